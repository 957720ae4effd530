/-! a line: in the abstract, the class's, the reference's -/
def zp_line (tn : Nat → Nat) (ts : Nat → Int32) (tp : Nat → Nat) (tv : Nat → Int64) (k D Mn Gn Un bg : Nat) (l : Nat → Nat → Int32) (S : Nat → Int64) : (Nat × (Nat × Nat × Nat × Nat × Nat) × (Nat → Nat → Int32) × (Nat → Int64)) ⊕ (Int32 × Nat) :=
  if zr_lineOf (ts k) zk_lw (tv k) = -1 then .inr (1, tp k) else if zr_lineOf (ts k) zk_lw (tv k) = nI 0 then (if bg = 0 then zp_levelL tn ts tp tv (tn k) D Mn Gn Un l S else .inr (3, tp k)) else if bg = 0 then .inr (6, tp k) else if zr_lineOf (ts k) zk_lw (tv k) = nI 1 then (if D < 8 then zp_dangerL tn ts tp tv (tn k) D Mn Gn Un l S else .inr (5, tp k)) else if zr_lineOf (ts k) zk_lw (tv k) = nI 2 then (if Mn < 5 then zp_makerL tn ts tp tv (tn k) D Mn Gn Un l S else .inr (5, tp k)) else if zr_lineOf (ts k) zk_lw (tv k) = nI 3 then (if Gn < 4 then zp_goodL tn ts tp tv (tn k) D Mn Gn Un l S else .inr (5, tp k)) else if zr_lineOf (ts k) zk_lw (tv k) = nI 4 then (zp_inL tn ts tp tv (tn k) D Mn Gn Un l S) else if zr_lineOf (ts k) zk_lw (tv k) = nI 5 then (if Un < 4 then zp_unsureL tn ts tp tv (tn k) D Mn Gn Un l S else .inr (5, tp k)) else (zp_befellL tn ts tp tv (tn k) D Mn Gn Un l S)
theorem zp_line_n {tn : Nat → Nat} {ts : Nat → Int32} {tp : Nat → Nat} {tv : Nat → Int64} {k D Mn Gn Un bg : Nat} {l : Nat → Nat → Int32} {S : Nat → Int64} (h : zr_lineOf (ts k) zk_lw (tv k) = -1) : zp_line tn ts tp tv k D Mn Gn Un bg l S = .inr (1, tp k) := by
  unfold zp_line; rw [if_pos h]
theorem zp_line_0 {tn : Nat → Nat} {ts : Nat → Int32} {tp : Nat → Nat} {tv : Nat → Int64} {k D Mn Gn Un bg : Nat} {l : Nat → Nat → Int32} {S : Nat → Int64} (h : zr_lineOf (ts k) zk_lw (tv k) = nI 0) : zp_line tn ts tp tv k D Mn Gn Un bg l S = if bg = 0 then zp_levelL tn ts tp tv (tn k) D Mn Gn Un l S else .inr (3, tp k) := by
  unfold zp_line; rw [if_neg (show ¬ zr_lineOf (ts k) zk_lw (tv k) = -1 by rw [h]; decide), if_pos h]
theorem zp_line_1 {tn : Nat → Nat} {ts : Nat → Int32} {tp : Nat → Nat} {tv : Nat → Int64} {k D Mn Gn Un bg : Nat} {l : Nat → Nat → Int32} {S : Nat → Int64} (h : zr_lineOf (ts k) zk_lw (tv k) = nI 1) (hb : ¬ bg = 0) : zp_line tn ts tp tv k D Mn Gn Un bg l S = if D < 8 then zp_dangerL tn ts tp tv (tn k) D Mn Gn Un l S else .inr (5, tp k) := by
  unfold zp_line; rw [if_neg (show ¬ zr_lineOf (ts k) zk_lw (tv k) = -1 by rw [h]; decide), if_neg (show ¬ zr_lineOf (ts k) zk_lw (tv k) = nI 0 by rw [h]; decide), if_neg hb, if_pos h]
theorem zp_line_2 {tn : Nat → Nat} {ts : Nat → Int32} {tp : Nat → Nat} {tv : Nat → Int64} {k D Mn Gn Un bg : Nat} {l : Nat → Nat → Int32} {S : Nat → Int64} (h : zr_lineOf (ts k) zk_lw (tv k) = nI 2) (hb : ¬ bg = 0) : zp_line tn ts tp tv k D Mn Gn Un bg l S = if Mn < 5 then zp_makerL tn ts tp tv (tn k) D Mn Gn Un l S else .inr (5, tp k) := by
  unfold zp_line; rw [if_neg (show ¬ zr_lineOf (ts k) zk_lw (tv k) = -1 by rw [h]; decide), if_neg (show ¬ zr_lineOf (ts k) zk_lw (tv k) = nI 0 by rw [h]; decide), if_neg hb, if_neg (show ¬ zr_lineOf (ts k) zk_lw (tv k) = nI 1 by rw [h]; decide), if_pos h]
theorem zp_line_3 {tn : Nat → Nat} {ts : Nat → Int32} {tp : Nat → Nat} {tv : Nat → Int64} {k D Mn Gn Un bg : Nat} {l : Nat → Nat → Int32} {S : Nat → Int64} (h : zr_lineOf (ts k) zk_lw (tv k) = nI 3) (hb : ¬ bg = 0) : zp_line tn ts tp tv k D Mn Gn Un bg l S = if Gn < 4 then zp_goodL tn ts tp tv (tn k) D Mn Gn Un l S else .inr (5, tp k) := by
  unfold zp_line; rw [if_neg (show ¬ zr_lineOf (ts k) zk_lw (tv k) = -1 by rw [h]; decide), if_neg (show ¬ zr_lineOf (ts k) zk_lw (tv k) = nI 0 by rw [h]; decide), if_neg hb, if_neg (show ¬ zr_lineOf (ts k) zk_lw (tv k) = nI 1 by rw [h]; decide), if_neg (show ¬ zr_lineOf (ts k) zk_lw (tv k) = nI 2 by rw [h]; decide), if_pos h]
theorem zp_line_4 {tn : Nat → Nat} {ts : Nat → Int32} {tp : Nat → Nat} {tv : Nat → Int64} {k D Mn Gn Un bg : Nat} {l : Nat → Nat → Int32} {S : Nat → Int64} (h : zr_lineOf (ts k) zk_lw (tv k) = nI 4) (hb : ¬ bg = 0) : zp_line tn ts tp tv k D Mn Gn Un bg l S = zp_inL tn ts tp tv (tn k) D Mn Gn Un l S := by
  unfold zp_line; rw [if_neg (show ¬ zr_lineOf (ts k) zk_lw (tv k) = -1 by rw [h]; decide), if_neg (show ¬ zr_lineOf (ts k) zk_lw (tv k) = nI 0 by rw [h]; decide), if_neg hb, if_neg (show ¬ zr_lineOf (ts k) zk_lw (tv k) = nI 1 by rw [h]; decide), if_neg (show ¬ zr_lineOf (ts k) zk_lw (tv k) = nI 2 by rw [h]; decide), if_neg (show ¬ zr_lineOf (ts k) zk_lw (tv k) = nI 3 by rw [h]; decide), if_pos h]
theorem zp_line_5 {tn : Nat → Nat} {ts : Nat → Int32} {tp : Nat → Nat} {tv : Nat → Int64} {k D Mn Gn Un bg : Nat} {l : Nat → Nat → Int32} {S : Nat → Int64} (h : zr_lineOf (ts k) zk_lw (tv k) = nI 5) (hb : ¬ bg = 0) : zp_line tn ts tp tv k D Mn Gn Un bg l S = if Un < 4 then zp_unsureL tn ts tp tv (tn k) D Mn Gn Un l S else .inr (5, tp k) := by
  unfold zp_line; rw [if_neg (show ¬ zr_lineOf (ts k) zk_lw (tv k) = -1 by rw [h]; decide), if_neg (show ¬ zr_lineOf (ts k) zk_lw (tv k) = nI 0 by rw [h]; decide), if_neg hb, if_neg (show ¬ zr_lineOf (ts k) zk_lw (tv k) = nI 1 by rw [h]; decide), if_neg (show ¬ zr_lineOf (ts k) zk_lw (tv k) = nI 2 by rw [h]; decide), if_neg (show ¬ zr_lineOf (ts k) zk_lw (tv k) = nI 3 by rw [h]; decide), if_neg (show ¬ zr_lineOf (ts k) zk_lw (tv k) = nI 4 by rw [h]; decide), if_pos h]
theorem zp_line_6 {tn : Nat → Nat} {ts : Nat → Int32} {tp : Nat → Nat} {tv : Nat → Int64} {k D Mn Gn Un bg : Nat} {l : Nat → Nat → Int32} {S : Nat → Int64} (h : zr_lineOf (ts k) zk_lw (tv k) = nI 6) (hb : ¬ bg = 0) : zp_line tn ts tp tv k D Mn Gn Un bg l S = zp_befellL tn ts tp tv (tn k) D Mn Gn Un l S := by
  unfold zp_line; rw [if_neg (show ¬ zr_lineOf (ts k) zk_lw (tv k) = -1 by rw [h]; decide), if_neg (show ¬ zr_lineOf (ts k) zk_lw (tv k) = nI 0 by rw [h]; decide), if_neg hb, if_neg (show ¬ zr_lineOf (ts k) zk_lw (tv k) = nI 1 by rw [h]; decide), if_neg (show ¬ zr_lineOf (ts k) zk_lw (tv k) = nI 2 by rw [h]; decide), if_neg (show ¬ zr_lineOf (ts k) zk_lw (tv k) = nI 3 by rw [h]; decide), if_neg (show ¬ zr_lineOf (ts k) zk_lw (tv k) = nI 4 by rw [h]; decide), if_neg (show ¬ zr_lineOf (ts k) zk_lw (tv k) = nI 5 by rw [h]; decide)]
theorem zp_line_u {tn : Nat → Nat} {ts : Nat → Int32} {tp : Nat → Nat} {tv : Nat → Int64} {k D Mn Gn Un bg : Nat} {l : Nat → Nat → Int32} {S : Nat → Int64} {j : Nat} (hj : j < 7) (hj0 : ¬ j = 0) (h : zr_lineOf (ts k) zk_lw (tv k) = nI j) (hb : bg = 0) : zp_line tn ts tp tv k D Mn Gn Un bg l S = .inr (6, tp k) := by
  unfold zp_line
  rw [h, if_neg (fun z => absurd (show nI j < 0 by rw [z]; decide) (nI_pos (by omega))), if_neg (fun z => hj0 ((nI_eq (by omega) (by decide)).mp z)), if_pos hb]
theorem zFr.trans {v v1 v2 : Nat → Nat → Int32} {w w1 w2 : Nat → Nat → Int64} (h1 : zFr v w v1 w1) (h2 : zFr v1 w1 v2 w2) : zFr v w v2 w2 := ⟨fun r hr => (h2.1 r hr).trans (h1.1 r hr), h2.2.1.trans h1.2.1, h2.2.2.1.trans h1.2.2.1, h2.2.2.2.1.trans h1.2.2.2.1, fun r a b => (h2.2.2.2.2.1 r a b).trans (h1.2.2.2.2.1 r a b), h2.2.2.2.2.2⟩
theorem zQ.trans {tn : Nat → Nat} {ts : Nat → Int32} {tp : Nat → Nat} {tv : Nat → Int64} {E : Nat} {t : zk_H} {v v1 : Nat → Nat → Int32} {w w1 : Nat → Nat → Int64} {res : (Nat × (Nat × Nat × Nat × Nat × Nat) × (Nat → Nat → Int32) × (Nat → Int64)) ⊕ (Int32 × Nat)} {q : Option Value × zk_H} (h1 : zFr v w v1 w1) (h9 : v1 1 9 = v 1 9) (h : zQ tn ts tp tv E t v1 w1 res q) : zQ tn ts tp tv E t v w res q := by
  obtain ⟨v', w', hf, hm⟩ := h
  refine ⟨v', w', h1.trans hf, ?_⟩
  match res, hm with
  | .inl (k, (D, Mn, Gn, Un, bg), l, S), hm => exact ⟨hm.1, hm.2.1.trans h9, hm.2.2⟩
  | .inr (f, p), hm => exact hm
theorem zQ_val {tn : Nat → Nat} {ts : Nat → Int32} {tp : Nat → Nat} {tv : Nat → Int64} {E : Nat} {t : zk_H} {v : Nat → Nat → Int32} {w : Nat → Nat → Int64} {res : (Nat × (Nat × Nat × Nat × Nat × Nat) × (Nat → Nat → Int32) × (Nat → Int64)) ⊕ (Int32 × Nat)} {r : Option Value} {h : zk_H} (hq : zQ tn ts tp tv E t v w res (r, h)) : ∃ b : Int32, (b = 0 ∨ b = 1) ∧ r = some (.int b) := by
  obtain ⟨v', w', hf, hm⟩ := hq
  match res, hm with
  | .inl (k, (D, Mn, Gn, Un, bg), l, S), hm => exact ⟨1, Or.inr rfl, congrArg Prod.fst hm.1⟩
  | .inr (f, p), hm => exact ⟨0, Or.inl rfl, congrArg Prod.fst hm.1⟩
section Z65A
variable {Ls : Nat} {xs : Nat → Int32} {v : Nat → Nat → Int32} {w : Nat → Nat → Int64} {t : zk_H}
variable {tn : Nat → Nat} {ts : Nat → Int32} {tp : Nat → Nat} {tv : Nat → Int64} {E : Nat} {bb : Nat → Int32}
/-- BasketKeep$Reader.isFull -/
theorem zs_full0_0  : zk_Cr zk_mt zk_ex Ls xs 10 [.ref 1, .int 0] (zH v w t) (some (.int 0), zH v w t) := by
  refine zk_Cr.of (K := zm_10) rfl rfl rfl ?_
  show zk_T zk_mt zk_ex Ls xs zm_10 (0, [(0, .ref 1), (1, .int 0)], []) (zH v w t) _
  refine zk_T.adv 1 (f' := (1, [(0, .ref 1), (1, .int 0)], [.int 0])) (h' := zH v w t) rfl ?_
  refine zk_T.adv 2 (f' := (106, [(0, .ref 1), (1, .int 0)], [.int 0])) (h' := zH v w t) rfl ?_
  exact zk_T.rt rfl rfl (by rfl)
/-- BasketKeep$Reader.isFull -/
theorem zs_full1_0 {N : Nat} (h : v 4 1 = nI N) (hc : N < 8) : zk_Cr zk_mt zk_ex Ls xs 10 [.ref 1, .int 1] (zH v w t) (some (.int 0), zH v w t) := by
  refine zk_Cr.of (K := zm_10) rfl rfl rfl ?_
  show zk_T zk_mt zk_ex Ls xs zm_10 (0, [(0, .ref 1), (1, .int 1)], []) (zH v w t) _
  refine zk_T.adv 1 (f' := (1, [(0, .ref 1), (1, .int 1)], [.int 1])) (h' := zH v w t) rfl ?_
  refine zk_T.adv 4 (f' := (43, [(0, .ref 1), (1, .int 1)], [.int (v 4 1)])) (h' := zH v w t) rfl ?_
  rw [show (v 4 1) = nI N from h]
  refine zk_T.adv 1 (f' := (45, [(0, .ref 1), (1, .int 1)], [.int 8, .int (nI N)])) (h' := zH v w t) rfl ?_
  refine zk_T.br (f1 := (52, [(0, .ref 1), (1, .int 1)], [])) (f2 := (48, [(0, .ref 1), (1, .int 1)], [])) rfl (fun c1 => ?_) (fun c1 => absurd (show nI N < (8 : Int32) from nI_lt (b := 8) hc (by decide)) (of_decide_eq_false c1))
  refine zk_T.adv 1 (f' := (53, [(0, .ref 1), (1, .int 1)], [.int 0])) (h' := zH v w t) rfl ?_
  exact zk_T.rt rfl rfl (by rfl)
/-- BasketKeep$Reader.isFull -/
theorem zs_full1_1 {N : Nat} (h : v 4 1 = nI N) (hc : ¬ N < 8) (hN : N ≤ 8) : zk_Cr zk_mt zk_ex Ls xs 10 [.ref 1, .int 1] (zH v w t) (some (.int 1), zH v w t) := by
  refine zk_Cr.of (K := zm_10) rfl rfl rfl ?_
  show zk_T zk_mt zk_ex Ls xs zm_10 (0, [(0, .ref 1), (1, .int 1)], []) (zH v w t) _
  refine zk_T.adv 1 (f' := (1, [(0, .ref 1), (1, .int 1)], [.int 1])) (h' := zH v w t) rfl ?_
  refine zk_T.adv 4 (f' := (43, [(0, .ref 1), (1, .int 1)], [.int (v 4 1)])) (h' := zH v w t) rfl ?_
  rw [show (v 4 1) = nI N from h]
  refine zk_T.adv 1 (f' := (45, [(0, .ref 1), (1, .int 1)], [.int 8, .int (nI N)])) (h' := zH v w t) rfl ?_
  refine zk_T.br (f1 := (52, [(0, .ref 1), (1, .int 1)], [])) (f2 := (48, [(0, .ref 1), (1, .int 1)], [])) rfl (fun c1 => absurd (of_decide_eq_true c1) (show ¬ nI N < (8 : Int32) from nI_nlt (b := 8) (by omega) (by omega))) (fun c1 => ?_)
  refine zk_T.adv 2 (f' := (53, [(0, .ref 1), (1, .int 1)], [.int 1])) (h' := zH v w t) rfl ?_
  exact zk_T.rt rfl rfl (by rfl)
/-- BasketKeep$Reader.isFull -/
theorem zs_full2_0 {N : Nat} (h : v 4 4 = nI N) (hc : N < 5) : zk_Cr zk_mt zk_ex Ls xs 10 [.ref 1, .int 2] (zH v w t) (some (.int 0), zH v w t) := by
  refine zk_Cr.of (K := zm_10) rfl rfl rfl ?_
  show zk_T zk_mt zk_ex Ls xs zm_10 (0, [(0, .ref 1), (1, .int 2)], []) (zH v w t) _
  refine zk_T.adv 1 (f' := (1, [(0, .ref 1), (1, .int 2)], [.int 2])) (h' := zH v w t) rfl ?_
  refine zk_T.adv 4 (f' := (61, [(0, .ref 1), (1, .int 2)], [.int (v 4 4)])) (h' := zH v w t) rfl ?_
  rw [show (v 4 4) = nI N from h]
  refine zk_T.adv 1 (f' := (62, [(0, .ref 1), (1, .int 2)], [.int 5, .int (nI N)])) (h' := zH v w t) rfl ?_
  refine zk_T.br (f1 := (69, [(0, .ref 1), (1, .int 2)], [])) (f2 := (65, [(0, .ref 1), (1, .int 2)], [])) rfl (fun c1 => ?_) (fun c1 => absurd (show nI N < (5 : Int32) from nI_lt (b := 5) hc (by decide)) (of_decide_eq_false c1))
  refine zk_T.adv 1 (f' := (70, [(0, .ref 1), (1, .int 2)], [.int 0])) (h' := zH v w t) rfl ?_
  exact zk_T.rt rfl rfl (by rfl)
/-- BasketKeep$Reader.isFull -/
theorem zs_full2_1 {N : Nat} (h : v 4 4 = nI N) (hc : ¬ N < 5) (hN : N ≤ 8) : zk_Cr zk_mt zk_ex Ls xs 10 [.ref 1, .int 2] (zH v w t) (some (.int 1), zH v w t) := by
  refine zk_Cr.of (K := zm_10) rfl rfl rfl ?_
  show zk_T zk_mt zk_ex Ls xs zm_10 (0, [(0, .ref 1), (1, .int 2)], []) (zH v w t) _
  refine zk_T.adv 1 (f' := (1, [(0, .ref 1), (1, .int 2)], [.int 2])) (h' := zH v w t) rfl ?_
  refine zk_T.adv 4 (f' := (61, [(0, .ref 1), (1, .int 2)], [.int (v 4 4)])) (h' := zH v w t) rfl ?_
  rw [show (v 4 4) = nI N from h]
  refine zk_T.adv 1 (f' := (62, [(0, .ref 1), (1, .int 2)], [.int 5, .int (nI N)])) (h' := zH v w t) rfl ?_
  refine zk_T.br (f1 := (69, [(0, .ref 1), (1, .int 2)], [])) (f2 := (65, [(0, .ref 1), (1, .int 2)], [])) rfl (fun c1 => absurd (of_decide_eq_true c1) (show ¬ nI N < (5 : Int32) from nI_nlt (b := 5) (by omega) (by omega))) (fun c1 => ?_)
  refine zk_T.adv 2 (f' := (70, [(0, .ref 1), (1, .int 2)], [.int 1])) (h' := zH v w t) rfl ?_
  exact zk_T.rt rfl rfl (by rfl)
/-- BasketKeep$Reader.isFull -/
theorem zs_full3_0 {N : Nat} (h : v 4 8 = nI N) (hc : N < 4) : zk_Cr zk_mt zk_ex Ls xs 10 [.ref 1, .int 3] (zH v w t) (some (.int 0), zH v w t) := by
  refine zk_Cr.of (K := zm_10) rfl rfl rfl ?_
  show zk_T zk_mt zk_ex Ls xs zm_10 (0, [(0, .ref 1), (1, .int 3)], []) (zH v w t) _
  refine zk_T.adv 1 (f' := (1, [(0, .ref 1), (1, .int 3)], [.int 3])) (h' := zH v w t) rfl ?_
  refine zk_T.adv 4 (f' := (78, [(0, .ref 1), (1, .int 3)], [.int (v 4 8)])) (h' := zH v w t) rfl ?_
  rw [show (v 4 8) = nI N from h]
  refine zk_T.adv 1 (f' := (79, [(0, .ref 1), (1, .int 3)], [.int 4, .int (nI N)])) (h' := zH v w t) rfl ?_
  refine zk_T.br (f1 := (86, [(0, .ref 1), (1, .int 3)], [])) (f2 := (82, [(0, .ref 1), (1, .int 3)], [])) rfl (fun c1 => ?_) (fun c1 => absurd (show nI N < (4 : Int32) from nI_lt (b := 4) hc (by decide)) (of_decide_eq_false c1))
  refine zk_T.adv 1 (f' := (87, [(0, .ref 1), (1, .int 3)], [.int 0])) (h' := zH v w t) rfl ?_
  exact zk_T.rt rfl rfl (by rfl)
/-- BasketKeep$Reader.isFull -/
theorem zs_full3_1 {N : Nat} (h : v 4 8 = nI N) (hc : ¬ N < 4) (hN : N ≤ 8) : zk_Cr zk_mt zk_ex Ls xs 10 [.ref 1, .int 3] (zH v w t) (some (.int 1), zH v w t) := by
  refine zk_Cr.of (K := zm_10) rfl rfl rfl ?_
  show zk_T zk_mt zk_ex Ls xs zm_10 (0, [(0, .ref 1), (1, .int 3)], []) (zH v w t) _
  refine zk_T.adv 1 (f' := (1, [(0, .ref 1), (1, .int 3)], [.int 3])) (h' := zH v w t) rfl ?_
  refine zk_T.adv 4 (f' := (78, [(0, .ref 1), (1, .int 3)], [.int (v 4 8)])) (h' := zH v w t) rfl ?_
  rw [show (v 4 8) = nI N from h]
  refine zk_T.adv 1 (f' := (79, [(0, .ref 1), (1, .int 3)], [.int 4, .int (nI N)])) (h' := zH v w t) rfl ?_
  refine zk_T.br (f1 := (86, [(0, .ref 1), (1, .int 3)], [])) (f2 := (82, [(0, .ref 1), (1, .int 3)], [])) rfl (fun c1 => absurd (of_decide_eq_true c1) (show ¬ nI N < (4 : Int32) from nI_nlt (b := 4) (by omega) (by omega))) (fun c1 => ?_)
  refine zk_T.adv 2 (f' := (87, [(0, .ref 1), (1, .int 3)], [.int 1])) (h' := zH v w t) rfl ?_
  exact zk_T.rt rfl rfl (by rfl)
/-- BasketKeep$Reader.isFull -/
theorem zs_full4_0  : zk_Cr zk_mt zk_ex Ls xs 10 [.ref 1, .int 4] (zH v w t) (some (.int 0), zH v w t) := by
  refine zk_Cr.of (K := zm_10) rfl rfl rfl ?_
  show zk_T zk_mt zk_ex Ls xs zm_10 (0, [(0, .ref 1), (1, .int 4)], []) (zH v w t) _
  refine zk_T.adv 1 (f' := (1, [(0, .ref 1), (1, .int 4)], [.int 4])) (h' := zH v w t) rfl ?_
  refine zk_T.adv 2 (f' := (106, [(0, .ref 1), (1, .int 4)], [.int 0])) (h' := zH v w t) rfl ?_
  exact zk_T.rt rfl rfl (by rfl)
/-- BasketKeep$Reader.isFull -/
theorem zs_full5_0 {N : Nat} (h : v 4 14 = nI N) (hc : N < 4) : zk_Cr zk_mt zk_ex Ls xs 10 [.ref 1, .int 5] (zH v w t) (some (.int 0), zH v w t) := by
  refine zk_Cr.of (K := zm_10) rfl rfl rfl ?_
  show zk_T zk_mt zk_ex Ls xs zm_10 (0, [(0, .ref 1), (1, .int 5)], []) (zH v w t) _
  refine zk_T.adv 1 (f' := (1, [(0, .ref 1), (1, .int 5)], [.int 5])) (h' := zH v w t) rfl ?_
  refine zk_T.adv 4 (f' := (95, [(0, .ref 1), (1, .int 5)], [.int (v 4 14)])) (h' := zH v w t) rfl ?_
  rw [show (v 4 14) = nI N from h]
  refine zk_T.adv 1 (f' := (96, [(0, .ref 1), (1, .int 5)], [.int 4, .int (nI N)])) (h' := zH v w t) rfl ?_
  refine zk_T.br (f1 := (103, [(0, .ref 1), (1, .int 5)], [])) (f2 := (99, [(0, .ref 1), (1, .int 5)], [])) rfl (fun c1 => ?_) (fun c1 => absurd (show nI N < (4 : Int32) from nI_lt (b := 4) hc (by decide)) (of_decide_eq_false c1))
  refine zk_T.adv 1 (f' := (104, [(0, .ref 1), (1, .int 5)], [.int 0])) (h' := zH v w t) rfl ?_
  exact zk_T.rt rfl rfl (by rfl)
/-- BasketKeep$Reader.isFull -/
theorem zs_full5_1 {N : Nat} (h : v 4 14 = nI N) (hc : ¬ N < 4) (hN : N ≤ 8) : zk_Cr zk_mt zk_ex Ls xs 10 [.ref 1, .int 5] (zH v w t) (some (.int 1), zH v w t) := by
  refine zk_Cr.of (K := zm_10) rfl rfl rfl ?_
  show zk_T zk_mt zk_ex Ls xs zm_10 (0, [(0, .ref 1), (1, .int 5)], []) (zH v w t) _
  refine zk_T.adv 1 (f' := (1, [(0, .ref 1), (1, .int 5)], [.int 5])) (h' := zH v w t) rfl ?_
  refine zk_T.adv 4 (f' := (95, [(0, .ref 1), (1, .int 5)], [.int (v 4 14)])) (h' := zH v w t) rfl ?_
  rw [show (v 4 14) = nI N from h]
  refine zk_T.adv 1 (f' := (96, [(0, .ref 1), (1, .int 5)], [.int 4, .int (nI N)])) (h' := zH v w t) rfl ?_
  refine zk_T.br (f1 := (103, [(0, .ref 1), (1, .int 5)], [])) (f2 := (99, [(0, .ref 1), (1, .int 5)], [])) rfl (fun c1 => absurd (of_decide_eq_true c1) (show ¬ nI N < (4 : Int32) from nI_nlt (b := 4) (by omega) (by omega))) (fun c1 => ?_)
  refine zk_T.adv 2 (f' := (104, [(0, .ref 1), (1, .int 5)], [.int 1])) (h' := zH v w t) rfl ?_
  exact zk_T.rt rfl rfl (by rfl)
/-- BasketKeep$Reader.isFull -/
theorem zs_full6_0  : zk_Cr zk_mt zk_ex Ls xs 10 [.ref 1, .int 6] (zH v w t) (some (.int 0), zH v w t) := by
  refine zk_Cr.of (K := zm_10) rfl rfl rfl ?_
  show zk_T zk_mt zk_ex Ls xs zm_10 (0, [(0, .ref 1), (1, .int 6)], []) (zH v w t) _
  refine zk_T.adv 1 (f' := (1, [(0, .ref 1), (1, .int 6)], [.int 6])) (h' := zH v w t) rfl ?_
  refine zk_T.adv 2 (f' := (106, [(0, .ref 1), (1, .int 6)], [.int 0])) (h' := zH v w t) rfl ?_
  exact zk_T.rt rfl rfl (by rfl)
/-- BasketKeep$Reader.readLine -/
theorem zc_line (hA : zk_Adv Ls xs tn ts tp tv E bb) (hE : v 2 2 = nI E) (hb : v 3 = bb) (hT : zt_ok tn ts tv E) (hw : ∀ j, j < 7 → w 16 j = zk_lw j) (h7 : ∀ e, e < 5 → v 7 e = 0 ∨ v 7 e = 1 ∨ v 7 e = 2) {k D Mn Gn Un bg : Nat} {l : Nat → Nat → Int32} {S : Nat → Int64} (hC : zCls tn ts tp tv E k D Mn Gn Un bg l S v w) (hb01 : bg = 0 ∨ bg = 1) : ∃ q, zk_Cr zk_mt zk_ex Ls xs 296 [.ref 1] (zH v w t) q ∧ zQ tn ts tp tv E t v w (zp_line tn ts tp tv k D Mn Gn Un bg l S) q := by
  have ev := zCls_v hC
  have ew := zCls_w hC
  have main : ∃ q, zk_Cr zk_mt zk_ex Ls xs 296 [.ref 1] (zH (zb (zb v 1 (upd (v 1) 7 (nI (D + Mn + Gn)))) 2 (upd (upd (upd (v 2) 3 (nI (tn k))) 4 (ts k)) 5 (nI (tp k)))) (zb w 2 (vp_updL (w 2) 6 (tv k))) t) q ∧ zQ tn ts tp tv E t v w (zp_line tn ts tp tv k D Mn Gn Un bg l S) q := by
    obtain ⟨⟨hk, _⟩, _, hN, h12, ⟨h41, h44, h48, h414⟩, hU4, hl⟩ := hC
    have hN1 := hN.1
    refine zx.of (K := zm_296) rfl rfl rfl ?_
    show zx zk_mt zk_ex Ls xs zm_296 (0, [(0, .ref 1)], []) (zH (zb (zb v 1 (upd (v 1) 7 (nI (D + Mn + Gn)))) 2 (upd (upd (upd (v 2) 3 (nI (tn k))) 4 (ts k)) 5 (nI (tp k)))) (zb w 2 (vp_updL (w 2) 6 (tv k))) t) _
    rcases zr_lineOf_is (ts k) (tv k) with ⟨h2, j, hj7, hjv, hj, _⟩ | ⟨_, hj, _⟩
    · rcases (show j = 0 ∨ j = 1 ∨ j = 2 ∨ j = 3 ∨ j = 4 ∨ j = 5 ∨ j = 6 by omega) with rfl | rfl | rfl | rfl | rfl | rfl | rfl
      · have hj : zr_lineOf (ts k) zk_lw (tv k) = nI 0 := hj
        rcases hb01 with hbg | hbg
        · have h12x : v 1 2 = 0 := by rw [h12, hbg]; rfl
          have hline : zp_line tn ts tp tv k D Mn Gn Un bg l S = zp_levelL tn ts tp tv (tn k) D Mn Gn Un l S := by rw [zp_line_0 hj, if_pos hbg]
          refine zx.adv 1 (f' := (1, [(0, .ref 1)], [.ref 1])) (h' := zH (zb (zb v 1 (upd (v 1) 7 (nI (D + Mn + Gn)))) 2 (upd (upd (upd (v 2) 3 (nI (tn k))) 4 (ts k)) 5 (nI (tp k)))) (zb w 2 (vp_updL (w 2) 6 (tv k))) t) rfl ?_
          refine zx.cl (v := some (.int 0)) (h' := zH (zb (zb v 1 (upd (v 1) 7 (nI (D + Mn + Gn)))) 2 (upd (upd (upd (v 2) 3 (nI (tn k))) 4 (ts k)) 5 (nI (tp k)))) (zb w 2 (vp_updL (w 2) 6 (tv k))) t) rfl (by have ee := zs_lineOf (v := (zb (zb v 1 (upd (v 1) 7 (nI (D + Mn + Gn)))) 2 (upd (upd (upd (v 2) 3 (nI (tn k))) 4 (ts k)) 5 (nI (tp k))))) (w := (zb w 2 (vp_updL (w 2) 6 (tv k)))) (t := t) (Ls := Ls) (xs := xs); rw [show zr_lineOf ((zb (zb v 1 (upd (v 1) 7 (nI (D + Mn + Gn)))) 2 (upd (upd (upd (v 2) 3 (nI (tn k))) 4 (ts k)) 5 (nI (tp k)))) 2 4) ((zb w 2 (vp_updL (w 2) 6 (tv k))) 16) ((zb w 2 (vp_updL (w 2) 6 (tv k))) 2 6) = nI 0 from (zr_lineOf_eq hw).trans hj] at ee; exact ee) ?_
          show zx zk_mt zk_ex Ls xs zm_296 (4, [(0, .ref 1)], [.int 0]) (zH (zb (zb v 1 (upd (v 1) 7 (nI (D + Mn + Gn)))) 2 (upd (upd (upd (v 2) 3 (nI (tn k))) 4 (ts k)) 5 (nI (tp k)))) (zb w 2 (vp_updL (w 2) 6 (tv k))) t) _
          refine zx.adv 3 (f' := (7, [(0, .ref 1), (1, .int 0)], [.int (-1), .int 0])) (h' := zH (zb (zb v 1 (upd (v 1) 7 (nI (D + Mn + Gn)))) 2 (upd (upd (upd (v 2) 3 (nI (tn k))) 4 (ts k)) 5 (nI (tp k)))) (zb w 2 (vp_updL (w 2) 6 (tv k))) t) rfl ?_
          refine zx.br (f1 := (10, [(0, .ref 1), (1, .int 0)], [])) (f2 := (16, [(0, .ref 1), (1, .int 0)], [])) rfl (fun c1 => absurd (of_decide_eq_true c1) (by decide)) (fun c1 => ?_)
          refine zx.adv 1 (f' := (17, [(0, .ref 1), (1, .int 0)], [.int 0])) (h' := zH (zb (zb v 1 (upd (v 1) 7 (nI (D + Mn + Gn)))) 2 (upd (upd (upd (v 2) 3 (nI (tn k))) 4 (ts k)) 5 (nI (tp k)))) (zb w 2 (vp_updL (w 2) 6 (tv k))) t) rfl ?_
          refine zx.br (f1 := (20, [(0, .ref 1), (1, .int 0)], [])) (f2 := (33, [(0, .ref 1), (1, .int 0)], [])) rfl (fun c2 => ?_) (fun c2 => absurd (by decide) (of_decide_eq_false c2))
          refine zx.adv 2 (f' := (24, [(0, .ref 1), (1, .int 0)], [.int (v 1 2)])) (h' := zH (zb (zb v 1 (upd (v 1) 7 (nI (D + Mn + Gn)))) 2 (upd (upd (upd (v 2) 3 (nI (tn k))) 4 (ts k)) 5 (nI (tp k)))) (zb w 2 (vp_updL (w 2) 6 (tv k))) t) rfl ?_
          rw [show (v 1 2) = 0 from h12x]
          refine zx.br (f1 := (33, [(0, .ref 1), (1, .int 0)], [])) (f2 := (27, [(0, .ref 1), (1, .int 0)], [])) rfl (fun c3 => ?_) (fun c3 => absurd (by decide) (of_decide_eq_false c3))
          refine zx.adv 1 (f' := (34, [(0, .ref 1), (1, .int 0)], [.int 0])) (h' := zH (zb (zb v 1 (upd (v 1) 7 (nI (D + Mn + Gn)))) 2 (upd (upd (upd (v 2) 3 (nI (tn k))) 4 (ts k)) 5 (nI (tp k)))) (zb w 2 (vp_updL (w 2) 6 (tv k))) t) rfl ?_
          refine zx.br (f1 := (51, [(0, .ref 1), (1, .int 0)], [])) (f2 := (37, [(0, .ref 1), (1, .int 0)], [])) rfl (fun c4 => ?_) (fun c4 => absurd (by decide) (of_decide_eq_false c4))
          refine zx.adv 2 (f' := (53, [(0, .ref 1), (1, .int 0)], [.int 0, .ref 1])) (h' := zH (zb (zb v 1 (upd (v 1) 7 (nI (D + Mn + Gn)))) 2 (upd (upd (upd (v 2) 3 (nI (tn k))) 4 (ts k)) 5 (nI (tp k)))) (zb w 2 (vp_updL (w 2) 6 (tv k))) t) rfl ?_
          refine zx.cl (v := some (.int 0)) (h' := zH (zb (zb v 1 (upd (v 1) 7 (nI (D + Mn + Gn)))) 2 (upd (upd (upd (v 2) 3 (nI (tn k))) 4 (ts k)) 5 (nI (tp k)))) (zb w 2 (vp_updL (w 2) 6 (tv k))) t) rfl (zs_full0_0 (v := (zb (zb v 1 (upd (v 1) 7 (nI (D + Mn + Gn)))) 2 (upd (upd (upd (v 2) 3 (nI (tn k))) 4 (ts k)) 5 (nI (tp k))))) (w := (zb w 2 (vp_updL (w 2) 6 (tv k))))) ?_
          show zx zk_mt zk_ex Ls xs zm_296 (56, [(0, .ref 1), (1, .int 0)], [.int 0]) (zH (zb (zb v 1 (upd (v 1) 7 (nI (D + Mn + Gn)))) 2 (upd (upd (upd (v 2) 3 (nI (tn k))) 4 (ts k)) 5 (nI (tp k)))) (zb w 2 (vp_updL (w 2) 6 (tv k))) t) _
          refine zx.br (f1 := (65, [(0, .ref 1), (1, .int 0)], [])) (f2 := (59, [(0, .ref 1), (1, .int 0)], [])) rfl (fun c5 => ?_) (fun c5 => absurd (by decide) (of_decide_eq_false c5))
          refine zx.adv 2 (f' := (69, [(0, .ref 1), (1, .int 0)], [.ref 2])) (h' := zH (zb (zb v 1 (upd (v 1) 7 (nI (D + Mn + Gn)))) 2 (upd (upd (upd (v 2) 3 (nI (tn k))) 4 (ts k)) 5 (nI (tp k)))) (zb w 2 (vp_updL (w 2) 6 (tv k))) t) rfl ?_
          refine zx.cl (v := none) (h' := zH (zb (zb v 1 (upd (v 1) 7 (nI (D + Mn + Gn)))) 2 (upd (upd (upd (v 2) 3 (nI (tn (tn k)))) 4 (ts (tn k))) 5 (nI (tp (tn k))))) (zb w 2 (vp_updL (w 2) 6 (tv (tn k)))) t) rfl (hA.2 (zb (zb v 1 (upd (v 1) 7 (nI (D + Mn + Gn)))) 2 (upd (upd (upd (v 2) 3 (nI (tn k))) 4 (ts k)) 5 (nI (tp k)))) (zb w 2 (vp_updL (w 2) 6 (tv k))) t k hb hE hk) ?_
          show zx zk_mt zk_ex Ls xs zm_296 (72, [(0, .ref 1), (1, .int 0)], []) (zH (zb (zb v 1 (upd (v 1) 7 (nI (D + Mn + Gn)))) 2 (upd (upd (upd (v 2) 3 (nI (tn (tn k)))) 4 (ts (tn k))) 5 (nI (tp (tn k))))) (zb w 2 (vp_updL (w 2) 6 (tv (tn k)))) t) _
          refine zx.adv 1 (f' := (73, [(0, .ref 1), (1, .int 0)], [.int 0])) (h' := zH (zb (zb v 1 (upd (v 1) 7 (nI (D + Mn + Gn)))) 2 (upd (upd (upd (v 2) 3 (nI (tn (tn k)))) 4 (ts (tn k))) 5 (nI (tp (tn k))))) (zb w 2 (vp_updL (w 2) 6 (tv (tn k)))) t) rfl ?_
          refine zx.adv 2 (f' := (113, [(0, .ref 1), (1, .int 0)], [.ref 1])) (h' := zH (zb (zb v 1 (upd (v 1) 7 (nI (D + Mn + Gn)))) 2 (upd (upd (upd (v 2) 3 (nI (tn (tn k)))) 4 (ts (tn k))) 5 (nI (tp (tn k))))) (zb w 2 (vp_updL (w 2) 6 (tv (tn k)))) t) rfl ?_
          refine zx.cx rfl (zc_levelL (v := (zb (zb v 1 (upd (v 1) 7 (nI (D + Mn + Gn)))) 2 (upd (upd (upd (v 2) 3 (nI (tn (tn k)))) 4 (ts (tn k))) 5 (nI (tp (tn k)))))) (w := (zb w 2 (vp_updL (w 2) 6 (tv (tn k))))) (t := t) hA hE hb hT hw h7 (show zCls tn ts tp tv E (tn k) D Mn Gn Un bg l S (zb (zb v 1 (upd (v 1) 7 (nI (D + Mn + Gn)))) 2 (upd (upd (upd (v 2) 3 (nI (tn (tn k)))) 4 (ts (tn k))) 5 (nI (tp (tn k))))) (zb w 2 (vp_updL (w 2) 6 (tv (tn k)))) from ⟨⟨hA.1 k hk, rfl, rfl, rfl, rfl⟩, rfl, hN, h12, ⟨h41, h44, h48, h414⟩, hU4, fun r a b => ((zb_un (k := 2) (by omega)).trans ((zb_un (k := 1) (by omega)).trans (hl r a b)))⟩)) (fun r h2 hp => ?_)
          obtain ⟨b, hb01, hr⟩ := zQ_val hp
          subst hr
          exact zx.rt rfl (decide_eq_true hb01) (zQ.trans (v1 := (zb (zb v 1 (upd (v 1) 7 (nI (D + Mn + Gn)))) 2 (upd (upd (upd (v 2) 3 (nI (tn (tn k)))) 4 (ts (tn k))) 5 (nI (tp (tn k)))))) (w1 := (zb w 2 (vp_updL (w 2) 6 (tv (tn k))))) ⟨fun r hr => (zb_un (k := 2) (by omega)).trans ((zb_un (k := 1) (by omega)).trans rfl), rfl, rfl, rfl, fun r h1 h2 => (zb_un (k := 2) (by omega)).trans rfl, h7⟩ rfl (by rw [hline]; exact hp))
        · have h12x : v 1 2 = 1 := by rw [h12, hbg]; rfl
          have hline : zp_line tn ts tp tv k D Mn Gn Un bg l S = .inr (3, tp k) := by rw [zp_line_0 hj, if_neg (by omega)]
          refine zx.adv 1 (f' := (1, [(0, .ref 1)], [.ref 1])) (h' := zH (zb (zb v 1 (upd (v 1) 7 (nI (D + Mn + Gn)))) 2 (upd (upd (upd (v 2) 3 (nI (tn k))) 4 (ts k)) 5 (nI (tp k)))) (zb w 2 (vp_updL (w 2) 6 (tv k))) t) rfl ?_
          refine zx.cl (v := some (.int 0)) (h' := zH (zb (zb v 1 (upd (v 1) 7 (nI (D + Mn + Gn)))) 2 (upd (upd (upd (v 2) 3 (nI (tn k))) 4 (ts k)) 5 (nI (tp k)))) (zb w 2 (vp_updL (w 2) 6 (tv k))) t) rfl (by have ee := zs_lineOf (v := (zb (zb v 1 (upd (v 1) 7 (nI (D + Mn + Gn)))) 2 (upd (upd (upd (v 2) 3 (nI (tn k))) 4 (ts k)) 5 (nI (tp k))))) (w := (zb w 2 (vp_updL (w 2) 6 (tv k)))) (t := t) (Ls := Ls) (xs := xs); rw [show zr_lineOf ((zb (zb v 1 (upd (v 1) 7 (nI (D + Mn + Gn)))) 2 (upd (upd (upd (v 2) 3 (nI (tn k))) 4 (ts k)) 5 (nI (tp k)))) 2 4) ((zb w 2 (vp_updL (w 2) 6 (tv k))) 16) ((zb w 2 (vp_updL (w 2) 6 (tv k))) 2 6) = nI 0 from (zr_lineOf_eq hw).trans hj] at ee; exact ee) ?_
          show zx zk_mt zk_ex Ls xs zm_296 (4, [(0, .ref 1)], [.int 0]) (zH (zb (zb v 1 (upd (v 1) 7 (nI (D + Mn + Gn)))) 2 (upd (upd (upd (v 2) 3 (nI (tn k))) 4 (ts k)) 5 (nI (tp k)))) (zb w 2 (vp_updL (w 2) 6 (tv k))) t) _
          refine zx.adv 3 (f' := (7, [(0, .ref 1), (1, .int 0)], [.int (-1), .int 0])) (h' := zH (zb (zb v 1 (upd (v 1) 7 (nI (D + Mn + Gn)))) 2 (upd (upd (upd (v 2) 3 (nI (tn k))) 4 (ts k)) 5 (nI (tp k)))) (zb w 2 (vp_updL (w 2) 6 (tv k))) t) rfl ?_
          refine zx.br (f1 := (10, [(0, .ref 1), (1, .int 0)], [])) (f2 := (16, [(0, .ref 1), (1, .int 0)], [])) rfl (fun c1 => absurd (of_decide_eq_true c1) (by decide)) (fun c1 => ?_)
          refine zx.adv 1 (f' := (17, [(0, .ref 1), (1, .int 0)], [.int 0])) (h' := zH (zb (zb v 1 (upd (v 1) 7 (nI (D + Mn + Gn)))) 2 (upd (upd (upd (v 2) 3 (nI (tn k))) 4 (ts k)) 5 (nI (tp k)))) (zb w 2 (vp_updL (w 2) 6 (tv k))) t) rfl ?_
          refine zx.br (f1 := (20, [(0, .ref 1), (1, .int 0)], [])) (f2 := (33, [(0, .ref 1), (1, .int 0)], [])) rfl (fun c2 => ?_) (fun c2 => absurd (by decide) (of_decide_eq_false c2))
          refine zx.adv 2 (f' := (24, [(0, .ref 1), (1, .int 0)], [.int (v 1 2)])) (h' := zH (zb (zb v 1 (upd (v 1) 7 (nI (D + Mn + Gn)))) 2 (upd (upd (upd (v 2) 3 (nI (tn k))) 4 (ts k)) 5 (nI (tp k)))) (zb w 2 (vp_updL (w 2) 6 (tv k))) t) rfl ?_
          rw [show (v 1 2) = 1 from h12x]
          refine zx.br (f1 := (33, [(0, .ref 1), (1, .int 0)], [])) (f2 := (27, [(0, .ref 1), (1, .int 0)], [])) rfl (fun c3 => absurd (of_decide_eq_true c3) (by decide)) (fun c3 => ?_)
          refine zx.adv 2 (f' := (29, [(0, .ref 1), (1, .int 0)], [.int 3, .ref 1])) (h' := zH (zb (zb v 1 (upd (v 1) 7 (nI (D + Mn + Gn)))) 2 (upd (upd (upd (v 2) 3 (nI (tn k))) 4 (ts k)) 5 (nI (tp k)))) (zb w 2 (vp_updL (w 2) 6 (tv k))) t) rfl ?_
          refine zx.cl (v := some (.int 0)) (h' := zH (zb (zb v 1 (upd (upd (upd (v 1) 7 (nI (D + Mn + Gn))) 9 3) 10 (nI (tp k)))) 2 (upd (upd (upd (v 2) 3 (nI (tn k))) 4 (ts k)) 5 (nI (tp k)))) (zb w 2 (vp_updL (w 2) 6 (tv k))) t) rfl (zs_fail (v := (zb (zb v 1 (upd (v 1) 7 (nI (D + Mn + Gn)))) 2 (upd (upd (upd (v 2) 3 (nI (tn k))) 4 (ts k)) 5 (nI (tp k))))) (w := (zb w 2 (vp_updL (w 2) 6 (tv k)))) 3) ?_
          show zx zk_mt zk_ex Ls xs zm_296 (32, [(0, .ref 1), (1, .int 0)], [.int 0]) (zH (zb (zb v 1 (upd (upd (upd (v 1) 7 (nI (D + Mn + Gn))) 9 3) 10 (nI (tp k)))) 2 (upd (upd (upd (v 2) 3 (nI (tn k))) 4 (ts k)) 5 (nI (tp k)))) (zb w 2 (vp_updL (w 2) 6 (tv k))) t) _
          exact zx.rt rfl rfl (zQ_no (v' := (zb (zb v 1 (upd (upd (upd (v 1) 7 (nI (D + Mn + Gn))) 9 3) 10 (nI (tp k)))) 2 (upd (upd (upd (v 2) 3 (nI (tn k))) 4 (ts k)) 5 (nI (tp k))))) (w' := (zb w 2 (vp_updL (w 2) 6 (tv k)))) (f := 3) (p := (tp k)) hline rfl rfl ⟨fun r hr => (zb_un (k := 2) (by omega)).trans ((zb_un (k := 1) (by omega)).trans rfl), rfl, rfl, rfl, fun r h1 h2 => (zb_un (k := 2) (by omega)).trans rfl, h7⟩)
      · have hj : zr_lineOf (ts k) zk_lw (tv k) = nI 1 := hj
        rcases hb01 with hbg | hbg
        · have h12x : v 1 2 = 0 := by rw [h12, hbg]; rfl
          have hline : zp_line tn ts tp tv k D Mn Gn Un bg l S = .inr (6, tp k) := zp_line_u (j := 1) (by decide) (by decide) hj hbg
          refine zx.adv 1 (f' := (1, [(0, .ref 1)], [.ref 1])) (h' := zH (zb (zb v 1 (upd (v 1) 7 (nI (D + Mn + Gn)))) 2 (upd (upd (upd (v 2) 3 (nI (tn k))) 4 (ts k)) 5 (nI (tp k)))) (zb w 2 (vp_updL (w 2) 6 (tv k))) t) rfl ?_
          refine zx.cl (v := some (.int 1)) (h' := zH (zb (zb v 1 (upd (v 1) 7 (nI (D + Mn + Gn)))) 2 (upd (upd (upd (v 2) 3 (nI (tn k))) 4 (ts k)) 5 (nI (tp k)))) (zb w 2 (vp_updL (w 2) 6 (tv k))) t) rfl (by have ee := zs_lineOf (v := (zb (zb v 1 (upd (v 1) 7 (nI (D + Mn + Gn)))) 2 (upd (upd (upd (v 2) 3 (nI (tn k))) 4 (ts k)) 5 (nI (tp k))))) (w := (zb w 2 (vp_updL (w 2) 6 (tv k)))) (t := t) (Ls := Ls) (xs := xs); rw [show zr_lineOf ((zb (zb v 1 (upd (v 1) 7 (nI (D + Mn + Gn)))) 2 (upd (upd (upd (v 2) 3 (nI (tn k))) 4 (ts k)) 5 (nI (tp k)))) 2 4) ((zb w 2 (vp_updL (w 2) 6 (tv k))) 16) ((zb w 2 (vp_updL (w 2) 6 (tv k))) 2 6) = nI 1 from (zr_lineOf_eq hw).trans hj] at ee; exact ee) ?_
          show zx zk_mt zk_ex Ls xs zm_296 (4, [(0, .ref 1)], [.int 1]) (zH (zb (zb v 1 (upd (v 1) 7 (nI (D + Mn + Gn)))) 2 (upd (upd (upd (v 2) 3 (nI (tn k))) 4 (ts k)) 5 (nI (tp k)))) (zb w 2 (vp_updL (w 2) 6 (tv k))) t) _
          refine zx.adv 3 (f' := (7, [(0, .ref 1), (1, .int 1)], [.int (-1), .int 1])) (h' := zH (zb (zb v 1 (upd (v 1) 7 (nI (D + Mn + Gn)))) 2 (upd (upd (upd (v 2) 3 (nI (tn k))) 4 (ts k)) 5 (nI (tp k)))) (zb w 2 (vp_updL (w 2) 6 (tv k))) t) rfl ?_
          refine zx.br (f1 := (10, [(0, .ref 1), (1, .int 1)], [])) (f2 := (16, [(0, .ref 1), (1, .int 1)], [])) rfl (fun c1 => absurd (of_decide_eq_true c1) (by decide)) (fun c1 => ?_)
          refine zx.adv 1 (f' := (17, [(0, .ref 1), (1, .int 1)], [.int 1])) (h' := zH (zb (zb v 1 (upd (v 1) 7 (nI (D + Mn + Gn)))) 2 (upd (upd (upd (v 2) 3 (nI (tn k))) 4 (ts k)) 5 (nI (tp k)))) (zb w 2 (vp_updL (w 2) 6 (tv k))) t) rfl ?_
          refine zx.br (f1 := (20, [(0, .ref 1), (1, .int 1)], [])) (f2 := (33, [(0, .ref 1), (1, .int 1)], [])) rfl (fun c2 => absurd (of_decide_eq_true c2) (by decide)) (fun c2 => ?_)
          refine zx.adv 1 (f' := (34, [(0, .ref 1), (1, .int 1)], [.int 1])) (h' := zH (zb (zb v 1 (upd (v 1) 7 (nI (D + Mn + Gn)))) 2 (upd (upd (upd (v 2) 3 (nI (tn k))) 4 (ts k)) 5 (nI (tp k)))) (zb w 2 (vp_updL (w 2) 6 (tv k))) t) rfl ?_
          refine zx.br (f1 := (51, [(0, .ref 1), (1, .int 1)], [])) (f2 := (37, [(0, .ref 1), (1, .int 1)], [])) rfl (fun c3 => absurd (of_decide_eq_true c3) (by decide)) (fun c3 => ?_)
          refine zx.adv 2 (f' := (41, [(0, .ref 1), (1, .int 1)], [.int (v 1 2)])) (h' := zH (zb (zb v 1 (upd (v 1) 7 (nI (D + Mn + Gn)))) 2 (upd (upd (upd (v 2) 3 (nI (tn k))) 4 (ts k)) 5 (nI (tp k)))) (zb w 2 (vp_updL (w 2) 6 (tv k))) t) rfl ?_
          rw [show (v 1 2) = 0 from h12x]
          refine zx.br (f1 := (44, [(0, .ref 1), (1, .int 1)], [])) (f2 := (51, [(0, .ref 1), (1, .int 1)], [])) rfl (fun c4 => ?_) (fun c4 => absurd (by decide) (of_decide_eq_false c4))
          refine zx.adv 2 (f' := (47, [(0, .ref 1), (1, .int 1)], [.int 6, .ref 1])) (h' := zH (zb (zb v 1 (upd (v 1) 7 (nI (D + Mn + Gn)))) 2 (upd (upd (upd (v 2) 3 (nI (tn k))) 4 (ts k)) 5 (nI (tp k)))) (zb w 2 (vp_updL (w 2) 6 (tv k))) t) rfl ?_
          refine zx.cl (v := some (.int 0)) (h' := zH (zb (zb v 1 (upd (upd (upd (v 1) 7 (nI (D + Mn + Gn))) 9 6) 10 (nI (tp k)))) 2 (upd (upd (upd (v 2) 3 (nI (tn k))) 4 (ts k)) 5 (nI (tp k)))) (zb w 2 (vp_updL (w 2) 6 (tv k))) t) rfl (zs_fail (v := (zb (zb v 1 (upd (v 1) 7 (nI (D + Mn + Gn)))) 2 (upd (upd (upd (v 2) 3 (nI (tn k))) 4 (ts k)) 5 (nI (tp k))))) (w := (zb w 2 (vp_updL (w 2) 6 (tv k)))) 6) ?_
          show zx zk_mt zk_ex Ls xs zm_296 (50, [(0, .ref 1), (1, .int 1)], [.int 0]) (zH (zb (zb v 1 (upd (upd (upd (v 1) 7 (nI (D + Mn + Gn))) 9 6) 10 (nI (tp k)))) 2 (upd (upd (upd (v 2) 3 (nI (tn k))) 4 (ts k)) 5 (nI (tp k)))) (zb w 2 (vp_updL (w 2) 6 (tv k))) t) _
          exact zx.rt rfl rfl (zQ_no (v' := (zb (zb v 1 (upd (upd (upd (v 1) 7 (nI (D + Mn + Gn))) 9 6) 10 (nI (tp k)))) 2 (upd (upd (upd (v 2) 3 (nI (tn k))) 4 (ts k)) 5 (nI (tp k))))) (w' := (zb w 2 (vp_updL (w 2) 6 (tv k)))) (f := 6) (p := (tp k)) hline rfl rfl ⟨fun r hr => (zb_un (k := 2) (by omega)).trans ((zb_un (k := 1) (by omega)).trans rfl), rfl, rfl, rfl, fun r h1 h2 => (zb_un (k := 2) (by omega)).trans rfl, h7⟩)
        · have h12x : v 1 2 = 1 := by rw [h12, hbg]; rfl
          have hbg1 : bg = 1 := hbg
          by_cases hcap : D < 8
          · have hline : zp_line tn ts tp tv k D Mn Gn Un bg l S = zp_dangerL tn ts tp tv (tn k) D Mn Gn Un l S := by rw [zp_line_1 hj (by omega), if_pos hcap]
            refine zx.adv 1 (f' := (1, [(0, .ref 1)], [.ref 1])) (h' := zH (zb (zb v 1 (upd (v 1) 7 (nI (D + Mn + Gn)))) 2 (upd (upd (upd (v 2) 3 (nI (tn k))) 4 (ts k)) 5 (nI (tp k)))) (zb w 2 (vp_updL (w 2) 6 (tv k))) t) rfl ?_
            refine zx.cl (v := some (.int 1)) (h' := zH (zb (zb v 1 (upd (v 1) 7 (nI (D + Mn + Gn)))) 2 (upd (upd (upd (v 2) 3 (nI (tn k))) 4 (ts k)) 5 (nI (tp k)))) (zb w 2 (vp_updL (w 2) 6 (tv k))) t) rfl (by have ee := zs_lineOf (v := (zb (zb v 1 (upd (v 1) 7 (nI (D + Mn + Gn)))) 2 (upd (upd (upd (v 2) 3 (nI (tn k))) 4 (ts k)) 5 (nI (tp k))))) (w := (zb w 2 (vp_updL (w 2) 6 (tv k)))) (t := t) (Ls := Ls) (xs := xs); rw [show zr_lineOf ((zb (zb v 1 (upd (v 1) 7 (nI (D + Mn + Gn)))) 2 (upd (upd (upd (v 2) 3 (nI (tn k))) 4 (ts k)) 5 (nI (tp k)))) 2 4) ((zb w 2 (vp_updL (w 2) 6 (tv k))) 16) ((zb w 2 (vp_updL (w 2) 6 (tv k))) 2 6) = nI 1 from (zr_lineOf_eq hw).trans hj] at ee; exact ee) ?_
            show zx zk_mt zk_ex Ls xs zm_296 (4, [(0, .ref 1)], [.int 1]) (zH (zb (zb v 1 (upd (v 1) 7 (nI (D + Mn + Gn)))) 2 (upd (upd (upd (v 2) 3 (nI (tn k))) 4 (ts k)) 5 (nI (tp k)))) (zb w 2 (vp_updL (w 2) 6 (tv k))) t) _
            refine zx.adv 3 (f' := (7, [(0, .ref 1), (1, .int 1)], [.int (-1), .int 1])) (h' := zH (zb (zb v 1 (upd (v 1) 7 (nI (D + Mn + Gn)))) 2 (upd (upd (upd (v 2) 3 (nI (tn k))) 4 (ts k)) 5 (nI (tp k)))) (zb w 2 (vp_updL (w 2) 6 (tv k))) t) rfl ?_
            refine zx.br (f1 := (10, [(0, .ref 1), (1, .int 1)], [])) (f2 := (16, [(0, .ref 1), (1, .int 1)], [])) rfl (fun c1 => absurd (of_decide_eq_true c1) (by decide)) (fun c1 => ?_)
            refine zx.adv 1 (f' := (17, [(0, .ref 1), (1, .int 1)], [.int 1])) (h' := zH (zb (zb v 1 (upd (v 1) 7 (nI (D + Mn + Gn)))) 2 (upd (upd (upd (v 2) 3 (nI (tn k))) 4 (ts k)) 5 (nI (tp k)))) (zb w 2 (vp_updL (w 2) 6 (tv k))) t) rfl ?_
            refine zx.br (f1 := (20, [(0, .ref 1), (1, .int 1)], [])) (f2 := (33, [(0, .ref 1), (1, .int 1)], [])) rfl (fun c2 => absurd (of_decide_eq_true c2) (by decide)) (fun c2 => ?_)
            refine zx.adv 1 (f' := (34, [(0, .ref 1), (1, .int 1)], [.int 1])) (h' := zH (zb (zb v 1 (upd (v 1) 7 (nI (D + Mn + Gn)))) 2 (upd (upd (upd (v 2) 3 (nI (tn k))) 4 (ts k)) 5 (nI (tp k)))) (zb w 2 (vp_updL (w 2) 6 (tv k))) t) rfl ?_
            refine zx.br (f1 := (51, [(0, .ref 1), (1, .int 1)], [])) (f2 := (37, [(0, .ref 1), (1, .int 1)], [])) rfl (fun c3 => absurd (of_decide_eq_true c3) (by decide)) (fun c3 => ?_)
            refine zx.adv 2 (f' := (41, [(0, .ref 1), (1, .int 1)], [.int (v 1 2)])) (h' := zH (zb (zb v 1 (upd (v 1) 7 (nI (D + Mn + Gn)))) 2 (upd (upd (upd (v 2) 3 (nI (tn k))) 4 (ts k)) 5 (nI (tp k)))) (zb w 2 (vp_updL (w 2) 6 (tv k))) t) rfl ?_
            rw [show (v 1 2) = 1 from h12x]
            refine zx.br (f1 := (44, [(0, .ref 1), (1, .int 1)], [])) (f2 := (51, [(0, .ref 1), (1, .int 1)], [])) rfl (fun c4 => absurd (of_decide_eq_true c4) (by decide)) (fun c4 => ?_)
            refine zx.adv 2 (f' := (53, [(0, .ref 1), (1, .int 1)], [.int 1, .ref 1])) (h' := zH (zb (zb v 1 (upd (v 1) 7 (nI (D + Mn + Gn)))) 2 (upd (upd (upd (v 2) 3 (nI (tn k))) 4 (ts k)) 5 (nI (tp k)))) (zb w 2 (vp_updL (w 2) 6 (tv k))) t) rfl ?_
            refine zx.cl (v := some (.int 0)) (h' := zH (zb (zb v 1 (upd (v 1) 7 (nI (D + Mn + Gn)))) 2 (upd (upd (upd (v 2) 3 (nI (tn k))) 4 (ts k)) 5 (nI (tp k)))) (zb w 2 (vp_updL (w 2) 6 (tv k))) t) rfl (zs_full1_0 (v := (zb (zb v 1 (upd (v 1) 7 (nI (D + Mn + Gn)))) 2 (upd (upd (upd (v 2) 3 (nI (tn k))) 4 (ts k)) 5 (nI (tp k))))) (w := (zb w 2 (vp_updL (w 2) 6 (tv k)))) h41 hcap) ?_
            show zx zk_mt zk_ex Ls xs zm_296 (56, [(0, .ref 1), (1, .int 1)], [.int 0]) (zH (zb (zb v 1 (upd (v 1) 7 (nI (D + Mn + Gn)))) 2 (upd (upd (upd (v 2) 3 (nI (tn k))) 4 (ts k)) 5 (nI (tp k)))) (zb w 2 (vp_updL (w 2) 6 (tv k))) t) _
            refine zx.br (f1 := (65, [(0, .ref 1), (1, .int 1)], [])) (f2 := (59, [(0, .ref 1), (1, .int 1)], [])) rfl (fun c5 => ?_) (fun c5 => absurd (by decide) (of_decide_eq_false c5))
            refine zx.adv 2 (f' := (69, [(0, .ref 1), (1, .int 1)], [.ref 2])) (h' := zH (zb (zb v 1 (upd (v 1) 7 (nI (D + Mn + Gn)))) 2 (upd (upd (upd (v 2) 3 (nI (tn k))) 4 (ts k)) 5 (nI (tp k)))) (zb w 2 (vp_updL (w 2) 6 (tv k))) t) rfl ?_
            refine zx.cl (v := none) (h' := zH (zb (zb v 1 (upd (v 1) 7 (nI (D + Mn + Gn)))) 2 (upd (upd (upd (v 2) 3 (nI (tn (tn k)))) 4 (ts (tn k))) 5 (nI (tp (tn k))))) (zb w 2 (vp_updL (w 2) 6 (tv (tn k)))) t) rfl (hA.2 (zb (zb v 1 (upd (v 1) 7 (nI (D + Mn + Gn)))) 2 (upd (upd (upd (v 2) 3 (nI (tn k))) 4 (ts k)) 5 (nI (tp k)))) (zb w 2 (vp_updL (w 2) 6 (tv k))) t k hb hE hk) ?_
            show zx zk_mt zk_ex Ls xs zm_296 (72, [(0, .ref 1), (1, .int 1)], []) (zH (zb (zb v 1 (upd (v 1) 7 (nI (D + Mn + Gn)))) 2 (upd (upd (upd (v 2) 3 (nI (tn (tn k)))) 4 (ts (tn k))) 5 (nI (tp (tn k))))) (zb w 2 (vp_updL (w 2) 6 (tv (tn k)))) t) _
            refine zx.adv 1 (f' := (73, [(0, .ref 1), (1, .int 1)], [.int 1])) (h' := zH (zb (zb v 1 (upd (v 1) 7 (nI (D + Mn + Gn)))) 2 (upd (upd (upd (v 2) 3 (nI (tn (tn k)))) 4 (ts (tn k))) 5 (nI (tp (tn k))))) (zb w 2 (vp_updL (w 2) 6 (tv (tn k)))) t) rfl ?_
            refine zx.adv 2 (f' := (118, [(0, .ref 1), (1, .int 1)], [.ref 1])) (h' := zH (zb (zb v 1 (upd (v 1) 7 (nI (D + Mn + Gn)))) 2 (upd (upd (upd (v 2) 3 (nI (tn (tn k)))) 4 (ts (tn k))) 5 (nI (tp (tn k))))) (zb w 2 (vp_updL (w 2) 6 (tv (tn k)))) t) rfl ?_
            refine zx.cx rfl (zc_dangerL (v := (zb (zb v 1 (upd (v 1) 7 (nI (D + Mn + Gn)))) 2 (upd (upd (upd (v 2) 3 (nI (tn (tn k)))) 4 (ts (tn k))) 5 (nI (tp (tn k)))))) (w := (zb w 2 (vp_updL (w 2) 6 (tv (tn k))))) (t := t) hA hE hb hT hw h7 (show zCls tn ts tp tv E (tn k) D Mn Gn Un bg l S (zb (zb v 1 (upd (v 1) 7 (nI (D + Mn + Gn)))) 2 (upd (upd (upd (v 2) 3 (nI (tn (tn k)))) 4 (ts (tn k))) 5 (nI (tp (tn k))))) (zb w 2 (vp_updL (w 2) 6 (tv (tn k)))) from ⟨⟨hA.1 k hk, rfl, rfl, rfl, rfl⟩, rfl, hN, h12, ⟨h41, h44, h48, h414⟩, hU4, fun r a b => ((zb_un (k := 2) (by omega)).trans ((zb_un (k := 1) (by omega)).trans (hl r a b)))⟩) hbg1 hcap) (fun r h2 hp => ?_)
            obtain ⟨b, hb01, hr⟩ := zQ_val hp
            subst hr
            exact zx.rt rfl (decide_eq_true hb01) (zQ.trans (v1 := (zb (zb v 1 (upd (v 1) 7 (nI (D + Mn + Gn)))) 2 (upd (upd (upd (v 2) 3 (nI (tn (tn k)))) 4 (ts (tn k))) 5 (nI (tp (tn k)))))) (w1 := (zb w 2 (vp_updL (w 2) 6 (tv (tn k))))) ⟨fun r hr => (zb_un (k := 2) (by omega)).trans ((zb_un (k := 1) (by omega)).trans rfl), rfl, rfl, rfl, fun r h1 h2 => (zb_un (k := 2) (by omega)).trans rfl, h7⟩ rfl (by rw [hline]; exact hp))
          · have hline : zp_line tn ts tp tv k D Mn Gn Un bg l S = .inr (5, tp k) := by rw [zp_line_1 hj (by omega), if_neg hcap]
            refine zx.adv 1 (f' := (1, [(0, .ref 1)], [.ref 1])) (h' := zH (zb (zb v 1 (upd (v 1) 7 (nI (D + Mn + Gn)))) 2 (upd (upd (upd (v 2) 3 (nI (tn k))) 4 (ts k)) 5 (nI (tp k)))) (zb w 2 (vp_updL (w 2) 6 (tv k))) t) rfl ?_
            refine zx.cl (v := some (.int 1)) (h' := zH (zb (zb v 1 (upd (v 1) 7 (nI (D + Mn + Gn)))) 2 (upd (upd (upd (v 2) 3 (nI (tn k))) 4 (ts k)) 5 (nI (tp k)))) (zb w 2 (vp_updL (w 2) 6 (tv k))) t) rfl (by have ee := zs_lineOf (v := (zb (zb v 1 (upd (v 1) 7 (nI (D + Mn + Gn)))) 2 (upd (upd (upd (v 2) 3 (nI (tn k))) 4 (ts k)) 5 (nI (tp k))))) (w := (zb w 2 (vp_updL (w 2) 6 (tv k)))) (t := t) (Ls := Ls) (xs := xs); rw [show zr_lineOf ((zb (zb v 1 (upd (v 1) 7 (nI (D + Mn + Gn)))) 2 (upd (upd (upd (v 2) 3 (nI (tn k))) 4 (ts k)) 5 (nI (tp k)))) 2 4) ((zb w 2 (vp_updL (w 2) 6 (tv k))) 16) ((zb w 2 (vp_updL (w 2) 6 (tv k))) 2 6) = nI 1 from (zr_lineOf_eq hw).trans hj] at ee; exact ee) ?_
            show zx zk_mt zk_ex Ls xs zm_296 (4, [(0, .ref 1)], [.int 1]) (zH (zb (zb v 1 (upd (v 1) 7 (nI (D + Mn + Gn)))) 2 (upd (upd (upd (v 2) 3 (nI (tn k))) 4 (ts k)) 5 (nI (tp k)))) (zb w 2 (vp_updL (w 2) 6 (tv k))) t) _
            refine zx.adv 3 (f' := (7, [(0, .ref 1), (1, .int 1)], [.int (-1), .int 1])) (h' := zH (zb (zb v 1 (upd (v 1) 7 (nI (D + Mn + Gn)))) 2 (upd (upd (upd (v 2) 3 (nI (tn k))) 4 (ts k)) 5 (nI (tp k)))) (zb w 2 (vp_updL (w 2) 6 (tv k))) t) rfl ?_
            refine zx.br (f1 := (10, [(0, .ref 1), (1, .int 1)], [])) (f2 := (16, [(0, .ref 1), (1, .int 1)], [])) rfl (fun c1 => absurd (of_decide_eq_true c1) (by decide)) (fun c1 => ?_)
            refine zx.adv 1 (f' := (17, [(0, .ref 1), (1, .int 1)], [.int 1])) (h' := zH (zb (zb v 1 (upd (v 1) 7 (nI (D + Mn + Gn)))) 2 (upd (upd (upd (v 2) 3 (nI (tn k))) 4 (ts k)) 5 (nI (tp k)))) (zb w 2 (vp_updL (w 2) 6 (tv k))) t) rfl ?_
            refine zx.br (f1 := (20, [(0, .ref 1), (1, .int 1)], [])) (f2 := (33, [(0, .ref 1), (1, .int 1)], [])) rfl (fun c2 => absurd (of_decide_eq_true c2) (by decide)) (fun c2 => ?_)
            refine zx.adv 1 (f' := (34, [(0, .ref 1), (1, .int 1)], [.int 1])) (h' := zH (zb (zb v 1 (upd (v 1) 7 (nI (D + Mn + Gn)))) 2 (upd (upd (upd (v 2) 3 (nI (tn k))) 4 (ts k)) 5 (nI (tp k)))) (zb w 2 (vp_updL (w 2) 6 (tv k))) t) rfl ?_
            refine zx.br (f1 := (51, [(0, .ref 1), (1, .int 1)], [])) (f2 := (37, [(0, .ref 1), (1, .int 1)], [])) rfl (fun c3 => absurd (of_decide_eq_true c3) (by decide)) (fun c3 => ?_)
            refine zx.adv 2 (f' := (41, [(0, .ref 1), (1, .int 1)], [.int (v 1 2)])) (h' := zH (zb (zb v 1 (upd (v 1) 7 (nI (D + Mn + Gn)))) 2 (upd (upd (upd (v 2) 3 (nI (tn k))) 4 (ts k)) 5 (nI (tp k)))) (zb w 2 (vp_updL (w 2) 6 (tv k))) t) rfl ?_
            rw [show (v 1 2) = 1 from h12x]
            refine zx.br (f1 := (44, [(0, .ref 1), (1, .int 1)], [])) (f2 := (51, [(0, .ref 1), (1, .int 1)], [])) rfl (fun c4 => absurd (of_decide_eq_true c4) (by decide)) (fun c4 => ?_)
            refine zx.adv 2 (f' := (53, [(0, .ref 1), (1, .int 1)], [.int 1, .ref 1])) (h' := zH (zb (zb v 1 (upd (v 1) 7 (nI (D + Mn + Gn)))) 2 (upd (upd (upd (v 2) 3 (nI (tn k))) 4 (ts k)) 5 (nI (tp k)))) (zb w 2 (vp_updL (w 2) 6 (tv k))) t) rfl ?_
            refine zx.cl (v := some (.int 1)) (h' := zH (zb (zb v 1 (upd (v 1) 7 (nI (D + Mn + Gn)))) 2 (upd (upd (upd (v 2) 3 (nI (tn k))) 4 (ts k)) 5 (nI (tp k)))) (zb w 2 (vp_updL (w 2) 6 (tv k))) t) rfl (zs_full1_1 (v := (zb (zb v 1 (upd (v 1) 7 (nI (D + Mn + Gn)))) 2 (upd (upd (upd (v 2) 3 (nI (tn k))) 4 (ts k)) 5 (nI (tp k))))) (w := (zb w 2 (vp_updL (w 2) 6 (tv k)))) h41 hcap (by omega)) ?_
            show zx zk_mt zk_ex Ls xs zm_296 (56, [(0, .ref 1), (1, .int 1)], [.int 1]) (zH (zb (zb v 1 (upd (v 1) 7 (nI (D + Mn + Gn)))) 2 (upd (upd (upd (v 2) 3 (nI (tn k))) 4 (ts k)) 5 (nI (tp k)))) (zb w 2 (vp_updL (w 2) 6 (tv k))) t) _
            refine zx.br (f1 := (65, [(0, .ref 1), (1, .int 1)], [])) (f2 := (59, [(0, .ref 1), (1, .int 1)], [])) rfl (fun c5 => absurd (of_decide_eq_true c5) (by decide)) (fun c5 => ?_)
            refine zx.adv 2 (f' := (61, [(0, .ref 1), (1, .int 1)], [.int 5, .ref 1])) (h' := zH (zb (zb v 1 (upd (v 1) 7 (nI (D + Mn + Gn)))) 2 (upd (upd (upd (v 2) 3 (nI (tn k))) 4 (ts k)) 5 (nI (tp k)))) (zb w 2 (vp_updL (w 2) 6 (tv k))) t) rfl ?_
            refine zx.cl (v := some (.int 0)) (h' := zH (zb (zb v 1 (upd (upd (upd (v 1) 7 (nI (D + Mn + Gn))) 9 5) 10 (nI (tp k)))) 2 (upd (upd (upd (v 2) 3 (nI (tn k))) 4 (ts k)) 5 (nI (tp k)))) (zb w 2 (vp_updL (w 2) 6 (tv k))) t) rfl (zs_fail (v := (zb (zb v 1 (upd (v 1) 7 (nI (D + Mn + Gn)))) 2 (upd (upd (upd (v 2) 3 (nI (tn k))) 4 (ts k)) 5 (nI (tp k))))) (w := (zb w 2 (vp_updL (w 2) 6 (tv k)))) 5) ?_
            show zx zk_mt zk_ex Ls xs zm_296 (64, [(0, .ref 1), (1, .int 1)], [.int 0]) (zH (zb (zb v 1 (upd (upd (upd (v 1) 7 (nI (D + Mn + Gn))) 9 5) 10 (nI (tp k)))) 2 (upd (upd (upd (v 2) 3 (nI (tn k))) 4 (ts k)) 5 (nI (tp k)))) (zb w 2 (vp_updL (w 2) 6 (tv k))) t) _
            exact zx.rt rfl rfl (zQ_no (v' := (zb (zb v 1 (upd (upd (upd (v 1) 7 (nI (D + Mn + Gn))) 9 5) 10 (nI (tp k)))) 2 (upd (upd (upd (v 2) 3 (nI (tn k))) 4 (ts k)) 5 (nI (tp k))))) (w' := (zb w 2 (vp_updL (w 2) 6 (tv k)))) (f := 5) (p := (tp k)) hline rfl rfl ⟨fun r hr => (zb_un (k := 2) (by omega)).trans ((zb_un (k := 1) (by omega)).trans rfl), rfl, rfl, rfl, fun r h1 h2 => (zb_un (k := 2) (by omega)).trans rfl, h7⟩)
      · have hj : zr_lineOf (ts k) zk_lw (tv k) = nI 2 := hj
        rcases hb01 with hbg | hbg
        · have h12x : v 1 2 = 0 := by rw [h12, hbg]; rfl
          have hline : zp_line tn ts tp tv k D Mn Gn Un bg l S = .inr (6, tp k) := zp_line_u (j := 2) (by decide) (by decide) hj hbg
          refine zx.adv 1 (f' := (1, [(0, .ref 1)], [.ref 1])) (h' := zH (zb (zb v 1 (upd (v 1) 7 (nI (D + Mn + Gn)))) 2 (upd (upd (upd (v 2) 3 (nI (tn k))) 4 (ts k)) 5 (nI (tp k)))) (zb w 2 (vp_updL (w 2) 6 (tv k))) t) rfl ?_
          refine zx.cl (v := some (.int 2)) (h' := zH (zb (zb v 1 (upd (v 1) 7 (nI (D + Mn + Gn)))) 2 (upd (upd (upd (v 2) 3 (nI (tn k))) 4 (ts k)) 5 (nI (tp k)))) (zb w 2 (vp_updL (w 2) 6 (tv k))) t) rfl (by have ee := zs_lineOf (v := (zb (zb v 1 (upd (v 1) 7 (nI (D + Mn + Gn)))) 2 (upd (upd (upd (v 2) 3 (nI (tn k))) 4 (ts k)) 5 (nI (tp k))))) (w := (zb w 2 (vp_updL (w 2) 6 (tv k)))) (t := t) (Ls := Ls) (xs := xs); rw [show zr_lineOf ((zb (zb v 1 (upd (v 1) 7 (nI (D + Mn + Gn)))) 2 (upd (upd (upd (v 2) 3 (nI (tn k))) 4 (ts k)) 5 (nI (tp k)))) 2 4) ((zb w 2 (vp_updL (w 2) 6 (tv k))) 16) ((zb w 2 (vp_updL (w 2) 6 (tv k))) 2 6) = nI 2 from (zr_lineOf_eq hw).trans hj] at ee; exact ee) ?_
          show zx zk_mt zk_ex Ls xs zm_296 (4, [(0, .ref 1)], [.int 2]) (zH (zb (zb v 1 (upd (v 1) 7 (nI (D + Mn + Gn)))) 2 (upd (upd (upd (v 2) 3 (nI (tn k))) 4 (ts k)) 5 (nI (tp k)))) (zb w 2 (vp_updL (w 2) 6 (tv k))) t) _
          refine zx.adv 3 (f' := (7, [(0, .ref 1), (1, .int 2)], [.int (-1), .int 2])) (h' := zH (zb (zb v 1 (upd (v 1) 7 (nI (D + Mn + Gn)))) 2 (upd (upd (upd (v 2) 3 (nI (tn k))) 4 (ts k)) 5 (nI (tp k)))) (zb w 2 (vp_updL (w 2) 6 (tv k))) t) rfl ?_
          refine zx.br (f1 := (10, [(0, .ref 1), (1, .int 2)], [])) (f2 := (16, [(0, .ref 1), (1, .int 2)], [])) rfl (fun c1 => absurd (of_decide_eq_true c1) (by decide)) (fun c1 => ?_)
          refine zx.adv 1 (f' := (17, [(0, .ref 1), (1, .int 2)], [.int 2])) (h' := zH (zb (zb v 1 (upd (v 1) 7 (nI (D + Mn + Gn)))) 2 (upd (upd (upd (v 2) 3 (nI (tn k))) 4 (ts k)) 5 (nI (tp k)))) (zb w 2 (vp_updL (w 2) 6 (tv k))) t) rfl ?_
          refine zx.br (f1 := (20, [(0, .ref 1), (1, .int 2)], [])) (f2 := (33, [(0, .ref 1), (1, .int 2)], [])) rfl (fun c2 => absurd (of_decide_eq_true c2) (by decide)) (fun c2 => ?_)
          refine zx.adv 1 (f' := (34, [(0, .ref 1), (1, .int 2)], [.int 2])) (h' := zH (zb (zb v 1 (upd (v 1) 7 (nI (D + Mn + Gn)))) 2 (upd (upd (upd (v 2) 3 (nI (tn k))) 4 (ts k)) 5 (nI (tp k)))) (zb w 2 (vp_updL (w 2) 6 (tv k))) t) rfl ?_
          refine zx.br (f1 := (51, [(0, .ref 1), (1, .int 2)], [])) (f2 := (37, [(0, .ref 1), (1, .int 2)], [])) rfl (fun c3 => absurd (of_decide_eq_true c3) (by decide)) (fun c3 => ?_)
          refine zx.adv 2 (f' := (41, [(0, .ref 1), (1, .int 2)], [.int (v 1 2)])) (h' := zH (zb (zb v 1 (upd (v 1) 7 (nI (D + Mn + Gn)))) 2 (upd (upd (upd (v 2) 3 (nI (tn k))) 4 (ts k)) 5 (nI (tp k)))) (zb w 2 (vp_updL (w 2) 6 (tv k))) t) rfl ?_
          rw [show (v 1 2) = 0 from h12x]
          refine zx.br (f1 := (44, [(0, .ref 1), (1, .int 2)], [])) (f2 := (51, [(0, .ref 1), (1, .int 2)], [])) rfl (fun c4 => ?_) (fun c4 => absurd (by decide) (of_decide_eq_false c4))
          refine zx.adv 2 (f' := (47, [(0, .ref 1), (1, .int 2)], [.int 6, .ref 1])) (h' := zH (zb (zb v 1 (upd (v 1) 7 (nI (D + Mn + Gn)))) 2 (upd (upd (upd (v 2) 3 (nI (tn k))) 4 (ts k)) 5 (nI (tp k)))) (zb w 2 (vp_updL (w 2) 6 (tv k))) t) rfl ?_
          refine zx.cl (v := some (.int 0)) (h' := zH (zb (zb v 1 (upd (upd (upd (v 1) 7 (nI (D + Mn + Gn))) 9 6) 10 (nI (tp k)))) 2 (upd (upd (upd (v 2) 3 (nI (tn k))) 4 (ts k)) 5 (nI (tp k)))) (zb w 2 (vp_updL (w 2) 6 (tv k))) t) rfl (zs_fail (v := (zb (zb v 1 (upd (v 1) 7 (nI (D + Mn + Gn)))) 2 (upd (upd (upd (v 2) 3 (nI (tn k))) 4 (ts k)) 5 (nI (tp k))))) (w := (zb w 2 (vp_updL (w 2) 6 (tv k)))) 6) ?_
          show zx zk_mt zk_ex Ls xs zm_296 (50, [(0, .ref 1), (1, .int 2)], [.int 0]) (zH (zb (zb v 1 (upd (upd (upd (v 1) 7 (nI (D + Mn + Gn))) 9 6) 10 (nI (tp k)))) 2 (upd (upd (upd (v 2) 3 (nI (tn k))) 4 (ts k)) 5 (nI (tp k)))) (zb w 2 (vp_updL (w 2) 6 (tv k))) t) _
          exact zx.rt rfl rfl (zQ_no (v' := (zb (zb v 1 (upd (upd (upd (v 1) 7 (nI (D + Mn + Gn))) 9 6) 10 (nI (tp k)))) 2 (upd (upd (upd (v 2) 3 (nI (tn k))) 4 (ts k)) 5 (nI (tp k))))) (w' := (zb w 2 (vp_updL (w 2) 6 (tv k)))) (f := 6) (p := (tp k)) hline rfl rfl ⟨fun r hr => (zb_un (k := 2) (by omega)).trans ((zb_un (k := 1) (by omega)).trans rfl), rfl, rfl, rfl, fun r h1 h2 => (zb_un (k := 2) (by omega)).trans rfl, h7⟩)
        · have h12x : v 1 2 = 1 := by rw [h12, hbg]; rfl
          have hbg1 : bg = 1 := hbg
          by_cases hcap : Mn < 5
          · have hline : zp_line tn ts tp tv k D Mn Gn Un bg l S = zp_makerL tn ts tp tv (tn k) D Mn Gn Un l S := by rw [zp_line_2 hj (by omega), if_pos hcap]
            refine zx.adv 1 (f' := (1, [(0, .ref 1)], [.ref 1])) (h' := zH (zb (zb v 1 (upd (v 1) 7 (nI (D + Mn + Gn)))) 2 (upd (upd (upd (v 2) 3 (nI (tn k))) 4 (ts k)) 5 (nI (tp k)))) (zb w 2 (vp_updL (w 2) 6 (tv k))) t) rfl ?_
            refine zx.cl (v := some (.int 2)) (h' := zH (zb (zb v 1 (upd (v 1) 7 (nI (D + Mn + Gn)))) 2 (upd (upd (upd (v 2) 3 (nI (tn k))) 4 (ts k)) 5 (nI (tp k)))) (zb w 2 (vp_updL (w 2) 6 (tv k))) t) rfl (by have ee := zs_lineOf (v := (zb (zb v 1 (upd (v 1) 7 (nI (D + Mn + Gn)))) 2 (upd (upd (upd (v 2) 3 (nI (tn k))) 4 (ts k)) 5 (nI (tp k))))) (w := (zb w 2 (vp_updL (w 2) 6 (tv k)))) (t := t) (Ls := Ls) (xs := xs); rw [show zr_lineOf ((zb (zb v 1 (upd (v 1) 7 (nI (D + Mn + Gn)))) 2 (upd (upd (upd (v 2) 3 (nI (tn k))) 4 (ts k)) 5 (nI (tp k)))) 2 4) ((zb w 2 (vp_updL (w 2) 6 (tv k))) 16) ((zb w 2 (vp_updL (w 2) 6 (tv k))) 2 6) = nI 2 from (zr_lineOf_eq hw).trans hj] at ee; exact ee) ?_
            show zx zk_mt zk_ex Ls xs zm_296 (4, [(0, .ref 1)], [.int 2]) (zH (zb (zb v 1 (upd (v 1) 7 (nI (D + Mn + Gn)))) 2 (upd (upd (upd (v 2) 3 (nI (tn k))) 4 (ts k)) 5 (nI (tp k)))) (zb w 2 (vp_updL (w 2) 6 (tv k))) t) _
            refine zx.adv 3 (f' := (7, [(0, .ref 1), (1, .int 2)], [.int (-1), .int 2])) (h' := zH (zb (zb v 1 (upd (v 1) 7 (nI (D + Mn + Gn)))) 2 (upd (upd (upd (v 2) 3 (nI (tn k))) 4 (ts k)) 5 (nI (tp k)))) (zb w 2 (vp_updL (w 2) 6 (tv k))) t) rfl ?_
            refine zx.br (f1 := (10, [(0, .ref 1), (1, .int 2)], [])) (f2 := (16, [(0, .ref 1), (1, .int 2)], [])) rfl (fun c1 => absurd (of_decide_eq_true c1) (by decide)) (fun c1 => ?_)
            refine zx.adv 1 (f' := (17, [(0, .ref 1), (1, .int 2)], [.int 2])) (h' := zH (zb (zb v 1 (upd (v 1) 7 (nI (D + Mn + Gn)))) 2 (upd (upd (upd (v 2) 3 (nI (tn k))) 4 (ts k)) 5 (nI (tp k)))) (zb w 2 (vp_updL (w 2) 6 (tv k))) t) rfl ?_
            refine zx.br (f1 := (20, [(0, .ref 1), (1, .int 2)], [])) (f2 := (33, [(0, .ref 1), (1, .int 2)], [])) rfl (fun c2 => absurd (of_decide_eq_true c2) (by decide)) (fun c2 => ?_)
            refine zx.adv 1 (f' := (34, [(0, .ref 1), (1, .int 2)], [.int 2])) (h' := zH (zb (zb v 1 (upd (v 1) 7 (nI (D + Mn + Gn)))) 2 (upd (upd (upd (v 2) 3 (nI (tn k))) 4 (ts k)) 5 (nI (tp k)))) (zb w 2 (vp_updL (w 2) 6 (tv k))) t) rfl ?_
            refine zx.br (f1 := (51, [(0, .ref 1), (1, .int 2)], [])) (f2 := (37, [(0, .ref 1), (1, .int 2)], [])) rfl (fun c3 => absurd (of_decide_eq_true c3) (by decide)) (fun c3 => ?_)
            refine zx.adv 2 (f' := (41, [(0, .ref 1), (1, .int 2)], [.int (v 1 2)])) (h' := zH (zb (zb v 1 (upd (v 1) 7 (nI (D + Mn + Gn)))) 2 (upd (upd (upd (v 2) 3 (nI (tn k))) 4 (ts k)) 5 (nI (tp k)))) (zb w 2 (vp_updL (w 2) 6 (tv k))) t) rfl ?_
            rw [show (v 1 2) = 1 from h12x]
            refine zx.br (f1 := (44, [(0, .ref 1), (1, .int 2)], [])) (f2 := (51, [(0, .ref 1), (1, .int 2)], [])) rfl (fun c4 => absurd (of_decide_eq_true c4) (by decide)) (fun c4 => ?_)
            refine zx.adv 2 (f' := (53, [(0, .ref 1), (1, .int 2)], [.int 2, .ref 1])) (h' := zH (zb (zb v 1 (upd (v 1) 7 (nI (D + Mn + Gn)))) 2 (upd (upd (upd (v 2) 3 (nI (tn k))) 4 (ts k)) 5 (nI (tp k)))) (zb w 2 (vp_updL (w 2) 6 (tv k))) t) rfl ?_
            refine zx.cl (v := some (.int 0)) (h' := zH (zb (zb v 1 (upd (v 1) 7 (nI (D + Mn + Gn)))) 2 (upd (upd (upd (v 2) 3 (nI (tn k))) 4 (ts k)) 5 (nI (tp k)))) (zb w 2 (vp_updL (w 2) 6 (tv k))) t) rfl (zs_full2_0 (v := (zb (zb v 1 (upd (v 1) 7 (nI (D + Mn + Gn)))) 2 (upd (upd (upd (v 2) 3 (nI (tn k))) 4 (ts k)) 5 (nI (tp k))))) (w := (zb w 2 (vp_updL (w 2) 6 (tv k)))) h44 hcap) ?_
            show zx zk_mt zk_ex Ls xs zm_296 (56, [(0, .ref 1), (1, .int 2)], [.int 0]) (zH (zb (zb v 1 (upd (v 1) 7 (nI (D + Mn + Gn)))) 2 (upd (upd (upd (v 2) 3 (nI (tn k))) 4 (ts k)) 5 (nI (tp k)))) (zb w 2 (vp_updL (w 2) 6 (tv k))) t) _
            refine zx.br (f1 := (65, [(0, .ref 1), (1, .int 2)], [])) (f2 := (59, [(0, .ref 1), (1, .int 2)], [])) rfl (fun c5 => ?_) (fun c5 => absurd (by decide) (of_decide_eq_false c5))
            refine zx.adv 2 (f' := (69, [(0, .ref 1), (1, .int 2)], [.ref 2])) (h' := zH (zb (zb v 1 (upd (v 1) 7 (nI (D + Mn + Gn)))) 2 (upd (upd (upd (v 2) 3 (nI (tn k))) 4 (ts k)) 5 (nI (tp k)))) (zb w 2 (vp_updL (w 2) 6 (tv k))) t) rfl ?_
            refine zx.cl (v := none) (h' := zH (zb (zb v 1 (upd (v 1) 7 (nI (D + Mn + Gn)))) 2 (upd (upd (upd (v 2) 3 (nI (tn (tn k)))) 4 (ts (tn k))) 5 (nI (tp (tn k))))) (zb w 2 (vp_updL (w 2) 6 (tv (tn k)))) t) rfl (hA.2 (zb (zb v 1 (upd (v 1) 7 (nI (D + Mn + Gn)))) 2 (upd (upd (upd (v 2) 3 (nI (tn k))) 4 (ts k)) 5 (nI (tp k)))) (zb w 2 (vp_updL (w 2) 6 (tv k))) t k hb hE hk) ?_
            show zx zk_mt zk_ex Ls xs zm_296 (72, [(0, .ref 1), (1, .int 2)], []) (zH (zb (zb v 1 (upd (v 1) 7 (nI (D + Mn + Gn)))) 2 (upd (upd (upd (v 2) 3 (nI (tn (tn k)))) 4 (ts (tn k))) 5 (nI (tp (tn k))))) (zb w 2 (vp_updL (w 2) 6 (tv (tn k)))) t) _
            refine zx.adv 1 (f' := (73, [(0, .ref 1), (1, .int 2)], [.int 2])) (h' := zH (zb (zb v 1 (upd (v 1) 7 (nI (D + Mn + Gn)))) 2 (upd (upd (upd (v 2) 3 (nI (tn (tn k)))) 4 (ts (tn k))) 5 (nI (tp (tn k))))) (zb w 2 (vp_updL (w 2) 6 (tv (tn k)))) t) rfl ?_
            refine zx.adv 2 (f' := (123, [(0, .ref 1), (1, .int 2)], [.ref 1])) (h' := zH (zb (zb v 1 (upd (v 1) 7 (nI (D + Mn + Gn)))) 2 (upd (upd (upd (v 2) 3 (nI (tn (tn k)))) 4 (ts (tn k))) 5 (nI (tp (tn k))))) (zb w 2 (vp_updL (w 2) 6 (tv (tn k)))) t) rfl ?_
            refine zx.cx rfl (zc_makerL (v := (zb (zb v 1 (upd (v 1) 7 (nI (D + Mn + Gn)))) 2 (upd (upd (upd (v 2) 3 (nI (tn (tn k)))) 4 (ts (tn k))) 5 (nI (tp (tn k)))))) (w := (zb w 2 (vp_updL (w 2) 6 (tv (tn k))))) (t := t) hA hE hb hT hw h7 (show zCls tn ts tp tv E (tn k) D Mn Gn Un bg l S (zb (zb v 1 (upd (v 1) 7 (nI (D + Mn + Gn)))) 2 (upd (upd (upd (v 2) 3 (nI (tn (tn k)))) 4 (ts (tn k))) 5 (nI (tp (tn k))))) (zb w 2 (vp_updL (w 2) 6 (tv (tn k)))) from ⟨⟨hA.1 k hk, rfl, rfl, rfl, rfl⟩, rfl, hN, h12, ⟨h41, h44, h48, h414⟩, hU4, fun r a b => ((zb_un (k := 2) (by omega)).trans ((zb_un (k := 1) (by omega)).trans (hl r a b)))⟩) hbg1 hcap) (fun r h2 hp => ?_)
            obtain ⟨b, hb01, hr⟩ := zQ_val hp
            subst hr
            exact zx.rt rfl (decide_eq_true hb01) (zQ.trans (v1 := (zb (zb v 1 (upd (v 1) 7 (nI (D + Mn + Gn)))) 2 (upd (upd (upd (v 2) 3 (nI (tn (tn k)))) 4 (ts (tn k))) 5 (nI (tp (tn k)))))) (w1 := (zb w 2 (vp_updL (w 2) 6 (tv (tn k))))) ⟨fun r hr => (zb_un (k := 2) (by omega)).trans ((zb_un (k := 1) (by omega)).trans rfl), rfl, rfl, rfl, fun r h1 h2 => (zb_un (k := 2) (by omega)).trans rfl, h7⟩ rfl (by rw [hline]; exact hp))
          · have hline : zp_line tn ts tp tv k D Mn Gn Un bg l S = .inr (5, tp k) := by rw [zp_line_2 hj (by omega), if_neg hcap]
            refine zx.adv 1 (f' := (1, [(0, .ref 1)], [.ref 1])) (h' := zH (zb (zb v 1 (upd (v 1) 7 (nI (D + Mn + Gn)))) 2 (upd (upd (upd (v 2) 3 (nI (tn k))) 4 (ts k)) 5 (nI (tp k)))) (zb w 2 (vp_updL (w 2) 6 (tv k))) t) rfl ?_
            refine zx.cl (v := some (.int 2)) (h' := zH (zb (zb v 1 (upd (v 1) 7 (nI (D + Mn + Gn)))) 2 (upd (upd (upd (v 2) 3 (nI (tn k))) 4 (ts k)) 5 (nI (tp k)))) (zb w 2 (vp_updL (w 2) 6 (tv k))) t) rfl (by have ee := zs_lineOf (v := (zb (zb v 1 (upd (v 1) 7 (nI (D + Mn + Gn)))) 2 (upd (upd (upd (v 2) 3 (nI (tn k))) 4 (ts k)) 5 (nI (tp k))))) (w := (zb w 2 (vp_updL (w 2) 6 (tv k)))) (t := t) (Ls := Ls) (xs := xs); rw [show zr_lineOf ((zb (zb v 1 (upd (v 1) 7 (nI (D + Mn + Gn)))) 2 (upd (upd (upd (v 2) 3 (nI (tn k))) 4 (ts k)) 5 (nI (tp k)))) 2 4) ((zb w 2 (vp_updL (w 2) 6 (tv k))) 16) ((zb w 2 (vp_updL (w 2) 6 (tv k))) 2 6) = nI 2 from (zr_lineOf_eq hw).trans hj] at ee; exact ee) ?_
            show zx zk_mt zk_ex Ls xs zm_296 (4, [(0, .ref 1)], [.int 2]) (zH (zb (zb v 1 (upd (v 1) 7 (nI (D + Mn + Gn)))) 2 (upd (upd (upd (v 2) 3 (nI (tn k))) 4 (ts k)) 5 (nI (tp k)))) (zb w 2 (vp_updL (w 2) 6 (tv k))) t) _
            refine zx.adv 3 (f' := (7, [(0, .ref 1), (1, .int 2)], [.int (-1), .int 2])) (h' := zH (zb (zb v 1 (upd (v 1) 7 (nI (D + Mn + Gn)))) 2 (upd (upd (upd (v 2) 3 (nI (tn k))) 4 (ts k)) 5 (nI (tp k)))) (zb w 2 (vp_updL (w 2) 6 (tv k))) t) rfl ?_
            refine zx.br (f1 := (10, [(0, .ref 1), (1, .int 2)], [])) (f2 := (16, [(0, .ref 1), (1, .int 2)], [])) rfl (fun c1 => absurd (of_decide_eq_true c1) (by decide)) (fun c1 => ?_)
            refine zx.adv 1 (f' := (17, [(0, .ref 1), (1, .int 2)], [.int 2])) (h' := zH (zb (zb v 1 (upd (v 1) 7 (nI (D + Mn + Gn)))) 2 (upd (upd (upd (v 2) 3 (nI (tn k))) 4 (ts k)) 5 (nI (tp k)))) (zb w 2 (vp_updL (w 2) 6 (tv k))) t) rfl ?_
            refine zx.br (f1 := (20, [(0, .ref 1), (1, .int 2)], [])) (f2 := (33, [(0, .ref 1), (1, .int 2)], [])) rfl (fun c2 => absurd (of_decide_eq_true c2) (by decide)) (fun c2 => ?_)
            refine zx.adv 1 (f' := (34, [(0, .ref 1), (1, .int 2)], [.int 2])) (h' := zH (zb (zb v 1 (upd (v 1) 7 (nI (D + Mn + Gn)))) 2 (upd (upd (upd (v 2) 3 (nI (tn k))) 4 (ts k)) 5 (nI (tp k)))) (zb w 2 (vp_updL (w 2) 6 (tv k))) t) rfl ?_
            refine zx.br (f1 := (51, [(0, .ref 1), (1, .int 2)], [])) (f2 := (37, [(0, .ref 1), (1, .int 2)], [])) rfl (fun c3 => absurd (of_decide_eq_true c3) (by decide)) (fun c3 => ?_)
            refine zx.adv 2 (f' := (41, [(0, .ref 1), (1, .int 2)], [.int (v 1 2)])) (h' := zH (zb (zb v 1 (upd (v 1) 7 (nI (D + Mn + Gn)))) 2 (upd (upd (upd (v 2) 3 (nI (tn k))) 4 (ts k)) 5 (nI (tp k)))) (zb w 2 (vp_updL (w 2) 6 (tv k))) t) rfl ?_
            rw [show (v 1 2) = 1 from h12x]
            refine zx.br (f1 := (44, [(0, .ref 1), (1, .int 2)], [])) (f2 := (51, [(0, .ref 1), (1, .int 2)], [])) rfl (fun c4 => absurd (of_decide_eq_true c4) (by decide)) (fun c4 => ?_)
            refine zx.adv 2 (f' := (53, [(0, .ref 1), (1, .int 2)], [.int 2, .ref 1])) (h' := zH (zb (zb v 1 (upd (v 1) 7 (nI (D + Mn + Gn)))) 2 (upd (upd (upd (v 2) 3 (nI (tn k))) 4 (ts k)) 5 (nI (tp k)))) (zb w 2 (vp_updL (w 2) 6 (tv k))) t) rfl ?_
            refine zx.cl (v := some (.int 1)) (h' := zH (zb (zb v 1 (upd (v 1) 7 (nI (D + Mn + Gn)))) 2 (upd (upd (upd (v 2) 3 (nI (tn k))) 4 (ts k)) 5 (nI (tp k)))) (zb w 2 (vp_updL (w 2) 6 (tv k))) t) rfl (zs_full2_1 (v := (zb (zb v 1 (upd (v 1) 7 (nI (D + Mn + Gn)))) 2 (upd (upd (upd (v 2) 3 (nI (tn k))) 4 (ts k)) 5 (nI (tp k))))) (w := (zb w 2 (vp_updL (w 2) 6 (tv k)))) h44 hcap (by omega)) ?_
            show zx zk_mt zk_ex Ls xs zm_296 (56, [(0, .ref 1), (1, .int 2)], [.int 1]) (zH (zb (zb v 1 (upd (v 1) 7 (nI (D + Mn + Gn)))) 2 (upd (upd (upd (v 2) 3 (nI (tn k))) 4 (ts k)) 5 (nI (tp k)))) (zb w 2 (vp_updL (w 2) 6 (tv k))) t) _
            refine zx.br (f1 := (65, [(0, .ref 1), (1, .int 2)], [])) (f2 := (59, [(0, .ref 1), (1, .int 2)], [])) rfl (fun c5 => absurd (of_decide_eq_true c5) (by decide)) (fun c5 => ?_)
            refine zx.adv 2 (f' := (61, [(0, .ref 1), (1, .int 2)], [.int 5, .ref 1])) (h' := zH (zb (zb v 1 (upd (v 1) 7 (nI (D + Mn + Gn)))) 2 (upd (upd (upd (v 2) 3 (nI (tn k))) 4 (ts k)) 5 (nI (tp k)))) (zb w 2 (vp_updL (w 2) 6 (tv k))) t) rfl ?_
            refine zx.cl (v := some (.int 0)) (h' := zH (zb (zb v 1 (upd (upd (upd (v 1) 7 (nI (D + Mn + Gn))) 9 5) 10 (nI (tp k)))) 2 (upd (upd (upd (v 2) 3 (nI (tn k))) 4 (ts k)) 5 (nI (tp k)))) (zb w 2 (vp_updL (w 2) 6 (tv k))) t) rfl (zs_fail (v := (zb (zb v 1 (upd (v 1) 7 (nI (D + Mn + Gn)))) 2 (upd (upd (upd (v 2) 3 (nI (tn k))) 4 (ts k)) 5 (nI (tp k))))) (w := (zb w 2 (vp_updL (w 2) 6 (tv k)))) 5) ?_
            show zx zk_mt zk_ex Ls xs zm_296 (64, [(0, .ref 1), (1, .int 2)], [.int 0]) (zH (zb (zb v 1 (upd (upd (upd (v 1) 7 (nI (D + Mn + Gn))) 9 5) 10 (nI (tp k)))) 2 (upd (upd (upd (v 2) 3 (nI (tn k))) 4 (ts k)) 5 (nI (tp k)))) (zb w 2 (vp_updL (w 2) 6 (tv k))) t) _
            exact zx.rt rfl rfl (zQ_no (v' := (zb (zb v 1 (upd (upd (upd (v 1) 7 (nI (D + Mn + Gn))) 9 5) 10 (nI (tp k)))) 2 (upd (upd (upd (v 2) 3 (nI (tn k))) 4 (ts k)) 5 (nI (tp k))))) (w' := (zb w 2 (vp_updL (w 2) 6 (tv k)))) (f := 5) (p := (tp k)) hline rfl rfl ⟨fun r hr => (zb_un (k := 2) (by omega)).trans ((zb_un (k := 1) (by omega)).trans rfl), rfl, rfl, rfl, fun r h1 h2 => (zb_un (k := 2) (by omega)).trans rfl, h7⟩)
      · have hj : zr_lineOf (ts k) zk_lw (tv k) = nI 3 := hj
        rcases hb01 with hbg | hbg
        · have h12x : v 1 2 = 0 := by rw [h12, hbg]; rfl
          have hline : zp_line tn ts tp tv k D Mn Gn Un bg l S = .inr (6, tp k) := zp_line_u (j := 3) (by decide) (by decide) hj hbg
          refine zx.adv 1 (f' := (1, [(0, .ref 1)], [.ref 1])) (h' := zH (zb (zb v 1 (upd (v 1) 7 (nI (D + Mn + Gn)))) 2 (upd (upd (upd (v 2) 3 (nI (tn k))) 4 (ts k)) 5 (nI (tp k)))) (zb w 2 (vp_updL (w 2) 6 (tv k))) t) rfl ?_
          refine zx.cl (v := some (.int 3)) (h' := zH (zb (zb v 1 (upd (v 1) 7 (nI (D + Mn + Gn)))) 2 (upd (upd (upd (v 2) 3 (nI (tn k))) 4 (ts k)) 5 (nI (tp k)))) (zb w 2 (vp_updL (w 2) 6 (tv k))) t) rfl (by have ee := zs_lineOf (v := (zb (zb v 1 (upd (v 1) 7 (nI (D + Mn + Gn)))) 2 (upd (upd (upd (v 2) 3 (nI (tn k))) 4 (ts k)) 5 (nI (tp k))))) (w := (zb w 2 (vp_updL (w 2) 6 (tv k)))) (t := t) (Ls := Ls) (xs := xs); rw [show zr_lineOf ((zb (zb v 1 (upd (v 1) 7 (nI (D + Mn + Gn)))) 2 (upd (upd (upd (v 2) 3 (nI (tn k))) 4 (ts k)) 5 (nI (tp k)))) 2 4) ((zb w 2 (vp_updL (w 2) 6 (tv k))) 16) ((zb w 2 (vp_updL (w 2) 6 (tv k))) 2 6) = nI 3 from (zr_lineOf_eq hw).trans hj] at ee; exact ee) ?_
          show zx zk_mt zk_ex Ls xs zm_296 (4, [(0, .ref 1)], [.int 3]) (zH (zb (zb v 1 (upd (v 1) 7 (nI (D + Mn + Gn)))) 2 (upd (upd (upd (v 2) 3 (nI (tn k))) 4 (ts k)) 5 (nI (tp k)))) (zb w 2 (vp_updL (w 2) 6 (tv k))) t) _
          refine zx.adv 3 (f' := (7, [(0, .ref 1), (1, .int 3)], [.int (-1), .int 3])) (h' := zH (zb (zb v 1 (upd (v 1) 7 (nI (D + Mn + Gn)))) 2 (upd (upd (upd (v 2) 3 (nI (tn k))) 4 (ts k)) 5 (nI (tp k)))) (zb w 2 (vp_updL (w 2) 6 (tv k))) t) rfl ?_
          refine zx.br (f1 := (10, [(0, .ref 1), (1, .int 3)], [])) (f2 := (16, [(0, .ref 1), (1, .int 3)], [])) rfl (fun c1 => absurd (of_decide_eq_true c1) (by decide)) (fun c1 => ?_)
          refine zx.adv 1 (f' := (17, [(0, .ref 1), (1, .int 3)], [.int 3])) (h' := zH (zb (zb v 1 (upd (v 1) 7 (nI (D + Mn + Gn)))) 2 (upd (upd (upd (v 2) 3 (nI (tn k))) 4 (ts k)) 5 (nI (tp k)))) (zb w 2 (vp_updL (w 2) 6 (tv k))) t) rfl ?_
          refine zx.br (f1 := (20, [(0, .ref 1), (1, .int 3)], [])) (f2 := (33, [(0, .ref 1), (1, .int 3)], [])) rfl (fun c2 => absurd (of_decide_eq_true c2) (by decide)) (fun c2 => ?_)
          refine zx.adv 1 (f' := (34, [(0, .ref 1), (1, .int 3)], [.int 3])) (h' := zH (zb (zb v 1 (upd (v 1) 7 (nI (D + Mn + Gn)))) 2 (upd (upd (upd (v 2) 3 (nI (tn k))) 4 (ts k)) 5 (nI (tp k)))) (zb w 2 (vp_updL (w 2) 6 (tv k))) t) rfl ?_
          refine zx.br (f1 := (51, [(0, .ref 1), (1, .int 3)], [])) (f2 := (37, [(0, .ref 1), (1, .int 3)], [])) rfl (fun c3 => absurd (of_decide_eq_true c3) (by decide)) (fun c3 => ?_)
          refine zx.adv 2 (f' := (41, [(0, .ref 1), (1, .int 3)], [.int (v 1 2)])) (h' := zH (zb (zb v 1 (upd (v 1) 7 (nI (D + Mn + Gn)))) 2 (upd (upd (upd (v 2) 3 (nI (tn k))) 4 (ts k)) 5 (nI (tp k)))) (zb w 2 (vp_updL (w 2) 6 (tv k))) t) rfl ?_
          rw [show (v 1 2) = 0 from h12x]
          refine zx.br (f1 := (44, [(0, .ref 1), (1, .int 3)], [])) (f2 := (51, [(0, .ref 1), (1, .int 3)], [])) rfl (fun c4 => ?_) (fun c4 => absurd (by decide) (of_decide_eq_false c4))
          refine zx.adv 2 (f' := (47, [(0, .ref 1), (1, .int 3)], [.int 6, .ref 1])) (h' := zH (zb (zb v 1 (upd (v 1) 7 (nI (D + Mn + Gn)))) 2 (upd (upd (upd (v 2) 3 (nI (tn k))) 4 (ts k)) 5 (nI (tp k)))) (zb w 2 (vp_updL (w 2) 6 (tv k))) t) rfl ?_
          refine zx.cl (v := some (.int 0)) (h' := zH (zb (zb v 1 (upd (upd (upd (v 1) 7 (nI (D + Mn + Gn))) 9 6) 10 (nI (tp k)))) 2 (upd (upd (upd (v 2) 3 (nI (tn k))) 4 (ts k)) 5 (nI (tp k)))) (zb w 2 (vp_updL (w 2) 6 (tv k))) t) rfl (zs_fail (v := (zb (zb v 1 (upd (v 1) 7 (nI (D + Mn + Gn)))) 2 (upd (upd (upd (v 2) 3 (nI (tn k))) 4 (ts k)) 5 (nI (tp k))))) (w := (zb w 2 (vp_updL (w 2) 6 (tv k)))) 6) ?_
          show zx zk_mt zk_ex Ls xs zm_296 (50, [(0, .ref 1), (1, .int 3)], [.int 0]) (zH (zb (zb v 1 (upd (upd (upd (v 1) 7 (nI (D + Mn + Gn))) 9 6) 10 (nI (tp k)))) 2 (upd (upd (upd (v 2) 3 (nI (tn k))) 4 (ts k)) 5 (nI (tp k)))) (zb w 2 (vp_updL (w 2) 6 (tv k))) t) _
          exact zx.rt rfl rfl (zQ_no (v' := (zb (zb v 1 (upd (upd (upd (v 1) 7 (nI (D + Mn + Gn))) 9 6) 10 (nI (tp k)))) 2 (upd (upd (upd (v 2) 3 (nI (tn k))) 4 (ts k)) 5 (nI (tp k))))) (w' := (zb w 2 (vp_updL (w 2) 6 (tv k)))) (f := 6) (p := (tp k)) hline rfl rfl ⟨fun r hr => (zb_un (k := 2) (by omega)).trans ((zb_un (k := 1) (by omega)).trans rfl), rfl, rfl, rfl, fun r h1 h2 => (zb_un (k := 2) (by omega)).trans rfl, h7⟩)
        · have h12x : v 1 2 = 1 := by rw [h12, hbg]; rfl
          have hbg1 : bg = 1 := hbg
          by_cases hcap : Gn < 4
          · have hline : zp_line tn ts tp tv k D Mn Gn Un bg l S = zp_goodL tn ts tp tv (tn k) D Mn Gn Un l S := by rw [zp_line_3 hj (by omega), if_pos hcap]
            refine zx.adv 1 (f' := (1, [(0, .ref 1)], [.ref 1])) (h' := zH (zb (zb v 1 (upd (v 1) 7 (nI (D + Mn + Gn)))) 2 (upd (upd (upd (v 2) 3 (nI (tn k))) 4 (ts k)) 5 (nI (tp k)))) (zb w 2 (vp_updL (w 2) 6 (tv k))) t) rfl ?_
            refine zx.cl (v := some (.int 3)) (h' := zH (zb (zb v 1 (upd (v 1) 7 (nI (D + Mn + Gn)))) 2 (upd (upd (upd (v 2) 3 (nI (tn k))) 4 (ts k)) 5 (nI (tp k)))) (zb w 2 (vp_updL (w 2) 6 (tv k))) t) rfl (by have ee := zs_lineOf (v := (zb (zb v 1 (upd (v 1) 7 (nI (D + Mn + Gn)))) 2 (upd (upd (upd (v 2) 3 (nI (tn k))) 4 (ts k)) 5 (nI (tp k))))) (w := (zb w 2 (vp_updL (w 2) 6 (tv k)))) (t := t) (Ls := Ls) (xs := xs); rw [show zr_lineOf ((zb (zb v 1 (upd (v 1) 7 (nI (D + Mn + Gn)))) 2 (upd (upd (upd (v 2) 3 (nI (tn k))) 4 (ts k)) 5 (nI (tp k)))) 2 4) ((zb w 2 (vp_updL (w 2) 6 (tv k))) 16) ((zb w 2 (vp_updL (w 2) 6 (tv k))) 2 6) = nI 3 from (zr_lineOf_eq hw).trans hj] at ee; exact ee) ?_
            show zx zk_mt zk_ex Ls xs zm_296 (4, [(0, .ref 1)], [.int 3]) (zH (zb (zb v 1 (upd (v 1) 7 (nI (D + Mn + Gn)))) 2 (upd (upd (upd (v 2) 3 (nI (tn k))) 4 (ts k)) 5 (nI (tp k)))) (zb w 2 (vp_updL (w 2) 6 (tv k))) t) _
            refine zx.adv 3 (f' := (7, [(0, .ref 1), (1, .int 3)], [.int (-1), .int 3])) (h' := zH (zb (zb v 1 (upd (v 1) 7 (nI (D + Mn + Gn)))) 2 (upd (upd (upd (v 2) 3 (nI (tn k))) 4 (ts k)) 5 (nI (tp k)))) (zb w 2 (vp_updL (w 2) 6 (tv k))) t) rfl ?_
            refine zx.br (f1 := (10, [(0, .ref 1), (1, .int 3)], [])) (f2 := (16, [(0, .ref 1), (1, .int 3)], [])) rfl (fun c1 => absurd (of_decide_eq_true c1) (by decide)) (fun c1 => ?_)
            refine zx.adv 1 (f' := (17, [(0, .ref 1), (1, .int 3)], [.int 3])) (h' := zH (zb (zb v 1 (upd (v 1) 7 (nI (D + Mn + Gn)))) 2 (upd (upd (upd (v 2) 3 (nI (tn k))) 4 (ts k)) 5 (nI (tp k)))) (zb w 2 (vp_updL (w 2) 6 (tv k))) t) rfl ?_
            refine zx.br (f1 := (20, [(0, .ref 1), (1, .int 3)], [])) (f2 := (33, [(0, .ref 1), (1, .int 3)], [])) rfl (fun c2 => absurd (of_decide_eq_true c2) (by decide)) (fun c2 => ?_)
            refine zx.adv 1 (f' := (34, [(0, .ref 1), (1, .int 3)], [.int 3])) (h' := zH (zb (zb v 1 (upd (v 1) 7 (nI (D + Mn + Gn)))) 2 (upd (upd (upd (v 2) 3 (nI (tn k))) 4 (ts k)) 5 (nI (tp k)))) (zb w 2 (vp_updL (w 2) 6 (tv k))) t) rfl ?_
            refine zx.br (f1 := (51, [(0, .ref 1), (1, .int 3)], [])) (f2 := (37, [(0, .ref 1), (1, .int 3)], [])) rfl (fun c3 => absurd (of_decide_eq_true c3) (by decide)) (fun c3 => ?_)
            refine zx.adv 2 (f' := (41, [(0, .ref 1), (1, .int 3)], [.int (v 1 2)])) (h' := zH (zb (zb v 1 (upd (v 1) 7 (nI (D + Mn + Gn)))) 2 (upd (upd (upd (v 2) 3 (nI (tn k))) 4 (ts k)) 5 (nI (tp k)))) (zb w 2 (vp_updL (w 2) 6 (tv k))) t) rfl ?_
            rw [show (v 1 2) = 1 from h12x]
            refine zx.br (f1 := (44, [(0, .ref 1), (1, .int 3)], [])) (f2 := (51, [(0, .ref 1), (1, .int 3)], [])) rfl (fun c4 => absurd (of_decide_eq_true c4) (by decide)) (fun c4 => ?_)
            refine zx.adv 2 (f' := (53, [(0, .ref 1), (1, .int 3)], [.int 3, .ref 1])) (h' := zH (zb (zb v 1 (upd (v 1) 7 (nI (D + Mn + Gn)))) 2 (upd (upd (upd (v 2) 3 (nI (tn k))) 4 (ts k)) 5 (nI (tp k)))) (zb w 2 (vp_updL (w 2) 6 (tv k))) t) rfl ?_
            refine zx.cl (v := some (.int 0)) (h' := zH (zb (zb v 1 (upd (v 1) 7 (nI (D + Mn + Gn)))) 2 (upd (upd (upd (v 2) 3 (nI (tn k))) 4 (ts k)) 5 (nI (tp k)))) (zb w 2 (vp_updL (w 2) 6 (tv k))) t) rfl (zs_full3_0 (v := (zb (zb v 1 (upd (v 1) 7 (nI (D + Mn + Gn)))) 2 (upd (upd (upd (v 2) 3 (nI (tn k))) 4 (ts k)) 5 (nI (tp k))))) (w := (zb w 2 (vp_updL (w 2) 6 (tv k)))) h48 hcap) ?_
            show zx zk_mt zk_ex Ls xs zm_296 (56, [(0, .ref 1), (1, .int 3)], [.int 0]) (zH (zb (zb v 1 (upd (v 1) 7 (nI (D + Mn + Gn)))) 2 (upd (upd (upd (v 2) 3 (nI (tn k))) 4 (ts k)) 5 (nI (tp k)))) (zb w 2 (vp_updL (w 2) 6 (tv k))) t) _
            refine zx.br (f1 := (65, [(0, .ref 1), (1, .int 3)], [])) (f2 := (59, [(0, .ref 1), (1, .int 3)], [])) rfl (fun c5 => ?_) (fun c5 => absurd (by decide) (of_decide_eq_false c5))
            refine zx.adv 2 (f' := (69, [(0, .ref 1), (1, .int 3)], [.ref 2])) (h' := zH (zb (zb v 1 (upd (v 1) 7 (nI (D + Mn + Gn)))) 2 (upd (upd (upd (v 2) 3 (nI (tn k))) 4 (ts k)) 5 (nI (tp k)))) (zb w 2 (vp_updL (w 2) 6 (tv k))) t) rfl ?_
            refine zx.cl (v := none) (h' := zH (zb (zb v 1 (upd (v 1) 7 (nI (D + Mn + Gn)))) 2 (upd (upd (upd (v 2) 3 (nI (tn (tn k)))) 4 (ts (tn k))) 5 (nI (tp (tn k))))) (zb w 2 (vp_updL (w 2) 6 (tv (tn k)))) t) rfl (hA.2 (zb (zb v 1 (upd (v 1) 7 (nI (D + Mn + Gn)))) 2 (upd (upd (upd (v 2) 3 (nI (tn k))) 4 (ts k)) 5 (nI (tp k)))) (zb w 2 (vp_updL (w 2) 6 (tv k))) t k hb hE hk) ?_
            show zx zk_mt zk_ex Ls xs zm_296 (72, [(0, .ref 1), (1, .int 3)], []) (zH (zb (zb v 1 (upd (v 1) 7 (nI (D + Mn + Gn)))) 2 (upd (upd (upd (v 2) 3 (nI (tn (tn k)))) 4 (ts (tn k))) 5 (nI (tp (tn k))))) (zb w 2 (vp_updL (w 2) 6 (tv (tn k)))) t) _
            refine zx.adv 1 (f' := (73, [(0, .ref 1), (1, .int 3)], [.int 3])) (h' := zH (zb (zb v 1 (upd (v 1) 7 (nI (D + Mn + Gn)))) 2 (upd (upd (upd (v 2) 3 (nI (tn (tn k)))) 4 (ts (tn k))) 5 (nI (tp (tn k))))) (zb w 2 (vp_updL (w 2) 6 (tv (tn k)))) t) rfl ?_
            refine zx.adv 2 (f' := (128, [(0, .ref 1), (1, .int 3)], [.ref 1])) (h' := zH (zb (zb v 1 (upd (v 1) 7 (nI (D + Mn + Gn)))) 2 (upd (upd (upd (v 2) 3 (nI (tn (tn k)))) 4 (ts (tn k))) 5 (nI (tp (tn k))))) (zb w 2 (vp_updL (w 2) 6 (tv (tn k)))) t) rfl ?_
            refine zx.cx rfl (zc_goodL (v := (zb (zb v 1 (upd (v 1) 7 (nI (D + Mn + Gn)))) 2 (upd (upd (upd (v 2) 3 (nI (tn (tn k)))) 4 (ts (tn k))) 5 (nI (tp (tn k)))))) (w := (zb w 2 (vp_updL (w 2) 6 (tv (tn k))))) (t := t) hA hE hb hT hw h7 (show zCls tn ts tp tv E (tn k) D Mn Gn Un bg l S (zb (zb v 1 (upd (v 1) 7 (nI (D + Mn + Gn)))) 2 (upd (upd (upd (v 2) 3 (nI (tn (tn k)))) 4 (ts (tn k))) 5 (nI (tp (tn k))))) (zb w 2 (vp_updL (w 2) 6 (tv (tn k)))) from ⟨⟨hA.1 k hk, rfl, rfl, rfl, rfl⟩, rfl, hN, h12, ⟨h41, h44, h48, h414⟩, hU4, fun r a b => ((zb_un (k := 2) (by omega)).trans ((zb_un (k := 1) (by omega)).trans (hl r a b)))⟩) hbg1 hcap) (fun r h2 hp => ?_)
            obtain ⟨b, hb01, hr⟩ := zQ_val hp
            subst hr
            exact zx.rt rfl (decide_eq_true hb01) (zQ.trans (v1 := (zb (zb v 1 (upd (v 1) 7 (nI (D + Mn + Gn)))) 2 (upd (upd (upd (v 2) 3 (nI (tn (tn k)))) 4 (ts (tn k))) 5 (nI (tp (tn k)))))) (w1 := (zb w 2 (vp_updL (w 2) 6 (tv (tn k))))) ⟨fun r hr => (zb_un (k := 2) (by omega)).trans ((zb_un (k := 1) (by omega)).trans rfl), rfl, rfl, rfl, fun r h1 h2 => (zb_un (k := 2) (by omega)).trans rfl, h7⟩ rfl (by rw [hline]; exact hp))
          · have hline : zp_line tn ts tp tv k D Mn Gn Un bg l S = .inr (5, tp k) := by rw [zp_line_3 hj (by omega), if_neg hcap]
            refine zx.adv 1 (f' := (1, [(0, .ref 1)], [.ref 1])) (h' := zH (zb (zb v 1 (upd (v 1) 7 (nI (D + Mn + Gn)))) 2 (upd (upd (upd (v 2) 3 (nI (tn k))) 4 (ts k)) 5 (nI (tp k)))) (zb w 2 (vp_updL (w 2) 6 (tv k))) t) rfl ?_
            refine zx.cl (v := some (.int 3)) (h' := zH (zb (zb v 1 (upd (v 1) 7 (nI (D + Mn + Gn)))) 2 (upd (upd (upd (v 2) 3 (nI (tn k))) 4 (ts k)) 5 (nI (tp k)))) (zb w 2 (vp_updL (w 2) 6 (tv k))) t) rfl (by have ee := zs_lineOf (v := (zb (zb v 1 (upd (v 1) 7 (nI (D + Mn + Gn)))) 2 (upd (upd (upd (v 2) 3 (nI (tn k))) 4 (ts k)) 5 (nI (tp k))))) (w := (zb w 2 (vp_updL (w 2) 6 (tv k)))) (t := t) (Ls := Ls) (xs := xs); rw [show zr_lineOf ((zb (zb v 1 (upd (v 1) 7 (nI (D + Mn + Gn)))) 2 (upd (upd (upd (v 2) 3 (nI (tn k))) 4 (ts k)) 5 (nI (tp k)))) 2 4) ((zb w 2 (vp_updL (w 2) 6 (tv k))) 16) ((zb w 2 (vp_updL (w 2) 6 (tv k))) 2 6) = nI 3 from (zr_lineOf_eq hw).trans hj] at ee; exact ee) ?_
            show zx zk_mt zk_ex Ls xs zm_296 (4, [(0, .ref 1)], [.int 3]) (zH (zb (zb v 1 (upd (v 1) 7 (nI (D + Mn + Gn)))) 2 (upd (upd (upd (v 2) 3 (nI (tn k))) 4 (ts k)) 5 (nI (tp k)))) (zb w 2 (vp_updL (w 2) 6 (tv k))) t) _
            refine zx.adv 3 (f' := (7, [(0, .ref 1), (1, .int 3)], [.int (-1), .int 3])) (h' := zH (zb (zb v 1 (upd (v 1) 7 (nI (D + Mn + Gn)))) 2 (upd (upd (upd (v 2) 3 (nI (tn k))) 4 (ts k)) 5 (nI (tp k)))) (zb w 2 (vp_updL (w 2) 6 (tv k))) t) rfl ?_
            refine zx.br (f1 := (10, [(0, .ref 1), (1, .int 3)], [])) (f2 := (16, [(0, .ref 1), (1, .int 3)], [])) rfl (fun c1 => absurd (of_decide_eq_true c1) (by decide)) (fun c1 => ?_)
            refine zx.adv 1 (f' := (17, [(0, .ref 1), (1, .int 3)], [.int 3])) (h' := zH (zb (zb v 1 (upd (v 1) 7 (nI (D + Mn + Gn)))) 2 (upd (upd (upd (v 2) 3 (nI (tn k))) 4 (ts k)) 5 (nI (tp k)))) (zb w 2 (vp_updL (w 2) 6 (tv k))) t) rfl ?_
            refine zx.br (f1 := (20, [(0, .ref 1), (1, .int 3)], [])) (f2 := (33, [(0, .ref 1), (1, .int 3)], [])) rfl (fun c2 => absurd (of_decide_eq_true c2) (by decide)) (fun c2 => ?_)
            refine zx.adv 1 (f' := (34, [(0, .ref 1), (1, .int 3)], [.int 3])) (h' := zH (zb (zb v 1 (upd (v 1) 7 (nI (D + Mn + Gn)))) 2 (upd (upd (upd (v 2) 3 (nI (tn k))) 4 (ts k)) 5 (nI (tp k)))) (zb w 2 (vp_updL (w 2) 6 (tv k))) t) rfl ?_
            refine zx.br (f1 := (51, [(0, .ref 1), (1, .int 3)], [])) (f2 := (37, [(0, .ref 1), (1, .int 3)], [])) rfl (fun c3 => absurd (of_decide_eq_true c3) (by decide)) (fun c3 => ?_)
            refine zx.adv 2 (f' := (41, [(0, .ref 1), (1, .int 3)], [.int (v 1 2)])) (h' := zH (zb (zb v 1 (upd (v 1) 7 (nI (D + Mn + Gn)))) 2 (upd (upd (upd (v 2) 3 (nI (tn k))) 4 (ts k)) 5 (nI (tp k)))) (zb w 2 (vp_updL (w 2) 6 (tv k))) t) rfl ?_
            rw [show (v 1 2) = 1 from h12x]
            refine zx.br (f1 := (44, [(0, .ref 1), (1, .int 3)], [])) (f2 := (51, [(0, .ref 1), (1, .int 3)], [])) rfl (fun c4 => absurd (of_decide_eq_true c4) (by decide)) (fun c4 => ?_)
            refine zx.adv 2 (f' := (53, [(0, .ref 1), (1, .int 3)], [.int 3, .ref 1])) (h' := zH (zb (zb v 1 (upd (v 1) 7 (nI (D + Mn + Gn)))) 2 (upd (upd (upd (v 2) 3 (nI (tn k))) 4 (ts k)) 5 (nI (tp k)))) (zb w 2 (vp_updL (w 2) 6 (tv k))) t) rfl ?_
            refine zx.cl (v := some (.int 1)) (h' := zH (zb (zb v 1 (upd (v 1) 7 (nI (D + Mn + Gn)))) 2 (upd (upd (upd (v 2) 3 (nI (tn k))) 4 (ts k)) 5 (nI (tp k)))) (zb w 2 (vp_updL (w 2) 6 (tv k))) t) rfl (zs_full3_1 (v := (zb (zb v 1 (upd (v 1) 7 (nI (D + Mn + Gn)))) 2 (upd (upd (upd (v 2) 3 (nI (tn k))) 4 (ts k)) 5 (nI (tp k))))) (w := (zb w 2 (vp_updL (w 2) 6 (tv k)))) h48 hcap (by omega)) ?_
            show zx zk_mt zk_ex Ls xs zm_296 (56, [(0, .ref 1), (1, .int 3)], [.int 1]) (zH (zb (zb v 1 (upd (v 1) 7 (nI (D + Mn + Gn)))) 2 (upd (upd (upd (v 2) 3 (nI (tn k))) 4 (ts k)) 5 (nI (tp k)))) (zb w 2 (vp_updL (w 2) 6 (tv k))) t) _
            refine zx.br (f1 := (65, [(0, .ref 1), (1, .int 3)], [])) (f2 := (59, [(0, .ref 1), (1, .int 3)], [])) rfl (fun c5 => absurd (of_decide_eq_true c5) (by decide)) (fun c5 => ?_)
            refine zx.adv 2 (f' := (61, [(0, .ref 1), (1, .int 3)], [.int 5, .ref 1])) (h' := zH (zb (zb v 1 (upd (v 1) 7 (nI (D + Mn + Gn)))) 2 (upd (upd (upd (v 2) 3 (nI (tn k))) 4 (ts k)) 5 (nI (tp k)))) (zb w 2 (vp_updL (w 2) 6 (tv k))) t) rfl ?_
            refine zx.cl (v := some (.int 0)) (h' := zH (zb (zb v 1 (upd (upd (upd (v 1) 7 (nI (D + Mn + Gn))) 9 5) 10 (nI (tp k)))) 2 (upd (upd (upd (v 2) 3 (nI (tn k))) 4 (ts k)) 5 (nI (tp k)))) (zb w 2 (vp_updL (w 2) 6 (tv k))) t) rfl (zs_fail (v := (zb (zb v 1 (upd (v 1) 7 (nI (D + Mn + Gn)))) 2 (upd (upd (upd (v 2) 3 (nI (tn k))) 4 (ts k)) 5 (nI (tp k))))) (w := (zb w 2 (vp_updL (w 2) 6 (tv k)))) 5) ?_
            show zx zk_mt zk_ex Ls xs zm_296 (64, [(0, .ref 1), (1, .int 3)], [.int 0]) (zH (zb (zb v 1 (upd (upd (upd (v 1) 7 (nI (D + Mn + Gn))) 9 5) 10 (nI (tp k)))) 2 (upd (upd (upd (v 2) 3 (nI (tn k))) 4 (ts k)) 5 (nI (tp k)))) (zb w 2 (vp_updL (w 2) 6 (tv k))) t) _
            exact zx.rt rfl rfl (zQ_no (v' := (zb (zb v 1 (upd (upd (upd (v 1) 7 (nI (D + Mn + Gn))) 9 5) 10 (nI (tp k)))) 2 (upd (upd (upd (v 2) 3 (nI (tn k))) 4 (ts k)) 5 (nI (tp k))))) (w' := (zb w 2 (vp_updL (w 2) 6 (tv k)))) (f := 5) (p := (tp k)) hline rfl rfl ⟨fun r hr => (zb_un (k := 2) (by omega)).trans ((zb_un (k := 1) (by omega)).trans rfl), rfl, rfl, rfl, fun r h1 h2 => (zb_un (k := 2) (by omega)).trans rfl, h7⟩)
      · have hj : zr_lineOf (ts k) zk_lw (tv k) = nI 4 := hj
        rcases hb01 with hbg | hbg
        · have h12x : v 1 2 = 0 := by rw [h12, hbg]; rfl
          have hline : zp_line tn ts tp tv k D Mn Gn Un bg l S = .inr (6, tp k) := zp_line_u (j := 4) (by decide) (by decide) hj hbg
          refine zx.adv 1 (f' := (1, [(0, .ref 1)], [.ref 1])) (h' := zH (zb (zb v 1 (upd (v 1) 7 (nI (D + Mn + Gn)))) 2 (upd (upd (upd (v 2) 3 (nI (tn k))) 4 (ts k)) 5 (nI (tp k)))) (zb w 2 (vp_updL (w 2) 6 (tv k))) t) rfl ?_
          refine zx.cl (v := some (.int 4)) (h' := zH (zb (zb v 1 (upd (v 1) 7 (nI (D + Mn + Gn)))) 2 (upd (upd (upd (v 2) 3 (nI (tn k))) 4 (ts k)) 5 (nI (tp k)))) (zb w 2 (vp_updL (w 2) 6 (tv k))) t) rfl (by have ee := zs_lineOf (v := (zb (zb v 1 (upd (v 1) 7 (nI (D + Mn + Gn)))) 2 (upd (upd (upd (v 2) 3 (nI (tn k))) 4 (ts k)) 5 (nI (tp k))))) (w := (zb w 2 (vp_updL (w 2) 6 (tv k)))) (t := t) (Ls := Ls) (xs := xs); rw [show zr_lineOf ((zb (zb v 1 (upd (v 1) 7 (nI (D + Mn + Gn)))) 2 (upd (upd (upd (v 2) 3 (nI (tn k))) 4 (ts k)) 5 (nI (tp k)))) 2 4) ((zb w 2 (vp_updL (w 2) 6 (tv k))) 16) ((zb w 2 (vp_updL (w 2) 6 (tv k))) 2 6) = nI 4 from (zr_lineOf_eq hw).trans hj] at ee; exact ee) ?_
          show zx zk_mt zk_ex Ls xs zm_296 (4, [(0, .ref 1)], [.int 4]) (zH (zb (zb v 1 (upd (v 1) 7 (nI (D + Mn + Gn)))) 2 (upd (upd (upd (v 2) 3 (nI (tn k))) 4 (ts k)) 5 (nI (tp k)))) (zb w 2 (vp_updL (w 2) 6 (tv k))) t) _
          refine zx.adv 3 (f' := (7, [(0, .ref 1), (1, .int 4)], [.int (-1), .int 4])) (h' := zH (zb (zb v 1 (upd (v 1) 7 (nI (D + Mn + Gn)))) 2 (upd (upd (upd (v 2) 3 (nI (tn k))) 4 (ts k)) 5 (nI (tp k)))) (zb w 2 (vp_updL (w 2) 6 (tv k))) t) rfl ?_
          refine zx.br (f1 := (10, [(0, .ref 1), (1, .int 4)], [])) (f2 := (16, [(0, .ref 1), (1, .int 4)], [])) rfl (fun c1 => absurd (of_decide_eq_true c1) (by decide)) (fun c1 => ?_)
          refine zx.adv 1 (f' := (17, [(0, .ref 1), (1, .int 4)], [.int 4])) (h' := zH (zb (zb v 1 (upd (v 1) 7 (nI (D + Mn + Gn)))) 2 (upd (upd (upd (v 2) 3 (nI (tn k))) 4 (ts k)) 5 (nI (tp k)))) (zb w 2 (vp_updL (w 2) 6 (tv k))) t) rfl ?_
          refine zx.br (f1 := (20, [(0, .ref 1), (1, .int 4)], [])) (f2 := (33, [(0, .ref 1), (1, .int 4)], [])) rfl (fun c2 => absurd (of_decide_eq_true c2) (by decide)) (fun c2 => ?_)
          refine zx.adv 1 (f' := (34, [(0, .ref 1), (1, .int 4)], [.int 4])) (h' := zH (zb (zb v 1 (upd (v 1) 7 (nI (D + Mn + Gn)))) 2 (upd (upd (upd (v 2) 3 (nI (tn k))) 4 (ts k)) 5 (nI (tp k)))) (zb w 2 (vp_updL (w 2) 6 (tv k))) t) rfl ?_
          refine zx.br (f1 := (51, [(0, .ref 1), (1, .int 4)], [])) (f2 := (37, [(0, .ref 1), (1, .int 4)], [])) rfl (fun c3 => absurd (of_decide_eq_true c3) (by decide)) (fun c3 => ?_)
          refine zx.adv 2 (f' := (41, [(0, .ref 1), (1, .int 4)], [.int (v 1 2)])) (h' := zH (zb (zb v 1 (upd (v 1) 7 (nI (D + Mn + Gn)))) 2 (upd (upd (upd (v 2) 3 (nI (tn k))) 4 (ts k)) 5 (nI (tp k)))) (zb w 2 (vp_updL (w 2) 6 (tv k))) t) rfl ?_
          rw [show (v 1 2) = 0 from h12x]
          refine zx.br (f1 := (44, [(0, .ref 1), (1, .int 4)], [])) (f2 := (51, [(0, .ref 1), (1, .int 4)], [])) rfl (fun c4 => ?_) (fun c4 => absurd (by decide) (of_decide_eq_false c4))
          refine zx.adv 2 (f' := (47, [(0, .ref 1), (1, .int 4)], [.int 6, .ref 1])) (h' := zH (zb (zb v 1 (upd (v 1) 7 (nI (D + Mn + Gn)))) 2 (upd (upd (upd (v 2) 3 (nI (tn k))) 4 (ts k)) 5 (nI (tp k)))) (zb w 2 (vp_updL (w 2) 6 (tv k))) t) rfl ?_
          refine zx.cl (v := some (.int 0)) (h' := zH (zb (zb v 1 (upd (upd (upd (v 1) 7 (nI (D + Mn + Gn))) 9 6) 10 (nI (tp k)))) 2 (upd (upd (upd (v 2) 3 (nI (tn k))) 4 (ts k)) 5 (nI (tp k)))) (zb w 2 (vp_updL (w 2) 6 (tv k))) t) rfl (zs_fail (v := (zb (zb v 1 (upd (v 1) 7 (nI (D + Mn + Gn)))) 2 (upd (upd (upd (v 2) 3 (nI (tn k))) 4 (ts k)) 5 (nI (tp k))))) (w := (zb w 2 (vp_updL (w 2) 6 (tv k)))) 6) ?_
          show zx zk_mt zk_ex Ls xs zm_296 (50, [(0, .ref 1), (1, .int 4)], [.int 0]) (zH (zb (zb v 1 (upd (upd (upd (v 1) 7 (nI (D + Mn + Gn))) 9 6) 10 (nI (tp k)))) 2 (upd (upd (upd (v 2) 3 (nI (tn k))) 4 (ts k)) 5 (nI (tp k)))) (zb w 2 (vp_updL (w 2) 6 (tv k))) t) _
          exact zx.rt rfl rfl (zQ_no (v' := (zb (zb v 1 (upd (upd (upd (v 1) 7 (nI (D + Mn + Gn))) 9 6) 10 (nI (tp k)))) 2 (upd (upd (upd (v 2) 3 (nI (tn k))) 4 (ts k)) 5 (nI (tp k))))) (w' := (zb w 2 (vp_updL (w 2) 6 (tv k)))) (f := 6) (p := (tp k)) hline rfl rfl ⟨fun r hr => (zb_un (k := 2) (by omega)).trans ((zb_un (k := 1) (by omega)).trans rfl), rfl, rfl, rfl, fun r h1 h2 => (zb_un (k := 2) (by omega)).trans rfl, h7⟩)
        · have h12x : v 1 2 = 1 := by rw [h12, hbg]; rfl
          have hbg1 : bg = 1 := hbg
          have hline : zp_line tn ts tp tv k D Mn Gn Un bg l S = zp_inL tn ts tp tv (tn k) D Mn Gn Un l S := by rw [zp_line_4 hj (by omega)]
          refine zx.adv 1 (f' := (1, [(0, .ref 1)], [.ref 1])) (h' := zH (zb (zb v 1 (upd (v 1) 7 (nI (D + Mn + Gn)))) 2 (upd (upd (upd (v 2) 3 (nI (tn k))) 4 (ts k)) 5 (nI (tp k)))) (zb w 2 (vp_updL (w 2) 6 (tv k))) t) rfl ?_
          refine zx.cl (v := some (.int 4)) (h' := zH (zb (zb v 1 (upd (v 1) 7 (nI (D + Mn + Gn)))) 2 (upd (upd (upd (v 2) 3 (nI (tn k))) 4 (ts k)) 5 (nI (tp k)))) (zb w 2 (vp_updL (w 2) 6 (tv k))) t) rfl (by have ee := zs_lineOf (v := (zb (zb v 1 (upd (v 1) 7 (nI (D + Mn + Gn)))) 2 (upd (upd (upd (v 2) 3 (nI (tn k))) 4 (ts k)) 5 (nI (tp k))))) (w := (zb w 2 (vp_updL (w 2) 6 (tv k)))) (t := t) (Ls := Ls) (xs := xs); rw [show zr_lineOf ((zb (zb v 1 (upd (v 1) 7 (nI (D + Mn + Gn)))) 2 (upd (upd (upd (v 2) 3 (nI (tn k))) 4 (ts k)) 5 (nI (tp k)))) 2 4) ((zb w 2 (vp_updL (w 2) 6 (tv k))) 16) ((zb w 2 (vp_updL (w 2) 6 (tv k))) 2 6) = nI 4 from (zr_lineOf_eq hw).trans hj] at ee; exact ee) ?_
          show zx zk_mt zk_ex Ls xs zm_296 (4, [(0, .ref 1)], [.int 4]) (zH (zb (zb v 1 (upd (v 1) 7 (nI (D + Mn + Gn)))) 2 (upd (upd (upd (v 2) 3 (nI (tn k))) 4 (ts k)) 5 (nI (tp k)))) (zb w 2 (vp_updL (w 2) 6 (tv k))) t) _
          refine zx.adv 3 (f' := (7, [(0, .ref 1), (1, .int 4)], [.int (-1), .int 4])) (h' := zH (zb (zb v 1 (upd (v 1) 7 (nI (D + Mn + Gn)))) 2 (upd (upd (upd (v 2) 3 (nI (tn k))) 4 (ts k)) 5 (nI (tp k)))) (zb w 2 (vp_updL (w 2) 6 (tv k))) t) rfl ?_
          refine zx.br (f1 := (10, [(0, .ref 1), (1, .int 4)], [])) (f2 := (16, [(0, .ref 1), (1, .int 4)], [])) rfl (fun c1 => absurd (of_decide_eq_true c1) (by decide)) (fun c1 => ?_)
          refine zx.adv 1 (f' := (17, [(0, .ref 1), (1, .int 4)], [.int 4])) (h' := zH (zb (zb v 1 (upd (v 1) 7 (nI (D + Mn + Gn)))) 2 (upd (upd (upd (v 2) 3 (nI (tn k))) 4 (ts k)) 5 (nI (tp k)))) (zb w 2 (vp_updL (w 2) 6 (tv k))) t) rfl ?_
          refine zx.br (f1 := (20, [(0, .ref 1), (1, .int 4)], [])) (f2 := (33, [(0, .ref 1), (1, .int 4)], [])) rfl (fun c2 => absurd (of_decide_eq_true c2) (by decide)) (fun c2 => ?_)
          refine zx.adv 1 (f' := (34, [(0, .ref 1), (1, .int 4)], [.int 4])) (h' := zH (zb (zb v 1 (upd (v 1) 7 (nI (D + Mn + Gn)))) 2 (upd (upd (upd (v 2) 3 (nI (tn k))) 4 (ts k)) 5 (nI (tp k)))) (zb w 2 (vp_updL (w 2) 6 (tv k))) t) rfl ?_
          refine zx.br (f1 := (51, [(0, .ref 1), (1, .int 4)], [])) (f2 := (37, [(0, .ref 1), (1, .int 4)], [])) rfl (fun c3 => absurd (of_decide_eq_true c3) (by decide)) (fun c3 => ?_)
          refine zx.adv 2 (f' := (41, [(0, .ref 1), (1, .int 4)], [.int (v 1 2)])) (h' := zH (zb (zb v 1 (upd (v 1) 7 (nI (D + Mn + Gn)))) 2 (upd (upd (upd (v 2) 3 (nI (tn k))) 4 (ts k)) 5 (nI (tp k)))) (zb w 2 (vp_updL (w 2) 6 (tv k))) t) rfl ?_
          rw [show (v 1 2) = 1 from h12x]
          refine zx.br (f1 := (44, [(0, .ref 1), (1, .int 4)], [])) (f2 := (51, [(0, .ref 1), (1, .int 4)], [])) rfl (fun c4 => absurd (of_decide_eq_true c4) (by decide)) (fun c4 => ?_)
          refine zx.adv 2 (f' := (53, [(0, .ref 1), (1, .int 4)], [.int 4, .ref 1])) (h' := zH (zb (zb v 1 (upd (v 1) 7 (nI (D + Mn + Gn)))) 2 (upd (upd (upd (v 2) 3 (nI (tn k))) 4 (ts k)) 5 (nI (tp k)))) (zb w 2 (vp_updL (w 2) 6 (tv k))) t) rfl ?_
          refine zx.cl (v := some (.int 0)) (h' := zH (zb (zb v 1 (upd (v 1) 7 (nI (D + Mn + Gn)))) 2 (upd (upd (upd (v 2) 3 (nI (tn k))) 4 (ts k)) 5 (nI (tp k)))) (zb w 2 (vp_updL (w 2) 6 (tv k))) t) rfl (zs_full4_0 (v := (zb (zb v 1 (upd (v 1) 7 (nI (D + Mn + Gn)))) 2 (upd (upd (upd (v 2) 3 (nI (tn k))) 4 (ts k)) 5 (nI (tp k))))) (w := (zb w 2 (vp_updL (w 2) 6 (tv k))))) ?_
          show zx zk_mt zk_ex Ls xs zm_296 (56, [(0, .ref 1), (1, .int 4)], [.int 0]) (zH (zb (zb v 1 (upd (v 1) 7 (nI (D + Mn + Gn)))) 2 (upd (upd (upd (v 2) 3 (nI (tn k))) 4 (ts k)) 5 (nI (tp k)))) (zb w 2 (vp_updL (w 2) 6 (tv k))) t) _
          refine zx.br (f1 := (65, [(0, .ref 1), (1, .int 4)], [])) (f2 := (59, [(0, .ref 1), (1, .int 4)], [])) rfl (fun c5 => ?_) (fun c5 => absurd (by decide) (of_decide_eq_false c5))
          refine zx.adv 2 (f' := (69, [(0, .ref 1), (1, .int 4)], [.ref 2])) (h' := zH (zb (zb v 1 (upd (v 1) 7 (nI (D + Mn + Gn)))) 2 (upd (upd (upd (v 2) 3 (nI (tn k))) 4 (ts k)) 5 (nI (tp k)))) (zb w 2 (vp_updL (w 2) 6 (tv k))) t) rfl ?_
          refine zx.cl (v := none) (h' := zH (zb (zb v 1 (upd (v 1) 7 (nI (D + Mn + Gn)))) 2 (upd (upd (upd (v 2) 3 (nI (tn (tn k)))) 4 (ts (tn k))) 5 (nI (tp (tn k))))) (zb w 2 (vp_updL (w 2) 6 (tv (tn k)))) t) rfl (hA.2 (zb (zb v 1 (upd (v 1) 7 (nI (D + Mn + Gn)))) 2 (upd (upd (upd (v 2) 3 (nI (tn k))) 4 (ts k)) 5 (nI (tp k)))) (zb w 2 (vp_updL (w 2) 6 (tv k))) t k hb hE hk) ?_
          show zx zk_mt zk_ex Ls xs zm_296 (72, [(0, .ref 1), (1, .int 4)], []) (zH (zb (zb v 1 (upd (v 1) 7 (nI (D + Mn + Gn)))) 2 (upd (upd (upd (v 2) 3 (nI (tn (tn k)))) 4 (ts (tn k))) 5 (nI (tp (tn k))))) (zb w 2 (vp_updL (w 2) 6 (tv (tn k)))) t) _
          refine zx.adv 1 (f' := (73, [(0, .ref 1), (1, .int 4)], [.int 4])) (h' := zH (zb (zb v 1 (upd (v 1) 7 (nI (D + Mn + Gn)))) 2 (upd (upd (upd (v 2) 3 (nI (tn (tn k)))) 4 (ts (tn k))) 5 (nI (tp (tn k))))) (zb w 2 (vp_updL (w 2) 6 (tv (tn k)))) t) rfl ?_
          refine zx.adv 2 (f' := (133, [(0, .ref 1), (1, .int 4)], [.ref 1])) (h' := zH (zb (zb v 1 (upd (v 1) 7 (nI (D + Mn + Gn)))) 2 (upd (upd (upd (v 2) 3 (nI (tn (tn k)))) 4 (ts (tn k))) 5 (nI (tp (tn k))))) (zb w 2 (vp_updL (w 2) 6 (tv (tn k)))) t) rfl ?_
          refine zx.cx rfl (zc_inL (v := (zb (zb v 1 (upd (v 1) 7 (nI (D + Mn + Gn)))) 2 (upd (upd (upd (v 2) 3 (nI (tn (tn k)))) 4 (ts (tn k))) 5 (nI (tp (tn k)))))) (w := (zb w 2 (vp_updL (w 2) 6 (tv (tn k))))) (t := t) hA hE hb hT hw h7 (show zCls tn ts tp tv E (tn k) D Mn Gn Un bg l S (zb (zb v 1 (upd (v 1) 7 (nI (D + Mn + Gn)))) 2 (upd (upd (upd (v 2) 3 (nI (tn (tn k)))) 4 (ts (tn k))) 5 (nI (tp (tn k))))) (zb w 2 (vp_updL (w 2) 6 (tv (tn k)))) from ⟨⟨hA.1 k hk, rfl, rfl, rfl, rfl⟩, rfl, hN, h12, ⟨h41, h44, h48, h414⟩, hU4, fun r a b => ((zb_un (k := 2) (by omega)).trans ((zb_un (k := 1) (by omega)).trans (hl r a b)))⟩) hbg1) (fun r h2 hp => ?_)
          obtain ⟨b, hb01, hr⟩ := zQ_val hp
          subst hr
          exact zx.rt rfl (decide_eq_true hb01) (zQ.trans (v1 := (zb (zb v 1 (upd (v 1) 7 (nI (D + Mn + Gn)))) 2 (upd (upd (upd (v 2) 3 (nI (tn (tn k)))) 4 (ts (tn k))) 5 (nI (tp (tn k)))))) (w1 := (zb w 2 (vp_updL (w 2) 6 (tv (tn k))))) ⟨fun r hr => (zb_un (k := 2) (by omega)).trans ((zb_un (k := 1) (by omega)).trans rfl), rfl, rfl, rfl, fun r h1 h2 => (zb_un (k := 2) (by omega)).trans rfl, h7⟩ rfl (by rw [hline]; exact hp))
      · have hj : zr_lineOf (ts k) zk_lw (tv k) = nI 5 := hj
        rcases hb01 with hbg | hbg
        · have h12x : v 1 2 = 0 := by rw [h12, hbg]; rfl
          have hline : zp_line tn ts tp tv k D Mn Gn Un bg l S = .inr (6, tp k) := zp_line_u (j := 5) (by decide) (by decide) hj hbg
          refine zx.adv 1 (f' := (1, [(0, .ref 1)], [.ref 1])) (h' := zH (zb (zb v 1 (upd (v 1) 7 (nI (D + Mn + Gn)))) 2 (upd (upd (upd (v 2) 3 (nI (tn k))) 4 (ts k)) 5 (nI (tp k)))) (zb w 2 (vp_updL (w 2) 6 (tv k))) t) rfl ?_
          refine zx.cl (v := some (.int 5)) (h' := zH (zb (zb v 1 (upd (v 1) 7 (nI (D + Mn + Gn)))) 2 (upd (upd (upd (v 2) 3 (nI (tn k))) 4 (ts k)) 5 (nI (tp k)))) (zb w 2 (vp_updL (w 2) 6 (tv k))) t) rfl (by have ee := zs_lineOf (v := (zb (zb v 1 (upd (v 1) 7 (nI (D + Mn + Gn)))) 2 (upd (upd (upd (v 2) 3 (nI (tn k))) 4 (ts k)) 5 (nI (tp k))))) (w := (zb w 2 (vp_updL (w 2) 6 (tv k)))) (t := t) (Ls := Ls) (xs := xs); rw [show zr_lineOf ((zb (zb v 1 (upd (v 1) 7 (nI (D + Mn + Gn)))) 2 (upd (upd (upd (v 2) 3 (nI (tn k))) 4 (ts k)) 5 (nI (tp k)))) 2 4) ((zb w 2 (vp_updL (w 2) 6 (tv k))) 16) ((zb w 2 (vp_updL (w 2) 6 (tv k))) 2 6) = nI 5 from (zr_lineOf_eq hw).trans hj] at ee; exact ee) ?_
          show zx zk_mt zk_ex Ls xs zm_296 (4, [(0, .ref 1)], [.int 5]) (zH (zb (zb v 1 (upd (v 1) 7 (nI (D + Mn + Gn)))) 2 (upd (upd (upd (v 2) 3 (nI (tn k))) 4 (ts k)) 5 (nI (tp k)))) (zb w 2 (vp_updL (w 2) 6 (tv k))) t) _
          refine zx.adv 3 (f' := (7, [(0, .ref 1), (1, .int 5)], [.int (-1), .int 5])) (h' := zH (zb (zb v 1 (upd (v 1) 7 (nI (D + Mn + Gn)))) 2 (upd (upd (upd (v 2) 3 (nI (tn k))) 4 (ts k)) 5 (nI (tp k)))) (zb w 2 (vp_updL (w 2) 6 (tv k))) t) rfl ?_
          refine zx.br (f1 := (10, [(0, .ref 1), (1, .int 5)], [])) (f2 := (16, [(0, .ref 1), (1, .int 5)], [])) rfl (fun c1 => absurd (of_decide_eq_true c1) (by decide)) (fun c1 => ?_)
          refine zx.adv 1 (f' := (17, [(0, .ref 1), (1, .int 5)], [.int 5])) (h' := zH (zb (zb v 1 (upd (v 1) 7 (nI (D + Mn + Gn)))) 2 (upd (upd (upd (v 2) 3 (nI (tn k))) 4 (ts k)) 5 (nI (tp k)))) (zb w 2 (vp_updL (w 2) 6 (tv k))) t) rfl ?_
          refine zx.br (f1 := (20, [(0, .ref 1), (1, .int 5)], [])) (f2 := (33, [(0, .ref 1), (1, .int 5)], [])) rfl (fun c2 => absurd (of_decide_eq_true c2) (by decide)) (fun c2 => ?_)
          refine zx.adv 1 (f' := (34, [(0, .ref 1), (1, .int 5)], [.int 5])) (h' := zH (zb (zb v 1 (upd (v 1) 7 (nI (D + Mn + Gn)))) 2 (upd (upd (upd (v 2) 3 (nI (tn k))) 4 (ts k)) 5 (nI (tp k)))) (zb w 2 (vp_updL (w 2) 6 (tv k))) t) rfl ?_
          refine zx.br (f1 := (51, [(0, .ref 1), (1, .int 5)], [])) (f2 := (37, [(0, .ref 1), (1, .int 5)], [])) rfl (fun c3 => absurd (of_decide_eq_true c3) (by decide)) (fun c3 => ?_)
          refine zx.adv 2 (f' := (41, [(0, .ref 1), (1, .int 5)], [.int (v 1 2)])) (h' := zH (zb (zb v 1 (upd (v 1) 7 (nI (D + Mn + Gn)))) 2 (upd (upd (upd (v 2) 3 (nI (tn k))) 4 (ts k)) 5 (nI (tp k)))) (zb w 2 (vp_updL (w 2) 6 (tv k))) t) rfl ?_
          rw [show (v 1 2) = 0 from h12x]
          refine zx.br (f1 := (44, [(0, .ref 1), (1, .int 5)], [])) (f2 := (51, [(0, .ref 1), (1, .int 5)], [])) rfl (fun c4 => ?_) (fun c4 => absurd (by decide) (of_decide_eq_false c4))
          refine zx.adv 2 (f' := (47, [(0, .ref 1), (1, .int 5)], [.int 6, .ref 1])) (h' := zH (zb (zb v 1 (upd (v 1) 7 (nI (D + Mn + Gn)))) 2 (upd (upd (upd (v 2) 3 (nI (tn k))) 4 (ts k)) 5 (nI (tp k)))) (zb w 2 (vp_updL (w 2) 6 (tv k))) t) rfl ?_
          refine zx.cl (v := some (.int 0)) (h' := zH (zb (zb v 1 (upd (upd (upd (v 1) 7 (nI (D + Mn + Gn))) 9 6) 10 (nI (tp k)))) 2 (upd (upd (upd (v 2) 3 (nI (tn k))) 4 (ts k)) 5 (nI (tp k)))) (zb w 2 (vp_updL (w 2) 6 (tv k))) t) rfl (zs_fail (v := (zb (zb v 1 (upd (v 1) 7 (nI (D + Mn + Gn)))) 2 (upd (upd (upd (v 2) 3 (nI (tn k))) 4 (ts k)) 5 (nI (tp k))))) (w := (zb w 2 (vp_updL (w 2) 6 (tv k)))) 6) ?_
          show zx zk_mt zk_ex Ls xs zm_296 (50, [(0, .ref 1), (1, .int 5)], [.int 0]) (zH (zb (zb v 1 (upd (upd (upd (v 1) 7 (nI (D + Mn + Gn))) 9 6) 10 (nI (tp k)))) 2 (upd (upd (upd (v 2) 3 (nI (tn k))) 4 (ts k)) 5 (nI (tp k)))) (zb w 2 (vp_updL (w 2) 6 (tv k))) t) _
          exact zx.rt rfl rfl (zQ_no (v' := (zb (zb v 1 (upd (upd (upd (v 1) 7 (nI (D + Mn + Gn))) 9 6) 10 (nI (tp k)))) 2 (upd (upd (upd (v 2) 3 (nI (tn k))) 4 (ts k)) 5 (nI (tp k))))) (w' := (zb w 2 (vp_updL (w 2) 6 (tv k)))) (f := 6) (p := (tp k)) hline rfl rfl ⟨fun r hr => (zb_un (k := 2) (by omega)).trans ((zb_un (k := 1) (by omega)).trans rfl), rfl, rfl, rfl, fun r h1 h2 => (zb_un (k := 2) (by omega)).trans rfl, h7⟩)
        · have h12x : v 1 2 = 1 := by rw [h12, hbg]; rfl
          have hbg1 : bg = 1 := hbg
          by_cases hcap : Un < 4
          · have hline : zp_line tn ts tp tv k D Mn Gn Un bg l S = zp_unsureL tn ts tp tv (tn k) D Mn Gn Un l S := by rw [zp_line_5 hj (by omega), if_pos hcap]
            refine zx.adv 1 (f' := (1, [(0, .ref 1)], [.ref 1])) (h' := zH (zb (zb v 1 (upd (v 1) 7 (nI (D + Mn + Gn)))) 2 (upd (upd (upd (v 2) 3 (nI (tn k))) 4 (ts k)) 5 (nI (tp k)))) (zb w 2 (vp_updL (w 2) 6 (tv k))) t) rfl ?_
            refine zx.cl (v := some (.int 5)) (h' := zH (zb (zb v 1 (upd (v 1) 7 (nI (D + Mn + Gn)))) 2 (upd (upd (upd (v 2) 3 (nI (tn k))) 4 (ts k)) 5 (nI (tp k)))) (zb w 2 (vp_updL (w 2) 6 (tv k))) t) rfl (by have ee := zs_lineOf (v := (zb (zb v 1 (upd (v 1) 7 (nI (D + Mn + Gn)))) 2 (upd (upd (upd (v 2) 3 (nI (tn k))) 4 (ts k)) 5 (nI (tp k))))) (w := (zb w 2 (vp_updL (w 2) 6 (tv k)))) (t := t) (Ls := Ls) (xs := xs); rw [show zr_lineOf ((zb (zb v 1 (upd (v 1) 7 (nI (D + Mn + Gn)))) 2 (upd (upd (upd (v 2) 3 (nI (tn k))) 4 (ts k)) 5 (nI (tp k)))) 2 4) ((zb w 2 (vp_updL (w 2) 6 (tv k))) 16) ((zb w 2 (vp_updL (w 2) 6 (tv k))) 2 6) = nI 5 from (zr_lineOf_eq hw).trans hj] at ee; exact ee) ?_
            show zx zk_mt zk_ex Ls xs zm_296 (4, [(0, .ref 1)], [.int 5]) (zH (zb (zb v 1 (upd (v 1) 7 (nI (D + Mn + Gn)))) 2 (upd (upd (upd (v 2) 3 (nI (tn k))) 4 (ts k)) 5 (nI (tp k)))) (zb w 2 (vp_updL (w 2) 6 (tv k))) t) _
            refine zx.adv 3 (f' := (7, [(0, .ref 1), (1, .int 5)], [.int (-1), .int 5])) (h' := zH (zb (zb v 1 (upd (v 1) 7 (nI (D + Mn + Gn)))) 2 (upd (upd (upd (v 2) 3 (nI (tn k))) 4 (ts k)) 5 (nI (tp k)))) (zb w 2 (vp_updL (w 2) 6 (tv k))) t) rfl ?_
            refine zx.br (f1 := (10, [(0, .ref 1), (1, .int 5)], [])) (f2 := (16, [(0, .ref 1), (1, .int 5)], [])) rfl (fun c1 => absurd (of_decide_eq_true c1) (by decide)) (fun c1 => ?_)
            refine zx.adv 1 (f' := (17, [(0, .ref 1), (1, .int 5)], [.int 5])) (h' := zH (zb (zb v 1 (upd (v 1) 7 (nI (D + Mn + Gn)))) 2 (upd (upd (upd (v 2) 3 (nI (tn k))) 4 (ts k)) 5 (nI (tp k)))) (zb w 2 (vp_updL (w 2) 6 (tv k))) t) rfl ?_
            refine zx.br (f1 := (20, [(0, .ref 1), (1, .int 5)], [])) (f2 := (33, [(0, .ref 1), (1, .int 5)], [])) rfl (fun c2 => absurd (of_decide_eq_true c2) (by decide)) (fun c2 => ?_)
            refine zx.adv 1 (f' := (34, [(0, .ref 1), (1, .int 5)], [.int 5])) (h' := zH (zb (zb v 1 (upd (v 1) 7 (nI (D + Mn + Gn)))) 2 (upd (upd (upd (v 2) 3 (nI (tn k))) 4 (ts k)) 5 (nI (tp k)))) (zb w 2 (vp_updL (w 2) 6 (tv k))) t) rfl ?_
            refine zx.br (f1 := (51, [(0, .ref 1), (1, .int 5)], [])) (f2 := (37, [(0, .ref 1), (1, .int 5)], [])) rfl (fun c3 => absurd (of_decide_eq_true c3) (by decide)) (fun c3 => ?_)
            refine zx.adv 2 (f' := (41, [(0, .ref 1), (1, .int 5)], [.int (v 1 2)])) (h' := zH (zb (zb v 1 (upd (v 1) 7 (nI (D + Mn + Gn)))) 2 (upd (upd (upd (v 2) 3 (nI (tn k))) 4 (ts k)) 5 (nI (tp k)))) (zb w 2 (vp_updL (w 2) 6 (tv k))) t) rfl ?_
            rw [show (v 1 2) = 1 from h12x]
            refine zx.br (f1 := (44, [(0, .ref 1), (1, .int 5)], [])) (f2 := (51, [(0, .ref 1), (1, .int 5)], [])) rfl (fun c4 => absurd (of_decide_eq_true c4) (by decide)) (fun c4 => ?_)
            refine zx.adv 2 (f' := (53, [(0, .ref 1), (1, .int 5)], [.int 5, .ref 1])) (h' := zH (zb (zb v 1 (upd (v 1) 7 (nI (D + Mn + Gn)))) 2 (upd (upd (upd (v 2) 3 (nI (tn k))) 4 (ts k)) 5 (nI (tp k)))) (zb w 2 (vp_updL (w 2) 6 (tv k))) t) rfl ?_
            refine zx.cl (v := some (.int 0)) (h' := zH (zb (zb v 1 (upd (v 1) 7 (nI (D + Mn + Gn)))) 2 (upd (upd (upd (v 2) 3 (nI (tn k))) 4 (ts k)) 5 (nI (tp k)))) (zb w 2 (vp_updL (w 2) 6 (tv k))) t) rfl (zs_full5_0 (v := (zb (zb v 1 (upd (v 1) 7 (nI (D + Mn + Gn)))) 2 (upd (upd (upd (v 2) 3 (nI (tn k))) 4 (ts k)) 5 (nI (tp k))))) (w := (zb w 2 (vp_updL (w 2) 6 (tv k)))) h414 hcap) ?_
            show zx zk_mt zk_ex Ls xs zm_296 (56, [(0, .ref 1), (1, .int 5)], [.int 0]) (zH (zb (zb v 1 (upd (v 1) 7 (nI (D + Mn + Gn)))) 2 (upd (upd (upd (v 2) 3 (nI (tn k))) 4 (ts k)) 5 (nI (tp k)))) (zb w 2 (vp_updL (w 2) 6 (tv k))) t) _
            refine zx.br (f1 := (65, [(0, .ref 1), (1, .int 5)], [])) (f2 := (59, [(0, .ref 1), (1, .int 5)], [])) rfl (fun c5 => ?_) (fun c5 => absurd (by decide) (of_decide_eq_false c5))
            refine zx.adv 2 (f' := (69, [(0, .ref 1), (1, .int 5)], [.ref 2])) (h' := zH (zb (zb v 1 (upd (v 1) 7 (nI (D + Mn + Gn)))) 2 (upd (upd (upd (v 2) 3 (nI (tn k))) 4 (ts k)) 5 (nI (tp k)))) (zb w 2 (vp_updL (w 2) 6 (tv k))) t) rfl ?_
            refine zx.cl (v := none) (h' := zH (zb (zb v 1 (upd (v 1) 7 (nI (D + Mn + Gn)))) 2 (upd (upd (upd (v 2) 3 (nI (tn (tn k)))) 4 (ts (tn k))) 5 (nI (tp (tn k))))) (zb w 2 (vp_updL (w 2) 6 (tv (tn k)))) t) rfl (hA.2 (zb (zb v 1 (upd (v 1) 7 (nI (D + Mn + Gn)))) 2 (upd (upd (upd (v 2) 3 (nI (tn k))) 4 (ts k)) 5 (nI (tp k)))) (zb w 2 (vp_updL (w 2) 6 (tv k))) t k hb hE hk) ?_
            show zx zk_mt zk_ex Ls xs zm_296 (72, [(0, .ref 1), (1, .int 5)], []) (zH (zb (zb v 1 (upd (v 1) 7 (nI (D + Mn + Gn)))) 2 (upd (upd (upd (v 2) 3 (nI (tn (tn k)))) 4 (ts (tn k))) 5 (nI (tp (tn k))))) (zb w 2 (vp_updL (w 2) 6 (tv (tn k)))) t) _
            refine zx.adv 1 (f' := (73, [(0, .ref 1), (1, .int 5)], [.int 5])) (h' := zH (zb (zb v 1 (upd (v 1) 7 (nI (D + Mn + Gn)))) 2 (upd (upd (upd (v 2) 3 (nI (tn (tn k)))) 4 (ts (tn k))) 5 (nI (tp (tn k))))) (zb w 2 (vp_updL (w 2) 6 (tv (tn k)))) t) rfl ?_
            refine zx.adv 2 (f' := (138, [(0, .ref 1), (1, .int 5)], [.ref 1])) (h' := zH (zb (zb v 1 (upd (v 1) 7 (nI (D + Mn + Gn)))) 2 (upd (upd (upd (v 2) 3 (nI (tn (tn k)))) 4 (ts (tn k))) 5 (nI (tp (tn k))))) (zb w 2 (vp_updL (w 2) 6 (tv (tn k)))) t) rfl ?_
            refine zx.cx rfl (zc_unsureL (v := (zb (zb v 1 (upd (v 1) 7 (nI (D + Mn + Gn)))) 2 (upd (upd (upd (v 2) 3 (nI (tn (tn k)))) 4 (ts (tn k))) 5 (nI (tp (tn k)))))) (w := (zb w 2 (vp_updL (w 2) 6 (tv (tn k))))) (t := t) hA hE hb hT hw h7 (show zCls tn ts tp tv E (tn k) D Mn Gn Un bg l S (zb (zb v 1 (upd (v 1) 7 (nI (D + Mn + Gn)))) 2 (upd (upd (upd (v 2) 3 (nI (tn (tn k)))) 4 (ts (tn k))) 5 (nI (tp (tn k))))) (zb w 2 (vp_updL (w 2) 6 (tv (tn k)))) from ⟨⟨hA.1 k hk, rfl, rfl, rfl, rfl⟩, rfl, hN, h12, ⟨h41, h44, h48, h414⟩, hU4, fun r a b => ((zb_un (k := 2) (by omega)).trans ((zb_un (k := 1) (by omega)).trans (hl r a b)))⟩) hbg1 hcap) (fun r h2 hp => ?_)
            obtain ⟨b, hb01, hr⟩ := zQ_val hp
            subst hr
            exact zx.rt rfl (decide_eq_true hb01) (zQ.trans (v1 := (zb (zb v 1 (upd (v 1) 7 (nI (D + Mn + Gn)))) 2 (upd (upd (upd (v 2) 3 (nI (tn (tn k)))) 4 (ts (tn k))) 5 (nI (tp (tn k)))))) (w1 := (zb w 2 (vp_updL (w 2) 6 (tv (tn k))))) ⟨fun r hr => (zb_un (k := 2) (by omega)).trans ((zb_un (k := 1) (by omega)).trans rfl), rfl, rfl, rfl, fun r h1 h2 => (zb_un (k := 2) (by omega)).trans rfl, h7⟩ rfl (by rw [hline]; exact hp))
          · have hline : zp_line tn ts tp tv k D Mn Gn Un bg l S = .inr (5, tp k) := by rw [zp_line_5 hj (by omega), if_neg hcap]
            refine zx.adv 1 (f' := (1, [(0, .ref 1)], [.ref 1])) (h' := zH (zb (zb v 1 (upd (v 1) 7 (nI (D + Mn + Gn)))) 2 (upd (upd (upd (v 2) 3 (nI (tn k))) 4 (ts k)) 5 (nI (tp k)))) (zb w 2 (vp_updL (w 2) 6 (tv k))) t) rfl ?_
            refine zx.cl (v := some (.int 5)) (h' := zH (zb (zb v 1 (upd (v 1) 7 (nI (D + Mn + Gn)))) 2 (upd (upd (upd (v 2) 3 (nI (tn k))) 4 (ts k)) 5 (nI (tp k)))) (zb w 2 (vp_updL (w 2) 6 (tv k))) t) rfl (by have ee := zs_lineOf (v := (zb (zb v 1 (upd (v 1) 7 (nI (D + Mn + Gn)))) 2 (upd (upd (upd (v 2) 3 (nI (tn k))) 4 (ts k)) 5 (nI (tp k))))) (w := (zb w 2 (vp_updL (w 2) 6 (tv k)))) (t := t) (Ls := Ls) (xs := xs); rw [show zr_lineOf ((zb (zb v 1 (upd (v 1) 7 (nI (D + Mn + Gn)))) 2 (upd (upd (upd (v 2) 3 (nI (tn k))) 4 (ts k)) 5 (nI (tp k)))) 2 4) ((zb w 2 (vp_updL (w 2) 6 (tv k))) 16) ((zb w 2 (vp_updL (w 2) 6 (tv k))) 2 6) = nI 5 from (zr_lineOf_eq hw).trans hj] at ee; exact ee) ?_
            show zx zk_mt zk_ex Ls xs zm_296 (4, [(0, .ref 1)], [.int 5]) (zH (zb (zb v 1 (upd (v 1) 7 (nI (D + Mn + Gn)))) 2 (upd (upd (upd (v 2) 3 (nI (tn k))) 4 (ts k)) 5 (nI (tp k)))) (zb w 2 (vp_updL (w 2) 6 (tv k))) t) _
            refine zx.adv 3 (f' := (7, [(0, .ref 1), (1, .int 5)], [.int (-1), .int 5])) (h' := zH (zb (zb v 1 (upd (v 1) 7 (nI (D + Mn + Gn)))) 2 (upd (upd (upd (v 2) 3 (nI (tn k))) 4 (ts k)) 5 (nI (tp k)))) (zb w 2 (vp_updL (w 2) 6 (tv k))) t) rfl ?_
            refine zx.br (f1 := (10, [(0, .ref 1), (1, .int 5)], [])) (f2 := (16, [(0, .ref 1), (1, .int 5)], [])) rfl (fun c1 => absurd (of_decide_eq_true c1) (by decide)) (fun c1 => ?_)
            refine zx.adv 1 (f' := (17, [(0, .ref 1), (1, .int 5)], [.int 5])) (h' := zH (zb (zb v 1 (upd (v 1) 7 (nI (D + Mn + Gn)))) 2 (upd (upd (upd (v 2) 3 (nI (tn k))) 4 (ts k)) 5 (nI (tp k)))) (zb w 2 (vp_updL (w 2) 6 (tv k))) t) rfl ?_
            refine zx.br (f1 := (20, [(0, .ref 1), (1, .int 5)], [])) (f2 := (33, [(0, .ref 1), (1, .int 5)], [])) rfl (fun c2 => absurd (of_decide_eq_true c2) (by decide)) (fun c2 => ?_)
            refine zx.adv 1 (f' := (34, [(0, .ref 1), (1, .int 5)], [.int 5])) (h' := zH (zb (zb v 1 (upd (v 1) 7 (nI (D + Mn + Gn)))) 2 (upd (upd (upd (v 2) 3 (nI (tn k))) 4 (ts k)) 5 (nI (tp k)))) (zb w 2 (vp_updL (w 2) 6 (tv k))) t) rfl ?_
            refine zx.br (f1 := (51, [(0, .ref 1), (1, .int 5)], [])) (f2 := (37, [(0, .ref 1), (1, .int 5)], [])) rfl (fun c3 => absurd (of_decide_eq_true c3) (by decide)) (fun c3 => ?_)
            refine zx.adv 2 (f' := (41, [(0, .ref 1), (1, .int 5)], [.int (v 1 2)])) (h' := zH (zb (zb v 1 (upd (v 1) 7 (nI (D + Mn + Gn)))) 2 (upd (upd (upd (v 2) 3 (nI (tn k))) 4 (ts k)) 5 (nI (tp k)))) (zb w 2 (vp_updL (w 2) 6 (tv k))) t) rfl ?_
            rw [show (v 1 2) = 1 from h12x]
            refine zx.br (f1 := (44, [(0, .ref 1), (1, .int 5)], [])) (f2 := (51, [(0, .ref 1), (1, .int 5)], [])) rfl (fun c4 => absurd (of_decide_eq_true c4) (by decide)) (fun c4 => ?_)
            refine zx.adv 2 (f' := (53, [(0, .ref 1), (1, .int 5)], [.int 5, .ref 1])) (h' := zH (zb (zb v 1 (upd (v 1) 7 (nI (D + Mn + Gn)))) 2 (upd (upd (upd (v 2) 3 (nI (tn k))) 4 (ts k)) 5 (nI (tp k)))) (zb w 2 (vp_updL (w 2) 6 (tv k))) t) rfl ?_
            refine zx.cl (v := some (.int 1)) (h' := zH (zb (zb v 1 (upd (v 1) 7 (nI (D + Mn + Gn)))) 2 (upd (upd (upd (v 2) 3 (nI (tn k))) 4 (ts k)) 5 (nI (tp k)))) (zb w 2 (vp_updL (w 2) 6 (tv k))) t) rfl (zs_full5_1 (v := (zb (zb v 1 (upd (v 1) 7 (nI (D + Mn + Gn)))) 2 (upd (upd (upd (v 2) 3 (nI (tn k))) 4 (ts k)) 5 (nI (tp k))))) (w := (zb w 2 (vp_updL (w 2) 6 (tv k)))) h414 hcap (by omega)) ?_
            show zx zk_mt zk_ex Ls xs zm_296 (56, [(0, .ref 1), (1, .int 5)], [.int 1]) (zH (zb (zb v 1 (upd (v 1) 7 (nI (D + Mn + Gn)))) 2 (upd (upd (upd (v 2) 3 (nI (tn k))) 4 (ts k)) 5 (nI (tp k)))) (zb w 2 (vp_updL (w 2) 6 (tv k))) t) _
            refine zx.br (f1 := (65, [(0, .ref 1), (1, .int 5)], [])) (f2 := (59, [(0, .ref 1), (1, .int 5)], [])) rfl (fun c5 => absurd (of_decide_eq_true c5) (by decide)) (fun c5 => ?_)
            refine zx.adv 2 (f' := (61, [(0, .ref 1), (1, .int 5)], [.int 5, .ref 1])) (h' := zH (zb (zb v 1 (upd (v 1) 7 (nI (D + Mn + Gn)))) 2 (upd (upd (upd (v 2) 3 (nI (tn k))) 4 (ts k)) 5 (nI (tp k)))) (zb w 2 (vp_updL (w 2) 6 (tv k))) t) rfl ?_
            refine zx.cl (v := some (.int 0)) (h' := zH (zb (zb v 1 (upd (upd (upd (v 1) 7 (nI (D + Mn + Gn))) 9 5) 10 (nI (tp k)))) 2 (upd (upd (upd (v 2) 3 (nI (tn k))) 4 (ts k)) 5 (nI (tp k)))) (zb w 2 (vp_updL (w 2) 6 (tv k))) t) rfl (zs_fail (v := (zb (zb v 1 (upd (v 1) 7 (nI (D + Mn + Gn)))) 2 (upd (upd (upd (v 2) 3 (nI (tn k))) 4 (ts k)) 5 (nI (tp k))))) (w := (zb w 2 (vp_updL (w 2) 6 (tv k)))) 5) ?_
            show zx zk_mt zk_ex Ls xs zm_296 (64, [(0, .ref 1), (1, .int 5)], [.int 0]) (zH (zb (zb v 1 (upd (upd (upd (v 1) 7 (nI (D + Mn + Gn))) 9 5) 10 (nI (tp k)))) 2 (upd (upd (upd (v 2) 3 (nI (tn k))) 4 (ts k)) 5 (nI (tp k)))) (zb w 2 (vp_updL (w 2) 6 (tv k))) t) _
            exact zx.rt rfl rfl (zQ_no (v' := (zb (zb v 1 (upd (upd (upd (v 1) 7 (nI (D + Mn + Gn))) 9 5) 10 (nI (tp k)))) 2 (upd (upd (upd (v 2) 3 (nI (tn k))) 4 (ts k)) 5 (nI (tp k))))) (w' := (zb w 2 (vp_updL (w 2) 6 (tv k)))) (f := 5) (p := (tp k)) hline rfl rfl ⟨fun r hr => (zb_un (k := 2) (by omega)).trans ((zb_un (k := 1) (by omega)).trans rfl), rfl, rfl, rfl, fun r h1 h2 => (zb_un (k := 2) (by omega)).trans rfl, h7⟩)
      · have hj : zr_lineOf (ts k) zk_lw (tv k) = nI 6 := hj
        rcases hb01 with hbg | hbg
        · have h12x : v 1 2 = 0 := by rw [h12, hbg]; rfl
          have hline : zp_line tn ts tp tv k D Mn Gn Un bg l S = .inr (6, tp k) := zp_line_u (j := 6) (by decide) (by decide) hj hbg
          refine zx.adv 1 (f' := (1, [(0, .ref 1)], [.ref 1])) (h' := zH (zb (zb v 1 (upd (v 1) 7 (nI (D + Mn + Gn)))) 2 (upd (upd (upd (v 2) 3 (nI (tn k))) 4 (ts k)) 5 (nI (tp k)))) (zb w 2 (vp_updL (w 2) 6 (tv k))) t) rfl ?_
          refine zx.cl (v := some (.int 6)) (h' := zH (zb (zb v 1 (upd (v 1) 7 (nI (D + Mn + Gn)))) 2 (upd (upd (upd (v 2) 3 (nI (tn k))) 4 (ts k)) 5 (nI (tp k)))) (zb w 2 (vp_updL (w 2) 6 (tv k))) t) rfl (by have ee := zs_lineOf (v := (zb (zb v 1 (upd (v 1) 7 (nI (D + Mn + Gn)))) 2 (upd (upd (upd (v 2) 3 (nI (tn k))) 4 (ts k)) 5 (nI (tp k))))) (w := (zb w 2 (vp_updL (w 2) 6 (tv k)))) (t := t) (Ls := Ls) (xs := xs); rw [show zr_lineOf ((zb (zb v 1 (upd (v 1) 7 (nI (D + Mn + Gn)))) 2 (upd (upd (upd (v 2) 3 (nI (tn k))) 4 (ts k)) 5 (nI (tp k)))) 2 4) ((zb w 2 (vp_updL (w 2) 6 (tv k))) 16) ((zb w 2 (vp_updL (w 2) 6 (tv k))) 2 6) = nI 6 from (zr_lineOf_eq hw).trans hj] at ee; exact ee) ?_
          show zx zk_mt zk_ex Ls xs zm_296 (4, [(0, .ref 1)], [.int 6]) (zH (zb (zb v 1 (upd (v 1) 7 (nI (D + Mn + Gn)))) 2 (upd (upd (upd (v 2) 3 (nI (tn k))) 4 (ts k)) 5 (nI (tp k)))) (zb w 2 (vp_updL (w 2) 6 (tv k))) t) _
          refine zx.adv 3 (f' := (7, [(0, .ref 1), (1, .int 6)], [.int (-1), .int 6])) (h' := zH (zb (zb v 1 (upd (v 1) 7 (nI (D + Mn + Gn)))) 2 (upd (upd (upd (v 2) 3 (nI (tn k))) 4 (ts k)) 5 (nI (tp k)))) (zb w 2 (vp_updL (w 2) 6 (tv k))) t) rfl ?_
          refine zx.br (f1 := (10, [(0, .ref 1), (1, .int 6)], [])) (f2 := (16, [(0, .ref 1), (1, .int 6)], [])) rfl (fun c1 => absurd (of_decide_eq_true c1) (by decide)) (fun c1 => ?_)
          refine zx.adv 1 (f' := (17, [(0, .ref 1), (1, .int 6)], [.int 6])) (h' := zH (zb (zb v 1 (upd (v 1) 7 (nI (D + Mn + Gn)))) 2 (upd (upd (upd (v 2) 3 (nI (tn k))) 4 (ts k)) 5 (nI (tp k)))) (zb w 2 (vp_updL (w 2) 6 (tv k))) t) rfl ?_
          refine zx.br (f1 := (20, [(0, .ref 1), (1, .int 6)], [])) (f2 := (33, [(0, .ref 1), (1, .int 6)], [])) rfl (fun c2 => absurd (of_decide_eq_true c2) (by decide)) (fun c2 => ?_)
          refine zx.adv 1 (f' := (34, [(0, .ref 1), (1, .int 6)], [.int 6])) (h' := zH (zb (zb v 1 (upd (v 1) 7 (nI (D + Mn + Gn)))) 2 (upd (upd (upd (v 2) 3 (nI (tn k))) 4 (ts k)) 5 (nI (tp k)))) (zb w 2 (vp_updL (w 2) 6 (tv k))) t) rfl ?_
          refine zx.br (f1 := (51, [(0, .ref 1), (1, .int 6)], [])) (f2 := (37, [(0, .ref 1), (1, .int 6)], [])) rfl (fun c3 => absurd (of_decide_eq_true c3) (by decide)) (fun c3 => ?_)
          refine zx.adv 2 (f' := (41, [(0, .ref 1), (1, .int 6)], [.int (v 1 2)])) (h' := zH (zb (zb v 1 (upd (v 1) 7 (nI (D + Mn + Gn)))) 2 (upd (upd (upd (v 2) 3 (nI (tn k))) 4 (ts k)) 5 (nI (tp k)))) (zb w 2 (vp_updL (w 2) 6 (tv k))) t) rfl ?_
          rw [show (v 1 2) = 0 from h12x]
          refine zx.br (f1 := (44, [(0, .ref 1), (1, .int 6)], [])) (f2 := (51, [(0, .ref 1), (1, .int 6)], [])) rfl (fun c4 => ?_) (fun c4 => absurd (by decide) (of_decide_eq_false c4))
          refine zx.adv 2 (f' := (47, [(0, .ref 1), (1, .int 6)], [.int 6, .ref 1])) (h' := zH (zb (zb v 1 (upd (v 1) 7 (nI (D + Mn + Gn)))) 2 (upd (upd (upd (v 2) 3 (nI (tn k))) 4 (ts k)) 5 (nI (tp k)))) (zb w 2 (vp_updL (w 2) 6 (tv k))) t) rfl ?_
          refine zx.cl (v := some (.int 0)) (h' := zH (zb (zb v 1 (upd (upd (upd (v 1) 7 (nI (D + Mn + Gn))) 9 6) 10 (nI (tp k)))) 2 (upd (upd (upd (v 2) 3 (nI (tn k))) 4 (ts k)) 5 (nI (tp k)))) (zb w 2 (vp_updL (w 2) 6 (tv k))) t) rfl (zs_fail (v := (zb (zb v 1 (upd (v 1) 7 (nI (D + Mn + Gn)))) 2 (upd (upd (upd (v 2) 3 (nI (tn k))) 4 (ts k)) 5 (nI (tp k))))) (w := (zb w 2 (vp_updL (w 2) 6 (tv k)))) 6) ?_
          show zx zk_mt zk_ex Ls xs zm_296 (50, [(0, .ref 1), (1, .int 6)], [.int 0]) (zH (zb (zb v 1 (upd (upd (upd (v 1) 7 (nI (D + Mn + Gn))) 9 6) 10 (nI (tp k)))) 2 (upd (upd (upd (v 2) 3 (nI (tn k))) 4 (ts k)) 5 (nI (tp k)))) (zb w 2 (vp_updL (w 2) 6 (tv k))) t) _
          exact zx.rt rfl rfl (zQ_no (v' := (zb (zb v 1 (upd (upd (upd (v 1) 7 (nI (D + Mn + Gn))) 9 6) 10 (nI (tp k)))) 2 (upd (upd (upd (v 2) 3 (nI (tn k))) 4 (ts k)) 5 (nI (tp k))))) (w' := (zb w 2 (vp_updL (w 2) 6 (tv k)))) (f := 6) (p := (tp k)) hline rfl rfl ⟨fun r hr => (zb_un (k := 2) (by omega)).trans ((zb_un (k := 1) (by omega)).trans rfl), rfl, rfl, rfl, fun r h1 h2 => (zb_un (k := 2) (by omega)).trans rfl, h7⟩)
        · have h12x : v 1 2 = 1 := by rw [h12, hbg]; rfl
          have hbg1 : bg = 1 := hbg
          have hline : zp_line tn ts tp tv k D Mn Gn Un bg l S = zp_befellL tn ts tp tv (tn k) D Mn Gn Un l S := by rw [zp_line_6 hj (by omega)]
          refine zx.adv 1 (f' := (1, [(0, .ref 1)], [.ref 1])) (h' := zH (zb (zb v 1 (upd (v 1) 7 (nI (D + Mn + Gn)))) 2 (upd (upd (upd (v 2) 3 (nI (tn k))) 4 (ts k)) 5 (nI (tp k)))) (zb w 2 (vp_updL (w 2) 6 (tv k))) t) rfl ?_
          refine zx.cl (v := some (.int 6)) (h' := zH (zb (zb v 1 (upd (v 1) 7 (nI (D + Mn + Gn)))) 2 (upd (upd (upd (v 2) 3 (nI (tn k))) 4 (ts k)) 5 (nI (tp k)))) (zb w 2 (vp_updL (w 2) 6 (tv k))) t) rfl (by have ee := zs_lineOf (v := (zb (zb v 1 (upd (v 1) 7 (nI (D + Mn + Gn)))) 2 (upd (upd (upd (v 2) 3 (nI (tn k))) 4 (ts k)) 5 (nI (tp k))))) (w := (zb w 2 (vp_updL (w 2) 6 (tv k)))) (t := t) (Ls := Ls) (xs := xs); rw [show zr_lineOf ((zb (zb v 1 (upd (v 1) 7 (nI (D + Mn + Gn)))) 2 (upd (upd (upd (v 2) 3 (nI (tn k))) 4 (ts k)) 5 (nI (tp k)))) 2 4) ((zb w 2 (vp_updL (w 2) 6 (tv k))) 16) ((zb w 2 (vp_updL (w 2) 6 (tv k))) 2 6) = nI 6 from (zr_lineOf_eq hw).trans hj] at ee; exact ee) ?_
          show zx zk_mt zk_ex Ls xs zm_296 (4, [(0, .ref 1)], [.int 6]) (zH (zb (zb v 1 (upd (v 1) 7 (nI (D + Mn + Gn)))) 2 (upd (upd (upd (v 2) 3 (nI (tn k))) 4 (ts k)) 5 (nI (tp k)))) (zb w 2 (vp_updL (w 2) 6 (tv k))) t) _
          refine zx.adv 3 (f' := (7, [(0, .ref 1), (1, .int 6)], [.int (-1), .int 6])) (h' := zH (zb (zb v 1 (upd (v 1) 7 (nI (D + Mn + Gn)))) 2 (upd (upd (upd (v 2) 3 (nI (tn k))) 4 (ts k)) 5 (nI (tp k)))) (zb w 2 (vp_updL (w 2) 6 (tv k))) t) rfl ?_
          refine zx.br (f1 := (10, [(0, .ref 1), (1, .int 6)], [])) (f2 := (16, [(0, .ref 1), (1, .int 6)], [])) rfl (fun c1 => absurd (of_decide_eq_true c1) (by decide)) (fun c1 => ?_)
          refine zx.adv 1 (f' := (17, [(0, .ref 1), (1, .int 6)], [.int 6])) (h' := zH (zb (zb v 1 (upd (v 1) 7 (nI (D + Mn + Gn)))) 2 (upd (upd (upd (v 2) 3 (nI (tn k))) 4 (ts k)) 5 (nI (tp k)))) (zb w 2 (vp_updL (w 2) 6 (tv k))) t) rfl ?_
          refine zx.br (f1 := (20, [(0, .ref 1), (1, .int 6)], [])) (f2 := (33, [(0, .ref 1), (1, .int 6)], [])) rfl (fun c2 => absurd (of_decide_eq_true c2) (by decide)) (fun c2 => ?_)
          refine zx.adv 1 (f' := (34, [(0, .ref 1), (1, .int 6)], [.int 6])) (h' := zH (zb (zb v 1 (upd (v 1) 7 (nI (D + Mn + Gn)))) 2 (upd (upd (upd (v 2) 3 (nI (tn k))) 4 (ts k)) 5 (nI (tp k)))) (zb w 2 (vp_updL (w 2) 6 (tv k))) t) rfl ?_
          refine zx.br (f1 := (51, [(0, .ref 1), (1, .int 6)], [])) (f2 := (37, [(0, .ref 1), (1, .int 6)], [])) rfl (fun c3 => absurd (of_decide_eq_true c3) (by decide)) (fun c3 => ?_)
          refine zx.adv 2 (f' := (41, [(0, .ref 1), (1, .int 6)], [.int (v 1 2)])) (h' := zH (zb (zb v 1 (upd (v 1) 7 (nI (D + Mn + Gn)))) 2 (upd (upd (upd (v 2) 3 (nI (tn k))) 4 (ts k)) 5 (nI (tp k)))) (zb w 2 (vp_updL (w 2) 6 (tv k))) t) rfl ?_
          rw [show (v 1 2) = 1 from h12x]
          refine zx.br (f1 := (44, [(0, .ref 1), (1, .int 6)], [])) (f2 := (51, [(0, .ref 1), (1, .int 6)], [])) rfl (fun c4 => absurd (of_decide_eq_true c4) (by decide)) (fun c4 => ?_)
          refine zx.adv 2 (f' := (53, [(0, .ref 1), (1, .int 6)], [.int 6, .ref 1])) (h' := zH (zb (zb v 1 (upd (v 1) 7 (nI (D + Mn + Gn)))) 2 (upd (upd (upd (v 2) 3 (nI (tn k))) 4 (ts k)) 5 (nI (tp k)))) (zb w 2 (vp_updL (w 2) 6 (tv k))) t) rfl ?_
          refine zx.cl (v := some (.int 0)) (h' := zH (zb (zb v 1 (upd (v 1) 7 (nI (D + Mn + Gn)))) 2 (upd (upd (upd (v 2) 3 (nI (tn k))) 4 (ts k)) 5 (nI (tp k)))) (zb w 2 (vp_updL (w 2) 6 (tv k))) t) rfl (zs_full6_0 (v := (zb (zb v 1 (upd (v 1) 7 (nI (D + Mn + Gn)))) 2 (upd (upd (upd (v 2) 3 (nI (tn k))) 4 (ts k)) 5 (nI (tp k))))) (w := (zb w 2 (vp_updL (w 2) 6 (tv k))))) ?_
          show zx zk_mt zk_ex Ls xs zm_296 (56, [(0, .ref 1), (1, .int 6)], [.int 0]) (zH (zb (zb v 1 (upd (v 1) 7 (nI (D + Mn + Gn)))) 2 (upd (upd (upd (v 2) 3 (nI (tn k))) 4 (ts k)) 5 (nI (tp k)))) (zb w 2 (vp_updL (w 2) 6 (tv k))) t) _
          refine zx.br (f1 := (65, [(0, .ref 1), (1, .int 6)], [])) (f2 := (59, [(0, .ref 1), (1, .int 6)], [])) rfl (fun c5 => ?_) (fun c5 => absurd (by decide) (of_decide_eq_false c5))
          refine zx.adv 2 (f' := (69, [(0, .ref 1), (1, .int 6)], [.ref 2])) (h' := zH (zb (zb v 1 (upd (v 1) 7 (nI (D + Mn + Gn)))) 2 (upd (upd (upd (v 2) 3 (nI (tn k))) 4 (ts k)) 5 (nI (tp k)))) (zb w 2 (vp_updL (w 2) 6 (tv k))) t) rfl ?_
          refine zx.cl (v := none) (h' := zH (zb (zb v 1 (upd (v 1) 7 (nI (D + Mn + Gn)))) 2 (upd (upd (upd (v 2) 3 (nI (tn (tn k)))) 4 (ts (tn k))) 5 (nI (tp (tn k))))) (zb w 2 (vp_updL (w 2) 6 (tv (tn k)))) t) rfl (hA.2 (zb (zb v 1 (upd (v 1) 7 (nI (D + Mn + Gn)))) 2 (upd (upd (upd (v 2) 3 (nI (tn k))) 4 (ts k)) 5 (nI (tp k)))) (zb w 2 (vp_updL (w 2) 6 (tv k))) t k hb hE hk) ?_
          show zx zk_mt zk_ex Ls xs zm_296 (72, [(0, .ref 1), (1, .int 6)], []) (zH (zb (zb v 1 (upd (v 1) 7 (nI (D + Mn + Gn)))) 2 (upd (upd (upd (v 2) 3 (nI (tn (tn k)))) 4 (ts (tn k))) 5 (nI (tp (tn k))))) (zb w 2 (vp_updL (w 2) 6 (tv (tn k)))) t) _
          refine zx.adv 1 (f' := (73, [(0, .ref 1), (1, .int 6)], [.int 6])) (h' := zH (zb (zb v 1 (upd (v 1) 7 (nI (D + Mn + Gn)))) 2 (upd (upd (upd (v 2) 3 (nI (tn (tn k)))) 4 (ts (tn k))) 5 (nI (tp (tn k))))) (zb w 2 (vp_updL (w 2) 6 (tv (tn k)))) t) rfl ?_
          refine zx.adv 2 (f' := (143, [(0, .ref 1), (1, .int 6)], [.ref 1])) (h' := zH (zb (zb v 1 (upd (v 1) 7 (nI (D + Mn + Gn)))) 2 (upd (upd (upd (v 2) 3 (nI (tn (tn k)))) 4 (ts (tn k))) 5 (nI (tp (tn k))))) (zb w 2 (vp_updL (w 2) 6 (tv (tn k)))) t) rfl ?_
          refine zx.cx rfl (zc_befellL (v := (zb (zb v 1 (upd (v 1) 7 (nI (D + Mn + Gn)))) 2 (upd (upd (upd (v 2) 3 (nI (tn (tn k)))) 4 (ts (tn k))) 5 (nI (tp (tn k)))))) (w := (zb w 2 (vp_updL (w 2) 6 (tv (tn k))))) (t := t) hA hE hb hT hw h7 (show zCls tn ts tp tv E (tn k) D Mn Gn Un bg l S (zb (zb v 1 (upd (v 1) 7 (nI (D + Mn + Gn)))) 2 (upd (upd (upd (v 2) 3 (nI (tn (tn k)))) 4 (ts (tn k))) 5 (nI (tp (tn k))))) (zb w 2 (vp_updL (w 2) 6 (tv (tn k)))) from ⟨⟨hA.1 k hk, rfl, rfl, rfl, rfl⟩, rfl, hN, h12, ⟨h41, h44, h48, h414⟩, hU4, fun r a b => ((zb_un (k := 2) (by omega)).trans ((zb_un (k := 1) (by omega)).trans (hl r a b)))⟩) hbg1) (fun r h2 hp => ?_)
          obtain ⟨b, hb01, hr⟩ := zQ_val hp
          subst hr
          exact zx.rt rfl (decide_eq_true hb01) (zQ.trans (v1 := (zb (zb v 1 (upd (v 1) 7 (nI (D + Mn + Gn)))) 2 (upd (upd (upd (v 2) 3 (nI (tn (tn k)))) 4 (ts (tn k))) 5 (nI (tp (tn k)))))) (w1 := (zb w 2 (vp_updL (w 2) 6 (tv (tn k))))) ⟨fun r hr => (zb_un (k := 2) (by omega)).trans ((zb_un (k := 1) (by omega)).trans rfl), rfl, rfl, rfl, fun r h1 h2 => (zb_un (k := 2) (by omega)).trans rfl, h7⟩ rfl (by rw [hline]; exact hp))
    · have hline : zp_line tn ts tp tv k D Mn Gn Un bg l S = .inr (1, tp k) := zp_line_n hj
      refine zx.adv 1 (f' := (1, [(0, .ref 1)], [.ref 1])) (h' := zH (zb (zb v 1 (upd (v 1) 7 (nI (D + Mn + Gn)))) 2 (upd (upd (upd (v 2) 3 (nI (tn k))) 4 (ts k)) 5 (nI (tp k)))) (zb w 2 (vp_updL (w 2) 6 (tv k))) t) rfl ?_
      refine zx.cl (v := some (.int (-1))) (h' := zH (zb (zb v 1 (upd (v 1) 7 (nI (D + Mn + Gn)))) 2 (upd (upd (upd (v 2) 3 (nI (tn k))) 4 (ts k)) 5 (nI (tp k)))) (zb w 2 (vp_updL (w 2) 6 (tv k))) t) rfl (by have ee := zs_lineOf (v := (zb (zb v 1 (upd (v 1) 7 (nI (D + Mn + Gn)))) 2 (upd (upd (upd (v 2) 3 (nI (tn k))) 4 (ts k)) 5 (nI (tp k))))) (w := (zb w 2 (vp_updL (w 2) 6 (tv k)))) (t := t) (Ls := Ls) (xs := xs); rw [show zr_lineOf ((zb (zb v 1 (upd (v 1) 7 (nI (D + Mn + Gn)))) 2 (upd (upd (upd (v 2) 3 (nI (tn k))) 4 (ts k)) 5 (nI (tp k)))) 2 4) ((zb w 2 (vp_updL (w 2) 6 (tv k))) 16) ((zb w 2 (vp_updL (w 2) 6 (tv k))) 2 6) = (-1) from (zr_lineOf_eq hw).trans hj] at ee; exact ee) ?_
      show zx zk_mt zk_ex Ls xs zm_296 (4, [(0, .ref 1)], [.int (-1)]) (zH (zb (zb v 1 (upd (v 1) 7 (nI (D + Mn + Gn)))) 2 (upd (upd (upd (v 2) 3 (nI (tn k))) 4 (ts k)) 5 (nI (tp k)))) (zb w 2 (vp_updL (w 2) 6 (tv k))) t) _
      refine zx.adv 3 (f' := (7, [(0, .ref 1), (1, .int (-1))], [.int (-1), .int (-1)])) (h' := zH (zb (zb v 1 (upd (v 1) 7 (nI (D + Mn + Gn)))) 2 (upd (upd (upd (v 2) 3 (nI (tn k))) 4 (ts k)) 5 (nI (tp k)))) (zb w 2 (vp_updL (w 2) 6 (tv k))) t) rfl ?_
      refine zx.br (f1 := (10, [(0, .ref 1), (1, .int (-1))], [])) (f2 := (16, [(0, .ref 1), (1, .int (-1))], [])) rfl (fun c1 => ?_) (fun c1 => absurd (by decide) (of_decide_eq_false c1))
      refine zx.adv 2 (f' := (12, [(0, .ref 1), (1, .int (-1))], [.int 1, .ref 1])) (h' := zH (zb (zb v 1 (upd (v 1) 7 (nI (D + Mn + Gn)))) 2 (upd (upd (upd (v 2) 3 (nI (tn k))) 4 (ts k)) 5 (nI (tp k)))) (zb w 2 (vp_updL (w 2) 6 (tv k))) t) rfl ?_
      refine zx.cl (v := some (.int 0)) (h' := zH (zb (zb v 1 (upd (upd (upd (v 1) 7 (nI (D + Mn + Gn))) 9 1) 10 (nI (tp k)))) 2 (upd (upd (upd (v 2) 3 (nI (tn k))) 4 (ts k)) 5 (nI (tp k)))) (zb w 2 (vp_updL (w 2) 6 (tv k))) t) rfl (zs_fail (v := (zb (zb v 1 (upd (v 1) 7 (nI (D + Mn + Gn)))) 2 (upd (upd (upd (v 2) 3 (nI (tn k))) 4 (ts k)) 5 (nI (tp k))))) (w := (zb w 2 (vp_updL (w 2) 6 (tv k)))) 1) ?_
      show zx zk_mt zk_ex Ls xs zm_296 (15, [(0, .ref 1), (1, .int (-1))], [.int 0]) (zH (zb (zb v 1 (upd (upd (upd (v 1) 7 (nI (D + Mn + Gn))) 9 1) 10 (nI (tp k)))) 2 (upd (upd (upd (v 2) 3 (nI (tn k))) 4 (ts k)) 5 (nI (tp k)))) (zb w 2 (vp_updL (w 2) 6 (tv k))) t) _
      exact zx.rt rfl rfl (zQ_no (v' := (zb (zb v 1 (upd (upd (upd (v 1) 7 (nI (D + Mn + Gn))) 9 1) 10 (nI (tp k)))) 2 (upd (upd (upd (v 2) 3 (nI (tn k))) 4 (ts k)) 5 (nI (tp k))))) (w' := (zb w 2 (vp_updL (w 2) 6 (tv k)))) (f := 1) (p := (tp k)) hline rfl rfl ⟨fun r hr => (zb_un (k := 2) (by omega)).trans ((zb_un (k := 1) (by omega)).trans rfl), rfl, rfl, rfl, fun r h1 h2 => (zb_un (k := 2) (by omega)).trans rfl, h7⟩)
  rw [ev, ew] at main
  exact main
end Z65A
section Z65B
variable {Ls : Nat} {xs : Nat → Int32} {v u : Nat → Nat → Int32} {w : Nat → Nat → Int64} {t : zk_H}
variable {tn : Nat → Nat} {ts : Nat → Int32} {tp : Nat → Nat} {tv : Nat → Int64} {E : Nat} {B : Nat → Int32}
theorem zn_rl0 {k : Nat} (hs : zMs tn ts tp tv E B k u) (hne : ¬ (ts k = 2 ∧ tv k = 12769452)) {Q : Option Value × zk_H → Prop} (hq : zx zk_mt zk_ex Ls xs zm_307 (16, [(0, .ref 69)], []) (zH u w t) Q) : zx zk_mt zk_ex Ls xs zm_307 (0, [(0, .ref 69)], []) (zH u w t) Q := by
  refine zx.adv 2 (f' := (3, [(0, .ref 69)], [.retAddr 19, .ref 69])) (h' := zH u w t) rfl ?_
  refine zx.cl (v := some (.int 0)) (h' := zH u w t) rfl (by have ee := zm_isWord (w := w) (t := t) (u := u) (zw_level (Ls := Ls) (xs := xs)) hs; rw [if_neg hne] at ee; exact ee) ?_
  show zx zk_mt zk_ex Ls xs zm_307 (6, [(0, .ref 69)], [.int 0]) (zH u w t) _
  refine zx.br (f1 := (16, [(0, .ref 69)], [])) (f2 := (9, [(0, .ref 69)], [])) rfl (fun c1 => ?_) (fun c1 => absurd (by decide) (of_decide_eq_false c1))
  exact hq
theorem zn_rl1 {k : Nat} (hs : zMs tn ts tp tv E B k u) (hne : ¬ (ts k = 2 ∧ tv k = 135732402)) {Q : Option Value × zk_H → Prop} (hq : zx zk_mt zk_ex Ls xs zm_307 (48, [(0, .ref 69)], []) (zH u w t) Q) : zx zk_mt zk_ex Ls xs zm_307 (16, [(0, .ref 69)], []) (zH u w t) Q := by
  refine zx.adv 5 (f' := (24, [(0, .ref 69)], [.int 1, .ref 73, .retAddr 21, .ref 69])) (h' := zH u w t) rfl ?_
  refine zx.ob (f' := (25, [(0, .ref 69)], [.int (u 72 (1 : Int32).toNatClampNeg), .retAddr 21, .ref 69])) (h' := zH u w t) rfl rfl ?_
  show zx zk_mt zk_ex Ls xs zm_307 (25, [(0, .ref 69)], [.int (u 72 1), .retAddr 21, .ref 69]) (zH u w t) _
  refine zx.adv 1 (f' := (27, [(0, .ref 69)], [.int 8, .int (u 72 1), .retAddr 21, .ref 69])) (h' := zH u w t) rfl ?_
  refine zx.br (f1 := (34, [(0, .ref 69)], [.retAddr 21, .ref 69])) (f2 := (30, [(0, .ref 69)], [.retAddr 21, .ref 69])) rfl (fun c1 => ?_) (fun c1 => ?_)
  · have c1 : 8 ≤ (u 72 1) := of_decide_eq_true c1
    refine zx.adv 1 (f' := (35, [(0, .ref 69)], [.int 0, .retAddr 21, .ref 69])) (h' := zH u w t) rfl ?_
    refine zx.cl (v := some (.int 0)) (h' := zH u w t) rfl (zm_begins_0 21 0 (by have ee := zm_isWord (w := w) (t := t) (u := u) (zw_danger (Ls := Ls) (xs := xs)) hs; rw [if_neg hne] at ee; exact ee)) ?_
    show zx zk_mt zk_ex Ls xs zm_307 (38, [(0, .ref 69)], [.int 0]) (zH u w t) _
    refine zx.br (f1 := (48, [(0, .ref 69)], [])) (f2 := (41, [(0, .ref 69)], [])) rfl (fun c2 => ?_) (fun c2 => absurd (by decide) (of_decide_eq_false c2))
    exact hq
  · have c1 : ¬ (8 ≤ (u 72 1)) := of_decide_eq_false c1
    refine zx.adv 2 (f' := (35, [(0, .ref 69)], [.int 1, .retAddr 21, .ref 69])) (h' := zH u w t) rfl ?_
    refine zx.cl (v := some (.int 0)) (h' := zH u w t) rfl (zm_begins_0 21 1 (by have ee := zm_isWord (w := w) (t := t) (u := u) (zw_danger (Ls := Ls) (xs := xs)) hs; rw [if_neg hne] at ee; exact ee)) ?_
    show zx zk_mt zk_ex Ls xs zm_307 (38, [(0, .ref 69)], [.int 0]) (zH u w t) _
    refine zx.br (f1 := (48, [(0, .ref 69)], [])) (f2 := (41, [(0, .ref 69)], [])) rfl (fun c3 => ?_) (fun c3 => absurd (by decide) (of_decide_eq_false c3))
    exact hq
theorem zn_rl2 {k : Nat} (hs : zMs tn ts tp tv E B k u) (hne : ¬ (ts k = 2 ∧ tv k = 13675698)) {Q : Option Value × zk_H → Prop} (hq : zx zk_mt zk_ex Ls xs zm_307 (79, [(0, .ref 69)], []) (zH u w t) Q) : zx zk_mt zk_ex Ls xs zm_307 (48, [(0, .ref 69)], []) (zH u w t) Q := by
  refine zx.adv 5 (f' := (56, [(0, .ref 69)], [.int 2, .ref 73, .retAddr 22, .ref 69])) (h' := zH u w t) rfl ?_
  refine zx.ob (f' := (57, [(0, .ref 69)], [.int (u 72 (2 : Int32).toNatClampNeg), .retAddr 22, .ref 69])) (h' := zH u w t) rfl rfl ?_
  show zx zk_mt zk_ex Ls xs zm_307 (57, [(0, .ref 69)], [.int (u 72 2), .retAddr 22, .ref 69]) (zH u w t) _
  refine zx.adv 1 (f' := (58, [(0, .ref 69)], [.int 5, .int (u 72 2), .retAddr 22, .ref 69])) (h' := zH u w t) rfl ?_
  refine zx.br (f1 := (65, [(0, .ref 69)], [.retAddr 22, .ref 69])) (f2 := (61, [(0, .ref 69)], [.retAddr 22, .ref 69])) rfl (fun c1 => ?_) (fun c1 => ?_)
  · have c1 : 5 ≤ (u 72 2) := of_decide_eq_true c1
    refine zx.adv 1 (f' := (66, [(0, .ref 69)], [.int 0, .retAddr 22, .ref 69])) (h' := zH u w t) rfl ?_
    refine zx.cl (v := some (.int 0)) (h' := zH u w t) rfl (zm_begins_0 22 0 (by have ee := zm_isWord (w := w) (t := t) (u := u) (zw_maker (Ls := Ls) (xs := xs)) hs; rw [if_neg hne] at ee; exact ee)) ?_
    show zx zk_mt zk_ex Ls xs zm_307 (69, [(0, .ref 69)], [.int 0]) (zH u w t) _
    refine zx.br (f1 := (79, [(0, .ref 69)], [])) (f2 := (72, [(0, .ref 69)], [])) rfl (fun c2 => ?_) (fun c2 => absurd (by decide) (of_decide_eq_false c2))
    exact hq
  · have c1 : ¬ (5 ≤ (u 72 2)) := of_decide_eq_false c1
    refine zx.adv 2 (f' := (66, [(0, .ref 69)], [.int 1, .retAddr 22, .ref 69])) (h' := zH u w t) rfl ?_
    refine zx.cl (v := some (.int 0)) (h' := zH u w t) rfl (zm_begins_0 22 1 (by have ee := zm_isWord (w := w) (t := t) (u := u) (zw_maker (Ls := Ls) (xs := xs)) hs; rw [if_neg hne] at ee; exact ee)) ?_
    show zx zk_mt zk_ex Ls xs zm_307 (69, [(0, .ref 69)], [.int 0]) (zH u w t) _
    refine zx.br (f1 := (79, [(0, .ref 69)], [])) (f2 := (72, [(0, .ref 69)], [])) rfl (fun c3 => ?_) (fun c3 => absurd (by decide) (of_decide_eq_false c3))
    exact hq
theorem zn_rl3 {k : Nat} (hs : zMs tn ts tp tv E B k u) (hne : ¬ (ts k = 2 ∧ tv k = 245220)) {Q : Option Value × zk_H → Prop} (hq : zx zk_mt zk_ex Ls xs zm_307 (110, [(0, .ref 69)], []) (zH u w t) Q) : zx zk_mt zk_ex Ls xs zm_307 (79, [(0, .ref 69)], []) (zH u w t) Q := by
  refine zx.adv 5 (f' := (87, [(0, .ref 69)], [.int 3, .ref 73, .retAddr 23, .ref 69])) (h' := zH u w t) rfl ?_
  refine zx.ob (f' := (88, [(0, .ref 69)], [.int (u 72 (3 : Int32).toNatClampNeg), .retAddr 23, .ref 69])) (h' := zH u w t) rfl rfl ?_
  show zx zk_mt zk_ex Ls xs zm_307 (88, [(0, .ref 69)], [.int (u 72 3), .retAddr 23, .ref 69]) (zH u w t) _
  refine zx.adv 1 (f' := (89, [(0, .ref 69)], [.int 4, .int (u 72 3), .retAddr 23, .ref 69])) (h' := zH u w t) rfl ?_
  refine zx.br (f1 := (96, [(0, .ref 69)], [.retAddr 23, .ref 69])) (f2 := (92, [(0, .ref 69)], [.retAddr 23, .ref 69])) rfl (fun c1 => ?_) (fun c1 => ?_)
  · have c1 : 4 ≤ (u 72 3) := of_decide_eq_true c1
    refine zx.adv 1 (f' := (97, [(0, .ref 69)], [.int 0, .retAddr 23, .ref 69])) (h' := zH u w t) rfl ?_
    refine zx.cl (v := some (.int 0)) (h' := zH u w t) rfl (zm_begins_0 23 0 (by have ee := zm_isWord (w := w) (t := t) (u := u) (zw_good (Ls := Ls) (xs := xs)) hs; rw [if_neg hne] at ee; exact ee)) ?_
    show zx zk_mt zk_ex Ls xs zm_307 (100, [(0, .ref 69)], [.int 0]) (zH u w t) _
    refine zx.br (f1 := (110, [(0, .ref 69)], [])) (f2 := (103, [(0, .ref 69)], [])) rfl (fun c2 => ?_) (fun c2 => absurd (by decide) (of_decide_eq_false c2))
    exact hq
  · have c1 : ¬ (4 ≤ (u 72 3)) := of_decide_eq_false c1
    refine zx.adv 2 (f' := (97, [(0, .ref 69)], [.int 1, .retAddr 23, .ref 69])) (h' := zH u w t) rfl ?_
    refine zx.cl (v := some (.int 0)) (h' := zH u w t) rfl (zm_begins_0 23 1 (by have ee := zm_isWord (w := w) (t := t) (u := u) (zw_good (Ls := Ls) (xs := xs)) hs; rw [if_neg hne] at ee; exact ee)) ?_
    show zx zk_mt zk_ex Ls xs zm_307 (100, [(0, .ref 69)], [.int 0]) (zH u w t) _
    refine zx.br (f1 := (110, [(0, .ref 69)], [])) (f2 := (103, [(0, .ref 69)], [])) rfl (fun c3 => ?_) (fun c3 => absurd (by decide) (of_decide_eq_false c3))
    exact hq
theorem zn_rl4 {k : Nat} (hs : zMs tn ts tp tv E B k u) (hne : ¬ (ts k = 2 ∧ tv k = 302)) {Q : Option Value × zk_H → Prop} (hq : zx zk_mt zk_ex Ls xs zm_307 (127, [(0, .ref 69)], []) (zH u w t) Q) : zx zk_mt zk_ex Ls xs zm_307 (110, [(0, .ref 69)], []) (zH u w t) Q := by
  refine zx.adv 3 (f' := (114, [(0, .ref 69)], [.int 1, .retAddr 24, .ref 69])) (h' := zH u w t) rfl ?_
  refine zx.cl (v := some (.int 0)) (h' := zH u w t) rfl (zm_begins_0 24 1 (by have ee := zm_isWord (w := w) (t := t) (u := u) (zw_in (Ls := Ls) (xs := xs)) hs; rw [if_neg hne] at ee; exact ee)) ?_
  show zx zk_mt zk_ex Ls xs zm_307 (117, [(0, .ref 69)], [.int 0]) (zH u w t) _
  refine zx.br (f1 := (127, [(0, .ref 69)], [])) (f2 := (120, [(0, .ref 69)], [])) rfl (fun c1 => ?_) (fun c1 => absurd (by decide) (of_decide_eq_false c1))
  exact hq
theorem zn_rl5 {k : Nat} (hs : zMs tn ts tp tv E B k u) (hne : ¬ (ts k = 2 ∧ tv k = 719967813)) {Q : Option Value × zk_H → Prop} (hq : zx zk_mt zk_ex Ls xs zm_307 (158, [(0, .ref 69)], []) (zH u w t) Q) : zx zk_mt zk_ex Ls xs zm_307 (127, [(0, .ref 69)], []) (zH u w t) Q := by
  refine zx.adv 5 (f' := (135, [(0, .ref 69)], [.int 4, .ref 73, .retAddr 25, .ref 69])) (h' := zH u w t) rfl ?_
  refine zx.ob (f' := (136, [(0, .ref 69)], [.int (u 72 (4 : Int32).toNatClampNeg), .retAddr 25, .ref 69])) (h' := zH u w t) rfl rfl ?_
  show zx zk_mt zk_ex Ls xs zm_307 (136, [(0, .ref 69)], [.int (u 72 4), .retAddr 25, .ref 69]) (zH u w t) _
  refine zx.adv 1 (f' := (137, [(0, .ref 69)], [.int 4, .int (u 72 4), .retAddr 25, .ref 69])) (h' := zH u w t) rfl ?_
  refine zx.br (f1 := (144, [(0, .ref 69)], [.retAddr 25, .ref 69])) (f2 := (140, [(0, .ref 69)], [.retAddr 25, .ref 69])) rfl (fun c1 => ?_) (fun c1 => ?_)
  · have c1 : 4 ≤ (u 72 4) := of_decide_eq_true c1
    refine zx.adv 1 (f' := (145, [(0, .ref 69)], [.int 0, .retAddr 25, .ref 69])) (h' := zH u w t) rfl ?_
    refine zx.cl (v := some (.int 0)) (h' := zH u w t) rfl (zm_begins_0 25 0 (by have ee := zm_isWord (w := w) (t := t) (u := u) (zw_unsure (Ls := Ls) (xs := xs)) hs; rw [if_neg hne] at ee; exact ee)) ?_
    show zx zk_mt zk_ex Ls xs zm_307 (148, [(0, .ref 69)], [.int 0]) (zH u w t) _
    refine zx.br (f1 := (158, [(0, .ref 69)], [])) (f2 := (151, [(0, .ref 69)], [])) rfl (fun c2 => ?_) (fun c2 => absurd (by decide) (of_decide_eq_false c2))
    exact hq
  · have c1 : ¬ (4 ≤ (u 72 4)) := of_decide_eq_false c1
    refine zx.adv 2 (f' := (145, [(0, .ref 69)], [.int 1, .retAddr 25, .ref 69])) (h' := zH u w t) rfl ?_
    refine zx.cl (v := some (.int 0)) (h' := zH u w t) rfl (zm_begins_0 25 1 (by have ee := zm_isWord (w := w) (t := t) (u := u) (zw_unsure (Ls := Ls) (xs := xs)) hs; rw [if_neg hne] at ee; exact ee)) ?_
    show zx zk_mt zk_ex Ls xs zm_307 (148, [(0, .ref 69)], [.int 0]) (zH u w t) _
    refine zx.br (f1 := (158, [(0, .ref 69)], [])) (f2 := (151, [(0, .ref 69)], [])) rfl (fun c3 => ?_) (fun c3 => absurd (by decide) (of_decide_eq_false c3))
    exact hq
theorem zn_rl6 {k : Nat} (hs : zMs tn ts tp tv E B k u) (hne : ¬ (ts k = 2 ∧ tv k = 72553868)) {Q : Option Value × zk_H → Prop} (hq : zx zk_mt zk_ex Ls xs zm_307 (175, [(0, .ref 69)], []) (zH u w t) Q) : zx zk_mt zk_ex Ls xs zm_307 (158, [(0, .ref 69)], []) (zH u w t) Q := by
  refine zx.adv 3 (f' := (162, [(0, .ref 69)], [.int 1, .retAddr 26, .ref 69])) (h' := zH u w t) rfl ?_
  refine zx.cl (v := some (.int 0)) (h' := zH u w t) rfl (zm_begins_0 26 1 (by have ee := zm_isWord (w := w) (t := t) (u := u) (zw_befell (Ls := Ls) (xs := xs)) hs; rw [if_neg hne] at ee; exact ee)) ?_
  show zx zk_mt zk_ex Ls xs zm_307 (165, [(0, .ref 69)], [.int 0]) (zH u w t) _
  refine zx.br (f1 := (175, [(0, .ref 69)], [])) (f2 := (168, [(0, .ref 69)], [])) rfl (fun c1 => ?_) (fun c1 => absurd (by decide) (of_decide_eq_false c1))
  exact hq
/-- BasketKeepModel.readLine -/
theorem zm_line (hM : zk_MA Ls xs tn ts tp tv E B) (hT : zt_ok tn ts tv E) {k D Mn Gn Un bg : Nat} {l : Nat → Nat → Int32} {S : Nat → Int64} (hs : zMs tn ts tp tv E B k u) (hN : zRN S (u 72)) (hS : zSr D Mn Gn S) (hL : zL D Mn Gn Un bg l (u 72) (u 74)) : ∃ u', zk_Cr zk_mt zk_ex Ls xs 307 [.ref 69] (zH u w t) (none, zH u' w t) ∧ zML tn ts tp tv E B (zp_line tn ts tp tv k D Mn Gn Un bg l S) u u' := by
  have main : ∃ q, zk_Cr zk_mt zk_ex Ls xs 307 [.ref 69] (zH u w t) q ∧ ∃ u', q = (none, zH u' w t) ∧ zML tn ts tp tv E B (zp_line tn ts tp tv k D Mn Gn Un bg l S) u u' := by
    have hD8 : D ≤ 8 := hL.1.1.1
    have hM5' : Mn ≤ 5 := hL.1.1.2.1
    have hG4' : Gn ≤ 4 := hL.1.1.2.2.1
    have hU4' : Un ≤ 4 := hL.1.1.2.2.2
    have h721 : u 72 1 = nI D := hL.1.2.1.2.1
    have h722 : u 72 2 = nI Mn := hL.1.2.1.2.2.2.1
    have h723 : u 72 3 = nI Gn := hL.1.2.1.2.2.2.2.2.1
    have h724 : u 72 4 = nI Un := hL.1.2.1.2.2.2.2.2.2.2
    have hb01 := hL.2.2.2.1
    refine zx.of (K := zm_307) rfl rfl rfl ?_
    show zx zk_mt zk_ex Ls xs zm_307 (0, [(0, .ref 69)], []) (zH u w t) _
    rcases zr_lineOf_is (ts k) (tv k) with ⟨h2, j, hj7, hjv, hj, _⟩ | ⟨hno, hj, _⟩
    · rcases (show j = 0 ∨ j = 1 ∨ j = 2 ∨ j = 3 ∨ j = 4 ∨ j = 5 ∨ j = 6 by omega) with rfl | rfl | rfl | rfl | rfl | rfl | rfl
      · have hj : zr_lineOf (ts k) zk_lw (tv k) = nI 0 := hj
        have hv : tv k = 12769452 := hjv.symm
        have hi := zm_isWord (w := w) (t := t) (u := u) (zw_level (Ls := Ls) (xs := xs)) hs
        rw [if_pos ⟨h2, hv⟩] at hi
        rcases hb01 with hbg | hbg
        · have hline : zp_line tn ts tp tv k D Mn Gn Un bg l S = zp_levelL tn ts tp tv (tn k) D Mn Gn Un l S := by rw [zp_line_0 hj, if_pos hbg]
          obtain ⟨u2, q2, m2⟩ := zm_levelLine_0 (Ls := Ls) (xs := xs) (w := w) (t := t) (u := u) hM hT hs hN hS (by rw [← hbg]; exact hL)
          refine zx.adv 2 (f' := (3, [(0, .ref 69)], [.retAddr 19, .ref 69])) (h' := zH u w t) rfl ?_
          refine zx.cl (v := some (.int 1)) (h' := zH u w t) rfl hi ?_
          show zx zk_mt zk_ex Ls xs zm_307 (6, [(0, .ref 69)], [.int 1]) (zH u w t) _
          refine zx.br (f1 := (16, [(0, .ref 69)], [])) (f2 := (9, [(0, .ref 69)], [])) rfl (fun c1 => absurd (of_decide_eq_true c1) (by decide)) (fun c1 => ?_)
          refine zx.adv 1 (f' := (10, [(0, .ref 69)], [.ref 69])) (h' := zH u w t) rfl ?_
          refine zx.cl (v := none) (h' := zH u2 w t) rfl q2 ?_
          show zx zk_mt zk_ex Ls xs zm_307 (13, [(0, .ref 69)], []) (zH u2 w t) _
          refine zx.adv 1 (f' := (184, [(0, .ref 69)], [])) (h' := zH u2 w t) rfl ?_
          exact zx.rt rfl rfl ⟨u2, rfl, m2.1, by rw [hline]; exact m2.2⟩
        · have hline : zp_line tn ts tp tv k D Mn Gn Un bg l S = .inr (3, tp k) := by rw [zp_line_0 hj, if_neg (by omega)]
          have h6 : u 72 6 = 1 := by rw [hL.2.2.1, hbg]; rfl
          refine zx.adv 2 (f' := (3, [(0, .ref 69)], [.retAddr 19, .ref 69])) (h' := zH u w t) rfl ?_
          refine zx.cl (v := some (.int 1)) (h' := zH u w t) rfl hi ?_
          show zx zk_mt zk_ex Ls xs zm_307 (6, [(0, .ref 69)], [.int 1]) (zH u w t) _
          refine zx.br (f1 := (16, [(0, .ref 69)], [])) (f2 := (9, [(0, .ref 69)], [])) rfl (fun c1 => absurd (of_decide_eq_true c1) (by decide)) (fun c1 => ?_)
          refine zx.adv 1 (f' := (10, [(0, .ref 69)], [.ref 69])) (h' := zH u w t) rfl ?_
          refine zx.cl (v := none) (h' := zH (zb u 68 (upd (upd (upd (u 68) 9 3) 10 (u 68 4)) 13 1)) w t) rfl (zm_levelLine_1 hs.2.2 h6) ?_
          show zx zk_mt zk_ex Ls xs zm_307 (13, [(0, .ref 69)], []) (zH (zb u 68 (upd (upd (upd (u 68) 9 3) 10 (u 68 4)) 13 1)) w t) _
          refine zx.adv 1 (f' := (184, [(0, .ref 69)], [])) (h' := zH (zb u 68 (upd (upd (upd (u 68) 9 3) 10 (u 68 4)) 13 1)) w t) rfl ?_
          exact zx.rt rfl rfl ⟨_, rfl, zMk.refl.step zMg.wrong, by rw [hline]; exact zMx.wrong hs⟩
      · have hj : zr_lineOf (ts k) zk_lw (tv k) = nI 1 := hj
        have hv : tv k = 135732402 := hjv.symm
        have hi := zm_isWord (w := w) (t := t) (u := u) (zw_danger (Ls := Ls) (xs := xs)) hs
        rw [if_pos ⟨h2, hv⟩] at hi
        refine zn_rl0 hs (fun z => absurd (z.2.symm.trans hv) (by decide)) ?_
        rcases hb01 with hbg | hbg
        · have hline : zp_line tn ts tp tv k D Mn Gn Un bg l S = .inr (6, tp k) := zp_line_u (j := 1) (by decide) (by decide) hj hbg
          have h6 : u 72 6 = 0 := by rw [hL.2.2.1, hbg]; rfl
          obtain ⟨z1, z2, z3, z4⟩ := hL.2.2.2.2 hbg
          refine zx.adv 5 (f' := (24, [(0, .ref 69)], [.int 1, .ref 73, .retAddr 21, .ref 69])) (h' := zH u w t) rfl ?_
          refine zx.ob (f' := (25, [(0, .ref 69)], [.int (u 72 (1 : Int32).toNatClampNeg), .retAddr 21, .ref 69])) (h' := zH u w t) rfl rfl ?_
          show zx zk_mt zk_ex Ls xs zm_307 (25, [(0, .ref 69)], [.int (u 72 1), .retAddr 21, .ref 69]) (zH u w t) _
          rw [h721]
          refine zx.adv 1 (f' := (27, [(0, .ref 69)], [.int 8, .int (nI D), .retAddr 21, .ref 69])) (h' := zH u w t) rfl ?_
          refine zx.br (f1 := (34, [(0, .ref 69)], [.retAddr 21, .ref 69])) (f2 := (30, [(0, .ref 69)], [.retAddr 21, .ref 69])) rfl (fun c1 => absurd (of_decide_eq_true c1) (show ¬ (8 : Int32) ≤ nI D from nI_ge (b := 8) (by omega) (by decide))) (fun c1 => ?_)
          refine zx.adv 2 (f' := (35, [(0, .ref 69)], [.int 1, .retAddr 21, .ref 69])) (h' := zH u w t) rfl ?_
          refine zx.cl (v := some (.int 1)) (h' := zH (zb u 68 (upd (upd (upd (u 68) 9 6) 10 (u 68 4)) 13 1)) w t) rfl (zm_begins_u 21 hs.2.2 h6 hi) ?_
          show zx zk_mt zk_ex Ls xs zm_307 (38, [(0, .ref 69)], [.int 1]) (zH (zb u 68 (upd (upd (upd (u 68) 9 6) 10 (u 68 4)) 13 1)) w t) _
          refine zx.br (f1 := (48, [(0, .ref 69)], [])) (f2 := (41, [(0, .ref 69)], [])) rfl (fun c2 => absurd (of_decide_eq_true c2) (by decide)) (fun c2 => ?_)
          refine zx.adv 1 (f' := (42, [(0, .ref 69)], [.ref 69])) (h' := zH (zb u 68 (upd (upd (upd (u 68) 9 6) 10 (u 68 4)) 13 1)) w t) rfl ?_
          refine zx.cl (v := none) (h' := zH (zb u 68 (upd (upd (upd (u 68) 9 6) 10 (u 68 4)) 13 1)) w t) rfl (zm_dangerLine_x (u := (zb u 68 (upd (upd (upd (u 68) 9 6) 10 (u 68 4)) 13 1))) rfl) ?_
          show zx zk_mt zk_ex Ls xs zm_307 (45, [(0, .ref 69)], []) (zH (zb u 68 (upd (upd (upd (u 68) 9 6) 10 (u 68 4)) 13 1)) w t) _
          refine zx.adv 1 (f' := (184, [(0, .ref 69)], [])) (h' := zH (zb u 68 (upd (upd (upd (u 68) 9 6) 10 (u 68 4)) 13 1)) w t) rfl ?_
          exact zx.rt rfl rfl ⟨_, rfl, zMk.refl.step zMg.wrong, by rw [hline]; exact zMx.wrong hs⟩
        · have h6 : u 72 6 = 1 := by rw [hL.2.2.1, hbg]; rfl
          by_cases hcap : D < 8
          · have hline : zp_line tn ts tp tv k D Mn Gn Un bg l S = zp_dangerL tn ts tp tv (tn k) D Mn Gn Un l S := by rw [zp_line_1 hj (by omega), if_pos hcap]
            obtain ⟨u1, q1, g1, s1⟩ := zm_pass (w := w) (t := t) hM hs
            obtain ⟨u2, q2, m2⟩ := zm_dangerLine (Ls := Ls) (xs := xs) (w := w) (t := t) (u := u1) hM hT s1 (show zRN S (u1 72) by rw [g1.1 72 (by decide) (by decide)]; exact hN) hS (show zL D Mn Gn Un 1 l (u1 72) (u1 74) by rw [g1.1 72 (by decide) (by decide), g1.1 74 (by decide) (by decide), ← hbg]; exact hL) hcap
            refine zx.adv 5 (f' := (24, [(0, .ref 69)], [.int 1, .ref 73, .retAddr 21, .ref 69])) (h' := zH u w t) rfl ?_
            refine zx.ob (f' := (25, [(0, .ref 69)], [.int (u 72 (1 : Int32).toNatClampNeg), .retAddr 21, .ref 69])) (h' := zH u w t) rfl rfl ?_
            show zx zk_mt zk_ex Ls xs zm_307 (25, [(0, .ref 69)], [.int (u 72 1), .retAddr 21, .ref 69]) (zH u w t) _
            rw [h721]
            refine zx.adv 1 (f' := (27, [(0, .ref 69)], [.int 8, .int (nI D), .retAddr 21, .ref 69])) (h' := zH u w t) rfl ?_
            refine zx.br (f1 := (34, [(0, .ref 69)], [.retAddr 21, .ref 69])) (f2 := (30, [(0, .ref 69)], [.retAddr 21, .ref 69])) rfl (fun c1 => absurd (of_decide_eq_true c1) (show ¬ (8 : Int32) ≤ nI D from nI_ge (b := 8) (by omega) (by decide))) (fun c1 => ?_)
            refine zx.adv 2 (f' := (35, [(0, .ref 69)], [.int 1, .retAddr 21, .ref 69])) (h' := zH u w t) rfl ?_
            refine zx.cl (v := some (.int 1)) (h' := zH u1 w t) rfl (zm_begins_1 21 hs.2.2 h6 hi q1) ?_
            show zx zk_mt zk_ex Ls xs zm_307 (38, [(0, .ref 69)], [.int 1]) (zH u1 w t) _
            refine zx.br (f1 := (48, [(0, .ref 69)], [])) (f2 := (41, [(0, .ref 69)], [])) rfl (fun c2 => absurd (of_decide_eq_true c2) (by decide)) (fun c2 => ?_)
            refine zx.adv 1 (f' := (42, [(0, .ref 69)], [.ref 69])) (h' := zH u1 w t) rfl ?_
            refine zx.cl (v := none) (h' := zH u2 w t) rfl q2 ?_
            show zx zk_mt zk_ex Ls xs zm_307 (45, [(0, .ref 69)], []) (zH u2 w t) _
            refine zx.adv 1 (f' := (184, [(0, .ref 69)], [])) (h' := zH u2 w t) rfl ?_
            exact zx.rt rfl rfl ⟨u2, rfl, (zMk.refl.step g1).trans m2.1, by rw [hline]; exact m2.2⟩
          · have hline : zp_line tn ts tp tv k D Mn Gn Un bg l S = .inr (5, tp k) := by rw [zp_line_1 hj (by omega), if_neg hcap]
            refine zx.adv 5 (f' := (24, [(0, .ref 69)], [.int 1, .ref 73, .retAddr 21, .ref 69])) (h' := zH u w t) rfl ?_
            refine zx.ob (f' := (25, [(0, .ref 69)], [.int (u 72 (1 : Int32).toNatClampNeg), .retAddr 21, .ref 69])) (h' := zH u w t) rfl rfl ?_
            show zx zk_mt zk_ex Ls xs zm_307 (25, [(0, .ref 69)], [.int (u 72 1), .retAddr 21, .ref 69]) (zH u w t) _
            rw [h721]
            refine zx.adv 1 (f' := (27, [(0, .ref 69)], [.int 8, .int (nI D), .retAddr 21, .ref 69])) (h' := zH u w t) rfl ?_
            refine zx.br (f1 := (34, [(0, .ref 69)], [.retAddr 21, .ref 69])) (f2 := (30, [(0, .ref 69)], [.retAddr 21, .ref 69])) rfl (fun c1 => ?_) (fun c1 => absurd (show (8 : Int32) ≤ nI D from nI_le (a := 8) (by omega) (by omega)) (of_decide_eq_false c1))
            refine zx.adv 1 (f' := (35, [(0, .ref 69)], [.int 0, .retAddr 21, .ref 69])) (h' := zH u w t) rfl ?_
            refine zx.cl (v := some (.int 1)) (h' := zH (zb u 68 (upd (upd (upd (u 68) 9 5) 10 (u 68 4)) 13 1)) w t) rfl (zm_begins_f 21 hs.2.2 hi) ?_
            show zx zk_mt zk_ex Ls xs zm_307 (38, [(0, .ref 69)], [.int 1]) (zH (zb u 68 (upd (upd (upd (u 68) 9 5) 10 (u 68 4)) 13 1)) w t) _
            refine zx.br (f1 := (48, [(0, .ref 69)], [])) (f2 := (41, [(0, .ref 69)], [])) rfl (fun c2 => absurd (of_decide_eq_true c2) (by decide)) (fun c2 => ?_)
            refine zx.adv 1 (f' := (42, [(0, .ref 69)], [.ref 69])) (h' := zH (zb u 68 (upd (upd (upd (u 68) 9 5) 10 (u 68 4)) 13 1)) w t) rfl ?_
            refine zx.cl (v := none) (h' := zH (zb u 68 (upd (upd (upd (u 68) 9 5) 10 (u 68 4)) 13 1)) w t) rfl (zm_dangerLine_x (u := (zb u 68 (upd (upd (upd (u 68) 9 5) 10 (u 68 4)) 13 1))) rfl) ?_
            show zx zk_mt zk_ex Ls xs zm_307 (45, [(0, .ref 69)], []) (zH (zb u 68 (upd (upd (upd (u 68) 9 5) 10 (u 68 4)) 13 1)) w t) _
            refine zx.adv 1 (f' := (184, [(0, .ref 69)], [])) (h' := zH (zb u 68 (upd (upd (upd (u 68) 9 5) 10 (u 68 4)) 13 1)) w t) rfl ?_
            exact zx.rt rfl rfl ⟨_, rfl, zMk.refl.step zMg.wrong, by rw [hline]; exact zMx.wrong hs⟩
      · have hj : zr_lineOf (ts k) zk_lw (tv k) = nI 2 := hj
        have hv : tv k = 13675698 := hjv.symm
        have hi := zm_isWord (w := w) (t := t) (u := u) (zw_maker (Ls := Ls) (xs := xs)) hs
        rw [if_pos ⟨h2, hv⟩] at hi
        refine zn_rl0 hs (fun z => absurd (z.2.symm.trans hv) (by decide)) ?_
        refine zn_rl1 hs (fun z => absurd (z.2.symm.trans hv) (by decide)) ?_
        rcases hb01 with hbg | hbg
        · have hline : zp_line tn ts tp tv k D Mn Gn Un bg l S = .inr (6, tp k) := zp_line_u (j := 2) (by decide) (by decide) hj hbg
          have h6 : u 72 6 = 0 := by rw [hL.2.2.1, hbg]; rfl
          obtain ⟨z1, z2, z3, z4⟩ := hL.2.2.2.2 hbg
          refine zx.adv 5 (f' := (56, [(0, .ref 69)], [.int 2, .ref 73, .retAddr 22, .ref 69])) (h' := zH u w t) rfl ?_
          refine zx.ob (f' := (57, [(0, .ref 69)], [.int (u 72 (2 : Int32).toNatClampNeg), .retAddr 22, .ref 69])) (h' := zH u w t) rfl rfl ?_
          show zx zk_mt zk_ex Ls xs zm_307 (57, [(0, .ref 69)], [.int (u 72 2), .retAddr 22, .ref 69]) (zH u w t) _
          rw [h722]
          refine zx.adv 1 (f' := (58, [(0, .ref 69)], [.int 5, .int (nI Mn), .retAddr 22, .ref 69])) (h' := zH u w t) rfl ?_
          refine zx.br (f1 := (65, [(0, .ref 69)], [.retAddr 22, .ref 69])) (f2 := (61, [(0, .ref 69)], [.retAddr 22, .ref 69])) rfl (fun c1 => absurd (of_decide_eq_true c1) (show ¬ (5 : Int32) ≤ nI Mn from nI_ge (b := 5) (by omega) (by decide))) (fun c1 => ?_)
          refine zx.adv 2 (f' := (66, [(0, .ref 69)], [.int 1, .retAddr 22, .ref 69])) (h' := zH u w t) rfl ?_
          refine zx.cl (v := some (.int 1)) (h' := zH (zb u 68 (upd (upd (upd (u 68) 9 6) 10 (u 68 4)) 13 1)) w t) rfl (zm_begins_u 22 hs.2.2 h6 hi) ?_
          show zx zk_mt zk_ex Ls xs zm_307 (69, [(0, .ref 69)], [.int 1]) (zH (zb u 68 (upd (upd (upd (u 68) 9 6) 10 (u 68 4)) 13 1)) w t) _
          refine zx.br (f1 := (79, [(0, .ref 69)], [])) (f2 := (72, [(0, .ref 69)], [])) rfl (fun c2 => absurd (of_decide_eq_true c2) (by decide)) (fun c2 => ?_)
          refine zx.adv 1 (f' := (73, [(0, .ref 69)], [.ref 69])) (h' := zH (zb u 68 (upd (upd (upd (u 68) 9 6) 10 (u 68 4)) 13 1)) w t) rfl ?_
          refine zx.cl (v := none) (h' := zH (zb u 68 (upd (upd (upd (u 68) 9 6) 10 (u 68 4)) 13 1)) w t) rfl (zm_makerLine_x (u := (zb u 68 (upd (upd (upd (u 68) 9 6) 10 (u 68 4)) 13 1))) rfl) ?_
          show zx zk_mt zk_ex Ls xs zm_307 (76, [(0, .ref 69)], []) (zH (zb u 68 (upd (upd (upd (u 68) 9 6) 10 (u 68 4)) 13 1)) w t) _
          refine zx.adv 1 (f' := (184, [(0, .ref 69)], [])) (h' := zH (zb u 68 (upd (upd (upd (u 68) 9 6) 10 (u 68 4)) 13 1)) w t) rfl ?_
          exact zx.rt rfl rfl ⟨_, rfl, zMk.refl.step zMg.wrong, by rw [hline]; exact zMx.wrong hs⟩
        · have h6 : u 72 6 = 1 := by rw [hL.2.2.1, hbg]; rfl
          by_cases hcap : Mn < 5
          · have hline : zp_line tn ts tp tv k D Mn Gn Un bg l S = zp_makerL tn ts tp tv (tn k) D Mn Gn Un l S := by rw [zp_line_2 hj (by omega), if_pos hcap]
            obtain ⟨u1, q1, g1, s1⟩ := zm_pass (w := w) (t := t) hM hs
            obtain ⟨u2, q2, m2⟩ := zm_makerLine (Ls := Ls) (xs := xs) (w := w) (t := t) (u := u1) hM hT s1 (show zRN S (u1 72) by rw [g1.1 72 (by decide) (by decide)]; exact hN) hS (show zL D Mn Gn Un 1 l (u1 72) (u1 74) by rw [g1.1 72 (by decide) (by decide), g1.1 74 (by decide) (by decide), ← hbg]; exact hL) hcap
            refine zx.adv 5 (f' := (56, [(0, .ref 69)], [.int 2, .ref 73, .retAddr 22, .ref 69])) (h' := zH u w t) rfl ?_
            refine zx.ob (f' := (57, [(0, .ref 69)], [.int (u 72 (2 : Int32).toNatClampNeg), .retAddr 22, .ref 69])) (h' := zH u w t) rfl rfl ?_
            show zx zk_mt zk_ex Ls xs zm_307 (57, [(0, .ref 69)], [.int (u 72 2), .retAddr 22, .ref 69]) (zH u w t) _
            rw [h722]
            refine zx.adv 1 (f' := (58, [(0, .ref 69)], [.int 5, .int (nI Mn), .retAddr 22, .ref 69])) (h' := zH u w t) rfl ?_
            refine zx.br (f1 := (65, [(0, .ref 69)], [.retAddr 22, .ref 69])) (f2 := (61, [(0, .ref 69)], [.retAddr 22, .ref 69])) rfl (fun c1 => absurd (of_decide_eq_true c1) (show ¬ (5 : Int32) ≤ nI Mn from nI_ge (b := 5) (by omega) (by decide))) (fun c1 => ?_)
            refine zx.adv 2 (f' := (66, [(0, .ref 69)], [.int 1, .retAddr 22, .ref 69])) (h' := zH u w t) rfl ?_
            refine zx.cl (v := some (.int 1)) (h' := zH u1 w t) rfl (zm_begins_1 22 hs.2.2 h6 hi q1) ?_
            show zx zk_mt zk_ex Ls xs zm_307 (69, [(0, .ref 69)], [.int 1]) (zH u1 w t) _
            refine zx.br (f1 := (79, [(0, .ref 69)], [])) (f2 := (72, [(0, .ref 69)], [])) rfl (fun c2 => absurd (of_decide_eq_true c2) (by decide)) (fun c2 => ?_)
            refine zx.adv 1 (f' := (73, [(0, .ref 69)], [.ref 69])) (h' := zH u1 w t) rfl ?_
            refine zx.cl (v := none) (h' := zH u2 w t) rfl q2 ?_
            show zx zk_mt zk_ex Ls xs zm_307 (76, [(0, .ref 69)], []) (zH u2 w t) _
            refine zx.adv 1 (f' := (184, [(0, .ref 69)], [])) (h' := zH u2 w t) rfl ?_
            exact zx.rt rfl rfl ⟨u2, rfl, (zMk.refl.step g1).trans m2.1, by rw [hline]; exact m2.2⟩
          · have hline : zp_line tn ts tp tv k D Mn Gn Un bg l S = .inr (5, tp k) := by rw [zp_line_2 hj (by omega), if_neg hcap]
            refine zx.adv 5 (f' := (56, [(0, .ref 69)], [.int 2, .ref 73, .retAddr 22, .ref 69])) (h' := zH u w t) rfl ?_
            refine zx.ob (f' := (57, [(0, .ref 69)], [.int (u 72 (2 : Int32).toNatClampNeg), .retAddr 22, .ref 69])) (h' := zH u w t) rfl rfl ?_
            show zx zk_mt zk_ex Ls xs zm_307 (57, [(0, .ref 69)], [.int (u 72 2), .retAddr 22, .ref 69]) (zH u w t) _
            rw [h722]
            refine zx.adv 1 (f' := (58, [(0, .ref 69)], [.int 5, .int (nI Mn), .retAddr 22, .ref 69])) (h' := zH u w t) rfl ?_
            refine zx.br (f1 := (65, [(0, .ref 69)], [.retAddr 22, .ref 69])) (f2 := (61, [(0, .ref 69)], [.retAddr 22, .ref 69])) rfl (fun c1 => ?_) (fun c1 => absurd (show (5 : Int32) ≤ nI Mn from nI_le (a := 5) (by omega) (by omega)) (of_decide_eq_false c1))
            refine zx.adv 1 (f' := (66, [(0, .ref 69)], [.int 0, .retAddr 22, .ref 69])) (h' := zH u w t) rfl ?_
            refine zx.cl (v := some (.int 1)) (h' := zH (zb u 68 (upd (upd (upd (u 68) 9 5) 10 (u 68 4)) 13 1)) w t) rfl (zm_begins_f 22 hs.2.2 hi) ?_
            show zx zk_mt zk_ex Ls xs zm_307 (69, [(0, .ref 69)], [.int 1]) (zH (zb u 68 (upd (upd (upd (u 68) 9 5) 10 (u 68 4)) 13 1)) w t) _
            refine zx.br (f1 := (79, [(0, .ref 69)], [])) (f2 := (72, [(0, .ref 69)], [])) rfl (fun c2 => absurd (of_decide_eq_true c2) (by decide)) (fun c2 => ?_)
            refine zx.adv 1 (f' := (73, [(0, .ref 69)], [.ref 69])) (h' := zH (zb u 68 (upd (upd (upd (u 68) 9 5) 10 (u 68 4)) 13 1)) w t) rfl ?_
            refine zx.cl (v := none) (h' := zH (zb u 68 (upd (upd (upd (u 68) 9 5) 10 (u 68 4)) 13 1)) w t) rfl (zm_makerLine_x (u := (zb u 68 (upd (upd (upd (u 68) 9 5) 10 (u 68 4)) 13 1))) rfl) ?_
            show zx zk_mt zk_ex Ls xs zm_307 (76, [(0, .ref 69)], []) (zH (zb u 68 (upd (upd (upd (u 68) 9 5) 10 (u 68 4)) 13 1)) w t) _
            refine zx.adv 1 (f' := (184, [(0, .ref 69)], [])) (h' := zH (zb u 68 (upd (upd (upd (u 68) 9 5) 10 (u 68 4)) 13 1)) w t) rfl ?_
            exact zx.rt rfl rfl ⟨_, rfl, zMk.refl.step zMg.wrong, by rw [hline]; exact zMx.wrong hs⟩
      · have hj : zr_lineOf (ts k) zk_lw (tv k) = nI 3 := hj
        have hv : tv k = 245220 := hjv.symm
        have hi := zm_isWord (w := w) (t := t) (u := u) (zw_good (Ls := Ls) (xs := xs)) hs
        rw [if_pos ⟨h2, hv⟩] at hi
        refine zn_rl0 hs (fun z => absurd (z.2.symm.trans hv) (by decide)) ?_
        refine zn_rl1 hs (fun z => absurd (z.2.symm.trans hv) (by decide)) ?_
        refine zn_rl2 hs (fun z => absurd (z.2.symm.trans hv) (by decide)) ?_
        rcases hb01 with hbg | hbg
        · have hline : zp_line tn ts tp tv k D Mn Gn Un bg l S = .inr (6, tp k) := zp_line_u (j := 3) (by decide) (by decide) hj hbg
          have h6 : u 72 6 = 0 := by rw [hL.2.2.1, hbg]; rfl
          obtain ⟨z1, z2, z3, z4⟩ := hL.2.2.2.2 hbg
          refine zx.adv 5 (f' := (87, [(0, .ref 69)], [.int 3, .ref 73, .retAddr 23, .ref 69])) (h' := zH u w t) rfl ?_
          refine zx.ob (f' := (88, [(0, .ref 69)], [.int (u 72 (3 : Int32).toNatClampNeg), .retAddr 23, .ref 69])) (h' := zH u w t) rfl rfl ?_
          show zx zk_mt zk_ex Ls xs zm_307 (88, [(0, .ref 69)], [.int (u 72 3), .retAddr 23, .ref 69]) (zH u w t) _
          rw [h723]
          refine zx.adv 1 (f' := (89, [(0, .ref 69)], [.int 4, .int (nI Gn), .retAddr 23, .ref 69])) (h' := zH u w t) rfl ?_
          refine zx.br (f1 := (96, [(0, .ref 69)], [.retAddr 23, .ref 69])) (f2 := (92, [(0, .ref 69)], [.retAddr 23, .ref 69])) rfl (fun c1 => absurd (of_decide_eq_true c1) (show ¬ (4 : Int32) ≤ nI Gn from nI_ge (b := 4) (by omega) (by decide))) (fun c1 => ?_)
          refine zx.adv 2 (f' := (97, [(0, .ref 69)], [.int 1, .retAddr 23, .ref 69])) (h' := zH u w t) rfl ?_
          refine zx.cl (v := some (.int 1)) (h' := zH (zb u 68 (upd (upd (upd (u 68) 9 6) 10 (u 68 4)) 13 1)) w t) rfl (zm_begins_u 23 hs.2.2 h6 hi) ?_
          show zx zk_mt zk_ex Ls xs zm_307 (100, [(0, .ref 69)], [.int 1]) (zH (zb u 68 (upd (upd (upd (u 68) 9 6) 10 (u 68 4)) 13 1)) w t) _
          refine zx.br (f1 := (110, [(0, .ref 69)], [])) (f2 := (103, [(0, .ref 69)], [])) rfl (fun c2 => absurd (of_decide_eq_true c2) (by decide)) (fun c2 => ?_)
          refine zx.adv 1 (f' := (104, [(0, .ref 69)], [.ref 69])) (h' := zH (zb u 68 (upd (upd (upd (u 68) 9 6) 10 (u 68 4)) 13 1)) w t) rfl ?_
          refine zx.cl (v := none) (h' := zH (zb u 68 (upd (upd (upd (u 68) 9 6) 10 (u 68 4)) 13 1)) w t) rfl (zm_goodLine_x (u := (zb u 68 (upd (upd (upd (u 68) 9 6) 10 (u 68 4)) 13 1))) rfl) ?_
          show zx zk_mt zk_ex Ls xs zm_307 (107, [(0, .ref 69)], []) (zH (zb u 68 (upd (upd (upd (u 68) 9 6) 10 (u 68 4)) 13 1)) w t) _
          refine zx.adv 1 (f' := (184, [(0, .ref 69)], [])) (h' := zH (zb u 68 (upd (upd (upd (u 68) 9 6) 10 (u 68 4)) 13 1)) w t) rfl ?_
          exact zx.rt rfl rfl ⟨_, rfl, zMk.refl.step zMg.wrong, by rw [hline]; exact zMx.wrong hs⟩
        · have h6 : u 72 6 = 1 := by rw [hL.2.2.1, hbg]; rfl
          by_cases hcap : Gn < 4
          · have hline : zp_line tn ts tp tv k D Mn Gn Un bg l S = zp_goodL tn ts tp tv (tn k) D Mn Gn Un l S := by rw [zp_line_3 hj (by omega), if_pos hcap]
            obtain ⟨u1, q1, g1, s1⟩ := zm_pass (w := w) (t := t) hM hs
            obtain ⟨u2, q2, m2⟩ := zm_goodLine (Ls := Ls) (xs := xs) (w := w) (t := t) (u := u1) hM hT s1 (show zRN S (u1 72) by rw [g1.1 72 (by decide) (by decide)]; exact hN) hS (show zL D Mn Gn Un 1 l (u1 72) (u1 74) by rw [g1.1 72 (by decide) (by decide), g1.1 74 (by decide) (by decide), ← hbg]; exact hL) hcap
            refine zx.adv 5 (f' := (87, [(0, .ref 69)], [.int 3, .ref 73, .retAddr 23, .ref 69])) (h' := zH u w t) rfl ?_
            refine zx.ob (f' := (88, [(0, .ref 69)], [.int (u 72 (3 : Int32).toNatClampNeg), .retAddr 23, .ref 69])) (h' := zH u w t) rfl rfl ?_
            show zx zk_mt zk_ex Ls xs zm_307 (88, [(0, .ref 69)], [.int (u 72 3), .retAddr 23, .ref 69]) (zH u w t) _
            rw [h723]
            refine zx.adv 1 (f' := (89, [(0, .ref 69)], [.int 4, .int (nI Gn), .retAddr 23, .ref 69])) (h' := zH u w t) rfl ?_
            refine zx.br (f1 := (96, [(0, .ref 69)], [.retAddr 23, .ref 69])) (f2 := (92, [(0, .ref 69)], [.retAddr 23, .ref 69])) rfl (fun c1 => absurd (of_decide_eq_true c1) (show ¬ (4 : Int32) ≤ nI Gn from nI_ge (b := 4) (by omega) (by decide))) (fun c1 => ?_)
            refine zx.adv 2 (f' := (97, [(0, .ref 69)], [.int 1, .retAddr 23, .ref 69])) (h' := zH u w t) rfl ?_
            refine zx.cl (v := some (.int 1)) (h' := zH u1 w t) rfl (zm_begins_1 23 hs.2.2 h6 hi q1) ?_
            show zx zk_mt zk_ex Ls xs zm_307 (100, [(0, .ref 69)], [.int 1]) (zH u1 w t) _
            refine zx.br (f1 := (110, [(0, .ref 69)], [])) (f2 := (103, [(0, .ref 69)], [])) rfl (fun c2 => absurd (of_decide_eq_true c2) (by decide)) (fun c2 => ?_)
            refine zx.adv 1 (f' := (104, [(0, .ref 69)], [.ref 69])) (h' := zH u1 w t) rfl ?_
            refine zx.cl (v := none) (h' := zH u2 w t) rfl q2 ?_
            show zx zk_mt zk_ex Ls xs zm_307 (107, [(0, .ref 69)], []) (zH u2 w t) _
            refine zx.adv 1 (f' := (184, [(0, .ref 69)], [])) (h' := zH u2 w t) rfl ?_
            exact zx.rt rfl rfl ⟨u2, rfl, (zMk.refl.step g1).trans m2.1, by rw [hline]; exact m2.2⟩
          · have hline : zp_line tn ts tp tv k D Mn Gn Un bg l S = .inr (5, tp k) := by rw [zp_line_3 hj (by omega), if_neg hcap]
            refine zx.adv 5 (f' := (87, [(0, .ref 69)], [.int 3, .ref 73, .retAddr 23, .ref 69])) (h' := zH u w t) rfl ?_
            refine zx.ob (f' := (88, [(0, .ref 69)], [.int (u 72 (3 : Int32).toNatClampNeg), .retAddr 23, .ref 69])) (h' := zH u w t) rfl rfl ?_
            show zx zk_mt zk_ex Ls xs zm_307 (88, [(0, .ref 69)], [.int (u 72 3), .retAddr 23, .ref 69]) (zH u w t) _
            rw [h723]
            refine zx.adv 1 (f' := (89, [(0, .ref 69)], [.int 4, .int (nI Gn), .retAddr 23, .ref 69])) (h' := zH u w t) rfl ?_
            refine zx.br (f1 := (96, [(0, .ref 69)], [.retAddr 23, .ref 69])) (f2 := (92, [(0, .ref 69)], [.retAddr 23, .ref 69])) rfl (fun c1 => ?_) (fun c1 => absurd (show (4 : Int32) ≤ nI Gn from nI_le (a := 4) (by omega) (by omega)) (of_decide_eq_false c1))
            refine zx.adv 1 (f' := (97, [(0, .ref 69)], [.int 0, .retAddr 23, .ref 69])) (h' := zH u w t) rfl ?_
            refine zx.cl (v := some (.int 1)) (h' := zH (zb u 68 (upd (upd (upd (u 68) 9 5) 10 (u 68 4)) 13 1)) w t) rfl (zm_begins_f 23 hs.2.2 hi) ?_
            show zx zk_mt zk_ex Ls xs zm_307 (100, [(0, .ref 69)], [.int 1]) (zH (zb u 68 (upd (upd (upd (u 68) 9 5) 10 (u 68 4)) 13 1)) w t) _
            refine zx.br (f1 := (110, [(0, .ref 69)], [])) (f2 := (103, [(0, .ref 69)], [])) rfl (fun c2 => absurd (of_decide_eq_true c2) (by decide)) (fun c2 => ?_)
            refine zx.adv 1 (f' := (104, [(0, .ref 69)], [.ref 69])) (h' := zH (zb u 68 (upd (upd (upd (u 68) 9 5) 10 (u 68 4)) 13 1)) w t) rfl ?_
            refine zx.cl (v := none) (h' := zH (zb u 68 (upd (upd (upd (u 68) 9 5) 10 (u 68 4)) 13 1)) w t) rfl (zm_goodLine_x (u := (zb u 68 (upd (upd (upd (u 68) 9 5) 10 (u 68 4)) 13 1))) rfl) ?_
            show zx zk_mt zk_ex Ls xs zm_307 (107, [(0, .ref 69)], []) (zH (zb u 68 (upd (upd (upd (u 68) 9 5) 10 (u 68 4)) 13 1)) w t) _
            refine zx.adv 1 (f' := (184, [(0, .ref 69)], [])) (h' := zH (zb u 68 (upd (upd (upd (u 68) 9 5) 10 (u 68 4)) 13 1)) w t) rfl ?_
            exact zx.rt rfl rfl ⟨_, rfl, zMk.refl.step zMg.wrong, by rw [hline]; exact zMx.wrong hs⟩
      · have hj : zr_lineOf (ts k) zk_lw (tv k) = nI 4 := hj
        have hv : tv k = 302 := hjv.symm
        have hi := zm_isWord (w := w) (t := t) (u := u) (zw_in (Ls := Ls) (xs := xs)) hs
        rw [if_pos ⟨h2, hv⟩] at hi
        refine zn_rl0 hs (fun z => absurd (z.2.symm.trans hv) (by decide)) ?_
        refine zn_rl1 hs (fun z => absurd (z.2.symm.trans hv) (by decide)) ?_
        refine zn_rl2 hs (fun z => absurd (z.2.symm.trans hv) (by decide)) ?_
        refine zn_rl3 hs (fun z => absurd (z.2.symm.trans hv) (by decide)) ?_
        rcases hb01 with hbg | hbg
        · have hline : zp_line tn ts tp tv k D Mn Gn Un bg l S = .inr (6, tp k) := zp_line_u (j := 4) (by decide) (by decide) hj hbg
          have h6 : u 72 6 = 0 := by rw [hL.2.2.1, hbg]; rfl
          obtain ⟨z1, z2, z3, z4⟩ := hL.2.2.2.2 hbg
          refine zx.adv 3 (f' := (114, [(0, .ref 69)], [.int 1, .retAddr 24, .ref 69])) (h' := zH u w t) rfl ?_
          refine zx.cl (v := some (.int 1)) (h' := zH (zb u 68 (upd (upd (upd (u 68) 9 6) 10 (u 68 4)) 13 1)) w t) rfl (zm_begins_u 24 hs.2.2 h6 hi) ?_
          show zx zk_mt zk_ex Ls xs zm_307 (117, [(0, .ref 69)], [.int 1]) (zH (zb u 68 (upd (upd (upd (u 68) 9 6) 10 (u 68 4)) 13 1)) w t) _
          refine zx.br (f1 := (127, [(0, .ref 69)], [])) (f2 := (120, [(0, .ref 69)], [])) rfl (fun c1 => absurd (of_decide_eq_true c1) (by decide)) (fun c1 => ?_)
          refine zx.adv 1 (f' := (121, [(0, .ref 69)], [.ref 69])) (h' := zH (zb u 68 (upd (upd (upd (u 68) 9 6) 10 (u 68 4)) 13 1)) w t) rfl ?_
          refine zx.cl (v := none) (h' := zH (zb u 68 (upd (upd (upd (u 68) 9 6) 10 (u 68 4)) 13 1)) w t) rfl (zm_inLine_x (u := (zb u 68 (upd (upd (upd (u 68) 9 6) 10 (u 68 4)) 13 1))) rfl) ?_
          show zx zk_mt zk_ex Ls xs zm_307 (124, [(0, .ref 69)], []) (zH (zb u 68 (upd (upd (upd (u 68) 9 6) 10 (u 68 4)) 13 1)) w t) _
          refine zx.adv 1 (f' := (184, [(0, .ref 69)], [])) (h' := zH (zb u 68 (upd (upd (upd (u 68) 9 6) 10 (u 68 4)) 13 1)) w t) rfl ?_
          exact zx.rt rfl rfl ⟨_, rfl, zMk.refl.step zMg.wrong, by rw [hline]; exact zMx.wrong hs⟩
        · have h6 : u 72 6 = 1 := by rw [hL.2.2.1, hbg]; rfl
          have hline : zp_line tn ts tp tv k D Mn Gn Un bg l S = zp_inL tn ts tp tv (tn k) D Mn Gn Un l S := by rw [zp_line_4 hj (by omega)]
          obtain ⟨u1, q1, g1, s1⟩ := zm_pass (w := w) (t := t) hM hs
          obtain ⟨u2, q2, m2⟩ := zm_inLine (Ls := Ls) (xs := xs) (w := w) (t := t) (u := u1) hM hT s1 (show zRN S (u1 72) by rw [g1.1 72 (by decide) (by decide)]; exact hN) hS (show zL D Mn Gn Un 1 l (u1 72) (u1 74) by rw [g1.1 72 (by decide) (by decide), g1.1 74 (by decide) (by decide), ← hbg]; exact hL)
          refine zx.adv 3 (f' := (114, [(0, .ref 69)], [.int 1, .retAddr 24, .ref 69])) (h' := zH u w t) rfl ?_
          refine zx.cl (v := some (.int 1)) (h' := zH u1 w t) rfl (zm_begins_1 24 hs.2.2 h6 hi q1) ?_
          show zx zk_mt zk_ex Ls xs zm_307 (117, [(0, .ref 69)], [.int 1]) (zH u1 w t) _
          refine zx.br (f1 := (127, [(0, .ref 69)], [])) (f2 := (120, [(0, .ref 69)], [])) rfl (fun c1 => absurd (of_decide_eq_true c1) (by decide)) (fun c1 => ?_)
          refine zx.adv 1 (f' := (121, [(0, .ref 69)], [.ref 69])) (h' := zH u1 w t) rfl ?_
          refine zx.cl (v := none) (h' := zH u2 w t) rfl q2 ?_
          show zx zk_mt zk_ex Ls xs zm_307 (124, [(0, .ref 69)], []) (zH u2 w t) _
          refine zx.adv 1 (f' := (184, [(0, .ref 69)], [])) (h' := zH u2 w t) rfl ?_
          exact zx.rt rfl rfl ⟨u2, rfl, (zMk.refl.step g1).trans m2.1, by rw [hline]; exact m2.2⟩
      · have hj : zr_lineOf (ts k) zk_lw (tv k) = nI 5 := hj
        have hv : tv k = 719967813 := hjv.symm
        have hi := zm_isWord (w := w) (t := t) (u := u) (zw_unsure (Ls := Ls) (xs := xs)) hs
        rw [if_pos ⟨h2, hv⟩] at hi
        refine zn_rl0 hs (fun z => absurd (z.2.symm.trans hv) (by decide)) ?_
        refine zn_rl1 hs (fun z => absurd (z.2.symm.trans hv) (by decide)) ?_
        refine zn_rl2 hs (fun z => absurd (z.2.symm.trans hv) (by decide)) ?_
        refine zn_rl3 hs (fun z => absurd (z.2.symm.trans hv) (by decide)) ?_
        refine zn_rl4 hs (fun z => absurd (z.2.symm.trans hv) (by decide)) ?_
        rcases hb01 with hbg | hbg
        · have hline : zp_line tn ts tp tv k D Mn Gn Un bg l S = .inr (6, tp k) := zp_line_u (j := 5) (by decide) (by decide) hj hbg
          have h6 : u 72 6 = 0 := by rw [hL.2.2.1, hbg]; rfl
          obtain ⟨z1, z2, z3, z4⟩ := hL.2.2.2.2 hbg
          refine zx.adv 5 (f' := (135, [(0, .ref 69)], [.int 4, .ref 73, .retAddr 25, .ref 69])) (h' := zH u w t) rfl ?_
          refine zx.ob (f' := (136, [(0, .ref 69)], [.int (u 72 (4 : Int32).toNatClampNeg), .retAddr 25, .ref 69])) (h' := zH u w t) rfl rfl ?_
          show zx zk_mt zk_ex Ls xs zm_307 (136, [(0, .ref 69)], [.int (u 72 4), .retAddr 25, .ref 69]) (zH u w t) _
          rw [h724]
          refine zx.adv 1 (f' := (137, [(0, .ref 69)], [.int 4, .int (nI Un), .retAddr 25, .ref 69])) (h' := zH u w t) rfl ?_
          refine zx.br (f1 := (144, [(0, .ref 69)], [.retAddr 25, .ref 69])) (f2 := (140, [(0, .ref 69)], [.retAddr 25, .ref 69])) rfl (fun c1 => absurd (of_decide_eq_true c1) (show ¬ (4 : Int32) ≤ nI Un from nI_ge (b := 4) (by omega) (by decide))) (fun c1 => ?_)
          refine zx.adv 2 (f' := (145, [(0, .ref 69)], [.int 1, .retAddr 25, .ref 69])) (h' := zH u w t) rfl ?_
          refine zx.cl (v := some (.int 1)) (h' := zH (zb u 68 (upd (upd (upd (u 68) 9 6) 10 (u 68 4)) 13 1)) w t) rfl (zm_begins_u 25 hs.2.2 h6 hi) ?_
          show zx zk_mt zk_ex Ls xs zm_307 (148, [(0, .ref 69)], [.int 1]) (zH (zb u 68 (upd (upd (upd (u 68) 9 6) 10 (u 68 4)) 13 1)) w t) _
          refine zx.br (f1 := (158, [(0, .ref 69)], [])) (f2 := (151, [(0, .ref 69)], [])) rfl (fun c2 => absurd (of_decide_eq_true c2) (by decide)) (fun c2 => ?_)
          refine zx.adv 1 (f' := (152, [(0, .ref 69)], [.ref 69])) (h' := zH (zb u 68 (upd (upd (upd (u 68) 9 6) 10 (u 68 4)) 13 1)) w t) rfl ?_
          refine zx.cl (v := none) (h' := zH (zb u 68 (upd (upd (upd (u 68) 9 6) 10 (u 68 4)) 13 1)) w t) rfl (zm_unsureLine_x (u := (zb u 68 (upd (upd (upd (u 68) 9 6) 10 (u 68 4)) 13 1))) rfl) ?_
          show zx zk_mt zk_ex Ls xs zm_307 (155, [(0, .ref 69)], []) (zH (zb u 68 (upd (upd (upd (u 68) 9 6) 10 (u 68 4)) 13 1)) w t) _
          refine zx.adv 1 (f' := (184, [(0, .ref 69)], [])) (h' := zH (zb u 68 (upd (upd (upd (u 68) 9 6) 10 (u 68 4)) 13 1)) w t) rfl ?_
          exact zx.rt rfl rfl ⟨_, rfl, zMk.refl.step zMg.wrong, by rw [hline]; exact zMx.wrong hs⟩
        · have h6 : u 72 6 = 1 := by rw [hL.2.2.1, hbg]; rfl
          by_cases hcap : Un < 4
          · have hline : zp_line tn ts tp tv k D Mn Gn Un bg l S = zp_unsureL tn ts tp tv (tn k) D Mn Gn Un l S := by rw [zp_line_5 hj (by omega), if_pos hcap]
            obtain ⟨u1, q1, g1, s1⟩ := zm_pass (w := w) (t := t) hM hs
            obtain ⟨u2, q2, m2⟩ := zm_unsureLine (Ls := Ls) (xs := xs) (w := w) (t := t) (u := u1) hM hT s1 (show zRN S (u1 72) by rw [g1.1 72 (by decide) (by decide)]; exact hN) hS (show zL D Mn Gn Un 1 l (u1 72) (u1 74) by rw [g1.1 72 (by decide) (by decide), g1.1 74 (by decide) (by decide), ← hbg]; exact hL) hcap
            refine zx.adv 5 (f' := (135, [(0, .ref 69)], [.int 4, .ref 73, .retAddr 25, .ref 69])) (h' := zH u w t) rfl ?_
            refine zx.ob (f' := (136, [(0, .ref 69)], [.int (u 72 (4 : Int32).toNatClampNeg), .retAddr 25, .ref 69])) (h' := zH u w t) rfl rfl ?_
            show zx zk_mt zk_ex Ls xs zm_307 (136, [(0, .ref 69)], [.int (u 72 4), .retAddr 25, .ref 69]) (zH u w t) _
            rw [h724]
            refine zx.adv 1 (f' := (137, [(0, .ref 69)], [.int 4, .int (nI Un), .retAddr 25, .ref 69])) (h' := zH u w t) rfl ?_
            refine zx.br (f1 := (144, [(0, .ref 69)], [.retAddr 25, .ref 69])) (f2 := (140, [(0, .ref 69)], [.retAddr 25, .ref 69])) rfl (fun c1 => absurd (of_decide_eq_true c1) (show ¬ (4 : Int32) ≤ nI Un from nI_ge (b := 4) (by omega) (by decide))) (fun c1 => ?_)
            refine zx.adv 2 (f' := (145, [(0, .ref 69)], [.int 1, .retAddr 25, .ref 69])) (h' := zH u w t) rfl ?_
            refine zx.cl (v := some (.int 1)) (h' := zH u1 w t) rfl (zm_begins_1 25 hs.2.2 h6 hi q1) ?_
            show zx zk_mt zk_ex Ls xs zm_307 (148, [(0, .ref 69)], [.int 1]) (zH u1 w t) _
            refine zx.br (f1 := (158, [(0, .ref 69)], [])) (f2 := (151, [(0, .ref 69)], [])) rfl (fun c2 => absurd (of_decide_eq_true c2) (by decide)) (fun c2 => ?_)
            refine zx.adv 1 (f' := (152, [(0, .ref 69)], [.ref 69])) (h' := zH u1 w t) rfl ?_
            refine zx.cl (v := none) (h' := zH u2 w t) rfl q2 ?_
            show zx zk_mt zk_ex Ls xs zm_307 (155, [(0, .ref 69)], []) (zH u2 w t) _
            refine zx.adv 1 (f' := (184, [(0, .ref 69)], [])) (h' := zH u2 w t) rfl ?_
            exact zx.rt rfl rfl ⟨u2, rfl, (zMk.refl.step g1).trans m2.1, by rw [hline]; exact m2.2⟩
          · have hline : zp_line tn ts tp tv k D Mn Gn Un bg l S = .inr (5, tp k) := by rw [zp_line_5 hj (by omega), if_neg hcap]
            refine zx.adv 5 (f' := (135, [(0, .ref 69)], [.int 4, .ref 73, .retAddr 25, .ref 69])) (h' := zH u w t) rfl ?_
            refine zx.ob (f' := (136, [(0, .ref 69)], [.int (u 72 (4 : Int32).toNatClampNeg), .retAddr 25, .ref 69])) (h' := zH u w t) rfl rfl ?_
            show zx zk_mt zk_ex Ls xs zm_307 (136, [(0, .ref 69)], [.int (u 72 4), .retAddr 25, .ref 69]) (zH u w t) _
            rw [h724]
            refine zx.adv 1 (f' := (137, [(0, .ref 69)], [.int 4, .int (nI Un), .retAddr 25, .ref 69])) (h' := zH u w t) rfl ?_
            refine zx.br (f1 := (144, [(0, .ref 69)], [.retAddr 25, .ref 69])) (f2 := (140, [(0, .ref 69)], [.retAddr 25, .ref 69])) rfl (fun c1 => ?_) (fun c1 => absurd (show (4 : Int32) ≤ nI Un from nI_le (a := 4) (by omega) (by omega)) (of_decide_eq_false c1))
            refine zx.adv 1 (f' := (145, [(0, .ref 69)], [.int 0, .retAddr 25, .ref 69])) (h' := zH u w t) rfl ?_
            refine zx.cl (v := some (.int 1)) (h' := zH (zb u 68 (upd (upd (upd (u 68) 9 5) 10 (u 68 4)) 13 1)) w t) rfl (zm_begins_f 25 hs.2.2 hi) ?_
            show zx zk_mt zk_ex Ls xs zm_307 (148, [(0, .ref 69)], [.int 1]) (zH (zb u 68 (upd (upd (upd (u 68) 9 5) 10 (u 68 4)) 13 1)) w t) _
            refine zx.br (f1 := (158, [(0, .ref 69)], [])) (f2 := (151, [(0, .ref 69)], [])) rfl (fun c2 => absurd (of_decide_eq_true c2) (by decide)) (fun c2 => ?_)
            refine zx.adv 1 (f' := (152, [(0, .ref 69)], [.ref 69])) (h' := zH (zb u 68 (upd (upd (upd (u 68) 9 5) 10 (u 68 4)) 13 1)) w t) rfl ?_
            refine zx.cl (v := none) (h' := zH (zb u 68 (upd (upd (upd (u 68) 9 5) 10 (u 68 4)) 13 1)) w t) rfl (zm_unsureLine_x (u := (zb u 68 (upd (upd (upd (u 68) 9 5) 10 (u 68 4)) 13 1))) rfl) ?_
            show zx zk_mt zk_ex Ls xs zm_307 (155, [(0, .ref 69)], []) (zH (zb u 68 (upd (upd (upd (u 68) 9 5) 10 (u 68 4)) 13 1)) w t) _
            refine zx.adv 1 (f' := (184, [(0, .ref 69)], [])) (h' := zH (zb u 68 (upd (upd (upd (u 68) 9 5) 10 (u 68 4)) 13 1)) w t) rfl ?_
            exact zx.rt rfl rfl ⟨_, rfl, zMk.refl.step zMg.wrong, by rw [hline]; exact zMx.wrong hs⟩
      · have hj : zr_lineOf (ts k) zk_lw (tv k) = nI 6 := hj
        have hv : tv k = 72553868 := hjv.symm
        have hi := zm_isWord (w := w) (t := t) (u := u) (zw_befell (Ls := Ls) (xs := xs)) hs
        rw [if_pos ⟨h2, hv⟩] at hi
        refine zn_rl0 hs (fun z => absurd (z.2.symm.trans hv) (by decide)) ?_
        refine zn_rl1 hs (fun z => absurd (z.2.symm.trans hv) (by decide)) ?_
        refine zn_rl2 hs (fun z => absurd (z.2.symm.trans hv) (by decide)) ?_
        refine zn_rl3 hs (fun z => absurd (z.2.symm.trans hv) (by decide)) ?_
        refine zn_rl4 hs (fun z => absurd (z.2.symm.trans hv) (by decide)) ?_
        refine zn_rl5 hs (fun z => absurd (z.2.symm.trans hv) (by decide)) ?_
        rcases hb01 with hbg | hbg
        · have hline : zp_line tn ts tp tv k D Mn Gn Un bg l S = .inr (6, tp k) := zp_line_u (j := 6) (by decide) (by decide) hj hbg
          have h6 : u 72 6 = 0 := by rw [hL.2.2.1, hbg]; rfl
          obtain ⟨z1, z2, z3, z4⟩ := hL.2.2.2.2 hbg
          refine zx.adv 3 (f' := (162, [(0, .ref 69)], [.int 1, .retAddr 26, .ref 69])) (h' := zH u w t) rfl ?_
          refine zx.cl (v := some (.int 1)) (h' := zH (zb u 68 (upd (upd (upd (u 68) 9 6) 10 (u 68 4)) 13 1)) w t) rfl (zm_begins_u 26 hs.2.2 h6 hi) ?_
          show zx zk_mt zk_ex Ls xs zm_307 (165, [(0, .ref 69)], [.int 1]) (zH (zb u 68 (upd (upd (upd (u 68) 9 6) 10 (u 68 4)) 13 1)) w t) _
          refine zx.br (f1 := (175, [(0, .ref 69)], [])) (f2 := (168, [(0, .ref 69)], [])) rfl (fun c1 => absurd (of_decide_eq_true c1) (by decide)) (fun c1 => ?_)
          refine zx.adv 1 (f' := (169, [(0, .ref 69)], [.ref 69])) (h' := zH (zb u 68 (upd (upd (upd (u 68) 9 6) 10 (u 68 4)) 13 1)) w t) rfl ?_
          refine zx.cl (v := none) (h' := zH (zb u 68 (upd (upd (upd (u 68) 9 6) 10 (u 68 4)) 13 1)) w t) rfl (zm_befellLine_x (u := (zb u 68 (upd (upd (upd (u 68) 9 6) 10 (u 68 4)) 13 1))) rfl) ?_
          show zx zk_mt zk_ex Ls xs zm_307 (172, [(0, .ref 69)], []) (zH (zb u 68 (upd (upd (upd (u 68) 9 6) 10 (u 68 4)) 13 1)) w t) _
          refine zx.adv 1 (f' := (184, [(0, .ref 69)], [])) (h' := zH (zb u 68 (upd (upd (upd (u 68) 9 6) 10 (u 68 4)) 13 1)) w t) rfl ?_
          exact zx.rt rfl rfl ⟨_, rfl, zMk.refl.step zMg.wrong, by rw [hline]; exact zMx.wrong hs⟩
        · have h6 : u 72 6 = 1 := by rw [hL.2.2.1, hbg]; rfl
          have hline : zp_line tn ts tp tv k D Mn Gn Un bg l S = zp_befellL tn ts tp tv (tn k) D Mn Gn Un l S := by rw [zp_line_6 hj (by omega)]
          obtain ⟨u1, q1, g1, s1⟩ := zm_pass (w := w) (t := t) hM hs
          obtain ⟨u2, q2, m2⟩ := zm_befellLine (Ls := Ls) (xs := xs) (w := w) (t := t) (u := u1) hM hT s1 (show zRN S (u1 72) by rw [g1.1 72 (by decide) (by decide)]; exact hN) hS (show zL D Mn Gn Un 1 l (u1 72) (u1 74) by rw [g1.1 72 (by decide) (by decide), g1.1 74 (by decide) (by decide), ← hbg]; exact hL)
          refine zx.adv 3 (f' := (162, [(0, .ref 69)], [.int 1, .retAddr 26, .ref 69])) (h' := zH u w t) rfl ?_
          refine zx.cl (v := some (.int 1)) (h' := zH u1 w t) rfl (zm_begins_1 26 hs.2.2 h6 hi q1) ?_
          show zx zk_mt zk_ex Ls xs zm_307 (165, [(0, .ref 69)], [.int 1]) (zH u1 w t) _
          refine zx.br (f1 := (175, [(0, .ref 69)], [])) (f2 := (168, [(0, .ref 69)], [])) rfl (fun c1 => absurd (of_decide_eq_true c1) (by decide)) (fun c1 => ?_)
          refine zx.adv 1 (f' := (169, [(0, .ref 69)], [.ref 69])) (h' := zH u1 w t) rfl ?_
          refine zx.cl (v := none) (h' := zH u2 w t) rfl q2 ?_
          show zx zk_mt zk_ex Ls xs zm_307 (172, [(0, .ref 69)], []) (zH u2 w t) _
          refine zx.adv 1 (f' := (184, [(0, .ref 69)], [])) (h' := zH u2 w t) rfl ?_
          exact zx.rt rfl rfl ⟨u2, rfl, (zMk.refl.step g1).trans m2.1, by rw [hline]; exact m2.2⟩
    · have hline : zp_line tn ts tp tv k D Mn Gn Un bg l S = .inr (1, tp k) := zp_line_n hj
      refine zn_rl0 hs (fun z => hno z.1 0 (by decide) z.2.symm) ?_
      refine zn_rl1 hs (fun z => hno z.1 1 (by decide) z.2.symm) ?_
      refine zn_rl2 hs (fun z => hno z.1 2 (by decide) z.2.symm) ?_
      refine zn_rl3 hs (fun z => hno z.1 3 (by decide) z.2.symm) ?_
      refine zn_rl4 hs (fun z => hno z.1 4 (by decide) z.2.symm) ?_
      refine zn_rl5 hs (fun z => hno z.1 5 (by decide) z.2.symm) ?_
      refine zn_rl6 hs (fun z => hno z.1 6 (by decide) z.2.symm) ?_
      refine zx.adv 4 (f' := (181, [(0, .ref 69)], [.int (u 68 4), .int 1, .ref 69])) (h' := zH u w t) rfl ?_
      refine zx.cl (v := none) (h' := zH (zb u 68 (upd (upd (upd (u 68) 9 1) 10 (u 68 4)) 13 1)) w t) rfl (zs_mwrong_0 (v := u) (w := w) hs.2.2 1 (u 68 4)) ?_
      show zx zk_mt zk_ex Ls xs zm_307 (184, [(0, .ref 69)], []) (zH (zb u 68 (upd (upd (upd (u 68) 9 1) 10 (u 68 4)) 13 1)) w t) _
      exact zx.rt rfl rfl ⟨_, rfl, zMk.refl.step zMg.wrong, by rw [hline]; exact zMx.wrong hs⟩
  obtain ⟨q, h1, u', rfl, h2⟩ := main
  exact ⟨u', h1, h2⟩
end Z65B
