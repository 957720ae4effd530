/-! contracts: unsure thoughts, weaves, gate -/
section Z38
variable {Ls : Nat} {xs : Nat → Int32} {v : Nat → Nat → Int32} {w : Nat → Nat → Int64} {t : zk_H}
def zl_weighG (Gn : Nat) (sk : Nat → Int32) (yg : Int32) (sp : Nat) (fe la kd th um ud : Nat → Int32) (U : Nat) (li bf : Nat → Int32) (j : Nat) (s : Int32 × Int32 × Int32 × Int32 × Int32 × Int32) : Int32 × Int32 × Int32 × Int32 × Int32 × Int32 := match s with
  | (ft, w3, w4, w5, w6, w7) => if 0 ≤ ((zr_fmm Gn sk yg sp (fe) (la) (kd) (th) (um) (ud) U (li) (bf) (nI j) w3 w4 w5 w6 w7).1) then (ft, (zr_fmm Gn sk yg sp (fe) (la) (kd) (th) (um) (ud) U (li) (bf) (nI j) w3 w4 w5 w6 w7).2.1, (zr_fmm Gn sk yg sp (fe) (la) (kd) (th) (um) (ud) U (li) (bf) (nI j) w3 w4 w5 w6 w7).2.2.1, (zr_fmm Gn sk yg sp (fe) (la) (kd) (th) (um) (ud) U (li) (bf) (nI j) w3 w4 w5 w6 w7).2.2.2.1, (zr_fmm Gn sk yg sp (fe) (la) (kd) (th) (um) (ud) U (li) (bf) (nI j) w3 w4 w5 w6 w7).2.2.2.2.1, (zr_fmm Gn sk yg sp (fe) (la) (kd) (th) (um) (ud) U (li) (bf) (nI j) w3 w4 w5 w6 w7).2.2.2.2.2) else (ft ||| ((1 : Int32) <<< ((nI j) &&& 31)), (zr_fmm Gn sk yg sp (fe) (la) (kd) (th) (um) (ud) U (li) (bf) (nI j) w3 w4 w5 w6 w7).2.1, (zr_fmm Gn sk yg sp (fe) (la) (kd) (th) (um) (ud) U (li) (bf) (nI j) w3 w4 w5 w6 w7).2.2.1, (zr_fmm Gn sk yg sp (fe) (la) (kd) (th) (um) (ud) U (li) (bf) (nI j) w3 w4 w5 w6 w7).2.2.2.1, (zr_fmm Gn sk yg sp (fe) (la) (kd) (th) (um) (ud) U (li) (bf) (nI j) w3 w4 w5 w6 w7).2.2.2.2.1, (zr_fmm Gn sk yg sp (fe) (la) (kd) (th) (um) (ud) U (li) (bf) (nI j) w3 w4 w5 w6 w7).2.2.2.2.2)
theorem zl_weigh (Gn : Nat) (hG : v 20 8 = nI Gn) (h4 : Gn ≤ 4) (hld : ∀ a, a < Gn → v 28 a < 0 ∨ ∃ e, e < 5 ∧ v 28 a = nI e) (hkd : ∀ e, e < 5 → v 23 e = 0 ∨ v 23 e = 1 ∨ v 23 e = 2) (U : Nat) (hU : v 20 14 = nI U) (hU4 : U ≤ 4) (N : Nat) (hN : 2 ^ U = N) (hN2 : N ≤ 256) (sp : Nat) (hsp : sp ≤ 60) (yg : Int32) (sk : Nat → Int32) : ∀ (s : Int32 × Int32 × Int32 × Int32 × Int32 × Int32) (q : Option Value × zk_H), zk_T zk_mt zk_ex Ls xs zm_238 ((fun (s : Int32 × Int32 × Int32 × Int32 × Int32 × Int32) => ((84, [(0, .ref 57), (1, .ref 20), (2, .int (nI (0 + N)))], []) : zk_F)) (zf (zl_weighG Gn sk yg sp (v 27) (v 63) (v 23) (v 25) (v 30) (v 31) U (v 28) (v 29)) N 0 s)) ((fun (s : Int32 × Int32 × Int32 × Int32 × Int32 × Int32) => zH (zb (zb (zb v 57 (upd (upd (v 57) 2 (nI U)) 3 s.1)) 58 (upd (upd (upd (upd (upd (upd (upd (v 58) 0 yg) 1 (nI sp)) 3 s.2.1) 4 s.2.2.1) 5 s.2.2.2.1) 6 s.2.2.2.2.1) 7 s.2.2.2.2.2)) 59 sk) w t) (zf (zl_weighG Gn sk yg sp (v 27) (v 63) (v 23) (v 25) (v 30) (v 31) U (v 28) (v 29)) N 0 s)) q → zk_T zk_mt zk_ex Ls xs zm_238 (47, [(0, .ref 57), (1, .ref 20), (2, .int (nI 0))], []) (zH (zb (zb (zb v 57 (upd (upd (v 57) 2 (nI U)) 3 s.1)) 58 (upd (upd (upd (upd (upd (upd (upd (v 58) 0 yg) 1 (nI sp)) 3 s.2.1) 4 s.2.2.1) 5 s.2.2.2.1) 6 s.2.2.2.2.1) 7 s.2.2.2.2.2)) 59 sk) w t) q := by
  intro s q hk
  refine zk_forK (M := zm_238) (fun j (s : Int32 × Int32 × Int32 × Int32 × Int32 × Int32) => (47, [(0, .ref 57), (1, .ref 20), (2, .int (nI j))], [])) (fun _ (s : Int32 × Int32 × Int32 × Int32 × Int32 × Int32) => zH (zb (zb (zb v 57 (upd (upd (v 57) 2 (nI U)) 3 s.1)) 58 (upd (upd (upd (upd (upd (upd (upd (v 58) 0 yg) 1 (nI sp)) 3 s.2.1) 4 s.2.2.1) 5 s.2.2.2.1) 6 s.2.2.2.2.1) 7 s.2.2.2.2.2)) 59 sk) w t) (zl_weighG Gn sk yg sp (v 27) (v 63) (v 23) (v 25) (v 30) (v 31) U (v 28) (v 29)) (fun _ _ => True) (fun (s : Int32 × Int32 × Int32 × Int32 × Int32 × Int32) => (84, [(0, .ref 57), (1, .ref 20), (2, .int (nI (0 + N)))], [])) (fun (s : Int32 × Int32 × Int32 × Int32 × Int32 × Int32) => zH (zb (zb (zb v 57 (upd (upd (v 57) 2 (nI U)) 3 s.1)) 58 (upd (upd (upd (upd (upd (upd (upd (v 58) 0 yg) 1 (nI sp)) 3 s.2.1) 4 s.2.2.1) 5 s.2.2.2.1) 6 s.2.2.2.2.1) 7 s.2.2.2.2.2)) 59 sk) w t) (N) 0 s (fun _ _ _ _ _ => trivial) (fun j s hj1 hj2 hp q hk => ?_) (fun s hp q hk => ?_) ?_ q hk
  · obtain ⟨ft, w3, w4, w5, w6, w7⟩ := s
    show zk_T zk_mt zk_ex Ls xs zm_238 (47, [(0, .ref 57), (1, .ref 20), (2, .int (nI j))], []) (zH (zb (zb (zb v 57 (upd (upd (v 57) 2 (nI U)) 3 ft)) 58 (upd (upd (upd (upd (upd (upd (upd (v 58) 0 yg) 1 (nI sp)) 3 w3) 4 w4) 5 w5) 6 w6) 7 w7)) 59 sk) w t) q
    refine zk_T.adv 5 (f' := (54, [(0, .ref 57), (1, .ref 20), (2, .int (nI j))], [.int ((1 : Int32) <<< ((nI U) &&& 31)), .int (nI j)])) (h' := zH (zb (zb (zb v 57 (upd (upd (v 57) 2 (nI U)) 3 ft)) 58 (upd (upd (upd (upd (upd (upd (upd (v 58) 0 yg) 1 (nI sp)) 3 w3) 4 w4) 5 w5) 6 w6) 7 w7)) 59 sk) w t) rfl ?_
    rw [show (1 : Int32) <<< ((nI U) &&& 31) = nI N from (by rw [zk_shl1 U (by omega), hN])]
    refine zk_T.br (f1 := (84, [(0, .ref 57), (1, .ref 20), (2, .int (nI j))], [])) (f2 := (57, [(0, .ref 57), (1, .ref 20), (2, .int (nI j))], [])) rfl (fun c1 => absurd (of_decide_eq_true c1) (nI_ge (show j < N by omega) (by omega))) (fun c1 => ?_)
    refine zk_T.adv 3 (f' := (60, [(0, .ref 57), (1, .ref 20), (2, .int (nI j))], [.int (nI j), .ref 20, .ref 57])) (h' := zH (zb (zb (zb v 57 (upd (upd (v 57) 2 (nI U)) 3 ft)) 58 (upd (upd (upd (upd (upd (upd (upd (v 58) 0 yg) 1 (nI sp)) 3 w3) 4 w4) 5 w5) 6 w6) 7 w7)) 59 sk) w t) rfl ?_
    refine zk_T.cl (v := some (.int ((zr_fmm Gn sk yg sp (v 27) (v 63) (v 23) (v 25) (v 30) (v 31) U (v 28) (v 29) (nI j) w3 w4 w5 w6 w7).1))) (h' := zH (zb (zb (zb v 57 (upd (upd (v 57) 2 (nI U)) 3 ft)) 58 (upd (upd (upd (upd (upd (upd (upd (v 58) 0 yg) 1 (nI sp)) 3 ((zr_fmm Gn sk yg sp (v 27) (v 63) (v 23) (v 25) (v 30) (v 31) U (v 28) (v 29) (nI j) w3 w4 w5 w6 w7).2.1)) 4 ((zr_fmm Gn sk yg sp (v 27) (v 63) (v 23) (v 25) (v 30) (v 31) U (v 28) (v 29) (nI j) w3 w4 w5 w6 w7).2.2.1)) 5 ((zr_fmm Gn sk yg sp (v 27) (v 63) (v 23) (v 25) (v 30) (v 31) U (v 28) (v 29) (nI j) w3 w4 w5 w6 w7).2.2.2.1)) 6 ((zr_fmm Gn sk yg sp (v 27) (v 63) (v 23) (v 25) (v 30) (v 31) U (v 28) (v 29) (nI j) w3 w4 w5 w6 w7).2.2.2.2.1)) 7 ((zr_fmm Gn sk yg sp (v 27) (v 63) (v 23) (v 25) (v 30) (v 31) U (v 28) (v 29) (nI j) w3 w4 w5 w6 w7).2.2.2.2.2))) 59 sk) w t) rfl (zs_fmm (v := (zb (zb (zb v 57 (upd (upd (v 57) 2 (nI U)) 3 ft)) 58 (upd (upd (upd (upd (upd (upd (upd (v 58) 0 yg) 1 (nI sp)) 3 w3) 4 w4) 5 w5) 6 w6) 7 w7)) 59 sk)) Gn hG h4 hld hkd U hU hU4 sp hsp yg sk (nI j)) ?_
    show zk_T zk_mt zk_ex Ls xs zm_238 (63, [(0, .ref 57), (1, .ref 20), (2, .int (nI j))], [.int ((zr_fmm Gn sk yg sp (v 27) (v 63) (v 23) (v 25) (v 30) (v 31) U (v 28) (v 29) (nI j) w3 w4 w5 w6 w7).1)]) (zH (zb (zb (zb v 57 (upd (upd (v 57) 2 (nI U)) 3 ft)) 58 (upd (upd (upd (upd (upd (upd (upd (v 58) 0 yg) 1 (nI sp)) 3 ((zr_fmm Gn sk yg sp (v 27) (v 63) (v 23) (v 25) (v 30) (v 31) U (v 28) (v 29) (nI j) w3 w4 w5 w6 w7).2.1)) 4 ((zr_fmm Gn sk yg sp (v 27) (v 63) (v 23) (v 25) (v 30) (v 31) U (v 28) (v 29) (nI j) w3 w4 w5 w6 w7).2.2.1)) 5 ((zr_fmm Gn sk yg sp (v 27) (v 63) (v 23) (v 25) (v 30) (v 31) U (v 28) (v 29) (nI j) w3 w4 w5 w6 w7).2.2.2.1)) 6 ((zr_fmm Gn sk yg sp (v 27) (v 63) (v 23) (v 25) (v 30) (v 31) U (v 28) (v 29) (nI j) w3 w4 w5 w6 w7).2.2.2.2.1)) 7 ((zr_fmm Gn sk yg sp (v 27) (v 63) (v 23) (v 25) (v 30) (v 31) U (v 28) (v 29) (nI j) w3 w4 w5 w6 w7).2.2.2.2.2))) 59 sk) w t) _
    refine zk_T.br (f1 := (78, [(0, .ref 57), (1, .ref 20), (2, .int (nI j))], [])) (f2 := (66, [(0, .ref 57), (1, .ref 20), (2, .int (nI j))], [])) rfl (fun c2 => ?_) (fun c2 => ?_)
    · have c2 : 0 ≤ ((zr_fmm Gn sk yg sp (v 27) (v 63) (v 23) (v 25) (v 30) (v 31) U (v 28) (v 29) (nI j) w3 w4 w5 w6 w7).1) := of_decide_eq_true c2
      refine zk_T.adv 2 (f' := (47, [(0, .ref 57), (1, .ref 20), (2, .int ((nI j) + 1))], [])) (h' := zH (zb (zb (zb v 57 (upd (upd (v 57) 2 (nI U)) 3 ft)) 58 (upd (upd (upd (upd (upd (upd (upd (v 58) 0 yg) 1 (nI sp)) 3 ((zr_fmm Gn sk yg sp (v 27) (v 63) (v 23) (v 25) (v 30) (v 31) U (v 28) (v 29) (nI j) w3 w4 w5 w6 w7).2.1)) 4 ((zr_fmm Gn sk yg sp (v 27) (v 63) (v 23) (v 25) (v 30) (v 31) U (v 28) (v 29) (nI j) w3 w4 w5 w6 w7).2.2.1)) 5 ((zr_fmm Gn sk yg sp (v 27) (v 63) (v 23) (v 25) (v 30) (v 31) U (v 28) (v 29) (nI j) w3 w4 w5 w6 w7).2.2.2.1)) 6 ((zr_fmm Gn sk yg sp (v 27) (v 63) (v 23) (v 25) (v 30) (v 31) U (v 28) (v 29) (nI j) w3 w4 w5 w6 w7).2.2.2.2.1)) 7 ((zr_fmm Gn sk yg sp (v 27) (v 63) (v 23) (v 25) (v 30) (v 31) U (v 28) (v 29) (nI j) w3 w4 w5 w6 w7).2.2.2.2.2))) 59 sk) w t) rfl ?_
      rw [nI_1]
      simp only [zl_weighG, if_pos c2] at hk
      exact hk
    · have c2 : ¬ (0 ≤ ((zr_fmm Gn sk yg sp (v 27) (v 63) (v 23) (v 25) (v 30) (v 31) U (v 28) (v 29) (nI j) w3 w4 w5 w6 w7).1)) := of_decide_eq_false c2
      refine zk_T.adv 10 (f' := (47, [(0, .ref 57), (1, .ref 20), (2, .int ((nI j) + 1))], [])) (h' := zH (zb (zb (zb v 57 (upd (upd (v 57) 2 (nI U)) 3 (ft ||| ((1 : Int32) <<< ((nI j) &&& 31))))) 58 (upd (upd (upd (upd (upd (upd (upd (v 58) 0 yg) 1 (nI sp)) 3 ((zr_fmm Gn sk yg sp (v 27) (v 63) (v 23) (v 25) (v 30) (v 31) U (v 28) (v 29) (nI j) w3 w4 w5 w6 w7).2.1)) 4 ((zr_fmm Gn sk yg sp (v 27) (v 63) (v 23) (v 25) (v 30) (v 31) U (v 28) (v 29) (nI j) w3 w4 w5 w6 w7).2.2.1)) 5 ((zr_fmm Gn sk yg sp (v 27) (v 63) (v 23) (v 25) (v 30) (v 31) U (v 28) (v 29) (nI j) w3 w4 w5 w6 w7).2.2.2.1)) 6 ((zr_fmm Gn sk yg sp (v 27) (v 63) (v 23) (v 25) (v 30) (v 31) U (v 28) (v 29) (nI j) w3 w4 w5 w6 w7).2.2.2.2.1)) 7 ((zr_fmm Gn sk yg sp (v 27) (v 63) (v 23) (v 25) (v 30) (v 31) U (v 28) (v 29) (nI j) w3 w4 w5 w6 w7).2.2.2.2.2))) 59 sk) w t) rfl ?_
      rw [nI_1]
      simp only [zl_weighG, if_neg c2] at hk
      exact hk
  · obtain ⟨ft, w3, w4, w5, w6, w7⟩ := s
    show zk_T zk_mt zk_ex Ls xs zm_238 (47, [(0, .ref 57), (1, .ref 20), (2, .int (nI (0 + N)))], []) (zH (zb (zb (zb v 57 (upd (upd (v 57) 2 (nI U)) 3 ft)) 58 (upd (upd (upd (upd (upd (upd (upd (v 58) 0 yg) 1 (nI sp)) 3 w3) 4 w4) 5 w5) 6 w6) 7 w7)) 59 sk) w t) q
    refine zk_T.adv 5 (f' := (54, [(0, .ref 57), (1, .ref 20), (2, .int (nI (0 + N)))], [.int ((1 : Int32) <<< ((nI U) &&& 31)), .int (nI (0 + N))])) (h' := zH (zb (zb (zb v 57 (upd (upd (v 57) 2 (nI U)) 3 ft)) 58 (upd (upd (upd (upd (upd (upd (upd (v 58) 0 yg) 1 (nI sp)) 3 w3) 4 w4) 5 w5) 6 w6) 7 w7)) 59 sk) w t) rfl ?_
    rw [show (1 : Int32) <<< ((nI U) &&& 31) = nI N from (by rw [zk_shl1 U (by omega), hN])]
    refine zk_T.br (f1 := (84, [(0, .ref 57), (1, .ref 20), (2, .int (nI (0 + N)))], [])) (f2 := (57, [(0, .ref 57), (1, .ref 20), (2, .int (nI (0 + N)))], [])) rfl (fun c1 => ?_) (fun c1 => absurd (by rw [Nat.zero_add]; exact nI_le (Nat.le_refl _) (by omega)) (of_decide_eq_false c1))
    exact hk
  · exact trivial
def zr_weigh (D Gn U N : Nat) (ev fr fe kd th la li bf um ud : Nat → Int32) (r59 r61 r62 r63 : Nat → Int32) (w3 w4 w5 w6 w7 : Int32) : Int32 × Int32 × Int32 × Int32 × Int32 × (Nat → Int32) × (Nat → Int32) × (Nat → Int32) × Int32 × Int32 × (Nat → Int32) × Int32 × Int32 × Int32 × Int32 × Int32 := (nI U, (zf (zl_weighG Gn (zf (zl_aimG D (ev) (fr) 0) 40 1 (r59)) 0 40 (fe) (va_cpy (la) (r63) 0 0 5) (kd) (th) (um) (ud) U (li) (bf)) N 0 (0, (zr_fmm Gn (zf (zl_aimG D (ev) (fr) 0) 40 1 (r59)) 0 40 (fe) (va_cpy (la) (r63) 0 0 5) (kd) (th) (um) (ud) U (li) (bf) 0 w3 w4 w5 w6 w7).2.1, (zr_fmm Gn (zf (zl_aimG D (ev) (fr) 0) 40 1 (r59)) 0 40 (fe) (va_cpy (la) (r63) 0 0 5) (kd) (th) (um) (ud) U (li) (bf) 0 w3 w4 w5 w6 w7).2.2.1, (zr_fmm Gn (zf (zl_aimG D (ev) (fr) 0) 40 1 (r59)) 0 40 (fe) (va_cpy (la) (r63) 0 0 5) (kd) (th) (um) (ud) U (li) (bf) 0 w3 w4 w5 w6 w7).2.2.2.1, (zr_fmm Gn (zf (zl_aimG D (ev) (fr) 0) 40 1 (r59)) 0 40 (fe) (va_cpy (la) (r63) 0 0 5) (kd) (th) (um) (ud) U (li) (bf) 0 w3 w4 w5 w6 w7).2.2.2.2.1, (zr_fmm Gn (zf (zl_aimG D (ev) (fr) 0) 40 1 (r59)) 0 40 (fe) (va_cpy (la) (r63) 0 0 5) (kd) (th) (um) (ud) U (li) (bf) 0 w3 w4 w5 w6 w7).2.2.2.2.2)).1, (zr_fmm Gn (zf (zl_aimG D (ev) (fr) 0) 40 1 (r59)) 0 40 (fe) (va_cpy (la) (r63) 0 0 5) (kd) (th) (um) (ud) U (li) (bf) 0 w3 w4 w5 w6 w7).1, 0, 0, va_cpy (li) (r61) 0 0 4, va_cpy (th) (r62) 0 0 5, va_cpy (la) (r63) 0 0 5, 0, (nI 40), zf (zl_aimG D (ev) (fr) 0) 40 1 (r59), (zf (zl_weighG Gn (zf (zl_aimG D (ev) (fr) 0) 40 1 (r59)) 0 40 (fe) (va_cpy (la) (r63) 0 0 5) (kd) (th) (um) (ud) U (li) (bf)) N 0 (0, (zr_fmm Gn (zf (zl_aimG D (ev) (fr) 0) 40 1 (r59)) 0 40 (fe) (va_cpy (la) (r63) 0 0 5) (kd) (th) (um) (ud) U (li) (bf) 0 w3 w4 w5 w6 w7).2.1, (zr_fmm Gn (zf (zl_aimG D (ev) (fr) 0) 40 1 (r59)) 0 40 (fe) (va_cpy (la) (r63) 0 0 5) (kd) (th) (um) (ud) U (li) (bf) 0 w3 w4 w5 w6 w7).2.2.1, (zr_fmm Gn (zf (zl_aimG D (ev) (fr) 0) 40 1 (r59)) 0 40 (fe) (va_cpy (la) (r63) 0 0 5) (kd) (th) (um) (ud) U (li) (bf) 0 w3 w4 w5 w6 w7).2.2.2.1, (zr_fmm Gn (zf (zl_aimG D (ev) (fr) 0) 40 1 (r59)) 0 40 (fe) (va_cpy (la) (r63) 0 0 5) (kd) (th) (um) (ud) U (li) (bf) 0 w3 w4 w5 w6 w7).2.2.2.2.1, (zr_fmm Gn (zf (zl_aimG D (ev) (fr) 0) 40 1 (r59)) 0 40 (fe) (va_cpy (la) (r63) 0 0 5) (kd) (th) (um) (ud) U (li) (bf) 0 w3 w4 w5 w6 w7).2.2.2.2.2)).2.1, (zf (zl_weighG Gn (zf (zl_aimG D (ev) (fr) 0) 40 1 (r59)) 0 40 (fe) (va_cpy (la) (r63) 0 0 5) (kd) (th) (um) (ud) U (li) (bf)) N 0 (0, (zr_fmm Gn (zf (zl_aimG D (ev) (fr) 0) 40 1 (r59)) 0 40 (fe) (va_cpy (la) (r63) 0 0 5) (kd) (th) (um) (ud) U (li) (bf) 0 w3 w4 w5 w6 w7).2.1, (zr_fmm Gn (zf (zl_aimG D (ev) (fr) 0) 40 1 (r59)) 0 40 (fe) (va_cpy (la) (r63) 0 0 5) (kd) (th) (um) (ud) U (li) (bf) 0 w3 w4 w5 w6 w7).2.2.1, (zr_fmm Gn (zf (zl_aimG D (ev) (fr) 0) 40 1 (r59)) 0 40 (fe) (va_cpy (la) (r63) 0 0 5) (kd) (th) (um) (ud) U (li) (bf) 0 w3 w4 w5 w6 w7).2.2.2.1, (zr_fmm Gn (zf (zl_aimG D (ev) (fr) 0) 40 1 (r59)) 0 40 (fe) (va_cpy (la) (r63) 0 0 5) (kd) (th) (um) (ud) U (li) (bf) 0 w3 w4 w5 w6 w7).2.2.2.2.1, (zr_fmm Gn (zf (zl_aimG D (ev) (fr) 0) 40 1 (r59)) 0 40 (fe) (va_cpy (la) (r63) 0 0 5) (kd) (th) (um) (ud) U (li) (bf) 0 w3 w4 w5 w6 w7).2.2.2.2.2)).2.2.1, (zf (zl_weighG Gn (zf (zl_aimG D (ev) (fr) 0) 40 1 (r59)) 0 40 (fe) (va_cpy (la) (r63) 0 0 5) (kd) (th) (um) (ud) U (li) (bf)) N 0 (0, (zr_fmm Gn (zf (zl_aimG D (ev) (fr) 0) 40 1 (r59)) 0 40 (fe) (va_cpy (la) (r63) 0 0 5) (kd) (th) (um) (ud) U (li) (bf) 0 w3 w4 w5 w6 w7).2.1, (zr_fmm Gn (zf (zl_aimG D (ev) (fr) 0) 40 1 (r59)) 0 40 (fe) (va_cpy (la) (r63) 0 0 5) (kd) (th) (um) (ud) U (li) (bf) 0 w3 w4 w5 w6 w7).2.2.1, (zr_fmm Gn (zf (zl_aimG D (ev) (fr) 0) 40 1 (r59)) 0 40 (fe) (va_cpy (la) (r63) 0 0 5) (kd) (th) (um) (ud) U (li) (bf) 0 w3 w4 w5 w6 w7).2.2.2.1, (zr_fmm Gn (zf (zl_aimG D (ev) (fr) 0) 40 1 (r59)) 0 40 (fe) (va_cpy (la) (r63) 0 0 5) (kd) (th) (um) (ud) U (li) (bf) 0 w3 w4 w5 w6 w7).2.2.2.2.1, (zr_fmm Gn (zf (zl_aimG D (ev) (fr) 0) 40 1 (r59)) 0 40 (fe) (va_cpy (la) (r63) 0 0 5) (kd) (th) (um) (ud) U (li) (bf) 0 w3 w4 w5 w6 w7).2.2.2.2.2)).2.2.2.1, (zf (zl_weighG Gn (zf (zl_aimG D (ev) (fr) 0) 40 1 (r59)) 0 40 (fe) (va_cpy (la) (r63) 0 0 5) (kd) (th) (um) (ud) U (li) (bf)) N 0 (0, (zr_fmm Gn (zf (zl_aimG D (ev) (fr) 0) 40 1 (r59)) 0 40 (fe) (va_cpy (la) (r63) 0 0 5) (kd) (th) (um) (ud) U (li) (bf) 0 w3 w4 w5 w6 w7).2.1, (zr_fmm Gn (zf (zl_aimG D (ev) (fr) 0) 40 1 (r59)) 0 40 (fe) (va_cpy (la) (r63) 0 0 5) (kd) (th) (um) (ud) U (li) (bf) 0 w3 w4 w5 w6 w7).2.2.1, (zr_fmm Gn (zf (zl_aimG D (ev) (fr) 0) 40 1 (r59)) 0 40 (fe) (va_cpy (la) (r63) 0 0 5) (kd) (th) (um) (ud) U (li) (bf) 0 w3 w4 w5 w6 w7).2.2.2.1, (zr_fmm Gn (zf (zl_aimG D (ev) (fr) 0) 40 1 (r59)) 0 40 (fe) (va_cpy (la) (r63) 0 0 5) (kd) (th) (um) (ud) U (li) (bf) 0 w3 w4 w5 w6 w7).2.2.2.2.1, (zr_fmm Gn (zf (zl_aimG D (ev) (fr) 0) 40 1 (r59)) 0 40 (fe) (va_cpy (la) (r63) 0 0 5) (kd) (th) (um) (ud) U (li) (bf) 0 w3 w4 w5 w6 w7).2.2.2.2.2)).2.2.2.2.1, (zf (zl_weighG Gn (zf (zl_aimG D (ev) (fr) 0) 40 1 (r59)) 0 40 (fe) (va_cpy (la) (r63) 0 0 5) (kd) (th) (um) (ud) U (li) (bf)) N 0 (0, (zr_fmm Gn (zf (zl_aimG D (ev) (fr) 0) 40 1 (r59)) 0 40 (fe) (va_cpy (la) (r63) 0 0 5) (kd) (th) (um) (ud) U (li) (bf) 0 w3 w4 w5 w6 w7).2.1, (zr_fmm Gn (zf (zl_aimG D (ev) (fr) 0) 40 1 (r59)) 0 40 (fe) (va_cpy (la) (r63) 0 0 5) (kd) (th) (um) (ud) U (li) (bf) 0 w3 w4 w5 w6 w7).2.2.1, (zr_fmm Gn (zf (zl_aimG D (ev) (fr) 0) 40 1 (r59)) 0 40 (fe) (va_cpy (la) (r63) 0 0 5) (kd) (th) (um) (ud) U (li) (bf) 0 w3 w4 w5 w6 w7).2.2.2.1, (zr_fmm Gn (zf (zl_aimG D (ev) (fr) 0) 40 1 (r59)) 0 40 (fe) (va_cpy (la) (r63) 0 0 5) (kd) (th) (um) (ud) U (li) (bf) 0 w3 w4 w5 w6 w7).2.2.2.2.1, (zr_fmm Gn (zf (zl_aimG D (ev) (fr) 0) 40 1 (r59)) 0 40 (fe) (va_cpy (la) (r63) 0 0 5) (kd) (th) (um) (ud) U (li) (bf) 0 w3 w4 w5 w6 w7).2.2.2.2.2)).2.2.2.2.2)
/-- BasketKeep$Doubts.weigh -/
theorem zs_weigh (D : Nat) (hD : v 20 1 = nI D) (h8 : D ≤ 8) (Gn : Nat) (hG : v 20 8 = nI Gn) (h4 : Gn ≤ 4) (hld : ∀ a, a < Gn → v 28 a < 0 ∨ ∃ e, e < 5 ∧ v 28 a = nI e) (hkd : ∀ e, e < 5 → v 23 e = 0 ∨ v 23 e = 1 ∨ v 23 e = 2) (U : Nat) (hU : v 20 14 = nI U) (hU4 : U ≤ 4) (N : Nat) (hN : 2 ^ U = N) (hN2 : N ≤ 256) : zk_Cr zk_mt zk_ex Ls xs 238 [.ref 57, .ref 20] (zH v w t) (none, zH (zb (zb (zb (zb (zb (zb (zb v 57 (upd (upd (upd (v 57) 2 ((zr_weigh D Gn U N (v 21) (v 22) (v 27) (v 23) (v 25) (v 24) (v 28) (v 29) (v 30) (v 31) (v 59) (v 61) (v 62) (v 63) (v 58 3) (v 58 4) (v 58 5) (v 58 6) (v 58 7)).1)) 3 ((zr_weigh D Gn U N (v 21) (v 22) (v 27) (v 23) (v 25) (v 24) (v 28) (v 29) (v 30) (v 31) (v 59) (v 61) (v 62) (v 63) (v 58 3) (v 58 4) (v 58 5) (v 58 6) (v 58 7)).2.1)) 4 ((zr_weigh D Gn U N (v 21) (v 22) (v 27) (v 23) (v 25) (v 24) (v 28) (v 29) (v 30) (v 31) (v 59) (v 61) (v 62) (v 63) (v 58 3) (v 58 4) (v 58 5) (v 58 6) (v 58 7)).2.2.1))) 58 (upd (upd (upd (upd (upd (upd (upd (v 58) 0 ((zr_weigh D Gn U N (v 21) (v 22) (v 27) (v 23) (v 25) (v 24) (v 28) (v 29) (v 30) (v 31) (v 59) (v 61) (v 62) (v 63) (v 58 3) (v 58 4) (v 58 5) (v 58 6) (v 58 7)).2.2.2.2.2.2.2.2.1)) 1 ((zr_weigh D Gn U N (v 21) (v 22) (v 27) (v 23) (v 25) (v 24) (v 28) (v 29) (v 30) (v 31) (v 59) (v 61) (v 62) (v 63) (v 58 3) (v 58 4) (v 58 5) (v 58 6) (v 58 7)).2.2.2.2.2.2.2.2.2.1)) 3 ((zr_weigh D Gn U N (v 21) (v 22) (v 27) (v 23) (v 25) (v 24) (v 28) (v 29) (v 30) (v 31) (v 59) (v 61) (v 62) (v 63) (v 58 3) (v 58 4) (v 58 5) (v 58 6) (v 58 7)).2.2.2.2.2.2.2.2.2.2.2.1)) 4 ((zr_weigh D Gn U N (v 21) (v 22) (v 27) (v 23) (v 25) (v 24) (v 28) (v 29) (v 30) (v 31) (v 59) (v 61) (v 62) (v 63) (v 58 3) (v 58 4) (v 58 5) (v 58 6) (v 58 7)).2.2.2.2.2.2.2.2.2.2.2.2.1)) 5 ((zr_weigh D Gn U N (v 21) (v 22) (v 27) (v 23) (v 25) (v 24) (v 28) (v 29) (v 30) (v 31) (v 59) (v 61) (v 62) (v 63) (v 58 3) (v 58 4) (v 58 5) (v 58 6) (v 58 7)).2.2.2.2.2.2.2.2.2.2.2.2.2.1)) 6 ((zr_weigh D Gn U N (v 21) (v 22) (v 27) (v 23) (v 25) (v 24) (v 28) (v 29) (v 30) (v 31) (v 59) (v 61) (v 62) (v 63) (v 58 3) (v 58 4) (v 58 5) (v 58 6) (v 58 7)).2.2.2.2.2.2.2.2.2.2.2.2.2.2.1)) 7 ((zr_weigh D Gn U N (v 21) (v 22) (v 27) (v 23) (v 25) (v 24) (v 28) (v 29) (v 30) (v 31) (v 59) (v 61) (v 62) (v 63) (v 58 3) (v 58 4) (v 58 5) (v 58 6) (v 58 7)).2.2.2.2.2.2.2.2.2.2.2.2.2.2.2))) 59 ((zr_weigh D Gn U N (v 21) (v 22) (v 27) (v 23) (v 25) (v 24) (v 28) (v 29) (v 30) (v 31) (v 59) (v 61) (v 62) (v 63) (v 58 3) (v 58 4) (v 58 5) (v 58 6) (v 58 7)).2.2.2.2.2.2.2.2.2.2.1)) 60 (upd (upd (v 60) 0 ((zr_weigh D Gn U N (v 21) (v 22) (v 27) (v 23) (v 25) (v 24) (v 28) (v 29) (v 30) (v 31) (v 59) (v 61) (v 62) (v 63) (v 58 3) (v 58 4) (v 58 5) (v 58 6) (v 58 7)).2.2.2.1)) 1 ((zr_weigh D Gn U N (v 21) (v 22) (v 27) (v 23) (v 25) (v 24) (v 28) (v 29) (v 30) (v 31) (v 59) (v 61) (v 62) (v 63) (v 58 3) (v 58 4) (v 58 5) (v 58 6) (v 58 7)).2.2.2.2.1))) 61 ((zr_weigh D Gn U N (v 21) (v 22) (v 27) (v 23) (v 25) (v 24) (v 28) (v 29) (v 30) (v 31) (v 59) (v 61) (v 62) (v 63) (v 58 3) (v 58 4) (v 58 5) (v 58 6) (v 58 7)).2.2.2.2.2.1)) 62 ((zr_weigh D Gn U N (v 21) (v 22) (v 27) (v 23) (v 25) (v 24) (v 28) (v 29) (v 30) (v 31) (v 59) (v 61) (v 62) (v 63) (v 58 3) (v 58 4) (v 58 5) (v 58 6) (v 58 7)).2.2.2.2.2.2.1)) 63 ((zr_weigh D Gn U N (v 21) (v 22) (v 27) (v 23) (v 25) (v 24) (v 28) (v 29) (v 30) (v 31) (v 59) (v 61) (v 62) (v 63) (v 58 3) (v 58 4) (v 58 5) (v 58 6) (v 58 7)).2.2.2.2.2.2.2.1)) w t) := by
  refine zk_Cr.of (K := zm_238) rfl rfl rfl ?_
  show zk_T zk_mt zk_ex Ls xs zm_238 (0, [(0, .ref 57), (1, .ref 20)], []) (zH v w t) _
  refine zk_T.adv 3 (f' := (5, [(0, .ref 57), (1, .ref 20)], [.int (v 20 14), .ref 57])) (h' := zH v w t) rfl ?_
  rw [show (v 20 14) = nI U from hU]
  refine zk_T.adv 4 (f' := (13, [(0, .ref 57), (1, .ref 20)], [.ref 20, .ref 60])) (h' := zH (zb v 57 (upd (v 57) 2 (nI U))) w t) rfl ?_
  refine zk_T.cl (v := none) (h' := zH (zb (zb (zb (zb (zb v 57 (upd (v 57) 2 (nI U))) 60 (upd (upd (v 60) 0 0) 1 0)) 61 (va_cpy (v 28) (v 61) 0 0 4)) 62 (va_cpy (v 25) (v 62) 0 0 5)) 63 (va_cpy (v 24) (v 63) 0 0 5)) w t) rfl (zs_beginStart (v := (zb v 57 (upd (v 57) 2 (nI U))))) ?_
  show zk_T zk_mt zk_ex Ls xs zm_238 (16, [(0, .ref 57), (1, .ref 20)], []) (zH (zb (zb (zb (zb (zb v 57 (upd (v 57) 2 (nI U))) 60 (upd (upd (v 60) 0 0) 1 0)) 61 (va_cpy (v 28) (v 61) 0 0 4)) 62 (va_cpy (v 25) (v 62) 0 0 5)) 63 (va_cpy (v 24) (v 63) 0 0 5)) w t) _
  refine zk_T.adv 6 (f' := (27, [(0, .ref 57), (1, .ref 20)], [.int 40, .ref 60, .ref 20, .ref 58])) (h' := zH (zb (zb (zb (zb (zb v 57 (upd (v 57) 2 (nI U))) 60 (upd (upd (v 60) 0 0) 1 0)) 61 (va_cpy (v 28) (v 61) 0 0 4)) 62 (va_cpy (v 25) (v 62) 0 0 5)) 63 (va_cpy (v 24) (v 63) 0 0 5)) w t) rfl ?_
  refine zk_T.cl (v := none) (h' := zH (zb (zb (zb (zb (zb (zb (zb v 57 (upd (v 57) 2 (nI U))) 58 (upd (upd (v 58) 0 0) 1 (nI 40))) 59 (zf (zl_aimG D (v 21) (v 22) 0) 40 1 (v 59))) 60 (upd (upd (v 60) 0 0) 1 0)) 61 (va_cpy (v 28) (v 61) 0 0 4)) 62 (va_cpy (v 25) (v 62) 0 0 5)) 63 (va_cpy (v 24) (v 63) 0 0 5)) w t) rfl (zs_aimD_start (v := (zb (zb (zb (zb (zb v 57 (upd (v 57) 2 (nI U))) 60 (upd (upd (v 60) 0 0) 1 0)) 61 (va_cpy (v 28) (v 61) 0 0 4)) 62 (va_cpy (v 25) (v 62) 0 0 5)) 63 (va_cpy (v 24) (v 63) 0 0 5))) D hD h8 40 (by decide)) ?_
  show zk_T zk_mt zk_ex Ls xs zm_238 (30, [(0, .ref 57), (1, .ref 20)], []) (zH (zb (zb (zb (zb (zb (zb (zb v 57 (upd (v 57) 2 (nI U))) 58 (upd (upd (v 58) 0 0) 1 (nI 40))) 59 (zf (zl_aimG D (v 21) (v 22) 0) 40 1 (v 59))) 60 (upd (upd (v 60) 0 0) 1 0)) 61 (va_cpy (v 28) (v 61) 0 0 4)) 62 (va_cpy (v 25) (v 62) 0 0 5)) 63 (va_cpy (v 24) (v 63) 0 0 5)) w t) _
  refine zk_T.adv 4 (f' := (34, [(0, .ref 57), (1, .ref 20)], [.int 0, .ref 20, .ref 57, .ref 57])) (h' := zH (zb (zb (zb (zb (zb (zb (zb v 57 (upd (v 57) 2 (nI U))) 58 (upd (upd (v 58) 0 0) 1 (nI 40))) 59 (zf (zl_aimG D (v 21) (v 22) 0) 40 1 (v 59))) 60 (upd (upd (v 60) 0 0) 1 0)) 61 (va_cpy (v 28) (v 61) 0 0 4)) 62 (va_cpy (v 25) (v 62) 0 0 5)) 63 (va_cpy (v 24) (v 63) 0 0 5)) w t) rfl ?_
  refine zk_T.cl (v := some (.int ((zr_fmm Gn (zf (zl_aimG D (v 21) (v 22) 0) 40 1 (v 59)) 0 40 (v 27) (va_cpy (v 24) (v 63) 0 0 5) (v 23) (v 25) (v 30) (v 31) U (v 28) (v 29) 0 (v 58 3) (v 58 4) (v 58 5) (v 58 6) (v 58 7)).1))) (h' := zH (zb (zb (zb (zb (zb (zb (zb v 57 (upd (v 57) 2 (nI U))) 58 (upd (upd (upd (upd (upd (upd (upd (v 58) 0 0) 1 (nI 40)) 3 ((zr_fmm Gn (zf (zl_aimG D (v 21) (v 22) 0) 40 1 (v 59)) 0 40 (v 27) (va_cpy (v 24) (v 63) 0 0 5) (v 23) (v 25) (v 30) (v 31) U (v 28) (v 29) 0 (v 58 3) (v 58 4) (v 58 5) (v 58 6) (v 58 7)).2.1)) 4 ((zr_fmm Gn (zf (zl_aimG D (v 21) (v 22) 0) 40 1 (v 59)) 0 40 (v 27) (va_cpy (v 24) (v 63) 0 0 5) (v 23) (v 25) (v 30) (v 31) U (v 28) (v 29) 0 (v 58 3) (v 58 4) (v 58 5) (v 58 6) (v 58 7)).2.2.1)) 5 ((zr_fmm Gn (zf (zl_aimG D (v 21) (v 22) 0) 40 1 (v 59)) 0 40 (v 27) (va_cpy (v 24) (v 63) 0 0 5) (v 23) (v 25) (v 30) (v 31) U (v 28) (v 29) 0 (v 58 3) (v 58 4) (v 58 5) (v 58 6) (v 58 7)).2.2.2.1)) 6 ((zr_fmm Gn (zf (zl_aimG D (v 21) (v 22) 0) 40 1 (v 59)) 0 40 (v 27) (va_cpy (v 24) (v 63) 0 0 5) (v 23) (v 25) (v 30) (v 31) U (v 28) (v 29) 0 (v 58 3) (v 58 4) (v 58 5) (v 58 6) (v 58 7)).2.2.2.2.1)) 7 ((zr_fmm Gn (zf (zl_aimG D (v 21) (v 22) 0) 40 1 (v 59)) 0 40 (v 27) (va_cpy (v 24) (v 63) 0 0 5) (v 23) (v 25) (v 30) (v 31) U (v 28) (v 29) 0 (v 58 3) (v 58 4) (v 58 5) (v 58 6) (v 58 7)).2.2.2.2.2))) 59 (zf (zl_aimG D (v 21) (v 22) 0) 40 1 (v 59))) 60 (upd (upd (v 60) 0 0) 1 0)) 61 (va_cpy (v 28) (v 61) 0 0 4)) 62 (va_cpy (v 25) (v 62) 0 0 5)) 63 (va_cpy (v 24) (v 63) 0 0 5)) w t) rfl (zs_fmm (v := (zb (zb (zb (zb (zb (zb (zb v 57 (upd (v 57) 2 (nI U))) 58 (upd (upd (v 58) 0 0) 1 (nI 40))) 59 (zf (zl_aimG D (v 21) (v 22) 0) 40 1 (v 59))) 60 (upd (upd (v 60) 0 0) 1 0)) 61 (va_cpy (v 28) (v 61) 0 0 4)) 62 (va_cpy (v 25) (v 62) 0 0 5)) 63 (va_cpy (v 24) (v 63) 0 0 5))) Gn hG h4 hld hkd U hU hU4 40 (by decide) 0 (zf (zl_aimG D (v 21) (v 22) 0) 40 1 (v 59)) 0) ?_
  show zk_T zk_mt zk_ex Ls xs zm_238 (37, [(0, .ref 57), (1, .ref 20)], [.int ((zr_fmm Gn (zf (zl_aimG D (v 21) (v 22) 0) 40 1 (v 59)) 0 40 (v 27) (va_cpy (v 24) (v 63) 0 0 5) (v 23) (v 25) (v 30) (v 31) U (v 28) (v 29) 0 (v 58 3) (v 58 4) (v 58 5) (v 58 6) (v 58 7)).1), .ref 57]) (zH (zb (zb (zb (zb (zb (zb (zb v 57 (upd (v 57) 2 (nI U))) 58 (upd (upd (upd (upd (upd (upd (upd (v 58) 0 0) 1 (nI 40)) 3 ((zr_fmm Gn (zf (zl_aimG D (v 21) (v 22) 0) 40 1 (v 59)) 0 40 (v 27) (va_cpy (v 24) (v 63) 0 0 5) (v 23) (v 25) (v 30) (v 31) U (v 28) (v 29) 0 (v 58 3) (v 58 4) (v 58 5) (v 58 6) (v 58 7)).2.1)) 4 ((zr_fmm Gn (zf (zl_aimG D (v 21) (v 22) 0) 40 1 (v 59)) 0 40 (v 27) (va_cpy (v 24) (v 63) 0 0 5) (v 23) (v 25) (v 30) (v 31) U (v 28) (v 29) 0 (v 58 3) (v 58 4) (v 58 5) (v 58 6) (v 58 7)).2.2.1)) 5 ((zr_fmm Gn (zf (zl_aimG D (v 21) (v 22) 0) 40 1 (v 59)) 0 40 (v 27) (va_cpy (v 24) (v 63) 0 0 5) (v 23) (v 25) (v 30) (v 31) U (v 28) (v 29) 0 (v 58 3) (v 58 4) (v 58 5) (v 58 6) (v 58 7)).2.2.2.1)) 6 ((zr_fmm Gn (zf (zl_aimG D (v 21) (v 22) 0) 40 1 (v 59)) 0 40 (v 27) (va_cpy (v 24) (v 63) 0 0 5) (v 23) (v 25) (v 30) (v 31) U (v 28) (v 29) 0 (v 58 3) (v 58 4) (v 58 5) (v 58 6) (v 58 7)).2.2.2.2.1)) 7 ((zr_fmm Gn (zf (zl_aimG D (v 21) (v 22) 0) 40 1 (v 59)) 0 40 (v 27) (va_cpy (v 24) (v 63) 0 0 5) (v 23) (v 25) (v 30) (v 31) U (v 28) (v 29) 0 (v 58 3) (v 58 4) (v 58 5) (v 58 6) (v 58 7)).2.2.2.2.2))) 59 (zf (zl_aimG D (v 21) (v 22) 0) 40 1 (v 59))) 60 (upd (upd (v 60) 0 0) 1 0)) 61 (va_cpy (v 28) (v 61) 0 0 4)) 62 (va_cpy (v 25) (v 62) 0 0 5)) 63 (va_cpy (v 24) (v 63) 0 0 5)) w t) _
  refine zk_T.adv 6 (f' := (47, [(0, .ref 57), (1, .ref 20), (2, .int 0)], [])) (h' := zH (zb (zb (zb (zb (zb (zb (zb v 57 (upd (upd (upd (v 57) 2 (nI U)) 3 0) 4 ((zr_fmm Gn (zf (zl_aimG D (v 21) (v 22) 0) 40 1 (v 59)) 0 40 (v 27) (va_cpy (v 24) (v 63) 0 0 5) (v 23) (v 25) (v 30) (v 31) U (v 28) (v 29) 0 (v 58 3) (v 58 4) (v 58 5) (v 58 6) (v 58 7)).1))) 58 (upd (upd (upd (upd (upd (upd (upd (v 58) 0 0) 1 (nI 40)) 3 ((zr_fmm Gn (zf (zl_aimG D (v 21) (v 22) 0) 40 1 (v 59)) 0 40 (v 27) (va_cpy (v 24) (v 63) 0 0 5) (v 23) (v 25) (v 30) (v 31) U (v 28) (v 29) 0 (v 58 3) (v 58 4) (v 58 5) (v 58 6) (v 58 7)).2.1)) 4 ((zr_fmm Gn (zf (zl_aimG D (v 21) (v 22) 0) 40 1 (v 59)) 0 40 (v 27) (va_cpy (v 24) (v 63) 0 0 5) (v 23) (v 25) (v 30) (v 31) U (v 28) (v 29) 0 (v 58 3) (v 58 4) (v 58 5) (v 58 6) (v 58 7)).2.2.1)) 5 ((zr_fmm Gn (zf (zl_aimG D (v 21) (v 22) 0) 40 1 (v 59)) 0 40 (v 27) (va_cpy (v 24) (v 63) 0 0 5) (v 23) (v 25) (v 30) (v 31) U (v 28) (v 29) 0 (v 58 3) (v 58 4) (v 58 5) (v 58 6) (v 58 7)).2.2.2.1)) 6 ((zr_fmm Gn (zf (zl_aimG D (v 21) (v 22) 0) 40 1 (v 59)) 0 40 (v 27) (va_cpy (v 24) (v 63) 0 0 5) (v 23) (v 25) (v 30) (v 31) U (v 28) (v 29) 0 (v 58 3) (v 58 4) (v 58 5) (v 58 6) (v 58 7)).2.2.2.2.1)) 7 ((zr_fmm Gn (zf (zl_aimG D (v 21) (v 22) 0) 40 1 (v 59)) 0 40 (v 27) (va_cpy (v 24) (v 63) 0 0 5) (v 23) (v 25) (v 30) (v 31) U (v 28) (v 29) 0 (v 58 3) (v 58 4) (v 58 5) (v 58 6) (v 58 7)).2.2.2.2.2))) 59 (zf (zl_aimG D (v 21) (v 22) 0) 40 1 (v 59))) 60 (upd (upd (v 60) 0 0) 1 0)) 61 (va_cpy (v 28) (v 61) 0 0 4)) 62 (va_cpy (v 25) (v 62) 0 0 5)) 63 (va_cpy (v 24) (v 63) 0 0 5)) w t) rfl ?_
  refine zl_weigh (v := (zb (zb (zb (zb (zb (zb (zb v 57 (upd (upd (upd (v 57) 2 (nI U)) 3 0) 4 ((zr_fmm Gn (zf (zl_aimG D (v 21) (v 22) 0) 40 1 (v 59)) 0 40 (v 27) (va_cpy (v 24) (v 63) 0 0 5) (v 23) (v 25) (v 30) (v 31) U (v 28) (v 29) 0 (v 58 3) (v 58 4) (v 58 5) (v 58 6) (v 58 7)).1))) 58 (upd (upd (upd (upd (upd (upd (upd (v 58) 0 0) 1 (nI 40)) 3 ((zr_fmm Gn (zf (zl_aimG D (v 21) (v 22) 0) 40 1 (v 59)) 0 40 (v 27) (va_cpy (v 24) (v 63) 0 0 5) (v 23) (v 25) (v 30) (v 31) U (v 28) (v 29) 0 (v 58 3) (v 58 4) (v 58 5) (v 58 6) (v 58 7)).2.1)) 4 ((zr_fmm Gn (zf (zl_aimG D (v 21) (v 22) 0) 40 1 (v 59)) 0 40 (v 27) (va_cpy (v 24) (v 63) 0 0 5) (v 23) (v 25) (v 30) (v 31) U (v 28) (v 29) 0 (v 58 3) (v 58 4) (v 58 5) (v 58 6) (v 58 7)).2.2.1)) 5 ((zr_fmm Gn (zf (zl_aimG D (v 21) (v 22) 0) 40 1 (v 59)) 0 40 (v 27) (va_cpy (v 24) (v 63) 0 0 5) (v 23) (v 25) (v 30) (v 31) U (v 28) (v 29) 0 (v 58 3) (v 58 4) (v 58 5) (v 58 6) (v 58 7)).2.2.2.1)) 6 ((zr_fmm Gn (zf (zl_aimG D (v 21) (v 22) 0) 40 1 (v 59)) 0 40 (v 27) (va_cpy (v 24) (v 63) 0 0 5) (v 23) (v 25) (v 30) (v 31) U (v 28) (v 29) 0 (v 58 3) (v 58 4) (v 58 5) (v 58 6) (v 58 7)).2.2.2.2.1)) 7 ((zr_fmm Gn (zf (zl_aimG D (v 21) (v 22) 0) 40 1 (v 59)) 0 40 (v 27) (va_cpy (v 24) (v 63) 0 0 5) (v 23) (v 25) (v 30) (v 31) U (v 28) (v 29) 0 (v 58 3) (v 58 4) (v 58 5) (v 58 6) (v 58 7)).2.2.2.2.2))) 59 (zf (zl_aimG D (v 21) (v 22) 0) 40 1 (v 59))) 60 (upd (upd (v 60) 0 0) 1 0)) 61 (va_cpy (v 28) (v 61) 0 0 4)) 62 (va_cpy (v 25) (v 62) 0 0 5)) 63 (va_cpy (v 24) (v 63) 0 0 5))) Gn hG h4 hld hkd U hU hU4 N hN hN2 40 (by decide) 0 (zf (zl_aimG D (v 21) (v 22) 0) 40 1 (v 59)) (0, (zr_fmm Gn (zf (zl_aimG D (v 21) (v 22) 0) 40 1 (v 59)) 0 40 (v 27) (va_cpy (v 24) (v 63) 0 0 5) (v 23) (v 25) (v 30) (v 31) U (v 28) (v 29) 0 (v 58 3) (v 58 4) (v 58 5) (v 58 6) (v 58 7)).2.1, (zr_fmm Gn (zf (zl_aimG D (v 21) (v 22) 0) 40 1 (v 59)) 0 40 (v 27) (va_cpy (v 24) (v 63) 0 0 5) (v 23) (v 25) (v 30) (v 31) U (v 28) (v 29) 0 (v 58 3) (v 58 4) (v 58 5) (v 58 6) (v 58 7)).2.2.1, (zr_fmm Gn (zf (zl_aimG D (v 21) (v 22) 0) 40 1 (v 59)) 0 40 (v 27) (va_cpy (v 24) (v 63) 0 0 5) (v 23) (v 25) (v 30) (v 31) U (v 28) (v 29) 0 (v 58 3) (v 58 4) (v 58 5) (v 58 6) (v 58 7)).2.2.2.1, (zr_fmm Gn (zf (zl_aimG D (v 21) (v 22) 0) 40 1 (v 59)) 0 40 (v 27) (va_cpy (v 24) (v 63) 0 0 5) (v 23) (v 25) (v 30) (v 31) U (v 28) (v 29) 0 (v 58 3) (v 58 4) (v 58 5) (v 58 6) (v 58 7)).2.2.2.2.1, (zr_fmm Gn (zf (zl_aimG D (v 21) (v 22) 0) 40 1 (v 59)) 0 40 (v 27) (va_cpy (v 24) (v 63) 0 0 5) (v 23) (v 25) (v 30) (v 31) U (v 28) (v 29) 0 (v 58 3) (v 58 4) (v 58 5) (v 58 6) (v 58 7)).2.2.2.2.2) _ ?_
  show zk_T zk_mt zk_ex Ls xs zm_238 (84, [(0, .ref 57), (1, .ref 20), (2, .int (nI (0 + N)))], []) (zH (zb (zb (zb (zb (zb (zb (zb v 57 (upd (upd (upd (v 57) 2 (nI U)) 3 ((zf (zl_weighG Gn (zf (zl_aimG D (v 21) (v 22) 0) 40 1 (v 59)) 0 40 (v 27) (va_cpy (v 24) (v 63) 0 0 5) (v 23) (v 25) (v 30) (v 31) U (v 28) (v 29)) N 0 (0, (zr_fmm Gn (zf (zl_aimG D (v 21) (v 22) 0) 40 1 (v 59)) 0 40 (v 27) (va_cpy (v 24) (v 63) 0 0 5) (v 23) (v 25) (v 30) (v 31) U (v 28) (v 29) 0 (v 58 3) (v 58 4) (v 58 5) (v 58 6) (v 58 7)).2.1, (zr_fmm Gn (zf (zl_aimG D (v 21) (v 22) 0) 40 1 (v 59)) 0 40 (v 27) (va_cpy (v 24) (v 63) 0 0 5) (v 23) (v 25) (v 30) (v 31) U (v 28) (v 29) 0 (v 58 3) (v 58 4) (v 58 5) (v 58 6) (v 58 7)).2.2.1, (zr_fmm Gn (zf (zl_aimG D (v 21) (v 22) 0) 40 1 (v 59)) 0 40 (v 27) (va_cpy (v 24) (v 63) 0 0 5) (v 23) (v 25) (v 30) (v 31) U (v 28) (v 29) 0 (v 58 3) (v 58 4) (v 58 5) (v 58 6) (v 58 7)).2.2.2.1, (zr_fmm Gn (zf (zl_aimG D (v 21) (v 22) 0) 40 1 (v 59)) 0 40 (v 27) (va_cpy (v 24) (v 63) 0 0 5) (v 23) (v 25) (v 30) (v 31) U (v 28) (v 29) 0 (v 58 3) (v 58 4) (v 58 5) (v 58 6) (v 58 7)).2.2.2.2.1, (zr_fmm Gn (zf (zl_aimG D (v 21) (v 22) 0) 40 1 (v 59)) 0 40 (v 27) (va_cpy (v 24) (v 63) 0 0 5) (v 23) (v 25) (v 30) (v 31) U (v 28) (v 29) 0 (v 58 3) (v 58 4) (v 58 5) (v 58 6) (v 58 7)).2.2.2.2.2)).1)) 4 ((zr_fmm Gn (zf (zl_aimG D (v 21) (v 22) 0) 40 1 (v 59)) 0 40 (v 27) (va_cpy (v 24) (v 63) 0 0 5) (v 23) (v 25) (v 30) (v 31) U (v 28) (v 29) 0 (v 58 3) (v 58 4) (v 58 5) (v 58 6) (v 58 7)).1))) 58 (upd (upd (upd (upd (upd (upd (upd (v 58) 0 0) 1 (nI 40)) 3 ((zf (zl_weighG Gn (zf (zl_aimG D (v 21) (v 22) 0) 40 1 (v 59)) 0 40 (v 27) (va_cpy (v 24) (v 63) 0 0 5) (v 23) (v 25) (v 30) (v 31) U (v 28) (v 29)) N 0 (0, (zr_fmm Gn (zf (zl_aimG D (v 21) (v 22) 0) 40 1 (v 59)) 0 40 (v 27) (va_cpy (v 24) (v 63) 0 0 5) (v 23) (v 25) (v 30) (v 31) U (v 28) (v 29) 0 (v 58 3) (v 58 4) (v 58 5) (v 58 6) (v 58 7)).2.1, (zr_fmm Gn (zf (zl_aimG D (v 21) (v 22) 0) 40 1 (v 59)) 0 40 (v 27) (va_cpy (v 24) (v 63) 0 0 5) (v 23) (v 25) (v 30) (v 31) U (v 28) (v 29) 0 (v 58 3) (v 58 4) (v 58 5) (v 58 6) (v 58 7)).2.2.1, (zr_fmm Gn (zf (zl_aimG D (v 21) (v 22) 0) 40 1 (v 59)) 0 40 (v 27) (va_cpy (v 24) (v 63) 0 0 5) (v 23) (v 25) (v 30) (v 31) U (v 28) (v 29) 0 (v 58 3) (v 58 4) (v 58 5) (v 58 6) (v 58 7)).2.2.2.1, (zr_fmm Gn (zf (zl_aimG D (v 21) (v 22) 0) 40 1 (v 59)) 0 40 (v 27) (va_cpy (v 24) (v 63) 0 0 5) (v 23) (v 25) (v 30) (v 31) U (v 28) (v 29) 0 (v 58 3) (v 58 4) (v 58 5) (v 58 6) (v 58 7)).2.2.2.2.1, (zr_fmm Gn (zf (zl_aimG D (v 21) (v 22) 0) 40 1 (v 59)) 0 40 (v 27) (va_cpy (v 24) (v 63) 0 0 5) (v 23) (v 25) (v 30) (v 31) U (v 28) (v 29) 0 (v 58 3) (v 58 4) (v 58 5) (v 58 6) (v 58 7)).2.2.2.2.2)).2.1)) 4 ((zf (zl_weighG Gn (zf (zl_aimG D (v 21) (v 22) 0) 40 1 (v 59)) 0 40 (v 27) (va_cpy (v 24) (v 63) 0 0 5) (v 23) (v 25) (v 30) (v 31) U (v 28) (v 29)) N 0 (0, (zr_fmm Gn (zf (zl_aimG D (v 21) (v 22) 0) 40 1 (v 59)) 0 40 (v 27) (va_cpy (v 24) (v 63) 0 0 5) (v 23) (v 25) (v 30) (v 31) U (v 28) (v 29) 0 (v 58 3) (v 58 4) (v 58 5) (v 58 6) (v 58 7)).2.1, (zr_fmm Gn (zf (zl_aimG D (v 21) (v 22) 0) 40 1 (v 59)) 0 40 (v 27) (va_cpy (v 24) (v 63) 0 0 5) (v 23) (v 25) (v 30) (v 31) U (v 28) (v 29) 0 (v 58 3) (v 58 4) (v 58 5) (v 58 6) (v 58 7)).2.2.1, (zr_fmm Gn (zf (zl_aimG D (v 21) (v 22) 0) 40 1 (v 59)) 0 40 (v 27) (va_cpy (v 24) (v 63) 0 0 5) (v 23) (v 25) (v 30) (v 31) U (v 28) (v 29) 0 (v 58 3) (v 58 4) (v 58 5) (v 58 6) (v 58 7)).2.2.2.1, (zr_fmm Gn (zf (zl_aimG D (v 21) (v 22) 0) 40 1 (v 59)) 0 40 (v 27) (va_cpy (v 24) (v 63) 0 0 5) (v 23) (v 25) (v 30) (v 31) U (v 28) (v 29) 0 (v 58 3) (v 58 4) (v 58 5) (v 58 6) (v 58 7)).2.2.2.2.1, (zr_fmm Gn (zf (zl_aimG D (v 21) (v 22) 0) 40 1 (v 59)) 0 40 (v 27) (va_cpy (v 24) (v 63) 0 0 5) (v 23) (v 25) (v 30) (v 31) U (v 28) (v 29) 0 (v 58 3) (v 58 4) (v 58 5) (v 58 6) (v 58 7)).2.2.2.2.2)).2.2.1)) 5 ((zf (zl_weighG Gn (zf (zl_aimG D (v 21) (v 22) 0) 40 1 (v 59)) 0 40 (v 27) (va_cpy (v 24) (v 63) 0 0 5) (v 23) (v 25) (v 30) (v 31) U (v 28) (v 29)) N 0 (0, (zr_fmm Gn (zf (zl_aimG D (v 21) (v 22) 0) 40 1 (v 59)) 0 40 (v 27) (va_cpy (v 24) (v 63) 0 0 5) (v 23) (v 25) (v 30) (v 31) U (v 28) (v 29) 0 (v 58 3) (v 58 4) (v 58 5) (v 58 6) (v 58 7)).2.1, (zr_fmm Gn (zf (zl_aimG D (v 21) (v 22) 0) 40 1 (v 59)) 0 40 (v 27) (va_cpy (v 24) (v 63) 0 0 5) (v 23) (v 25) (v 30) (v 31) U (v 28) (v 29) 0 (v 58 3) (v 58 4) (v 58 5) (v 58 6) (v 58 7)).2.2.1, (zr_fmm Gn (zf (zl_aimG D (v 21) (v 22) 0) 40 1 (v 59)) 0 40 (v 27) (va_cpy (v 24) (v 63) 0 0 5) (v 23) (v 25) (v 30) (v 31) U (v 28) (v 29) 0 (v 58 3) (v 58 4) (v 58 5) (v 58 6) (v 58 7)).2.2.2.1, (zr_fmm Gn (zf (zl_aimG D (v 21) (v 22) 0) 40 1 (v 59)) 0 40 (v 27) (va_cpy (v 24) (v 63) 0 0 5) (v 23) (v 25) (v 30) (v 31) U (v 28) (v 29) 0 (v 58 3) (v 58 4) (v 58 5) (v 58 6) (v 58 7)).2.2.2.2.1, (zr_fmm Gn (zf (zl_aimG D (v 21) (v 22) 0) 40 1 (v 59)) 0 40 (v 27) (va_cpy (v 24) (v 63) 0 0 5) (v 23) (v 25) (v 30) (v 31) U (v 28) (v 29) 0 (v 58 3) (v 58 4) (v 58 5) (v 58 6) (v 58 7)).2.2.2.2.2)).2.2.2.1)) 6 ((zf (zl_weighG Gn (zf (zl_aimG D (v 21) (v 22) 0) 40 1 (v 59)) 0 40 (v 27) (va_cpy (v 24) (v 63) 0 0 5) (v 23) (v 25) (v 30) (v 31) U (v 28) (v 29)) N 0 (0, (zr_fmm Gn (zf (zl_aimG D (v 21) (v 22) 0) 40 1 (v 59)) 0 40 (v 27) (va_cpy (v 24) (v 63) 0 0 5) (v 23) (v 25) (v 30) (v 31) U (v 28) (v 29) 0 (v 58 3) (v 58 4) (v 58 5) (v 58 6) (v 58 7)).2.1, (zr_fmm Gn (zf (zl_aimG D (v 21) (v 22) 0) 40 1 (v 59)) 0 40 (v 27) (va_cpy (v 24) (v 63) 0 0 5) (v 23) (v 25) (v 30) (v 31) U (v 28) (v 29) 0 (v 58 3) (v 58 4) (v 58 5) (v 58 6) (v 58 7)).2.2.1, (zr_fmm Gn (zf (zl_aimG D (v 21) (v 22) 0) 40 1 (v 59)) 0 40 (v 27) (va_cpy (v 24) (v 63) 0 0 5) (v 23) (v 25) (v 30) (v 31) U (v 28) (v 29) 0 (v 58 3) (v 58 4) (v 58 5) (v 58 6) (v 58 7)).2.2.2.1, (zr_fmm Gn (zf (zl_aimG D (v 21) (v 22) 0) 40 1 (v 59)) 0 40 (v 27) (va_cpy (v 24) (v 63) 0 0 5) (v 23) (v 25) (v 30) (v 31) U (v 28) (v 29) 0 (v 58 3) (v 58 4) (v 58 5) (v 58 6) (v 58 7)).2.2.2.2.1, (zr_fmm Gn (zf (zl_aimG D (v 21) (v 22) 0) 40 1 (v 59)) 0 40 (v 27) (va_cpy (v 24) (v 63) 0 0 5) (v 23) (v 25) (v 30) (v 31) U (v 28) (v 29) 0 (v 58 3) (v 58 4) (v 58 5) (v 58 6) (v 58 7)).2.2.2.2.2)).2.2.2.2.1)) 7 ((zf (zl_weighG Gn (zf (zl_aimG D (v 21) (v 22) 0) 40 1 (v 59)) 0 40 (v 27) (va_cpy (v 24) (v 63) 0 0 5) (v 23) (v 25) (v 30) (v 31) U (v 28) (v 29)) N 0 (0, (zr_fmm Gn (zf (zl_aimG D (v 21) (v 22) 0) 40 1 (v 59)) 0 40 (v 27) (va_cpy (v 24) (v 63) 0 0 5) (v 23) (v 25) (v 30) (v 31) U (v 28) (v 29) 0 (v 58 3) (v 58 4) (v 58 5) (v 58 6) (v 58 7)).2.1, (zr_fmm Gn (zf (zl_aimG D (v 21) (v 22) 0) 40 1 (v 59)) 0 40 (v 27) (va_cpy (v 24) (v 63) 0 0 5) (v 23) (v 25) (v 30) (v 31) U (v 28) (v 29) 0 (v 58 3) (v 58 4) (v 58 5) (v 58 6) (v 58 7)).2.2.1, (zr_fmm Gn (zf (zl_aimG D (v 21) (v 22) 0) 40 1 (v 59)) 0 40 (v 27) (va_cpy (v 24) (v 63) 0 0 5) (v 23) (v 25) (v 30) (v 31) U (v 28) (v 29) 0 (v 58 3) (v 58 4) (v 58 5) (v 58 6) (v 58 7)).2.2.2.1, (zr_fmm Gn (zf (zl_aimG D (v 21) (v 22) 0) 40 1 (v 59)) 0 40 (v 27) (va_cpy (v 24) (v 63) 0 0 5) (v 23) (v 25) (v 30) (v 31) U (v 28) (v 29) 0 (v 58 3) (v 58 4) (v 58 5) (v 58 6) (v 58 7)).2.2.2.2.1, (zr_fmm Gn (zf (zl_aimG D (v 21) (v 22) 0) 40 1 (v 59)) 0 40 (v 27) (va_cpy (v 24) (v 63) 0 0 5) (v 23) (v 25) (v 30) (v 31) U (v 28) (v 29) 0 (v 58 3) (v 58 4) (v 58 5) (v 58 6) (v 58 7)).2.2.2.2.2)).2.2.2.2.2))) 59 (zf (zl_aimG D (v 21) (v 22) 0) 40 1 (v 59))) 60 (upd (upd (v 60) 0 0) 1 0)) 61 (va_cpy (v 28) (v 61) 0 0 4)) 62 (va_cpy (v 25) (v 62) 0 0 5)) 63 (va_cpy (v 24) (v 63) 0 0 5)) w t) _
  exact zk_T.rt rfl rfl (by simp only [zr_weigh] <;> rfl)
def zl_fitSetG (ft : Int32) (j : Nat) (s : Int32) : (Int32) ⊕ Int32 := match s with
  | be => if ((ft >>> ((nI j) &&& 31)) &&& 1) = 0 then .inl be else (if be = 0 then .inr (nI j) else .inl (be + (-1)))
theorem zl_fitSet  : ∀ (s : Int32) (q : Option Value × zk_H), zk_or (fun (s : Int32) => zk_T zk_mt zk_ex Ls xs zm_35 (36, [(0, .ref 57), (2, .int s), (3, .int (nI (0 + 16)))], []) (zH v w t) q) (fun (r : Int32) => (some (.int r), zH v w t) = q) (zfr (zl_fitSetG (v 57 3)) 16 0 s) → zk_T zk_mt zk_ex Ls xs zm_35 (4, [(0, .ref 57), (2, .int s), (3, .int (nI 0))], []) (zH v w t) q := by
  intro s q hk
  refine zk_forX (M := zm_35) (fun j (s : Int32) => (4, [(0, .ref 57), (2, .int s), (3, .int (nI j))], [])) (fun _ (s : Int32) => zH v w t) (zl_fitSetG (v 57 3)) (fun _ _ => True) (fun (s : Int32) => (36, [(0, .ref 57), (2, .int s), (3, .int (nI (0 + 16)))], [])) (fun (s : Int32) => zH v w t) (fun r q => (some (.int r), zH v w t) = q) (16) 0 s (fun _ _ _ _ _ _ _ => trivial) (fun j s hj1 hj2 hp q hk => ?_) (fun s hp q hk => ?_) ?_ q hk
  · have hz := True.intro
    obtain ⟨be, rfl⟩ : ∃ z, z = s := ⟨_, rfl⟩
    show zk_T zk_mt zk_ex Ls xs zm_35 (4, [(0, .ref 57), (2, .int be), (3, .int (nI j))], []) (zH v w t) q
    refine zk_T.adv 2 (f' := (7, [(0, .ref 57), (2, .int be), (3, .int (nI j))], [.int 16, .int (nI j)])) (h' := zH v w t) rfl ?_
    refine zk_T.br (f1 := (36, [(0, .ref 57), (2, .int be), (3, .int (nI j))], [])) (f2 := (10, [(0, .ref 57), (2, .int be), (3, .int (nI j))], [])) rfl (fun c1 => absurd (of_decide_eq_true c1) (nI_ge (show j < 16 by omega) (by decide))) (fun c1 => ?_)
    refine zk_T.adv 6 (f' := (18, [(0, .ref 57), (2, .int be), (3, .int (nI j))], [.int (((v 57 3) >>> ((nI j) &&& 31)) &&& 1)])) (h' := zH v w t) rfl ?_
    refine zk_T.br (f1 := (30, [(0, .ref 57), (2, .int be), (3, .int (nI j))], [])) (f2 := (21, [(0, .ref 57), (2, .int be), (3, .int (nI j))], [])) rfl (fun c2 => ?_) (fun c2 => ?_)
    · have c2 : (((v 57 3) >>> ((nI j) &&& 31)) &&& 1) = 0 := of_decide_eq_true c2
      refine zk_T.adv 2 (f' := (4, [(0, .ref 57), (2, .int be), (3, .int ((nI j) + 1))], [])) (h' := zH v w t) rfl ?_
      rw [nI_1]
      simp only [zl_fitSetG, zk_or, if_pos c2] at hk
      exact hk
    · have c2 : ¬ ((((v 57 3) >>> ((nI j) &&& 31)) &&& 1) = 0) := of_decide_eq_false c2
      refine zk_T.adv 1 (f' := (22, [(0, .ref 57), (2, .int be), (3, .int (nI j))], [.int be])) (h' := zH v w t) rfl ?_
      refine zk_T.br (f1 := (25, [(0, .ref 57), (2, .int be), (3, .int (nI j))], [])) (f2 := (27, [(0, .ref 57), (2, .int be), (3, .int (nI j))], [])) rfl (fun c3 => ?_) (fun c3 => ?_)
      · have c3 : be = 0 := of_decide_eq_true c3
        refine zk_T.adv 1 (f' := (26, [(0, .ref 57), (2, .int be), (3, .int (nI j))], [.int (nI j)])) (h' := zH v w t) rfl ?_
        simp only [zl_fitSetG, zk_or, if_neg c2, if_pos c3] at hk
        exact zk_T.rt rfl rfl hk
      · have c3 : ¬ (be = 0) := of_decide_eq_false c3
        refine zk_T.adv 3 (f' := (4, [(0, .ref 57), (2, .int (be + (-1))), (3, .int ((nI j) + 1))], [])) (h' := zH v w t) rfl ?_
        rw [nI_1]
        simp only [zl_fitSetG, zk_or, if_neg c2, if_neg c3] at hk
        exact hk
  · have hz := True.intro
    obtain ⟨be, rfl⟩ : ∃ z, z = s := ⟨_, rfl⟩
    show zk_T zk_mt zk_ex Ls xs zm_35 (4, [(0, .ref 57), (2, .int be), (3, .int (nI (0 + 16)))], []) (zH v w t) q
    refine zk_T.adv 2 (f' := (7, [(0, .ref 57), (2, .int be), (3, .int (nI (0 + 16)))], [.int 16, .int (nI (0 + 16))])) (h' := zH v w t) rfl ?_
    refine zk_T.br (f1 := (36, [(0, .ref 57), (2, .int be), (3, .int (nI (0 + 16)))], [])) (f2 := (10, [(0, .ref 57), (2, .int be), (3, .int (nI (0 + 16)))], [])) rfl (fun c1 => ?_) (fun c1 => absurd (by decide) (of_decide_eq_false c1))
    exact hk
  · exact trivial
def zr_fitSet (ft x : Int32) : Int32 := match zfr (zl_fitSetG ft) 16 0 x with | .inl s => (-1) | .inr r => r
/-- BasketKeep$Doubts.fittingSet -/
theorem zs_fitSet (x : Int32) : zk_Cr zk_mt zk_ex Ls xs 35 [.ref 57, .int x] (zH v w t) (some (.int (zr_fitSet (v 57 3) x)), zH v w t) := by
  refine zk_Cr.of (K := zm_35) rfl rfl rfl ?_
  show zk_T zk_mt zk_ex Ls xs zm_35 (0, [(0, .ref 57), (1, .int x)], []) (zH v w t) _
  refine zk_T.adv 4 (f' := (4, [(0, .ref 57), (2, .int x), (3, .int 0)], [])) (h' := zH v w t) rfl ?_
  refine zl_fitSet  x _ ?_
  cases z1 : zfr (zl_fitSetG (v 57 3)) 16 0 x with
  | inl s =>
    show zk_T zk_mt zk_ex Ls xs zm_35 (36, [(0, .ref 57), (2, .int s), (3, .int (nI (0 + 16)))], []) (zH v w t) _
    refine zk_T.adv 1 (f' := (37, [(0, .ref 57), (2, .int s), (3, .int (nI (0 + 16)))], [.int (-1)])) (h' := zH v w t) rfl ?_
    exact zk_T.rt rfl rfl (by simp only [zr_fitSet, z1])
  | inr r =>
    show ((some (Value.int r), zH v w t) : Option Value × zk_H) = _
    simp only [zr_fitSet, z1]
def zl_inSomeG (ft : Int32) (j : Nat) (s : Int32) : Int32 := match s with
  | b => if ((ft >>> ((nI j) &&& 31)) &&& 1) = 0 then b else b ||| (nI j)
theorem zl_inSome  : ∀ (s : Int32) (q : Option Value × zk_H), zk_T zk_mt zk_ex Ls xs zm_37 ((fun (s : Int32) => ((31, [(0, .ref 57), (1, .int s), (2, .int (nI (0 + 16)))], []) : zk_F)) (zf (zl_inSomeG (v 57 3)) 16 0 s)) ((fun (s : Int32) => zH v w t) (zf (zl_inSomeG (v 57 3)) 16 0 s)) q → zk_T zk_mt zk_ex Ls xs zm_37 (4, [(0, .ref 57), (1, .int s), (2, .int (nI 0))], []) (zH v w t) q := by
  intro s q hk
  refine zk_forK (M := zm_37) (fun j (s : Int32) => (4, [(0, .ref 57), (1, .int s), (2, .int (nI j))], [])) (fun _ (s : Int32) => zH v w t) (zl_inSomeG (v 57 3)) (fun _ _ => True) (fun (s : Int32) => (31, [(0, .ref 57), (1, .int s), (2, .int (nI (0 + 16)))], [])) (fun (s : Int32) => zH v w t) (16) 0 s (fun _ _ _ _ _ => trivial) (fun j s hj1 hj2 hp q hk => ?_) (fun s hp q hk => ?_) ?_ q hk
  · have hz := True.intro
    obtain ⟨b, rfl⟩ : ∃ z, z = s := ⟨_, rfl⟩
    show zk_T zk_mt zk_ex Ls xs zm_37 (4, [(0, .ref 57), (1, .int b), (2, .int (nI j))], []) (zH v w t) q
    refine zk_T.adv 2 (f' := (7, [(0, .ref 57), (1, .int b), (2, .int (nI j))], [.int 16, .int (nI j)])) (h' := zH v w t) rfl ?_
    refine zk_T.br (f1 := (31, [(0, .ref 57), (1, .int b), (2, .int (nI j))], [])) (f2 := (10, [(0, .ref 57), (1, .int b), (2, .int (nI j))], [])) rfl (fun c1 => absurd (of_decide_eq_true c1) (nI_ge (show j < 16 by omega) (by decide))) (fun c1 => ?_)
    refine zk_T.adv 6 (f' := (18, [(0, .ref 57), (1, .int b), (2, .int (nI j))], [.int (((v 57 3) >>> ((nI j) &&& 31)) &&& 1)])) (h' := zH v w t) rfl ?_
    refine zk_T.br (f1 := (25, [(0, .ref 57), (1, .int b), (2, .int (nI j))], [])) (f2 := (21, [(0, .ref 57), (1, .int b), (2, .int (nI j))], [])) rfl (fun c2 => ?_) (fun c2 => ?_)
    · have c2 : (((v 57 3) >>> ((nI j) &&& 31)) &&& 1) = 0 := of_decide_eq_true c2
      refine zk_T.adv 2 (f' := (4, [(0, .ref 57), (1, .int b), (2, .int ((nI j) + 1))], [])) (h' := zH v w t) rfl ?_
      rw [nI_1]
      simp only [zl_inSomeG, if_pos c2] at hk
      exact hk
    · have c2 : ¬ ((((v 57 3) >>> ((nI j) &&& 31)) &&& 1) = 0) := of_decide_eq_false c2
      refine zk_T.adv 6 (f' := (4, [(0, .ref 57), (1, .int (b ||| (nI j))), (2, .int ((nI j) + 1))], [])) (h' := zH v w t) rfl ?_
      rw [nI_1]
      simp only [zl_inSomeG, if_neg c2] at hk
      exact hk
  · have hz := True.intro
    obtain ⟨b, rfl⟩ : ∃ z, z = s := ⟨_, rfl⟩
    show zk_T zk_mt zk_ex Ls xs zm_37 (4, [(0, .ref 57), (1, .int b), (2, .int (nI (0 + 16)))], []) (zH v w t) q
    refine zk_T.adv 2 (f' := (7, [(0, .ref 57), (1, .int b), (2, .int (nI (0 + 16)))], [.int 16, .int (nI (0 + 16))])) (h' := zH v w t) rfl ?_
    refine zk_T.br (f1 := (31, [(0, .ref 57), (1, .int b), (2, .int (nI (0 + 16)))], [])) (f2 := (10, [(0, .ref 57), (1, .int b), (2, .int (nI (0 + 16)))], [])) rfl (fun c1 => ?_) (fun c1 => absurd (by decide) (of_decide_eq_false c1))
    exact hk
  · exact trivial
def zr_inSome (ft : Int32) : Int32 := (zf (zl_inSomeG ft) 16 0 0)
/-- BasketKeep$Doubts.inSome -/
theorem zs_inSome  : zk_Cr zk_mt zk_ex Ls xs 37 [.ref 57] (zH v w t) (some (.int (zr_inSome (v 57 3))), zH v w t) := by
  refine zk_Cr.of (K := zm_37) rfl rfl rfl ?_
  show zk_T zk_mt zk_ex Ls xs zm_37 (0, [(0, .ref 57)], []) (zH v w t) _
  refine zk_T.adv 4 (f' := (4, [(0, .ref 57), (1, .int 0), (2, .int 0)], [])) (h' := zH v w t) rfl ?_
  refine zl_inSome  0 _ ?_
  show zk_T zk_mt zk_ex Ls xs zm_37 (31, [(0, .ref 57), (1, .int (zf (zl_inSomeG (v 57 3)) 16 0 0)), (2, .int (nI (0 + 16)))], []) (zH v w t) _
  refine zk_T.adv 1 (f' := (32, [(0, .ref 57), (1, .int (zf (zl_inSomeG (v 57 3)) 16 0 0)), (2, .int (nI (0 + 16)))], [.int (zf (zl_inSomeG (v 57 3)) 16 0 0)])) (h' := zH v w t) rfl ?_
  exact zk_T.rt rfl rfl (by rfl)
def zl_inAllG (ft : Int32) (j : Nat) (s : Int32) : Int32 := match s with
  | b => if ((ft >>> ((nI j) &&& 31)) &&& 1) = 0 then b else b &&& (nI j)
theorem zl_inAll  : ∀ (s : Int32) (q : Option Value × zk_H), zk_T zk_mt zk_ex Ls xs zm_36 ((fun (s : Int32) => ((32, [(0, .ref 57), (1, .int s), (2, .int (nI (0 + 16)))], []) : zk_F)) (zf (zl_inAllG (v 57 3)) 16 0 s)) ((fun (s : Int32) => zH v w t) (zf (zl_inAllG (v 57 3)) 16 0 s)) q → zk_T zk_mt zk_ex Ls xs zm_36 (5, [(0, .ref 57), (1, .int s), (2, .int (nI 0))], []) (zH v w t) q := by
  intro s q hk
  refine zk_forK (M := zm_36) (fun j (s : Int32) => (5, [(0, .ref 57), (1, .int s), (2, .int (nI j))], [])) (fun _ (s : Int32) => zH v w t) (zl_inAllG (v 57 3)) (fun _ _ => True) (fun (s : Int32) => (32, [(0, .ref 57), (1, .int s), (2, .int (nI (0 + 16)))], [])) (fun (s : Int32) => zH v w t) (16) 0 s (fun _ _ _ _ _ => trivial) (fun j s hj1 hj2 hp q hk => ?_) (fun s hp q hk => ?_) ?_ q hk
  · have hz := True.intro
    obtain ⟨b, rfl⟩ : ∃ z, z = s := ⟨_, rfl⟩
    show zk_T zk_mt zk_ex Ls xs zm_36 (5, [(0, .ref 57), (1, .int b), (2, .int (nI j))], []) (zH v w t) q
    refine zk_T.adv 2 (f' := (8, [(0, .ref 57), (1, .int b), (2, .int (nI j))], [.int 16, .int (nI j)])) (h' := zH v w t) rfl ?_
    refine zk_T.br (f1 := (32, [(0, .ref 57), (1, .int b), (2, .int (nI j))], [])) (f2 := (11, [(0, .ref 57), (1, .int b), (2, .int (nI j))], [])) rfl (fun c1 => absurd (of_decide_eq_true c1) (nI_ge (show j < 16 by omega) (by decide))) (fun c1 => ?_)
    refine zk_T.adv 6 (f' := (19, [(0, .ref 57), (1, .int b), (2, .int (nI j))], [.int (((v 57 3) >>> ((nI j) &&& 31)) &&& 1)])) (h' := zH v w t) rfl ?_
    refine zk_T.br (f1 := (26, [(0, .ref 57), (1, .int b), (2, .int (nI j))], [])) (f2 := (22, [(0, .ref 57), (1, .int b), (2, .int (nI j))], [])) rfl (fun c2 => ?_) (fun c2 => ?_)
    · have c2 : (((v 57 3) >>> ((nI j) &&& 31)) &&& 1) = 0 := of_decide_eq_true c2
      refine zk_T.adv 2 (f' := (5, [(0, .ref 57), (1, .int b), (2, .int ((nI j) + 1))], [])) (h' := zH v w t) rfl ?_
      rw [nI_1]
      simp only [zl_inAllG, if_pos c2] at hk
      exact hk
    · have c2 : ¬ ((((v 57 3) >>> ((nI j) &&& 31)) &&& 1) = 0) := of_decide_eq_false c2
      refine zk_T.adv 6 (f' := (5, [(0, .ref 57), (1, .int (b &&& (nI j))), (2, .int ((nI j) + 1))], [])) (h' := zH v w t) rfl ?_
      rw [nI_1]
      simp only [zl_inAllG, if_neg c2] at hk
      exact hk
  · have hz := True.intro
    obtain ⟨b, rfl⟩ : ∃ z, z = s := ⟨_, rfl⟩
    show zk_T zk_mt zk_ex Ls xs zm_36 (5, [(0, .ref 57), (1, .int b), (2, .int (nI (0 + 16)))], []) (zH v w t) q
    refine zk_T.adv 2 (f' := (8, [(0, .ref 57), (1, .int b), (2, .int (nI (0 + 16)))], [.int 16, .int (nI (0 + 16))])) (h' := zH v w t) rfl ?_
    refine zk_T.br (f1 := (32, [(0, .ref 57), (1, .int b), (2, .int (nI (0 + 16)))], [])) (f2 := (11, [(0, .ref 57), (1, .int b), (2, .int (nI (0 + 16)))], [])) rfl (fun c1 => ?_) (fun c1 => absurd (by decide) (of_decide_eq_false c1))
    exact hk
  · exact trivial
def zr_inAll (ft : Int32) : Int32 := if ft = 0 then 0 else (zf (zl_inAllG ft) 16 0 15)
/-- BasketKeep$Doubts.inAll -/
theorem zs_inAll  : zk_Cr zk_mt zk_ex Ls xs 36 [.ref 57] (zH v w t) (some (.int (zr_inAll (v 57 3))), zH v w t) := by
  refine zk_Cr.of (K := zm_36) rfl rfl rfl ?_
  show zk_T zk_mt zk_ex Ls xs zm_36 (0, [(0, .ref 57)], []) (zH v w t) _
  refine zk_T.adv 4 (f' := (5, [(0, .ref 57), (1, .int 15), (2, .int 0)], [])) (h' := zH v w t) rfl ?_
  refine zl_inAll  15 _ ?_
  show zk_T zk_mt zk_ex Ls xs zm_36 (32, [(0, .ref 57), (1, .int (zf (zl_inAllG (v 57 3)) 16 0 15)), (2, .int (nI (0 + 16)))], []) (zH v w t) _
  refine zk_T.adv 2 (f' := (36, [(0, .ref 57), (1, .int (zf (zl_inAllG (v 57 3)) 16 0 15)), (2, .int (nI (0 + 16)))], [.int (v 57 3)])) (h' := zH v w t) rfl ?_
  refine zk_T.br (f1 := (39, [(0, .ref 57), (1, .int (zf (zl_inAllG (v 57 3)) 16 0 15)), (2, .int (nI (0 + 16)))], [])) (f2 := (43, [(0, .ref 57), (1, .int (zf (zl_inAllG (v 57 3)) 16 0 15)), (2, .int (nI (0 + 16)))], [])) rfl (fun c1 => ?_) (fun c1 => ?_)
  · have c1 : (v 57 3) = 0 := of_decide_eq_true c1
    refine zk_T.adv 2 (f' := (44, [(0, .ref 57), (1, .int (zf (zl_inAllG (v 57 3)) 16 0 15)), (2, .int (nI (0 + 16)))], [.int 0])) (h' := zH v w t) rfl ?_
    exact zk_T.rt rfl rfl (by simp only [zr_inAll, if_pos c1])
  · have c1 : ¬ ((v 57 3) = 0) := of_decide_eq_false c1
    refine zk_T.adv 1 (f' := (44, [(0, .ref 57), (1, .int (zf (zl_inAllG (v 57 3)) 16 0 15)), (2, .int (nI (0 + 16)))], [.int (zf (zl_inAllG (v 57 3)) 16 0 15)])) (h' := zH v w t) rfl ?_
    exact zk_T.rt rfl rfl (by simp only [zr_inAll, if_neg c1])
def zl_leftG (ft x : Int32) (j : Nat) (s : Int32) : Int32 := match s with
  | c => if ((ft >>> ((nI j) &&& 31)) &&& 1) = 0 then c else (if (((nI j) >>> (x &&& 31)) &&& 1) = 0 then c else c + 1)
theorem zl_left (x : Int32) : ∀ (s : Int32) (q : Option Value × zk_H), zk_T zk_mt zk_ex Ls xs zm_103 ((fun (s : Int32) => ((38, [(0, .ref 57), (1, .int x), (2, .int s), (3, .int (nI (0 + 16)))], []) : zk_F)) (zf (zl_leftG (v 57 3) x) 16 0 s)) ((fun (s : Int32) => zH v w t) (zf (zl_leftG (v 57 3) x) 16 0 s)) q → zk_T zk_mt zk_ex Ls xs zm_103 (4, [(0, .ref 57), (1, .int x), (2, .int s), (3, .int (nI 0))], []) (zH v w t) q := by
  intro s q hk
  refine zk_forK (M := zm_103) (fun j (s : Int32) => (4, [(0, .ref 57), (1, .int x), (2, .int s), (3, .int (nI j))], [])) (fun _ (s : Int32) => zH v w t) (zl_leftG (v 57 3) x) (fun _ _ => True) (fun (s : Int32) => (38, [(0, .ref 57), (1, .int x), (2, .int s), (3, .int (nI (0 + 16)))], [])) (fun (s : Int32) => zH v w t) (16) 0 s (fun _ _ _ _ _ => trivial) (fun j s hj1 hj2 hp q hk => ?_) (fun s hp q hk => ?_) ?_ q hk
  · have hz := True.intro
    obtain ⟨c, rfl⟩ : ∃ z, z = s := ⟨_, rfl⟩
    show zk_T zk_mt zk_ex Ls xs zm_103 (4, [(0, .ref 57), (1, .int x), (2, .int c), (3, .int (nI j))], []) (zH v w t) q
    refine zk_T.adv 2 (f' := (7, [(0, .ref 57), (1, .int x), (2, .int c), (3, .int (nI j))], [.int 16, .int (nI j)])) (h' := zH v w t) rfl ?_
    refine zk_T.br (f1 := (38, [(0, .ref 57), (1, .int x), (2, .int c), (3, .int (nI j))], [])) (f2 := (10, [(0, .ref 57), (1, .int x), (2, .int c), (3, .int (nI j))], [])) rfl (fun c1 => absurd (of_decide_eq_true c1) (nI_ge (show j < 16 by omega) (by decide))) (fun c1 => ?_)
    refine zk_T.adv 6 (f' := (18, [(0, .ref 57), (1, .int x), (2, .int c), (3, .int (nI j))], [.int (((v 57 3) >>> ((nI j) &&& 31)) &&& 1)])) (h' := zH v w t) rfl ?_
    refine zk_T.br (f1 := (32, [(0, .ref 57), (1, .int x), (2, .int c), (3, .int (nI j))], [])) (f2 := (21, [(0, .ref 57), (1, .int x), (2, .int c), (3, .int (nI j))], [])) rfl (fun c2 => ?_) (fun c2 => ?_)
    · have c2 : (((v 57 3) >>> ((nI j) &&& 31)) &&& 1) = 0 := of_decide_eq_true c2
      refine zk_T.adv 2 (f' := (4, [(0, .ref 57), (1, .int x), (2, .int c), (3, .int ((nI j) + 1))], [])) (h' := zH v w t) rfl ?_
      rw [nI_1]
      simp only [zl_leftG, if_pos c2] at hk
      exact hk
    · have c2 : ¬ ((((v 57 3) >>> ((nI j) &&& 31)) &&& 1) = 0) := of_decide_eq_false c2
      refine zk_T.adv 5 (f' := (26, [(0, .ref 57), (1, .int x), (2, .int c), (3, .int (nI j))], [.int (((nI j) >>> (x &&& 31)) &&& 1)])) (h' := zH v w t) rfl ?_
      refine zk_T.br (f1 := (32, [(0, .ref 57), (1, .int x), (2, .int c), (3, .int (nI j))], [])) (f2 := (29, [(0, .ref 57), (1, .int x), (2, .int c), (3, .int (nI j))], [])) rfl (fun c3 => ?_) (fun c3 => ?_)
      · have c3 : (((nI j) >>> (x &&& 31)) &&& 1) = 0 := of_decide_eq_true c3
        refine zk_T.adv 2 (f' := (4, [(0, .ref 57), (1, .int x), (2, .int c), (3, .int ((nI j) + 1))], [])) (h' := zH v w t) rfl ?_
        rw [nI_1]
        simp only [zl_leftG, if_neg c2, if_pos c3] at hk
        exact hk
      · have c3 : ¬ ((((nI j) >>> (x &&& 31)) &&& 1) = 0) := of_decide_eq_false c3
        refine zk_T.adv 3 (f' := (4, [(0, .ref 57), (1, .int x), (2, .int (c + 1)), (3, .int ((nI j) + 1))], [])) (h' := zH v w t) rfl ?_
        rw [nI_1]
        simp only [zl_leftG, if_neg c2, if_neg c3] at hk
        exact hk
  · have hz := True.intro
    obtain ⟨c, rfl⟩ : ∃ z, z = s := ⟨_, rfl⟩
    show zk_T zk_mt zk_ex Ls xs zm_103 (4, [(0, .ref 57), (1, .int x), (2, .int c), (3, .int (nI (0 + 16)))], []) (zH v w t) q
    refine zk_T.adv 2 (f' := (7, [(0, .ref 57), (1, .int x), (2, .int c), (3, .int (nI (0 + 16)))], [.int 16, .int (nI (0 + 16))])) (h' := zH v w t) rfl ?_
    refine zk_T.br (f1 := (38, [(0, .ref 57), (1, .int x), (2, .int c), (3, .int (nI (0 + 16)))], [])) (f2 := (10, [(0, .ref 57), (1, .int x), (2, .int c), (3, .int (nI (0 + 16)))], [])) rfl (fun c1 => ?_) (fun c1 => absurd (by decide) (of_decide_eq_false c1))
    exact hk
  · exact trivial
def zr_left (ft x : Int32) : Int32 := (zr_max (zf (zl_leftG ft x) 16 0 0) ((zr_bc ft) - (zf (zl_leftG ft x) 16 0 0)))
/-- BasketKeep$Doubts.leftAtMost -/
theorem zs_left (x : Int32) : zk_Cr zk_mt zk_ex Ls xs 103 [.ref 57, .int x] (zH v w t) (some (.int (zr_left (v 57 3) x)), zH v w t) := by
  refine zk_Cr.of (K := zm_103) rfl rfl rfl ?_
  show zk_T zk_mt zk_ex Ls xs zm_103 (0, [(0, .ref 57), (1, .int x)], []) (zH v w t) _
  refine zk_T.adv 4 (f' := (4, [(0, .ref 57), (1, .int x), (2, .int 0), (3, .int 0)], [])) (h' := zH v w t) rfl ?_
  refine zl_left x 0 _ ?_
  show zk_T zk_mt zk_ex Ls xs zm_103 (38, [(0, .ref 57), (1, .int x), (2, .int (zf (zl_leftG (v 57 3) x) 16 0 0)), (3, .int (nI (0 + 16)))], []) (zH v w t) _
  refine zk_T.adv 3 (f' := (43, [(0, .ref 57), (1, .int x), (2, .int (zf (zl_leftG (v 57 3) x) 16 0 0)), (3, .int (nI (0 + 16)))], [.int (v 57 3), .int (zf (zl_leftG (v 57 3) x) 16 0 0)])) (h' := zH v w t) rfl ?_
  refine zk_T.cl (v := some (.int (zr_bc (v 57 3)))) (h' := zH v w t) rfl (zs_bc (v 57 3)) ?_
  show zk_T zk_mt zk_ex Ls xs zm_103 (46, [(0, .ref 57), (1, .int x), (2, .int (zf (zl_leftG (v 57 3) x) 16 0 0)), (3, .int (nI (0 + 16)))], [.int (zr_bc (v 57 3)), .int (zf (zl_leftG (v 57 3) x) 16 0 0)]) (zH v w t) _
  refine zk_T.adv 2 (f' := (48, [(0, .ref 57), (1, .int x), (2, .int (zf (zl_leftG (v 57 3) x) 16 0 0)), (3, .int (nI (0 + 16)))], [.int ((zr_bc (v 57 3)) - (zf (zl_leftG (v 57 3) x) 16 0 0)), .int (zf (zl_leftG (v 57 3) x) 16 0 0)])) (h' := zH v w t) rfl ?_
  refine zk_T.cl (v := some (.int (zr_max (zf (zl_leftG (v 57 3) x) 16 0 0) ((zr_bc (v 57 3)) - (zf (zl_leftG (v 57 3) x) 16 0 0))))) (h' := zH v w t) rfl (zs_max (zf (zl_leftG (v 57 3) x) 16 0 0) ((zr_bc (v 57 3)) - (zf (zl_leftG (v 57 3) x) 16 0 0))) ?_
  show zk_T zk_mt zk_ex Ls xs zm_103 (51, [(0, .ref 57), (1, .int x), (2, .int (zf (zl_leftG (v 57 3) x) 16 0 0)), (3, .int (nI (0 + 16)))], [.int (zr_max (zf (zl_leftG (v 57 3) x) 16 0 0) ((zr_bc (v 57 3)) - (zf (zl_leftG (v 57 3) x) 16 0 0)))]) (zH v w t) _
  exact zk_T.rt rfl rfl (by rfl)
def zl_bestG (ft : Int32) (j : Nat) (s : Int32) : Int32 := match s with
  | be => if be < 0 then nI j else (if (zr_left ft be) ≤ (zr_left ft (nI j)) then be else nI j)
theorem zl_best (U : Nat) (hQ : v 57 2 = nI U) (hU4 : U ≤ 4) : ∀ (s : Int32) (q : Option Value × zk_H), zk_T zk_mt zk_ex Ls xs zm_162 ((fun (s : Int32) => ((47, [(0, .ref 57), (1, .int s), (2, .int (nI (0 + U)))], []) : zk_F)) (zf (zl_bestG (v 57 3)) U 0 s)) ((fun (s : Int32) => zH v w t) (zf (zl_bestG (v 57 3)) U 0 s)) q → zk_T zk_mt zk_ex Ls xs zm_162 (14, [(0, .ref 57), (1, .int s), (2, .int (nI 0))], []) (zH v w t) q := by
  intro s q hk
  refine zk_forK (M := zm_162) (fun j (s : Int32) => (14, [(0, .ref 57), (1, .int s), (2, .int (nI j))], [])) (fun _ (s : Int32) => zH v w t) (zl_bestG (v 57 3)) (fun _ _ => True) (fun (s : Int32) => (47, [(0, .ref 57), (1, .int s), (2, .int (nI (0 + U)))], [])) (fun (s : Int32) => zH v w t) (U) 0 s (fun _ _ _ _ _ => trivial) (fun j s hj1 hj2 hp q hk => ?_) (fun s hp q hk => ?_) ?_ q hk
  · have hz := True.intro
    obtain ⟨be, rfl⟩ : ∃ z, z = s := ⟨_, rfl⟩
    show zk_T zk_mt zk_ex Ls xs zm_162 (14, [(0, .ref 57), (1, .int be), (2, .int (nI j))], []) (zH v w t) q
    refine zk_T.adv 3 (f' := (19, [(0, .ref 57), (1, .int be), (2, .int (nI j))], [.int (v 57 2), .int (nI j)])) (h' := zH v w t) rfl ?_
    refine zk_T.br (f1 := (47, [(0, .ref 57), (1, .int be), (2, .int (nI j))], [])) (f2 := (22, [(0, .ref 57), (1, .int be), (2, .int (nI j))], [])) rfl (fun c1 => absurd (of_decide_eq_true c1) (by rw [hQ]; exact nI_ge (show j < U by omega) (by omega))) (fun c1 => ?_)
    refine zk_T.adv 1 (f' := (23, [(0, .ref 57), (1, .int be), (2, .int (nI j))], [.int be])) (h' := zH v w t) rfl ?_
    refine zk_T.br (f1 := (39, [(0, .ref 57), (1, .int be), (2, .int (nI j))], [])) (f2 := (26, [(0, .ref 57), (1, .int be), (2, .int (nI j))], [])) rfl (fun c2 => ?_) (fun c2 => ?_)
    · have c2 : be < 0 := of_decide_eq_true c2
      refine zk_T.adv 4 (f' := (14, [(0, .ref 57), (1, .int (nI j)), (2, .int ((nI j) + 1))], [])) (h' := zH v w t) rfl ?_
      rw [nI_1]
      simp only [zl_bestG, if_pos c2] at hk
      exact hk
    · have c2 : ¬ (be < 0) := of_decide_eq_false c2
      refine zk_T.adv 2 (f' := (28, [(0, .ref 57), (1, .int be), (2, .int (nI j))], [.int (nI j), .ref 57])) (h' := zH v w t) rfl ?_
      refine zk_T.cl (v := some (.int (zr_left (v 57 3) (nI j)))) (h' := zH v w t) rfl (zs_left (v := v) (nI j)) ?_
      show zk_T zk_mt zk_ex Ls xs zm_162 (31, [(0, .ref 57), (1, .int be), (2, .int (nI j))], [.int (zr_left (v 57 3) (nI j))]) (zH v w t) _
      refine zk_T.adv 2 (f' := (33, [(0, .ref 57), (1, .int be), (2, .int (nI j))], [.int be, .ref 57, .int (zr_left (v 57 3) (nI j))])) (h' := zH v w t) rfl ?_
      refine zk_T.cl (v := some (.int (zr_left (v 57 3) be))) (h' := zH v w t) rfl (zs_left (v := v) be) ?_
      show zk_T zk_mt zk_ex Ls xs zm_162 (36, [(0, .ref 57), (1, .int be), (2, .int (nI j))], [.int (zr_left (v 57 3) be), .int (zr_left (v 57 3) (nI j))]) (zH v w t) _
      refine zk_T.br (f1 := (41, [(0, .ref 57), (1, .int be), (2, .int (nI j))], [])) (f2 := (39, [(0, .ref 57), (1, .int be), (2, .int (nI j))], [])) rfl (fun c3 => ?_) (fun c3 => ?_)
      · have c3 : (zr_left (v 57 3) be) ≤ (zr_left (v 57 3) (nI j)) := of_decide_eq_true c3
        refine zk_T.adv 2 (f' := (14, [(0, .ref 57), (1, .int be), (2, .int ((nI j) + 1))], [])) (h' := zH v w t) rfl ?_
        rw [nI_1]
        simp only [zl_bestG, if_neg c2, if_pos c3] at hk
        exact hk
      · have c3 : ¬ ((zr_left (v 57 3) be) ≤ (zr_left (v 57 3) (nI j))) := of_decide_eq_false c3
        refine zk_T.adv 4 (f' := (14, [(0, .ref 57), (1, .int (nI j)), (2, .int ((nI j) + 1))], [])) (h' := zH v w t) rfl ?_
        rw [nI_1]
        simp only [zl_bestG, if_neg c2, if_neg c3] at hk
        exact hk
  · have hz := True.intro
    obtain ⟨be, rfl⟩ : ∃ z, z = s := ⟨_, rfl⟩
    show zk_T zk_mt zk_ex Ls xs zm_162 (14, [(0, .ref 57), (1, .int be), (2, .int (nI (0 + U)))], []) (zH v w t) q
    refine zk_T.adv 3 (f' := (19, [(0, .ref 57), (1, .int be), (2, .int (nI (0 + U)))], [.int (v 57 2), .int (nI (0 + U))])) (h' := zH v w t) rfl ?_
    refine zk_T.br (f1 := (47, [(0, .ref 57), (1, .int be), (2, .int (nI (0 + U)))], [])) (f2 := (22, [(0, .ref 57), (1, .int be), (2, .int (nI (0 + U)))], [])) rfl (fun c1 => ?_) (fun c1 => absurd (by rw [hQ, Nat.zero_add]; exact nI_le (Nat.le_refl _) (by omega)) (of_decide_eq_false c1))
    exact hk
  · exact trivial
def zr_best (U : Nat) (ft : Int32) : Int32 := if ft = 0 then (-2) else (zf (zl_bestG ft) U 0 (-2))
/-- BasketKeep$Doubts.bestQuestion -/
theorem zs_best (U : Nat) (hQ : v 57 2 = nI U) (hU4 : U ≤ 4) : zk_Cr zk_mt zk_ex Ls xs 162 [.ref 57] (zH v w t) (some (.int (zr_best U (v 57 3))), zH v w t) := by
  refine zk_Cr.of (K := zm_162) rfl rfl rfl ?_
  show zk_T zk_mt zk_ex Ls xs zm_162 (0, [(0, .ref 57)], []) (zH v w t) _
  refine zk_T.adv 4 (f' := (7, [(0, .ref 57), (1, .int (-2))], [.int (v 57 3)])) (h' := zH v w t) rfl ?_
  refine zk_T.br (f1 := (10, [(0, .ref 57), (1, .int (-2))], [])) (f2 := (12, [(0, .ref 57), (1, .int (-2))], [])) rfl (fun c1 => ?_) (fun c1 => ?_)
  · have c1 : (v 57 3) = 0 := of_decide_eq_true c1
    refine zk_T.adv 1 (f' := (11, [(0, .ref 57), (1, .int (-2))], [.int (-2)])) (h' := zH v w t) rfl ?_
    exact zk_T.rt rfl rfl (by simp only [zr_best, if_pos c1])
  · have c1 : ¬ ((v 57 3) = 0) := of_decide_eq_false c1
    refine zk_T.adv 2 (f' := (14, [(0, .ref 57), (1, .int (-2)), (2, .int 0)], [])) (h' := zH v w t) rfl ?_
    refine zl_best U hQ hU4 (-2) _ ?_
    show zk_T zk_mt zk_ex Ls xs zm_162 (47, [(0, .ref 57), (1, .int (zf (zl_bestG (v 57 3)) U 0 (-2))), (2, .int (nI (0 + U)))], []) (zH v w t) _
    refine zk_T.adv 1 (f' := (48, [(0, .ref 57), (1, .int (zf (zl_bestG (v 57 3)) U 0 (-2))), (2, .int (nI (0 + U)))], [.int (zf (zl_bestG (v 57 3)) U 0 (-2))])) (h' := zH v w t) rfl ?_
    exact zk_T.rt rfl rfl (by simp only [zr_best, if_neg c1])
/-- BasketKeep.fits -/
theorem zK_fits_t (hst : v 0 2 = 0) : zk_Cr zk_mt zk_ex Ls xs 137 [.ref 0] (zH v w t) (some (.int (-1)), zH (zb v 0 (upd (v 0) 10 1)) w t) := by
  refine zk_Cr.of (K := zm_137) rfl rfl rfl ?_
  show zk_T zk_mt zk_ex Ls xs zm_137 (0, [(0, .ref 0)], []) (zH v w t) _
  refine zk_T.adv 1 (f' := (1, [(0, .ref 0)], [.ref 0])) (h' := zH v w t) rfl ?_
  refine zk_T.cl (v := some (.int 1)) (h' := zH (zb v 0 (upd (v 0) 10 1)) w t) rfl (zs_noLevel_t (v := v) hst) ?_
  show zk_T zk_mt zk_ex Ls xs zm_137 (4, [(0, .ref 0)], [.int 1]) (zH (zb v 0 (upd (v 0) 10 1)) w t) _
  refine zk_T.br (f1 := (11, [(0, .ref 0)], [])) (f2 := (7, [(0, .ref 0)], [])) rfl (fun c1 => absurd (of_decide_eq_true c1) (by decide)) (fun c1 => ?_)
  refine zk_T.adv 2 (f' := (21, [(0, .ref 0)], [.int (-1)])) (h' := zH (zb v 0 (upd (v 0) 10 1)) w t) rfl ?_
  exact zk_T.rt rfl rfl (by rfl)
/-- BasketKeep.fits -/
theorem zK_fits_f (hst : v 0 2 = 1)  : zk_Cr zk_mt zk_ex Ls xs 137 [.ref 0] (zH v w t) (some (.int (zr_bc (v 57 3))), zH (zb v 0 (upd (v 0) 10 0)) w t) := by
  refine zk_Cr.of (K := zm_137) rfl rfl rfl ?_
  show zk_T zk_mt zk_ex Ls xs zm_137 (0, [(0, .ref 0)], []) (zH v w t) _
  refine zk_T.adv 1 (f' := (1, [(0, .ref 0)], [.ref 0])) (h' := zH v w t) rfl ?_
  refine zk_T.cl (v := some (.int 0)) (h' := zH (zb v 0 (upd (v 0) 10 0)) w t) rfl (zs_noLevel_f (v := v) hst) ?_
  show zk_T zk_mt zk_ex Ls xs zm_137 (4, [(0, .ref 0)], [.int 0]) (zH (zb v 0 (upd (v 0) 10 0)) w t) _
  refine zk_T.br (f1 := (11, [(0, .ref 0)], [])) (f2 := (7, [(0, .ref 0)], [])) rfl (fun c1 => ?_) (fun c1 => absurd (by decide) (of_decide_eq_false c1))
  refine zk_T.adv 3 (f' := (18, [(0, .ref 0)], [.int (v 57 3)])) (h' := zH (zb v 0 (upd (v 0) 10 0)) w t) rfl ?_
  refine zk_T.cl (v := some (.int (zr_bc (v 57 3)))) (h' := zH (zb v 0 (upd (v 0) 10 0)) w t) rfl (zs_bc (v 57 3)) ?_
  show zk_T zk_mt zk_ex Ls xs zm_137 (21, [(0, .ref 0)], [.int (zr_bc (v 57 3))]) (zH (zb v 0 (upd (v 0) 10 0)) w t) _
  exact zk_T.rt rfl rfl (by rfl)
/-- BasketKeep.could -/
theorem zK_could_t (hst : v 0 2 = 0) : zk_Cr zk_mt zk_ex Ls xs 134 [.ref 0] (zH v w t) (some (.int (-1)), zH (zb v 0 (upd (v 0) 10 1)) w t) := by
  refine zk_Cr.of (K := zm_134) rfl rfl rfl ?_
  show zk_T zk_mt zk_ex Ls xs zm_134 (0, [(0, .ref 0)], []) (zH v w t) _
  refine zk_T.adv 1 (f' := (1, [(0, .ref 0)], [.ref 0])) (h' := zH v w t) rfl ?_
  refine zk_T.cl (v := some (.int 1)) (h' := zH (zb v 0 (upd (v 0) 10 1)) w t) rfl (zs_noLevel_t (v := v) hst) ?_
  show zk_T zk_mt zk_ex Ls xs zm_134 (4, [(0, .ref 0)], [.int 1]) (zH (zb v 0 (upd (v 0) 10 1)) w t) _
  refine zk_T.br (f1 := (11, [(0, .ref 0)], [])) (f2 := (7, [(0, .ref 0)], [])) rfl (fun c1 => absurd (of_decide_eq_true c1) (by decide)) (fun c1 => ?_)
  refine zk_T.adv 2 (f' := (18, [(0, .ref 0)], [.int (-1)])) (h' := zH (zb v 0 (upd (v 0) 10 1)) w t) rfl ?_
  exact zk_T.rt rfl rfl (by rfl)
/-- BasketKeep.could -/
theorem zK_could_f (hst : v 0 2 = 1)  : zk_Cr zk_mt zk_ex Ls xs 134 [.ref 0] (zH v w t) (some (.int (zr_inSome (v 57 3))), zH (zb v 0 (upd (v 0) 10 0)) w t) := by
  refine zk_Cr.of (K := zm_134) rfl rfl rfl ?_
  show zk_T zk_mt zk_ex Ls xs zm_134 (0, [(0, .ref 0)], []) (zH v w t) _
  refine zk_T.adv 1 (f' := (1, [(0, .ref 0)], [.ref 0])) (h' := zH v w t) rfl ?_
  refine zk_T.cl (v := some (.int 0)) (h' := zH (zb v 0 (upd (v 0) 10 0)) w t) rfl (zs_noLevel_f (v := v) hst) ?_
  show zk_T zk_mt zk_ex Ls xs zm_134 (4, [(0, .ref 0)], [.int 0]) (zH (zb v 0 (upd (v 0) 10 0)) w t) _
  refine zk_T.br (f1 := (11, [(0, .ref 0)], [])) (f2 := (7, [(0, .ref 0)], [])) rfl (fun c1 => ?_) (fun c1 => absurd (by decide) (of_decide_eq_false c1))
  refine zk_T.adv 2 (f' := (15, [(0, .ref 0)], [.ref 57])) (h' := zH (zb v 0 (upd (v 0) 10 0)) w t) rfl ?_
  refine zk_T.cl (v := some (.int (zr_inSome (v 57 3)))) (h' := zH (zb v 0 (upd (v 0) 10 0)) w t) rfl (zs_inSome (v := (zb v 0 (upd (v 0) 10 0)))) ?_
  show zk_T zk_mt zk_ex Ls xs zm_134 (18, [(0, .ref 0)], [.int (zr_inSome (v 57 3))]) (zH (zb v 0 (upd (v 0) 10 0)) w t) _
  exact zk_T.rt rfl rfl (by rfl)
/-- BasketKeep.surely -/
theorem zK_surely_t (hst : v 0 2 = 0) : zk_Cr zk_mt zk_ex Ls xs 150 [.ref 0] (zH v w t) (some (.int (-1)), zH (zb v 0 (upd (v 0) 10 1)) w t) := by
  refine zk_Cr.of (K := zm_150) rfl rfl rfl ?_
  show zk_T zk_mt zk_ex Ls xs zm_150 (0, [(0, .ref 0)], []) (zH v w t) _
  refine zk_T.adv 1 (f' := (1, [(0, .ref 0)], [.ref 0])) (h' := zH v w t) rfl ?_
  refine zk_T.cl (v := some (.int 1)) (h' := zH (zb v 0 (upd (v 0) 10 1)) w t) rfl (zs_noLevel_t (v := v) hst) ?_
  show zk_T zk_mt zk_ex Ls xs zm_150 (4, [(0, .ref 0)], [.int 1]) (zH (zb v 0 (upd (v 0) 10 1)) w t) _
  refine zk_T.br (f1 := (11, [(0, .ref 0)], [])) (f2 := (7, [(0, .ref 0)], [])) rfl (fun c1 => absurd (of_decide_eq_true c1) (by decide)) (fun c1 => ?_)
  refine zk_T.adv 2 (f' := (18, [(0, .ref 0)], [.int (-1)])) (h' := zH (zb v 0 (upd (v 0) 10 1)) w t) rfl ?_
  exact zk_T.rt rfl rfl (by rfl)
/-- BasketKeep.surely -/
theorem zK_surely_f (hst : v 0 2 = 1)  : zk_Cr zk_mt zk_ex Ls xs 150 [.ref 0] (zH v w t) (some (.int (zr_inAll (v 57 3))), zH (zb v 0 (upd (v 0) 10 0)) w t) := by
  refine zk_Cr.of (K := zm_150) rfl rfl rfl ?_
  show zk_T zk_mt zk_ex Ls xs zm_150 (0, [(0, .ref 0)], []) (zH v w t) _
  refine zk_T.adv 1 (f' := (1, [(0, .ref 0)], [.ref 0])) (h' := zH v w t) rfl ?_
  refine zk_T.cl (v := some (.int 0)) (h' := zH (zb v 0 (upd (v 0) 10 0)) w t) rfl (zs_noLevel_f (v := v) hst) ?_
  show zk_T zk_mt zk_ex Ls xs zm_150 (4, [(0, .ref 0)], [.int 0]) (zH (zb v 0 (upd (v 0) 10 0)) w t) _
  refine zk_T.br (f1 := (11, [(0, .ref 0)], [])) (f2 := (7, [(0, .ref 0)], [])) rfl (fun c1 => ?_) (fun c1 => absurd (by decide) (of_decide_eq_false c1))
  refine zk_T.adv 2 (f' := (15, [(0, .ref 0)], [.ref 57])) (h' := zH (zb v 0 (upd (v 0) 10 0)) w t) rfl ?_
  refine zk_T.cl (v := some (.int (zr_inAll (v 57 3)))) (h' := zH (zb v 0 (upd (v 0) 10 0)) w t) rfl (zs_inAll (v := (zb v 0 (upd (v 0) 10 0)))) ?_
  show zk_T zk_mt zk_ex Ls xs zm_150 (18, [(0, .ref 0)], [.int (zr_inAll (v 57 3))]) (zH (zb v 0 (upd (v 0) 10 0)) w t) _
  exact zk_T.rt rfl rfl (by rfl)
/-- BasketKeep.ask -/
theorem zK_ask_t (hst : v 0 2 = 0) : zk_Cr zk_mt zk_ex Ls xs 187 [.ref 0] (zH v w t) (some (.int (-1)), zH (zb v 0 (upd (v 0) 10 1)) w t) := by
  refine zk_Cr.of (K := zm_187) rfl rfl rfl ?_
  show zk_T zk_mt zk_ex Ls xs zm_187 (0, [(0, .ref 0)], []) (zH v w t) _
  refine zk_T.adv 1 (f' := (1, [(0, .ref 0)], [.ref 0])) (h' := zH v w t) rfl ?_
  refine zk_T.cl (v := some (.int 1)) (h' := zH (zb v 0 (upd (v 0) 10 1)) w t) rfl (zs_noLevel_t (v := v) hst) ?_
  show zk_T zk_mt zk_ex Ls xs zm_187 (4, [(0, .ref 0)], [.int 1]) (zH (zb v 0 (upd (v 0) 10 1)) w t) _
  refine zk_T.br (f1 := (11, [(0, .ref 0)], [])) (f2 := (7, [(0, .ref 0)], [])) rfl (fun c1 => absurd (of_decide_eq_true c1) (by decide)) (fun c1 => ?_)
  refine zk_T.adv 2 (f' := (18, [(0, .ref 0)], [.int (-1)])) (h' := zH (zb v 0 (upd (v 0) 10 1)) w t) rfl ?_
  exact zk_T.rt rfl rfl (by rfl)
/-- BasketKeep.ask -/
theorem zK_ask_f (hst : v 0 2 = 1) (U : Nat) (hQ : v 57 2 = nI U) (hU4 : U ≤ 4) : zk_Cr zk_mt zk_ex Ls xs 187 [.ref 0] (zH v w t) (some (.int (zr_best U (v 57 3))), zH (zb v 0 (upd (v 0) 10 0)) w t) := by
  refine zk_Cr.of (K := zm_187) rfl rfl rfl ?_
  show zk_T zk_mt zk_ex Ls xs zm_187 (0, [(0, .ref 0)], []) (zH v w t) _
  refine zk_T.adv 1 (f' := (1, [(0, .ref 0)], [.ref 0])) (h' := zH v w t) rfl ?_
  refine zk_T.cl (v := some (.int 0)) (h' := zH (zb v 0 (upd (v 0) 10 0)) w t) rfl (zs_noLevel_f (v := v) hst) ?_
  show zk_T zk_mt zk_ex Ls xs zm_187 (4, [(0, .ref 0)], [.int 0]) (zH (zb v 0 (upd (v 0) 10 0)) w t) _
  refine zk_T.br (f1 := (11, [(0, .ref 0)], [])) (f2 := (7, [(0, .ref 0)], [])) rfl (fun c1 => ?_) (fun c1 => absurd (by decide) (of_decide_eq_false c1))
  refine zk_T.adv 2 (f' := (15, [(0, .ref 0)], [.ref 57])) (h' := zH (zb v 0 (upd (v 0) 10 0)) w t) rfl ?_
  refine zk_T.cl (v := some (.int (zr_best U (v 57 3)))) (h' := zH (zb v 0 (upd (v 0) 10 0)) w t) rfl (zs_best (v := (zb v 0 (upd (v 0) 10 0))) U hQ hU4) ?_
  show zk_T zk_mt zk_ex Ls xs zm_187 (18, [(0, .ref 0)], [.int (zr_best U (v 57 3))]) (zH (zb v 0 (upd (v 0) 10 0)) w t) _
  exact zk_T.rt rfl rfl (by rfl)
/-- BasketKeep.askLeaves -/
theorem zK_askLeaves_t (hst : v 0 2 = 0) : zk_Cr zk_mt zk_ex Ls xs 188 [.ref 0] (zH v w t) (some (.int (-1)), zH (zb v 0 (upd (v 0) 10 1)) w t) := by
  refine zk_Cr.of (K := zm_188) rfl rfl rfl ?_
  show zk_T zk_mt zk_ex Ls xs zm_188 (0, [(0, .ref 0)], []) (zH v w t) _
  refine zk_T.adv 1 (f' := (1, [(0, .ref 0)], [.ref 0])) (h' := zH v w t) rfl ?_
  refine zk_T.cl (v := some (.int 1)) (h' := zH (zb v 0 (upd (v 0) 10 1)) w t) rfl (zs_noLevel_t (v := v) hst) ?_
  show zk_T zk_mt zk_ex Ls xs zm_188 (4, [(0, .ref 0)], [.int 1]) (zH (zb v 0 (upd (v 0) 10 1)) w t) _
  refine zk_T.br (f1 := (9, [(0, .ref 0)], [])) (f2 := (7, [(0, .ref 0)], [])) rfl (fun c1 => absurd (of_decide_eq_true c1) (by decide)) (fun c1 => ?_)
  refine zk_T.adv 1 (f' := (8, [(0, .ref 0)], [.int (-1)])) (h' := zH (zb v 0 (upd (v 0) 10 1)) w t) rfl ?_
  exact zk_T.rt rfl rfl (by rfl)
def zr_askLeavesK (U : Nat) (ft : Int32) : Int32 := if 0 ≤ (zr_best U ft) then (zr_left ft (zr_best U ft)) else (-2)
/-- BasketKeep.askLeaves -/
theorem zK_askLeaves_f (hst : v 0 2 = 1) (U : Nat) (hQ : v 57 2 = nI U) (hU4 : U ≤ 4) : zk_Cr zk_mt zk_ex Ls xs 188 [.ref 0] (zH v w t) (some (.int (zr_askLeavesK U (v 57 3))), zH (zb v 0 (upd (v 0) 10 0)) w t) := by
  refine zk_Cr.of (K := zm_188) rfl rfl rfl ?_
  show zk_T zk_mt zk_ex Ls xs zm_188 (0, [(0, .ref 0)], []) (zH v w t) _
  refine zk_T.adv 1 (f' := (1, [(0, .ref 0)], [.ref 0])) (h' := zH v w t) rfl ?_
  refine zk_T.cl (v := some (.int 0)) (h' := zH (zb v 0 (upd (v 0) 10 0)) w t) rfl (zs_noLevel_f (v := v) hst) ?_
  show zk_T zk_mt zk_ex Ls xs zm_188 (4, [(0, .ref 0)], [.int 0]) (zH (zb v 0 (upd (v 0) 10 0)) w t) _
  refine zk_T.br (f1 := (9, [(0, .ref 0)], [])) (f2 := (7, [(0, .ref 0)], [])) rfl (fun c1 => ?_) (fun c1 => absurd (by decide) (of_decide_eq_false c1))
  refine zk_T.adv 2 (f' := (13, [(0, .ref 0)], [.ref 57])) (h' := zH (zb v 0 (upd (v 0) 10 0)) w t) rfl ?_
  refine zk_T.cl (v := some (.int (zr_best U (v 57 3)))) (h' := zH (zb v 0 (upd (v 0) 10 0)) w t) rfl (zs_best (v := (zb v 0 (upd (v 0) 10 0))) U hQ hU4) ?_
  show zk_T zk_mt zk_ex Ls xs zm_188 (16, [(0, .ref 0)], [.int (zr_best U (v 57 3))]) (zH (zb v 0 (upd (v 0) 10 0)) w t) _
  refine zk_T.adv 2 (f' := (18, [(0, .ref 0), (1, .int (zr_best U (v 57 3)))], [.int (zr_best U (v 57 3))])) (h' := zH (zb v 0 (upd (v 0) 10 0)) w t) rfl ?_
  refine zk_T.br (f1 := (26, [(0, .ref 0), (1, .int (zr_best U (v 57 3)))], [])) (f2 := (21, [(0, .ref 0), (1, .int (zr_best U (v 57 3)))], [])) rfl (fun c2 => ?_) (fun c2 => ?_)
  · have c2 : 0 ≤ (zr_best U (v 57 3)) := of_decide_eq_true c2
    refine zk_T.adv 3 (f' := (31, [(0, .ref 0), (1, .int (zr_best U (v 57 3)))], [.int (zr_best U (v 57 3)), .ref 57])) (h' := zH (zb v 0 (upd (v 0) 10 0)) w t) rfl ?_
    refine zk_T.cl (v := some (.int (zr_left (v 57 3) (zr_best U (v 57 3))))) (h' := zH (zb v 0 (upd (v 0) 10 0)) w t) rfl (zs_left (v := (zb v 0 (upd (v 0) 10 0))) (zr_best U (v 57 3))) ?_
    show zk_T zk_mt zk_ex Ls xs zm_188 (34, [(0, .ref 0), (1, .int (zr_best U (v 57 3)))], [.int (zr_left (v 57 3) (zr_best U (v 57 3)))]) (zH (zb v 0 (upd (v 0) 10 0)) w t) _
    exact zk_T.rt rfl rfl (by simp only [zr_askLeavesK, if_pos c2])
  · have c2 : ¬ (0 ≤ (zr_best U (v 57 3))) := of_decide_eq_false c2
    refine zk_T.adv 2 (f' := (34, [(0, .ref 0), (1, .int (zr_best U (v 57 3)))], [.int (-2)])) (h' := zH (zb v 0 (upd (v 0) 10 0)) w t) rfl ?_
    exact zk_T.rt rfl rfl (by simp only [zr_askLeavesK, if_neg c2])
/-- BasketKeep.judge -/
theorem zK_judge_t (hst : v 0 2 = 0) : zk_Cr zk_mt zk_ex Ls xs 140 [.ref 0] (zH v w t) (some (.int (-1)), zH (zb v 0 (upd (v 0) 10 1)) w t) := by
  refine zk_Cr.of (K := zm_140) rfl rfl rfl ?_
  show zk_T zk_mt zk_ex Ls xs zm_140 (0, [(0, .ref 0)], []) (zH v w t) _
  refine zk_T.adv 1 (f' := (1, [(0, .ref 0)], [.ref 0])) (h' := zH v w t) rfl ?_
  refine zk_T.cl (v := some (.int 1)) (h' := zH (zb v 0 (upd (v 0) 10 1)) w t) rfl (zs_noLevel_t (v := v) hst) ?_
  show zk_T zk_mt zk_ex Ls xs zm_140 (4, [(0, .ref 0)], [.int 1]) (zH (zb v 0 (upd (v 0) 10 1)) w t) _
  refine zk_T.br (f1 := (11, [(0, .ref 0)], [])) (f2 := (7, [(0, .ref 0)], [])) rfl (fun c1 => absurd (of_decide_eq_true c1) (by decide)) (fun c1 => ?_)
  refine zk_T.adv 2 (f' := (18, [(0, .ref 0)], [.int (-1)])) (h' := zH (zb v 0 (upd (v 0) 10 1)) w t) rfl ?_
  exact zk_T.rt rfl rfl (by rfl)
/-- BasketKeep.judge -/
theorem zK_judge_f (hst : v 0 2 = 1)  : zk_Cr zk_mt zk_ex Ls xs 140 [.ref 0] (zH v w t) (some (.int (v 57 4)), zH (zb v 0 (upd (v 0) 10 0)) w t) := by
  refine zk_Cr.of (K := zm_140) rfl rfl rfl ?_
  show zk_T zk_mt zk_ex Ls xs zm_140 (0, [(0, .ref 0)], []) (zH v w t) _
  refine zk_T.adv 1 (f' := (1, [(0, .ref 0)], [.ref 0])) (h' := zH v w t) rfl ?_
  refine zk_T.cl (v := some (.int 0)) (h' := zH (zb v 0 (upd (v 0) 10 0)) w t) rfl (zs_noLevel_f (v := v) hst) ?_
  show zk_T zk_mt zk_ex Ls xs zm_140 (4, [(0, .ref 0)], [.int 0]) (zH (zb v 0 (upd (v 0) 10 0)) w t) _
  refine zk_T.br (f1 := (11, [(0, .ref 0)], [])) (f2 := (7, [(0, .ref 0)], [])) rfl (fun c1 => ?_) (fun c1 => absurd (by decide) (of_decide_eq_false c1))
  refine zk_T.adv 3 (f' := (18, [(0, .ref 0)], [.int (v 57 4)])) (h' := zH (zb v 0 (upd (v 0) 10 0)) w t) rfl ?_
  exact zk_T.rt rfl rfl (by rfl)
/-- BasketKeep.fitAt -/
theorem zK_fitAt_t (x : Int32) (hst : v 0 2 = 0) : zk_Cr zk_mt zk_ex Ls xs 136 [.ref 0, .int x] (zH v w t) (some (.int (-1)), zH (zb v 0 (upd (v 0) 10 1)) w t) := by
  refine zk_Cr.of (K := zm_136) rfl rfl rfl ?_
  show zk_T zk_mt zk_ex Ls xs zm_136 (0, [(0, .ref 0), (1, .int x)], []) (zH v w t) _
  refine zk_T.adv 1 (f' := (1, [(0, .ref 0), (1, .int x)], [.ref 0])) (h' := zH v w t) rfl ?_
  refine zk_T.cl (v := some (.int 1)) (h' := zH (zb v 0 (upd (v 0) 10 1)) w t) rfl (zs_noLevel_t (v := v) hst) ?_
  show zk_T zk_mt zk_ex Ls xs zm_136 (4, [(0, .ref 0), (1, .int x)], [.int 1]) (zH (zb v 0 (upd (v 0) 10 1)) w t) _
  refine zk_T.br (f1 := (7, [(0, .ref 0), (1, .int x)], [])) (f2 := (38, [(0, .ref 0), (1, .int x)], [])) rfl (fun c1 => absurd (of_decide_eq_true c1) (by decide)) (fun c1 => ?_)
  refine zk_T.adv 1 (f' := (39, [(0, .ref 0), (1, .int x)], [.int (-1)])) (h' := zH (zb v 0 (upd (v 0) 10 1)) w t) rfl ?_
  exact zk_T.rt rfl rfl (by rfl)
/-- BasketKeep.fitAt -/
theorem zK_fitAt_1a (x : Int32) (hst : v 0 2 = 1) (hx : x < 0) : zk_Cr zk_mt zk_ex Ls xs 136 [.ref 0, .int x] (zH v w t) (some (.int (-1)), zH (zb v 0 (upd (v 0) 10 1)) w t) := by
  refine zk_Cr.of (K := zm_136) rfl rfl rfl ?_
  show zk_T zk_mt zk_ex Ls xs zm_136 (0, [(0, .ref 0), (1, .int x)], []) (zH v w t) _
  refine zk_T.adv 1 (f' := (1, [(0, .ref 0), (1, .int x)], [.ref 0])) (h' := zH v w t) rfl ?_
  refine zk_T.cl (v := some (.int 0)) (h' := zH (zb v 0 (upd (v 0) 10 0)) w t) rfl (zs_noLevel_f (v := v) hst) ?_
  show zk_T zk_mt zk_ex Ls xs zm_136 (4, [(0, .ref 0), (1, .int x)], [.int 0]) (zH (zb v 0 (upd (v 0) 10 0)) w t) _
  refine zk_T.br (f1 := (7, [(0, .ref 0), (1, .int x)], [])) (f2 := (38, [(0, .ref 0), (1, .int x)], [])) rfl (fun c1 => ?_) (fun c1 => absurd (by decide) (of_decide_eq_false c1))
  refine zk_T.adv 2 (f' := (9, [(0, .ref 0), (1, .int x)], [.int x, .ref 0])) (h' := zH (zb v 0 (upd (v 0) 10 0)) w t) rfl ?_
  refine zk_T.br (f1 := (26, [(0, .ref 0), (1, .int x)], [.ref 0])) (f2 := (12, [(0, .ref 0), (1, .int x)], [.ref 0])) rfl (fun c2 => ?_) (fun c2 => absurd hx (of_decide_eq_false c2))
  refine zk_T.adv 3 (f' := (32, [(0, .ref 0), (1, .int x)], [.int 1, .int 1, .ref 0])) (h' := zH (zb v 0 (upd (v 0) 10 0)) w t) rfl ?_
  refine zk_T.cl (v := some (.int 1)) (h' := zH (zb v 0 (upd (v 0) 10 1)) w t) rfl (zs_ref1 1) ?_
  show zk_T zk_mt zk_ex Ls xs zm_136 (35, [(0, .ref 0), (1, .int x)], [.int 1]) (zH (zb v 0 (upd (v 0) 10 1)) w t) _
  refine zk_T.br (f1 := (40, [(0, .ref 0), (1, .int x)], [])) (f2 := (38, [(0, .ref 0), (1, .int x)], [])) rfl (fun c3 => absurd (of_decide_eq_true c3) (by decide)) (fun c3 => ?_)
  refine zk_T.adv 1 (f' := (39, [(0, .ref 0), (1, .int x)], [.int (-1)])) (h' := zH (zb v 0 (upd (v 0) 10 1)) w t) rfl ?_
  exact zk_T.rt rfl rfl (by rfl)
/-- BasketKeep.fitAt -/
theorem zK_fitAt_1b (x : Int32) (hst : v 0 2 = 1) (hx : ¬ x < 0) (hb : ¬ x < zr_bc (v 57 3)) : zk_Cr zk_mt zk_ex Ls xs 136 [.ref 0, .int x] (zH v w t) (some (.int (-1)), zH (zb v 0 (upd (v 0) 10 1)) w t) := by
  refine zk_Cr.of (K := zm_136) rfl rfl rfl ?_
  show zk_T zk_mt zk_ex Ls xs zm_136 (0, [(0, .ref 0), (1, .int x)], []) (zH v w t) _
  refine zk_T.adv 1 (f' := (1, [(0, .ref 0), (1, .int x)], [.ref 0])) (h' := zH v w t) rfl ?_
  refine zk_T.cl (v := some (.int 0)) (h' := zH (zb v 0 (upd (v 0) 10 0)) w t) rfl (zs_noLevel_f (v := v) hst) ?_
  show zk_T zk_mt zk_ex Ls xs zm_136 (4, [(0, .ref 0), (1, .int x)], [.int 0]) (zH (zb v 0 (upd (v 0) 10 0)) w t) _
  refine zk_T.br (f1 := (7, [(0, .ref 0), (1, .int x)], [])) (f2 := (38, [(0, .ref 0), (1, .int x)], [])) rfl (fun c1 => ?_) (fun c1 => absurd (by decide) (of_decide_eq_false c1))
  refine zk_T.adv 2 (f' := (9, [(0, .ref 0), (1, .int x)], [.int x, .ref 0])) (h' := zH (zb v 0 (upd (v 0) 10 0)) w t) rfl ?_
  refine zk_T.br (f1 := (26, [(0, .ref 0), (1, .int x)], [.ref 0])) (f2 := (12, [(0, .ref 0), (1, .int x)], [.ref 0])) rfl (fun c2 => absurd (of_decide_eq_true c2) hx) (fun c2 => ?_)
  refine zk_T.adv 4 (f' := (20, [(0, .ref 0), (1, .int x)], [.int (v 57 3), .int x, .ref 0])) (h' := zH (zb v 0 (upd (v 0) 10 0)) w t) rfl ?_
  refine zk_T.cl (v := some (.int (zr_bc (v 57 3)))) (h' := zH (zb v 0 (upd (v 0) 10 0)) w t) rfl (zs_bc (v 57 3)) ?_
  show zk_T zk_mt zk_ex Ls xs zm_136 (23, [(0, .ref 0), (1, .int x)], [.int (zr_bc (v 57 3)), .int x, .ref 0]) (zH (zb v 0 (upd (v 0) 10 0)) w t) _
  refine zk_T.br (f1 := (30, [(0, .ref 0), (1, .int x)], [.ref 0])) (f2 := (26, [(0, .ref 0), (1, .int x)], [.ref 0])) rfl (fun c3 => absurd (of_decide_eq_true c3) hb) (fun c3 => ?_)
  refine zk_T.adv 3 (f' := (32, [(0, .ref 0), (1, .int x)], [.int 1, .int 1, .ref 0])) (h' := zH (zb v 0 (upd (v 0) 10 0)) w t) rfl ?_
  refine zk_T.cl (v := some (.int 1)) (h' := zH (zb v 0 (upd (v 0) 10 1)) w t) rfl (zs_ref1 1) ?_
  show zk_T zk_mt zk_ex Ls xs zm_136 (35, [(0, .ref 0), (1, .int x)], [.int 1]) (zH (zb v 0 (upd (v 0) 10 1)) w t) _
  refine zk_T.br (f1 := (40, [(0, .ref 0), (1, .int x)], [])) (f2 := (38, [(0, .ref 0), (1, .int x)], [])) rfl (fun c4 => absurd (of_decide_eq_true c4) (by decide)) (fun c4 => ?_)
  refine zk_T.adv 1 (f' := (39, [(0, .ref 0), (1, .int x)], [.int (-1)])) (h' := zH (zb v 0 (upd (v 0) 10 1)) w t) rfl ?_
  exact zk_T.rt rfl rfl (by rfl)
/-- BasketKeep.fitAt -/
theorem zK_fitAt_f (x : Int32) (hst : v 0 2 = 1) (hx : ¬ x < 0) (hb : x < zr_bc (v 57 3)) : zk_Cr zk_mt zk_ex Ls xs 136 [.ref 0, .int x] (zH v w t) (some (.int (zr_fitSet (v 57 3) x)), zH (zb v 0 (upd (v 0) 10 0)) w t) := by
  refine zk_Cr.of (K := zm_136) rfl rfl rfl ?_
  show zk_T zk_mt zk_ex Ls xs zm_136 (0, [(0, .ref 0), (1, .int x)], []) (zH v w t) _
  refine zk_T.adv 1 (f' := (1, [(0, .ref 0), (1, .int x)], [.ref 0])) (h' := zH v w t) rfl ?_
  refine zk_T.cl (v := some (.int 0)) (h' := zH (zb v 0 (upd (v 0) 10 0)) w t) rfl (zs_noLevel_f (v := v) hst) ?_
  show zk_T zk_mt zk_ex Ls xs zm_136 (4, [(0, .ref 0), (1, .int x)], [.int 0]) (zH (zb v 0 (upd (v 0) 10 0)) w t) _
  refine zk_T.br (f1 := (7, [(0, .ref 0), (1, .int x)], [])) (f2 := (38, [(0, .ref 0), (1, .int x)], [])) rfl (fun c1 => ?_) (fun c1 => absurd (by decide) (of_decide_eq_false c1))
  refine zk_T.adv 2 (f' := (9, [(0, .ref 0), (1, .int x)], [.int x, .ref 0])) (h' := zH (zb v 0 (upd (v 0) 10 0)) w t) rfl ?_
  refine zk_T.br (f1 := (26, [(0, .ref 0), (1, .int x)], [.ref 0])) (f2 := (12, [(0, .ref 0), (1, .int x)], [.ref 0])) rfl (fun c2 => absurd (of_decide_eq_true c2) hx) (fun c2 => ?_)
  refine zk_T.adv 4 (f' := (20, [(0, .ref 0), (1, .int x)], [.int (v 57 3), .int x, .ref 0])) (h' := zH (zb v 0 (upd (v 0) 10 0)) w t) rfl ?_
  refine zk_T.cl (v := some (.int (zr_bc (v 57 3)))) (h' := zH (zb v 0 (upd (v 0) 10 0)) w t) rfl (zs_bc (v 57 3)) ?_
  show zk_T zk_mt zk_ex Ls xs zm_136 (23, [(0, .ref 0), (1, .int x)], [.int (zr_bc (v 57 3)), .int x, .ref 0]) (zH (zb v 0 (upd (v 0) 10 0)) w t) _
  refine zk_T.br (f1 := (30, [(0, .ref 0), (1, .int x)], [.ref 0])) (f2 := (26, [(0, .ref 0), (1, .int x)], [.ref 0])) rfl (fun c3 => ?_) (fun c3 => absurd hb (of_decide_eq_false c3))
  refine zk_T.adv 2 (f' := (32, [(0, .ref 0), (1, .int x)], [.int 1, .int 0, .ref 0])) (h' := zH (zb v 0 (upd (v 0) 10 0)) w t) rfl ?_
  refine zk_T.cl (v := some (.int 0)) (h' := zH (zb v 0 (upd (v 0) 10 0)) w t) rfl (zs_ref0 1) ?_
  show zk_T zk_mt zk_ex Ls xs zm_136 (35, [(0, .ref 0), (1, .int x)], [.int 0]) (zH (zb v 0 (upd (v 0) 10 0)) w t) _
  refine zk_T.br (f1 := (40, [(0, .ref 0), (1, .int x)], [])) (f2 := (38, [(0, .ref 0), (1, .int x)], [])) rfl (fun c4 => ?_) (fun c4 => absurd (by decide) (of_decide_eq_false c4))
  refine zk_T.adv 3 (f' := (45, [(0, .ref 0), (1, .int x)], [.int x, .ref 57])) (h' := zH (zb v 0 (upd (v 0) 10 0)) w t) rfl ?_
  refine zk_T.cl (v := some (.int (zr_fitSet (v 57 3) x))) (h' := zH (zb v 0 (upd (v 0) 10 0)) w t) rfl (zs_fitSet (v := (zb v 0 (upd (v 0) 10 0))) x) ?_
  show zk_T zk_mt zk_ex Ls xs zm_136 (48, [(0, .ref 0), (1, .int x)], [.int (zr_fitSet (v 57 3) x)]) (zH (zb v 0 (upd (v 0) 10 0)) w t) _
  exact zk_T.rt rfl rfl (by rfl)
def zl_cwG (k : Int32) (j : Nat) (s : Int64 × Int64) : Int64 × Int64 := match s with
  | (al, un) => (un, (al * ((k - 1 : Int32).toInt64)) + (un * ((k - 2 : Int32).toInt64)))
theorem zl_cw (n : Nat) (hn2 : 2 ≤ n) (hn : n ≤ 18) (k : Int32) : ∀ (s : Int64 × Int64) (q : Option Value × zk_H), zk_T zk_mt zk_ex Ls xs zm_3 ((fun (s : Int64 × Int64) => ((43, [(0, .int (nI n)), (1, .int k), (2, .long s.1), (4, .long s.2), (6, .int (nI (2 + (n - 1))))], []) : zk_F)) (zf (zl_cwG k) (n - 1) 2 s)) ((fun (s : Int64 × Int64) => zH v w t) (zf (zl_cwG k) (n - 1) 2 s)) q → zk_T zk_mt zk_ex Ls xs zm_3 (8, [(0, .int (nI n)), (1, .int k), (2, .long s.1), (4, .long s.2), (6, .int (nI 2))], []) (zH v w t) q := by
  intro s q hk
  refine zk_forK (M := zm_3) (fun j (s : Int64 × Int64) => (8, [(0, .int (nI n)), (1, .int k), (2, .long s.1), (4, .long s.2), (6, .int (nI j))], [])) (fun _ (s : Int64 × Int64) => zH v w t) (zl_cwG k) (fun _ _ => True) (fun (s : Int64 × Int64) => (43, [(0, .int (nI n)), (1, .int k), (2, .long s.1), (4, .long s.2), (6, .int (nI (2 + (n - 1))))], [])) (fun (s : Int64 × Int64) => zH v w t) ((n - 1)) 2 s (fun _ _ _ _ _ => trivial) (fun j s hj1 hj2 hp q hk => ?_) (fun s hp q hk => ?_) ?_ q hk
  · obtain ⟨al, un⟩ := s
    show zk_T zk_mt zk_ex Ls xs zm_3 (8, [(0, .int (nI n)), (1, .int k), (2, .long al), (4, .long un), (6, .int (nI j))], []) (zH v w t) q
    refine zk_T.adv 2 (f' := (11, [(0, .int (nI n)), (1, .int k), (2, .long al), (4, .long un), (6, .int (nI j))], [.int (nI n), .int (nI j)])) (h' := zH v w t) rfl ?_
    refine zk_T.br (f1 := (43, [(0, .int (nI n)), (1, .int k), (2, .long al), (4, .long un), (6, .int (nI j))], [])) (f2 := (14, [(0, .int (nI n)), (1, .int k), (2, .long al), (4, .long un), (6, .int (nI j))], [])) rfl (fun c1 => absurd (of_decide_eq_true c1) (nI_nlt (show j ≤ n by omega) (by omega))) (fun c1 => ?_)
    refine zk_T.adv 20 (f' := (8, [(0, .int (nI n)), (1, .int k), (2, .long un), (4, .long ((al * ((k - 1 : Int32).toInt64)) + (un * ((k - 2 : Int32).toInt64)))), (6, .int ((nI j) + 1))], [])) (h' := zH v w t) rfl ?_
    rw [nI_1]
    simp only [zl_cwG] at hk
    exact hk
  · obtain ⟨al, un⟩ := s
    show zk_T zk_mt zk_ex Ls xs zm_3 (8, [(0, .int (nI n)), (1, .int k), (2, .long al), (4, .long un), (6, .int (nI (2 + (n - 1))))], []) (zH v w t) q
    refine zk_T.adv 2 (f' := (11, [(0, .int (nI n)), (1, .int k), (2, .long al), (4, .long un), (6, .int (nI (2 + (n - 1))))], [.int (nI n), .int (nI (2 + (n - 1)))])) (h' := zH v w t) rfl ?_
    refine zk_T.br (f1 := (43, [(0, .int (nI n)), (1, .int k), (2, .long al), (4, .long un), (6, .int (nI (2 + (n - 1))))], [])) (f2 := (14, [(0, .int (nI n)), (1, .int k), (2, .long al), (4, .long un), (6, .int (nI (2 + (n - 1))))], [])) rfl (fun c1 => ?_) (fun c1 => absurd (nI_lt (show n < 2 + (n - 1) by omega) (by omega)) (of_decide_eq_false c1))
    exact hk
  · exact trivial
def zr_cw (n : Nat) (k : Int32) : Int64 := ((zf (zl_cwG k) (n - 1) 2 (1, 0)).2)
/-- BasketKeep.countWeavesFromOne -/
theorem zs_cw (n : Nat) (hn2 : 2 ≤ n) (hn : n ≤ 18) (k : Int32) : zk_Cr zk_mt zk_ex Ls xs 3 [.int (nI n), .int k] (zH v w t) (some (.long (zr_cw n k)), zH v w t) := by
  refine zk_Cr.of (K := zm_3) rfl rfl rfl ?_
  show zk_T zk_mt zk_ex Ls xs zm_3 (0, [(0, .int (nI n)), (1, .int k)], []) (zH v w t) _
  refine zk_T.adv 6 (f' := (8, [(0, .int (nI n)), (1, .int k), (2, .long 1), (4, .long 0), (6, .int 2)], [])) (h' := zH v w t) rfl ?_
  refine zl_cw n hn2 hn k (1, 0) _ ?_
  show zk_T zk_mt zk_ex Ls xs zm_3 (43, [(0, .int (nI n)), (1, .int k), (2, .long ((zf (zl_cwG k) (n - 1) 2 (1, 0)).1)), (4, .long ((zf (zl_cwG k) (n - 1) 2 (1, 0)).2)), (6, .int (nI (2 + (n - 1))))], []) (zH v w t) _
  refine zk_T.adv 1 (f' := (45, [(0, .int (nI n)), (1, .int k), (2, .long ((zf (zl_cwG k) (n - 1) 2 (1, 0)).1)), (4, .long ((zf (zl_cwG k) (n - 1) 2 (1, 0)).2)), (6, .int (nI (2 + (n - 1))))], [.long ((zf (zl_cwG k) (n - 1) 2 (1, 0)).2)])) (h' := zH v w t) rfl ?_
  exact zk_T.rt rfl rfl (by rfl)
/-- BasketKeep.noWeave -/
theorem zs_noWeave_1 (x y : Int32) (ho : x < 2 ∨ 18 < x) : zk_Cr zk_mt zk_ex Ls xs 144 [.ref 0, .int x, .int y] (zH v w t) (some (.int 1), zH (zb v 0 (upd (v 0) 10 2)) w t) := by
  refine zk_Cr.of (K := zm_144) rfl rfl rfl ?_
  show zk_T zk_mt zk_ex Ls xs zm_144 (0, [(0, .ref 0), (1, .int x), (2, .int y)], []) (zH v w t) _
  refine zk_T.adv 4 (f' := (5, [(0, .ref 0), (1, .int x), (2, .int y)], [.int 18, .int 2, .int x, .ref 0])) (h' := zH v w t) rfl ?_
  refine zk_T.cl (v := some (.int 1)) (h' := zH (zb v 0 (upd (v 0) 10 2)) w t) rfl (zs_outside_t x 2 18 ho) ?_
  show zk_T zk_mt zk_ex Ls xs zm_144 (8, [(0, .ref 0), (1, .int x), (2, .int y)], [.int 1]) (zH (zb v 0 (upd (v 0) 10 2)) w t) _
  refine zk_T.br (f1 := (11, [(0, .ref 0), (1, .int x), (2, .int y)], [])) (f2 := (22, [(0, .ref 0), (1, .int x), (2, .int y)], [])) rfl (fun c1 => absurd (of_decide_eq_true c1) (by decide)) (fun c1 => ?_)
  refine zk_T.adv 2 (f' := (27, [(0, .ref 0), (1, .int x), (2, .int y)], [.int 1])) (h' := zH (zb v 0 (upd (v 0) 10 2)) w t) rfl ?_
  exact zk_T.rt rfl rfl (by rfl)
/-- BasketKeep.noWeave -/
theorem zs_noWeave_2 (n : Nat) (hn2 : 2 ≤ n) (hn : n ≤ 18) (y : Int32) (ho : y < 1 ∨ 9 < y) : zk_Cr zk_mt zk_ex Ls xs 144 [.ref 0, .int (nI n), .int y] (zH v w t) (some (.int 1), zH (zb v 0 (upd (v 0) 10 2)) w t) := by
  refine zk_Cr.of (K := zm_144) rfl rfl rfl ?_
  show zk_T zk_mt zk_ex Ls xs zm_144 (0, [(0, .ref 0), (1, .int (nI n)), (2, .int y)], []) (zH v w t) _
  refine zk_T.adv 4 (f' := (5, [(0, .ref 0), (1, .int (nI n)), (2, .int y)], [.int 18, .int 2, .int (nI n), .ref 0])) (h' := zH v w t) rfl ?_
  refine zk_T.cl (v := some (.int 0)) (h' := zH (zb v 0 (upd (v 0) 10 0)) w t) rfl (zs_outside_f (nI n) 2 18 (nI_nlt (show 2 ≤ n by omega) (by omega)) (show nI n ≤ nI 18 from nI_le (by omega) (by decide))) ?_
  show zk_T zk_mt zk_ex Ls xs zm_144 (8, [(0, .ref 0), (1, .int (nI n)), (2, .int y)], [.int 0]) (zH (zb v 0 (upd (v 0) 10 0)) w t) _
  refine zk_T.br (f1 := (11, [(0, .ref 0), (1, .int (nI n)), (2, .int y)], [])) (f2 := (22, [(0, .ref 0), (1, .int (nI n)), (2, .int y)], [])) rfl (fun c1 => ?_) (fun c1 => absurd (by decide) (of_decide_eq_false c1))
  refine zk_T.adv 4 (f' := (16, [(0, .ref 0), (1, .int (nI n)), (2, .int y)], [.int 9, .int 1, .int y, .ref 0])) (h' := zH (zb v 0 (upd (v 0) 10 0)) w t) rfl ?_
  refine zk_T.cl (v := some (.int 1)) (h' := zH (zb v 0 (upd (v 0) 10 2)) w t) rfl (zs_outside_t y 1 9 ho) ?_
  show zk_T zk_mt zk_ex Ls xs zm_144 (19, [(0, .ref 0), (1, .int (nI n)), (2, .int y)], [.int 1]) (zH (zb v 0 (upd (v 0) 10 2)) w t) _
  refine zk_T.br (f1 := (26, [(0, .ref 0), (1, .int (nI n)), (2, .int y)], [])) (f2 := (22, [(0, .ref 0), (1, .int (nI n)), (2, .int y)], [])) rfl (fun c2 => absurd (of_decide_eq_true c2) (by decide)) (fun c2 => ?_)
  refine zk_T.adv 2 (f' := (27, [(0, .ref 0), (1, .int (nI n)), (2, .int y)], [.int 1])) (h' := zH (zb v 0 (upd (v 0) 10 2)) w t) rfl ?_
  exact zk_T.rt rfl rfl (by rfl)
/-- BasketKeep.noWeave -/
theorem zs_noWeave_f (n : Nat) (hn2 : 2 ≤ n) (hn : n ≤ 18) (k : Nat) (hk1 : 1 ≤ k) (hk9 : k ≤ 9) : zk_Cr zk_mt zk_ex Ls xs 144 [.ref 0, .int (nI n), .int (nI k)] (zH v w t) (some (.int 0), zH (zb v 0 (upd (v 0) 10 0)) w t) := by
  refine zk_Cr.of (K := zm_144) rfl rfl rfl ?_
  show zk_T zk_mt zk_ex Ls xs zm_144 (0, [(0, .ref 0), (1, .int (nI n)), (2, .int (nI k))], []) (zH v w t) _
  refine zk_T.adv 4 (f' := (5, [(0, .ref 0), (1, .int (nI n)), (2, .int (nI k))], [.int 18, .int 2, .int (nI n), .ref 0])) (h' := zH v w t) rfl ?_
  refine zk_T.cl (v := some (.int 0)) (h' := zH (zb v 0 (upd (v 0) 10 0)) w t) rfl (zs_outside_f (nI n) 2 18 (nI_nlt (show 2 ≤ n by omega) (by omega)) (show nI n ≤ nI 18 from nI_le (by omega) (by decide))) ?_
  show zk_T zk_mt zk_ex Ls xs zm_144 (8, [(0, .ref 0), (1, .int (nI n)), (2, .int (nI k))], [.int 0]) (zH (zb v 0 (upd (v 0) 10 0)) w t) _
  refine zk_T.br (f1 := (11, [(0, .ref 0), (1, .int (nI n)), (2, .int (nI k))], [])) (f2 := (22, [(0, .ref 0), (1, .int (nI n)), (2, .int (nI k))], [])) rfl (fun c1 => ?_) (fun c1 => absurd (by decide) (of_decide_eq_false c1))
  refine zk_T.adv 4 (f' := (16, [(0, .ref 0), (1, .int (nI n)), (2, .int (nI k))], [.int 9, .int 1, .int (nI k), .ref 0])) (h' := zH (zb v 0 (upd (v 0) 10 0)) w t) rfl ?_
  refine zk_T.cl (v := some (.int 0)) (h' := zH (zb v 0 (upd (v 0) 10 0)) w t) rfl (zs_outside_f (nI k) 1 9 (nI_nlt (show 1 ≤ k by omega) (by omega)) (show nI k ≤ nI 9 from nI_le (by omega) (by decide))) ?_
  show zk_T zk_mt zk_ex Ls xs zm_144 (19, [(0, .ref 0), (1, .int (nI n)), (2, .int (nI k))], [.int 0]) (zH (zb v 0 (upd (v 0) 10 0)) w t) _
  refine zk_T.br (f1 := (26, [(0, .ref 0), (1, .int (nI n)), (2, .int (nI k))], [])) (f2 := (22, [(0, .ref 0), (1, .int (nI n)), (2, .int (nI k))], [])) rfl (fun c2 => ?_) (fun c2 => absurd (by decide) (of_decide_eq_false c2))
  refine zk_T.adv 1 (f' := (27, [(0, .ref 0), (1, .int (nI n)), (2, .int (nI k))], [.int 0])) (h' := zH (zb v 0 (upd (v 0) 10 0)) w t) rfl ?_
  exact zk_T.rt rfl rfl (by rfl)
/-- BasketKeep.weaves -/
theorem zK_weaves_t (x y : Int32) (hst : v 0 2 = 0) : zk_Cr zk_mt zk_ex Ls xs 198 [.ref 0, .int x, .int y] (zH v w t) (some (.long ((-1 : Int32).toInt64)), zH (zb v 0 (upd (v 0) 10 1)) w t) := by
  refine zk_Cr.of (K := zm_198) rfl rfl rfl ?_
  show zk_T zk_mt zk_ex Ls xs zm_198 (0, [(0, .ref 0), (1, .int x), (2, .int y)], []) (zH v w t) _
  refine zk_T.adv 1 (f' := (1, [(0, .ref 0), (1, .int x), (2, .int y)], [.ref 0])) (h' := zH v w t) rfl ?_
  refine zk_T.cl (v := some (.int 1)) (h' := zH (zb v 0 (upd (v 0) 10 1)) w t) rfl (zs_noLevel_t (v := v) hst) ?_
  show zk_T zk_mt zk_ex Ls xs zm_198 (4, [(0, .ref 0), (1, .int x), (2, .int y)], [.int 1]) (zH (zb v 0 (upd (v 0) 10 1)) w t) _
  refine zk_T.br (f1 := (7, [(0, .ref 0), (1, .int x), (2, .int y)], [])) (f2 := (16, [(0, .ref 0), (1, .int x), (2, .int y)], [])) rfl (fun c1 => absurd (of_decide_eq_true c1) (by decide)) (fun c1 => ?_)
  refine zk_T.adv 2 (f' := (30, [(0, .ref 0), (1, .int x), (2, .int y)], [.long ((-1 : Int32).toInt64)])) (h' := zH (zb v 0 (upd (v 0) 10 1)) w t) rfl ?_
  exact zk_T.rt rfl rfl (by rfl)
/-- BasketKeep.weaves -/
theorem zK_weaves_o (x y : Int32) (hst : v 0 2 = 1) (ho : x < 2 ∨ 18 < x) : zk_Cr zk_mt zk_ex Ls xs 198 [.ref 0, .int x, .int y] (zH v w t) (some (.long ((-1 : Int32).toInt64)), zH (zb v 0 (upd (v 0) 10 2)) w t) := by
  refine zk_Cr.of (K := zm_198) rfl rfl rfl ?_
  show zk_T zk_mt zk_ex Ls xs zm_198 (0, [(0, .ref 0), (1, .int x), (2, .int y)], []) (zH v w t) _
  refine zk_T.adv 1 (f' := (1, [(0, .ref 0), (1, .int x), (2, .int y)], [.ref 0])) (h' := zH v w t) rfl ?_
  refine zk_T.cl (v := some (.int 0)) (h' := zH (zb v 0 (upd (v 0) 10 0)) w t) rfl (zs_noLevel_f (v := v) hst) ?_
  show zk_T zk_mt zk_ex Ls xs zm_198 (4, [(0, .ref 0), (1, .int x), (2, .int y)], [.int 0]) (zH (zb v 0 (upd (v 0) 10 0)) w t) _
  refine zk_T.br (f1 := (7, [(0, .ref 0), (1, .int x), (2, .int y)], [])) (f2 := (16, [(0, .ref 0), (1, .int x), (2, .int y)], [])) rfl (fun c1 => ?_) (fun c1 => absurd (by decide) (of_decide_eq_false c1))
  refine zk_T.adv 3 (f' := (10, [(0, .ref 0), (1, .int x), (2, .int y)], [.int y, .int x, .ref 0])) (h' := zH (zb v 0 (upd (v 0) 10 0)) w t) rfl ?_
  refine zk_T.cl (v := some (.int 1)) (h' := zH (zb v 0 (upd (v 0) 10 2)) w t) rfl (zs_noWeave_1 x y ho) ?_
  show zk_T zk_mt zk_ex Ls xs zm_198 (13, [(0, .ref 0), (1, .int x), (2, .int y)], [.int 1]) (zH (zb v 0 (upd (v 0) 10 2)) w t) _
  refine zk_T.br (f1 := (22, [(0, .ref 0), (1, .int x), (2, .int y)], [])) (f2 := (16, [(0, .ref 0), (1, .int x), (2, .int y)], [])) rfl (fun c2 => absurd (of_decide_eq_true c2) (by decide)) (fun c2 => ?_)
  refine zk_T.adv 2 (f' := (30, [(0, .ref 0), (1, .int x), (2, .int y)], [.long ((-1 : Int32).toInt64)])) (h' := zH (zb v 0 (upd (v 0) 10 2)) w t) rfl ?_
  exact zk_T.rt rfl rfl (by rfl)
/-- BasketKeep.weaves -/
theorem zK_weaves_p (n : Nat) (hn2 : 2 ≤ n) (hn : n ≤ 18) (y : Int32) (hst : v 0 2 = 1) (ho : y < 1 ∨ 9 < y) : zk_Cr zk_mt zk_ex Ls xs 198 [.ref 0, .int (nI n), .int y] (zH v w t) (some (.long ((-1 : Int32).toInt64)), zH (zb v 0 (upd (v 0) 10 2)) w t) := by
  refine zk_Cr.of (K := zm_198) rfl rfl rfl ?_
  show zk_T zk_mt zk_ex Ls xs zm_198 (0, [(0, .ref 0), (1, .int (nI n)), (2, .int y)], []) (zH v w t) _
  refine zk_T.adv 1 (f' := (1, [(0, .ref 0), (1, .int (nI n)), (2, .int y)], [.ref 0])) (h' := zH v w t) rfl ?_
  refine zk_T.cl (v := some (.int 0)) (h' := zH (zb v 0 (upd (v 0) 10 0)) w t) rfl (zs_noLevel_f (v := v) hst) ?_
  show zk_T zk_mt zk_ex Ls xs zm_198 (4, [(0, .ref 0), (1, .int (nI n)), (2, .int y)], [.int 0]) (zH (zb v 0 (upd (v 0) 10 0)) w t) _
  refine zk_T.br (f1 := (7, [(0, .ref 0), (1, .int (nI n)), (2, .int y)], [])) (f2 := (16, [(0, .ref 0), (1, .int (nI n)), (2, .int y)], [])) rfl (fun c1 => ?_) (fun c1 => absurd (by decide) (of_decide_eq_false c1))
  refine zk_T.adv 3 (f' := (10, [(0, .ref 0), (1, .int (nI n)), (2, .int y)], [.int y, .int (nI n), .ref 0])) (h' := zH (zb v 0 (upd (v 0) 10 0)) w t) rfl ?_
  refine zk_T.cl (v := some (.int 1)) (h' := zH (zb v 0 (upd (v 0) 10 2)) w t) rfl (zs_noWeave_2 n hn2 hn y ho) ?_
  show zk_T zk_mt zk_ex Ls xs zm_198 (13, [(0, .ref 0), (1, .int (nI n)), (2, .int y)], [.int 1]) (zH (zb v 0 (upd (v 0) 10 2)) w t) _
  refine zk_T.br (f1 := (22, [(0, .ref 0), (1, .int (nI n)), (2, .int y)], [])) (f2 := (16, [(0, .ref 0), (1, .int (nI n)), (2, .int y)], [])) rfl (fun c2 => absurd (of_decide_eq_true c2) (by decide)) (fun c2 => ?_)
  refine zk_T.adv 2 (f' := (30, [(0, .ref 0), (1, .int (nI n)), (2, .int y)], [.long ((-1 : Int32).toInt64)])) (h' := zH (zb v 0 (upd (v 0) 10 2)) w t) rfl ?_
  exact zk_T.rt rfl rfl (by rfl)
/-- BasketKeep.weaves -/
theorem zK_weaves_f (n : Nat) (hn2 : 2 ≤ n) (hn : n ≤ 18) (k : Nat) (hk1 : 1 ≤ k) (hk9 : k ≤ 9) (hst : v 0 2 = 1) : zk_Cr zk_mt zk_ex Ls xs 198 [.ref 0, .int (nI n), .int (nI k)] (zH v w t) (some (.long (((nI k : Int32).toInt64) * (zr_cw n (nI k)))), zH (zb v 0 (upd (v 0) 10 0)) w t) := by
  refine zk_Cr.of (K := zm_198) rfl rfl rfl ?_
  show zk_T zk_mt zk_ex Ls xs zm_198 (0, [(0, .ref 0), (1, .int (nI n)), (2, .int (nI k))], []) (zH v w t) _
  refine zk_T.adv 1 (f' := (1, [(0, .ref 0), (1, .int (nI n)), (2, .int (nI k))], [.ref 0])) (h' := zH v w t) rfl ?_
  refine zk_T.cl (v := some (.int 0)) (h' := zH (zb v 0 (upd (v 0) 10 0)) w t) rfl (zs_noLevel_f (v := v) hst) ?_
  show zk_T zk_mt zk_ex Ls xs zm_198 (4, [(0, .ref 0), (1, .int (nI n)), (2, .int (nI k))], [.int 0]) (zH (zb v 0 (upd (v 0) 10 0)) w t) _
  refine zk_T.br (f1 := (7, [(0, .ref 0), (1, .int (nI n)), (2, .int (nI k))], [])) (f2 := (16, [(0, .ref 0), (1, .int (nI n)), (2, .int (nI k))], [])) rfl (fun c1 => ?_) (fun c1 => absurd (by decide) (of_decide_eq_false c1))
  refine zk_T.adv 3 (f' := (10, [(0, .ref 0), (1, .int (nI n)), (2, .int (nI k))], [.int (nI k), .int (nI n), .ref 0])) (h' := zH (zb v 0 (upd (v 0) 10 0)) w t) rfl ?_
  refine zk_T.cl (v := some (.int 0)) (h' := zH (zb v 0 (upd (v 0) 10 0)) w t) rfl (zs_noWeave_f n hn2 hn k hk1 hk9) ?_
  show zk_T zk_mt zk_ex Ls xs zm_198 (13, [(0, .ref 0), (1, .int (nI n)), (2, .int (nI k))], [.int 0]) (zH (zb v 0 (upd (v 0) 10 0)) w t) _
  refine zk_T.br (f1 := (22, [(0, .ref 0), (1, .int (nI n)), (2, .int (nI k))], [])) (f2 := (16, [(0, .ref 0), (1, .int (nI n)), (2, .int (nI k))], [])) rfl (fun c2 => ?_) (fun c2 => absurd (by decide) (of_decide_eq_false c2))
  refine zk_T.adv 4 (f' := (26, [(0, .ref 0), (1, .int (nI n)), (2, .int (nI k))], [.int (nI k), .int (nI n), .long ((nI k : Int32).toInt64)])) (h' := zH (zb v 0 (upd (v 0) 10 0)) w t) rfl ?_
  refine zk_T.cl (v := some (.long (zr_cw n (nI k)))) (h' := zH (zb v 0 (upd (v 0) 10 0)) w t) rfl (zs_cw n (by omega) (by omega) (nI k)) ?_
  show zk_T zk_mt zk_ex Ls xs zm_198 (29, [(0, .ref 0), (1, .int (nI n)), (2, .int (nI k))], [.long (zr_cw n (nI k)), .long ((nI k : Int32).toInt64)]) (zH (zb v 0 (upd (v 0) 10 0)) w t) _
  refine zk_T.adv 1 (f' := (30, [(0, .ref 0), (1, .int (nI n)), (2, .int (nI k))], [.long (((nI k : Int32).toInt64) * (zr_cw n (nI k)))])) (h' := zH (zb v 0 (upd (v 0) 10 0)) w t) rfl ?_
  exact zk_T.rt rfl rfl (by rfl)
/-- BasketKeep.weavesFrom -/
theorem zK_weavesFrom_t (x y : Int32) (hst : v 0 2 = 0) : zk_Cr zk_mt zk_ex Ls xs 199 [.ref 0, .int x, .int y] (zH v w t) (some (.long ((-1 : Int32).toInt64)), zH (zb v 0 (upd (v 0) 10 1)) w t) := by
  refine zk_Cr.of (K := zm_199) rfl rfl rfl ?_
  show zk_T zk_mt zk_ex Ls xs zm_199 (0, [(0, .ref 0), (1, .int x), (2, .int y)], []) (zH v w t) _
  refine zk_T.adv 1 (f' := (1, [(0, .ref 0), (1, .int x), (2, .int y)], [.ref 0])) (h' := zH v w t) rfl ?_
  refine zk_T.cl (v := some (.int 1)) (h' := zH (zb v 0 (upd (v 0) 10 1)) w t) rfl (zs_noLevel_t (v := v) hst) ?_
  show zk_T zk_mt zk_ex Ls xs zm_199 (4, [(0, .ref 0), (1, .int x), (2, .int y)], [.int 1]) (zH (zb v 0 (upd (v 0) 10 1)) w t) _
  refine zk_T.br (f1 := (7, [(0, .ref 0), (1, .int x), (2, .int y)], [])) (f2 := (16, [(0, .ref 0), (1, .int x), (2, .int y)], [])) rfl (fun c1 => absurd (of_decide_eq_true c1) (by decide)) (fun c1 => ?_)
  refine zk_T.adv 2 (f' := (27, [(0, .ref 0), (1, .int x), (2, .int y)], [.long ((-1 : Int32).toInt64)])) (h' := zH (zb v 0 (upd (v 0) 10 1)) w t) rfl ?_
  exact zk_T.rt rfl rfl (by rfl)
/-- BasketKeep.weavesFrom -/
theorem zK_weavesFrom_o (x y : Int32) (hst : v 0 2 = 1) (ho : x < 2 ∨ 18 < x) : zk_Cr zk_mt zk_ex Ls xs 199 [.ref 0, .int x, .int y] (zH v w t) (some (.long ((-1 : Int32).toInt64)), zH (zb v 0 (upd (v 0) 10 2)) w t) := by
  refine zk_Cr.of (K := zm_199) rfl rfl rfl ?_
  show zk_T zk_mt zk_ex Ls xs zm_199 (0, [(0, .ref 0), (1, .int x), (2, .int y)], []) (zH v w t) _
  refine zk_T.adv 1 (f' := (1, [(0, .ref 0), (1, .int x), (2, .int y)], [.ref 0])) (h' := zH v w t) rfl ?_
  refine zk_T.cl (v := some (.int 0)) (h' := zH (zb v 0 (upd (v 0) 10 0)) w t) rfl (zs_noLevel_f (v := v) hst) ?_
  show zk_T zk_mt zk_ex Ls xs zm_199 (4, [(0, .ref 0), (1, .int x), (2, .int y)], [.int 0]) (zH (zb v 0 (upd (v 0) 10 0)) w t) _
  refine zk_T.br (f1 := (7, [(0, .ref 0), (1, .int x), (2, .int y)], [])) (f2 := (16, [(0, .ref 0), (1, .int x), (2, .int y)], [])) rfl (fun c1 => ?_) (fun c1 => absurd (by decide) (of_decide_eq_false c1))
  refine zk_T.adv 3 (f' := (10, [(0, .ref 0), (1, .int x), (2, .int y)], [.int y, .int x, .ref 0])) (h' := zH (zb v 0 (upd (v 0) 10 0)) w t) rfl ?_
  refine zk_T.cl (v := some (.int 1)) (h' := zH (zb v 0 (upd (v 0) 10 2)) w t) rfl (zs_noWeave_1 x y ho) ?_
  show zk_T zk_mt zk_ex Ls xs zm_199 (13, [(0, .ref 0), (1, .int x), (2, .int y)], [.int 1]) (zH (zb v 0 (upd (v 0) 10 2)) w t) _
  refine zk_T.br (f1 := (22, [(0, .ref 0), (1, .int x), (2, .int y)], [])) (f2 := (16, [(0, .ref 0), (1, .int x), (2, .int y)], [])) rfl (fun c2 => absurd (of_decide_eq_true c2) (by decide)) (fun c2 => ?_)
  refine zk_T.adv 2 (f' := (27, [(0, .ref 0), (1, .int x), (2, .int y)], [.long ((-1 : Int32).toInt64)])) (h' := zH (zb v 0 (upd (v 0) 10 2)) w t) rfl ?_
  exact zk_T.rt rfl rfl (by rfl)
/-- BasketKeep.weavesFrom -/
theorem zK_weavesFrom_p (n : Nat) (hn2 : 2 ≤ n) (hn : n ≤ 18) (y : Int32) (hst : v 0 2 = 1) (ho : y < 1 ∨ 9 < y) : zk_Cr zk_mt zk_ex Ls xs 199 [.ref 0, .int (nI n), .int y] (zH v w t) (some (.long ((-1 : Int32).toInt64)), zH (zb v 0 (upd (v 0) 10 2)) w t) := by
  refine zk_Cr.of (K := zm_199) rfl rfl rfl ?_
  show zk_T zk_mt zk_ex Ls xs zm_199 (0, [(0, .ref 0), (1, .int (nI n)), (2, .int y)], []) (zH v w t) _
  refine zk_T.adv 1 (f' := (1, [(0, .ref 0), (1, .int (nI n)), (2, .int y)], [.ref 0])) (h' := zH v w t) rfl ?_
  refine zk_T.cl (v := some (.int 0)) (h' := zH (zb v 0 (upd (v 0) 10 0)) w t) rfl (zs_noLevel_f (v := v) hst) ?_
  show zk_T zk_mt zk_ex Ls xs zm_199 (4, [(0, .ref 0), (1, .int (nI n)), (2, .int y)], [.int 0]) (zH (zb v 0 (upd (v 0) 10 0)) w t) _
  refine zk_T.br (f1 := (7, [(0, .ref 0), (1, .int (nI n)), (2, .int y)], [])) (f2 := (16, [(0, .ref 0), (1, .int (nI n)), (2, .int y)], [])) rfl (fun c1 => ?_) (fun c1 => absurd (by decide) (of_decide_eq_false c1))
  refine zk_T.adv 3 (f' := (10, [(0, .ref 0), (1, .int (nI n)), (2, .int y)], [.int y, .int (nI n), .ref 0])) (h' := zH (zb v 0 (upd (v 0) 10 0)) w t) rfl ?_
  refine zk_T.cl (v := some (.int 1)) (h' := zH (zb v 0 (upd (v 0) 10 2)) w t) rfl (zs_noWeave_2 n hn2 hn y ho) ?_
  show zk_T zk_mt zk_ex Ls xs zm_199 (13, [(0, .ref 0), (1, .int (nI n)), (2, .int y)], [.int 1]) (zH (zb v 0 (upd (v 0) 10 2)) w t) _
  refine zk_T.br (f1 := (22, [(0, .ref 0), (1, .int (nI n)), (2, .int y)], [])) (f2 := (16, [(0, .ref 0), (1, .int (nI n)), (2, .int y)], [])) rfl (fun c2 => absurd (of_decide_eq_true c2) (by decide)) (fun c2 => ?_)
  refine zk_T.adv 2 (f' := (27, [(0, .ref 0), (1, .int (nI n)), (2, .int y)], [.long ((-1 : Int32).toInt64)])) (h' := zH (zb v 0 (upd (v 0) 10 2)) w t) rfl ?_
  exact zk_T.rt rfl rfl (by rfl)
/-- BasketKeep.weavesFrom -/
theorem zK_weavesFrom_f (n : Nat) (hn2 : 2 ≤ n) (hn : n ≤ 18) (k : Nat) (hk1 : 1 ≤ k) (hk9 : k ≤ 9) (hst : v 0 2 = 1) : zk_Cr zk_mt zk_ex Ls xs 199 [.ref 0, .int (nI n), .int (nI k)] (zH v w t) (some (.long (zr_cw n (nI k))), zH (zb v 0 (upd (v 0) 10 0)) w t) := by
  refine zk_Cr.of (K := zm_199) rfl rfl rfl ?_
  show zk_T zk_mt zk_ex Ls xs zm_199 (0, [(0, .ref 0), (1, .int (nI n)), (2, .int (nI k))], []) (zH v w t) _
  refine zk_T.adv 1 (f' := (1, [(0, .ref 0), (1, .int (nI n)), (2, .int (nI k))], [.ref 0])) (h' := zH v w t) rfl ?_
  refine zk_T.cl (v := some (.int 0)) (h' := zH (zb v 0 (upd (v 0) 10 0)) w t) rfl (zs_noLevel_f (v := v) hst) ?_
  show zk_T zk_mt zk_ex Ls xs zm_199 (4, [(0, .ref 0), (1, .int (nI n)), (2, .int (nI k))], [.int 0]) (zH (zb v 0 (upd (v 0) 10 0)) w t) _
  refine zk_T.br (f1 := (7, [(0, .ref 0), (1, .int (nI n)), (2, .int (nI k))], [])) (f2 := (16, [(0, .ref 0), (1, .int (nI n)), (2, .int (nI k))], [])) rfl (fun c1 => ?_) (fun c1 => absurd (by decide) (of_decide_eq_false c1))
  refine zk_T.adv 3 (f' := (10, [(0, .ref 0), (1, .int (nI n)), (2, .int (nI k))], [.int (nI k), .int (nI n), .ref 0])) (h' := zH (zb v 0 (upd (v 0) 10 0)) w t) rfl ?_
  refine zk_T.cl (v := some (.int 0)) (h' := zH (zb v 0 (upd (v 0) 10 0)) w t) rfl (zs_noWeave_f n hn2 hn k hk1 hk9) ?_
  show zk_T zk_mt zk_ex Ls xs zm_199 (13, [(0, .ref 0), (1, .int (nI n)), (2, .int (nI k))], [.int 0]) (zH (zb v 0 (upd (v 0) 10 0)) w t) _
  refine zk_T.br (f1 := (22, [(0, .ref 0), (1, .int (nI n)), (2, .int (nI k))], [])) (f2 := (16, [(0, .ref 0), (1, .int (nI n)), (2, .int (nI k))], [])) rfl (fun c2 => ?_) (fun c2 => absurd (by decide) (of_decide_eq_false c2))
  refine zk_T.adv 2 (f' := (24, [(0, .ref 0), (1, .int (nI n)), (2, .int (nI k))], [.int (nI k), .int (nI n)])) (h' := zH (zb v 0 (upd (v 0) 10 0)) w t) rfl ?_
  refine zk_T.cl (v := some (.long (zr_cw n (nI k)))) (h' := zH (zb v 0 (upd (v 0) 10 0)) w t) rfl (zs_cw n (by omega) (by omega) (nI k)) ?_
  show zk_T zk_mt zk_ex Ls xs zm_199 (27, [(0, .ref 0), (1, .int (nI n)), (2, .int (nI k))], [.long (zr_cw n (nI k))]) (zH (zb v 0 (upd (v 0) 10 0)) w t) _
  exact zk_T.rt rfl rfl (by rfl)
def zl_strokesG (k y : Int32) (j : Nat) (s : Unit) : (Unit) ⊕ Int32 := match s with
  | () => if (lg_cmp (((k : Int32).toInt64) * (zr_cw j k)) ((y : Int32).toInt64)) < 0 then .inl () else .inr (nI j)
theorem zl_strokes (k y : Int32) : ∀ (s : Unit) (q : Option Value × zk_H), zk_or (fun (s : Unit) => zk_T zk_mt zk_ex Ls xs zm_149 (62, [(1, .int k), (2, .int y), (3, .int (nI (2 + 17)))], []) (zH (zb v 0 (upd (v 0) 10 0)) w t) q) (fun (r : Int32) => (some (.int r), zH (zb v 0 (upd (v 0) 10 0)) w t) = q) (zfr (zl_strokesG k y) 17 2 s) → zk_T zk_mt zk_ex Ls xs zm_149 (34, [(1, .int k), (2, .int y), (3, .int (nI 2))], []) (zH (zb v 0 (upd (v 0) 10 0)) w t) q := by
  intro s q hk
  refine zk_forX (M := zm_149) (fun j (s : Unit) => (34, [(1, .int k), (2, .int y), (3, .int (nI j))], [])) (fun _ (s : Unit) => zH (zb v 0 (upd (v 0) 10 0)) w t) (zl_strokesG k y) (fun _ _ => True) (fun (s : Unit) => (62, [(1, .int k), (2, .int y), (3, .int (nI (2 + 17)))], [])) (fun (s : Unit) => zH (zb v 0 (upd (v 0) 10 0)) w t) (fun r q => (some (.int r), zH (zb v 0 (upd (v 0) 10 0)) w t) = q) (17) 2 s (fun _ _ _ _ _ _ _ => trivial) (fun j s hj1 hj2 hp q hk => ?_) (fun s hp q hk => ?_) ?_ q hk
  · have hz := True.intro
    show zk_T zk_mt zk_ex Ls xs zm_149 (34, [(1, .int k), (2, .int y), (3, .int (nI j))], []) (zH (zb v 0 (upd (v 0) 10 0)) w t) q
    refine zk_T.adv 2 (f' := (37, [(1, .int k), (2, .int y), (3, .int (nI j))], [.int 18, .int (nI j)])) (h' := zH (zb v 0 (upd (v 0) 10 0)) w t) rfl ?_
    refine zk_T.br (f1 := (62, [(1, .int k), (2, .int y), (3, .int (nI j))], [])) (f2 := (40, [(1, .int k), (2, .int y), (3, .int (nI j))], [])) rfl (fun c1 => absurd (of_decide_eq_true c1) (nI_nlt (show j ≤ 18 by omega) (by decide))) (fun c1 => ?_)
    refine zk_T.adv 4 (f' := (44, [(1, .int k), (2, .int y), (3, .int (nI j))], [.int k, .int (nI j), .long ((k : Int32).toInt64)])) (h' := zH (zb v 0 (upd (v 0) 10 0)) w t) rfl ?_
    refine zk_T.cl (v := some (.long (zr_cw j k))) (h' := zH (zb v 0 (upd (v 0) 10 0)) w t) rfl (zs_cw j (by omega) (by omega) k) ?_
    show zk_T zk_mt zk_ex Ls xs zm_149 (47, [(1, .int k), (2, .int y), (3, .int (nI j))], [.long (zr_cw j k), .long ((k : Int32).toInt64)]) (zH (zb v 0 (upd (v 0) 10 0)) w t) _
    refine zk_T.adv 4 (f' := (51, [(1, .int k), (2, .int y), (3, .int (nI j))], [.int (lg_cmp (((k : Int32).toInt64) * (zr_cw j k)) ((y : Int32).toInt64))])) (h' := zH (zb v 0 (upd (v 0) 10 0)) w t) rfl ?_
    refine zk_T.br (f1 := (56, [(1, .int k), (2, .int y), (3, .int (nI j))], [])) (f2 := (54, [(1, .int k), (2, .int y), (3, .int (nI j))], [])) rfl (fun c2 => ?_) (fun c2 => ?_)
    · have c2 : (lg_cmp (((k : Int32).toInt64) * (zr_cw j k)) ((y : Int32).toInt64)) < 0 := of_decide_eq_true c2
      refine zk_T.adv 2 (f' := (34, [(1, .int k), (2, .int y), (3, .int ((nI j) + 1))], [])) (h' := zH (zb v 0 (upd (v 0) 10 0)) w t) rfl ?_
      rw [nI_1]
      simp only [zl_strokesG, zk_or, if_pos c2] at hk
      exact hk
    · have c2 : ¬ ((lg_cmp (((k : Int32).toInt64) * (zr_cw j k)) ((y : Int32).toInt64)) < 0) := of_decide_eq_false c2
      refine zk_T.adv 1 (f' := (55, [(1, .int k), (2, .int y), (3, .int (nI j))], [.int (nI j)])) (h' := zH (zb v 0 (upd (v 0) 10 0)) w t) rfl ?_
      simp only [zl_strokesG, zk_or, if_neg c2] at hk
      exact zk_T.rt rfl rfl hk
  · have hz := True.intro
    show zk_T zk_mt zk_ex Ls xs zm_149 (34, [(1, .int k), (2, .int y), (3, .int (nI (2 + 17)))], []) (zH (zb v 0 (upd (v 0) 10 0)) w t) q
    refine zk_T.adv 2 (f' := (37, [(1, .int k), (2, .int y), (3, .int (nI (2 + 17)))], [.int 18, .int (nI (2 + 17))])) (h' := zH (zb v 0 (upd (v 0) 10 0)) w t) rfl ?_
    refine zk_T.br (f1 := (62, [(1, .int k), (2, .int y), (3, .int (nI (2 + 17)))], [])) (f2 := (40, [(1, .int k), (2, .int y), (3, .int (nI (2 + 17)))], [])) rfl (fun c1 => ?_) (fun c1 => absurd (by decide) (of_decide_eq_false c1))
    exact hk
  · exact trivial
/-- BasketKeep.strokes -/
theorem zK_strokes_t (x y : Int32) (hst : v 0 2 = 0) : zk_Cr zk_mt zk_ex Ls xs 149 [.ref 0, .int x, .int y] (zH v w t) (some (.int (-1)), zH (zb v 0 (upd (v 0) 10 1)) w t) := by
  refine zk_Cr.of (K := zm_149) rfl rfl rfl ?_
  show zk_T zk_mt zk_ex Ls xs zm_149 (0, [(0, .ref 0), (1, .int x), (2, .int y)], []) (zH v w t) _
  refine zk_T.adv 1 (f' := (1, [(0, .ref 0), (1, .int x), (2, .int y)], [.ref 0])) (h' := zH v w t) rfl ?_
  refine zk_T.cl (v := some (.int 1)) (h' := zH (zb v 0 (upd (v 0) 10 1)) w t) rfl (zs_noLevel_t (v := v) hst) ?_
  show zk_T zk_mt zk_ex Ls xs zm_149 (4, [(0, .ref 0), (1, .int x), (2, .int y)], [.int 1]) (zH (zb v 0 (upd (v 0) 10 1)) w t) _
  refine zk_T.br (f1 := (7, [(0, .ref 0), (1, .int x), (2, .int y)], [])) (f2 := (30, [(0, .ref 0), (1, .int x), (2, .int y)], [])) rfl (fun c1 => absurd (of_decide_eq_true c1) (by decide)) (fun c1 => ?_)
  refine zk_T.adv 1 (f' := (31, [(0, .ref 0), (1, .int x), (2, .int y)], [.int (-1)])) (h' := zH (zb v 0 (upd (v 0) 10 1)) w t) rfl ?_
  exact zk_T.rt rfl rfl (by rfl)
/-- BasketKeep.strokes -/
theorem zK_strokes_o (x y : Int32) (hst : v 0 2 = 1) (ho : x < 1 ∨ 9 < x) : zk_Cr zk_mt zk_ex Ls xs 149 [.ref 0, .int x, .int y] (zH v w t) (some (.int (-1)), zH (zb v 0 (upd (v 0) 10 2)) w t) := by
  refine zk_Cr.of (K := zm_149) rfl rfl rfl ?_
  show zk_T zk_mt zk_ex Ls xs zm_149 (0, [(0, .ref 0), (1, .int x), (2, .int y)], []) (zH v w t) _
  refine zk_T.adv 1 (f' := (1, [(0, .ref 0), (1, .int x), (2, .int y)], [.ref 0])) (h' := zH v w t) rfl ?_
  refine zk_T.cl (v := some (.int 0)) (h' := zH (zb v 0 (upd (v 0) 10 0)) w t) rfl (zs_noLevel_f (v := v) hst) ?_
  show zk_T zk_mt zk_ex Ls xs zm_149 (4, [(0, .ref 0), (1, .int x), (2, .int y)], [.int 0]) (zH (zb v 0 (upd (v 0) 10 0)) w t) _
  refine zk_T.br (f1 := (7, [(0, .ref 0), (1, .int x), (2, .int y)], [])) (f2 := (30, [(0, .ref 0), (1, .int x), (2, .int y)], [])) rfl (fun c1 => ?_) (fun c1 => absurd (by decide) (of_decide_eq_false c1))
  refine zk_T.adv 4 (f' := (12, [(0, .ref 0), (1, .int x), (2, .int y)], [.int 9, .int 1, .int x, .ref 0])) (h' := zH (zb v 0 (upd (v 0) 10 0)) w t) rfl ?_
  refine zk_T.cl (v := some (.int 1)) (h' := zH (zb v 0 (upd (v 0) 10 2)) w t) rfl (zs_outside_t x 1 9 ho) ?_
  show zk_T zk_mt zk_ex Ls xs zm_149 (15, [(0, .ref 0), (1, .int x), (2, .int y)], [.int 1]) (zH (zb v 0 (upd (v 0) 10 2)) w t) _
  refine zk_T.br (f1 := (18, [(0, .ref 0), (1, .int x), (2, .int y)], [])) (f2 := (30, [(0, .ref 0), (1, .int x), (2, .int y)], [])) rfl (fun c2 => absurd (of_decide_eq_true c2) (by decide)) (fun c2 => ?_)
  refine zk_T.adv 1 (f' := (31, [(0, .ref 0), (1, .int x), (2, .int y)], [.int (-1)])) (h' := zH (zb v 0 (upd (v 0) 10 2)) w t) rfl ?_
  exact zk_T.rt rfl rfl (by rfl)
/-- BasketKeep.strokes -/
theorem zK_strokes_p (k : Nat) (hk1 : 1 ≤ k) (hk9 : k ≤ 9) (y : Int32) (hst : v 0 2 = 1) (ho : y < 0 ∨ 2000000000 < y) : zk_Cr zk_mt zk_ex Ls xs 149 [.ref 0, .int (nI k), .int y] (zH v w t) (some (.int (-1)), zH (zb v 0 (upd (v 0) 10 2)) w t) := by
  refine zk_Cr.of (K := zm_149) rfl rfl rfl ?_
  show zk_T zk_mt zk_ex Ls xs zm_149 (0, [(0, .ref 0), (1, .int (nI k)), (2, .int y)], []) (zH v w t) _
  refine zk_T.adv 1 (f' := (1, [(0, .ref 0), (1, .int (nI k)), (2, .int y)], [.ref 0])) (h' := zH v w t) rfl ?_
  refine zk_T.cl (v := some (.int 0)) (h' := zH (zb v 0 (upd (v 0) 10 0)) w t) rfl (zs_noLevel_f (v := v) hst) ?_
  show zk_T zk_mt zk_ex Ls xs zm_149 (4, [(0, .ref 0), (1, .int (nI k)), (2, .int y)], [.int 0]) (zH (zb v 0 (upd (v 0) 10 0)) w t) _
  refine zk_T.br (f1 := (7, [(0, .ref 0), (1, .int (nI k)), (2, .int y)], [])) (f2 := (30, [(0, .ref 0), (1, .int (nI k)), (2, .int y)], [])) rfl (fun c1 => ?_) (fun c1 => absurd (by decide) (of_decide_eq_false c1))
  refine zk_T.adv 4 (f' := (12, [(0, .ref 0), (1, .int (nI k)), (2, .int y)], [.int 9, .int 1, .int (nI k), .ref 0])) (h' := zH (zb v 0 (upd (v 0) 10 0)) w t) rfl ?_
  refine zk_T.cl (v := some (.int 0)) (h' := zH (zb v 0 (upd (v 0) 10 0)) w t) rfl (zs_outside_f (nI k) 1 9 (nI_nlt (show 1 ≤ k by omega) (by omega)) (show nI k ≤ nI 9 from nI_le (by omega) (by decide))) ?_
  show zk_T zk_mt zk_ex Ls xs zm_149 (15, [(0, .ref 0), (1, .int (nI k)), (2, .int y)], [.int 0]) (zH (zb v 0 (upd (v 0) 10 0)) w t) _
  refine zk_T.br (f1 := (18, [(0, .ref 0), (1, .int (nI k)), (2, .int y)], [])) (f2 := (30, [(0, .ref 0), (1, .int (nI k)), (2, .int y)], [])) rfl (fun c2 => ?_) (fun c2 => absurd (by decide) (of_decide_eq_false c2))
  refine zk_T.adv 4 (f' := (24, [(0, .ref 0), (1, .int (nI k)), (2, .int y)], [.int 2000000000, .int 0, .int y, .ref 0])) (h' := zH (zb v 0 (upd (v 0) 10 0)) w t) rfl ?_
  refine zk_T.cl (v := some (.int 1)) (h' := zH (zb v 0 (upd (v 0) 10 2)) w t) rfl (zs_outside_t y 0 2000000000 ho) ?_
  show zk_T zk_mt zk_ex Ls xs zm_149 (27, [(0, .ref 0), (1, .int (nI k)), (2, .int y)], [.int 1]) (zH (zb v 0 (upd (v 0) 10 2)) w t) _
  refine zk_T.br (f1 := (32, [(0, .ref 0), (1, .int (nI k)), (2, .int y)], [])) (f2 := (30, [(0, .ref 0), (1, .int (nI k)), (2, .int y)], [])) rfl (fun c3 => absurd (of_decide_eq_true c3) (by decide)) (fun c3 => ?_)
  refine zk_T.adv 1 (f' := (31, [(0, .ref 0), (1, .int (nI k)), (2, .int y)], [.int (-1)])) (h' := zH (zb v 0 (upd (v 0) 10 2)) w t) rfl ?_
  exact zk_T.rt rfl rfl (by rfl)
def zr_strokes (k y : Int32) : Int32 := match zfr (zl_strokesG k y) 17 2 () with | .inl s => (-2) | .inr r => r
/-- BasketKeep.strokes -/
theorem zK_strokes_f (k : Nat) (hk1 : 1 ≤ k) (hk9 : k ≤ 9) (y : Nat) (hy : y ≤ 2000000000) (hst : v 0 2 = 1) : zk_Cr zk_mt zk_ex Ls xs 149 [.ref 0, .int (nI k), .int (nI y)] (zH v w t) (some (.int (zr_strokes (nI k) (nI y))), zH (zb v 0 (upd (v 0) 10 0)) w t) := by
  refine zk_Cr.of (K := zm_149) rfl rfl rfl ?_
  show zk_T zk_mt zk_ex Ls xs zm_149 (0, [(0, .ref 0), (1, .int (nI k)), (2, .int (nI y))], []) (zH v w t) _
  refine zk_T.adv 1 (f' := (1, [(0, .ref 0), (1, .int (nI k)), (2, .int (nI y))], [.ref 0])) (h' := zH v w t) rfl ?_
  refine zk_T.cl (v := some (.int 0)) (h' := zH (zb v 0 (upd (v 0) 10 0)) w t) rfl (zs_noLevel_f (v := v) hst) ?_
  show zk_T zk_mt zk_ex Ls xs zm_149 (4, [(0, .ref 0), (1, .int (nI k)), (2, .int (nI y))], [.int 0]) (zH (zb v 0 (upd (v 0) 10 0)) w t) _
  refine zk_T.br (f1 := (7, [(0, .ref 0), (1, .int (nI k)), (2, .int (nI y))], [])) (f2 := (30, [(0, .ref 0), (1, .int (nI k)), (2, .int (nI y))], [])) rfl (fun c1 => ?_) (fun c1 => absurd (by decide) (of_decide_eq_false c1))
  refine zk_T.adv 4 (f' := (12, [(0, .ref 0), (1, .int (nI k)), (2, .int (nI y))], [.int 9, .int 1, .int (nI k), .ref 0])) (h' := zH (zb v 0 (upd (v 0) 10 0)) w t) rfl ?_
  refine zk_T.cl (v := some (.int 0)) (h' := zH (zb v 0 (upd (v 0) 10 0)) w t) rfl (zs_outside_f (nI k) 1 9 (nI_nlt (show 1 ≤ k by omega) (by omega)) (show nI k ≤ nI 9 from nI_le (by omega) (by decide))) ?_
  show zk_T zk_mt zk_ex Ls xs zm_149 (15, [(0, .ref 0), (1, .int (nI k)), (2, .int (nI y))], [.int 0]) (zH (zb v 0 (upd (v 0) 10 0)) w t) _
  refine zk_T.br (f1 := (18, [(0, .ref 0), (1, .int (nI k)), (2, .int (nI y))], [])) (f2 := (30, [(0, .ref 0), (1, .int (nI k)), (2, .int (nI y))], [])) rfl (fun c2 => ?_) (fun c2 => absurd (by decide) (of_decide_eq_false c2))
  refine zk_T.adv 4 (f' := (24, [(0, .ref 0), (1, .int (nI k)), (2, .int (nI y))], [.int 2000000000, .int 0, .int (nI y), .ref 0])) (h' := zH (zb v 0 (upd (v 0) 10 0)) w t) rfl ?_
  refine zk_T.cl (v := some (.int 0)) (h' := zH (zb v 0 (upd (v 0) 10 0)) w t) rfl (zs_outside_f (nI y) 0 2000000000 (nI_pos (by omega)) (show nI y ≤ nI 2000000000 from nI_le (by omega) (by decide))) ?_
  show zk_T zk_mt zk_ex Ls xs zm_149 (27, [(0, .ref 0), (1, .int (nI k)), (2, .int (nI y))], [.int 0]) (zH (zb v 0 (upd (v 0) 10 0)) w t) _
  refine zk_T.br (f1 := (32, [(0, .ref 0), (1, .int (nI k)), (2, .int (nI y))], [])) (f2 := (30, [(0, .ref 0), (1, .int (nI k)), (2, .int (nI y))], [])) rfl (fun c3 => ?_) (fun c3 => absurd (by decide) (of_decide_eq_false c3))
  refine zk_T.adv 2 (f' := (34, [(1, .int (nI k)), (2, .int (nI y)), (3, .int 2)], [])) (h' := zH (zb v 0 (upd (v 0) 10 0)) w t) rfl ?_
  refine zl_strokes (nI k) (nI y) () _ ?_
  cases z4 : zfr (zl_strokesG (nI k) (nI y)) 17 2 () with
  | inl s =>
    show zk_T zk_mt zk_ex Ls xs zm_149 (62, [(1, .int (nI k)), (2, .int (nI y)), (3, .int (nI (2 + 17)))], []) (zH (zb v 0 (upd (v 0) 10 0)) w t) _
    refine zk_T.adv 1 (f' := (64, [(1, .int (nI k)), (2, .int (nI y)), (3, .int (nI (2 + 17)))], [.int (-2)])) (h' := zH (zb v 0 (upd (v 0) 10 0)) w t) rfl ?_
    exact zk_T.rt rfl rfl (by unfold zr_strokes; rw [z4])
  | inr r =>
    show ((some (Value.int r), zH (zb v 0 (upd (v 0) 10 0)) w t) : Option Value × zk_H) = _
    unfold zr_strokes; rw [z4]
def zr_share (r x y : Int32) : Int32 := if x = 0 then if y = 0 then 2 else 1 else (if y = 0 then 3 else (-r))
/-- BasketKeep$Gate.share -/
theorem zs_share (r x y : Int32) : zk_Cr zk_mt zk_ex Ls xs 69 [.int r, .int x, .int y] (zH v w t) (some (.int (zr_share r x y)), zH v w t) := by
  refine zk_Cr.of (K := zm_69) rfl rfl rfl ?_
  show zk_T zk_mt zk_ex Ls xs zm_69 (0, [(0, .int r), (1, .int x), (2, .int y)], []) (zH v w t) _
  refine zk_T.adv 1 (f' := (1, [(0, .int r), (1, .int x), (2, .int y)], [.int x])) (h' := zH v w t) rfl ?_
  refine zk_T.br (f1 := (15, [(0, .int r), (1, .int x), (2, .int y)], [])) (f2 := (4, [(0, .int r), (1, .int x), (2, .int y)], [])) rfl (fun c1 => ?_) (fun c1 => ?_)
  · have c1 : x = 0 := of_decide_eq_true c1
    refine zk_T.adv 1 (f' := (16, [(0, .int r), (1, .int x), (2, .int y)], [.int y])) (h' := zH v w t) rfl ?_
    refine zk_T.br (f1 := (23, [(0, .int r), (1, .int x), (2, .int y)], [])) (f2 := (19, [(0, .int r), (1, .int x), (2, .int y)], [])) rfl (fun c2 => ?_) (fun c2 => ?_)
    · have c2 : y = 0 := of_decide_eq_true c2
      refine zk_T.adv 1 (f' := (24, [(0, .int r), (1, .int x), (2, .int y)], [.int 2])) (h' := zH v w t) rfl ?_
      exact zk_T.rt rfl rfl (by simp only [zr_share, if_pos c1, if_pos c2])
    · have c2 : ¬ (y = 0) := of_decide_eq_false c2
      refine zk_T.adv 2 (f' := (24, [(0, .int r), (1, .int x), (2, .int y)], [.int 1])) (h' := zH v w t) rfl ?_
      exact zk_T.rt rfl rfl (by simp only [zr_share, if_pos c1, if_neg c2])
  · have c1 : ¬ (x = 0) := of_decide_eq_false c1
    refine zk_T.adv 1 (f' := (5, [(0, .int r), (1, .int x), (2, .int y)], [.int y])) (h' := zH v w t) rfl ?_
    refine zk_T.br (f1 := (13, [(0, .int r), (1, .int x), (2, .int y)], [])) (f2 := (8, [(0, .int r), (1, .int x), (2, .int y)], [])) rfl (fun c3 => ?_) (fun c3 => ?_)
    · have c3 : y = 0 := of_decide_eq_true c3
      refine zk_T.adv 1 (f' := (14, [(0, .int r), (1, .int x), (2, .int y)], [.int 3])) (h' := zH v w t) rfl ?_
      exact zk_T.rt rfl rfl (by simp only [zr_share, if_neg c1, if_pos c3])
    · have c3 : ¬ (y = 0) := of_decide_eq_false c3
      refine zk_T.adv 3 (f' := (14, [(0, .int r), (1, .int x), (2, .int y)], [.int (-r)])) (h' := zH v w t) rfl ?_
      exact zk_T.rt rfl rfl (by simp only [zr_share, if_neg c1, if_neg c3])
def zr_isRest (r p : Int32) : Int32 := if (p / 2) = 1 then if (p - p / 2 * 2) = 1 then if (zr_share r 1 1) < (zr_share r 0 1) then 0 else 1 else (if (zr_share r 1 0) < (zr_share r 0 0) then 0 else (if (zr_share r 0 1) < (zr_share r 1 1) then 0 else 1)) else (if (p - p / 2 * 2) = 1 then if (zr_share r 0 1) < (zr_share r 1 1) then 0 else (if (zr_share r 1 0) < (zr_share r 0 0) then 0 else 1) else (if (zr_share r 0 0) < (zr_share r 1 0) then 0 else 1))
/-- BasketKeep$Gate.isRest -/
theorem zs_isRest (r p : Int32) : zk_Cr zk_mt zk_ex Ls xs 133 [.int r, .int p] (zH v w t) (some (.int (zr_isRest r p)), zH v w t) := by
  refine zk_Cr.of (K := zm_133) rfl rfl rfl ?_
  show zk_T zk_mt zk_ex Ls xs zm_133 (0, [(0, .int r), (1, .int p)], []) (zH v w t) _
  refine zk_T.adv 2 (f' := (2, [(0, .int r), (1, .int p)], [.int 2, .int p])) (h' := zH v w t) rfl ?_
  refine zk_T.ob (f' := (3, [(0, .int r), (1, .int p)], [.int (p / 2)])) (h' := zH v w t) rfl (by decide) ?_
  refine zk_T.adv 1 (f' := (4, [(0, .int r), (1, .int p)], [.int 1, .int (p / 2)])) (h' := zH v w t) rfl ?_
  refine zk_T.br (f1 := (7, [(0, .int r), (1, .int p)], [])) (f2 := (11, [(0, .int r), (1, .int p)], [])) rfl (fun c1 => ?_) (fun c1 => ?_)
  · have c1 : (p / 2) = 1 := of_decide_eq_true c1
    refine zk_T.adv 5 (f' := (15, [(0, .int r), (1, .int p), (2, .int 1)], [.int 2, .int p])) (h' := zH v w t) rfl ?_
    refine zk_T.ob (f' := (16, [(0, .int r), (1, .int p), (2, .int 1)], [.int (p - p / 2 * 2)])) (h' := zH v w t) rfl (by decide) ?_
    refine zk_T.adv 1 (f' := (17, [(0, .int r), (1, .int p), (2, .int 1)], [.int 1, .int (p - p / 2 * 2)])) (h' := zH v w t) rfl ?_
    refine zk_T.br (f1 := (20, [(0, .int r), (1, .int p), (2, .int 1)], [])) (f2 := (24, [(0, .int r), (1, .int p), (2, .int 1)], [])) rfl (fun c2 => ?_) (fun c2 => ?_)
    · have c2 : (p - p / 2 * 2) = 1 := of_decide_eq_true c2
      refine zk_T.adv 6 (f' := (29, [(0, .int r), (1, .int p), (2, .int 1), (3, .int 1)], [.int 1, .int 1, .int r])) (h' := zH v w t) rfl ?_
      refine zk_T.cl (v := some (.int (zr_share r 1 1))) (h' := zH v w t) rfl (zs_share r 1 1) ?_
      show zk_T zk_mt zk_ex Ls xs zm_133 (32, [(0, .int r), (1, .int p), (2, .int 1), (3, .int 1)], [.int (zr_share r 1 1)]) (zH v w t) _
      refine zk_T.adv 2 (f' := (34, [(0, .int r), (1, .int p), (2, .int 1), (3, .int 1)], [.int 1, .int r, .int (zr_share r 1 1)])) (h' := zH v w t) rfl ?_
      refine zk_T.br (f1 := (37, [(0, .int r), (1, .int p), (2, .int 1), (3, .int 1)], [.int r, .int (zr_share r 1 1)])) (f2 := (41, [(0, .int r), (1, .int p), (2, .int 1), (3, .int 1)], [.int r, .int (zr_share r 1 1)])) rfl (fun c3 => absurd (of_decide_eq_true c3) (by decide)) (fun c3 => ?_)
      refine zk_T.adv 2 (f' := (43, [(0, .int r), (1, .int p), (2, .int 1), (3, .int 1)], [.int 1, .int 0, .int r, .int (zr_share r 1 1)])) (h' := zH v w t) rfl ?_
      refine zk_T.cl (v := some (.int (zr_share r 0 1))) (h' := zH v w t) rfl (zs_share r 0 1) ?_
      show zk_T zk_mt zk_ex Ls xs zm_133 (46, [(0, .int r), (1, .int p), (2, .int 1), (3, .int 1)], [.int (zr_share r 0 1), .int (zr_share r 1 1)]) (zH v w t) _
      refine zk_T.br (f1 := (76, [(0, .int r), (1, .int p), (2, .int 1), (3, .int 1)], [])) (f2 := (49, [(0, .int r), (1, .int p), (2, .int 1), (3, .int 1)], [])) rfl (fun c4 => ?_) (fun c4 => ?_)
      · have c4 : (zr_share r 1 1) < (zr_share r 0 1) := of_decide_eq_true c4
        refine zk_T.adv 1 (f' := (77, [(0, .int r), (1, .int p), (2, .int 1), (3, .int 1)], [.int 0])) (h' := zH v w t) rfl ?_
        exact zk_T.rt rfl rfl (by simp only [zr_isRest, if_pos c1, if_pos c2, if_pos c4])
      · have c4 : ¬ ((zr_share r 1 1) < (zr_share r 0 1)) := of_decide_eq_false c4
        refine zk_T.adv 3 (f' := (52, [(0, .int r), (1, .int p), (2, .int 1), (3, .int 1)], [.int 1, .int 1, .int r])) (h' := zH v w t) rfl ?_
        refine zk_T.cl (v := some (.int (zr_share r 1 1))) (h' := zH v w t) rfl (zs_share r 1 1) ?_
        show zk_T zk_mt zk_ex Ls xs zm_133 (55, [(0, .int r), (1, .int p), (2, .int 1), (3, .int 1)], [.int (zr_share r 1 1)]) (zH v w t) _
        refine zk_T.adv 2 (f' := (57, [(0, .int r), (1, .int p), (2, .int 1), (3, .int 1)], [.int 1, .int r, .int (zr_share r 1 1)])) (h' := zH v w t) rfl ?_
        refine zk_T.br (f1 := (60, [(0, .int r), (1, .int p), (2, .int 1), (3, .int 1)], [.int r, .int (zr_share r 1 1)])) (f2 := (64, [(0, .int r), (1, .int p), (2, .int 1), (3, .int 1)], [.int r, .int (zr_share r 1 1)])) rfl (fun c5 => absurd (of_decide_eq_true c5) (by decide)) (fun c5 => ?_)
        refine zk_T.adv 2 (f' := (66, [(0, .int r), (1, .int p), (2, .int 1), (3, .int 1)], [.int 1, .int 0, .int r, .int (zr_share r 1 1)])) (h' := zH v w t) rfl ?_
        refine zk_T.cl (v := some (.int (zr_share r 0 1))) (h' := zH v w t) rfl (zs_share r 0 1) ?_
        show zk_T zk_mt zk_ex Ls xs zm_133 (69, [(0, .int r), (1, .int p), (2, .int 1), (3, .int 1)], [.int (zr_share r 0 1), .int (zr_share r 1 1)]) (zH v w t) _
        refine zk_T.br (f1 := (76, [(0, .int r), (1, .int p), (2, .int 1), (3, .int 1)], [])) (f2 := (72, [(0, .int r), (1, .int p), (2, .int 1), (3, .int 1)], [])) rfl (fun c6 => absurd (of_decide_eq_true c6) c4) (fun c6 => ?_)
        refine zk_T.adv 2 (f' := (77, [(0, .int r), (1, .int p), (2, .int 1), (3, .int 1)], [.int 1])) (h' := zH v w t) rfl ?_
        exact zk_T.rt rfl rfl (by simp only [zr_isRest, if_pos c1, if_pos c2, if_neg c4])
    · have c2 : ¬ ((p - p / 2 * 2) = 1) := of_decide_eq_false c2
      refine zk_T.adv 5 (f' := (29, [(0, .int r), (1, .int p), (2, .int 1), (3, .int 0)], [.int 0, .int 1, .int r])) (h' := zH v w t) rfl ?_
      refine zk_T.cl (v := some (.int (zr_share r 1 0))) (h' := zH v w t) rfl (zs_share r 1 0) ?_
      show zk_T zk_mt zk_ex Ls xs zm_133 (32, [(0, .int r), (1, .int p), (2, .int 1), (3, .int 0)], [.int (zr_share r 1 0)]) (zH v w t) _
      refine zk_T.adv 2 (f' := (34, [(0, .int r), (1, .int p), (2, .int 1), (3, .int 0)], [.int 1, .int r, .int (zr_share r 1 0)])) (h' := zH v w t) rfl ?_
      refine zk_T.br (f1 := (37, [(0, .int r), (1, .int p), (2, .int 1), (3, .int 0)], [.int r, .int (zr_share r 1 0)])) (f2 := (41, [(0, .int r), (1, .int p), (2, .int 1), (3, .int 0)], [.int r, .int (zr_share r 1 0)])) rfl (fun c7 => absurd (of_decide_eq_true c7) (by decide)) (fun c7 => ?_)
      refine zk_T.adv 2 (f' := (43, [(0, .int r), (1, .int p), (2, .int 1), (3, .int 0)], [.int 0, .int 0, .int r, .int (zr_share r 1 0)])) (h' := zH v w t) rfl ?_
      refine zk_T.cl (v := some (.int (zr_share r 0 0))) (h' := zH v w t) rfl (zs_share r 0 0) ?_
      show zk_T zk_mt zk_ex Ls xs zm_133 (46, [(0, .int r), (1, .int p), (2, .int 1), (3, .int 0)], [.int (zr_share r 0 0), .int (zr_share r 1 0)]) (zH v w t) _
      refine zk_T.br (f1 := (76, [(0, .int r), (1, .int p), (2, .int 1), (3, .int 0)], [])) (f2 := (49, [(0, .int r), (1, .int p), (2, .int 1), (3, .int 0)], [])) rfl (fun c8 => ?_) (fun c8 => ?_)
      · have c8 : (zr_share r 1 0) < (zr_share r 0 0) := of_decide_eq_true c8
        refine zk_T.adv 1 (f' := (77, [(0, .int r), (1, .int p), (2, .int 1), (3, .int 0)], [.int 0])) (h' := zH v w t) rfl ?_
        exact zk_T.rt rfl rfl (by simp only [zr_isRest, if_pos c1, if_neg c2, if_pos c8])
      · have c8 : ¬ ((zr_share r 1 0) < (zr_share r 0 0)) := of_decide_eq_false c8
        refine zk_T.adv 3 (f' := (52, [(0, .int r), (1, .int p), (2, .int 1), (3, .int 0)], [.int 1, .int 0, .int r])) (h' := zH v w t) rfl ?_
        refine zk_T.cl (v := some (.int (zr_share r 0 1))) (h' := zH v w t) rfl (zs_share r 0 1) ?_
        show zk_T zk_mt zk_ex Ls xs zm_133 (55, [(0, .int r), (1, .int p), (2, .int 1), (3, .int 0)], [.int (zr_share r 0 1)]) (zH v w t) _
        refine zk_T.adv 2 (f' := (57, [(0, .int r), (1, .int p), (2, .int 1), (3, .int 0)], [.int 0, .int r, .int (zr_share r 0 1)])) (h' := zH v w t) rfl ?_
        refine zk_T.br (f1 := (60, [(0, .int r), (1, .int p), (2, .int 1), (3, .int 0)], [.int r, .int (zr_share r 0 1)])) (f2 := (64, [(0, .int r), (1, .int p), (2, .int 1), (3, .int 0)], [.int r, .int (zr_share r 0 1)])) rfl (fun c9 => ?_) (fun c9 => absurd (by decide) (of_decide_eq_false c9))
        refine zk_T.adv 3 (f' := (66, [(0, .int r), (1, .int p), (2, .int 1), (3, .int 0)], [.int 1, .int 1, .int r, .int (zr_share r 0 1)])) (h' := zH v w t) rfl ?_
        refine zk_T.cl (v := some (.int (zr_share r 1 1))) (h' := zH v w t) rfl (zs_share r 1 1) ?_
        show zk_T zk_mt zk_ex Ls xs zm_133 (69, [(0, .int r), (1, .int p), (2, .int 1), (3, .int 0)], [.int (zr_share r 1 1), .int (zr_share r 0 1)]) (zH v w t) _
        refine zk_T.br (f1 := (76, [(0, .int r), (1, .int p), (2, .int 1), (3, .int 0)], [])) (f2 := (72, [(0, .int r), (1, .int p), (2, .int 1), (3, .int 0)], [])) rfl (fun c10 => ?_) (fun c10 => ?_)
        · have c10 : (zr_share r 0 1) < (zr_share r 1 1) := of_decide_eq_true c10
          refine zk_T.adv 1 (f' := (77, [(0, .int r), (1, .int p), (2, .int 1), (3, .int 0)], [.int 0])) (h' := zH v w t) rfl ?_
          exact zk_T.rt rfl rfl (by simp only [zr_isRest, if_pos c1, if_neg c2, if_neg c8, if_pos c10])
        · have c10 : ¬ ((zr_share r 0 1) < (zr_share r 1 1)) := of_decide_eq_false c10
          refine zk_T.adv 2 (f' := (77, [(0, .int r), (1, .int p), (2, .int 1), (3, .int 0)], [.int 1])) (h' := zH v w t) rfl ?_
          exact zk_T.rt rfl rfl (by simp only [zr_isRest, if_pos c1, if_neg c2, if_neg c8, if_neg c10])
  · have c1 : ¬ ((p / 2) = 1) := of_decide_eq_false c1
    refine zk_T.adv 4 (f' := (15, [(0, .int r), (1, .int p), (2, .int 0)], [.int 2, .int p])) (h' := zH v w t) rfl ?_
    refine zk_T.ob (f' := (16, [(0, .int r), (1, .int p), (2, .int 0)], [.int (p - p / 2 * 2)])) (h' := zH v w t) rfl (by decide) ?_
    refine zk_T.adv 1 (f' := (17, [(0, .int r), (1, .int p), (2, .int 0)], [.int 1, .int (p - p / 2 * 2)])) (h' := zH v w t) rfl ?_
    refine zk_T.br (f1 := (20, [(0, .int r), (1, .int p), (2, .int 0)], [])) (f2 := (24, [(0, .int r), (1, .int p), (2, .int 0)], [])) rfl (fun c11 => ?_) (fun c11 => ?_)
    · have c11 : (p - p / 2 * 2) = 1 := of_decide_eq_true c11
      refine zk_T.adv 6 (f' := (29, [(0, .int r), (1, .int p), (2, .int 0), (3, .int 1)], [.int 1, .int 0, .int r])) (h' := zH v w t) rfl ?_
      refine zk_T.cl (v := some (.int (zr_share r 0 1))) (h' := zH v w t) rfl (zs_share r 0 1) ?_
      show zk_T zk_mt zk_ex Ls xs zm_133 (32, [(0, .int r), (1, .int p), (2, .int 0), (3, .int 1)], [.int (zr_share r 0 1)]) (zH v w t) _
      refine zk_T.adv 2 (f' := (34, [(0, .int r), (1, .int p), (2, .int 0), (3, .int 1)], [.int 0, .int r, .int (zr_share r 0 1)])) (h' := zH v w t) rfl ?_
      refine zk_T.br (f1 := (37, [(0, .int r), (1, .int p), (2, .int 0), (3, .int 1)], [.int r, .int (zr_share r 0 1)])) (f2 := (41, [(0, .int r), (1, .int p), (2, .int 0), (3, .int 1)], [.int r, .int (zr_share r 0 1)])) rfl (fun c12 => ?_) (fun c12 => absurd (by decide) (of_decide_eq_false c12))
      refine zk_T.adv 3 (f' := (43, [(0, .int r), (1, .int p), (2, .int 0), (3, .int 1)], [.int 1, .int 1, .int r, .int (zr_share r 0 1)])) (h' := zH v w t) rfl ?_
      refine zk_T.cl (v := some (.int (zr_share r 1 1))) (h' := zH v w t) rfl (zs_share r 1 1) ?_
      show zk_T zk_mt zk_ex Ls xs zm_133 (46, [(0, .int r), (1, .int p), (2, .int 0), (3, .int 1)], [.int (zr_share r 1 1), .int (zr_share r 0 1)]) (zH v w t) _
      refine zk_T.br (f1 := (76, [(0, .int r), (1, .int p), (2, .int 0), (3, .int 1)], [])) (f2 := (49, [(0, .int r), (1, .int p), (2, .int 0), (3, .int 1)], [])) rfl (fun c13 => ?_) (fun c13 => ?_)
      · have c13 : (zr_share r 0 1) < (zr_share r 1 1) := of_decide_eq_true c13
        refine zk_T.adv 1 (f' := (77, [(0, .int r), (1, .int p), (2, .int 0), (3, .int 1)], [.int 0])) (h' := zH v w t) rfl ?_
        exact zk_T.rt rfl rfl (by simp only [zr_isRest, if_neg c1, if_pos c11, if_pos c13])
      · have c13 : ¬ ((zr_share r 0 1) < (zr_share r 1 1)) := of_decide_eq_false c13
        refine zk_T.adv 3 (f' := (52, [(0, .int r), (1, .int p), (2, .int 0), (3, .int 1)], [.int 0, .int 1, .int r])) (h' := zH v w t) rfl ?_
        refine zk_T.cl (v := some (.int (zr_share r 1 0))) (h' := zH v w t) rfl (zs_share r 1 0) ?_
        show zk_T zk_mt zk_ex Ls xs zm_133 (55, [(0, .int r), (1, .int p), (2, .int 0), (3, .int 1)], [.int (zr_share r 1 0)]) (zH v w t) _
        refine zk_T.adv 2 (f' := (57, [(0, .int r), (1, .int p), (2, .int 0), (3, .int 1)], [.int 1, .int r, .int (zr_share r 1 0)])) (h' := zH v w t) rfl ?_
        refine zk_T.br (f1 := (60, [(0, .int r), (1, .int p), (2, .int 0), (3, .int 1)], [.int r, .int (zr_share r 1 0)])) (f2 := (64, [(0, .int r), (1, .int p), (2, .int 0), (3, .int 1)], [.int r, .int (zr_share r 1 0)])) rfl (fun c14 => absurd (of_decide_eq_true c14) (by decide)) (fun c14 => ?_)
        refine zk_T.adv 2 (f' := (66, [(0, .int r), (1, .int p), (2, .int 0), (3, .int 1)], [.int 0, .int 0, .int r, .int (zr_share r 1 0)])) (h' := zH v w t) rfl ?_
        refine zk_T.cl (v := some (.int (zr_share r 0 0))) (h' := zH v w t) rfl (zs_share r 0 0) ?_
        show zk_T zk_mt zk_ex Ls xs zm_133 (69, [(0, .int r), (1, .int p), (2, .int 0), (3, .int 1)], [.int (zr_share r 0 0), .int (zr_share r 1 0)]) (zH v w t) _
        refine zk_T.br (f1 := (76, [(0, .int r), (1, .int p), (2, .int 0), (3, .int 1)], [])) (f2 := (72, [(0, .int r), (1, .int p), (2, .int 0), (3, .int 1)], [])) rfl (fun c15 => ?_) (fun c15 => ?_)
        · have c15 : (zr_share r 1 0) < (zr_share r 0 0) := of_decide_eq_true c15
          refine zk_T.adv 1 (f' := (77, [(0, .int r), (1, .int p), (2, .int 0), (3, .int 1)], [.int 0])) (h' := zH v w t) rfl ?_
          exact zk_T.rt rfl rfl (by simp only [zr_isRest, if_neg c1, if_pos c11, if_neg c13, if_pos c15])
        · have c15 : ¬ ((zr_share r 1 0) < (zr_share r 0 0)) := of_decide_eq_false c15
          refine zk_T.adv 2 (f' := (77, [(0, .int r), (1, .int p), (2, .int 0), (3, .int 1)], [.int 1])) (h' := zH v w t) rfl ?_
          exact zk_T.rt rfl rfl (by simp only [zr_isRest, if_neg c1, if_pos c11, if_neg c13, if_neg c15])
    · have c11 : ¬ ((p - p / 2 * 2) = 1) := of_decide_eq_false c11
      refine zk_T.adv 5 (f' := (29, [(0, .int r), (1, .int p), (2, .int 0), (3, .int 0)], [.int 0, .int 0, .int r])) (h' := zH v w t) rfl ?_
      refine zk_T.cl (v := some (.int (zr_share r 0 0))) (h' := zH v w t) rfl (zs_share r 0 0) ?_
      show zk_T zk_mt zk_ex Ls xs zm_133 (32, [(0, .int r), (1, .int p), (2, .int 0), (3, .int 0)], [.int (zr_share r 0 0)]) (zH v w t) _
      refine zk_T.adv 2 (f' := (34, [(0, .int r), (1, .int p), (2, .int 0), (3, .int 0)], [.int 0, .int r, .int (zr_share r 0 0)])) (h' := zH v w t) rfl ?_
      refine zk_T.br (f1 := (37, [(0, .int r), (1, .int p), (2, .int 0), (3, .int 0)], [.int r, .int (zr_share r 0 0)])) (f2 := (41, [(0, .int r), (1, .int p), (2, .int 0), (3, .int 0)], [.int r, .int (zr_share r 0 0)])) rfl (fun c16 => ?_) (fun c16 => absurd (by decide) (of_decide_eq_false c16))
      refine zk_T.adv 3 (f' := (43, [(0, .int r), (1, .int p), (2, .int 0), (3, .int 0)], [.int 0, .int 1, .int r, .int (zr_share r 0 0)])) (h' := zH v w t) rfl ?_
      refine zk_T.cl (v := some (.int (zr_share r 1 0))) (h' := zH v w t) rfl (zs_share r 1 0) ?_
      show zk_T zk_mt zk_ex Ls xs zm_133 (46, [(0, .int r), (1, .int p), (2, .int 0), (3, .int 0)], [.int (zr_share r 1 0), .int (zr_share r 0 0)]) (zH v w t) _
      refine zk_T.br (f1 := (76, [(0, .int r), (1, .int p), (2, .int 0), (3, .int 0)], [])) (f2 := (49, [(0, .int r), (1, .int p), (2, .int 0), (3, .int 0)], [])) rfl (fun c17 => ?_) (fun c17 => ?_)
      · have c17 : (zr_share r 0 0) < (zr_share r 1 0) := of_decide_eq_true c17
        refine zk_T.adv 1 (f' := (77, [(0, .int r), (1, .int p), (2, .int 0), (3, .int 0)], [.int 0])) (h' := zH v w t) rfl ?_
        exact zk_T.rt rfl rfl (by simp only [zr_isRest, if_neg c1, if_neg c11, if_pos c17])
      · have c17 : ¬ ((zr_share r 0 0) < (zr_share r 1 0)) := of_decide_eq_false c17
        refine zk_T.adv 3 (f' := (52, [(0, .int r), (1, .int p), (2, .int 0), (3, .int 0)], [.int 0, .int 0, .int r])) (h' := zH v w t) rfl ?_
        refine zk_T.cl (v := some (.int (zr_share r 0 0))) (h' := zH v w t) rfl (zs_share r 0 0) ?_
        show zk_T zk_mt zk_ex Ls xs zm_133 (55, [(0, .int r), (1, .int p), (2, .int 0), (3, .int 0)], [.int (zr_share r 0 0)]) (zH v w t) _
        refine zk_T.adv 2 (f' := (57, [(0, .int r), (1, .int p), (2, .int 0), (3, .int 0)], [.int 0, .int r, .int (zr_share r 0 0)])) (h' := zH v w t) rfl ?_
        refine zk_T.br (f1 := (60, [(0, .int r), (1, .int p), (2, .int 0), (3, .int 0)], [.int r, .int (zr_share r 0 0)])) (f2 := (64, [(0, .int r), (1, .int p), (2, .int 0), (3, .int 0)], [.int r, .int (zr_share r 0 0)])) rfl (fun c18 => ?_) (fun c18 => absurd (by decide) (of_decide_eq_false c18))
        refine zk_T.adv 3 (f' := (66, [(0, .int r), (1, .int p), (2, .int 0), (3, .int 0)], [.int 0, .int 1, .int r, .int (zr_share r 0 0)])) (h' := zH v w t) rfl ?_
        refine zk_T.cl (v := some (.int (zr_share r 1 0))) (h' := zH v w t) rfl (zs_share r 1 0) ?_
        show zk_T zk_mt zk_ex Ls xs zm_133 (69, [(0, .int r), (1, .int p), (2, .int 0), (3, .int 0)], [.int (zr_share r 1 0), .int (zr_share r 0 0)]) (zH v w t) _
        refine zk_T.br (f1 := (76, [(0, .int r), (1, .int p), (2, .int 0), (3, .int 0)], [])) (f2 := (72, [(0, .int r), (1, .int p), (2, .int 0), (3, .int 0)], [])) rfl (fun c19 => absurd (of_decide_eq_true c19) c17) (fun c19 => ?_)
        refine zk_T.adv 2 (f' := (77, [(0, .int r), (1, .int p), (2, .int 0), (3, .int 0)], [.int 1])) (h' := zH v w t) rfl ?_
        exact zk_T.rt rfl rfl (by simp only [zr_isRest, if_neg c1, if_neg c11, if_neg c17])
def zl_cRestsG (r : Int32) (j : Nat) (s : Int32) : Int32 := match s with
  | c => if (zr_isRest r (nI j)) = 0 then c else c + 1
theorem zl_cRests (r : Int32) : ∀ (s : Int32) (q : Option Value × zk_H), zk_T zk_mt zk_ex Ls xs zm_185 ((fun (s : Int32) => ((26, [(0, .int r), (1, .int s), (2, .int (nI (0 + 4)))], []) : zk_F)) (zf (zl_cRestsG r) 4 0 s)) ((fun (s : Int32) => zH v w t) (zf (zl_cRestsG r) 4 0 s)) q → zk_T zk_mt zk_ex Ls xs zm_185 (4, [(0, .int r), (1, .int s), (2, .int (nI 0))], []) (zH v w t) q := by
  intro s q hk
  refine zk_forK (M := zm_185) (fun j (s : Int32) => (4, [(0, .int r), (1, .int s), (2, .int (nI j))], [])) (fun _ (s : Int32) => zH v w t) (zl_cRestsG r) (fun _ _ => True) (fun (s : Int32) => (26, [(0, .int r), (1, .int s), (2, .int (nI (0 + 4)))], [])) (fun (s : Int32) => zH v w t) (4) 0 s (fun _ _ _ _ _ => trivial) (fun j s hj1 hj2 hp q hk => ?_) (fun s hp q hk => ?_) ?_ q hk
  · have hz := True.intro
    obtain ⟨c, rfl⟩ : ∃ z, z = s := ⟨_, rfl⟩
    show zk_T zk_mt zk_ex Ls xs zm_185 (4, [(0, .int r), (1, .int c), (2, .int (nI j))], []) (zH v w t) q
    refine zk_T.adv 2 (f' := (6, [(0, .int r), (1, .int c), (2, .int (nI j))], [.int 4, .int (nI j)])) (h' := zH v w t) rfl ?_
    refine zk_T.br (f1 := (26, [(0, .int r), (1, .int c), (2, .int (nI j))], [])) (f2 := (9, [(0, .int r), (1, .int c), (2, .int (nI j))], [])) rfl (fun c1 => absurd (of_decide_eq_true c1) (nI_ge (show j < 4 by omega) (by decide))) (fun c1 => ?_)
    refine zk_T.adv 2 (f' := (11, [(0, .int r), (1, .int c), (2, .int (nI j))], [.int (nI j), .int r])) (h' := zH v w t) rfl ?_
    refine zk_T.cl (v := some (.int (zr_isRest r (nI j)))) (h' := zH v w t) rfl (zs_isRest r (nI j)) ?_
    show zk_T zk_mt zk_ex Ls xs zm_185 (14, [(0, .int r), (1, .int c), (2, .int (nI j))], [.int (zr_isRest r (nI j))]) (zH v w t) _
    refine zk_T.br (f1 := (20, [(0, .int r), (1, .int c), (2, .int (nI j))], [])) (f2 := (17, [(0, .int r), (1, .int c), (2, .int (nI j))], [])) rfl (fun c2 => ?_) (fun c2 => ?_)
    · have c2 : (zr_isRest r (nI j)) = 0 := of_decide_eq_true c2
      refine zk_T.adv 2 (f' := (4, [(0, .int r), (1, .int c), (2, .int ((nI j) + 1))], [])) (h' := zH v w t) rfl ?_
      rw [nI_1]
      simp only [zl_cRestsG, if_pos c2] at hk
      exact hk
    · have c2 : ¬ ((zr_isRest r (nI j)) = 0) := of_decide_eq_false c2
      refine zk_T.adv 3 (f' := (4, [(0, .int r), (1, .int (c + 1)), (2, .int ((nI j) + 1))], [])) (h' := zH v w t) rfl ?_
      rw [nI_1]
      simp only [zl_cRestsG, if_neg c2] at hk
      exact hk
  · have hz := True.intro
    obtain ⟨c, rfl⟩ : ∃ z, z = s := ⟨_, rfl⟩
    show zk_T zk_mt zk_ex Ls xs zm_185 (4, [(0, .int r), (1, .int c), (2, .int (nI (0 + 4)))], []) (zH v w t) q
    refine zk_T.adv 2 (f' := (6, [(0, .int r), (1, .int c), (2, .int (nI (0 + 4)))], [.int 4, .int (nI (0 + 4))])) (h' := zH v w t) rfl ?_
    refine zk_T.br (f1 := (26, [(0, .int r), (1, .int c), (2, .int (nI (0 + 4)))], [])) (f2 := (9, [(0, .int r), (1, .int c), (2, .int (nI (0 + 4)))], [])) rfl (fun c1 => ?_) (fun c1 => absurd (by decide) (of_decide_eq_false c1))
    exact hk
  · exact trivial
def zr_cRests (r : Int32) : Int32 := (zf (zl_cRestsG r) 4 0 0)
/-- BasketKeep$Gate.countRests -/
theorem zs_cRests (r : Int32) : zk_Cr zk_mt zk_ex Ls xs 185 [.int r] (zH v w t) (some (.int (zr_cRests r)), zH v w t) := by
  refine zk_Cr.of (K := zm_185) rfl rfl rfl ?_
  show zk_T zk_mt zk_ex Ls xs zm_185 (0, [(0, .int r)], []) (zH v w t) _
  refine zk_T.adv 4 (f' := (4, [(0, .int r), (1, .int 0), (2, .int 0)], [])) (h' := zH v w t) rfl ?_
  refine zl_cRests r 0 _ ?_
  show zk_T zk_mt zk_ex Ls xs zm_185 (26, [(0, .int r), (1, .int (zf (zl_cRestsG r) 4 0 0)), (2, .int (nI (0 + 4)))], []) (zH v w t) _
  refine zk_T.adv 1 (f' := (27, [(0, .int r), (1, .int (zf (zl_cRestsG r) 4 0 0)), (2, .int (nI (0 + 4)))], [.int (zf (zl_cRestsG r) 4 0 0)])) (h' := zH v w t) rfl ?_
  exact zk_T.rt rfl rfl (by rfl)
def zl_fRestG (r0 : Int32) (j : Nat) (s : Unit) : (Unit) ⊕ Int32 := match s with
  | () => if (zr_isRest r0 (nI j)) = 0 then .inl () else .inr ((((nI j) / 2) * 10) + ((nI j) - (nI j) / 2 * 2))
theorem zl_fRest (r0 : Int32) : ∀ (s : Unit) (q : Option Value × zk_H), zk_or (fun (s : Unit) => zk_T zk_mt zk_ex Ls xs zm_186 (32, [(0, .int r0), (1, .int (nI (0 + 4)))], []) (zH v w t) q) (fun (r : Int32) => (some (.int r), zH v w t) = q) (zfr (zl_fRestG r0) 4 0 s) → zk_T zk_mt zk_ex Ls xs zm_186 (2, [(0, .int r0), (1, .int (nI 0))], []) (zH v w t) q := by
  intro s q hk
  refine zk_forX (M := zm_186) (fun j (s : Unit) => (2, [(0, .int r0), (1, .int (nI j))], [])) (fun _ (s : Unit) => zH v w t) (zl_fRestG r0) (fun _ _ => True) (fun (s : Unit) => (32, [(0, .int r0), (1, .int (nI (0 + 4)))], [])) (fun (s : Unit) => zH v w t) (fun r q => (some (.int r), zH v w t) = q) (4) 0 s (fun _ _ _ _ _ _ _ => trivial) (fun j s hj1 hj2 hp q hk => ?_) (fun s hp q hk => ?_) ?_ q hk
  · have hz := True.intro
    show zk_T zk_mt zk_ex Ls xs zm_186 (2, [(0, .int r0), (1, .int (nI j))], []) (zH v w t) q
    refine zk_T.adv 2 (f' := (4, [(0, .int r0), (1, .int (nI j))], [.int 4, .int (nI j)])) (h' := zH v w t) rfl ?_
    refine zk_T.br (f1 := (32, [(0, .int r0), (1, .int (nI j))], [])) (f2 := (7, [(0, .int r0), (1, .int (nI j))], [])) rfl (fun c1 => absurd (of_decide_eq_true c1) (nI_ge (show j < 4 by omega) (by decide))) (fun c1 => ?_)
    refine zk_T.adv 2 (f' := (9, [(0, .int r0), (1, .int (nI j))], [.int (nI j), .int r0])) (h' := zH v w t) rfl ?_
    refine zk_T.cl (v := some (.int (zr_isRest r0 (nI j)))) (h' := zH v w t) rfl (zs_isRest r0 (nI j)) ?_
    show zk_T zk_mt zk_ex Ls xs zm_186 (12, [(0, .int r0), (1, .int (nI j))], [.int (zr_isRest r0 (nI j))]) (zH v w t) _
    refine zk_T.br (f1 := (26, [(0, .int r0), (1, .int (nI j))], [])) (f2 := (15, [(0, .int r0), (1, .int (nI j))], [])) rfl (fun c2 => ?_) (fun c2 => ?_)
    · have c2 : (zr_isRest r0 (nI j)) = 0 := of_decide_eq_true c2
      refine zk_T.adv 2 (f' := (2, [(0, .int r0), (1, .int ((nI j) + 1))], [])) (h' := zH v w t) rfl ?_
      rw [nI_1]
      simp only [zl_fRestG, zk_or, if_pos c2] at hk
      exact hk
    · have c2 : ¬ ((zr_isRest r0 (nI j)) = 0) := of_decide_eq_false c2
      refine zk_T.adv 2 (f' := (17, [(0, .int r0), (1, .int (nI j))], [.int 2, .int (nI j)])) (h' := zH v w t) rfl ?_
      refine zk_T.ob (f' := (18, [(0, .int r0), (1, .int (nI j))], [.int ((nI j) / 2)])) (h' := zH v w t) rfl (by decide) ?_
      refine zk_T.adv 4 (f' := (23, [(0, .int r0), (1, .int (nI j))], [.int 2, .int (nI j), .int (((nI j) / 2) * 10)])) (h' := zH v w t) rfl ?_
      refine zk_T.ob (f' := (24, [(0, .int r0), (1, .int (nI j))], [.int ((nI j) - (nI j) / 2 * 2), .int (((nI j) / 2) * 10)])) (h' := zH v w t) rfl (by decide) ?_
      refine zk_T.adv 1 (f' := (25, [(0, .int r0), (1, .int (nI j))], [.int ((((nI j) / 2) * 10) + ((nI j) - (nI j) / 2 * 2))])) (h' := zH v w t) rfl ?_
      simp only [zl_fRestG, zk_or, if_neg c2] at hk
      exact zk_T.rt rfl rfl hk
  · have hz := True.intro
    show zk_T zk_mt zk_ex Ls xs zm_186 (2, [(0, .int r0), (1, .int (nI (0 + 4)))], []) (zH v w t) q
    refine zk_T.adv 2 (f' := (4, [(0, .int r0), (1, .int (nI (0 + 4)))], [.int 4, .int (nI (0 + 4))])) (h' := zH v w t) rfl ?_
    refine zk_T.br (f1 := (32, [(0, .int r0), (1, .int (nI (0 + 4)))], [])) (f2 := (7, [(0, .int r0), (1, .int (nI (0 + 4)))], [])) rfl (fun c1 => ?_) (fun c1 => absurd (by decide) (of_decide_eq_false c1))
    exact hk
  · exact trivial
def zr_fRest (r0 : Int32) : Int32 := match zfr (zl_fRestG r0) 4 0 () with | .inl s => (-2) | .inr r => r
/-- BasketKeep$Gate.firstRest -/
theorem zs_fRest (r0 : Int32) : zk_Cr zk_mt zk_ex Ls xs 186 [.int r0] (zH v w t) (some (.int (zr_fRest r0)), zH v w t) := by
  refine zk_Cr.of (K := zm_186) rfl rfl rfl ?_
  show zk_T zk_mt zk_ex Ls xs zm_186 (0, [(0, .int r0)], []) (zH v w t) _
  refine zk_T.adv 2 (f' := (2, [(0, .int r0), (1, .int 0)], [])) (h' := zH v w t) rfl ?_
  refine zl_fRest r0 () _ ?_
  cases z1 : zfr (zl_fRestG r0) 4 0 () with
  | inl s =>
    show zk_T zk_mt zk_ex Ls xs zm_186 (32, [(0, .int r0), (1, .int (nI (0 + 4)))], []) (zH v w t) _
    refine zk_T.adv 1 (f' := (34, [(0, .int r0), (1, .int (nI (0 + 4)))], [.int (-2)])) (h' := zH v w t) rfl ?_
    exact zk_T.rt rfl rfl (by simp only [zr_fRest, z1])
  | inr r =>
    show ((some (Value.int r), zH v w t) : Option Value × zk_H) = _
    simp only [zr_fRest, z1]
/-- BasketKeep.rests -/
theorem zK_rests_t (x : Int32) (hst : v 0 2 = 0) : zk_Cr zk_mt zk_ex Ls xs 194 [.ref 0, .int x] (zH v w t) (some (.int (-1)), zH (zb v 0 (upd (v 0) 10 1)) w t) := by
  refine zk_Cr.of (K := zm_194) rfl rfl rfl ?_
  show zk_T zk_mt zk_ex Ls xs zm_194 (0, [(0, .ref 0), (1, .int x)], []) (zH v w t) _
  refine zk_T.adv 1 (f' := (1, [(0, .ref 0), (1, .int x)], [.ref 0])) (h' := zH v w t) rfl ?_
  refine zk_T.cl (v := some (.int 1)) (h' := zH (zb v 0 (upd (v 0) 10 1)) w t) rfl (zs_noLevel_t (v := v) hst) ?_
  show zk_T zk_mt zk_ex Ls xs zm_194 (4, [(0, .ref 0), (1, .int x)], [.int 1]) (zH (zb v 0 (upd (v 0) 10 1)) w t) _
  refine zk_T.br (f1 := (7, [(0, .ref 0), (1, .int x)], [])) (f2 := (18, [(0, .ref 0), (1, .int x)], [])) rfl (fun c1 => absurd (of_decide_eq_true c1) (by decide)) (fun c1 => ?_)
  refine zk_T.adv 2 (f' := (26, [(0, .ref 0), (1, .int x)], [.int (-1)])) (h' := zH (zb v 0 (upd (v 0) 10 1)) w t) rfl ?_
  exact zk_T.rt rfl rfl (by rfl)
/-- BasketKeep.rests -/
theorem zK_rests_o (x : Int32) (hst : v 0 2 = 1) (ho : x < 0 ∨ 9 < x) : zk_Cr zk_mt zk_ex Ls xs 194 [.ref 0, .int x] (zH v w t) (some (.int (-1)), zH (zb v 0 (upd (v 0) 10 2)) w t) := by
  refine zk_Cr.of (K := zm_194) rfl rfl rfl ?_
  show zk_T zk_mt zk_ex Ls xs zm_194 (0, [(0, .ref 0), (1, .int x)], []) (zH v w t) _
  refine zk_T.adv 1 (f' := (1, [(0, .ref 0), (1, .int x)], [.ref 0])) (h' := zH v w t) rfl ?_
  refine zk_T.cl (v := some (.int 0)) (h' := zH (zb v 0 (upd (v 0) 10 0)) w t) rfl (zs_noLevel_f (v := v) hst) ?_
  show zk_T zk_mt zk_ex Ls xs zm_194 (4, [(0, .ref 0), (1, .int x)], [.int 0]) (zH (zb v 0 (upd (v 0) 10 0)) w t) _
  refine zk_T.br (f1 := (7, [(0, .ref 0), (1, .int x)], [])) (f2 := (18, [(0, .ref 0), (1, .int x)], [])) rfl (fun c1 => ?_) (fun c1 => absurd (by decide) (of_decide_eq_false c1))
  refine zk_T.adv 4 (f' := (12, [(0, .ref 0), (1, .int x)], [.int 9, .int 0, .int x, .ref 0])) (h' := zH (zb v 0 (upd (v 0) 10 0)) w t) rfl ?_
  refine zk_T.cl (v := some (.int 1)) (h' := zH (zb v 0 (upd (v 0) 10 2)) w t) rfl (zs_outside_t x 0 9 ho) ?_
  show zk_T zk_mt zk_ex Ls xs zm_194 (15, [(0, .ref 0), (1, .int x)], [.int 1]) (zH (zb v 0 (upd (v 0) 10 2)) w t) _
  refine zk_T.br (f1 := (22, [(0, .ref 0), (1, .int x)], [])) (f2 := (18, [(0, .ref 0), (1, .int x)], [])) rfl (fun c2 => absurd (of_decide_eq_true c2) (by decide)) (fun c2 => ?_)
  refine zk_T.adv 2 (f' := (26, [(0, .ref 0), (1, .int x)], [.int (-1)])) (h' := zH (zb v 0 (upd (v 0) 10 2)) w t) rfl ?_
  exact zk_T.rt rfl rfl (by rfl)
/-- BasketKeep.rests -/
theorem zK_rests_f (r : Nat) (hr : r ≤ 9) (hst : v 0 2 = 1) : zk_Cr zk_mt zk_ex Ls xs 194 [.ref 0, .int (nI r)] (zH v w t) (some (.int (zr_cRests (nI r))), zH (zb v 0 (upd (v 0) 10 0)) w t) := by
  refine zk_Cr.of (K := zm_194) rfl rfl rfl ?_
  show zk_T zk_mt zk_ex Ls xs zm_194 (0, [(0, .ref 0), (1, .int (nI r))], []) (zH v w t) _
  refine zk_T.adv 1 (f' := (1, [(0, .ref 0), (1, .int (nI r))], [.ref 0])) (h' := zH v w t) rfl ?_
  refine zk_T.cl (v := some (.int 0)) (h' := zH (zb v 0 (upd (v 0) 10 0)) w t) rfl (zs_noLevel_f (v := v) hst) ?_
  show zk_T zk_mt zk_ex Ls xs zm_194 (4, [(0, .ref 0), (1, .int (nI r))], [.int 0]) (zH (zb v 0 (upd (v 0) 10 0)) w t) _
  refine zk_T.br (f1 := (7, [(0, .ref 0), (1, .int (nI r))], [])) (f2 := (18, [(0, .ref 0), (1, .int (nI r))], [])) rfl (fun c1 => ?_) (fun c1 => absurd (by decide) (of_decide_eq_false c1))
  refine zk_T.adv 4 (f' := (12, [(0, .ref 0), (1, .int (nI r))], [.int 9, .int 0, .int (nI r), .ref 0])) (h' := zH (zb v 0 (upd (v 0) 10 0)) w t) rfl ?_
  refine zk_T.cl (v := some (.int 0)) (h' := zH (zb v 0 (upd (v 0) 10 0)) w t) rfl (zs_outside_f (nI r) 0 9 (nI_pos (by omega)) (show nI r ≤ nI 9 from nI_le (by omega) (by decide))) ?_
  show zk_T zk_mt zk_ex Ls xs zm_194 (15, [(0, .ref 0), (1, .int (nI r))], [.int 0]) (zH (zb v 0 (upd (v 0) 10 0)) w t) _
  refine zk_T.br (f1 := (22, [(0, .ref 0), (1, .int (nI r))], [])) (f2 := (18, [(0, .ref 0), (1, .int (nI r))], [])) rfl (fun c2 => ?_) (fun c2 => absurd (by decide) (of_decide_eq_false c2))
  refine zk_T.adv 1 (f' := (23, [(0, .ref 0), (1, .int (nI r))], [.int (nI r)])) (h' := zH (zb v 0 (upd (v 0) 10 0)) w t) rfl ?_
  refine zk_T.cl (v := some (.int (zr_cRests (nI r)))) (h' := zH (zb v 0 (upd (v 0) 10 0)) w t) rfl (zs_cRests (nI r)) ?_
  show zk_T zk_mt zk_ex Ls xs zm_194 (26, [(0, .ref 0), (1, .int (nI r))], [.int (zr_cRests (nI r))]) (zH (zb v 0 (upd (v 0) 10 0)) w t) _
  exact zk_T.rt rfl rfl (by rfl)
/-- BasketKeep.rest -/
theorem zK_rest_t (x : Int32) (hst : v 0 2 = 0) : zk_Cr zk_mt zk_ex Ls xs 193 [.ref 0, .int x] (zH v w t) (some (.int (-1)), zH (zb v 0 (upd (v 0) 10 1)) w t) := by
  refine zk_Cr.of (K := zm_193) rfl rfl rfl ?_
  show zk_T zk_mt zk_ex Ls xs zm_193 (0, [(0, .ref 0), (1, .int x)], []) (zH v w t) _
  refine zk_T.adv 1 (f' := (1, [(0, .ref 0), (1, .int x)], [.ref 0])) (h' := zH v w t) rfl ?_
  refine zk_T.cl (v := some (.int 1)) (h' := zH (zb v 0 (upd (v 0) 10 1)) w t) rfl (zs_noLevel_t (v := v) hst) ?_
  show zk_T zk_mt zk_ex Ls xs zm_193 (4, [(0, .ref 0), (1, .int x)], [.int 1]) (zH (zb v 0 (upd (v 0) 10 1)) w t) _
  refine zk_T.br (f1 := (7, [(0, .ref 0), (1, .int x)], [])) (f2 := (18, [(0, .ref 0), (1, .int x)], [])) rfl (fun c1 => absurd (of_decide_eq_true c1) (by decide)) (fun c1 => ?_)
  refine zk_T.adv 2 (f' := (26, [(0, .ref 0), (1, .int x)], [.int (-1)])) (h' := zH (zb v 0 (upd (v 0) 10 1)) w t) rfl ?_
  exact zk_T.rt rfl rfl (by rfl)
/-- BasketKeep.rest -/
theorem zK_rest_o (x : Int32) (hst : v 0 2 = 1) (ho : x < 0 ∨ 9 < x) : zk_Cr zk_mt zk_ex Ls xs 193 [.ref 0, .int x] (zH v w t) (some (.int (-1)), zH (zb v 0 (upd (v 0) 10 2)) w t) := by
  refine zk_Cr.of (K := zm_193) rfl rfl rfl ?_
  show zk_T zk_mt zk_ex Ls xs zm_193 (0, [(0, .ref 0), (1, .int x)], []) (zH v w t) _
  refine zk_T.adv 1 (f' := (1, [(0, .ref 0), (1, .int x)], [.ref 0])) (h' := zH v w t) rfl ?_
  refine zk_T.cl (v := some (.int 0)) (h' := zH (zb v 0 (upd (v 0) 10 0)) w t) rfl (zs_noLevel_f (v := v) hst) ?_
  show zk_T zk_mt zk_ex Ls xs zm_193 (4, [(0, .ref 0), (1, .int x)], [.int 0]) (zH (zb v 0 (upd (v 0) 10 0)) w t) _
  refine zk_T.br (f1 := (7, [(0, .ref 0), (1, .int x)], [])) (f2 := (18, [(0, .ref 0), (1, .int x)], [])) rfl (fun c1 => ?_) (fun c1 => absurd (by decide) (of_decide_eq_false c1))
  refine zk_T.adv 4 (f' := (12, [(0, .ref 0), (1, .int x)], [.int 9, .int 0, .int x, .ref 0])) (h' := zH (zb v 0 (upd (v 0) 10 0)) w t) rfl ?_
  refine zk_T.cl (v := some (.int 1)) (h' := zH (zb v 0 (upd (v 0) 10 2)) w t) rfl (zs_outside_t x 0 9 ho) ?_
  show zk_T zk_mt zk_ex Ls xs zm_193 (15, [(0, .ref 0), (1, .int x)], [.int 1]) (zH (zb v 0 (upd (v 0) 10 2)) w t) _
  refine zk_T.br (f1 := (22, [(0, .ref 0), (1, .int x)], [])) (f2 := (18, [(0, .ref 0), (1, .int x)], [])) rfl (fun c2 => absurd (of_decide_eq_true c2) (by decide)) (fun c2 => ?_)
  refine zk_T.adv 2 (f' := (26, [(0, .ref 0), (1, .int x)], [.int (-1)])) (h' := zH (zb v 0 (upd (v 0) 10 2)) w t) rfl ?_
  exact zk_T.rt rfl rfl (by rfl)
/-- BasketKeep.rest -/
theorem zK_rest_f (r : Nat) (hr : r ≤ 9) (hst : v 0 2 = 1) : zk_Cr zk_mt zk_ex Ls xs 193 [.ref 0, .int (nI r)] (zH v w t) (some (.int (zr_fRest (nI r))), zH (zb v 0 (upd (v 0) 10 0)) w t) := by
  refine zk_Cr.of (K := zm_193) rfl rfl rfl ?_
  show zk_T zk_mt zk_ex Ls xs zm_193 (0, [(0, .ref 0), (1, .int (nI r))], []) (zH v w t) _
  refine zk_T.adv 1 (f' := (1, [(0, .ref 0), (1, .int (nI r))], [.ref 0])) (h' := zH v w t) rfl ?_
  refine zk_T.cl (v := some (.int 0)) (h' := zH (zb v 0 (upd (v 0) 10 0)) w t) rfl (zs_noLevel_f (v := v) hst) ?_
  show zk_T zk_mt zk_ex Ls xs zm_193 (4, [(0, .ref 0), (1, .int (nI r))], [.int 0]) (zH (zb v 0 (upd (v 0) 10 0)) w t) _
  refine zk_T.br (f1 := (7, [(0, .ref 0), (1, .int (nI r))], [])) (f2 := (18, [(0, .ref 0), (1, .int (nI r))], [])) rfl (fun c1 => ?_) (fun c1 => absurd (by decide) (of_decide_eq_false c1))
  refine zk_T.adv 4 (f' := (12, [(0, .ref 0), (1, .int (nI r))], [.int 9, .int 0, .int (nI r), .ref 0])) (h' := zH (zb v 0 (upd (v 0) 10 0)) w t) rfl ?_
  refine zk_T.cl (v := some (.int 0)) (h' := zH (zb v 0 (upd (v 0) 10 0)) w t) rfl (zs_outside_f (nI r) 0 9 (nI_pos (by omega)) (show nI r ≤ nI 9 from nI_le (by omega) (by decide))) ?_
  show zk_T zk_mt zk_ex Ls xs zm_193 (15, [(0, .ref 0), (1, .int (nI r))], [.int 0]) (zH (zb v 0 (upd (v 0) 10 0)) w t) _
  refine zk_T.br (f1 := (22, [(0, .ref 0), (1, .int (nI r))], [])) (f2 := (18, [(0, .ref 0), (1, .int (nI r))], [])) rfl (fun c2 => ?_) (fun c2 => absurd (by decide) (of_decide_eq_false c2))
  refine zk_T.adv 1 (f' := (23, [(0, .ref 0), (1, .int (nI r))], [.int (nI r)])) (h' := zH (zb v 0 (upd (v 0) 10 0)) w t) rfl ?_
  refine zk_T.cl (v := some (.int (zr_fRest (nI r)))) (h' := zH (zb v 0 (upd (v 0) 10 0)) w t) rfl (zs_fRest (nI r)) ?_
  show zk_T zk_mt zk_ex Ls xs zm_193 (26, [(0, .ref 0), (1, .int (nI r))], [.int (zr_fRest (nI r))]) (zH (zb v 0 (upd (v 0) 10 0)) w t) _
  exact zk_T.rt rfl rfl (by rfl)
/-- BasketKeep.holds -/
theorem zK_holds_t (x p q y : Int32) (hst : v 0 2 = 0) : zk_Cr zk_mt zk_ex Ls xs 139 [.ref 0, .int x, .int p, .int q, .int y] (zH v w t) (some (.int (-100)), zH (zb v 0 (upd (v 0) 10 1)) w t) := by
  refine zk_Cr.of (K := zm_139) rfl rfl rfl ?_
  show zk_T zk_mt zk_ex Ls xs zm_139 (0, [(0, .ref 0), (1, .int x), (2, .int p), (3, .int q), (4, .int y)], []) (zH v w t) _
  refine zk_T.adv 1 (f' := (1, [(0, .ref 0), (1, .int x), (2, .int p), (3, .int q), (4, .int y)], [.ref 0])) (h' := zH v w t) rfl ?_
  refine zk_T.cl (v := some (.int 1)) (h' := zH (zb v 0 (upd (v 0) 10 1)) w t) rfl (zs_noLevel_t (v := v) hst) ?_
  show zk_T zk_mt zk_ex Ls xs zm_139 (4, [(0, .ref 0), (1, .int x), (2, .int p), (3, .int q), (4, .int y)], [.int 1]) (zH (zb v 0 (upd (v 0) 10 1)) w t) _
  refine zk_T.br (f1 := (7, [(0, .ref 0), (1, .int x), (2, .int p), (3, .int q), (4, .int y)], [])) (f2 := (18, [(0, .ref 0), (1, .int x), (2, .int p), (3, .int q), (4, .int y)], [])) rfl (fun c1 => absurd (of_decide_eq_true c1) (by decide)) (fun c1 => ?_)
  refine zk_T.adv 1 (f' := (20, [(0, .ref 0), (1, .int x), (2, .int p), (3, .int q), (4, .int y)], [.int (-100)])) (h' := zH (zb v 0 (upd (v 0) 10 1)) w t) rfl ?_
  exact zk_T.rt rfl rfl (by rfl)
/-- BasketKeep.holds -/
theorem zK_holds_o (x p q y : Int32) (hst : v 0 2 = 1) (ho : x < 0 ∨ 9 < x) : zk_Cr zk_mt zk_ex Ls xs 139 [.ref 0, .int x, .int p, .int q, .int y] (zH v w t) (some (.int (-100)), zH (zb v 0 (upd (v 0) 10 2)) w t) := by
  refine zk_Cr.of (K := zm_139) rfl rfl rfl ?_
  show zk_T zk_mt zk_ex Ls xs zm_139 (0, [(0, .ref 0), (1, .int x), (2, .int p), (3, .int q), (4, .int y)], []) (zH v w t) _
  refine zk_T.adv 1 (f' := (1, [(0, .ref 0), (1, .int x), (2, .int p), (3, .int q), (4, .int y)], [.ref 0])) (h' := zH v w t) rfl ?_
  refine zk_T.cl (v := some (.int 0)) (h' := zH (zb v 0 (upd (v 0) 10 0)) w t) rfl (zs_noLevel_f (v := v) hst) ?_
  show zk_T zk_mt zk_ex Ls xs zm_139 (4, [(0, .ref 0), (1, .int x), (2, .int p), (3, .int q), (4, .int y)], [.int 0]) (zH (zb v 0 (upd (v 0) 10 0)) w t) _
  refine zk_T.br (f1 := (7, [(0, .ref 0), (1, .int x), (2, .int p), (3, .int q), (4, .int y)], [])) (f2 := (18, [(0, .ref 0), (1, .int x), (2, .int p), (3, .int q), (4, .int y)], [])) rfl (fun c1 => ?_) (fun c1 => absurd (by decide) (of_decide_eq_false c1))
  refine zk_T.adv 4 (f' := (12, [(0, .ref 0), (1, .int x), (2, .int p), (3, .int q), (4, .int y)], [.int 9, .int 0, .int x, .ref 0])) (h' := zH (zb v 0 (upd (v 0) 10 0)) w t) rfl ?_
  refine zk_T.cl (v := some (.int 1)) (h' := zH (zb v 0 (upd (v 0) 10 2)) w t) rfl (zs_outside_t x 0 9 ho) ?_
  show zk_T zk_mt zk_ex Ls xs zm_139 (15, [(0, .ref 0), (1, .int x), (2, .int p), (3, .int q), (4, .int y)], [.int 1]) (zH (zb v 0 (upd (v 0) 10 2)) w t) _
  refine zk_T.br (f1 := (21, [(0, .ref 0), (1, .int x), (2, .int p), (3, .int q), (4, .int y)], [])) (f2 := (18, [(0, .ref 0), (1, .int x), (2, .int p), (3, .int q), (4, .int y)], [])) rfl (fun c2 => absurd (of_decide_eq_true c2) (by decide)) (fun c2 => ?_)
  refine zk_T.adv 1 (f' := (20, [(0, .ref 0), (1, .int x), (2, .int p), (3, .int q), (4, .int y)], [.int (-100)])) (h' := zH (zb v 0 (upd (v 0) 10 2)) w t) rfl ?_
  exact zk_T.rt rfl rfl (by rfl)
def zr_holdsK (r : Nat) (p q y : Int32) : Int32 := if y = 0 then (zr_share (nI r) p q) else (zr_share (nI r) q p)
/-- BasketKeep.holds -/
theorem zK_holds_f (r : Nat) (hr : r ≤ 9) (p q y : Int32) (hst : v 0 2 = 1) : zk_Cr zk_mt zk_ex Ls xs 139 [.ref 0, .int (nI r), .int p, .int q, .int y] (zH v w t) (some (.int (zr_holdsK r p q y)), zH (zb v 0 (upd (v 0) 10 0)) w t) := by
  refine zk_Cr.of (K := zm_139) rfl rfl rfl ?_
  show zk_T zk_mt zk_ex Ls xs zm_139 (0, [(0, .ref 0), (1, .int (nI r)), (2, .int p), (3, .int q), (4, .int y)], []) (zH v w t) _
  refine zk_T.adv 1 (f' := (1, [(0, .ref 0), (1, .int (nI r)), (2, .int p), (3, .int q), (4, .int y)], [.ref 0])) (h' := zH v w t) rfl ?_
  refine zk_T.cl (v := some (.int 0)) (h' := zH (zb v 0 (upd (v 0) 10 0)) w t) rfl (zs_noLevel_f (v := v) hst) ?_
  show zk_T zk_mt zk_ex Ls xs zm_139 (4, [(0, .ref 0), (1, .int (nI r)), (2, .int p), (3, .int q), (4, .int y)], [.int 0]) (zH (zb v 0 (upd (v 0) 10 0)) w t) _
  refine zk_T.br (f1 := (7, [(0, .ref 0), (1, .int (nI r)), (2, .int p), (3, .int q), (4, .int y)], [])) (f2 := (18, [(0, .ref 0), (1, .int (nI r)), (2, .int p), (3, .int q), (4, .int y)], [])) rfl (fun c1 => ?_) (fun c1 => absurd (by decide) (of_decide_eq_false c1))
  refine zk_T.adv 4 (f' := (12, [(0, .ref 0), (1, .int (nI r)), (2, .int p), (3, .int q), (4, .int y)], [.int 9, .int 0, .int (nI r), .ref 0])) (h' := zH (zb v 0 (upd (v 0) 10 0)) w t) rfl ?_
  refine zk_T.cl (v := some (.int 0)) (h' := zH (zb v 0 (upd (v 0) 10 0)) w t) rfl (zs_outside_f (nI r) 0 9 (nI_pos (by omega)) (show nI r ≤ nI 9 from nI_le (by omega) (by decide))) ?_
  show zk_T zk_mt zk_ex Ls xs zm_139 (15, [(0, .ref 0), (1, .int (nI r)), (2, .int p), (3, .int q), (4, .int y)], [.int 0]) (zH (zb v 0 (upd (v 0) 10 0)) w t) _
  refine zk_T.br (f1 := (21, [(0, .ref 0), (1, .int (nI r)), (2, .int p), (3, .int q), (4, .int y)], [])) (f2 := (18, [(0, .ref 0), (1, .int (nI r)), (2, .int p), (3, .int q), (4, .int y)], [])) rfl (fun c2 => ?_) (fun c2 => absurd (by decide) (of_decide_eq_false c2))
  refine zk_T.adv 1 (f' := (23, [(0, .ref 0), (1, .int (nI r)), (2, .int p), (3, .int q), (4, .int y)], [.int y])) (h' := zH (zb v 0 (upd (v 0) 10 0)) w t) rfl ?_
  refine zk_T.br (f1 := (35, [(0, .ref 0), (1, .int (nI r)), (2, .int p), (3, .int q), (4, .int y)], [])) (f2 := (26, [(0, .ref 0), (1, .int (nI r)), (2, .int p), (3, .int q), (4, .int y)], [])) rfl (fun c3 => ?_) (fun c3 => ?_)
  · have c3 : y = 0 := of_decide_eq_true c3
    refine zk_T.adv 3 (f' := (38, [(0, .ref 0), (1, .int (nI r)), (2, .int p), (3, .int q), (4, .int y)], [.int q, .int p, .int (nI r)])) (h' := zH (zb v 0 (upd (v 0) 10 0)) w t) rfl ?_
    refine zk_T.cl (v := some (.int (zr_share (nI r) p q))) (h' := zH (zb v 0 (upd (v 0) 10 0)) w t) rfl (zs_share (nI r) p q) ?_
    show zk_T zk_mt zk_ex Ls xs zm_139 (41, [(0, .ref 0), (1, .int (nI r)), (2, .int p), (3, .int q), (4, .int y)], [.int (zr_share (nI r) p q)]) (zH (zb v 0 (upd (v 0) 10 0)) w t) _
    exact zk_T.rt rfl rfl (by simp only [zr_holdsK, if_pos c3])
  · have c3 : ¬ (y = 0) := of_decide_eq_false c3
    refine zk_T.adv 3 (f' := (29, [(0, .ref 0), (1, .int (nI r)), (2, .int p), (3, .int q), (4, .int y)], [.int p, .int q, .int (nI r)])) (h' := zH (zb v 0 (upd (v 0) 10 0)) w t) rfl ?_
    refine zk_T.cl (v := some (.int (zr_share (nI r) q p))) (h' := zH (zb v 0 (upd (v 0) 10 0)) w t) rfl (zs_share (nI r) q p) ?_
    show zk_T zk_mt zk_ex Ls xs zm_139 (32, [(0, .ref 0), (1, .int (nI r)), (2, .int p), (3, .int q), (4, .int y)], [.int (zr_share (nI r) q p)]) (zH (zb v 0 (upd (v 0) 10 0)) w t) _
    refine zk_T.adv 1 (f' := (41, [(0, .ref 0), (1, .int (nI r)), (2, .int p), (3, .int q), (4, .int y)], [.int (zr_share (nI r) q p)])) (h' := zH (zb v 0 (upd (v 0) 10 0)) w t) rfl ?_
    exact zk_T.rt rfl rfl (by simp only [zr_holdsK, if_neg c3])
end Z38
