/-! a whole text: in the abstract, the class's read -/
def zp_read (tn : Nat → Nat) (ts : Nat → Int32) (tp : Nat → Nat) (tv : Nat → Int64) : Nat → Nat → Nat → Nat → Nat → Nat → Nat → (Nat → Nat → Int32) → (Nat → Int64) → (Nat × (Nat × Nat × Nat × Nat × Nat) × (Nat → Nat → Int32) × (Nat → Int64)) ⊕ (Int32 × Nat)
  | 0, k, _, _, _, _, _, _, _ => .inr (1, tp k)
  | n + 1, k, D, Mn, Gn, Un, bg, l, S => match zp_line tn ts tp tv k D Mn Gn Un bg l S with
    | .inr e => .inr e
    | .inl (k1, (D1, M1, G1, U1, b1), l1, S1) => if ts k1 = 0 then (if 0 < M1 ∧ 0 < G1 then .inl (k1, (D1, M1, G1, U1, b1), l1, S1) else .inr (6, tp k1)) else if ts k1 = 4 then zp_read tn ts tp tv n (tn k1) D1 M1 G1 U1 b1 l1 S1 else .inr (1, tp k1)
theorem zbd_inl {α β γ : Type} {x : α ⊕ β} {f : α → γ ⊕ β} {r : γ} (h : zbd x f = .inl r) : ∃ a, x = .inl a ∧ f a = .inl r := by
  cases x with
  | inl a => exact ⟨a, rfl, h⟩
  | inr e => cases h
theorem zp_levelL_bg {tn : Nat → Nat} {ts : Nat → Int32} {tp : Nat → Nat} {tv : Nat → Int64} {k D Mn Gn Un : Nat} {l : Nat → Nat → Int32} {S : Nat → Int64} {k1 D1 M1 G1 U1 b1 : Nat} {l1 : Nat → Nat → Int32} {S1 : Nat → Int64} (h : zp_levelL tn ts tp tv k D Mn Gn Un l S = .inl (k1, (D1, M1, G1, U1, b1), l1, S1)) : b1 = 1 := by
  unfold zp_levelL at h
  obtain ⟨_, _, h⟩ := zbd_inl h
  obtain ⟨_, _, h⟩ := zbd_inl h
  cases h
  rfl
theorem zp_dangerL_bg {tn : Nat → Nat} {ts : Nat → Int32} {tp : Nat → Nat} {tv : Nat → Int64} {k D Mn Gn Un : Nat} {l : Nat → Nat → Int32} {S : Nat → Int64} {k1 D1 M1 G1 U1 b1 : Nat} {l1 : Nat → Nat → Int32} {S1 : Nat → Int64} (h : zp_dangerL tn ts tp tv k D Mn Gn Un l S = .inl (k1, (D1, M1, G1, U1, b1), l1, S1)) : b1 = 1 := by
  unfold zp_dangerL at h
  obtain ⟨_, _, h⟩ := zbd_inl h
  obtain ⟨_, _, h⟩ := zbd_inl h
  obtain ⟨_, _, h⟩ := zbd_inl h
  obtain ⟨_, _, h⟩ := zbd_inl h
  obtain ⟨_, _, h⟩ := zbd_inl h
  cases h
  rfl
theorem zp_makerL_bg {tn : Nat → Nat} {ts : Nat → Int32} {tp : Nat → Nat} {tv : Nat → Int64} {k D Mn Gn Un : Nat} {l : Nat → Nat → Int32} {S : Nat → Int64} {k1 D1 M1 G1 U1 b1 : Nat} {l1 : Nat → Nat → Int32} {S1 : Nat → Int64} (h : zp_makerL tn ts tp tv k D Mn Gn Un l S = .inl (k1, (D1, M1, G1, U1, b1), l1, S1)) : b1 = 1 := by
  unfold zp_makerL at h
  obtain ⟨_, _, h⟩ := zbd_inl h
  obtain ⟨_, _, h⟩ := zbd_inl h
  obtain ⟨_, _, h⟩ := zbd_inl h
  obtain ⟨_, _, h⟩ := zbd_inl h
  obtain ⟨_, _, h⟩ := zbd_inl h
  obtain ⟨_, _, h⟩ := zbd_inl h
  cases h
  rfl
theorem zp_goodL_bg {tn : Nat → Nat} {ts : Nat → Int32} {tp : Nat → Nat} {tv : Nat → Int64} {k D Mn Gn Un : Nat} {l : Nat → Nat → Int32} {S : Nat → Int64} {k1 D1 M1 G1 U1 b1 : Nat} {l1 : Nat → Nat → Int32} {S1 : Nat → Int64} (h : zp_goodL tn ts tp tv k D Mn Gn Un l S = .inl (k1, (D1, M1, G1, U1, b1), l1, S1)) : b1 = 1 := by
  unfold zp_goodL at h
  obtain ⟨_, _, h⟩ := zbd_inl h
  obtain ⟨_, _, h⟩ := zbd_inl h
  obtain ⟨_, _, h⟩ := zbd_inl h
  obtain ⟨_, _, h⟩ := zbd_inl h
  obtain ⟨_, _, h⟩ := zbd_inl h
  cases h
  rfl
theorem zp_inL_bg {tn : Nat → Nat} {ts : Nat → Int32} {tp : Nat → Nat} {tv : Nat → Int64} {k D Mn Gn Un : Nat} {l : Nat → Nat → Int32} {S : Nat → Int64} {k1 D1 M1 G1 U1 b1 : Nat} {l1 : Nat → Nat → Int32} {S1 : Nat → Int64} (h : zp_inL tn ts tp tv k D Mn Gn Un l S = .inl (k1, (D1, M1, G1, U1, b1), l1, S1)) : b1 = 1 := by
  unfold zp_inL at h
  obtain ⟨_, _, h⟩ := zbd_inl h
  try dsimp only at h
  split at h
  · obtain ⟨_, _, h⟩ := zbd_inl h
    try dsimp only at h
    split at h
    · cases h; rfl
    · cases h
  · cases h
theorem zp_unsureL_bg {tn : Nat → Nat} {ts : Nat → Int32} {tp : Nat → Nat} {tv : Nat → Int64} {k D Mn Gn Un : Nat} {l : Nat → Nat → Int32} {S : Nat → Int64} {k1 D1 M1 G1 U1 b1 : Nat} {l1 : Nat → Nat → Int32} {S1 : Nat → Int64} (h : zp_unsureL tn ts tp tv k D Mn Gn Un l S = .inl (k1, (D1, M1, G1, U1, b1), l1, S1)) : b1 = 1 := by
  unfold zp_unsureL at h
  obtain ⟨_, _, h⟩ := zbd_inl h
  obtain ⟨_, _, h⟩ := zbd_inl h
  try dsimp only at h
  split at h
  · cases h; rfl
  · cases h
theorem zp_befellL_bg {tn : Nat → Nat} {ts : Nat → Int32} {tp : Nat → Nat} {tv : Nat → Int64} {k D Mn Gn Un : Nat} {l : Nat → Nat → Int32} {S : Nat → Int64} {k1 D1 M1 G1 U1 b1 : Nat} {l1 : Nat → Nat → Int32} {S1 : Nat → Int64} (h : zp_befellL tn ts tp tv k D Mn Gn Un l S = .inl (k1, (D1, M1, G1, U1, b1), l1, S1)) : b1 = 1 := by
  unfold zp_befellL at h
  obtain ⟨_, _, h⟩ := zbd_inl h
  try dsimp only at h
  split at h
  · obtain ⟨_, _, h⟩ := zbd_inl h
    obtain ⟨_, _, h⟩ := zbd_inl h
    cases h; rfl
  · cases h
theorem zp_line_bg {tn : Nat → Nat} {ts : Nat → Int32} {tp : Nat → Nat} {tv : Nat → Int64} {k D Mn Gn Un bg : Nat} {l : Nat → Nat → Int32} {S : Nat → Int64} {k1 D1 M1 G1 U1 b1 : Nat} {l1 : Nat → Nat → Int32} {S1 : Nat → Int64} (hb01 : bg = 0 ∨ bg = 1) (h : zp_line tn ts tp tv k D Mn Gn Un bg l S = .inl (k1, (D1, M1, G1, U1, b1), l1, S1)) : b1 = 0 ∨ b1 = 1 := by
  right
  unfold zp_line at h
  repeat' split at h
  all_goals first | exact zp_levelL_bg h | exact zp_dangerL_bg h | exact zp_makerL_bg h | exact zp_goodL_bg h | exact zp_inL_bg h | exact zp_unsureL_bg h | exact zp_befellL_bg h | (cases h; done)
section Z66
variable {Ls : Nat} {xs : Nat → Int32} {v : Nat → Nat → Int32} {w : Nat → Nat → Int64} {t : zk_H}
variable {tn : Nat → Nat} {ts : Nat → Int32} {tp : Nat → Nat} {tv : Nat → Int64} {E : Nat} {bb : Nat → Int32}
theorem zc_adv (hA : zk_Adv Ls xs tn ts tp tv E bb) (hE : v 2 2 = nI E) (hb : v 3 = bb) (h7 : ∀ e, e < 5 → v 7 e = 0 ∨ v 7 e = 1 ∨ v 7 e = 2) {k D Mn Gn Un bg : Nat} {l : Nat → Nat → Int32} {S : Nat → Int64} (hC : zCls tn ts tp tv E k D Mn Gn Un bg l S v w) : ∃ v' w', zk_Cr zk_mt zk_ex Ls xs 153 [.ref 2] (zH v w t) (none, zH v' w' t) ∧ zFr v w v' w' ∧ v' 1 9 = v 1 9 ∧ zCls tn ts tp tv E (tn k) D Mn Gn Un bg l S v' w' := by
  have e := hA.2 v w t k hb hE hC.1.1
  rw [zCls_w hC] at e
  rw [show zb v 2 (upd (upd (upd (v 2) 3 (nI (tn k))) 4 (ts k)) 5 (nI (tp k))) = v by
    rw [zu_same hC.1.2.1, zu_same hC.1.2.2.1, zu_same hC.1.2.2.2.1, zb_same]] at e
  refine ⟨_, _, e, ⟨fun r hr => zb_un (by omega), rfl, rfl, rfl, fun r a b => zb_un a, h7⟩, rfl, ?_⟩
  obtain ⟨⟨hk, _⟩, h17, hN, h12, h4, hU4, hl⟩ := hC
  exact ⟨⟨hA.1 k hk, rfl, rfl, rfl, rfl⟩, h17, hN, h12, h4, hU4, fun r a b => (zb_un (by omega)).trans (hl r a b)⟩
theorem zc_fail {x : Int32} (h7 : ∀ e, e < 5 → v 7 e = 0 ∨ v 7 e = 1 ∨ v 7 e = 2) {k D Mn Gn Un bg : Nat} {l : Nat → Nat → Int32} {S : Nat → Int64} (hC : zCls tn ts tp tv E k D Mn Gn Un bg l S v w) {res : (Nat × (Nat × Nat × Nat × Nat × Nat) × (Nat → Nat → Int32) × (Nat → Int64)) ⊕ (Int32 × Nat)} (hr : res = .inr (x, tp k)) : zQ tn ts tp tv E t v w res (some (.int 0), zH (zb v 1 (upd (upd (v 1) 9 x) 10 (v 2 5))) w t) := by
  refine zQ_no hr rfl ?_ ⟨fun r hr => zb_un (by omega), rfl, rfl, rfl, fun _ _ _ => rfl, h7⟩
  exact hC.1.2.2.2.1
theorem zn_rd (hA : zk_Adv Ls xs tn ts tp tv E bb) (hT : zt_ok tn ts tv E) (hE9 : E ≤ 900) : ∀ (n j : Nat), j + n = E + 1 → ∀ (k D Mn Gn Un bg : Nat) (l : Nat → Nat → Int32) (S : Nat → Int64) (v : Nat → Nat → Int32) (w : Nat → Nat → Int64), v 2 2 = nI E → v 3 = bb → (∀ j, j < 7 → w 16 j = zk_lw j) → (∀ e, e < 5 → v 7 e = 0 ∨ v 7 e = 1 ∨ v 7 e = 2) → (bg = 0 ∨ bg = 1) → zCls tn ts tp tv E k D Mn Gn Un bg l S v w → ∃ q, zQ tn ts tp tv E t v w (zp_read tn ts tp tv n k D Mn Gn Un bg l S) q ∧ ∀ Q : Option Value × zk_H → Prop, Q q → zx zk_mt zk_ex Ls xs zm_303 (37, [(0, .ref 1), (1, .int (nI E)), (2, .int (nI j))], []) (zH v w t) Q := by
  intro n
  induction n with
  | zero =>
    intro j hj k D Mn Gn Un bg l S v w hE hb hw h7 hb01 hC
    refine ⟨_, zc_fail (x := 1) h7 hC rfl, fun Q hq => ?_⟩
    refine zx.adv 2 (f' := (39, [(0, .ref 1), (1, .int (nI E)), (2, .int (nI j))], [.int (nI E), .int (nI j)])) (h' := zH v w t) rfl ?_
    refine zx.br (f1 := (126, [(0, .ref 1), (1, .int (nI E)), (2, .int (nI j))], [])) (f2 := (42, [(0, .ref 1), (1, .int (nI E)), (2, .int (nI j))], [])) rfl (fun c1 => ?_) (fun c1 => absurd (nI_lt (by omega) (by omega)) (of_decide_eq_false c1))
    refine zx.adv 2 (f' := (128, [(0, .ref 1), (1, .int (nI E)), (2, .int (nI j))], [.int 1, .ref 1])) (h' := zH v w t) rfl ?_
    refine zx.cl (v := some (.int 0)) (h' := zH (zb v 1 (upd (upd (v 1) 9 1) 10 (v 2 5))) w t) rfl (zs_fail (v := v) (w := w) 1) ?_
    show zx zk_mt zk_ex Ls xs zm_303 (131, [(0, .ref 1), (1, .int (nI E)), (2, .int (nI j))], [.int 0]) (zH (zb v 1 (upd (upd (v 1) 9 1) 10 (v 2 5))) w t) _
    exact zx.rt rfl rfl hq
  | succ n ih =>
    intro j hj k D Mn Gn Un bg l S v w hE hb hw h7 hb01 hC
    obtain ⟨q1, h1, v1, w1, hf1, hm1⟩ := zc_line (t := t) hA hE hb hT hw h7 hC hb01
    unfold zp_read
    cases hl : zp_line tn ts tp tv k D Mn Gn Un bg l S with
    | inr e =>
      obtain ⟨f, p⟩ := e
      rw [hl] at hm1
      obtain ⟨rfl, m2, m3⟩ : q1 = (some (.int 0), zH v1 w1 t) ∧ v1 1 9 = f ∧ v1 1 10 = nI p := hm1
      refine ⟨(some (.int 0), zH v1 w1 t), ⟨v1, w1, hf1, rfl, m2, m3⟩, fun Q hq => ?_⟩
      refine zx.adv 2 (f' := (39, [(0, .ref 1), (1, .int (nI E)), (2, .int (nI j))], [.int (nI E), .int (nI j)])) (h' := zH v w t) rfl ?_
      refine zx.br (f1 := (126, [(0, .ref 1), (1, .int (nI E)), (2, .int (nI j))], [])) (f2 := (42, [(0, .ref 1), (1, .int (nI E)), (2, .int (nI j))], [])) rfl (fun c1 => absurd (of_decide_eq_true c1) (nI_nlt (by omega) (by omega))) (fun c1 => ?_)
      refine zx.adv 1 (f' := (43, [(0, .ref 1), (1, .int (nI E)), (2, .int (nI j))], [.ref 1])) (h' := zH v w t) rfl ?_
      refine zx.cl (v := some (.int 0)) (h' := zH v1 w1 t) rfl h1 ?_
      show zx zk_mt zk_ex Ls xs zm_303 (46, [(0, .ref 1), (1, .int (nI E)), (2, .int (nI j))], [.int 0]) (zH v1 w1 t) _
      refine zx.br (f1 := (49, [(0, .ref 1), (1, .int (nI E)), (2, .int (nI j))], [])) (f2 := (51, [(0, .ref 1), (1, .int (nI E)), (2, .int (nI j))], [])) rfl (fun c2 => ?_) (fun c2 => absurd (by decide) (of_decide_eq_false c2))
      refine zx.adv 1 (f' := (50, [(0, .ref 1), (1, .int (nI E)), (2, .int (nI j))], [.int 0])) (h' := zH v1 w1 t) rfl ?_
      exact zx.rt rfl rfl hq
    | inl a =>
      obtain ⟨k1, ⟨D1, M1, G1, U1, b1⟩, l1, S1⟩ := a
      rw [hl] at hm1
      obtain ⟨rfl, m2, hC1⟩ : q1 = (some (.int 1), zH v1 w1 t) ∧ v1 1 9 = v 1 9 ∧ zCls tn ts tp tv E k1 D1 M1 G1 U1 b1 l1 S1 v1 w1 := hm1
      have h71 := hf1.2.2.2.2.2
      have hcs := hC1.1.2.2.1
      have hc44 := hC1.2.2.2.2.1.2.1
      have hc48 := hC1.2.2.2.2.1.2.2.1
      have hcb := hC1.2.2.1.1
      dsimp only
      by_cases h0 : ts k1 = 0
      · rw [if_pos h0]
        by_cases hM0 : 0 < M1
        · by_cases hG0 : 0 < G1
          · rw [if_pos ⟨hM0, hG0⟩]
            refine ⟨(some (.int 1), zH v1 w1 t), ⟨v1, w1, hf1, rfl, m2, hC1⟩, fun Q hq => ?_⟩
            refine zx.adv 2 (f' := (39, [(0, .ref 1), (1, .int (nI E)), (2, .int (nI j))], [.int (nI E), .int (nI j)])) (h' := zH v w t) rfl ?_
            refine zx.br (f1 := (126, [(0, .ref 1), (1, .int (nI E)), (2, .int (nI j))], [])) (f2 := (42, [(0, .ref 1), (1, .int (nI E)), (2, .int (nI j))], [])) rfl (fun c1 => absurd (of_decide_eq_true c1) (nI_nlt (by omega) (by omega))) (fun c1 => ?_)
            refine zx.adv 1 (f' := (43, [(0, .ref 1), (1, .int (nI E)), (2, .int (nI j))], [.ref 1])) (h' := zH v w t) rfl ?_
            refine zx.cl (v := some (.int 1)) (h' := zH v1 w1 t) rfl h1 ?_
            show zx zk_mt zk_ex Ls xs zm_303 (46, [(0, .ref 1), (1, .int (nI E)), (2, .int (nI j))], [.int 1]) (zH v1 w1 t) _
            refine zx.br (f1 := (49, [(0, .ref 1), (1, .int (nI E)), (2, .int (nI j))], [])) (f2 := (51, [(0, .ref 1), (1, .int (nI E)), (2, .int (nI j))], [])) rfl (fun c2 => absurd (of_decide_eq_true c2) (by decide)) (fun c2 => ?_)
            refine zx.adv 3 (f' := (58, [(0, .ref 1), (1, .int (nI E)), (2, .int (nI j))], [.int (v1 2 4)])) (h' := zH v1 w1 t) rfl ?_
            rw [show (v1 2 4) = ts k1 from hcs]
            refine zx.br (f1 := (61, [(0, .ref 1), (1, .int (nI E)), (2, .int (nI j))], [])) (f2 := (96, [(0, .ref 1), (1, .int (nI E)), (2, .int (nI j))], [])) rfl (fun c3 => ?_) (fun c3 => absurd h0 (of_decide_eq_false c3))
            refine zx.adv 3 (f' := (68, [(0, .ref 1), (1, .int (nI E)), (2, .int (nI j))], [.int (v1 4 4)])) (h' := zH v1 w1 t) rfl ?_
            rw [show (v1 4 4) = nI M1 from hc44]
            refine zx.br (f1 := (81, [(0, .ref 1), (1, .int (nI E)), (2, .int (nI j))], [])) (f2 := (71, [(0, .ref 1), (1, .int (nI E)), (2, .int (nI j))], [])) rfl (fun c4 => absurd (of_decide_eq_true c4) (nI_nle hM0 (by omega))) (fun c4 => ?_)
            refine zx.adv 3 (f' := (78, [(0, .ref 1), (1, .int (nI E)), (2, .int (nI j))], [.int (v1 4 8)])) (h' := zH v1 w1 t) rfl ?_
            rw [show (v1 4 8) = nI G1 from hc48]
            refine zx.br (f1 := (90, [(0, .ref 1), (1, .int (nI E)), (2, .int (nI j))], [])) (f2 := (81, [(0, .ref 1), (1, .int (nI E)), (2, .int (nI j))], [])) rfl (fun c5 => ?_) (fun c5 => absurd (show (0 : Int32) < nI G1 from nI_lt (a := 0) hG0 (by omega)) (of_decide_eq_false c5))
            refine zx.adv 2 (f' := (95, [(0, .ref 1), (1, .int (nI E)), (2, .int (nI j))], [.int 1])) (h' := zH v1 w1 t) rfl ?_
            exact zx.rt rfl rfl hq
          · rw [if_neg (fun z => hG0 z.2)]
            refine ⟨_, zQ.trans hf1 m2 (zc_fail (x := 6) h71 hC1 rfl), fun Q hq => ?_⟩
            refine zx.adv 2 (f' := (39, [(0, .ref 1), (1, .int (nI E)), (2, .int (nI j))], [.int (nI E), .int (nI j)])) (h' := zH v w t) rfl ?_
            refine zx.br (f1 := (126, [(0, .ref 1), (1, .int (nI E)), (2, .int (nI j))], [])) (f2 := (42, [(0, .ref 1), (1, .int (nI E)), (2, .int (nI j))], [])) rfl (fun c1 => absurd (of_decide_eq_true c1) (nI_nlt (by omega) (by omega))) (fun c1 => ?_)
            refine zx.adv 1 (f' := (43, [(0, .ref 1), (1, .int (nI E)), (2, .int (nI j))], [.ref 1])) (h' := zH v w t) rfl ?_
            refine zx.cl (v := some (.int 1)) (h' := zH v1 w1 t) rfl h1 ?_
            show zx zk_mt zk_ex Ls xs zm_303 (46, [(0, .ref 1), (1, .int (nI E)), (2, .int (nI j))], [.int 1]) (zH v1 w1 t) _
            refine zx.br (f1 := (49, [(0, .ref 1), (1, .int (nI E)), (2, .int (nI j))], [])) (f2 := (51, [(0, .ref 1), (1, .int (nI E)), (2, .int (nI j))], [])) rfl (fun c2 => absurd (of_decide_eq_true c2) (by decide)) (fun c2 => ?_)
            refine zx.adv 3 (f' := (58, [(0, .ref 1), (1, .int (nI E)), (2, .int (nI j))], [.int (v1 2 4)])) (h' := zH v1 w1 t) rfl ?_
            rw [show (v1 2 4) = ts k1 from hcs]
            refine zx.br (f1 := (61, [(0, .ref 1), (1, .int (nI E)), (2, .int (nI j))], [])) (f2 := (96, [(0, .ref 1), (1, .int (nI E)), (2, .int (nI j))], [])) rfl (fun c3 => ?_) (fun c3 => absurd h0 (of_decide_eq_false c3))
            refine zx.adv 3 (f' := (68, [(0, .ref 1), (1, .int (nI E)), (2, .int (nI j))], [.int (v1 4 4)])) (h' := zH v1 w1 t) rfl ?_
            rw [show (v1 4 4) = nI M1 from hc44]
            refine zx.br (f1 := (81, [(0, .ref 1), (1, .int (nI E)), (2, .int (nI j))], [])) (f2 := (71, [(0, .ref 1), (1, .int (nI E)), (2, .int (nI j))], [])) rfl (fun c4 => absurd (of_decide_eq_true c4) (nI_nle hM0 (by omega))) (fun c4 => ?_)
            refine zx.adv 3 (f' := (78, [(0, .ref 1), (1, .int (nI E)), (2, .int (nI j))], [.int (v1 4 8)])) (h' := zH v1 w1 t) rfl ?_
            rw [show (v1 4 8) = nI G1 from hc48]
            refine zx.br (f1 := (90, [(0, .ref 1), (1, .int (nI E)), (2, .int (nI j))], [])) (f2 := (81, [(0, .ref 1), (1, .int (nI E)), (2, .int (nI j))], [])) rfl (fun c5 => absurd (of_decide_eq_true c5) (show ¬ (0 : Int32) < nI G1 by rw [show G1 = 0 by omega]; decide)) (fun c5 => ?_)
            refine zx.adv 2 (f' := (84, [(0, .ref 1), (1, .int (nI E)), (2, .int (nI j))], [.int 6, .ref 1])) (h' := zH v1 w1 t) rfl ?_
            refine zx.cl (v := some (.int 0)) (h' := zH (zb v1 1 (upd (upd (v1 1) 9 6) 10 (v1 2 5))) w1 t) rfl (zs_fail (v := v1) (w := w1) 6) ?_
            show zx zk_mt zk_ex Ls xs zm_303 (87, [(0, .ref 1), (1, .int (nI E)), (2, .int (nI j))], [.int 0]) (zH (zb v1 1 (upd (upd (v1 1) 9 6) 10 (v1 2 5))) w1 t) _
            refine zx.br (f1 := (94, [(0, .ref 1), (1, .int (nI E)), (2, .int (nI j))], [])) (f2 := (90, [(0, .ref 1), (1, .int (nI E)), (2, .int (nI j))], [])) rfl (fun c6 => ?_) (fun c6 => absurd (by decide) (of_decide_eq_false c6))
            refine zx.adv 1 (f' := (95, [(0, .ref 1), (1, .int (nI E)), (2, .int (nI j))], [.int 0])) (h' := zH (zb v1 1 (upd (upd (v1 1) 9 6) 10 (v1 2 5))) w1 t) rfl ?_
            exact zx.rt rfl rfl hq
        · rw [if_neg (fun z => hM0 z.1)]
          refine ⟨_, zQ.trans hf1 m2 (zc_fail (x := 6) h71 hC1 rfl), fun Q hq => ?_⟩
          refine zx.adv 2 (f' := (39, [(0, .ref 1), (1, .int (nI E)), (2, .int (nI j))], [.int (nI E), .int (nI j)])) (h' := zH v w t) rfl ?_
          refine zx.br (f1 := (126, [(0, .ref 1), (1, .int (nI E)), (2, .int (nI j))], [])) (f2 := (42, [(0, .ref 1), (1, .int (nI E)), (2, .int (nI j))], [])) rfl (fun c1 => absurd (of_decide_eq_true c1) (nI_nlt (by omega) (by omega))) (fun c1 => ?_)
          refine zx.adv 1 (f' := (43, [(0, .ref 1), (1, .int (nI E)), (2, .int (nI j))], [.ref 1])) (h' := zH v w t) rfl ?_
          refine zx.cl (v := some (.int 1)) (h' := zH v1 w1 t) rfl h1 ?_
          show zx zk_mt zk_ex Ls xs zm_303 (46, [(0, .ref 1), (1, .int (nI E)), (2, .int (nI j))], [.int 1]) (zH v1 w1 t) _
          refine zx.br (f1 := (49, [(0, .ref 1), (1, .int (nI E)), (2, .int (nI j))], [])) (f2 := (51, [(0, .ref 1), (1, .int (nI E)), (2, .int (nI j))], [])) rfl (fun c2 => absurd (of_decide_eq_true c2) (by decide)) (fun c2 => ?_)
          refine zx.adv 3 (f' := (58, [(0, .ref 1), (1, .int (nI E)), (2, .int (nI j))], [.int (v1 2 4)])) (h' := zH v1 w1 t) rfl ?_
          rw [show (v1 2 4) = ts k1 from hcs]
          refine zx.br (f1 := (61, [(0, .ref 1), (1, .int (nI E)), (2, .int (nI j))], [])) (f2 := (96, [(0, .ref 1), (1, .int (nI E)), (2, .int (nI j))], [])) rfl (fun c3 => ?_) (fun c3 => absurd h0 (of_decide_eq_false c3))
          refine zx.adv 3 (f' := (68, [(0, .ref 1), (1, .int (nI E)), (2, .int (nI j))], [.int (v1 4 4)])) (h' := zH v1 w1 t) rfl ?_
          rw [show (v1 4 4) = nI M1 from hc44]
          refine zx.br (f1 := (81, [(0, .ref 1), (1, .int (nI E)), (2, .int (nI j))], [])) (f2 := (71, [(0, .ref 1), (1, .int (nI E)), (2, .int (nI j))], [])) rfl (fun c4 => ?_) (fun c4 => absurd (show nI M1 ≤ 0 by rw [show M1 = 0 by omega]; decide) (of_decide_eq_false c4))
          refine zx.adv 2 (f' := (84, [(0, .ref 1), (1, .int (nI E)), (2, .int (nI j))], [.int 6, .ref 1])) (h' := zH v1 w1 t) rfl ?_
          refine zx.cl (v := some (.int 0)) (h' := zH (zb v1 1 (upd (upd (v1 1) 9 6) 10 (v1 2 5))) w1 t) rfl (zs_fail (v := v1) (w := w1) 6) ?_
          show zx zk_mt zk_ex Ls xs zm_303 (87, [(0, .ref 1), (1, .int (nI E)), (2, .int (nI j))], [.int 0]) (zH (zb v1 1 (upd (upd (v1 1) 9 6) 10 (v1 2 5))) w1 t) _
          refine zx.br (f1 := (94, [(0, .ref 1), (1, .int (nI E)), (2, .int (nI j))], [])) (f2 := (90, [(0, .ref 1), (1, .int (nI E)), (2, .int (nI j))], [])) rfl (fun c5 => ?_) (fun c5 => absurd (by decide) (of_decide_eq_false c5))
          refine zx.adv 1 (f' := (95, [(0, .ref 1), (1, .int (nI E)), (2, .int (nI j))], [.int 0])) (h' := zH (zb v1 1 (upd (upd (v1 1) 9 6) 10 (v1 2 5))) w1 t) rfl ?_
          exact zx.rt rfl rfl hq
      · rw [if_neg h0]
        by_cases h4 : ts k1 = 4
        · rw [if_pos h4]
          obtain ⟨v2, w2, h2, hf2, m4, hC2⟩ := zc_adv (t := t) hA (hf1.2.2.2.1.trans hE) (hf1.2.1.trans hb) h71 hC1
          obtain ⟨q, hz, hQ⟩ := ih (j + 1) (by omega) (tn k1) D1 M1 G1 U1 b1 l1 S1 v2 w2 (hf2.2.2.2.1.trans (hf1.2.2.2.1.trans hE)) (hf2.2.1.trans (hf1.2.1.trans hb)) (fun i hi => by rw [hf2.2.2.2.2.1 16 (by decide) (by decide), hf1.2.2.2.2.1 16 (by decide) (by decide)]; exact hw i hi) hf2.2.2.2.2.2 (zp_line_bg hb01 hl) hC2
          refine ⟨q, zQ.trans hf1 m2 (zQ.trans hf2 m4 hz), fun Q hq => ?_⟩
          refine zx.adv 2 (f' := (39, [(0, .ref 1), (1, .int (nI E)), (2, .int (nI j))], [.int (nI E), .int (nI j)])) (h' := zH v w t) rfl ?_
          refine zx.br (f1 := (126, [(0, .ref 1), (1, .int (nI E)), (2, .int (nI j))], [])) (f2 := (42, [(0, .ref 1), (1, .int (nI E)), (2, .int (nI j))], [])) rfl (fun c1 => absurd (of_decide_eq_true c1) (nI_nlt (by omega) (by omega))) (fun c1 => ?_)
          refine zx.adv 1 (f' := (43, [(0, .ref 1), (1, .int (nI E)), (2, .int (nI j))], [.ref 1])) (h' := zH v w t) rfl ?_
          refine zx.cl (v := some (.int 1)) (h' := zH v1 w1 t) rfl h1 ?_
          show zx zk_mt zk_ex Ls xs zm_303 (46, [(0, .ref 1), (1, .int (nI E)), (2, .int (nI j))], [.int 1]) (zH v1 w1 t) _
          refine zx.br (f1 := (49, [(0, .ref 1), (1, .int (nI E)), (2, .int (nI j))], [])) (f2 := (51, [(0, .ref 1), (1, .int (nI E)), (2, .int (nI j))], [])) rfl (fun c2 => absurd (of_decide_eq_true c2) (by decide)) (fun c2 => ?_)
          refine zx.adv 3 (f' := (58, [(0, .ref 1), (1, .int (nI E)), (2, .int (nI j))], [.int (v1 2 4)])) (h' := zH v1 w1 t) rfl ?_
          rw [show (v1 2 4) = ts k1 from hcs]
          refine zx.br (f1 := (61, [(0, .ref 1), (1, .int (nI E)), (2, .int (nI j))], [])) (f2 := (96, [(0, .ref 1), (1, .int (nI E)), (2, .int (nI j))], [])) rfl (fun c3 => absurd (of_decide_eq_true c3) h0) (fun c3 => ?_)
          refine zx.adv 3 (f' := (103, [(0, .ref 1), (1, .int (nI E)), (2, .int (nI j))], [.int (v1 2 4)])) (h' := zH v1 w1 t) rfl ?_
          rw [show (v1 2 4) = ts k1 from hcs]
          refine zx.adv 1 (f' := (104, [(0, .ref 1), (1, .int (nI E)), (2, .int (nI j))], [.int 4, .int (ts k1)])) (h' := zH v1 w1 t) rfl ?_
          refine zx.br (f1 := (113, [(0, .ref 1), (1, .int (nI E)), (2, .int (nI j))], [])) (f2 := (107, [(0, .ref 1), (1, .int (nI E)), (2, .int (nI j))], [])) rfl (fun c4 => ?_) (fun c4 => absurd h4 (of_decide_eq_false c4))
          refine zx.adv 2 (f' := (117, [(0, .ref 1), (1, .int (nI E)), (2, .int (nI j))], [.ref 2])) (h' := zH v1 w1 t) rfl ?_
          refine zx.cl (v := none) (h' := zH v2 w2 t) rfl h2 ?_
          show zx zk_mt zk_ex Ls xs zm_303 (120, [(0, .ref 1), (1, .int (nI E)), (2, .int (nI j))], []) (zH v2 w2 t) _
          refine zx.adv 1 (f' := (123, [(0, .ref 1), (1, .int (nI E)), (2, .int ((nI j) + 1))], [])) (h' := zH v2 w2 t) rfl ?_
          rw [show (nI j) + 1 = nI (j + 1) from nI_add j 1]
          refine zx.adv 1 (f' := (37, [(0, .ref 1), (1, .int (nI E)), (2, .int (nI (j + 1)))], [])) (h' := zH v2 w2 t) rfl ?_
          exact hQ Q hq
        · rw [if_neg h4]
          refine ⟨_, zQ.trans hf1 m2 (zc_fail (x := 1) h71 hC1 rfl), fun Q hq => ?_⟩
          refine zx.adv 2 (f' := (39, [(0, .ref 1), (1, .int (nI E)), (2, .int (nI j))], [.int (nI E), .int (nI j)])) (h' := zH v w t) rfl ?_
          refine zx.br (f1 := (126, [(0, .ref 1), (1, .int (nI E)), (2, .int (nI j))], [])) (f2 := (42, [(0, .ref 1), (1, .int (nI E)), (2, .int (nI j))], [])) rfl (fun c1 => absurd (of_decide_eq_true c1) (nI_nlt (by omega) (by omega))) (fun c1 => ?_)
          refine zx.adv 1 (f' := (43, [(0, .ref 1), (1, .int (nI E)), (2, .int (nI j))], [.ref 1])) (h' := zH v w t) rfl ?_
          refine zx.cl (v := some (.int 1)) (h' := zH v1 w1 t) rfl h1 ?_
          show zx zk_mt zk_ex Ls xs zm_303 (46, [(0, .ref 1), (1, .int (nI E)), (2, .int (nI j))], [.int 1]) (zH v1 w1 t) _
          refine zx.br (f1 := (49, [(0, .ref 1), (1, .int (nI E)), (2, .int (nI j))], [])) (f2 := (51, [(0, .ref 1), (1, .int (nI E)), (2, .int (nI j))], [])) rfl (fun c2 => absurd (of_decide_eq_true c2) (by decide)) (fun c2 => ?_)
          refine zx.adv 3 (f' := (58, [(0, .ref 1), (1, .int (nI E)), (2, .int (nI j))], [.int (v1 2 4)])) (h' := zH v1 w1 t) rfl ?_
          rw [show (v1 2 4) = ts k1 from hcs]
          refine zx.br (f1 := (61, [(0, .ref 1), (1, .int (nI E)), (2, .int (nI j))], [])) (f2 := (96, [(0, .ref 1), (1, .int (nI E)), (2, .int (nI j))], [])) rfl (fun c3 => absurd (of_decide_eq_true c3) h0) (fun c3 => ?_)
          refine zx.adv 3 (f' := (103, [(0, .ref 1), (1, .int (nI E)), (2, .int (nI j))], [.int (v1 2 4)])) (h' := zH v1 w1 t) rfl ?_
          rw [show (v1 2 4) = ts k1 from hcs]
          refine zx.adv 1 (f' := (104, [(0, .ref 1), (1, .int (nI E)), (2, .int (nI j))], [.int 4, .int (ts k1)])) (h' := zH v1 w1 t) rfl ?_
          refine zx.br (f1 := (113, [(0, .ref 1), (1, .int (nI E)), (2, .int (nI j))], [])) (f2 := (107, [(0, .ref 1), (1, .int (nI E)), (2, .int (nI j))], [])) rfl (fun c4 => absurd (of_decide_eq_true c4) h4) (fun c4 => ?_)
          refine zx.adv 2 (f' := (109, [(0, .ref 1), (1, .int (nI E)), (2, .int (nI j))], [.int 1, .ref 1])) (h' := zH v1 w1 t) rfl ?_
          refine zx.cl (v := some (.int 0)) (h' := zH (zb v1 1 (upd (upd (v1 1) 9 1) 10 (v1 2 5))) w1 t) rfl (zs_fail (v := v1) (w := w1) 1) ?_
          show zx zk_mt zk_ex Ls xs zm_303 (112, [(0, .ref 1), (1, .int (nI E)), (2, .int (nI j))], [.int 0]) (zH (zb v1 1 (upd (upd (v1 1) 9 1) 10 (v1 2 5))) w1 t) _
          exact zx.rt rfl rfl hq
end Z66
