/-! the class's small reading steps, each beside the abstract one -/
theorem zb_un {α : Type} {v : Nat → Nat → α} {k r : Nat} {f : Nat → α} (h : r ≠ k) : zb v k f r = v r := by
  unfold zb
  rw [show Nat.beq r k = false from Bool.eq_false_iff.mpr (fun z => h (Nat.eq_of_beq_eq_true z))]; rfl
theorem zL_same {f : Nat → Int64} {i : Nat} {x : Int64} (h : f i = x) : vp_updL f i x = f := by
  funext j
  by_cases hj : j = i
  · subst hj; rw [zL_us]; exact h.symm
  · rw [zL_un hj]
/-- what holds of the tokens -/
def zt_ok (tn : Nat → Nat) (ts : Nat → Int32) (tv : Nat → Int64) (E : Nat) : Prop := (∀ k, k ≤ E → ts k = 2 → tv k ≠ 0) ∧ (∀ k, k ≤ E → ts k = 3 → ∃ m, m < 1000 ∧ tv k = (nI m).toInt64) ∧ (∀ k, k ≤ E → ts k ≠ 0 → k < tn k)
theorem zq_sp {so : Int32} {va c : Int64} : (so = 2 ∧ va = c ∧ zr_spells so va c = 1) ∨ (¬ (so = 2 ∧ va = c) ∧ zr_spells so va c = 0) := by
  unfold zr_spells
  by_cases h1 : so = 2
  · rw [if_pos h1]
    by_cases h2 : va = c
    · rw [if_pos (zp_cmp.mpr h2)]; exact Or.inl ⟨h1, h2, rfl⟩
    · rw [if_neg (fun z => h2 (zp_cmp.mp z))]; exact Or.inr ⟨fun z => h2 z.2, rfl⟩
  · rw [if_neg h1]; exact Or.inr ⟨fun z => h1 z.1, rfl⟩
theorem zq_kw {tn : Nat → Nat} {ts : Nat → Int32} {tp : Nat → Nat} {tv : Nat → Int64} {k : Nat} {c : Int64} {fl pl : Int32} : (zp_kw tn ts tp tv c k = .inl (tn k) ∧ zr_kw tn ts tp tv k c fl pl = (1, tn k, fl, pl)) ∨ (zp_kw tn ts tp tv c k = .inr (1, tp k) ∧ zr_kw tn ts tp tv k c fl pl = (0, k, 1, nI (tp k))) := by
  unfold zp_kw zr_kw
  rcases zq_sp (so := ts k) (va := tv k) (c := c) with ⟨h1, h2, h3⟩ | ⟨h1, h3⟩
  · rw [if_pos ⟨h1, h2⟩, h3, if_neg (by decide)]; exact Or.inl ⟨rfl, rfl⟩
  · rw [if_neg h1, h3, if_pos rfl]; exact Or.inr ⟨rfl, rfl⟩
theorem zp_lcmp {a b : Nat} (ha : a < 2 ^ 31) (hb : b < 2 ^ 31) : (lg_cmp ((nI a).toInt64) ((nI b).toInt64) < 0 ↔ a < b) ∧ (lg_cmp ((nI a).toInt64) ((nI b).toInt64) ≤ 0 ↔ a ≤ b) := by
  rw [nI_l ha, nI_l hb]
  unfold lg_cmp
  have e1 : lN a > lN b ↔ b < a := pk_lLT (by omega) (by omega)
  have e2 : lN a = lN b ↔ a = b := pk_lEQ (by omega) (by omega)
  by_cases h1 : b < a
  · rw [if_pos (e1.mpr h1)]
    exact ⟨⟨fun z => absurd z (by decide), fun z => by omega⟩, ⟨fun z => absurd z (by decide), fun z => by omega⟩⟩
  · rw [if_neg (fun z => h1 (e1.mp z))]
    by_cases h2 : a = b
    · rw [if_pos (e2.mpr h2)]
      exact ⟨⟨fun z => absurd z (by decide), fun z => by omega⟩, ⟨fun _ => by omega, fun _ => by decide⟩⟩
    · rw [if_neg (fun z => h2 (e2.mp z))]
      exact ⟨⟨fun _ => by omega, fun _ => by decide⟩, ⟨fun _ => by omega, fun _ => by decide⟩⟩
theorem zq_num {tn : Nat → Nat} {ts : Nat → Int32} {tp : Nat → Nat} {tv : Nat → Int64} {k E lo hi : Nat} {tk fl pl : Int32} (hT : zt_ok tn ts tv E) (hk : k ≤ E) (hlo : lo < 2 ^ 31) (hhi : hi < 2 ^ 31) : (∃ x, lo ≤ x ∧ x ≤ hi ∧ zp_num tn ts tp tv lo hi k = .inl (tn k, x) ∧ zr_tww tn ts tp tv k (nI lo) (nI hi) tk fl pl = (1, tn k, nI x, fl, pl)) ∨ ∃ f, zp_num tn ts tp tv lo hi k = .inr (f, tp k) ∧ zr_tww tn ts tp tv k (nI lo) (nI hi) tk fl pl = (0, k, tk, f, nI (tp k)) := by
  unfold zp_num zr_tww
  by_cases h3 : ts k = 3
  · rw [if_pos h3, if_pos h3]
    obtain ⟨m, hm, hv⟩ := hT.2.1 k hk h3
    rw [hv, Int32.toInt32_toInt64, nI_clamp (by omega)]
    obtain ⟨e1, _⟩ := zp_lcmp (a := m) (b := lo) (by omega) hlo
    obtain ⟨_, e2⟩ := zp_lcmp (a := m) (b := hi) (by omega) hhi
    by_cases c1 : m < lo
    · rw [if_pos (e1.mpr c1), if_neg (by omega)]
      exact Or.inr ⟨4, rfl, rfl⟩
    · rw [if_neg (fun z => c1 (e1.mp z))]
      by_cases c2 : m ≤ hi
      · rw [if_pos (e2.mpr c2), if_pos ⟨by omega, c2⟩]
        exact Or.inl ⟨m, by omega, c2, rfl, rfl⟩
      · rw [if_neg (fun z => c2 (e2.mp z)), if_neg (by omega)]
        exact Or.inr ⟨4, rfl, rfl⟩
  · rw [if_neg h3, if_neg h3]
    exact Or.inr ⟨1, rfl, rfl⟩
theorem zq_kind {tn : Nat → Nat} {ts : Nat → Int32} {tp : Nat → Nat} {tv : Nat → Int64} {k : Nat} {tk fl pl : Int32} : (∃ x, x < 3 ∧ zp_kind tn ts tp tv k = .inl (tn k, x) ∧ zr_kind tn ts tp tv k tk fl pl = (1, tn k, nI x, fl, pl)) ∨ (zp_kind tn ts tp tv k = .inr (1, tp k) ∧ zr_kind tn ts tp tv k tk fl pl = (0, k, tk, 1, nI (tp k))) := by
  unfold zp_kind zr_kind
  rcases zq_sp (so := ts k) (va := tv k) (c := 7931589) with ⟨h1, h2, h3⟩ | ⟨h1, h3⟩
  · rw [if_pos ⟨h1, h2⟩, h3, if_neg (by decide)]; exact Or.inl ⟨0, by decide, rfl, rfl⟩
  · rw [if_neg h1, h3, if_pos rfl]
    rcases zq_sp (so := ts k) (va := tv k) (c := 8441497) with ⟨h1, h2, h3⟩ | ⟨h1, h3⟩
    · rw [if_pos ⟨h1, h2⟩, h3, if_neg (by decide)]; exact Or.inl ⟨1, by decide, rfl, rfl⟩
    · rw [if_neg h1, h3, if_pos rfl]
      rcases zq_sp (so := ts k) (va := tv k) (c := 8438297) with ⟨h1, h2, h3⟩ | ⟨h1, h3⟩
      · rw [if_pos ⟨h1, h2⟩, h3, if_neg (by decide)]; exact Or.inl ⟨2, by decide, rfl, rfl⟩
      · rw [if_neg h1, h3, if_pos rfl]; exact Or.inr ⟨rfl, rfl⟩
theorem zq_td {tn : Nat → Nat} {ts : Nat → Int32} {tp : Nat → Nat} {tv : Nat → Int64} {a b d E : Nat} {lw : Nat → Int64} {nm : Nat → Int64} {ns nu : Nat → Int32} {S : Nat → Int64} (hN : zC_N a b d nm ns nu S) (hw : ∀ j, j < 7 → lw j = zk_lw j) (hT : zt_ok tn ts tv E) (hE : ∀ k, k ≤ E → tn k ≤ E) : ∀ (m j : Nat) (bi : Int32) (k : Nat) (tk fl pl : Int32), k ≤ E → (∃ k1 b1, k1 ≤ E ∧ zp_dng tn ts tp tv S m bi k = .inl (k1, b1) ∧ zfr (zl_tdG tn ts tp tv lw nm (a + b + d) ns nu) m j (bi, k, tk, fl, pl) = .inr (1, k1, b1, fl, pl)) ∨ (∃ f p k1 tk1, k1 ≤ E ∧ zp_dng tn ts tp tv S m bi k = .inr (f, p) ∧ (zfr (zl_tdG tn ts tp tv lw nm (a + b + d) ns nu) m j (bi, k, tk, fl, pl) = .inr (0, k1, tk1, f, nI p) ∨ ∃ b1 fl1 pl1, zfr (zl_tdG tn ts tp tv lw nm (a + b + d) ns nu) m j (bi, k, tk, fl, pl) = .inl (b1, k1, tk1, fl1, pl1) ∧ f = 1 ∧ p = tp k1)) := by
  intro m
  induction m with
  | zero => intro j bi k tk fl pl hk; exact Or.inr ⟨1, tp k, k, tk, hk, rfl, Or.inr ⟨bi, fl, pl, rfl, rfl, rfl⟩⟩
  | succ m ih =>
    intro j bi k tk fl pl hk
    unfold zp_dng zfr
    have h17 : a ≤ 8 := hN.1.1
    rcases zq_see1 (tp := tp) (tn := tn) (tk := tk) (fl := fl) (pl := pl) hN hw (hT.1 k hk) with ⟨x, h1, h2, h3⟩ | ⟨f, p, h1, h3⟩
    · rw [h1]
      have hg : zl_tdG tn ts tp tv lw nm (a + b + d) ns nu j (bi, k, tk, fl, pl) = if (bi >>> (nI x &&& 31)) &&& 1 = 0 then (if ts (tn k) = 5 then .inl (bi ||| ((1 : Int32) <<< (nI x &&& 31)), tn (tn k), nI x, fl, pl) else .inr (1, tn k, bi ||| ((1 : Int32) <<< (nI x &&& 31)), fl, pl)) else .inr (0, k, nI x, 3, nI (tp k)) := by
        unfold zl_tdG
        dsimp only
        rw [h3]
        dsimp only
        rw [if_neg (show ¬ (1 : Int32) = 0 by decide), nI_clamp (show x < 2 ^ 31 by omega)]
      rw [hg]
      by_cases c4 : (bi >>> (nI x &&& 31)) &&& 1 = 0
      · rw [if_pos c4]
        dsimp only
        rw [if_pos c4]
        by_cases c5 : ts (tn k) = 5
        · rw [if_pos c5, if_pos c5]
          exact ih (j + 1) _ _ _ _ _ (hE _ (hE _ hk))
        · rw [if_neg c5, if_neg c5]
          exact Or.inl ⟨_, _, hE _ hk, rfl, rfl⟩
      · rw [if_neg c4]
        dsimp only
        rw [if_neg c4]
        exact Or.inr ⟨3, tp k, k, nI x, hk, rfl, Or.inl rfl⟩
    · rw [h1]
      have hg : zl_tdG tn ts tp tv lw nm (a + b + d) ns nu j (bi, k, tk, fl, pl) = .inr (0, k, tk, f, nI p) := by
        unfold zl_tdG
        dsimp only
        rw [h3]
        rfl
      rw [hg]
      exact Or.inr ⟨f, p, k, tk, hk, rfl, Or.inl rfl⟩
section Z79K
variable {Ls : Nat} {xs : Nat → Int32} {v : Nat → Nat → Int32} {w : Nat → Nat → Int64} {t : zk_H}
variable {tn : Nat → Nat} {ts : Nat → Int32} {tp : Nat → Nat} {tv : Nat → Int64} {E : Nat} {bb : Nat → Int32}
theorem zc_kw8_ok (hA : zk_Adv Ls xs tn ts tp tv E bb) (hE : v 2 2 = nI E) (hb : v 3 = bb) {k : Nat} (hk : k ≤ E) {k1 : Nat} (hz : zp_kw tn ts tp tv 9095769 k = .inl k1) : zk_Cr zk_mt zk_ex Ls xs 254 [.ref 1, .retAddr 8] (zH (zb v 2 (upd (upd (upd (v 2) 3 (nI (tn k))) 4 (ts k)) 5 (nI (tp k)))) (zb w 2 (vp_updL (w 2) 6 (tv k))) t) (some (.int 1), zH (zb v 2 (upd (upd (upd (v 2) 3 (nI (tn k1))) 4 (ts k1)) 5 (nI (tp k1)))) (zb w 2 (vp_updL (w 2) 6 (tv k1))) t) := by
  have e := zs_kw8 (v := v) (w := w) (t := t) tn ts tp tv E bb hA hE hb k hk
  rcases zq_kw (tn := tn) (ts := ts) (tp := tp) (tv := tv) (k := k) (c := 9095769) (fl := v 1 9) (pl := v 1 10) with ⟨h1, h2⟩ | ⟨h1, h2⟩
  · rw [h1] at hz
    cases hz
    rw [h2] at e
    dsimp only at e
    rw [zu_same (f := v 1) (i := 9) (x := v 1 9) rfl, zu_same (f := v 1) (i := 10) (x := v 1 10) rfl, zb_same] at e
    exact e
  · rw [h1] at hz
    cases hz
theorem zc_kw8_no (hA : zk_Adv Ls xs tn ts tp tv E bb) (hE : v 2 2 = nI E) (hb : v 3 = bb) {k : Nat} (hk : k ≤ E) {f : Int32} {p : Nat} (hz : zp_kw tn ts tp tv 9095769 k = .inr (f, p)) : zk_Cr zk_mt zk_ex Ls xs 254 [.ref 1, .retAddr 8] (zH (zb v 2 (upd (upd (upd (v 2) 3 (nI (tn k))) 4 (ts k)) 5 (nI (tp k)))) (zb w 2 (vp_updL (w 2) 6 (tv k))) t) (some (.int 0), zH (zb (zb v 1 (upd (upd (v 1) 9 f) 10 (nI p))) 2 (upd (upd (upd (v 2) 3 (nI (tn k))) 4 (ts k)) 5 (nI (tp k)))) (zb w 2 (vp_updL (w 2) 6 (tv k))) t) := by
  have e := zs_kw8 (v := v) (w := w) (t := t) tn ts tp tv E bb hA hE hb k hk
  rcases zq_kw (tn := tn) (ts := ts) (tp := tp) (tv := tv) (k := k) (c := 9095769) (fl := v 1 9) (pl := v 1 10) with ⟨h1, h2⟩ | ⟨h1, h2⟩
  · rw [h1] at hz
    cases hz
  · rw [h1] at hz
    cases hz
    rw [h2] at e
    exact e
theorem zc_kw9_ok (hA : zk_Adv Ls xs tn ts tp tv E bb) (hE : v 2 2 = nI E) (hb : v 3 = bb) {k : Nat} (hk : k ≤ E) {k1 : Nat} (hz : zp_kw tn ts tp tv 5969497 k = .inl k1) : zk_Cr zk_mt zk_ex Ls xs 254 [.ref 1, .retAddr 9] (zH (zb v 2 (upd (upd (upd (v 2) 3 (nI (tn k))) 4 (ts k)) 5 (nI (tp k)))) (zb w 2 (vp_updL (w 2) 6 (tv k))) t) (some (.int 1), zH (zb v 2 (upd (upd (upd (v 2) 3 (nI (tn k1))) 4 (ts k1)) 5 (nI (tp k1)))) (zb w 2 (vp_updL (w 2) 6 (tv k1))) t) := by
  have e := zs_kw9 (v := v) (w := w) (t := t) tn ts tp tv E bb hA hE hb k hk
  rcases zq_kw (tn := tn) (ts := ts) (tp := tp) (tv := tv) (k := k) (c := 5969497) (fl := v 1 9) (pl := v 1 10) with ⟨h1, h2⟩ | ⟨h1, h2⟩
  · rw [h1] at hz
    cases hz
    rw [h2] at e
    dsimp only at e
    rw [zu_same (f := v 1) (i := 9) (x := v 1 9) rfl, zu_same (f := v 1) (i := 10) (x := v 1 10) rfl, zb_same] at e
    exact e
  · rw [h1] at hz
    cases hz
theorem zc_kw9_no (hA : zk_Adv Ls xs tn ts tp tv E bb) (hE : v 2 2 = nI E) (hb : v 3 = bb) {k : Nat} (hk : k ≤ E) {f : Int32} {p : Nat} (hz : zp_kw tn ts tp tv 5969497 k = .inr (f, p)) : zk_Cr zk_mt zk_ex Ls xs 254 [.ref 1, .retAddr 9] (zH (zb v 2 (upd (upd (upd (v 2) 3 (nI (tn k))) 4 (ts k)) 5 (nI (tp k)))) (zb w 2 (vp_updL (w 2) 6 (tv k))) t) (some (.int 0), zH (zb (zb v 1 (upd (upd (v 1) 9 f) 10 (nI p))) 2 (upd (upd (upd (v 2) 3 (nI (tn k))) 4 (ts k)) 5 (nI (tp k)))) (zb w 2 (vp_updL (w 2) 6 (tv k))) t) := by
  have e := zs_kw9 (v := v) (w := w) (t := t) tn ts tp tv E bb hA hE hb k hk
  rcases zq_kw (tn := tn) (ts := ts) (tp := tp) (tv := tv) (k := k) (c := 5969497) (fl := v 1 9) (pl := v 1 10) with ⟨h1, h2⟩ | ⟨h1, h2⟩
  · rw [h1] at hz
    cases hz
  · rw [h1] at hz
    cases hz
    rw [h2] at e
    exact e
theorem zc_kw10_ok (hA : zk_Adv Ls xs tn ts tp tv E bb) (hE : v 2 2 = nI E) (hb : v 3 = bb) {k : Nat} (hk : k ≤ E) {k1 : Nat} (hz : zp_kw tn ts tp tv 215533 k = .inl k1) : zk_Cr zk_mt zk_ex Ls xs 254 [.ref 1, .retAddr 10] (zH (zb v 2 (upd (upd (upd (v 2) 3 (nI (tn k))) 4 (ts k)) 5 (nI (tp k)))) (zb w 2 (vp_updL (w 2) 6 (tv k))) t) (some (.int 1), zH (zb v 2 (upd (upd (upd (v 2) 3 (nI (tn k1))) 4 (ts k1)) 5 (nI (tp k1)))) (zb w 2 (vp_updL (w 2) 6 (tv k1))) t) := by
  have e := zs_kw10 (v := v) (w := w) (t := t) tn ts tp tv E bb hA hE hb k hk
  rcases zq_kw (tn := tn) (ts := ts) (tp := tp) (tv := tv) (k := k) (c := 215533) (fl := v 1 9) (pl := v 1 10) with ⟨h1, h2⟩ | ⟨h1, h2⟩
  · rw [h1] at hz
    cases hz
    rw [h2] at e
    dsimp only at e
    rw [zu_same (f := v 1) (i := 9) (x := v 1 9) rfl, zu_same (f := v 1) (i := 10) (x := v 1 10) rfl, zb_same] at e
    exact e
  · rw [h1] at hz
    cases hz
theorem zc_kw10_no (hA : zk_Adv Ls xs tn ts tp tv E bb) (hE : v 2 2 = nI E) (hb : v 3 = bb) {k : Nat} (hk : k ≤ E) {f : Int32} {p : Nat} (hz : zp_kw tn ts tp tv 215533 k = .inr (f, p)) : zk_Cr zk_mt zk_ex Ls xs 254 [.ref 1, .retAddr 10] (zH (zb v 2 (upd (upd (upd (v 2) 3 (nI (tn k))) 4 (ts k)) 5 (nI (tp k)))) (zb w 2 (vp_updL (w 2) 6 (tv k))) t) (some (.int 0), zH (zb (zb v 1 (upd (upd (v 1) 9 f) 10 (nI p))) 2 (upd (upd (upd (v 2) 3 (nI (tn k))) 4 (ts k)) 5 (nI (tp k)))) (zb w 2 (vp_updL (w 2) 6 (tv k))) t) := by
  have e := zs_kw10 (v := v) (w := w) (t := t) tn ts tp tv E bb hA hE hb k hk
  rcases zq_kw (tn := tn) (ts := ts) (tp := tp) (tv := tv) (k := k) (c := 215533) (fl := v 1 9) (pl := v 1 10) with ⟨h1, h2⟩ | ⟨h1, h2⟩
  · rw [h1] at hz
    cases hz
  · rw [h1] at hz
    cases hz
    rw [h2] at e
    exact e
theorem zc_kw14_ok (hA : zk_Adv Ls xs tn ts tp tv E bb) (hE : v 2 2 = nI E) (hb : v 3 = bb) {k : Nat} (hk : k ≤ E) {k1 : Nat} (hz : zp_kw tn ts tp tv 12635795 k = .inl k1) : zk_Cr zk_mt zk_ex Ls xs 254 [.ref 1, .retAddr 14] (zH (zb v 2 (upd (upd (upd (v 2) 3 (nI (tn k))) 4 (ts k)) 5 (nI (tp k)))) (zb w 2 (vp_updL (w 2) 6 (tv k))) t) (some (.int 1), zH (zb v 2 (upd (upd (upd (v 2) 3 (nI (tn k1))) 4 (ts k1)) 5 (nI (tp k1)))) (zb w 2 (vp_updL (w 2) 6 (tv k1))) t) := by
  have e := zs_kw14 (v := v) (w := w) (t := t) tn ts tp tv E bb hA hE hb k hk
  rcases zq_kw (tn := tn) (ts := ts) (tp := tp) (tv := tv) (k := k) (c := 12635795) (fl := v 1 9) (pl := v 1 10) with ⟨h1, h2⟩ | ⟨h1, h2⟩
  · rw [h1] at hz
    cases hz
    rw [h2] at e
    dsimp only at e
    rw [zu_same (f := v 1) (i := 9) (x := v 1 9) rfl, zu_same (f := v 1) (i := 10) (x := v 1 10) rfl, zb_same] at e
    exact e
  · rw [h1] at hz
    cases hz
theorem zc_kw14_no (hA : zk_Adv Ls xs tn ts tp tv E bb) (hE : v 2 2 = nI E) (hb : v 3 = bb) {k : Nat} (hk : k ≤ E) {f : Int32} {p : Nat} (hz : zp_kw tn ts tp tv 12635795 k = .inr (f, p)) : zk_Cr zk_mt zk_ex Ls xs 254 [.ref 1, .retAddr 14] (zH (zb v 2 (upd (upd (upd (v 2) 3 (nI (tn k))) 4 (ts k)) 5 (nI (tp k)))) (zb w 2 (vp_updL (w 2) 6 (tv k))) t) (some (.int 0), zH (zb (zb v 1 (upd (upd (v 1) 9 f) 10 (nI p))) 2 (upd (upd (upd (v 2) 3 (nI (tn k))) 4 (ts k)) 5 (nI (tp k)))) (zb w 2 (vp_updL (w 2) 6 (tv k))) t) := by
  have e := zs_kw14 (v := v) (w := w) (t := t) tn ts tp tv E bb hA hE hb k hk
  rcases zq_kw (tn := tn) (ts := ts) (tp := tp) (tv := tv) (k := k) (c := 12635795) (fl := v 1 9) (pl := v 1 10) with ⟨h1, h2⟩ | ⟨h1, h2⟩
  · rw [h1] at hz
    cases hz
  · rw [h1] at hz
    cases hz
    rw [h2] at e
    exact e
theorem zc_kw15_ok (hA : zk_Adv Ls xs tn ts tp tv E bb) (hE : v 2 2 = nI E) (hb : v 3 = bb) {k : Nat} (hk : k ≤ E) {k1 : Nat} (hz : zp_kw tn ts tp tv 679786867 k = .inl k1) : zk_Cr zk_mt zk_ex Ls xs 254 [.ref 1, .retAddr 15] (zH (zb v 2 (upd (upd (upd (v 2) 3 (nI (tn k))) 4 (ts k)) 5 (nI (tp k)))) (zb w 2 (vp_updL (w 2) 6 (tv k))) t) (some (.int 1), zH (zb v 2 (upd (upd (upd (v 2) 3 (nI (tn k1))) 4 (ts k1)) 5 (nI (tp k1)))) (zb w 2 (vp_updL (w 2) 6 (tv k1))) t) := by
  have e := zs_kw15 (v := v) (w := w) (t := t) tn ts tp tv E bb hA hE hb k hk
  rcases zq_kw (tn := tn) (ts := ts) (tp := tp) (tv := tv) (k := k) (c := 679786867) (fl := v 1 9) (pl := v 1 10) with ⟨h1, h2⟩ | ⟨h1, h2⟩
  · rw [h1] at hz
    cases hz
    rw [h2] at e
    dsimp only at e
    rw [zu_same (f := v 1) (i := 9) (x := v 1 9) rfl, zu_same (f := v 1) (i := 10) (x := v 1 10) rfl, zb_same] at e
    exact e
  · rw [h1] at hz
    cases hz
theorem zc_kw15_no (hA : zk_Adv Ls xs tn ts tp tv E bb) (hE : v 2 2 = nI E) (hb : v 3 = bb) {k : Nat} (hk : k ≤ E) {f : Int32} {p : Nat} (hz : zp_kw tn ts tp tv 679786867 k = .inr (f, p)) : zk_Cr zk_mt zk_ex Ls xs 254 [.ref 1, .retAddr 15] (zH (zb v 2 (upd (upd (upd (v 2) 3 (nI (tn k))) 4 (ts k)) 5 (nI (tp k)))) (zb w 2 (vp_updL (w 2) 6 (tv k))) t) (some (.int 0), zH (zb (zb v 1 (upd (upd (v 1) 9 f) 10 (nI p))) 2 (upd (upd (upd (v 2) 3 (nI (tn k))) 4 (ts k)) 5 (nI (tp k)))) (zb w 2 (vp_updL (w 2) 6 (tv k))) t) := by
  have e := zs_kw15 (v := v) (w := w) (t := t) tn ts tp tv E bb hA hE hb k hk
  rcases zq_kw (tn := tn) (ts := ts) (tp := tp) (tv := tv) (k := k) (c := 679786867) (fl := v 1 9) (pl := v 1 10) with ⟨h1, h2⟩ | ⟨h1, h2⟩
  · rw [h1] at hz
    cases hz
  · rw [h1] at hz
    cases hz
    rw [h2] at e
    exact e
theorem zc_kw16_ok (hA : zk_Adv Ls xs tn ts tp tv E bb) (hE : v 2 2 = nI E) (hb : v 3 = bb) {k : Nat} (hk : k ≤ E) {k1 : Nat} (hz : zp_kw tn ts tp tv 24627848 k = .inl k1) : zk_Cr zk_mt zk_ex Ls xs 254 [.ref 1, .retAddr 16] (zH (zb v 2 (upd (upd (upd (v 2) 3 (nI (tn k))) 4 (ts k)) 5 (nI (tp k)))) (zb w 2 (vp_updL (w 2) 6 (tv k))) t) (some (.int 1), zH (zb v 2 (upd (upd (upd (v 2) 3 (nI (tn k1))) 4 (ts k1)) 5 (nI (tp k1)))) (zb w 2 (vp_updL (w 2) 6 (tv k1))) t) := by
  have e := zs_kw16 (v := v) (w := w) (t := t) tn ts tp tv E bb hA hE hb k hk
  rcases zq_kw (tn := tn) (ts := ts) (tp := tp) (tv := tv) (k := k) (c := 24627848) (fl := v 1 9) (pl := v 1 10) with ⟨h1, h2⟩ | ⟨h1, h2⟩
  · rw [h1] at hz
    cases hz
    rw [h2] at e
    dsimp only at e
    rw [zu_same (f := v 1) (i := 9) (x := v 1 9) rfl, zu_same (f := v 1) (i := 10) (x := v 1 10) rfl, zb_same] at e
    exact e
  · rw [h1] at hz
    cases hz
theorem zc_kw16_no (hA : zk_Adv Ls xs tn ts tp tv E bb) (hE : v 2 2 = nI E) (hb : v 3 = bb) {k : Nat} (hk : k ≤ E) {f : Int32} {p : Nat} (hz : zp_kw tn ts tp tv 24627848 k = .inr (f, p)) : zk_Cr zk_mt zk_ex Ls xs 254 [.ref 1, .retAddr 16] (zH (zb v 2 (upd (upd (upd (v 2) 3 (nI (tn k))) 4 (ts k)) 5 (nI (tp k)))) (zb w 2 (vp_updL (w 2) 6 (tv k))) t) (some (.int 0), zH (zb (zb v 1 (upd (upd (v 1) 9 f) 10 (nI p))) 2 (upd (upd (upd (v 2) 3 (nI (tn k))) 4 (ts k)) 5 (nI (tp k)))) (zb w 2 (vp_updL (w 2) 6 (tv k))) t) := by
  have e := zs_kw16 (v := v) (w := w) (t := t) tn ts tp tv E bb hA hE hb k hk
  rcases zq_kw (tn := tn) (ts := ts) (tp := tp) (tv := tv) (k := k) (c := 24627848) (fl := v 1 9) (pl := v 1 10) with ⟨h1, h2⟩ | ⟨h1, h2⟩
  · rw [h1] at hz
    cases hz
  · rw [h1] at hz
    cases hz
    rw [h2] at e
    exact e
theorem zc_kw17_ok (hA : zk_Adv Ls xs tn ts tp tv E bb) (hE : v 2 2 = nI E) (hb : v 3 = bb) {k : Nat} (hk : k ≤ E) {k1 : Nat} (hz : zp_kw tn ts tp tv 6456915 k = .inl k1) : zk_Cr zk_mt zk_ex Ls xs 254 [.ref 1, .retAddr 17] (zH (zb v 2 (upd (upd (upd (v 2) 3 (nI (tn k))) 4 (ts k)) 5 (nI (tp k)))) (zb w 2 (vp_updL (w 2) 6 (tv k))) t) (some (.int 1), zH (zb v 2 (upd (upd (upd (v 2) 3 (nI (tn k1))) 4 (ts k1)) 5 (nI (tp k1)))) (zb w 2 (vp_updL (w 2) 6 (tv k1))) t) := by
  have e := zs_kw17 (v := v) (w := w) (t := t) tn ts tp tv E bb hA hE hb k hk
  rcases zq_kw (tn := tn) (ts := ts) (tp := tp) (tv := tv) (k := k) (c := 6456915) (fl := v 1 9) (pl := v 1 10) with ⟨h1, h2⟩ | ⟨h1, h2⟩
  · rw [h1] at hz
    cases hz
    rw [h2] at e
    dsimp only at e
    rw [zu_same (f := v 1) (i := 9) (x := v 1 9) rfl, zu_same (f := v 1) (i := 10) (x := v 1 10) rfl, zb_same] at e
    exact e
  · rw [h1] at hz
    cases hz
theorem zc_kw17_no (hA : zk_Adv Ls xs tn ts tp tv E bb) (hE : v 2 2 = nI E) (hb : v 3 = bb) {k : Nat} (hk : k ≤ E) {f : Int32} {p : Nat} (hz : zp_kw tn ts tp tv 6456915 k = .inr (f, p)) : zk_Cr zk_mt zk_ex Ls xs 254 [.ref 1, .retAddr 17] (zH (zb v 2 (upd (upd (upd (v 2) 3 (nI (tn k))) 4 (ts k)) 5 (nI (tp k)))) (zb w 2 (vp_updL (w 2) 6 (tv k))) t) (some (.int 0), zH (zb (zb v 1 (upd (upd (v 1) 9 f) 10 (nI p))) 2 (upd (upd (upd (v 2) 3 (nI (tn k))) 4 (ts k)) 5 (nI (tp k)))) (zb w 2 (vp_updL (w 2) 6 (tv k))) t) := by
  have e := zs_kw17 (v := v) (w := w) (t := t) tn ts tp tv E bb hA hE hb k hk
  rcases zq_kw (tn := tn) (ts := ts) (tp := tp) (tv := tv) (k := k) (c := 6456915) (fl := v 1 9) (pl := v 1 10) with ⟨h1, h2⟩ | ⟨h1, h2⟩
  · rw [h1] at hz
    cases hz
  · rw [h1] at hz
    cases hz
    rw [h2] at e
    exact e
theorem zc_kw18_ok (hA : zk_Adv Ls xs tn ts tp tv E bb) (hE : v 2 2 = nI E) (hb : v 3 = bb) {k : Nat} (hk : k ≤ E) {k1 : Nat} (hz : zp_kw tn ts tp tv 824370 k = .inl k1) : zk_Cr zk_mt zk_ex Ls xs 254 [.ref 1, .retAddr 18] (zH (zb v 2 (upd (upd (upd (v 2) 3 (nI (tn k))) 4 (ts k)) 5 (nI (tp k)))) (zb w 2 (vp_updL (w 2) 6 (tv k))) t) (some (.int 1), zH (zb v 2 (upd (upd (upd (v 2) 3 (nI (tn k1))) 4 (ts k1)) 5 (nI (tp k1)))) (zb w 2 (vp_updL (w 2) 6 (tv k1))) t) := by
  have e := zs_kw18 (v := v) (w := w) (t := t) tn ts tp tv E bb hA hE hb k hk
  rcases zq_kw (tn := tn) (ts := ts) (tp := tp) (tv := tv) (k := k) (c := 824370) (fl := v 1 9) (pl := v 1 10) with ⟨h1, h2⟩ | ⟨h1, h2⟩
  · rw [h1] at hz
    cases hz
    rw [h2] at e
    dsimp only at e
    rw [zu_same (f := v 1) (i := 9) (x := v 1 9) rfl, zu_same (f := v 1) (i := 10) (x := v 1 10) rfl, zb_same] at e
    exact e
  · rw [h1] at hz
    cases hz
theorem zc_kw18_no (hA : zk_Adv Ls xs tn ts tp tv E bb) (hE : v 2 2 = nI E) (hb : v 3 = bb) {k : Nat} (hk : k ≤ E) {f : Int32} {p : Nat} (hz : zp_kw tn ts tp tv 824370 k = .inr (f, p)) : zk_Cr zk_mt zk_ex Ls xs 254 [.ref 1, .retAddr 18] (zH (zb v 2 (upd (upd (upd (v 2) 3 (nI (tn k))) 4 (ts k)) 5 (nI (tp k)))) (zb w 2 (vp_updL (w 2) 6 (tv k))) t) (some (.int 0), zH (zb (zb v 1 (upd (upd (v 1) 9 f) 10 (nI p))) 2 (upd (upd (upd (v 2) 3 (nI (tn k))) 4 (ts k)) 5 (nI (tp k)))) (zb w 2 (vp_updL (w 2) 6 (tv k))) t) := by
  have e := zs_kw18 (v := v) (w := w) (t := t) tn ts tp tv E bb hA hE hb k hk
  rcases zq_kw (tn := tn) (ts := ts) (tp := tp) (tv := tv) (k := k) (c := 824370) (fl := v 1 9) (pl := v 1 10) with ⟨h1, h2⟩ | ⟨h1, h2⟩
  · rw [h1] at hz
    cases hz
  · rw [h1] at hz
    cases hz
    rw [h2] at e
    exact e
theorem zp_kwE (hA : zk_Adv Ls xs tn ts tp tv E bb) {c : Int64} {k k1 : Nat} (hk : k ≤ E) (hz : zp_kw tn ts tp tv c k = .inl k1) : k1 ≤ E := by
  rcases zq_kw (tn := tn) (ts := ts) (tp := tp) (tv := tv) (k := k) (c := c) (fl := 0) (pl := 0) with ⟨h1, h2⟩ | ⟨h1, h2⟩
  · rw [h1] at hz
    cases hz
    exact hA.1 k hk
  · rw [h1] at hz
    cases hz
theorem zc_num_ok (hA : zk_Adv Ls xs tn ts tp tv E bb) (hE : v 2 2 = nI E) (hb : v 3 = bb) {k : Nat} (hk : k ≤ E) (hT : zt_ok tn ts tv E) {lo hi : Nat} (hlo : lo < 2 ^ 31) (hhi : hi < 2 ^ 31) {k1 x : Nat} (hz : zp_num tn ts tp tv lo hi k = .inl (k1, x)) : (k1 ≤ E ∧ lo ≤ x ∧ x ≤ hi) ∧ zk_Cr zk_mt zk_ex Ls xs 204 [.ref 1, .int (nI lo), .int (nI hi)] (zH (zb v 2 (upd (upd (upd (v 2) 3 (nI (tn k))) 4 (ts k)) 5 (nI (tp k)))) (zb w 2 (vp_updL (w 2) 6 (tv k))) t) (some (.int 1), zH (zb (zb v 1 (upd (v 1) 8 (nI x))) 2 (upd (upd (upd (v 2) 3 (nI (tn k1))) 4 (ts k1)) 5 (nI (tp k1)))) (zb w 2 (vp_updL (w 2) 6 (tv k1))) t) := by
  have e := zs_tww (v := v) (w := w) (t := t) tn ts tp tv E bb hA hE hb k hk (nI lo) (nI hi)
  rcases zq_num (tn := tn) (ts := ts) (tp := tp) (tv := tv) (k := k) (tk := v 1 8) (fl := v 1 9) (pl := v 1 10) hT hk hlo hhi with ⟨y, h3, h4, h1, h2⟩ | ⟨g, h1, h2⟩
  · rw [h1] at hz
    cases hz
    refine ⟨⟨hA.1 k hk, h3, h4⟩, ?_⟩
    rw [h2] at e
    dsimp only at e
    rw [zu_same (f := upd (v 1) 8 (nI x)) (i := 9) (x := v 1 9) rfl, zu_same (f := upd (v 1) 8 (nI x)) (i := 10) (x := v 1 10) rfl] at e
    exact e
  · rw [h1] at hz
    cases hz
theorem zc_num_no (hA : zk_Adv Ls xs tn ts tp tv E bb) (hE : v 2 2 = nI E) (hb : v 3 = bb) {k : Nat} (hk : k ≤ E) (hT : zt_ok tn ts tv E) {lo hi : Nat} (hlo : lo < 2 ^ 31) (hhi : hi < 2 ^ 31) {f : Int32} {p : Nat} (hz : zp_num tn ts tp tv lo hi k = .inr (f, p)) : zk_Cr zk_mt zk_ex Ls xs 204 [.ref 1, .int (nI lo), .int (nI hi)] (zH (zb v 2 (upd (upd (upd (v 2) 3 (nI (tn k))) 4 (ts k)) 5 (nI (tp k)))) (zb w 2 (vp_updL (w 2) 6 (tv k))) t) (some (.int 0), zH (zb (zb v 1 (upd (upd (v 1) 9 f) 10 (nI p))) 2 (upd (upd (upd (v 2) 3 (nI (tn k))) 4 (ts k)) 5 (nI (tp k)))) (zb w 2 (vp_updL (w 2) 6 (tv k))) t) := by
  have e := zs_tww (v := v) (w := w) (t := t) tn ts tp tv E bb hA hE hb k hk (nI lo) (nI hi)
  rcases zq_num (tn := tn) (ts := ts) (tp := tp) (tv := tv) (k := k) (tk := v 1 8) (fl := v 1 9) (pl := v 1 10) hT hk hlo hhi with ⟨y, h3, h4, h1, h2⟩ | ⟨g, h1, h2⟩
  · rw [h1] at hz
    cases hz
  · rw [h1] at hz
    cases hz
    rw [h2] at e
    dsimp only at e
    rw [zu_same (f := v 1) (i := 8) (x := v 1 8) rfl] at e
    exact e
theorem zc_kind_ok (hA : zk_Adv Ls xs tn ts tp tv E bb) (hE : v 2 2 = nI E) (hb : v 3 = bb) {k : Nat} (hk : k ≤ E) {k1 x : Nat} (hz : zp_kind tn ts tp tv k = .inl (k1, x)) : (k1 ≤ E ∧ x < 3) ∧ zk_Cr zk_mt zk_ex Ls xs 255 [.ref 1] (zH (zb v 2 (upd (upd (upd (v 2) 3 (nI (tn k))) 4 (ts k)) 5 (nI (tp k)))) (zb w 2 (vp_updL (w 2) 6 (tv k))) t) (some (.int 1), zH (zb (zb v 1 (upd (v 1) 8 (nI x))) 2 (upd (upd (upd (v 2) 3 (nI (tn k1))) 4 (ts k1)) 5 (nI (tp k1)))) (zb w 2 (vp_updL (w 2) 6 (tv k1))) t) := by
  have e := zs_kind (v := v) (w := w) (t := t) tn ts tp tv E bb hA hE hb k hk
  rcases zq_kind (tn := tn) (ts := ts) (tp := tp) (tv := tv) (k := k) (tk := v 1 8) (fl := v 1 9) (pl := v 1 10) with ⟨y, h3, h1, h2⟩ | ⟨h1, h2⟩
  · rw [h1] at hz
    cases hz
    refine ⟨⟨hA.1 k hk, h3⟩, ?_⟩
    rw [h2] at e
    dsimp only at e
    rw [zu_same (f := upd (v 1) 8 (nI x)) (i := 9) (x := v 1 9) rfl, zu_same (f := upd (v 1) 8 (nI x)) (i := 10) (x := v 1 10) rfl] at e
    exact e
  · rw [h1] at hz
    cases hz
theorem zc_kind_no (hA : zk_Adv Ls xs tn ts tp tv E bb) (hE : v 2 2 = nI E) (hb : v 3 = bb) {k : Nat} (hk : k ≤ E) {f : Int32} {p : Nat} (hz : zp_kind tn ts tp tv k = .inr (f, p)) : zk_Cr zk_mt zk_ex Ls xs 255 [.ref 1] (zH (zb v 2 (upd (upd (upd (v 2) 3 (nI (tn k))) 4 (ts k)) 5 (nI (tp k)))) (zb w 2 (vp_updL (w 2) 6 (tv k))) t) (some (.int 0), zH (zb (zb v 1 (upd (upd (v 1) 9 f) 10 (nI p))) 2 (upd (upd (upd (v 2) 3 (nI (tn k))) 4 (ts k)) 5 (nI (tp k)))) (zb w 2 (vp_updL (w 2) 6 (tv k))) t) := by
  have e := zs_kind (v := v) (w := w) (t := t) tn ts tp tv E bb hA hE hb k hk
  rcases zq_kind (tn := tn) (ts := ts) (tp := tp) (tv := tv) (k := k) (tk := v 1 8) (fl := v 1 9) (pl := v 1 10) with ⟨y, h3, h1, h2⟩ | ⟨h1, h2⟩
  · rw [h1] at hz
    cases hz
  · rw [h1] at hz
    cases hz
    rw [h2] at e
    dsimp only at e
    rw [zu_same (f := v 1) (i := 8) (x := v 1 8) rfl] at e
    exact e
theorem zc_see1_ok (hA : zk_Adv Ls xs tn ts tp tv E bb) (hE : v 2 2 = nI E) (hb : v 3 = bb) {k : Nat} (hk : k ≤ E) {a b d : Nat} {S : Nat → Int64} (hN : zC_N a b d (w 17) (v 18) (v 19) S) (hw : ∀ j, j < 7 → w 16 j = zk_lw j) (hT : zt_ok tn ts tv E) {x : Nat} (hz : zp_see tn ts tp tv 0 8 S k = .inl x) : x < a ∧ zk_Cr zk_mt zk_ex Ls xs 152 [.ref 1, .int 1] (zH (zb (zb v 1 (upd (v 1) 7 (nI (a + b + d)))) 2 (upd (upd (upd (v 2) 3 (nI (tn k))) 4 (ts k)) 5 (nI (tp k)))) (zb w 2 (vp_updL (w 2) 6 (tv k))) t) (some (.int 1), zH (zb (zb v 1 (upd (upd (v 1) 7 (nI (a + b + d))) 8 (nI x))) 2 (upd (upd (upd (v 2) 3 (nI (tn k))) 4 (ts k)) 5 (nI (tp k)))) (zb w 2 (vp_updL (w 2) 6 (tv k))) t) := by
  have e := zs_see (v := v) (w := w) (t := t) tn ts tp tv E bb hA hE hb k hk (a + b + d) (by have := hN.1; omega) 1
  rcases zq_see1 (tn := tn) (tp := tp) (tk := v 1 8) (fl := v 1 9) (pl := v 1 10) hN hw (hT.1 k hk) with ⟨y, h1, h3, h2⟩ | ⟨g, p', h1, h2⟩
  · rw [h1] at hz
    cases hz
    refine ⟨h3, ?_⟩
    rw [h2] at e
    dsimp only at e
    rw [zu_same (f := upd (upd (v 1) 7 (nI (a + b + d))) 8 (nI x)) (i := 9) (x := v 1 9) rfl, zu_same (f := upd (upd (v 1) 7 (nI (a + b + d))) 8 (nI x)) (i := 10) (x := v 1 10) rfl] at e
    exact e
  · rw [h1] at hz
    cases hz
theorem zc_see1_no (hA : zk_Adv Ls xs tn ts tp tv E bb) (hE : v 2 2 = nI E) (hb : v 3 = bb) {k : Nat} (hk : k ≤ E) {a b d : Nat} {S : Nat → Int64} (hN : zC_N a b d (w 17) (v 18) (v 19) S) (hw : ∀ j, j < 7 → w 16 j = zk_lw j) (hT : zt_ok tn ts tv E) {f : Int32} {p : Nat} (hz : zp_see tn ts tp tv 0 8 S k = .inr (f, p)) : zk_Cr zk_mt zk_ex Ls xs 152 [.ref 1, .int 1] (zH (zb (zb v 1 (upd (v 1) 7 (nI (a + b + d)))) 2 (upd (upd (upd (v 2) 3 (nI (tn k))) 4 (ts k)) 5 (nI (tp k)))) (zb w 2 (vp_updL (w 2) 6 (tv k))) t) (some (.int 0), zH (zb (zb v 1 (upd (upd (upd (v 1) 7 (nI (a + b + d))) 9 f) 10 (nI p))) 2 (upd (upd (upd (v 2) 3 (nI (tn k))) 4 (ts k)) 5 (nI (tp k)))) (zb w 2 (vp_updL (w 2) 6 (tv k))) t) := by
  have e := zs_see (v := v) (w := w) (t := t) tn ts tp tv E bb hA hE hb k hk (a + b + d) (by have := hN.1; omega) 1
  rcases zq_see1 (tn := tn) (tp := tp) (tk := v 1 8) (fl := v 1 9) (pl := v 1 10) hN hw (hT.1 k hk) with ⟨y, h1, h3, h2⟩ | ⟨g, p', h1, h2⟩
  · rw [h1] at hz
    cases hz
  · rw [h1] at hz
    cases hz
    rw [h2] at e
    dsimp only at e
    rw [zu_same (f := upd (v 1) 7 (nI (a + b + d))) (i := 8) (x := v 1 8) rfl] at e
    exact e
theorem zc_see2_ok (hA : zk_Adv Ls xs tn ts tp tv E bb) (hE : v 2 2 = nI E) (hb : v 3 = bb) {k : Nat} (hk : k ≤ E) {a b d : Nat} {S : Nat → Int64} (hN : zC_N a b d (w 17) (v 18) (v 19) S) (hw : ∀ j, j < 7 → w 16 j = zk_lw j) (hT : zt_ok tn ts tv E) {x : Nat} (hz : zp_see tn ts tp tv 8 13 S k = .inl x) : x < b ∧ zk_Cr zk_mt zk_ex Ls xs 152 [.ref 1, .int 2] (zH (zb (zb v 1 (upd (v 1) 7 (nI (a + b + d)))) 2 (upd (upd (upd (v 2) 3 (nI (tn k))) 4 (ts k)) 5 (nI (tp k)))) (zb w 2 (vp_updL (w 2) 6 (tv k))) t) (some (.int 1), zH (zb (zb v 1 (upd (upd (v 1) 7 (nI (a + b + d))) 8 (nI x))) 2 (upd (upd (upd (v 2) 3 (nI (tn k))) 4 (ts k)) 5 (nI (tp k)))) (zb w 2 (vp_updL (w 2) 6 (tv k))) t) := by
  have e := zs_see (v := v) (w := w) (t := t) tn ts tp tv E bb hA hE hb k hk (a + b + d) (by have := hN.1; omega) 2
  rcases zq_see2 (tn := tn) (tp := tp) (tk := v 1 8) (fl := v 1 9) (pl := v 1 10) hN hw (hT.1 k hk) with ⟨y, h1, h3, h2⟩ | ⟨g, p', h1, h2⟩
  · rw [h1] at hz
    cases hz
    refine ⟨h3, ?_⟩
    rw [h2] at e
    dsimp only at e
    rw [zu_same (f := upd (upd (v 1) 7 (nI (a + b + d))) 8 (nI x)) (i := 9) (x := v 1 9) rfl, zu_same (f := upd (upd (v 1) 7 (nI (a + b + d))) 8 (nI x)) (i := 10) (x := v 1 10) rfl] at e
    exact e
  · rw [h1] at hz
    cases hz
theorem zc_see2_no (hA : zk_Adv Ls xs tn ts tp tv E bb) (hE : v 2 2 = nI E) (hb : v 3 = bb) {k : Nat} (hk : k ≤ E) {a b d : Nat} {S : Nat → Int64} (hN : zC_N a b d (w 17) (v 18) (v 19) S) (hw : ∀ j, j < 7 → w 16 j = zk_lw j) (hT : zt_ok tn ts tv E) {f : Int32} {p : Nat} (hz : zp_see tn ts tp tv 8 13 S k = .inr (f, p)) : zk_Cr zk_mt zk_ex Ls xs 152 [.ref 1, .int 2] (zH (zb (zb v 1 (upd (v 1) 7 (nI (a + b + d)))) 2 (upd (upd (upd (v 2) 3 (nI (tn k))) 4 (ts k)) 5 (nI (tp k)))) (zb w 2 (vp_updL (w 2) 6 (tv k))) t) (some (.int 0), zH (zb (zb v 1 (upd (upd (upd (v 1) 7 (nI (a + b + d))) 9 f) 10 (nI p))) 2 (upd (upd (upd (v 2) 3 (nI (tn k))) 4 (ts k)) 5 (nI (tp k)))) (zb w 2 (vp_updL (w 2) 6 (tv k))) t) := by
  have e := zs_see (v := v) (w := w) (t := t) tn ts tp tv E bb hA hE hb k hk (a + b + d) (by have := hN.1; omega) 2
  rcases zq_see2 (tn := tn) (tp := tp) (tk := v 1 8) (fl := v 1 9) (pl := v 1 10) hN hw (hT.1 k hk) with ⟨y, h1, h3, h2⟩ | ⟨g, p', h1, h2⟩
  · rw [h1] at hz
    cases hz
  · rw [h1] at hz
    cases hz
    rw [h2] at e
    dsimp only at e
    rw [zu_same (f := upd (v 1) 7 (nI (a + b + d))) (i := 8) (x := v 1 8) rfl] at e
    exact e
theorem zc_see3_ok (hA : zk_Adv Ls xs tn ts tp tv E bb) (hE : v 2 2 = nI E) (hb : v 3 = bb) {k : Nat} (hk : k ≤ E) {a b d : Nat} {S : Nat → Int64} (hN : zC_N a b d (w 17) (v 18) (v 19) S) (hw : ∀ j, j < 7 → w 16 j = zk_lw j) (hT : zt_ok tn ts tv E) {x : Nat} (hz : zp_see tn ts tp tv 13 17 S k = .inl x) : x < d ∧ zk_Cr zk_mt zk_ex Ls xs 152 [.ref 1, .int 3] (zH (zb (zb v 1 (upd (v 1) 7 (nI (a + b + d)))) 2 (upd (upd (upd (v 2) 3 (nI (tn k))) 4 (ts k)) 5 (nI (tp k)))) (zb w 2 (vp_updL (w 2) 6 (tv k))) t) (some (.int 1), zH (zb (zb v 1 (upd (upd (v 1) 7 (nI (a + b + d))) 8 (nI x))) 2 (upd (upd (upd (v 2) 3 (nI (tn k))) 4 (ts k)) 5 (nI (tp k)))) (zb w 2 (vp_updL (w 2) 6 (tv k))) t) := by
  have e := zs_see (v := v) (w := w) (t := t) tn ts tp tv E bb hA hE hb k hk (a + b + d) (by have := hN.1; omega) 3
  rcases zq_see3 (tn := tn) (tp := tp) (tk := v 1 8) (fl := v 1 9) (pl := v 1 10) hN hw (hT.1 k hk) with ⟨y, h1, h3, h2⟩ | ⟨g, p', h1, h2⟩
  · rw [h1] at hz
    cases hz
    refine ⟨h3, ?_⟩
    rw [h2] at e
    dsimp only at e
    rw [zu_same (f := upd (upd (v 1) 7 (nI (a + b + d))) 8 (nI x)) (i := 9) (x := v 1 9) rfl, zu_same (f := upd (upd (v 1) 7 (nI (a + b + d))) 8 (nI x)) (i := 10) (x := v 1 10) rfl] at e
    exact e
  · rw [h1] at hz
    cases hz
theorem zc_see3_no (hA : zk_Adv Ls xs tn ts tp tv E bb) (hE : v 2 2 = nI E) (hb : v 3 = bb) {k : Nat} (hk : k ≤ E) {a b d : Nat} {S : Nat → Int64} (hN : zC_N a b d (w 17) (v 18) (v 19) S) (hw : ∀ j, j < 7 → w 16 j = zk_lw j) (hT : zt_ok tn ts tv E) {f : Int32} {p : Nat} (hz : zp_see tn ts tp tv 13 17 S k = .inr (f, p)) : zk_Cr zk_mt zk_ex Ls xs 152 [.ref 1, .int 3] (zH (zb (zb v 1 (upd (v 1) 7 (nI (a + b + d)))) 2 (upd (upd (upd (v 2) 3 (nI (tn k))) 4 (ts k)) 5 (nI (tp k)))) (zb w 2 (vp_updL (w 2) 6 (tv k))) t) (some (.int 0), zH (zb (zb v 1 (upd (upd (upd (v 1) 7 (nI (a + b + d))) 9 f) 10 (nI p))) 2 (upd (upd (upd (v 2) 3 (nI (tn k))) 4 (ts k)) 5 (nI (tp k)))) (zb w 2 (vp_updL (w 2) 6 (tv k))) t) := by
  have e := zs_see (v := v) (w := w) (t := t) tn ts tp tv E bb hA hE hb k hk (a + b + d) (by have := hN.1; omega) 3
  rcases zq_see3 (tn := tn) (tp := tp) (tk := v 1 8) (fl := v 1 9) (pl := v 1 10) hN hw (hT.1 k hk) with ⟨y, h1, h3, h2⟩ | ⟨g, p', h1, h2⟩
  · rw [h1] at hz
    cases hz
  · rw [h1] at hz
    cases hz
    rw [h2] at e
    dsimp only at e
    rw [zu_same (f := upd (v 1) 7 (nI (a + b + d))) (i := 8) (x := v 1 8) rfl] at e
    exact e
theorem zc_new1_ok (hA : zk_Adv Ls xs tn ts tp tv E bb) (hE : v 2 2 = nI E) (hb : v 3 = bb) {k : Nat} (hk : k ≤ E) {a b d : Nat} {S : Nat → Int64} (hN : zC_N a b d (w 17) (v 18) (v 19) S) (hw : ∀ j, j < 7 → w 16 j = zk_lw j) (hT : zt_ok tn ts tv E) (hc : a < 8) {k1 : Nat} {S1 : Nat → Int64} (hz : zp_new tn ts tp tv (a) S k = .inl (k1, S1)) : (k1 ≤ E ∧ zC_N (a + 1) b d (vp_updL (w 17) (a + b + d) (tv k)) (upd (v 18) (a + b + d) 1) (upd (v 19) (a + b + d) (nI a)) S1) ∧ zk_Cr zk_mt zk_ex Ls xs 203 [.ref 1, .int 1, .int (nI a)] (zH (zb (zb v 1 (upd (v 1) 7 (nI (a + b + d)))) 2 (upd (upd (upd (v 2) 3 (nI (tn k))) 4 (ts k)) 5 (nI (tp k)))) (zb w 2 (vp_updL (w 2) 6 (tv k))) t) (some (.int 1), zH (zb (zb (zb (zb v 1 (upd (v 1) 7 (nI (a + 1 + b + d)))) 2 (upd (upd (upd (v 2) 3 (nI (tn k1))) 4 (ts k1)) 5 (nI (tp k1)))) 18 (upd (v 18) (a + b + d) 1)) 19 (upd (v 19) (a + b + d) (nI a))) (zb (zb w 2 (vp_updL (w 2) 6 (tv k1))) 17 (vp_updL (w 17) (a + b + d) (tv k))) t) := by
  have e := zs_newName (v := v) (w := w) (t := t) tn ts tp tv E bb hA hE hb k hk (a + b + d) (by have := hN.1; omega) 1 (nI a)
  rcases zq_new1 (tn := tn) (tp := tp) (fl := v 1 9) (pl := v 1 10) hN hw (hT.1 k hk) hc with ⟨h1, h3, h2⟩ | ⟨g, p', h1, h2⟩
  · rw [h1] at hz
    cases hz
    refine ⟨⟨hA.1 k hk, h3⟩, ?_⟩
    rw [h2] at e
    dsimp only at e
    rw [show a + b + d + 1 = (a + 1 + b + d) by omega] at e
    rw [zu_same (f := upd (v 1) 7 (nI (a + 1 + b + d))) (i := 9) (x := v 1 9) rfl, zu_same (f := upd (v 1) 7 (nI (a + 1 + b + d))) (i := 10) (x := v 1 10) rfl] at e
    exact e
  · rw [h1] at hz
    cases hz
theorem zc_new1_no (hA : zk_Adv Ls xs tn ts tp tv E bb) (hE : v 2 2 = nI E) (hb : v 3 = bb) {k : Nat} (hk : k ≤ E) {a b d : Nat} {S : Nat → Int64} (hN : zC_N a b d (w 17) (v 18) (v 19) S) (hw : ∀ j, j < 7 → w 16 j = zk_lw j) (hT : zt_ok tn ts tv E) (hc : a < 8) {f : Int32} {p : Nat} (hz : zp_new tn ts tp tv (a) S k = .inr (f, p)) : zk_Cr zk_mt zk_ex Ls xs 203 [.ref 1, .int 1, .int (nI a)] (zH (zb (zb v 1 (upd (v 1) 7 (nI (a + b + d)))) 2 (upd (upd (upd (v 2) 3 (nI (tn k))) 4 (ts k)) 5 (nI (tp k)))) (zb w 2 (vp_updL (w 2) 6 (tv k))) t) (some (.int 0), zH (zb (zb v 1 (upd (upd (upd (v 1) 7 (nI (a + b + d))) 9 f) 10 (nI p))) 2 (upd (upd (upd (v 2) 3 (nI (tn k))) 4 (ts k)) 5 (nI (tp k)))) (zb w 2 (vp_updL (w 2) 6 (tv k))) t) := by
  have e := zs_newName (v := v) (w := w) (t := t) tn ts tp tv E bb hA hE hb k hk (a + b + d) (by have := hN.1; omega) 1 (nI a)
  rcases zq_new1 (tn := tn) (tp := tp) (fl := v 1 9) (pl := v 1 10) hN hw (hT.1 k hk) hc with ⟨h1, h3, h2⟩ | ⟨g, p', h1, h2⟩
  · rw [h1] at hz
    cases hz
  · rw [h1] at hz
    cases hz
    rw [h2] at e
    exact e
theorem zc_new2_ok (hA : zk_Adv Ls xs tn ts tp tv E bb) (hE : v 2 2 = nI E) (hb : v 3 = bb) {k : Nat} (hk : k ≤ E) {a b d : Nat} {S : Nat → Int64} (hN : zC_N a b d (w 17) (v 18) (v 19) S) (hw : ∀ j, j < 7 → w 16 j = zk_lw j) (hT : zt_ok tn ts tv E) (hc : b < 5) {k1 : Nat} {S1 : Nat → Int64} (hz : zp_new tn ts tp tv (8 + b) S k = .inl (k1, S1)) : (k1 ≤ E ∧ zC_N a (b + 1) d (vp_updL (w 17) (a + b + d) (tv k)) (upd (v 18) (a + b + d) 2) (upd (v 19) (a + b + d) (nI b)) S1) ∧ zk_Cr zk_mt zk_ex Ls xs 203 [.ref 1, .int 2, .int (nI b)] (zH (zb (zb v 1 (upd (v 1) 7 (nI (a + b + d)))) 2 (upd (upd (upd (v 2) 3 (nI (tn k))) 4 (ts k)) 5 (nI (tp k)))) (zb w 2 (vp_updL (w 2) 6 (tv k))) t) (some (.int 1), zH (zb (zb (zb (zb v 1 (upd (v 1) 7 (nI (a + (b + 1) + d)))) 2 (upd (upd (upd (v 2) 3 (nI (tn k1))) 4 (ts k1)) 5 (nI (tp k1)))) 18 (upd (v 18) (a + b + d) 2)) 19 (upd (v 19) (a + b + d) (nI b))) (zb (zb w 2 (vp_updL (w 2) 6 (tv k1))) 17 (vp_updL (w 17) (a + b + d) (tv k))) t) := by
  have e := zs_newName (v := v) (w := w) (t := t) tn ts tp tv E bb hA hE hb k hk (a + b + d) (by have := hN.1; omega) 2 (nI b)
  rcases zq_new2 (tn := tn) (tp := tp) (fl := v 1 9) (pl := v 1 10) hN hw (hT.1 k hk) hc with ⟨h1, h3, h2⟩ | ⟨g, p', h1, h2⟩
  · rw [h1] at hz
    cases hz
    refine ⟨⟨hA.1 k hk, h3⟩, ?_⟩
    rw [h2] at e
    dsimp only at e
    rw [show a + b + d + 1 = (a + (b + 1) + d) by omega] at e
    rw [zu_same (f := upd (v 1) 7 (nI (a + (b + 1) + d))) (i := 9) (x := v 1 9) rfl, zu_same (f := upd (v 1) 7 (nI (a + (b + 1) + d))) (i := 10) (x := v 1 10) rfl] at e
    exact e
  · rw [h1] at hz
    cases hz
theorem zc_new2_no (hA : zk_Adv Ls xs tn ts tp tv E bb) (hE : v 2 2 = nI E) (hb : v 3 = bb) {k : Nat} (hk : k ≤ E) {a b d : Nat} {S : Nat → Int64} (hN : zC_N a b d (w 17) (v 18) (v 19) S) (hw : ∀ j, j < 7 → w 16 j = zk_lw j) (hT : zt_ok tn ts tv E) (hc : b < 5) {f : Int32} {p : Nat} (hz : zp_new tn ts tp tv (8 + b) S k = .inr (f, p)) : zk_Cr zk_mt zk_ex Ls xs 203 [.ref 1, .int 2, .int (nI b)] (zH (zb (zb v 1 (upd (v 1) 7 (nI (a + b + d)))) 2 (upd (upd (upd (v 2) 3 (nI (tn k))) 4 (ts k)) 5 (nI (tp k)))) (zb w 2 (vp_updL (w 2) 6 (tv k))) t) (some (.int 0), zH (zb (zb v 1 (upd (upd (upd (v 1) 7 (nI (a + b + d))) 9 f) 10 (nI p))) 2 (upd (upd (upd (v 2) 3 (nI (tn k))) 4 (ts k)) 5 (nI (tp k)))) (zb w 2 (vp_updL (w 2) 6 (tv k))) t) := by
  have e := zs_newName (v := v) (w := w) (t := t) tn ts tp tv E bb hA hE hb k hk (a + b + d) (by have := hN.1; omega) 2 (nI b)
  rcases zq_new2 (tn := tn) (tp := tp) (fl := v 1 9) (pl := v 1 10) hN hw (hT.1 k hk) hc with ⟨h1, h3, h2⟩ | ⟨g, p', h1, h2⟩
  · rw [h1] at hz
    cases hz
  · rw [h1] at hz
    cases hz
    rw [h2] at e
    exact e
theorem zc_new3_ok (hA : zk_Adv Ls xs tn ts tp tv E bb) (hE : v 2 2 = nI E) (hb : v 3 = bb) {k : Nat} (hk : k ≤ E) {a b d : Nat} {S : Nat → Int64} (hN : zC_N a b d (w 17) (v 18) (v 19) S) (hw : ∀ j, j < 7 → w 16 j = zk_lw j) (hT : zt_ok tn ts tv E) (hc : d < 4) {k1 : Nat} {S1 : Nat → Int64} (hz : zp_new tn ts tp tv (13 + d) S k = .inl (k1, S1)) : (k1 ≤ E ∧ zC_N a b (d + 1) (vp_updL (w 17) (a + b + d) (tv k)) (upd (v 18) (a + b + d) 3) (upd (v 19) (a + b + d) (nI d)) S1) ∧ zk_Cr zk_mt zk_ex Ls xs 203 [.ref 1, .int 3, .int (nI d)] (zH (zb (zb v 1 (upd (v 1) 7 (nI (a + b + d)))) 2 (upd (upd (upd (v 2) 3 (nI (tn k))) 4 (ts k)) 5 (nI (tp k)))) (zb w 2 (vp_updL (w 2) 6 (tv k))) t) (some (.int 1), zH (zb (zb (zb (zb v 1 (upd (v 1) 7 (nI (a + b + (d + 1))))) 2 (upd (upd (upd (v 2) 3 (nI (tn k1))) 4 (ts k1)) 5 (nI (tp k1)))) 18 (upd (v 18) (a + b + d) 3)) 19 (upd (v 19) (a + b + d) (nI d))) (zb (zb w 2 (vp_updL (w 2) 6 (tv k1))) 17 (vp_updL (w 17) (a + b + d) (tv k))) t) := by
  have e := zs_newName (v := v) (w := w) (t := t) tn ts tp tv E bb hA hE hb k hk (a + b + d) (by have := hN.1; omega) 3 (nI d)
  rcases zq_new3 (tn := tn) (tp := tp) (fl := v 1 9) (pl := v 1 10) hN hw (hT.1 k hk) hc with ⟨h1, h3, h2⟩ | ⟨g, p', h1, h2⟩
  · rw [h1] at hz
    cases hz
    refine ⟨⟨hA.1 k hk, h3⟩, ?_⟩
    rw [h2] at e
    dsimp only at e
    rw [show a + b + d + 1 = (a + b + (d + 1)) by omega] at e
    rw [zu_same (f := upd (v 1) 7 (nI (a + b + (d + 1)))) (i := 9) (x := v 1 9) rfl, zu_same (f := upd (v 1) 7 (nI (a + b + (d + 1)))) (i := 10) (x := v 1 10) rfl] at e
    exact e
  · rw [h1] at hz
    cases hz
theorem zc_new3_no (hA : zk_Adv Ls xs tn ts tp tv E bb) (hE : v 2 2 = nI E) (hb : v 3 = bb) {k : Nat} (hk : k ≤ E) {a b d : Nat} {S : Nat → Int64} (hN : zC_N a b d (w 17) (v 18) (v 19) S) (hw : ∀ j, j < 7 → w 16 j = zk_lw j) (hT : zt_ok tn ts tv E) (hc : d < 4) {f : Int32} {p : Nat} (hz : zp_new tn ts tp tv (13 + d) S k = .inr (f, p)) : zk_Cr zk_mt zk_ex Ls xs 203 [.ref 1, .int 3, .int (nI d)] (zH (zb (zb v 1 (upd (v 1) 7 (nI (a + b + d)))) 2 (upd (upd (upd (v 2) 3 (nI (tn k))) 4 (ts k)) 5 (nI (tp k)))) (zb w 2 (vp_updL (w 2) 6 (tv k))) t) (some (.int 0), zH (zb (zb v 1 (upd (upd (upd (v 1) 7 (nI (a + b + d))) 9 f) 10 (nI p))) 2 (upd (upd (upd (v 2) 3 (nI (tn k))) 4 (ts k)) 5 (nI (tp k)))) (zb w 2 (vp_updL (w 2) 6 (tv k))) t) := by
  have e := zs_newName (v := v) (w := w) (t := t) tn ts tp tv E bb hA hE hb k hk (a + b + d) (by have := hN.1; omega) 3 (nI d)
  rcases zq_new3 (tn := tn) (tp := tp) (fl := v 1 9) (pl := v 1 10) hN hw (hT.1 k hk) hc with ⟨h1, h3, h2⟩ | ⟨g, p', h1, h2⟩
  · rw [h1] at hz
    cases hz
  · rw [h1] at hz
    cases hz
    rw [h2] at e
    exact e
theorem zc_td_ok (hA : zk_Adv Ls xs tn ts tp tv E bb) (hE : v 2 2 = nI E) (hb : v 3 = bb) {k : Nat} (hk : k ≤ E) {a b d : Nat} {S : Nat → Int64} (hN : zC_N a b d (w 17) (v 18) (v 19) S) (hw : ∀ j, j < 7 → w 16 j = zk_lw j) (hT : zt_ok tn ts tv E) {k1 : Nat} {bi : Int32} (hz : zp_dng tn ts tp tv S 9 0 k = .inl (k1, bi)) : k1 ≤ E ∧ zk_Cr zk_mt zk_ex Ls xs 202 [.ref 1] (zH (zb (zb v 1 (upd (v 1) 7 (nI (a + b + d)))) 2 (upd (upd (upd (v 2) 3 (nI (tn k))) 4 (ts k)) 5 (nI (tp k)))) (zb w 2 (vp_updL (w 2) 6 (tv k))) t) (some (.int 1), zH (zb (zb v 1 (upd (upd (v 1) 7 (nI (a + b + d))) 8 bi)) 2 (upd (upd (upd (v 2) 3 (nI (tn k1))) 4 (ts k1)) 5 (nI (tp k1)))) (zb w 2 (vp_updL (w 2) 6 (tv k1))) t) := by
  have h8 : a + b + d ≤ 17 := by have := hN.1; omega
  have hN1 : ∀ i, i < a + b + d → v 18 i = 1 → ∃ x, x < 8 ∧ v 19 i = nI x := by
    intro i hi h1
    have h9 := hN.1
    rcases hN.2.1 i hi with ⟨_, x, q2, q3, _⟩ | ⟨q1, _⟩ | ⟨q1, _⟩
    · exact ⟨x, by omega, q3⟩
    · rw [q1] at h1; exact absurd h1 (by decide)
    · rw [q1] at h1; exact absurd h1 (by decide)
  have e := zs_td (v := v) (w := w) (t := t) tn ts tp tv E bb hA hE hb k hk (a + b + d) h8 hN1
  rcases zq_td (tp := tp) hN hw hT hA.1 9 0 0 k (v 1 8) (v 1 9) (v 1 10) hk with ⟨k2, b2, h0, h1, h2⟩ | ⟨g, p', k2, tk2, h0, h1, h2⟩
  · rw [h1] at hz
    cases hz
    refine ⟨h0, ?_⟩
    unfold zr_td at e
    rw [h2] at e
    dsimp only at e
    rw [zu_same (f := upd (upd (v 1) 7 (nI (a + b + d))) 8 bi) (i := 9) (x := v 1 9) rfl, zu_same (f := upd (upd (v 1) 7 (nI (a + b + d))) 8 bi) (i := 10) (x := v 1 10) rfl] at e
    exact e
  · rw [h1] at hz
    cases hz
theorem zc_td_no (hA : zk_Adv Ls xs tn ts tp tv E bb) (hE : v 2 2 = nI E) (hb : v 3 = bb) {k : Nat} (hk : k ≤ E) {a b d : Nat} {S : Nat → Int64} (hN : zC_N a b d (w 17) (v 18) (v 19) S) (hw : ∀ j, j < 7 → w 16 j = zk_lw j) (hT : zt_ok tn ts tv E) {f : Int32} {p : Nat} (hz : zp_dng tn ts tp tv S 9 0 k = .inr (f, p)) : ∃ k1 tk1, k1 ≤ E ∧ zk_Cr zk_mt zk_ex Ls xs 202 [.ref 1] (zH (zb (zb v 1 (upd (v 1) 7 (nI (a + b + d)))) 2 (upd (upd (upd (v 2) 3 (nI (tn k))) 4 (ts k)) 5 (nI (tp k)))) (zb w 2 (vp_updL (w 2) 6 (tv k))) t) (some (.int 0), zH (zb (zb v 1 (upd (upd (upd (upd (v 1) 7 (nI (a + b + d))) 8 tk1) 9 f) 10 (nI p))) 2 (upd (upd (upd (v 2) 3 (nI (tn k1))) 4 (ts k1)) 5 (nI (tp k1)))) (zb w 2 (vp_updL (w 2) 6 (tv k1))) t) := by
  have h8 : a + b + d ≤ 17 := by have := hN.1; omega
  have hN1 : ∀ i, i < a + b + d → v 18 i = 1 → ∃ x, x < 8 ∧ v 19 i = nI x := by
    intro i hi h1
    have h9 := hN.1
    rcases hN.2.1 i hi with ⟨_, x, q2, q3, _⟩ | ⟨q1, _⟩ | ⟨q1, _⟩
    · exact ⟨x, by omega, q3⟩
    · rw [q1] at h1; exact absurd h1 (by decide)
    · rw [q1] at h1; exact absurd h1 (by decide)
  have e := zs_td (v := v) (w := w) (t := t) tn ts tp tv E bb hA hE hb k hk (a + b + d) h8 hN1
  rcases zq_td (tp := tp) hN hw hT hA.1 9 0 0 k (v 1 8) (v 1 9) (v 1 10) hk with ⟨k2, b2, h0, h1, h2⟩ | ⟨g, p', k2, tk2, h0, h1, h2⟩
  · rw [h1] at hz
    cases hz
  · rw [h1] at hz
    cases hz
    refine ⟨k2, tk2, h0, ?_⟩
    unfold zr_td at e
    rcases h2 with h2 | ⟨b1, fl1, pl1, h2, h3, h4⟩
    · rw [h2] at e
      exact e
    · rw [h2] at e
      subst h3
      subst h4
      exact e
end Z79K
