/-! the reference's lines one behind the other -/
theorem zp_kw_m {tn : Nat → Nat} {ts : Nat → Int32} {tp : Nat → Nat} {tv : Nat → Int64} {E : Nat} (hT : zt_ok tn ts tv E) (hE : ∀ k, k ≤ E → tn k ≤ E) {c : Int64} {k k1 : Nat} (hk : k ≤ E) (h : zp_kw tn ts tp tv c k = .inl k1) : k < k1 ∧ k1 ≤ E := by
  unfold zp_kw at h
  split at h
  · rename_i hc
    cases h
    exact ⟨hT.2.2 k hk (by rw [hc.1]; decide), hE k hk⟩
  · cases h
theorem zp_num_m {tn : Nat → Nat} {ts : Nat → Int32} {tp : Nat → Nat} {tv : Nat → Int64} {E : Nat} (hT : zt_ok tn ts tv E) (hE : ∀ k, k ≤ E → tn k ≤ E) {lo hi k : Nat} {r : Nat × Nat} (hk : k ≤ E) (h : zp_num tn ts tp tv lo hi k = .inl r) : k < r.1 ∧ r.1 ≤ E := by
  unfold zp_num at h
  split at h
  · rename_i hc
    split at h
    · cases h
      exact ⟨hT.2.2 k hk (by rw [hc]; decide), hE k hk⟩
    · cases h
  · cases h
theorem zp_kind_m {tn : Nat → Nat} {ts : Nat → Int32} {tp : Nat → Nat} {tv : Nat → Int64} {E : Nat} (hT : zt_ok tn ts tv E) (hE : ∀ k, k ≤ E → tn k ≤ E) {k : Nat} {r : Nat × Nat} (hk : k ≤ E) (h : zp_kind tn ts tp tv k = .inl r) : k < r.1 ∧ r.1 ≤ E := by
  unfold zp_kind at h
  split at h
  · rename_i hc
    cases h
    exact ⟨hT.2.2 k hk (by rw [hc.1]; decide), hE k hk⟩
  · split at h
    · rename_i hc
      cases h
      exact ⟨hT.2.2 k hk (by rw [hc.1]; decide), hE k hk⟩
    · split at h
      · rename_i hc
        cases h
        exact ⟨hT.2.2 k hk (by rw [hc.1]; decide), hE k hk⟩
      · cases h
theorem zp_new_m {tn : Nat → Nat} {ts : Nat → Int32} {tp : Nat → Nat} {tv : Nat → Int64} {E : Nat} (hT : zt_ok tn ts tv E) (hE : ∀ k, k ≤ E → tn k ≤ E) {s k : Nat} {S : Nat → Int64} {r : Nat × (Nat → Int64)} (hk : k ≤ E) (h : zp_new tn ts tp tv s S k = .inl r) : (k < r.1 ∧ r.1 ≤ E) ∧ r.2 = vp_updL S s (tv k) := by
  unfold zp_new at h
  split at h
  · cases h
  · rename_i hc
    split at h
    · cases h
      exact ⟨⟨hT.2.2 k hk (by rw [zr_isName2 hc]; decide), hE k hk⟩, rfl⟩
    · cases h
theorem zp_see_m {tn : Nat → Nat} {ts : Nat → Int32} {tp : Nat → Nat} {tv : Nat → Int64} {E : Nat} (hT : zt_ok tn ts tv E) (hE : ∀ k, k ≤ E → tn k ≤ E) {lo hi k x : Nat} {S : Nat → Int64} (hk : k ≤ E) (h : zp_see tn ts tp tv lo hi S k = .inl x) : k < tn k ∧ tn k ≤ E := ⟨hT.2.2 k hk (by rw [(zp_see_lt h).2.2.1]; decide), hE k hk⟩
theorem zp_dng_m {tn : Nat → Nat} {ts : Nat → Int32} {tp : Nat → Nat} {tv : Nat → Int64} {E : Nat} (hT : zt_ok tn ts tv E) (hE : ∀ k, k ≤ E → tn k ≤ E) {S : Nat → Int64} : ∀ (n : Nat) (bi : Int32) (k : Nat) (r : Nat × Int32), k ≤ E → zp_dng tn ts tp tv S n bi k = .inl r → k < r.1 ∧ r.1 ≤ E := by
  intro n
  induction n with
  | zero => intro bi k r _ h; cases h
  | succ n ih =>
    intro bi k r hk h
    unfold zp_dng at h
    cases hz : zp_see tn ts tp tv 0 8 S k with
    | inr e => rw [hz] at h; cases h
    | inl x =>
      rw [hz] at h
      dsimp only at h
      have hs := zp_see_m hT hE hk hz
      split at h
      · split at h
        · rename_i hc
          have h2 := hT.2.2 (tn k) hs.2 (by rw [hc]; decide)
          have := ih _ _ _ (hE _ hs.2) h
          omega
        · cases h
          exact hs
      · cases h
theorem zp_levelL_m {tn : Nat → Nat} {ts : Nat → Int32} {tp : Nat → Nat} {tv : Nat → Int64} {k D Mn Gn Un : Nat} {l : Nat → Nat → Int32} {S : Nat → Int64} {E : Nat} (hT : zt_ok tn ts tv E) (hE : ∀ k, k ≤ E → tn k ≤ E) {k1 D1 M1 G1 U1 b1 : Nat} {l1 : Nat → Nat → Int32} {S1 : Nat → Int64} (hk : k ≤ E) (h : zp_levelL tn ts tp tv k D Mn Gn Un l S = .inl (k1, (D1, M1, G1, U1, b1), l1, S1)) : k < k1 ∧ k1 ≤ E := by
  unfold zp_levelL at h
  obtain ⟨a0, e0, h⟩ := zbd_inl h
  have p0 := zp_kw_m hT hE hk e0
  obtain ⟨a1, e1, h⟩ := zbd_inl h
  have p1 := zp_num_m hT hE p0.2 e1
  cases h
  exact ⟨by omega, p1.2⟩
theorem zp_dangerL_m {tn : Nat → Nat} {ts : Nat → Int32} {tp : Nat → Nat} {tv : Nat → Int64} {k D Mn Gn Un : Nat} {l : Nat → Nat → Int32} {S : Nat → Int64} {E : Nat} (hT : zt_ok tn ts tv E) (hE : ∀ k, k ≤ E → tn k ≤ E) {k1 D1 M1 G1 U1 b1 : Nat} {l1 : Nat → Nat → Int32} {S1 : Nat → Int64} (hk : k ≤ E) (h : zp_dangerL tn ts tp tv k D Mn Gn Un l S = .inl (k1, (D1, M1, G1, U1, b1), l1, S1)) : k < k1 ∧ k1 ≤ E := by
  unfold zp_dangerL at h
  obtain ⟨a0, e0, h⟩ := zbd_inl h
  have p0 := (zp_new_m hT hE hk e0).1
  obtain ⟨a1, e1, h⟩ := zbd_inl h
  have p1 := zp_kw_m hT hE p0.2 e1
  obtain ⟨a2, e2, h⟩ := zbd_inl h
  have p2 := zp_num_m hT hE p1.2 e2
  obtain ⟨a3, e3, h⟩ := zbd_inl h
  have p3 := zp_kw_m hT hE p2.2 e3
  obtain ⟨a4, e4, h⟩ := zbd_inl h
  have p4 := zp_num_m hT hE p3.2 e4
  cases h
  exact ⟨by omega, p4.2⟩
theorem zp_makerL_m {tn : Nat → Nat} {ts : Nat → Int32} {tp : Nat → Nat} {tv : Nat → Int64} {k D Mn Gn Un : Nat} {l : Nat → Nat → Int32} {S : Nat → Int64} {E : Nat} (hT : zt_ok tn ts tv E) (hE : ∀ k, k ≤ E → tn k ≤ E) {k1 D1 M1 G1 U1 b1 : Nat} {l1 : Nat → Nat → Int32} {S1 : Nat → Int64} (hk : k ≤ E) (h : zp_makerL tn ts tp tv k D Mn Gn Un l S = .inl (k1, (D1, M1, G1, U1, b1), l1, S1)) : k < k1 ∧ k1 ≤ E := by
  unfold zp_makerL at h
  obtain ⟨a0, e0, h⟩ := zbd_inl h
  have p0 := (zp_new_m hT hE hk e0).1
  obtain ⟨a1, e1, h⟩ := zbd_inl h
  have p1 := zp_kind_m hT hE p0.2 e1
  obtain ⟨a2, e2, h⟩ := zbd_inl h
  have p2 := zp_kw_m hT hE p1.2 e2
  obtain ⟨a3, e3, h⟩ := zbd_inl h
  have p3 := zp_num_m hT hE p2.2 e3
  obtain ⟨a4, e4, h⟩ := zbd_inl h
  have p4 := zp_kw_m hT hE p3.2 e4
  obtain ⟨a5, e5, h⟩ := zbd_inl h
  have p5 := zp_dng_m hT hE _ _ _ _ p4.2 e5
  cases h
  exact ⟨by omega, p5.2⟩
theorem zp_goodL_m {tn : Nat → Nat} {ts : Nat → Int32} {tp : Nat → Nat} {tv : Nat → Int64} {k D Mn Gn Un : Nat} {l : Nat → Nat → Int32} {S : Nat → Int64} {E : Nat} (hT : zt_ok tn ts tv E) (hE : ∀ k, k ≤ E → tn k ≤ E) {k1 D1 M1 G1 U1 b1 : Nat} {l1 : Nat → Nat → Int32} {S1 : Nat → Int64} (hk : k ≤ E) (h : zp_goodL tn ts tp tv k D Mn Gn Un l S = .inl (k1, (D1, M1, G1, U1, b1), l1, S1)) : k < k1 ∧ k1 ≤ E := by
  unfold zp_goodL at h
  obtain ⟨a0, e0, h⟩ := zbd_inl h
  have p0 := (zp_new_m hT hE hk e0).1
  obtain ⟨a1, e1, h⟩ := zbd_inl h
  have p1 := zp_kw_m hT hE p0.2 e1
  obtain ⟨a2, e2, h⟩ := zbd_inl h
  have p2 := zp_num_m hT hE p1.2 e2
  obtain ⟨a3, e3, h⟩ := zbd_inl h
  have p3 := zp_kw_m hT hE p2.2 e3
  obtain ⟨a4, e4, h⟩ := zbd_inl h
  have p4 := zp_dng_m hT hE _ _ _ _ p3.2 e4
  cases h
  exact ⟨by omega, p4.2⟩
theorem zp_inL_m {tn : Nat → Nat} {ts : Nat → Int32} {tp : Nat → Nat} {tv : Nat → Int64} {k D Mn Gn Un : Nat} {l : Nat → Nat → Int32} {S : Nat → Int64} {E : Nat} (hT : zt_ok tn ts tv E) (hE : ∀ k, k ≤ E → tn k ≤ E) {k1 D1 M1 G1 U1 b1 : Nat} {l1 : Nat → Nat → Int32} {S1 : Nat → Int64} (hk : k ≤ E) (h : zp_inL tn ts tp tv k D Mn Gn Un l S = .inl (k1, (D1, M1, G1, U1, b1), l1, S1)) : k < k1 ∧ k1 ≤ E := by
  unfold zp_inL at h
  obtain ⟨a0, e0, h⟩ := zbd_inl h
  have p0 := zp_see_m hT hE hk e0
  split at h
  · obtain ⟨a1, e1, h⟩ := zbd_inl h
    have p1 := zp_see_m hT hE p0.2 e1
    split at h
    · cases h
      exact ⟨by omega, p1.2⟩
    · cases h
  · cases h
theorem zp_unsureL_m {tn : Nat → Nat} {ts : Nat → Int32} {tp : Nat → Nat} {tv : Nat → Int64} {k D Mn Gn Un : Nat} {l : Nat → Nat → Int32} {S : Nat → Int64} {E : Nat} (hT : zt_ok tn ts tv E) (hE : ∀ k, k ≤ E → tn k ≤ E) {k1 D1 M1 G1 U1 b1 : Nat} {l1 : Nat → Nat → Int32} {S1 : Nat → Int64} (hk : k ≤ E) (h : zp_unsureL tn ts tp tv k D Mn Gn Un l S = .inl (k1, (D1, M1, G1, U1, b1), l1, S1)) : k < k1 ∧ k1 ≤ E := by
  unfold zp_unsureL at h
  obtain ⟨a0, e0, h⟩ := zbd_inl h
  have p0 := zp_see_m hT hE hk e0
  obtain ⟨a1, e1, h⟩ := zbd_inl h
  have p1 := zp_see_m hT hE p0.2 e1
  split at h
  · cases h
    exact ⟨by omega, p1.2⟩
  · cases h
theorem zp_befellL_m {tn : Nat → Nat} {ts : Nat → Int32} {tp : Nat → Nat} {tv : Nat → Int64} {k D Mn Gn Un : Nat} {l : Nat → Nat → Int32} {S : Nat → Int64} {E : Nat} (hT : zt_ok tn ts tv E) (hE : ∀ k, k ≤ E → tn k ≤ E) {k1 D1 M1 G1 U1 b1 : Nat} {l1 : Nat → Nat → Int32} {S1 : Nat → Int64} (hk : k ≤ E) (h : zp_befellL tn ts tp tv k D Mn Gn Un l S = .inl (k1, (D1, M1, G1, U1, b1), l1, S1)) : k < k1 ∧ k1 ≤ E := by
  unfold zp_befellL at h
  obtain ⟨a0, e0, h⟩ := zbd_inl h
  have p0 := zp_see_m hT hE hk e0
  split at h
  · obtain ⟨a1, e1, h⟩ := zbd_inl h
    have p1 := zp_kw_m hT hE p0.2 e1
    obtain ⟨a2, e2, h⟩ := zbd_inl h
    have p2 := zp_num_m hT hE p1.2 e2
    cases h
    exact ⟨by omega, p2.2⟩
  · cases h
theorem zSr_upd {D Mn Gn D' M' G' s : Nat} {S : Nat → Int64} {x : Int64} (hS : zSr D Mn Gn S) (h1 : D ≤ D' ∧ Mn ≤ M' ∧ Gn ≤ G') (h2 : s < D' ∨ (8 ≤ s ∧ s < 8 + M') ∨ (13 ≤ s ∧ s < 13 + G')) : zSr D' M' G' (vp_updL S s x) := by
  intro a ha h0
  by_cases hs : a = s
  · rw [hs]; exact h2
  · rw [zL_un hs] at h0
    have := hS a ha h0
    omega
theorem zp_dangerL_S {tn : Nat → Nat} {ts : Nat → Int32} {tp : Nat → Nat} {tv : Nat → Int64} {k D Mn Gn Un : Nat} {l : Nat → Nat → Int32} {S : Nat → Int64} {E : Nat} (hT : zt_ok tn ts tv E) (hE : ∀ k, k ≤ E → tn k ≤ E) {k1 D1 M1 G1 U1 b1 : Nat} {l1 : Nat → Nat → Int32} {S1 : Nat → Int64} (hk : k ≤ E) (hS : zSr D Mn Gn S) (h : zp_dangerL tn ts tp tv k D Mn Gn Un l S = .inl (k1, (D1, M1, G1, U1, b1), l1, S1)) : zSr D1 M1 G1 S1 := by
  unfold zp_dangerL at h
  obtain ⟨a0, e0, h⟩ := zbd_inl h
  have p0 := (zp_new_m hT hE hk e0).2
  obtain ⟨_, _, h⟩ := zbd_inl h
  obtain ⟨_, _, h⟩ := zbd_inl h
  obtain ⟨_, _, h⟩ := zbd_inl h
  obtain ⟨_, _, h⟩ := zbd_inl h
  cases h
  rw [p0]
  exact zSr_upd hS ⟨by omega, by omega, by omega⟩ (by omega)
theorem zp_makerL_S {tn : Nat → Nat} {ts : Nat → Int32} {tp : Nat → Nat} {tv : Nat → Int64} {k D Mn Gn Un : Nat} {l : Nat → Nat → Int32} {S : Nat → Int64} {E : Nat} (hT : zt_ok tn ts tv E) (hE : ∀ k, k ≤ E → tn k ≤ E) {k1 D1 M1 G1 U1 b1 : Nat} {l1 : Nat → Nat → Int32} {S1 : Nat → Int64} (hk : k ≤ E) (hS : zSr D Mn Gn S) (h : zp_makerL tn ts tp tv k D Mn Gn Un l S = .inl (k1, (D1, M1, G1, U1, b1), l1, S1)) : zSr D1 M1 G1 S1 := by
  unfold zp_makerL at h
  obtain ⟨a0, e0, h⟩ := zbd_inl h
  have p0 := (zp_new_m hT hE hk e0).2
  obtain ⟨_, _, h⟩ := zbd_inl h
  obtain ⟨_, _, h⟩ := zbd_inl h
  obtain ⟨_, _, h⟩ := zbd_inl h
  obtain ⟨_, _, h⟩ := zbd_inl h
  obtain ⟨_, _, h⟩ := zbd_inl h
  cases h
  rw [p0]
  exact zSr_upd hS ⟨by omega, by omega, by omega⟩ (by omega)
theorem zp_goodL_S {tn : Nat → Nat} {ts : Nat → Int32} {tp : Nat → Nat} {tv : Nat → Int64} {k D Mn Gn Un : Nat} {l : Nat → Nat → Int32} {S : Nat → Int64} {E : Nat} (hT : zt_ok tn ts tv E) (hE : ∀ k, k ≤ E → tn k ≤ E) {k1 D1 M1 G1 U1 b1 : Nat} {l1 : Nat → Nat → Int32} {S1 : Nat → Int64} (hk : k ≤ E) (hS : zSr D Mn Gn S) (h : zp_goodL tn ts tp tv k D Mn Gn Un l S = .inl (k1, (D1, M1, G1, U1, b1), l1, S1)) : zSr D1 M1 G1 S1 := by
  unfold zp_goodL at h
  obtain ⟨a0, e0, h⟩ := zbd_inl h
  have p0 := (zp_new_m hT hE hk e0).2
  obtain ⟨_, _, h⟩ := zbd_inl h
  obtain ⟨_, _, h⟩ := zbd_inl h
  obtain ⟨_, _, h⟩ := zbd_inl h
  obtain ⟨_, _, h⟩ := zbd_inl h
  cases h
  rw [p0]
  exact zSr_upd hS ⟨by omega, by omega, by omega⟩ (by omega)
theorem zp_levelL_S {tn : Nat → Nat} {ts : Nat → Int32} {tp : Nat → Nat} {tv : Nat → Int64} {k D Mn Gn Un : Nat} {l : Nat → Nat → Int32} {S : Nat → Int64} {E : Nat} (hT : zt_ok tn ts tv E) (hE : ∀ k, k ≤ E → tn k ≤ E) {k1 D1 M1 G1 U1 b1 : Nat} {l1 : Nat → Nat → Int32} {S1 : Nat → Int64} (hk : k ≤ E) (hS : zSr D Mn Gn S) (h : zp_levelL tn ts tp tv k D Mn Gn Un l S = .inl (k1, (D1, M1, G1, U1, b1), l1, S1)) : zSr D1 M1 G1 S1 := by
  unfold zp_levelL at h
  obtain ⟨_, _, h⟩ := zbd_inl h
  obtain ⟨_, _, h⟩ := zbd_inl h
  cases h
  exact hS
theorem zp_inL_S {tn : Nat → Nat} {ts : Nat → Int32} {tp : Nat → Nat} {tv : Nat → Int64} {k D Mn Gn Un : Nat} {l : Nat → Nat → Int32} {S : Nat → Int64} {E : Nat} (hT : zt_ok tn ts tv E) (hE : ∀ k, k ≤ E → tn k ≤ E) {k1 D1 M1 G1 U1 b1 : Nat} {l1 : Nat → Nat → Int32} {S1 : Nat → Int64} (hk : k ≤ E) (hS : zSr D Mn Gn S) (h : zp_inL tn ts tp tv k D Mn Gn Un l S = .inl (k1, (D1, M1, G1, U1, b1), l1, S1)) : zSr D1 M1 G1 S1 := by
  unfold zp_inL at h
  obtain ⟨a0, e0, h⟩ := zbd_inl h
  split at h
  · obtain ⟨a1, e1, h⟩ := zbd_inl h
    split at h
    · cases h; exact hS
    · cases h
  · cases h
theorem zp_unsureL_S {tn : Nat → Nat} {ts : Nat → Int32} {tp : Nat → Nat} {tv : Nat → Int64} {k D Mn Gn Un : Nat} {l : Nat → Nat → Int32} {S : Nat → Int64} {E : Nat} (hT : zt_ok tn ts tv E) (hE : ∀ k, k ≤ E → tn k ≤ E) {k1 D1 M1 G1 U1 b1 : Nat} {l1 : Nat → Nat → Int32} {S1 : Nat → Int64} (hk : k ≤ E) (hS : zSr D Mn Gn S) (h : zp_unsureL tn ts tp tv k D Mn Gn Un l S = .inl (k1, (D1, M1, G1, U1, b1), l1, S1)) : zSr D1 M1 G1 S1 := by
  unfold zp_unsureL at h
  obtain ⟨a0, e0, h⟩ := zbd_inl h
  obtain ⟨a1, e1, h⟩ := zbd_inl h
  split at h
  · cases h; exact hS
  · cases h
theorem zp_befellL_S {tn : Nat → Nat} {ts : Nat → Int32} {tp : Nat → Nat} {tv : Nat → Int64} {k D Mn Gn Un : Nat} {l : Nat → Nat → Int32} {S : Nat → Int64} {E : Nat} (hT : zt_ok tn ts tv E) (hE : ∀ k, k ≤ E → tn k ≤ E) {k1 D1 M1 G1 U1 b1 : Nat} {l1 : Nat → Nat → Int32} {S1 : Nat → Int64} (hk : k ≤ E) (hS : zSr D Mn Gn S) (h : zp_befellL tn ts tp tv k D Mn Gn Un l S = .inl (k1, (D1, M1, G1, U1, b1), l1, S1)) : zSr D1 M1 G1 S1 := by
  unfold zp_befellL at h
  obtain ⟨a0, e0, h⟩ := zbd_inl h
  split at h
  · obtain ⟨a1, e1, h⟩ := zbd_inl h
    obtain ⟨a2, e2, h⟩ := zbd_inl h
    cases h; exact hS
  · cases h
theorem zp_line_m {tn : Nat → Nat} {ts : Nat → Int32} {tp : Nat → Nat} {tv : Nat → Int64} {k D Mn Gn Un bg : Nat} {l : Nat → Nat → Int32} {S : Nat → Int64} {E : Nat} (hT : zt_ok tn ts tv E) (hE : ∀ k, k ≤ E → tn k ≤ E) {k1 D1 M1 G1 U1 b1 : Nat} {l1 : Nat → Nat → Int32} {S1 : Nat → Int64} (hk : k ≤ E) (hS : zSr D Mn Gn S) (h : zp_line tn ts tp tv k D Mn Gn Un bg l S = .inl (k1, (D1, M1, G1, U1, b1), l1, S1)) : (k < k1 ∧ k1 ≤ E) ∧ zSr D1 M1 G1 S1 ∧ b1 = 1 := by
  rcases zr_lineOf_is (ts k) (tv k) with ⟨h2, _⟩ | ⟨_, hj, _⟩
  · have hs := hT.2.2 k hk (by rw [h2]; decide)
    have hE1 := hE k hk
    unfold zp_line at h
    repeat' split at h
    all_goals first | (cases h; done) | skip
    · have := zp_levelL_m hT hE hE1 h
      exact ⟨⟨by omega, this.2⟩, zp_levelL_S hT hE hE1 hS h, zp_levelL_bg h⟩
    · have := zp_dangerL_m hT hE hE1 h
      exact ⟨⟨by omega, this.2⟩, zp_dangerL_S hT hE hE1 hS h, zp_dangerL_bg h⟩
    · have := zp_makerL_m hT hE hE1 h
      exact ⟨⟨by omega, this.2⟩, zp_makerL_S hT hE hE1 hS h, zp_makerL_bg h⟩
    · have := zp_goodL_m hT hE hE1 h
      exact ⟨⟨by omega, this.2⟩, zp_goodL_S hT hE hE1 hS h, zp_goodL_bg h⟩
    · have := zp_inL_m hT hE hE1 h
      exact ⟨⟨by omega, this.2⟩, zp_inL_S hT hE hE1 hS h, zp_inL_bg h⟩
    · have := zp_unsureL_m hT hE hE1 h
      exact ⟨⟨by omega, this.2⟩, zp_unsureL_S hT hE hE1 hS h, zp_unsureL_bg h⟩
    · have := zp_befellL_m hT hE hE1 h
      exact ⟨⟨by omega, this.2⟩, zp_befellL_S hT hE hE1 hS h, zp_befellL_bg h⟩
  · rw [zp_line_n hj] at h
    cases h
def zp_rest (tn : Nat → Nat) (ts : Nat → Int32) (tp : Nat → Nat) (tv : Nat → Int64) (n k1 D1 M1 G1 U1 b1 : Nat) (l1 : Nat → Nat → Int32) (S1 : Nat → Int64) : (Nat × (Nat × Nat × Nat × Nat × Nat) × (Nat → Nat → Int32) × (Nat → Int64)) ⊕ (Int32 × Nat) := if ts k1 = 0 then (if 0 < M1 ∧ 0 < G1 then .inl (k1, (D1, M1, G1, U1, b1), l1, S1) else .inr (6, tp k1)) else if ts k1 = 4 then zp_read tn ts tp tv n (tn k1) D1 M1 G1 U1 b1 l1 S1 else .inr (1, tp k1)
theorem zp_read_s {tn : Nat → Nat} {ts : Nat → Int32} {tp : Nat → Nat} {tv : Nat → Int64} {k D Mn Gn Un bg : Nat} {l : Nat → Nat → Int32} {S : Nat → Int64} {n : Nat} : zp_read tn ts tp tv (n + 1) k D Mn Gn Un bg l S = match zp_line tn ts tp tv k D Mn Gn Un bg l S with
    | .inr e => .inr e
    | .inl (k1, (D1, M1, G1, U1, b1), l1, S1) => zp_rest tn ts tp tv n k1 D1 M1 G1 U1 b1 l1 S1 := rfl
section Z67
variable {Ls : Nat} {xs : Nat → Int32} {v u : Nat → Nat → Int32} {w : Nat → Nat → Int64} {t : zk_H}
variable {tn : Nat → Nat} {ts : Nat → Int32} {tp : Nat → Nat} {tv : Nat → Int64} {E : Nat} {B : Nat → Int32}
theorem zn_mx (hf : u 68 13 = 1) {Q : Option Value × zk_H → Prop} (hq : zx zk_mt zk_ex Ls xs zm_308 (193, [(0, .ref 69)], []) (zH u w t) Q) : zx zk_mt zk_ex Ls xs zm_308 (98, [(0, .ref 69)], []) (zH u w t) Q := by
  refine zx.adv 2 (f' := (102, [(0, .ref 69)], [.int (u 68 13)])) (h' := zH u w t) rfl ?_
  rw [show (u 68 13) = 1 from hf]
  refine zx.br (f1 := (105, [(0, .ref 69)], [])) (f2 := (125, [(0, .ref 69)], [])) rfl (fun c1 => absurd (of_decide_eq_true c1) (by decide)) (fun c1 => ?_)
  refine zx.adv 2 (f' := (129, [(0, .ref 69)], [.int (u 68 13)])) (h' := zH u w t) rfl ?_
  rw [show (u 68 13) = 1 from hf]
  refine zx.br (f1 := (132, [(0, .ref 69)], [])) (f2 := (148, [(0, .ref 69)], [])) rfl (fun c2 => absurd (of_decide_eq_true c2) (by decide)) (fun c2 => ?_)
  refine zx.adv 2 (f' := (152, [(0, .ref 69)], [.int (u 68 13)])) (h' := zH u w t) rfl ?_
  rw [show (u 68 13) = 1 from hf]
  refine zx.br (f1 := (155, [(0, .ref 69)], [])) (f2 := (193, [(0, .ref 69)], [])) rfl (fun c3 => absurd (of_decide_eq_true c3) (by decide)) (fun c3 => ?_)
  exact hq
theorem zn_mr (hM : zk_MA Ls xs tn ts tp tv E B) (hT : zt_ok tn ts tv E) : ∀ (n k1 D1 M1 G1 U1 b1 : Nat) (l1 : Nat → Nat → Int32) (S1 : Nat → Int64) (u : Nat → Nat → Int32), zMs tn ts tp tv E B k1 u → zRN S1 (u 72) → zSr D1 M1 G1 S1 → zL D1 M1 G1 U1 b1 l1 (u 72) (u 74) → b1 = 1 → E ≤ k1 + n → ∃ u', zML tn ts tp tv E B (zp_rest tn ts tp tv n k1 D1 M1 G1 U1 b1 l1 S1) u u' ∧ ∀ Q : Option Value × zk_H → Prop, zx zk_mt zk_ex Ls xs zm_308 (193, [(0, .ref 69)], []) (zH u' w t) Q → zx zk_mt zk_ex Ls xs zm_308 (98, [(0, .ref 69)], []) (zH u w t) Q := by
  intro n
  induction n with
  | zero =>
    intro k1 D1 M1 G1 U1 b1 l1 S1 u hs hN hS hL hb1 hEn
    have hk1 := hs.1.1
    have hts := hs.1.2.2.2.2.2.2.2.2.2
    have htok := hs.1.2.2.2.2.1
    have hb6 : u 72 6 = 1 := by rw [hL.2.2.1, hb1]; rfl
    have hm2 : u 72 2 = nI M1 := hL.1.2.1.2.2.2.1
    have hm3 : u 72 3 = nI G1 := hL.1.2.1.2.2.2.2.2.1
    have hc := hL.1.1
    have h04 : ¬ ts k1 = 4 := fun z => by
      have h1 := hT.2.2 k1 hk1 (by rw [z]; decide)
      have h2 := hM.1 k1 hk1
      omega
    have htk : ¬ u 68 6 = 59 := by rw [htok]; exact fun z => h04 ((zt_tok5 hts).2.1.mp z)
    by_cases h0 : ts k1 = 0
    · have ht0 : u 68 6 = 0 := by rw [htok]; exact (zt_tok5 hts).2.2.mpr h0
      by_cases hM0 : 0 < M1
      · by_cases hG0 : 0 < G1
        · refine ⟨u, ⟨zMk.refl, by rw [show zp_rest tn ts tp tv 0 k1 D1 M1 G1 U1 b1 l1 S1 = .inl (k1, (D1, M1, G1, U1, b1), l1, S1) by unfold zp_rest; rw [if_pos h0, if_pos ⟨hM0, hG0⟩]]; exact ⟨hs, hN, hL⟩⟩, fun Q hq => ?_⟩
          refine zx.adv 2 (f' := (102, [(0, .ref 69)], [.int (u 68 13)])) (h' := zH u w t) rfl ?_
          rw [show (u 68 13) = 0 from hs.2.2]
          refine zx.br (f1 := (105, [(0, .ref 69)], [])) (f2 := (125, [(0, .ref 69)], [])) rfl (fun c1 => ?_) (fun c1 => absurd (by decide) (of_decide_eq_false c1))
          refine zx.adv 3 (f' := (111, [(0, .ref 69)], [.int 59, .int (u 68 6)])) (h' := zH u w t) rfl ?_
          refine zx.br (f1 := (114, [(0, .ref 69)], [])) (f2 := (125, [(0, .ref 69)], [])) rfl (fun c2 => absurd (of_decide_eq_true c2) htk) (fun c2 => ?_)
          refine zx.adv 2 (f' := (129, [(0, .ref 69)], [.int (u 68 13)])) (h' := zH u w t) rfl ?_
          rw [show (u 68 13) = 0 from hs.2.2]
          refine zx.br (f1 := (132, [(0, .ref 69)], [])) (f2 := (148, [(0, .ref 69)], [])) rfl (fun c3 => ?_) (fun c3 => absurd (by decide) (of_decide_eq_false c3))
          refine zx.adv 2 (f' := (136, [(0, .ref 69)], [.int (u 68 6)])) (h' := zH u w t) rfl ?_
          refine zx.br (f1 := (148, [(0, .ref 69)], [])) (f2 := (139, [(0, .ref 69)], [])) rfl (fun c4 => ?_) (fun c4 => absurd ht0 (of_decide_eq_false c4))
          refine zx.adv 2 (f' := (152, [(0, .ref 69)], [.int (u 68 13)])) (h' := zH u w t) rfl ?_
          rw [show (u 68 13) = 0 from hs.2.2]
          refine zx.br (f1 := (155, [(0, .ref 69)], [])) (f2 := (193, [(0, .ref 69)], [])) rfl (fun c5 => ?_) (fun c5 => absurd (by decide) (of_decide_eq_false c5))
          refine zx.adv 3 (f' := (161, [(0, .ref 69)], [.int 6, .ref 73])) (h' := zH u w t) rfl ?_
          refine zx.ob (f' := (162, [(0, .ref 69)], [.int (u 72 (6 : Int32).toNatClampNeg)])) (h' := zH u w t) rfl rfl ?_
          show zx zk_mt zk_ex Ls xs zm_308 (162, [(0, .ref 69)], [.int (u 72 6)]) (zH u w t) _
          rw [hb6]
          refine zx.br (f1 := (183, [(0, .ref 69)], [])) (f2 := (165, [(0, .ref 69)], [])) rfl (fun c6 => absurd (of_decide_eq_true c6) (by decide)) (fun c6 => ?_)
          refine zx.adv 3 (f' := (170, [(0, .ref 69)], [.int 2, .ref 73])) (h' := zH u w t) rfl ?_
          refine zx.ob (f' := (171, [(0, .ref 69)], [.int (u 72 (2 : Int32).toNatClampNeg)])) (h' := zH u w t) rfl rfl ?_
          show zx zk_mt zk_ex Ls xs zm_308 (171, [(0, .ref 69)], [.int (u 72 2)]) (zH u w t) _
          rw [hm2]
          refine zx.br (f1 := (183, [(0, .ref 69)], [])) (f2 := (174, [(0, .ref 69)], [])) rfl (fun c7 => absurd (of_decide_eq_true c7) (nI_ne0 hM0 (by omega))) (fun c7 => ?_)
          refine zx.adv 3 (f' := (179, [(0, .ref 69)], [.int 3, .ref 73])) (h' := zH u w t) rfl ?_
          refine zx.ob (f' := (180, [(0, .ref 69)], [.int (u 72 (3 : Int32).toNatClampNeg)])) (h' := zH u w t) rfl rfl ?_
          show zx zk_mt zk_ex Ls xs zm_308 (180, [(0, .ref 69)], [.int (u 72 3)]) (zH u w t) _
          rw [hm3]
          refine zx.br (f1 := (183, [(0, .ref 69)], [])) (f2 := (193, [(0, .ref 69)], [])) rfl (fun c8 => absurd (of_decide_eq_true c8) (nI_ne0 hG0 (by omega))) (fun c8 => ?_)
          exact hq
        · refine ⟨_, ⟨zMk.refl.step zMg.wrong, by rw [show zp_rest tn ts tp tv 0 k1 D1 M1 G1 U1 b1 l1 S1 = .inr (6, tp k1) by unfold zp_rest; rw [if_pos h0, if_neg (fun z => hG0 z.2)]]; exact zMx.wrong hs⟩, fun Q hq => ?_⟩
          refine zx.adv 2 (f' := (102, [(0, .ref 69)], [.int (u 68 13)])) (h' := zH u w t) rfl ?_
          rw [show (u 68 13) = 0 from hs.2.2]
          refine zx.br (f1 := (105, [(0, .ref 69)], [])) (f2 := (125, [(0, .ref 69)], [])) rfl (fun c1 => ?_) (fun c1 => absurd (by decide) (of_decide_eq_false c1))
          refine zx.adv 3 (f' := (111, [(0, .ref 69)], [.int 59, .int (u 68 6)])) (h' := zH u w t) rfl ?_
          refine zx.br (f1 := (114, [(0, .ref 69)], [])) (f2 := (125, [(0, .ref 69)], [])) rfl (fun c2 => absurd (of_decide_eq_true c2) htk) (fun c2 => ?_)
          refine zx.adv 2 (f' := (129, [(0, .ref 69)], [.int (u 68 13)])) (h' := zH u w t) rfl ?_
          rw [show (u 68 13) = 0 from hs.2.2]
          refine zx.br (f1 := (132, [(0, .ref 69)], [])) (f2 := (148, [(0, .ref 69)], [])) rfl (fun c3 => ?_) (fun c3 => absurd (by decide) (of_decide_eq_false c3))
          refine zx.adv 2 (f' := (136, [(0, .ref 69)], [.int (u 68 6)])) (h' := zH u w t) rfl ?_
          refine zx.br (f1 := (148, [(0, .ref 69)], [])) (f2 := (139, [(0, .ref 69)], [])) rfl (fun c4 => ?_) (fun c4 => absurd ht0 (of_decide_eq_false c4))
          refine zx.adv 2 (f' := (152, [(0, .ref 69)], [.int (u 68 13)])) (h' := zH u w t) rfl ?_
          rw [show (u 68 13) = 0 from hs.2.2]
          refine zx.br (f1 := (155, [(0, .ref 69)], [])) (f2 := (193, [(0, .ref 69)], [])) rfl (fun c5 => ?_) (fun c5 => absurd (by decide) (of_decide_eq_false c5))
          refine zx.adv 3 (f' := (161, [(0, .ref 69)], [.int 6, .ref 73])) (h' := zH u w t) rfl ?_
          refine zx.ob (f' := (162, [(0, .ref 69)], [.int (u 72 (6 : Int32).toNatClampNeg)])) (h' := zH u w t) rfl rfl ?_
          show zx zk_mt zk_ex Ls xs zm_308 (162, [(0, .ref 69)], [.int (u 72 6)]) (zH u w t) _
          rw [hb6]
          refine zx.br (f1 := (183, [(0, .ref 69)], [])) (f2 := (165, [(0, .ref 69)], [])) rfl (fun c6 => absurd (of_decide_eq_true c6) (by decide)) (fun c6 => ?_)
          refine zx.adv 3 (f' := (170, [(0, .ref 69)], [.int 2, .ref 73])) (h' := zH u w t) rfl ?_
          refine zx.ob (f' := (171, [(0, .ref 69)], [.int (u 72 (2 : Int32).toNatClampNeg)])) (h' := zH u w t) rfl rfl ?_
          show zx zk_mt zk_ex Ls xs zm_308 (171, [(0, .ref 69)], [.int (u 72 2)]) (zH u w t) _
          rw [hm2]
          refine zx.br (f1 := (183, [(0, .ref 69)], [])) (f2 := (174, [(0, .ref 69)], [])) rfl (fun c7 => absurd (of_decide_eq_true c7) (nI_ne0 hM0 (by omega))) (fun c7 => ?_)
          refine zx.adv 3 (f' := (179, [(0, .ref 69)], [.int 3, .ref 73])) (h' := zH u w t) rfl ?_
          refine zx.ob (f' := (180, [(0, .ref 69)], [.int (u 72 (3 : Int32).toNatClampNeg)])) (h' := zH u w t) rfl rfl ?_
          show zx zk_mt zk_ex Ls xs zm_308 (180, [(0, .ref 69)], [.int (u 72 3)]) (zH u w t) _
          rw [hm3]
          refine zx.br (f1 := (183, [(0, .ref 69)], [])) (f2 := (193, [(0, .ref 69)], [])) rfl (fun c8 => ?_) (fun c8 => absurd (show nI G1 = 0 by rw [show G1 = 0 by omega]; decide) (of_decide_eq_false c8))
          refine zx.adv 4 (f' := (190, [(0, .ref 69)], [.int (u 68 4), .int 6, .ref 69])) (h' := zH u w t) rfl ?_
          refine zx.cl (v := none) (h' := zH (zb u 68 (upd (upd (upd (u 68) 9 6) 10 (u 68 4)) 13 1)) w t) rfl (zs_mwrong_0 (v := u) (w := w) hs.2.2 6 (u 68 4)) ?_
          show zx zk_mt zk_ex Ls xs zm_308 (193, [(0, .ref 69)], []) (zH (zb u 68 (upd (upd (upd (u 68) 9 6) 10 (u 68 4)) 13 1)) w t) _
          exact hq
      · refine ⟨_, ⟨zMk.refl.step zMg.wrong, by rw [show zp_rest tn ts tp tv 0 k1 D1 M1 G1 U1 b1 l1 S1 = .inr (6, tp k1) by unfold zp_rest; rw [if_pos h0, if_neg (fun z => hM0 z.1)]]; exact zMx.wrong hs⟩, fun Q hq => ?_⟩
        refine zx.adv 2 (f' := (102, [(0, .ref 69)], [.int (u 68 13)])) (h' := zH u w t) rfl ?_
        rw [show (u 68 13) = 0 from hs.2.2]
        refine zx.br (f1 := (105, [(0, .ref 69)], [])) (f2 := (125, [(0, .ref 69)], [])) rfl (fun c1 => ?_) (fun c1 => absurd (by decide) (of_decide_eq_false c1))
        refine zx.adv 3 (f' := (111, [(0, .ref 69)], [.int 59, .int (u 68 6)])) (h' := zH u w t) rfl ?_
        refine zx.br (f1 := (114, [(0, .ref 69)], [])) (f2 := (125, [(0, .ref 69)], [])) rfl (fun c2 => absurd (of_decide_eq_true c2) htk) (fun c2 => ?_)
        refine zx.adv 2 (f' := (129, [(0, .ref 69)], [.int (u 68 13)])) (h' := zH u w t) rfl ?_
        rw [show (u 68 13) = 0 from hs.2.2]
        refine zx.br (f1 := (132, [(0, .ref 69)], [])) (f2 := (148, [(0, .ref 69)], [])) rfl (fun c3 => ?_) (fun c3 => absurd (by decide) (of_decide_eq_false c3))
        refine zx.adv 2 (f' := (136, [(0, .ref 69)], [.int (u 68 6)])) (h' := zH u w t) rfl ?_
        refine zx.br (f1 := (148, [(0, .ref 69)], [])) (f2 := (139, [(0, .ref 69)], [])) rfl (fun c4 => ?_) (fun c4 => absurd ht0 (of_decide_eq_false c4))
        refine zx.adv 2 (f' := (152, [(0, .ref 69)], [.int (u 68 13)])) (h' := zH u w t) rfl ?_
        rw [show (u 68 13) = 0 from hs.2.2]
        refine zx.br (f1 := (155, [(0, .ref 69)], [])) (f2 := (193, [(0, .ref 69)], [])) rfl (fun c5 => ?_) (fun c5 => absurd (by decide) (of_decide_eq_false c5))
        refine zx.adv 3 (f' := (161, [(0, .ref 69)], [.int 6, .ref 73])) (h' := zH u w t) rfl ?_
        refine zx.ob (f' := (162, [(0, .ref 69)], [.int (u 72 (6 : Int32).toNatClampNeg)])) (h' := zH u w t) rfl rfl ?_
        show zx zk_mt zk_ex Ls xs zm_308 (162, [(0, .ref 69)], [.int (u 72 6)]) (zH u w t) _
        rw [hb6]
        refine zx.br (f1 := (183, [(0, .ref 69)], [])) (f2 := (165, [(0, .ref 69)], [])) rfl (fun c6 => absurd (of_decide_eq_true c6) (by decide)) (fun c6 => ?_)
        refine zx.adv 3 (f' := (170, [(0, .ref 69)], [.int 2, .ref 73])) (h' := zH u w t) rfl ?_
        refine zx.ob (f' := (171, [(0, .ref 69)], [.int (u 72 (2 : Int32).toNatClampNeg)])) (h' := zH u w t) rfl rfl ?_
        show zx zk_mt zk_ex Ls xs zm_308 (171, [(0, .ref 69)], [.int (u 72 2)]) (zH u w t) _
        rw [hm2]
        refine zx.br (f1 := (183, [(0, .ref 69)], [])) (f2 := (174, [(0, .ref 69)], [])) rfl (fun c7 => ?_) (fun c7 => absurd (show nI M1 = 0 by rw [show M1 = 0 by omega]; decide) (of_decide_eq_false c7))
        refine zx.adv 4 (f' := (190, [(0, .ref 69)], [.int (u 68 4), .int 6, .ref 69])) (h' := zH u w t) rfl ?_
        refine zx.cl (v := none) (h' := zH (zb u 68 (upd (upd (upd (u 68) 9 6) 10 (u 68 4)) 13 1)) w t) rfl (zs_mwrong_0 (v := u) (w := w) hs.2.2 6 (u 68 4)) ?_
        show zx zk_mt zk_ex Ls xs zm_308 (193, [(0, .ref 69)], []) (zH (zb u 68 (upd (upd (upd (u 68) 9 6) 10 (u 68 4)) 13 1)) w t) _
        exact hq
    · have ht0 : ¬ u 68 6 = 0 := by rw [htok]; exact fun z => h0 ((zt_tok5 hts).2.2.mp z)
      refine ⟨_, ⟨zMk.refl.step zMg.wrong, by rw [show zp_rest tn ts tp tv 0 k1 D1 M1 G1 U1 b1 l1 S1 = .inr (1, tp k1) by unfold zp_rest; rw [if_neg h0, if_neg h04]]; exact zMx.wrong hs⟩, fun Q hq => ?_⟩
      refine zx.adv 2 (f' := (102, [(0, .ref 69)], [.int (u 68 13)])) (h' := zH u w t) rfl ?_
      rw [show (u 68 13) = 0 from hs.2.2]
      refine zx.br (f1 := (105, [(0, .ref 69)], [])) (f2 := (125, [(0, .ref 69)], [])) rfl (fun c1 => ?_) (fun c1 => absurd (by decide) (of_decide_eq_false c1))
      refine zx.adv 3 (f' := (111, [(0, .ref 69)], [.int 59, .int (u 68 6)])) (h' := zH u w t) rfl ?_
      refine zx.br (f1 := (114, [(0, .ref 69)], [])) (f2 := (125, [(0, .ref 69)], [])) rfl (fun c2 => absurd (of_decide_eq_true c2) htk) (fun c2 => ?_)
      refine zx.adv 2 (f' := (129, [(0, .ref 69)], [.int (u 68 13)])) (h' := zH u w t) rfl ?_
      rw [show (u 68 13) = 0 from hs.2.2]
      refine zx.br (f1 := (132, [(0, .ref 69)], [])) (f2 := (148, [(0, .ref 69)], [])) rfl (fun c3 => ?_) (fun c3 => absurd (by decide) (of_decide_eq_false c3))
      refine zx.adv 2 (f' := (136, [(0, .ref 69)], [.int (u 68 6)])) (h' := zH u w t) rfl ?_
      refine zx.br (f1 := (148, [(0, .ref 69)], [])) (f2 := (139, [(0, .ref 69)], [])) rfl (fun c4 => absurd (of_decide_eq_true c4) ht0) (fun c4 => ?_)
      refine zx.adv 4 (f' := (145, [(0, .ref 69)], [.int (u 68 4), .int 1, .ref 69])) (h' := zH u w t) rfl ?_
      refine zx.cl (v := none) (h' := zH (zb u 68 (upd (upd (upd (u 68) 9 1) 10 (u 68 4)) 13 1)) w t) rfl (zs_mwrong_0 (v := u) (w := w) hs.2.2 1 (u 68 4)) ?_
      show zx zk_mt zk_ex Ls xs zm_308 (148, [(0, .ref 69)], []) (zH (zb u 68 (upd (upd (upd (u 68) 9 1) 10 (u 68 4)) 13 1)) w t) _
      refine zx.adv 2 (f' := (152, [(0, .ref 69)], [.int 1])) (h' := zH (zb u 68 (upd (upd (upd (u 68) 9 1) 10 (u 68 4)) 13 1)) w t) rfl ?_
      refine zx.br (f1 := (155, [(0, .ref 69)], [])) (f2 := (193, [(0, .ref 69)], [])) rfl (fun c5 => absurd (of_decide_eq_true c5) (by decide)) (fun c5 => ?_)
      exact hq
  | succ n ih =>
    intro k1 D1 M1 G1 U1 b1 l1 S1 u hs hN hS hL hb1 hEn
    have hk1 := hs.1.1
    have hts := hs.1.2.2.2.2.2.2.2.2.2
    have htok := hs.1.2.2.2.2.1
    have hb6 : u 72 6 = 1 := by rw [hL.2.2.1, hb1]; rfl
    have hm2 : u 72 2 = nI M1 := hL.1.2.1.2.2.2.1
    have hm3 : u 72 3 = nI G1 := hL.1.2.1.2.2.2.2.2.1
    have hc := hL.1.1
    by_cases h04 : ts k1 = 4
    · have htk : u 68 6 = 59 := by rw [htok]; exact (zt_tok5 hts).2.1.mpr h04
      have h0 : ¬ ts k1 = 0 := by rw [h04]; decide
      have hk2 := hT.2.2 k1 hk1 h0
      have hk3 := hM.1 k1 hk1
      have hr : zp_rest tn ts tp tv (n + 1) k1 D1 M1 G1 U1 b1 l1 S1 = zp_read tn ts tp tv (n + 1) (tn k1) D1 M1 G1 U1 b1 l1 S1 := by
        unfold zp_rest
        rw [if_neg h0, if_pos h04]
      obtain ⟨u1, q1, g1, s1⟩ := zm_next (w := w) (t := t) hM hs
      obtain ⟨u2, q2, m2⟩ := zm_line (Ls := Ls) (xs := xs) (w := w) (t := t) (u := u1) hM hT s1 (show zRN S1 (u1 72) by rw [g1.1 72 (by decide) (by decide)]; exact hN) hS (show zL D1 M1 G1 U1 b1 l1 (u1 72) (u1 74) by rw [g1.1 72 (by decide) (by decide), g1.1 74 (by decide) (by decide)]; exact hL)
      cases hl : zp_line tn ts tp tv (tn k1) D1 M1 G1 U1 b1 l1 S1 with
      | inr e =>
        obtain ⟨f, p⟩ := e
        rw [hl] at m2
        have hx : zMx f p u2 := m2.2
        have hQ := fun (Q : Option Value × zk_H → Prop) hq => zn_mx (Ls := Ls) (xs := xs) (w := w) (t := t) hx.1 (Q := Q) hq
        refine ⟨u2, ⟨(zMk.refl.step g1).trans m2.1, by rw [hr, zp_read_s, hl]; exact hx⟩, fun Q hq => ?_⟩
        refine zx.adv 2 (f' := (102, [(0, .ref 69)], [.int (u 68 13)])) (h' := zH u w t) rfl ?_
        rw [show (u 68 13) = 0 from hs.2.2]
        refine zx.br (f1 := (105, [(0, .ref 69)], [])) (f2 := (125, [(0, .ref 69)], [])) rfl (fun c1 => ?_) (fun c1 => absurd (by decide) (of_decide_eq_false c1))
        refine zx.adv 3 (f' := (111, [(0, .ref 69)], [.int 59, .int (u 68 6)])) (h' := zH u w t) rfl ?_
        refine zx.br (f1 := (114, [(0, .ref 69)], [])) (f2 := (125, [(0, .ref 69)], [])) rfl (fun c2 => ?_) (fun c2 => absurd htk (of_decide_eq_false c2))
        refine zx.adv 1 (f' := (115, [(0, .ref 69)], [.ref 69])) (h' := zH u w t) rfl ?_
        refine zx.cl (v := none) (h' := zH u1 w t) rfl q1 ?_
        show zx zk_mt zk_ex Ls xs zm_308 (118, [(0, .ref 69)], []) (zH u1 w t) _
        refine zx.adv 1 (f' := (119, [(0, .ref 69)], [.ref 69])) (h' := zH u1 w t) rfl ?_
        refine zx.cl (v := none) (h' := zH u2 w t) rfl q2 ?_
        show zx zk_mt zk_ex Ls xs zm_308 (122, [(0, .ref 69)], []) (zH u2 w t) _
        refine zx.adv 1 (f' := (98, [(0, .ref 69)], [])) (h' := zH u2 w t) rfl ?_
        exact hQ Q hq
      | inl a =>
        obtain ⟨k2, ⟨D2, M2, G2, U2, b2⟩, l2, S2⟩ := a
        rw [hl] at m2
        obtain ⟨s2, n2, L2⟩ : zMs tn ts tp tv E B k2 u2 ∧ zRN S2 (u2 72) ∧ zL D2 M2 G2 U2 b2 l2 (u2 72) (u2 74) := m2.2
        obtain ⟨hmm, hS2, hb2⟩ := zp_line_m hT hM.1 hk3 hS hl
        obtain ⟨u3, m3, hQ⟩ := ih k2 D2 M2 G2 U2 b2 l2 S2 u2 s2 n2 hS2 L2 hb2 (by omega)
        refine ⟨u3, ⟨((zMk.refl.step g1).trans m2.1).trans m3.1, by rw [hr, zp_read_s, hl]; exact m3.2⟩, fun Q hq => ?_⟩
        refine zx.adv 2 (f' := (102, [(0, .ref 69)], [.int (u 68 13)])) (h' := zH u w t) rfl ?_
        rw [show (u 68 13) = 0 from hs.2.2]
        refine zx.br (f1 := (105, [(0, .ref 69)], [])) (f2 := (125, [(0, .ref 69)], [])) rfl (fun c1 => ?_) (fun c1 => absurd (by decide) (of_decide_eq_false c1))
        refine zx.adv 3 (f' := (111, [(0, .ref 69)], [.int 59, .int (u 68 6)])) (h' := zH u w t) rfl ?_
        refine zx.br (f1 := (114, [(0, .ref 69)], [])) (f2 := (125, [(0, .ref 69)], [])) rfl (fun c2 => ?_) (fun c2 => absurd htk (of_decide_eq_false c2))
        refine zx.adv 1 (f' := (115, [(0, .ref 69)], [.ref 69])) (h' := zH u w t) rfl ?_
        refine zx.cl (v := none) (h' := zH u1 w t) rfl q1 ?_
        show zx zk_mt zk_ex Ls xs zm_308 (118, [(0, .ref 69)], []) (zH u1 w t) _
        refine zx.adv 1 (f' := (119, [(0, .ref 69)], [.ref 69])) (h' := zH u1 w t) rfl ?_
        refine zx.cl (v := none) (h' := zH u2 w t) rfl q2 ?_
        show zx zk_mt zk_ex Ls xs zm_308 (122, [(0, .ref 69)], []) (zH u2 w t) _
        refine zx.adv 1 (f' := (98, [(0, .ref 69)], [])) (h' := zH u2 w t) rfl ?_
        exact hQ Q hq
    ·
      have htk : ¬ u 68 6 = 59 := by rw [htok]; exact fun z => h04 ((zt_tok5 hts).2.1.mp z)
      by_cases h0 : ts k1 = 0
      · have ht0 : u 68 6 = 0 := by rw [htok]; exact (zt_tok5 hts).2.2.mpr h0
        by_cases hM0 : 0 < M1
        · by_cases hG0 : 0 < G1
          · refine ⟨u, ⟨zMk.refl, by rw [show zp_rest tn ts tp tv (n + 1) k1 D1 M1 G1 U1 b1 l1 S1 = .inl (k1, (D1, M1, G1, U1, b1), l1, S1) by unfold zp_rest; rw [if_pos h0, if_pos ⟨hM0, hG0⟩]]; exact ⟨hs, hN, hL⟩⟩, fun Q hq => ?_⟩
            refine zx.adv 2 (f' := (102, [(0, .ref 69)], [.int (u 68 13)])) (h' := zH u w t) rfl ?_
            rw [show (u 68 13) = 0 from hs.2.2]
            refine zx.br (f1 := (105, [(0, .ref 69)], [])) (f2 := (125, [(0, .ref 69)], [])) rfl (fun c1 => ?_) (fun c1 => absurd (by decide) (of_decide_eq_false c1))
            refine zx.adv 3 (f' := (111, [(0, .ref 69)], [.int 59, .int (u 68 6)])) (h' := zH u w t) rfl ?_
            refine zx.br (f1 := (114, [(0, .ref 69)], [])) (f2 := (125, [(0, .ref 69)], [])) rfl (fun c2 => absurd (of_decide_eq_true c2) htk) (fun c2 => ?_)
            refine zx.adv 2 (f' := (129, [(0, .ref 69)], [.int (u 68 13)])) (h' := zH u w t) rfl ?_
            rw [show (u 68 13) = 0 from hs.2.2]
            refine zx.br (f1 := (132, [(0, .ref 69)], [])) (f2 := (148, [(0, .ref 69)], [])) rfl (fun c3 => ?_) (fun c3 => absurd (by decide) (of_decide_eq_false c3))
            refine zx.adv 2 (f' := (136, [(0, .ref 69)], [.int (u 68 6)])) (h' := zH u w t) rfl ?_
            refine zx.br (f1 := (148, [(0, .ref 69)], [])) (f2 := (139, [(0, .ref 69)], [])) rfl (fun c4 => ?_) (fun c4 => absurd ht0 (of_decide_eq_false c4))
            refine zx.adv 2 (f' := (152, [(0, .ref 69)], [.int (u 68 13)])) (h' := zH u w t) rfl ?_
            rw [show (u 68 13) = 0 from hs.2.2]
            refine zx.br (f1 := (155, [(0, .ref 69)], [])) (f2 := (193, [(0, .ref 69)], [])) rfl (fun c5 => ?_) (fun c5 => absurd (by decide) (of_decide_eq_false c5))
            refine zx.adv 3 (f' := (161, [(0, .ref 69)], [.int 6, .ref 73])) (h' := zH u w t) rfl ?_
            refine zx.ob (f' := (162, [(0, .ref 69)], [.int (u 72 (6 : Int32).toNatClampNeg)])) (h' := zH u w t) rfl rfl ?_
            show zx zk_mt zk_ex Ls xs zm_308 (162, [(0, .ref 69)], [.int (u 72 6)]) (zH u w t) _
            rw [hb6]
            refine zx.br (f1 := (183, [(0, .ref 69)], [])) (f2 := (165, [(0, .ref 69)], [])) rfl (fun c6 => absurd (of_decide_eq_true c6) (by decide)) (fun c6 => ?_)
            refine zx.adv 3 (f' := (170, [(0, .ref 69)], [.int 2, .ref 73])) (h' := zH u w t) rfl ?_
            refine zx.ob (f' := (171, [(0, .ref 69)], [.int (u 72 (2 : Int32).toNatClampNeg)])) (h' := zH u w t) rfl rfl ?_
            show zx zk_mt zk_ex Ls xs zm_308 (171, [(0, .ref 69)], [.int (u 72 2)]) (zH u w t) _
            rw [hm2]
            refine zx.br (f1 := (183, [(0, .ref 69)], [])) (f2 := (174, [(0, .ref 69)], [])) rfl (fun c7 => absurd (of_decide_eq_true c7) (nI_ne0 hM0 (by omega))) (fun c7 => ?_)
            refine zx.adv 3 (f' := (179, [(0, .ref 69)], [.int 3, .ref 73])) (h' := zH u w t) rfl ?_
            refine zx.ob (f' := (180, [(0, .ref 69)], [.int (u 72 (3 : Int32).toNatClampNeg)])) (h' := zH u w t) rfl rfl ?_
            show zx zk_mt zk_ex Ls xs zm_308 (180, [(0, .ref 69)], [.int (u 72 3)]) (zH u w t) _
            rw [hm3]
            refine zx.br (f1 := (183, [(0, .ref 69)], [])) (f2 := (193, [(0, .ref 69)], [])) rfl (fun c8 => absurd (of_decide_eq_true c8) (nI_ne0 hG0 (by omega))) (fun c8 => ?_)
            exact hq
          · refine ⟨_, ⟨zMk.refl.step zMg.wrong, by rw [show zp_rest tn ts tp tv (n + 1) k1 D1 M1 G1 U1 b1 l1 S1 = .inr (6, tp k1) by unfold zp_rest; rw [if_pos h0, if_neg (fun z => hG0 z.2)]]; exact zMx.wrong hs⟩, fun Q hq => ?_⟩
            refine zx.adv 2 (f' := (102, [(0, .ref 69)], [.int (u 68 13)])) (h' := zH u w t) rfl ?_
            rw [show (u 68 13) = 0 from hs.2.2]
            refine zx.br (f1 := (105, [(0, .ref 69)], [])) (f2 := (125, [(0, .ref 69)], [])) rfl (fun c1 => ?_) (fun c1 => absurd (by decide) (of_decide_eq_false c1))
            refine zx.adv 3 (f' := (111, [(0, .ref 69)], [.int 59, .int (u 68 6)])) (h' := zH u w t) rfl ?_
            refine zx.br (f1 := (114, [(0, .ref 69)], [])) (f2 := (125, [(0, .ref 69)], [])) rfl (fun c2 => absurd (of_decide_eq_true c2) htk) (fun c2 => ?_)
            refine zx.adv 2 (f' := (129, [(0, .ref 69)], [.int (u 68 13)])) (h' := zH u w t) rfl ?_
            rw [show (u 68 13) = 0 from hs.2.2]
            refine zx.br (f1 := (132, [(0, .ref 69)], [])) (f2 := (148, [(0, .ref 69)], [])) rfl (fun c3 => ?_) (fun c3 => absurd (by decide) (of_decide_eq_false c3))
            refine zx.adv 2 (f' := (136, [(0, .ref 69)], [.int (u 68 6)])) (h' := zH u w t) rfl ?_
            refine zx.br (f1 := (148, [(0, .ref 69)], [])) (f2 := (139, [(0, .ref 69)], [])) rfl (fun c4 => ?_) (fun c4 => absurd ht0 (of_decide_eq_false c4))
            refine zx.adv 2 (f' := (152, [(0, .ref 69)], [.int (u 68 13)])) (h' := zH u w t) rfl ?_
            rw [show (u 68 13) = 0 from hs.2.2]
            refine zx.br (f1 := (155, [(0, .ref 69)], [])) (f2 := (193, [(0, .ref 69)], [])) rfl (fun c5 => ?_) (fun c5 => absurd (by decide) (of_decide_eq_false c5))
            refine zx.adv 3 (f' := (161, [(0, .ref 69)], [.int 6, .ref 73])) (h' := zH u w t) rfl ?_
            refine zx.ob (f' := (162, [(0, .ref 69)], [.int (u 72 (6 : Int32).toNatClampNeg)])) (h' := zH u w t) rfl rfl ?_
            show zx zk_mt zk_ex Ls xs zm_308 (162, [(0, .ref 69)], [.int (u 72 6)]) (zH u w t) _
            rw [hb6]
            refine zx.br (f1 := (183, [(0, .ref 69)], [])) (f2 := (165, [(0, .ref 69)], [])) rfl (fun c6 => absurd (of_decide_eq_true c6) (by decide)) (fun c6 => ?_)
            refine zx.adv 3 (f' := (170, [(0, .ref 69)], [.int 2, .ref 73])) (h' := zH u w t) rfl ?_
            refine zx.ob (f' := (171, [(0, .ref 69)], [.int (u 72 (2 : Int32).toNatClampNeg)])) (h' := zH u w t) rfl rfl ?_
            show zx zk_mt zk_ex Ls xs zm_308 (171, [(0, .ref 69)], [.int (u 72 2)]) (zH u w t) _
            rw [hm2]
            refine zx.br (f1 := (183, [(0, .ref 69)], [])) (f2 := (174, [(0, .ref 69)], [])) rfl (fun c7 => absurd (of_decide_eq_true c7) (nI_ne0 hM0 (by omega))) (fun c7 => ?_)
            refine zx.adv 3 (f' := (179, [(0, .ref 69)], [.int 3, .ref 73])) (h' := zH u w t) rfl ?_
            refine zx.ob (f' := (180, [(0, .ref 69)], [.int (u 72 (3 : Int32).toNatClampNeg)])) (h' := zH u w t) rfl rfl ?_
            show zx zk_mt zk_ex Ls xs zm_308 (180, [(0, .ref 69)], [.int (u 72 3)]) (zH u w t) _
            rw [hm3]
            refine zx.br (f1 := (183, [(0, .ref 69)], [])) (f2 := (193, [(0, .ref 69)], [])) rfl (fun c8 => ?_) (fun c8 => absurd (show nI G1 = 0 by rw [show G1 = 0 by omega]; decide) (of_decide_eq_false c8))
            refine zx.adv 4 (f' := (190, [(0, .ref 69)], [.int (u 68 4), .int 6, .ref 69])) (h' := zH u w t) rfl ?_
            refine zx.cl (v := none) (h' := zH (zb u 68 (upd (upd (upd (u 68) 9 6) 10 (u 68 4)) 13 1)) w t) rfl (zs_mwrong_0 (v := u) (w := w) hs.2.2 6 (u 68 4)) ?_
            show zx zk_mt zk_ex Ls xs zm_308 (193, [(0, .ref 69)], []) (zH (zb u 68 (upd (upd (upd (u 68) 9 6) 10 (u 68 4)) 13 1)) w t) _
            exact hq
        · refine ⟨_, ⟨zMk.refl.step zMg.wrong, by rw [show zp_rest tn ts tp tv (n + 1) k1 D1 M1 G1 U1 b1 l1 S1 = .inr (6, tp k1) by unfold zp_rest; rw [if_pos h0, if_neg (fun z => hM0 z.1)]]; exact zMx.wrong hs⟩, fun Q hq => ?_⟩
          refine zx.adv 2 (f' := (102, [(0, .ref 69)], [.int (u 68 13)])) (h' := zH u w t) rfl ?_
          rw [show (u 68 13) = 0 from hs.2.2]
          refine zx.br (f1 := (105, [(0, .ref 69)], [])) (f2 := (125, [(0, .ref 69)], [])) rfl (fun c1 => ?_) (fun c1 => absurd (by decide) (of_decide_eq_false c1))
          refine zx.adv 3 (f' := (111, [(0, .ref 69)], [.int 59, .int (u 68 6)])) (h' := zH u w t) rfl ?_
          refine zx.br (f1 := (114, [(0, .ref 69)], [])) (f2 := (125, [(0, .ref 69)], [])) rfl (fun c2 => absurd (of_decide_eq_true c2) htk) (fun c2 => ?_)
          refine zx.adv 2 (f' := (129, [(0, .ref 69)], [.int (u 68 13)])) (h' := zH u w t) rfl ?_
          rw [show (u 68 13) = 0 from hs.2.2]
          refine zx.br (f1 := (132, [(0, .ref 69)], [])) (f2 := (148, [(0, .ref 69)], [])) rfl (fun c3 => ?_) (fun c3 => absurd (by decide) (of_decide_eq_false c3))
          refine zx.adv 2 (f' := (136, [(0, .ref 69)], [.int (u 68 6)])) (h' := zH u w t) rfl ?_
          refine zx.br (f1 := (148, [(0, .ref 69)], [])) (f2 := (139, [(0, .ref 69)], [])) rfl (fun c4 => ?_) (fun c4 => absurd ht0 (of_decide_eq_false c4))
          refine zx.adv 2 (f' := (152, [(0, .ref 69)], [.int (u 68 13)])) (h' := zH u w t) rfl ?_
          rw [show (u 68 13) = 0 from hs.2.2]
          refine zx.br (f1 := (155, [(0, .ref 69)], [])) (f2 := (193, [(0, .ref 69)], [])) rfl (fun c5 => ?_) (fun c5 => absurd (by decide) (of_decide_eq_false c5))
          refine zx.adv 3 (f' := (161, [(0, .ref 69)], [.int 6, .ref 73])) (h' := zH u w t) rfl ?_
          refine zx.ob (f' := (162, [(0, .ref 69)], [.int (u 72 (6 : Int32).toNatClampNeg)])) (h' := zH u w t) rfl rfl ?_
          show zx zk_mt zk_ex Ls xs zm_308 (162, [(0, .ref 69)], [.int (u 72 6)]) (zH u w t) _
          rw [hb6]
          refine zx.br (f1 := (183, [(0, .ref 69)], [])) (f2 := (165, [(0, .ref 69)], [])) rfl (fun c6 => absurd (of_decide_eq_true c6) (by decide)) (fun c6 => ?_)
          refine zx.adv 3 (f' := (170, [(0, .ref 69)], [.int 2, .ref 73])) (h' := zH u w t) rfl ?_
          refine zx.ob (f' := (171, [(0, .ref 69)], [.int (u 72 (2 : Int32).toNatClampNeg)])) (h' := zH u w t) rfl rfl ?_
          show zx zk_mt zk_ex Ls xs zm_308 (171, [(0, .ref 69)], [.int (u 72 2)]) (zH u w t) _
          rw [hm2]
          refine zx.br (f1 := (183, [(0, .ref 69)], [])) (f2 := (174, [(0, .ref 69)], [])) rfl (fun c7 => ?_) (fun c7 => absurd (show nI M1 = 0 by rw [show M1 = 0 by omega]; decide) (of_decide_eq_false c7))
          refine zx.adv 4 (f' := (190, [(0, .ref 69)], [.int (u 68 4), .int 6, .ref 69])) (h' := zH u w t) rfl ?_
          refine zx.cl (v := none) (h' := zH (zb u 68 (upd (upd (upd (u 68) 9 6) 10 (u 68 4)) 13 1)) w t) rfl (zs_mwrong_0 (v := u) (w := w) hs.2.2 6 (u 68 4)) ?_
          show zx zk_mt zk_ex Ls xs zm_308 (193, [(0, .ref 69)], []) (zH (zb u 68 (upd (upd (upd (u 68) 9 6) 10 (u 68 4)) 13 1)) w t) _
          exact hq
      · have ht0 : ¬ u 68 6 = 0 := by rw [htok]; exact fun z => h0 ((zt_tok5 hts).2.2.mp z)
        refine ⟨_, ⟨zMk.refl.step zMg.wrong, by rw [show zp_rest tn ts tp tv (n + 1) k1 D1 M1 G1 U1 b1 l1 S1 = .inr (1, tp k1) by unfold zp_rest; rw [if_neg h0, if_neg h04]]; exact zMx.wrong hs⟩, fun Q hq => ?_⟩
        refine zx.adv 2 (f' := (102, [(0, .ref 69)], [.int (u 68 13)])) (h' := zH u w t) rfl ?_
        rw [show (u 68 13) = 0 from hs.2.2]
        refine zx.br (f1 := (105, [(0, .ref 69)], [])) (f2 := (125, [(0, .ref 69)], [])) rfl (fun c1 => ?_) (fun c1 => absurd (by decide) (of_decide_eq_false c1))
        refine zx.adv 3 (f' := (111, [(0, .ref 69)], [.int 59, .int (u 68 6)])) (h' := zH u w t) rfl ?_
        refine zx.br (f1 := (114, [(0, .ref 69)], [])) (f2 := (125, [(0, .ref 69)], [])) rfl (fun c2 => absurd (of_decide_eq_true c2) htk) (fun c2 => ?_)
        refine zx.adv 2 (f' := (129, [(0, .ref 69)], [.int (u 68 13)])) (h' := zH u w t) rfl ?_
        rw [show (u 68 13) = 0 from hs.2.2]
        refine zx.br (f1 := (132, [(0, .ref 69)], [])) (f2 := (148, [(0, .ref 69)], [])) rfl (fun c3 => ?_) (fun c3 => absurd (by decide) (of_decide_eq_false c3))
        refine zx.adv 2 (f' := (136, [(0, .ref 69)], [.int (u 68 6)])) (h' := zH u w t) rfl ?_
        refine zx.br (f1 := (148, [(0, .ref 69)], [])) (f2 := (139, [(0, .ref 69)], [])) rfl (fun c4 => absurd (of_decide_eq_true c4) ht0) (fun c4 => ?_)
        refine zx.adv 4 (f' := (145, [(0, .ref 69)], [.int (u 68 4), .int 1, .ref 69])) (h' := zH u w t) rfl ?_
        refine zx.cl (v := none) (h' := zH (zb u 68 (upd (upd (upd (u 68) 9 1) 10 (u 68 4)) 13 1)) w t) rfl (zs_mwrong_0 (v := u) (w := w) hs.2.2 1 (u 68 4)) ?_
        show zx zk_mt zk_ex Ls xs zm_308 (148, [(0, .ref 69)], []) (zH (zb u 68 (upd (upd (upd (u 68) 9 1) 10 (u 68 4)) 13 1)) w t) _
        refine zx.adv 2 (f' := (152, [(0, .ref 69)], [.int 1])) (h' := zH (zb u 68 (upd (upd (upd (u 68) 9 1) 10 (u 68 4)) 13 1)) w t) rfl ?_
        refine zx.br (f1 := (155, [(0, .ref 69)], [])) (f2 := (193, [(0, .ref 69)], [])) rfl (fun c5 => absurd (of_decide_eq_true c5) (by decide)) (fun c5 => ?_)
        exact hq
end Z67
