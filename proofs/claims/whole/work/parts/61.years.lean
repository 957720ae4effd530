/-! the reference's years: every good goes its own way -/
def zs (n : Nat) (f : Nat → Int32) : Int32 := zf (fun a s => s + f a) n 0 0
theorem zs_from (f : Nat → Int32) : ∀ (n i : Nat) (x : Int32), zf (fun a s => s + f a) n i x = x + zf (fun a s => s + f a) n i 0
  | 0, i, x => (Int32.add_zero x).symm
  | n + 1, i, x => by
    rw [zf_succ, zf_succ, zs_from f n (i + 1) (x + f i), zs_from f n (i + 1) (0 + f i), Int32.zero_add, Int32.add_assoc]
theorem zs_succ (f : Nat → Int32) (n : Nat) : zs (n + 1) f = zs n f + f n := by
  unfold zs
  rw [zf_last, Nat.zero_add]
theorem zs_congr {f g : Nat → Int32} {n : Nat} (h : ∀ a, a < n → f a = g a) : zs n f = zs n g :=
  zf_congr n 0 0 (fun j s _ hj => by rw [h j (by omega)])
theorem zs_upd {f g : Nat → Int32} {δ : Int32} {a : Nat} : ∀ n, a < n → (∀ b, b ≠ a → g b = f b) → g a = f a + δ → zs n g = zs n f + δ
  | 0, h, _, _ => absurd h (Nat.not_lt_zero _)
  | n + 1, h, hb, ha => by
    rw [zs_succ, zs_succ]
    by_cases e : a = n
    · subst e
      rw [ha, zs_congr (fun b hb2 => hb b (by omega)), Int32.add_assoc]
    · rw [zs_upd n (by omega) hb ha, hb n (by omega), Int32.add_assoc, Int32.add_assoc, Int32.add_comm δ]
/-- what stands in a row of the reference -/
def zg_W (Mn Gn : Nat) (r row : Nat → Int32) : Prop :=
  Mn ≤ 5 ∧ Gn ≤ 4 ∧ (∀ e, e < Mn → r (23 + 2 * e) = 0 ∨ r (23 + 2 * e) = 1 ∨ r (23 + 2 * e) = 2) ∧ (∀ e, e < Mn → ∃ T, T < 256 ∧ row (5 + e) = nI T) ∧
  (∀ e, e < Mn → ∃ L, L ≤ 30 ∧ row e = nI L) ∧ (∀ a, a < Gn → row (10 + a) = 0 ∨ ∃ e, e < Mn ∧ row (10 + a) = nI (e + 1)) ∧
  (∀ a b, a < Gn → b < Gn → a ≠ b → bt (row 14) a = false → bt (row 14) b = false → row (10 + a) = row (10 + b) → row (10 + a) = 0)
def zg_e (row : Nat → Int32) (a : Nat) : Nat := (row (10 + a)).toNatClampNeg - 1
/-- what a good's basket would keep out in a year, were it not worn -/
def zg_P (r slp row : Nat → Int32) (a : Nat) (y : Int32) : Int32 := if row (10 + a) = 0 then 0 else (zr_heldOff (r (23 + 2 * zg_e row a)) (row (5 + zg_e row a)) y) &&& (slp (zg_e row a) ^^^ (-1))
theorem zg_e_of {row : Nat → Int32} {a e : Nat} (h : row (10 + a) = nI (e + 1)) (he : e < 5) : zg_e row a = e := by
  unfold zg_e
  rw [h, nI_clamp (by omega), Nat.add_sub_cancel]
theorem zg_hi : ∀ T, T < 256 → ¬ nI T = 0 → nI T &&& (((1 : Int32) <<< (zr_mhighest (nI T) &&& 31)) ^^^ (-1)) = zr_wh (nI T) := by decide +kernel
theorem zg_wh0 : zr_wh 0 = 0 := by decide +kernel
theorem zg_par (Y : Nat) (h : Y < 2 ^ 31) : nI Y - nI Y / 2 * 2 = nI (Y % 2) := pk_rem h (by decide) (show 2 < 2 ^ 31 by decide)
theorem zg_out {r row slp : Nat → Int32} {e T Y : Nat} (hk : r (23 + 2 * e) = 0 ∨ r (23 + 2 * e) = 1 ∨ r (23 + 2 * e) = 2) (hT : T < 256) (hth : row (5 + e) = nI T) (hY : Y < 2 ^ 31) :
    zr_moutOf r row slp e (nI Y) = if row e = 0 then 0 else (zr_heldOff (r (23 + 2 * e)) (row (5 + e)) (nI Y)) &&& (slp e ^^^ (-1)) := by
  unfold zr_moutOf
  by_cases h0 : row e = 0
  · rw [if_pos h0, if_pos h0]
  · rw [if_neg h0, if_neg h0]
    unfold zr_heldOff
    rw [zg_par Y hY]
    rcases hk with hk | hk | hk
    · rw [hk, if_neg (by decide), if_neg (by decide), if_neg (by decide), if_neg (by decide)]
    · rw [hk, if_neg (by decide), if_pos rfl, if_pos rfl]
      by_cases h1 : row (5 + e) = 0
      · rw [if_pos h1, h1, zg_wh0]
      · rw [if_neg h1, hth, zg_hi T hT (fun z => h1 (hth.trans z))]
    · rcases (show Y % 2 = 0 ∨ Y % 2 = 1 by omega) with h2 | h2
      · rw [hk, h2, if_pos rfl, if_neg (show ¬ nI 0 = 1 by decide), if_neg (show ¬ (2 : Int32) = 1 by decide), if_neg (show ¬ (2 : Int32) = 1 by decide), if_pos rfl, if_pos (show nI 0 = 0 by decide)]
      · rw [hk, h2, if_pos rfl, if_pos (show nI 1 = 1 by decide), if_neg (show ¬ (2 : Int32) = 1 by decide), if_pos rfl, if_neg (show ¬ nI 1 = 0 by decide)]
        apply b_ext
        intro i hi
        rw [b_and, b_0, Bool.false_and]
abbrev zg_S : Type := (Nat → Int32) × Int32 × (Nat → Int32) × (Nat → Int32) × (Nat → Int32)
/-- the reference's row beside the goods' ways; X: the counts too -/
def zg_R (X : Prop) (Mn Gn : Nat) (r row0 : Nat → Int32) (c : Nat → zg_C) (s : zg_S) : Prop :=
  (∀ i, 5 ≤ i → i < 14 → s.1 i = row0 i) ∧
  (∀ i, i < 32 → bt (s.1 14) i = if i < Gn then !(c i).1 else bt (row0 14) i) ∧
  (∀ a, a < Gn → (c a).1 = true → bt (row0 14) a = false) ∧
  (∀ a e, a < Gn → bt (row0 14) a = false → e < 5 → row0 (10 + a) = nI (e + 1) → s.1 e = (c a).2.2.2.2.1 ∧ (X → s.2.2.2.2 e = (c a).2.2.2.2.2)) ∧
  (∀ e, e < 5 → (∀ a, a < Gn → bt (row0 14) a = false → ¬ row0 (10 + a) = nI (e + 1)) → s.1 e = row0 e ∧ (X → s.2.2.2.2 e = 0)) ∧
  (∀ a, a < Gn → ∃ L, L ≤ 30 ∧ (c a).2.2.2.2.1 = nI L) ∧
  (X → (∀ a, a < Gn → s.2.2.2.1 a = (c a).2.2.1 ∧ ((c a).1 = true → (c a).2.2.1 = -2)) ∧ s.2.1 = zs Mn s.2.2.2.2 ∧ (∀ d, d < 8 → s.2.2.1 d = zs Gn (fun a => if s.2.2.2.1 a = nI d then r (33 + 2 * a) else 0)))
def zg_u (c : Nat → zg_C) (a : Nat) (x : zg_C) : Nat → zg_C := fun b => if b = a then x else c b
theorem zg_us (c : Nat → zg_C) (a : Nat) (x : zg_C) : zg_u c a x a = x := if_pos rfl
theorem zg_un (c : Nat → zg_C) {a b : Nat} (x : zg_C) (h : b ≠ a) : zg_u c a x b = c b := if_neg h
theorem zg_uc (c : Nat → zg_C) (a : Nat) : zg_u c a (c a) = c := by
  funext b
  unfold zg_u
  split
  · rename_i h; rw [h]
  · rfl
section ZGS
variable {X : Prop} {Mn Gn : Nat} {r row0 : Nat → Int32} {c : Nat → zg_C} {row : Nat → Int32} {ou : Int32} {lt lw oo : Nat → Int32}
/-- a good is lost -/
theorem zg_kill (h : zg_R X Mn Gn r row0 c (row, ou, lt, lw, oo)) (hG : Gn ≤ 4) {a d : Nat} (ha : a < Gn) (hd : d < 8) {la l2 wo ls kp i : Int32} (hc : c a = (true, la, l2, wo, ls, kp)) :
    zg_R X Mn Gn r row0 (zg_u c a (false, i, nI d, wo, ls, kp)) (upd row 14 ((row 14) ||| ((1 : Int32) <<< ((nI a) &&& 31))), ou, upd lt d ((lt d) + (r (33 + (2 * a)))), upd lw a (nI d), oo) := by
  obtain ⟨h1, h2, h3, h4, h5, h6, h7⟩ := h
  refine ⟨?_, ?_, ?_, ?_, ?_, ?_, ?_⟩
  · intro i a1 a2
    show upd row 14 _ i = _
    rw [pk_un (by omega)]
    exact h1 i a1 a2
  · intro i hi
    show bt ((upd row 14 ((row 14) ||| ((1 : Int32) <<< ((nI a) &&& 31)))) 14) i = _
    rw [show (upd row 14 ((row 14) ||| ((1 : Int32) <<< ((nI a) &&& 31)))) 14 = (row 14) ||| ((1 : Int32) <<< ((nI a) &&& 31)) from pk_us, zt_or1 _ (by omega) hi]
    have e2 : bt (row 14) i = _ := h2 i hi
    rw [e2]
    by_cases e : i = a
    · subst e
      rw [if_pos ha, if_pos ha, zg_us, decide_eq_true rfl, Bool.or_true]
      rfl
    · rw [decide_eq_false e, Bool.or_false, zg_un c _ e]
  · intro b hb hz
    by_cases e : b = a
    · subst e
      rw [zg_us] at hz
      cases hz
    · rw [zg_un c _ e] at hz
      exact h3 b hb hz
  · intro b e hb hb2 he hz
    show upd row 14 _ e = _ ∧ (X → oo e = _)
    rw [pk_un (by omega)]
    by_cases e1 : b = a
    · subst e1
      have h8 := h4 b e hb hb2 he hz
      rw [hc] at h8
      rw [zg_us]
      exact h8
    · rw [zg_un c _ e1]
      exact h4 b e hb hb2 he hz
  · intro e he hz
    show upd row 14 _ e = _ ∧ (X → oo e = _)
    rw [pk_un (by omega)]
    exact h5 e he hz
  · intro b hb
    by_cases e1 : b = a
    · subst e1
      have h8 := h6 b hb
      rw [hc] at h8
      rw [zg_us]
      exact h8
    · rw [zg_un c _ e1]
      exact h6 b hb
  · intro hx
    obtain ⟨h8, h9, h10⟩ := h7 hx
    have hla : lw a = -2 := by
      have h11 := h8 a ha
      rw [hc] at h11
      exact h11.1.trans (h11.2 rfl)
    refine ⟨?_, h9, ?_⟩
    · intro b hb
      show upd lw a _ b = _ ∧ _
      by_cases e1 : b = a
      · subst e1
        rw [pk_us, zg_us]
        exact ⟨rfl, fun z => by cases z⟩
      · rw [pk_un e1, zg_un c _ e1]
        exact h8 b hb
    · intro d2 hd2
      show upd lt d _ d2 = zs Gn (fun b => if upd lw a (nI d) b = nI d2 then r (33 + 2 * b) else 0)
      have hne : ¬ lw a = nI d2 := by
        rw [hla]
        exact (by decide +kernel : ∀ k, k < 8 → ¬ (-2 : Int32) = nI k) d2 hd2
      by_cases e1 : d2 = d
      · subst e1
        rw [pk_us]
        have e2 : lt d2 = _ := h10 d2 hd2
        rw [e2]
        refine (zs_upd (a := a) Gn ha (fun b hb => ?_) ?_).symm
        · rw [pk_un hb]
        · rw [pk_us, if_pos rfl, if_neg hne, Int32.zero_add]
      · rw [pk_un e1]
        have e2 : lt d2 = _ := h10 d2 hd2
        rw [e2]
        refine zs_congr (fun b hb => ?_)
        by_cases e3 : b = a
        · subst e3
          rw [pk_us, if_neg hne, if_neg (fun z => e1 ((nI_eq (by omega) (by omega)).mp z).symm)]
        · rw [pk_un e3]
/-- a basket keeps a danger out -/
theorem zg_keep (h : zg_R X Mn Gn r row0 c (row, ou, lt, lw, oo)) (hw : zg_W Mn Gn r row0) {a e : Nat} (ha : a < Gn) (he : e < Mn) (hl : bt (row0 14) a = false) (hI : row0 (10 + a) = nI (e + 1)) {la l2 wo wo2 ls kp : Int32} (hc : c a = (true, la, l2, wo, ls, kp)) (hls : ¬ ls ≤ 0) :
    zg_R X Mn Gn r row0 (zg_u c a (true, la, l2, wo2, ls - 1, kp + 1)) (upd row e ((row e) - 1), ou + 1, lt, lw, upd oo e ((oo e) + 1)) := by
  obtain ⟨h1, h2, h3, h4, h5, h6, h7⟩ := h
  obtain ⟨hM, hG, w1, w2, w3, w4, w5⟩ := hw
  have hown := h4 a e ha hl (by omega) hI
  rw [hc] at hown
  have hdis : ∀ b f, b < Gn → b ≠ a → bt (row0 14) b = false → f < 5 → row0 (10 + b) = nI (f + 1) → f ≠ e := by
    intro b f hb hba hbl hf hbf hfe
    subst hfe
    have h8 := w5 b a hb ha hba hbl hl (hbf.trans hI.symm)
    rw [hbf] at h8
    exact nI_ne0 (by omega) (by omega) h8
  refine ⟨?_, ?_, ?_, ?_, ?_, ?_, ?_⟩
  · intro i a1 a2
    show upd row e _ i = _
    rw [pk_un (by omega)]
    exact h1 i a1 a2
  · intro i hi
    show bt (upd row e _ 14) i = _
    rw [pk_un (by omega)]
    have e2 : bt (row 14) i = _ := h2 i hi
    rw [e2]
    by_cases e : i = a
    · subst e
      rw [zg_us, hc]
    · rw [zg_un c _ e]
  · intro b hb hz
    by_cases e : b = a
    · subst e; exact hl
    · rw [zg_un c _ e] at hz
      exact h3 b hb hz
  · intro b f hb hb2 hf hz
    show upd row e _ f = _ ∧ (X → upd oo e _ f = _)
    by_cases e1 : b = a
    · subst e1
      have hfe : f = e := by
        have h8 := (nI_eq (show f + 1 < 2 ^ 31 by omega) (show e + 1 < 2 ^ 31 by omega)).mp (hz.symm.trans hI)
        omega
      subst hfe
      rw [pk_us, pk_us, zg_us]
      refine ⟨?_, fun hx => ?_⟩
      · show row f - 1 = ls - 1
        rw [show row f = ls from hown.1]
      · show oo f + 1 = kp + 1
        rw [show oo f = kp from hown.2 hx]
    · have hfe := hdis b f hb e1 hb2 hf hz
      rw [pk_un hfe, pk_un hfe, zg_un c _ e1]
      exact h4 b f hb hb2 hf hz
  · intro f hf hz
    show upd row e _ f = _ ∧ (X → upd oo e _ f = _)
    have hfe : f ≠ e := fun z => hz a ha hl (by rw [z]; exact hI)
    rw [pk_un hfe, pk_un hfe]
    exact h5 f hf hz
  · intro b hb
    by_cases e1 : b = a
    · subst e1
      obtain ⟨L, hL, e2⟩ := h6 b hb
      rw [hc] at e2
      have e2 : ls = nI L := e2
      rw [zg_us]
      have hL0 : 0 < L := by
        cases L with
        | zero => exact absurd (by rw [e2]; decide) hls
        | succ k => exact Nat.succ_pos k
      refine ⟨L - 1, by omega, ?_⟩
      show ls - 1 = nI (L - 1)
      rw [e2]
      exact zk_dec1 (by omega)
    · rw [zg_un c _ e1]
      exact h6 b hb
  · intro hx
    obtain ⟨h8, h9, h10⟩ := h7 hx
    refine ⟨?_, ?_, h10⟩
    · intro b hb
      show lw b = _ ∧ _
      by_cases e1 : b = a
      · subst e1
        have h11 := h8 b hb
        rw [hc] at h11
        rw [zg_us]
        exact ⟨h11.1, fun _ => h11.2 rfl⟩
      · rw [zg_un c _ e1]
        exact h8 b hb
    · show ou + 1 = zs Mn (upd oo e (oo e + 1))
      have e2 : ou = zs Mn oo := h9
      rw [e2]
      exact (zs_upd (a := e) Mn he (fun b hb => pk_un hb) pk_us).symm
/-- a danger strikes at a good -/
theorem zg_step (hw : zg_W Mn Gn r row0) {slp : Nat → Int32} {s : zg_S} (h : zg_R X Mn Gn r row0 c s) {a d Y : Nat} (ha : a < Gn) (hd : d < 8) (i : Int32) (hy : s.1 15 = nI Y) (hY : Y < 2 ^ 31) :
    zg_R X Mn Gn r row0 (zg_u c a (zg_d i (r ((33 + 2 * a) + 1)) (zg_P r slp row0 a (nI Y)) d (c a))) (zl_mygG r slp d a s) ∧ (zl_mygG r slp d a s).1 15 = nI Y := by
  obtain ⟨row, ou, lt, lw, oo⟩ := s
  have hy : row 15 = nI Y := hy
  have hall := h
  obtain ⟨h1, h2, h3, h4, h5, h6, h7⟩ := h
  obtain ⟨hM, hG, w1, w2, w3, w4, w5⟩ := hw
  have hlb : bt (row 14) a = !(c a).1 := by
    have h8 : bt (row 14) a = _ := h2 a (by omega)
    rw [if_pos ha] at h8
    exact h8
  have hin : row (10 + a) = row0 (10 + a) := h1 (10 + a) (by omega) (by omega)
  cases hca : c a with
  | mk al q =>
    obtain ⟨la, l2, wo, ls, kp⟩ := q
    rw [hca] at hlb
    cases al with
    | false =>
      have e1 : zl_mygG r slp d a (row, ou, lt, lw, oo) = (row, ou, lt, lw, oo) := by
        unfold zl_mygG
        simp only
        rw [if_neg (fun z => by rw [zt_hb0 _ (by omega), hlb] at z; cases z)]
      rw [e1]
      refine ⟨?_, hy⟩
      have e2 : zg_d i (r ((33 + 2 * a) + 1)) (zg_P r slp row0 a (nI Y)) d (false, la, l2, wo, ls, kp) = c a := by rw [hca]; rfl
      rw [e2, zg_uc]
      exact hall
    | true =>
      have hnl : zr_mhasBit (row 14) (nI a) = 0 := by
        rw [zt_hb0 _ (by omega), hlb]
        rfl
      have hl0 : bt (row0 14) a = false := h3 a ha (by rw [hca])
      rcases w4 a ha with hB | ⟨e, he, hI⟩
      · have e0 : row (10 + a) = 0 := hin.trans hB
        have eP : zg_P r slp row0 a (nI Y) = 0 := by unfold zg_P; rw [if_pos hB]
        rw [eP]
        unfold zl_mygG zg_d
        simp only [if_pos hnl, if_pos e0]
        rw [if_neg (show ¬ (¬ ls ≤ 0 ∧ bt 0 d = true) from fun z => by rw [b_0] at z; cases z.2)]
        unfold zr_mstB
        by_cases hf : bt (r ((33 + 2 * a) + 1)) d = true
        · rw [if_pos hf, if_neg (fun z => by rw [zt_hb0 _ (by omega), hf] at z; cases z)]
          exact ⟨zg_kill hall hG ha hd hca, hy⟩
        · rw [if_neg hf, if_pos ((zt_hb0 _ (by omega)).mpr (Bool.eq_false_iff.mpr hf))]
          refine ⟨?_, hy⟩
          rw [← hca, zg_uc]
          exact hall
      · have e0 : ¬ row (10 + a) = 0 := by rw [hin, hI]; exact nI_ne0 (by omega) (by omega)
        have ee : (row (10 + a)).toNatClampNeg - 1 = e := by rw [hin, hI, nI_clamp (by omega), Nat.add_sub_cancel]
        obtain ⟨T, hT, hth⟩ := w2 e he
        have hth2 : row (5 + e) = nI T := (h1 (5 + e) (by omega) (by omega)).trans hth
        have hls : row e = ls := by
          have h8 := (h4 a e ha hl0 (by omega) hI).1
          rw [hca] at h8
          exact h8
        have eP : zg_P r slp row0 a (nI Y) = (zr_heldOff (r (23 + 2 * e)) (row (5 + e)) (nI Y)) &&& (slp e ^^^ (-1)) := by
          unfold zg_P
          rw [if_neg (by rw [hI]; exact nI_ne0 (by omega) (by omega)), zg_e_of hI (by omega), hth, hth2]
        obtain ⟨L, hL, hLs⟩ := h6 a ha
        rw [hca] at hLs
        have hLs : ls = nI L := hLs
        have hcond : zr_mhasBit (zr_moutOf r row slp e (row 15)) (nI d) = 0 ↔ ¬ (¬ ls ≤ 0 ∧ bt (zg_P r slp row0 a (nI Y)) d = true) := by
          rw [zt_hb0 _ (by omega), hy, zg_out (w1 e he) hT hth2 hY, eP, hls]
          cases L with
          | zero =>
            rw [if_pos (by rw [hLs]; rfl), b_0]
            exact ⟨fun _ z => z.1 (by rw [hLs]; decide), fun _ => rfl⟩
          | succ k =>
            rw [if_neg (by rw [hLs]; exact nI_ne0 (by omega) (by omega))]
            have hp : ¬ ls ≤ 0 := by rw [hLs]; exact nI_nle (by omega) (by omega)
            constructor
            · intro z1 z2
              rw [z1] at z2
              cases z2.2
            · intro z1
              exact Bool.eq_false_iff.mpr (fun z2 => z1 ⟨hp, z2⟩)
        unfold zl_mygG
        simp only [if_pos hnl, if_neg e0, ee]
        unfold zr_mstI
        by_cases hk : ¬ ls ≤ 0 ∧ bt (zg_P r slp row0 a (nI Y)) d = true
        · have e3 : zg_d i (r ((33 + 2 * a) + 1)) (zg_P r slp row0 a (nI Y)) d (true, la, l2, wo, ls, kp) = (true, la, l2, (if ls - 1 = 0 then i else wo), ls - 1, kp + 1) := by
            unfold zg_d
            simp only
            rw [if_pos hk]
          rw [e3, if_neg (fun z => hcond.mp z hk)]
          refine ⟨zg_keep hall ⟨hM, hG, w1, w2, w3, w4, w5⟩ ha he hl0 hI hca hk.1, ?_⟩
          show upd row e _ 15 = _
          rw [pk_un (by omega)]
          exact hy
        · rw [if_pos (hcond.mpr hk)]
          by_cases hf : bt (r ((33 + 2 * a) + 1)) d = true
          · have e3 : zg_d i (r ((33 + 2 * a) + 1)) (zg_P r slp row0 a (nI Y)) d (true, la, l2, wo, ls, kp) = (false, i, nI d, wo, ls, kp) := by
              unfold zg_d
              simp only
              rw [if_neg hk, if_pos hf]
            rw [e3, if_neg (fun z => by rw [zt_hb0 _ (by omega), hf] at z; cases z)]
            exact ⟨zg_kill hall hG ha hd hca, hy⟩
          · have e3 : zg_d i (r ((33 + 2 * a) + 1)) (zg_P r slp row0 a (nI Y)) d (true, la, l2, wo, ls, kp) = (true, la, l2, wo, ls, kp) := by
              unfold zg_d
              simp only
              rw [if_neg hk, if_neg hf]
            rw [e3, if_pos ((zt_hb0 _ (by omega)).mpr (Bool.eq_false_iff.mpr hf))]
            refine ⟨?_, hy⟩
            rw [← hca, zg_uc]
            exact hall
/-- a danger strikes -/
theorem zg_all (hw : zg_W Mn Gn r row0) {slp : Nat → Int32} {s : zg_S} (h : zg_R X Mn Gn r row0 c s) {d Y : Nat} (hd : d < 8) (i : Int32) (hy : s.1 15 = nI Y) (hY : Y < 2 ^ 31) :
    zg_R X Mn Gn r row0 (fun b => if b < Gn then zg_d i (r ((33 + 2 * b) + 1)) (zg_P r slp row0 b (nI Y)) d (c b) else c b) (zf (zl_mygG r slp d) Gn 0 s) ∧ (zf (zl_mygG r slp d) Gn 0 s).1 15 = nI Y := by
  have key := zf_ind (G := zl_mygG r slp d) (P := fun j s => zg_R X Mn Gn r row0 (fun b => if b < j then zg_d i (r ((33 + 2 * b) + 1)) (zg_P r slp row0 b (nI Y)) d (c b) else c b) s ∧ s.1 15 = nI Y) Gn 0 s ?_ ?_
  · rw [Nat.zero_add] at key
    exact key
  · refine ⟨?_, hy⟩
    have e : (fun b => if b < 0 then zg_d i (r ((33 + 2 * b) + 1)) (zg_P r slp row0 b (nI Y)) d (c b) else c b) = c := by
      funext b
      rw [if_neg (Nat.not_lt_zero _)]
    rw [e]
    exact h
  · intro j s hj1 hj2 hp
    have h2 := zg_step hw (slp := slp) hp.1 (a := j) (by omega) hd i hp.2 hY
    rw [show (if j < j then zg_d i (r ((33 + 2 * j) + 1)) (zg_P r slp row0 j (nI Y)) d (c j) else c j) = c j from if_neg (Nat.lt_irrefl _)] at h2
    have e : zg_u (fun b => if b < j then zg_d i (r ((33 + 2 * b) + 1)) (zg_P r slp row0 b (nI Y)) d (c b) else c b) j (zg_d i (r ((33 + 2 * j) + 1)) (zg_P r slp row0 j (nI Y)) d (c j)) = (fun b => if b < j + 1 then zg_d i (r ((33 + 2 * b) + 1)) (zg_P r slp row0 b (nI Y)) d (c b) else c b) := by
      funext b
      unfold zg_u
      by_cases e1 : b = j
      · subst e1
        rw [if_pos rfl, if_pos (by omega)]
      · rw [if_neg e1]
        dsimp only
        by_cases e2 : b < j
        · rw [if_pos e2, if_pos (by omega)]
        · rw [if_neg e2, if_neg (by omega)]
    rw [e] at h2
    exact h2
theorem zf_add {σ : Type} (G : Nat → σ → σ) : ∀ (n m i : Nat) (s : σ), zf G (n + m) i s = zf G m (i + n) (zf G n i s)
  | 0, m, i, s => by rw [Nat.zero_add]; rfl
  | n + 1, m, i, s => by
    rw [show n + 1 + m = (n + m) + 1 by omega, zf_succ, zf_succ, zf_add G n m (i + 1), show i + 1 + n = i + (n + 1) by omega]
/-- the dangers of a year -/
theorem zg_dan (hw : zg_W Mn Gn r row0) {slp : Nat → Int32} {s : zg_S} (h : zg_R X Mn Gn r row0 c s) {D Y : Nat} (hD : D ≤ 8) (sk i : Int32) (hsk : ∀ d, D ≤ d → d < 32 → bt sk d = false) (hy : s.1 15 = nI Y) (hY : Y < 2 ^ 31) :
    zg_R X Mn Gn r row0 (fun b => if b < Gn then zg_y sk i (r ((33 + 2 * b) + 1)) (zg_P r slp row0 b (nI Y)) (c b) else c b) (zf (zl_mydG Gn r slp sk) D 0 s) ∧ (zf (zl_mydG Gn r slp sk) D 0 s).1 15 = nI Y := by
  have key := zf_ind (G := zl_mydG Gn r slp sk) (P := fun j s => zg_R X Mn Gn r row0 (fun b => if b < Gn then zf (zg_s sk i (r ((33 + 2 * b) + 1)) (zg_P r slp row0 b (nI Y))) j 0 (c b) else c b) s ∧ s.1 15 = nI Y) D 0 s ?_ ?_
  · rw [Nat.zero_add] at key
    have e : (fun b => if b < Gn then zf (zg_s sk i (r ((33 + 2 * b) + 1)) (zg_P r slp row0 b (nI Y))) D 0 (c b) else c b) = (fun b => if b < Gn then zg_y sk i (r ((33 + 2 * b) + 1)) (zg_P r slp row0 b (nI Y)) (c b) else c b) := by
      funext b
      by_cases hb : b < Gn
      · rw [if_pos hb, if_pos hb]
        unfold zg_y
        rw [show 8 = D + (8 - D) by omega, zf_add, zg_f_still _ (8 - D) (0 + D) (fun d a1 a2 => hsk d (by omega) (by omega))]
      · rw [if_neg hb, if_neg hb]
    rw [e] at key
    exact key
  · refine ⟨?_, hy⟩
    have e : (fun b => if b < Gn then zf (zg_s sk i (r ((33 + 2 * b) + 1)) (zg_P r slp row0 b (nI Y))) 0 0 (c b) else c b) = c := by
      funext b
      split <;> rfl
    rw [e]
    exact h
  · intro j s hj1 hj2 hp
    by_cases hb : bt sk j = true
    · have e1 : zl_mydG Gn r slp sk j s = zf (zl_mygG r slp j) Gn 0 s := by
        obtain ⟨row, ou, lt, lw, oo⟩ := s
        unfold zl_mydG
        simp only
        rw [if_neg (fun z => by rw [zt_hb0 _ (by omega), hb] at z; cases z)]
      rw [e1]
      have h2 := zg_all hw (slp := slp) hp.1 (d := j) (by omega) i hp.2 hY
      have e : (fun b => if b < Gn then zg_d i (r ((33 + 2 * b) + 1)) (zg_P r slp row0 b (nI Y)) j (if b < Gn then zf (zg_s sk i (r ((33 + 2 * b) + 1)) (zg_P r slp row0 b (nI Y))) j 0 (c b) else c b) else (if b < Gn then zf (zg_s sk i (r ((33 + 2 * b) + 1)) (zg_P r slp row0 b (nI Y))) j 0 (c b) else c b)) = (fun b => if b < Gn then zf (zg_s sk i (r ((33 + 2 * b) + 1)) (zg_P r slp row0 b (nI Y))) (j + 1) 0 (c b) else c b) := by
        funext b
        by_cases hbG : b < Gn
        · rw [if_pos hbG, if_pos hbG, if_pos hbG, zf_last, Nat.zero_add]
          show _ = zg_s sk i _ _ j _
          unfold zg_s
          rw [if_pos hb]
        · rw [if_neg hbG, if_neg hbG, if_neg hbG]
      rw [e] at h2
      exact h2
    · have e1 : zl_mydG Gn r slp sk j s = s := by
        obtain ⟨row, ou, lt, lw, oo⟩ := s
        unfold zl_mydG
        simp only
        rw [if_pos ((zt_hb0 _ (by omega)).mpr (Bool.eq_false_iff.mpr hb))]
      rw [e1]
      refine ⟨?_, hp.2⟩
      have e : (fun b => if b < Gn then zf (zg_s sk i (r ((33 + 2 * b) + 1)) (zg_P r slp row0 b (nI Y))) (j + 1) 0 (c b) else c b) = (fun b => if b < Gn then zf (zg_s sk i (r ((33 + 2 * b) + 1)) (zg_P r slp row0 b (nI Y))) j 0 (c b) else c b) := by
        funext b
        by_cases hbG : b < Gn
        · rw [if_pos hbG, if_pos hbG, zf_last, Nat.zero_add]
          show zg_s sk i _ _ j _ = _
          rw [zg_s, if_neg hb]
        · rw [if_neg hbG, if_neg hbG]
      rw [e]
      exact hp.1
/-- bits of who strikes -/
theorem zg_skb (r : Nat → Int32) (y : Int32) : ∀ (n i : Nat) (x : Int32), (∀ d, i ≤ d → d < 32 → bt x d = false) → i + n ≤ 32 → ∀ d, i + n ≤ d → d < 32 → bt (zf (zl_mstrikersInG r y) n i x) d = false
  | 0, i, x, h, _, d, h1, h2 => h d (by omega) h2
  | n + 1, i, x, h, hn, d, h1, h2 => by
    rw [zf_succ]
    refine zg_skb r y n (i + 1) _ ?_ (by omega) d (by omega) h2
    intro d2 h3 h4
    unfold zl_mstrikersInG
    simp only
    split
    · rw [b_or, h d2 (by omega) h4, b_0]; rfl
    · split
      · rw [zt_or1 _ (by omega) h4, h d2 (by omega) h4, decide_eq_false (by omega)]; rfl
      · rw [b_or, h d2 (by omega) h4, b_0]; rfl
theorem zg_skb0 (D : Nat) (hD : D ≤ 8) (r : Nat → Int32) (y : Int32) : ∀ d, D ≤ d → d < 32 → bt (zr_mstrikersIn D r y) d = false := fun d h1 h2 => zg_skb r y D 0 0 (fun d _ _ => b_0 d) (by omega) d (by omega) h2
/-- a year -/
theorem zg_year (hw : zg_W Mn Gn r row0) {slp : Nat → Int32} (h : zg_R X Mn Gn r row0 c (row, ou, lt, lw, oo)) {D Y : Nat} (hD : D ≤ 8) (i : Int32) (hy : row 15 = nI Y) (hY : Y + 1 < 2 ^ 31) :
    zg_R X Mn Gn r row0 (fun b => if b < Gn then zg_y (zr_mstrikersIn D r (nI (Y + 1))) i (r ((33 + 2 * b) + 1)) (zg_P r slp row0 b (nI (Y + 1))) (c b) else c b) (zr_myear D Gn r row slp ou lt lw oo) ∧ (zr_myear D Gn r row slp ou lt lw oo).1 15 = nI (Y + 1) := by
  have hy1 : row 15 + 1 = nI (Y + 1) := by rw [hy]; exact nI_1 Y
  have h0 : zg_R X Mn Gn r row0 c (upd row 15 (row 15 + 1), ou, lt, lw, oo) := by
    obtain ⟨h1, h2, h3, h4, h5, h6, h7⟩ := h
    refine ⟨?_, ?_, h3, ?_, ?_, h6, h7⟩
    · intro i a1 a2
      show upd row 15 _ i = _
      rw [pk_un (by omega)]
      exact h1 i a1 a2
    · intro i hi
      show bt (upd row 15 (row 15 + 1) 14) i = _
      rw [pk_un (by omega)]
      exact h2 i hi
    · intro a e ha hl he hI
      show upd row 15 _ e = _ ∧ _
      rw [pk_un (by omega)]
      exact h4 a e ha hl he hI
    · intro e he hz
      show upd row 15 _ e = _ ∧ _
      rw [pk_un (by omega)]
      exact h5 e he hz
  have h1 := zg_dan hw (slp := slp) h0 (D := D) (Y := Y + 1) hD (zr_mstrikersIn D r (nI (Y + 1))) i (zg_skb0 D hD r _) (by show upd row 15 _ 15 = _; rw [pk_us]; exact hy1) hY
  unfold zr_myear
  rw [pk_us, hy1]
  rw [hy1] at h1
  exact h1
end ZGS
