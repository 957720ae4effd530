/-! n years of the reference; the class's reckoning, good by good -/
theorem zg_hpar (kd th : Int32) (Z : Nat) (hZ : Z < 2 ^ 31) : zr_heldOff kd th (nI Z) = if nI Z - nI Z / 2 * 2 = 0 then zr_heldOff kd th 2 else zr_heldOff kd th 1 := by
  unfold zr_heldOff
  rw [zg_par Z hZ]
  by_cases h1 : kd = 1
  · rw [if_pos h1, if_pos h1, if_pos h1, ite_self]
  · rw [if_neg h1, if_neg h1, if_neg h1]
    by_cases h2 : kd = 2
    · rw [if_pos h2, if_pos h2, if_pos h2, if_pos (show (2 : Int32) - 2 / 2 * 2 = 0 by decide), if_neg (show ¬ (1 : Int32) - 1 / 2 * 2 = 0 by decide)]
    · rw [if_neg h2, if_neg h2, if_neg h2, ite_self]
theorem zg_Ppar (r slp row : Nat → Int32) (a Z : Nat) (hZ : Z < 2 ^ 31) : zg_P r slp row a (nI Z) = if nI Z - nI Z / 2 * 2 = 0 then zg_P r slp row a 2 else zg_P r slp row a 1 := by
  unfold zg_P
  by_cases h : row (10 + a) = 0
  · rw [if_pos h, if_pos h, if_pos h, ite_self]
  · rw [if_neg h, if_neg h, if_neg h, zg_hpar _ _ Z hZ]
    split <;> rfl
/-- n years of the reference -/
theorem zg_go {X : Prop} {Mn Gn : Nat} {r row0 : Nat → Int32} {c : Nat → zg_C} (hw : zg_W Mn Gn r row0) {slp : Nat → Int32} {s : zg_S} (h : zg_R X Mn Gn r row0 c s) {D Y : Nat} (hD : D ≤ 8) (hy : s.1 15 = nI Y) (sk : Nat → Int32) : ∀ (n : Nat), Y + n < 2 ^ 31 → (∀ j, 1 ≤ j → j ≤ n → sk j = zr_mstrikersIn D r (nI (Y + j))) →
    zg_R X Mn Gn r row0 (fun b => if b < Gn then zf (zg_n sk (nI Y) (r ((33 + 2 * b) + 1)) (zg_P r slp row0 b 1) (zg_P r slp row0 b 2)) n 1 (c b) else c b) (zf (zl_mgoG D Gn r slp) n 0 s) ∧ (zf (zl_mgoG D Gn r slp) n 0 s).1 15 = nI (Y + n)
  | 0, _, _ => by
    refine ⟨?_, hy⟩
    have e : (fun b => if b < Gn then zf (zg_n sk (nI Y) (r ((33 + 2 * b) + 1)) (zg_P r slp row0 b 1) (zg_P r slp row0 b 2)) 0 1 (c b) else c b) = c := by
      funext b
      split <;> rfl
    rw [e]
    exact h
  | n + 1, hY, hs => by
    have ih := zg_go hw (slp := slp) h hD hy sk n (by omega) (fun j a b => hs j a (by omega))
    rw [zf_last]
    cases hst : zf (zl_mgoG D Gn r slp) n 0 s with
    | mk row q =>
      obtain ⟨ou, lt, lw, oo⟩ := q
      rw [hst] at ih
      have h2 := zg_year hw (slp := slp) ih.1 (D := D) (Y := Y + n) hD (nI (n + 1)) ih.2 (by omega)
      have e : (fun b => if b < Gn then zg_y (zr_mstrikersIn D r (nI (Y + n + 1))) (nI (n + 1)) (r ((33 + 2 * b) + 1)) (zg_P r slp row0 b (nI (Y + n + 1))) (if b < Gn then zf (zg_n sk (nI Y) (r ((33 + 2 * b) + 1)) (zg_P r slp row0 b 1) (zg_P r slp row0 b 2)) n 1 (c b) else c b) else (if b < Gn then zf (zg_n sk (nI Y) (r ((33 + 2 * b) + 1)) (zg_P r slp row0 b 1) (zg_P r slp row0 b 2)) n 1 (c b) else c b)) = (fun b => if b < Gn then zf (zg_n sk (nI Y) (r ((33 + 2 * b) + 1)) (zg_P r slp row0 b 1) (zg_P r slp row0 b 2)) (n + 1) 1 (c b) else c b) := by
        funext b
        by_cases hb : b < Gn
        · rw [if_pos hb, if_pos hb, if_pos hb, zf_last, Nat.add_comm 1 n]
          show _ = zg_n sk (nI Y) (r ((33 + 2 * b) + 1)) (zg_P r slp row0 b 1) (zg_P r slp row0 b 2) (n + 1) _
          unfold zg_n
          rw [nI_add, hs (n + 1) (by omega) (by omega), zg_Ppar r slp row0 b (Y + n + 1) (by omega)]
          rfl
        · rw [if_neg hb, if_neg hb, if_neg hb]
      rw [e] at h2
      exact h2
/-! the class -/
def zq_e (li : Nat → Int32) (a : Nat) : Nat := (li a).toNatClampNeg
def zq_P (kd th slp li : Nat → Int32) (a : Nat) (y : Int32) : Int32 := if li a < 0 then 0 else (zr_heldOff (kd (zq_e li a)) (th (zq_e li a)) y) &&& (slp (zq_e li a) ^^^ (-1))
def zq_l (la li : Nat → Int32) (a : Nat) : Int32 := if li a < 0 then 0 else la (zq_e li a)
def zq_0 (l0 : Int32) : zg_C := (true, -2, -2, (if l0 ≤ 0 then 0 else -2), l0, 0)
def zq_c (sk : Nat → Int32) (yg : Int32) (sp : Nat) (fe th la kd slp li : Nat → Int32) (lo : Int32) (a : Nat) : zg_C := if bt lo a = true then (false, 0, -2, 0, 0, 0) else zf (zg_n sk yg (fe a) (zq_P kd th slp li a 1) (zq_P kd th slp li a 2)) sp 1 (zq_0 (zq_l la li a))
abbrev zq_S : Type := Int32 × Int32 × (Nat → Int32) × (Nat → Int32) × (Nat → Int32) × (Nat → Int32) × (Nat → Int32) × Int32 × Int32 × Int32 × Int32 × Int32
def zq_R (Mn j : Nat) (wr la li : Nat → Int32) (lo : Int32) (c : Nat → zg_C) (s : zq_S) : Prop :=
  s.1 = zs j (fun a => if (c a).1 = true then wr a else 0) ∧
  (∀ i, i < 32 → bt s.2.1 i = if i < j then !(c i).1 else bt lo i) ∧
  (∀ a, a < j → s.2.2.1 a = (c a).2.1 ∧ s.2.2.2.1 a = (c a).2.2.1) ∧
  (∀ a e, a < j → bt lo a = false → e < Mn → li a = nI e → s.2.2.2.2.1 e = (c a).2.2.2.1 ∧ s.2.2.2.2.2.1 e = (c a).2.2.2.2.1 ∧ s.2.2.2.2.2.2.1 e = (c a).2.2.2.2.2) ∧
  (∀ e, e < Mn → (∀ a, a < j → bt lo a = false → ¬ li a = nI e) → s.2.2.2.2.1 e = (if la e ≤ 0 then 0 else -2) ∧ s.2.2.2.2.2.1 e = la e ∧ s.2.2.2.2.2.2.1 e = 0)
theorem zq_rsM (la : Nat → Int32) : ∀ (n i : Nat) (s : (Nat → Int32) × (Nat → Int32) × (Nat → Int32)), (∀ e, e < i → s.1 e = (if la e ≤ 0 then 0 else -2) ∧ s.2.1 e = la e ∧ s.2.2 e = 0) → ∀ e, e < i + n → (zf (zl_rsMG la) n i s).1 e = (if la e ≤ 0 then 0 else -2) ∧ (zf (zl_rsMG la) n i s).2.1 e = la e ∧ (zf (zl_rsMG la) n i s).2.2 e = 0
  | 0, i, s, h, e, he => h e he
  | n + 1, i, s, h, e, he => by
    rw [zf_succ]
    refine zq_rsM la n (i + 1) _ ?_ e (by omega)
    intro f hf
    obtain ⟨a, b, c⟩ := s
    unfold zl_rsMG
    simp only
    rw [pk_us]
    by_cases hi : f = i
    · subst hi
      split <;> exact ⟨pk_us, pk_us, pk_us⟩
    · have h8 := h f (by omega)
      split <;> exact ⟨(pk_un hi).trans h8.1, (pk_un hi).trans h8.2.1, (pk_un hi).trans h8.2.2⟩
section ZQ
variable {Mn Gn sp : Nat} {sk fe wr th la kd slp li : Nat → Int32} {yg lo : Int32}
/-- one more good -/
theorem zq_step (hG4 : Gn ≤ 4) (hli : ∀ a, a < Gn → li a < 0 ∨ ∃ e, e < Mn ∧ li a = nI e) (hM5 : Mn ≤ 5) (hdis : ∀ a b, a < Gn → b < Gn → a ≠ b → bt lo a = false → bt lo b = false → li a = li b → li a < 0) {j : Nat} (hj : j < Gn) {s : zq_S}
    (h : zq_R Mn j wr la li lo (zq_c sk yg sp fe th la kd slp li lo) s) : zq_R Mn (j + 1) wr la li lo (zq_c sk yg sp fe th la kd slp li lo) (zl_rsGG sk yg sp fe wr th la kd slp li lo j s) := by
  obtain ⟨wl, lb, r47, r48, r49, r50, r51, w3, w4, w5, w6, w7⟩ := s
  obtain ⟨h1, h2, h3, h4, h5⟩ := h
  have h1 : wl = zs j (fun a => if (zq_c sk yg sp fe th la kd slp li lo a).1 = true then wr a else 0) := h1
  by_cases hl : bt lo j = true
  · have ec : zq_c sk yg sp fe th la kd slp li lo j = (false, 0, -2, 0, 0, 0) := by unfold zq_c; rw [if_pos hl]
    have e1 : zl_rsGG sk yg sp fe wr th la kd slp li lo j (wl, lb, r47, r48, r49, r50, r51, w3, w4, w5, w6, w7) = (wl, lb, upd r47 j 0, upd r48 j (-2), r49, r50, r51, w3, w4, w5, w6, w7) := by
      unfold zl_rsGG
      simp only
      rw [if_neg (fun z => by rw [zt_il0 _ (by omega), hl] at z; cases z)]
    rw [e1]
    refine ⟨?_, ?_, ?_, ?_, ?_⟩
    · show wl = _
      rw [zs_succ, ← h1, ec]
      exact (Int32.add_zero _).symm
    · intro i hi
      have h8 : bt lb i = _ := h2 i hi
      show bt lb i = _
      rw [h8]
      by_cases e : i = j
      · subst e
        rw [if_neg (Nat.lt_irrefl _), if_pos (by omega), ec, hl]
        rfl
      · by_cases e2 : i < j
        · rw [if_pos e2, if_pos (by omega)]
        · rw [if_neg e2, if_neg (by omega)]
    · intro a ha
      show upd r47 j 0 a = _ ∧ upd r48 j (-2) a = _
      by_cases e : a = j
      · subst e
        rw [pk_us, pk_us, ec]
        exact ⟨rfl, rfl⟩
      · rw [pk_un e, pk_un e]
        exact h3 a (by omega)
    · intro a e ha hal
      have : a ≠ j := fun z => by rw [z, hl] at hal; cases hal
      exact h4 a e (by omega) hal
    · intro e he hz
      exact h5 e he (fun a ha => hz a (by omega))
  · have hl0 : bt lo j = false := Bool.eq_false_iff.mpr hl
    have hil : zr_isLost lo (nI j) = 0 := (zt_il0 _ (by omega)).mpr hl0
    -- what a walk brings, in general
    have gen : ∀ (c : zg_C) (r49' r50' r51' : Nat → Int32) (w3 w4 w5 w6 w7 : Int32), zq_c sk yg sp fe th la kd slp li lo j = c →
        ((li j < 0 ∧ r49' = r49 ∧ r50' = r50 ∧ r51' = r51) ∨ ∃ e, e < Mn ∧ li j = nI e ∧ r49' = upd r49 e c.2.2.2.1 ∧ r50' = upd r50 e c.2.2.2.2.1 ∧ r51' = upd r51 e c.2.2.2.2.2) →
        zq_R Mn (j + 1) wr la li lo (zq_c sk yg sp fe th la kd slp li lo) ((if (zg_z c).1 = 0 then wl else wl + wr j), (if (zg_z c).1 = 0 then lb ||| ((1 : Int32) <<< ((nI j) &&& 31)) else lb), upd (upd r47 j 0) j c.2.1, upd (upd r48 j (-2)) j c.2.2.1, r49', r50', r51', w3, w4, w5, w6, w7) := by
      intro c r49' r50' r51' w3 w4 w5 w6 w7 ec hr
      have hz0 : (zg_z c).1 = 0 ↔ c.1 = false := by
        unfold zg_z
        cases c.1
        · exact ⟨fun _ => rfl, fun _ => rfl⟩
        · exact ⟨fun z => absurd (show (1 : Int32) = 0 from z) (by decide), fun z => by cases z⟩
      refine ⟨?_, ?_, ?_, ?_, ?_⟩
      · show (if (zg_z c).1 = 0 then wl else wl + wr j) = _
        rw [zs_succ, ← h1, ec]
        by_cases hc : c.1 = true
        · rw [if_neg (fun z => by rw [hz0.mp z] at hc; cases hc), if_pos hc]
        · rw [if_pos (hz0.mpr (Bool.eq_false_iff.mpr hc)), if_neg hc, Int32.add_zero]
      · intro i hi
        show bt (if (zg_z c).1 = 0 then lb ||| ((1 : Int32) <<< ((nI j) &&& 31)) else lb) i = _
        have h8 : bt lb i = _ := h2 i hi
        by_cases hc : c.1 = true
        · rw [if_neg (fun z => by rw [hz0.mp z] at hc; cases hc), h8]
          by_cases e : i = j
          · subst e
            rw [if_neg (Nat.lt_irrefl _), if_pos (by omega), ec, hc, hl0]
            rfl
          · by_cases e2 : i < j
            · rw [if_pos e2, if_pos (by omega)]
            · rw [if_neg e2, if_neg (by omega)]
        · rw [if_pos (hz0.mpr (Bool.eq_false_iff.mpr hc)), zt_or1 _ (by omega) hi, h8]
          by_cases e : i = j
          · subst e
            rw [if_neg (Nat.lt_irrefl _), if_pos (by omega), ec, Bool.eq_false_iff.mpr hc, decide_eq_true rfl, Bool.or_true]
            rfl
          · rw [decide_eq_false e, Bool.or_false]
            by_cases e2 : i < j
            · rw [if_pos e2, if_pos (by omega)]
            · rw [if_neg e2, if_neg (by omega)]
      · intro a ha
        show upd (upd r47 j 0) j c.2.1 a = _ ∧ upd (upd r48 j (-2)) j c.2.2.1 a = _
        by_cases e : a = j
        · subst e
          rw [pk_us, pk_us, ec]
          exact ⟨rfl, rfl⟩
        · rw [pk_un e, pk_un e, pk_un e, pk_un e]
          exact h3 a (by omega)
      · intro a e ha hal he hae
        show r49' e = _ ∧ r50' e = _ ∧ r51' e = _
        by_cases e1 : a = j
        · subst e1
          rcases hr with ⟨hn, _⟩ | ⟨f, hf, hjf, e2, e3, e4⟩
          · rw [hae] at hn
            exact absurd hn (nI_pos (by omega))
          · have hef : e = f := (nI_eq (by omega) (by omega)).mp (hae.symm.trans hjf)
            subst hef
            rw [e2, e3, e4, pk_us, pk_us, pk_us, ec]
            exact ⟨rfl, rfl, rfl⟩
        · rcases hr with ⟨hn, e2, e3, e4⟩ | ⟨f, hf, hjf, e2, e3, e4⟩
          · rw [e2, e3, e4]
            exact h4 a e (by omega) hal he hae
          · have hef : e ≠ f := by
              intro z
              subst z
              have h8 := hdis a j (by omega) hj e1 hal hl0 (hae.trans hjf.symm)
              rw [hae] at h8
              exact nI_pos (by omega) h8
            rw [e2, e3, e4, pk_un hef, pk_un hef, pk_un hef]
            exact h4 a e (by omega) hal he hae
      · intro e he hz
        show r49' e = _ ∧ r50' e = _ ∧ r51' e = _
        have h8 := h5 e he (fun a ha => hz a (by omega))
        rcases hr with ⟨hn, e2, e3, e4⟩ | ⟨f, hf, hjf, e2, e3, e4⟩
        · rw [e2, e3, e4]
          exact h8
        · have hef : e ≠ f := fun z => hz j (by omega) hl0 (by rw [z]; exact hjf)
          rw [e2, e3, e4, pk_un hef, pk_un hef, pk_un hef]
          exact h8
    unfold zl_rsGG
    simp only
    rw [if_pos hil]
    rcases hli j hj with hB | ⟨e, he, hI⟩
    · rw [if_pos hB]
      have ec : zq_c sk yg sp fe th la kd slp li lo j = zf (zg_n sk yg (fe j) 0 0) sp 1 (zq_0 0) := by
        unfold zq_c zq_P zq_l
        rw [if_neg hl, if_pos hB, if_pos hB, if_pos hB]
      have ef : zr_follow sk yg sp (fe j) 0 0 0 = zg_z (zf (zg_n sk yg (fe j) 0 0) sp 1 (zq_0 0)) := zg_follow _ _ _ _ _ _ _
      have hg := gen _ r49 r50 r51 ((zg_z (zf (zg_n sk yg (fe j) 0 0) sp 1 (zq_0 0))).2.1) ((zg_z (zf (zg_n sk yg (fe j) 0 0) sp 1 (zq_0 0))).2.2.1) ((zg_z (zf (zg_n sk yg (fe j) 0 0) sp 1 (zq_0 0))).2.2.2.1) ((zg_z (zf (zg_n sk yg (fe j) 0 0) sp 1 (zq_0 0))).2.2.2.2.1) ((zg_z (zf (zg_n sk yg (fe j) 0 0) sp 1 (zq_0 0))).2.2.2.2.2) ec (Or.inl ⟨hB, rfl, rfl, rfl⟩)
      unfold zr_fgB
      rw [ef]
      by_cases hz : (zg_z (zf (zg_n sk yg (fe j) 0 0) sp 1 (zq_0 0))).1 = 0
      · rw [if_pos hz, if_pos hz] at hg
        rw [if_pos hz]
        exact hg
      · rw [if_neg hz, if_neg hz] at hg
        rw [if_neg hz]
        exact hg
    · have hnB : ¬ li j < 0 := by rw [hI]; exact nI_pos (by omega)
      have ee : (li j).toNatClampNeg = e := by rw [hI]; exact nI_clamp (by omega)
      rw [if_neg hnB, ee]
      have ec : zq_c sk yg sp fe th la kd slp li lo j = zf (zg_n sk yg (fe j) ((zr_heldOff (kd e) (th e) 1) &&& ((slp e) ^^^ (-1))) ((zr_heldOff (kd e) (th e) 2) &&& ((slp e) ^^^ (-1)))) sp 1 (zq_0 (la e)) := by
        unfold zq_c zq_P zq_l zq_e
        rw [if_neg hl, if_neg hnB, if_neg hnB, if_neg hnB, ee]
      have ef : zr_follow sk yg sp (fe j) (la e) ((zr_heldOff (kd e) (th e) 1) &&& ((slp e) ^^^ (-1))) ((zr_heldOff (kd e) (th e) 2) &&& ((slp e) ^^^ (-1))) = zg_z (zf (zg_n sk yg (fe j) ((zr_heldOff (kd e) (th e) 1) &&& ((slp e) ^^^ (-1))) ((zr_heldOff (kd e) (th e) 2) &&& ((slp e) ^^^ (-1)))) sp 1 (zq_0 (la e))) := zg_follow _ _ _ _ _ _ _
      rw [← ec] at ef
      have hg := gen _ (upd r49 e (zq_c sk yg sp fe th la kd slp li lo j).2.2.2.1) (upd r50 e (zq_c sk yg sp fe th la kd slp li lo j).2.2.2.2.1) (upd r51 e (zq_c sk yg sp fe th la kd slp li lo j).2.2.2.2.2) ((zg_z (zq_c sk yg sp fe th la kd slp li lo j)).2.1) ((zg_z (zq_c sk yg sp fe th la kd slp li lo j)).2.2.1) ((zg_z (zq_c sk yg sp fe th la kd slp li lo j)).2.2.2.1) ((zg_z (zq_c sk yg sp fe th la kd slp li lo j)).2.2.2.2.1) ((zg_z (zq_c sk yg sp fe th la kd slp li lo j)).2.2.2.2.2) rfl (Or.inr ⟨e, he, hI, rfl, rfl, rfl⟩)
      unfold zr_fgI
      rw [ef]
      by_cases hz : (zg_z (zq_c sk yg sp fe th la kd slp li lo j)).1 = 0
      · rw [if_pos hz, if_pos hz] at hg
        rw [if_pos hz]
        exact hg
      · rw [if_neg hz, if_neg hz] at hg
        rw [if_neg hz]
        exact hg
/-- all goods -/
theorem zq_goods (hG4 : Gn ≤ 4) (hli : ∀ a, a < Gn → li a < 0 ∨ ∃ e, e < Mn ∧ li a = nI e) (hM5 : Mn ≤ 5) (hdis : ∀ a b, a < Gn → b < Gn → a ≠ b → bt lo a = false → bt lo b = false → li a = li b → li a < 0) (r47 r48 r49 r50 r51 : Nat → Int32) (w3 w4 w5 w6 w7 : Int32) :
    zq_R Mn Gn wr la li lo (zq_c sk yg sp fe th la kd slp li lo) (zf (zl_rsGG sk yg sp fe wr th la kd slp li lo) Gn 0 (0, lo, r47, r48, (zf (zl_rsMG la) Mn 0 (r49, r50, r51)).1, (zf (zl_rsMG la) Mn 0 (r49, r50, r51)).2.1, (zf (zl_rsMG la) Mn 0 (r49, r50, r51)).2.2, w3, w4, w5, w6, w7)) := by
  have key := zf_ind (G := zl_rsGG sk yg sp fe wr th la kd slp li lo) (P := fun j s => zq_R Mn j wr la li lo (zq_c sk yg sp fe th la kd slp li lo) s) Gn 0 (0, lo, r47, r48, (zf (zl_rsMG la) Mn 0 (r49, r50, r51)).1, (zf (zl_rsMG la) Mn 0 (r49, r50, r51)).2.1, (zf (zl_rsMG la) Mn 0 (r49, r50, r51)).2.2, w3, w4, w5, w6, w7) ?_ (fun j s _ hj hp => zq_step hG4 hli hM5 hdis (by omega) hp)
  · rw [Nat.zero_add] at key
    exact key
  · refine ⟨rfl, fun i _ => by rw [if_neg (Nat.not_lt_zero _)], fun a ha => absurd ha (Nat.not_lt_zero _), fun a e ha => absurd ha (Nat.not_lt_zero _), fun e he _ => zq_rsM la Mn 0 (r49, r50, r51) (fun e he => absurd he (Nat.not_lt_zero _)) e (by omega)⟩
end ZQ
theorem zl_aim_at (D : Nat) (ev fr : Nat → Int32) (yg : Int32) : ∀ (n i : Nat) (s : Nat → Int32) (j : Nat), i ≤ j → j < i + n → zf (zl_aimG D ev fr yg) n i s j = zr_strikingIn D ev fr (yg + nI j)
  | 0, i, s, j, h1, h2 => absurd h2 (by omega)
  | n + 1, i, s, j, h1, h2 => by
    rw [zf_succ]
    by_cases e : j = i
    · subst e
      have key : ∀ (n i : Nat) (s : Nat → Int32), j < i → zf (zl_aimG D ev fr yg) n i s j = s j := by
        intro n
        induction n with
        | zero => intro i s _; rfl
        | succ n ih =>
          intro i s hi
          rw [zf_succ, ih (i + 1) _ (by omega)]
          exact pk_un (by omega)
      rw [key n (j + 1) _ (by omega)]
      exact pk_us
    · exact zl_aim_at D ev fr yg n (i + 1) _ j (by omega) (by omega)
