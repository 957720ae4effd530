/-! runs whose end is told by a property; what a text says, token by token -/
def zx (mt : Nat → Option zk_M) (ex : Nat → List Value → zk_H → Option (Option Value × zk_H)) (Ls : Nat) (xs : Nat → Int32) (M : zk_M) (f : zk_F) (h : zk_H) (Q : Option Value × zk_H → Prop) : Prop := ∃ q, zk_T mt ex Ls xs M f h q ∧ Q q
section ZX
variable {mt : Nat → Option zk_M} {ex : Nat → List Value → zk_H → Option (Option Value × zk_H)} {Ls : Nat} {xs : Nat → Int32} {M : zk_M} {f f' f1 f2 : zk_F} {h h' : zk_H} {Q P : Option Value × zk_H → Prop} {b : Bool} {v : Option Value} {k : Nat} {as : List Value}
theorem zx.adv (n : Nat) (ha : zk_adv Ls xs n M f h = (f', h')) (kk : zx mt ex Ls xs M f' h' Q) : zx mt ex Ls xs M f h Q := by
  obtain ⟨q, h1, h2⟩ := kk
  exact ⟨q, zk_T.adv n ha h1, h2⟩
theorem zx.ob (hs : zk_step zk_zd Ls xs M f h = some (.inr (.inl (b, f', h')))) (hb : b = true) (kk : zx mt ex Ls xs M f' h' Q) : zx mt ex Ls xs M f h Q := by
  obtain ⟨q, h1, h2⟩ := kk
  exact ⟨q, zk_T.ob hs hb h1, h2⟩
theorem zx.br (hs : zk_step zk_zd Ls xs M f h = some (.inr (.inr (.inl (b, f1, f2))))) (kt : b = true → zx mt ex Ls xs M f1 h Q) (kf : b = false → zx mt ex Ls xs M f2 h Q) : zx mt ex Ls xs M f h Q := by
  cases b with
  | true =>
    obtain ⟨q, h1, h2⟩ := kt rfl
    exact ⟨q, zk_T.br hs (fun _ => h1) (fun z => absurd z (by decide)), h2⟩
  | false =>
    obtain ⟨q, h1, h2⟩ := kf rfl
    exact ⟨q, zk_T.br hs (fun z => absurd z (by decide)) (fun _ => h1), h2⟩
theorem zx.rt (hs : zk_step zk_zd Ls xs M f h = some (.inr (.inr (.inr (.inl (b, v)))))) (hb : b = true) (hq : Q (v, h)) : zx mt ex Ls xs M f h Q := ⟨(v, h), zk_T.rt hs hb rfl, hq⟩
theorem zx.cl (hs : zk_step zk_zd Ls xs M f h = some (.inr (.inr (.inr (.inr (k, as, f')))))) (hc : zk_Cr mt ex Ls xs k as h (v, h')) (kk : zx mt ex Ls xs M (zk_push M f' v) h' Q) : zx mt ex Ls xs M f h Q := by
  obtain ⟨q, h1, h2⟩ := kk
  exact ⟨q, zk_T.cl hs hc h1, h2⟩
theorem zx.cx (hs : zk_step zk_zd Ls xs M f h = some (.inr (.inr (.inr (.inr (k, as, f')))))) (hc : ∃ q, zk_Cr mt ex Ls xs k as h q ∧ P q) (kk : ∀ r h', P (r, h') → zx mt ex Ls xs M (zk_push M f' r) h' Q) : zx mt ex Ls xs M f h Q := by
  obtain ⟨⟨r, h'⟩, h1, h2⟩ := hc
  exact zx.cl hs h1 (kk r h' h2)
theorem zx.of {K : zk_M} (hK : mt k = some K) (hct : (zk_ct K).isEmpty = false) (hc : Nat.ble (zk_cat as) (zk_mxl K) = true) (kk : zx mt ex Ls xs K (zk_ent K as) h Q) : ∃ q, zk_Cr mt ex Ls xs k as h q ∧ Q q := by
  obtain ⟨q, h1, h2⟩ := kk
  exact ⟨q, zk_Cr.of hK hct hc h1, h2⟩
theorem zx.to {q : Option Value × zk_H} (kk : zx mt ex Ls xs M f h (fun z => z = q)) : zk_T mt ex Ls xs M f h q := by
  obtain ⟨q', h1, h2⟩ := kk
  rw [← h2]; exact h1
end ZX
theorem zp_cmp {x y : Int64} : lg_cmp x y = 0 ↔ x = y := by
  unfold lg_cmp
  constructor
  · intro h
    split at h
    · exact absurd h (by decide)
    · split at h
      · assumption
      · exact absurd h (by decide)
  · intro h
    subst h
    rw [if_neg (fun z : x > x => absurd z (Int64.lt_irrefl)), if_pos rfl]
def zbd {α β γ : Type} (x : α ⊕ β) (f : α → γ ⊕ β) : γ ⊕ β := match x with
  | .inl a => f a
  | .inr e => .inr e
def zp_kw (tn : Nat → Nat) (ts : Nat → Int32) (tp : Nat → Nat) (tv : Nat → Int64) (c : Int64) (k : Nat) : Nat ⊕ (Int32 × Nat) := if ts k = 2 ∧ tv k = c then .inl (tn k) else .inr (1, tp k)
def zp_num (tn : Nat → Nat) (ts : Nat → Int32) (tp : Nat → Nat) (tv : Nat → Int64) (lo hi : Nat) (k : Nat) : (Nat × Nat) ⊕ (Int32 × Nat) := if ts k = 3 then (if lo ≤ (tv k).toInt32.toNatClampNeg ∧ (tv k).toInt32.toNatClampNeg ≤ hi then .inl (tn k, (tv k).toInt32.toNatClampNeg) else .inr (4, tp k)) else .inr (1, tp k)
def zp_kind (tn : Nat → Nat) (ts : Nat → Int32) (tp : Nat → Nat) (tv : Nat → Int64) (k : Nat) : (Nat × Nat) ⊕ (Int32 × Nat) := if ts k = 2 ∧ tv k = 7931589 then .inl (tn k, 0) else if ts k = 2 ∧ tv k = 8441497 then .inl (tn k, 1) else if ts k = 2 ∧ tv k = 8438297 then .inl (tn k, 2) else .inr (1, tp k)
def zp_fnd (S : Nat → Int64) (x : Int64) : Nat → Nat → Option Nat
  | 0, _ => none
  | n + 1, s => if S s = x then some s else zp_fnd S x n (s + 1)
def zp_find (S : Nat → Int64) (x : Int64) : Option Nat := zp_fnd S x 17 0
def zp_new (tn : Nat → Nat) (ts : Nat → Int32) (tp : Nat → Nat) (tv : Nat → Int64) (s : Nat) (S : Nat → Int64) (k : Nat) : (Nat × (Nat → Int64)) ⊕ (Int32 × Nat) := if zr_isName (ts k) zk_lw (tv k) = 0 then .inr (1, tp k) else match zp_find S (tv k) with
  | none => .inl (tn k, vp_updL S s (tv k))
  | some _ => .inr (3, tp k)
def zp_see (tn : Nat → Nat) (ts : Nat → Int32) (tp : Nat → Nat) (tv : Nat → Int64) (lo hi : Nat) (S : Nat → Int64) (k : Nat) : Nat ⊕ (Int32 × Nat) := if zr_isName (ts k) zk_lw (tv k) = 0 then .inr (1, tp k) else match zp_find S (tv k) with
  | none => .inr (2, tp k)
  | some s => if lo ≤ s ∧ s < hi then .inl (s - lo) else .inr (2, tp k)
def zp_dng (tn : Nat → Nat) (ts : Nat → Int32) (tp : Nat → Nat) (tv : Nat → Int64) (S : Nat → Int64) : Nat → Int32 → Nat → (Nat × Int32) ⊕ (Int32 × Nat)
  | 0, _, k => .inr (1, tp k)
  | n + 1, bi, k => match zp_see tn ts tp tv 0 8 S k with
    | .inr e => .inr e
    | .inl x => if (bi >>> (nI x &&& 31)) &&& 1 = 0 then (if ts (tn k) = 5 then zp_dng tn ts tp tv S n (bi ||| ((1 : Int32) <<< (nI x &&& 31))) (tn (tn k)) else .inl (tn k, bi ||| ((1 : Int32) <<< (nI x &&& 31)))) else .inr (3, tp k)
theorem zp_fnd_some {S : Nat → Int64} {x : Int64} : ∀ {n i s : Nat}, zp_fnd S x n i = some s → (i ≤ s ∧ s < i + n) ∧ S s = x := by
  intro n
  induction n with
  | zero => intro i s h; cases h
  | succ n ih =>
    intro i s h
    unfold zp_fnd at h
    split at h
    · rename_i hc
      cases h
      exact ⟨⟨Nat.le_refl _, by omega⟩, hc⟩
    · obtain ⟨h1, h2⟩ := ih h
      exact ⟨⟨by omega, by omega⟩, h2⟩
theorem zp_fnd_none {S : Nat → Int64} {x : Int64} : ∀ {n i : Nat}, zp_fnd S x n i = none → ∀ s, i ≤ s → s < i + n → S s ≠ x := by
  intro n
  induction n with
  | zero => intro i h s h1 h2; omega
  | succ n ih =>
    intro i h s h1 h2
    unfold zp_fnd at h
    split at h
    · cases h
    · rename_i hc
      by_cases hs : s = i
      · subst hs; exact hc
      · exact ih h s (by omega) (by omega)
theorem zp_find_some {S : Nat → Int64} {x : Int64} {s : Nat} (h : zp_find S x = some s) : s < 17 ∧ S s = x := by
  obtain ⟨h1, h2⟩ := zp_fnd_some h
  exact ⟨by omega, h2⟩
theorem zp_find_none {S : Nat → Int64} {x : Int64} (h : zp_find S x = none) {s : Nat} (hs : s < 17) : S s ≠ x := zp_fnd_none h s (by omega) (by omega)
/-- the class's names beside the slots: a dangers, b makers, d goods told -/
def zC_N (a b d : Nat) (nm : Nat → Int64) (ns nu : Nat → Int32) (S : Nat → Int64) : Prop :=
  (a ≤ 8 ∧ b ≤ 5 ∧ d ≤ 4) ∧
  (∀ i, i < a + b + d → (ns i = 1 ∧ ∃ x, x < a ∧ nu i = nI x ∧ S x = nm i) ∨ (ns i = 2 ∧ ∃ x, x < b ∧ nu i = nI x ∧ S (8 + x) = nm i) ∨ (ns i = 3 ∧ ∃ x, x < d ∧ nu i = nI x ∧ S (13 + x) = nm i)) ∧
  (∀ s, s < 17 → S s ≠ 0 → (∃ i, i < a + b + d ∧ nm i = S s) ∧ (s < a ∨ (8 ≤ s ∧ s < 8 + b) ∨ (13 ≤ s ∧ s < 13 + d))) ∧
  (∀ s s', s < 17 → s' < 17 → S s ≠ 0 → S s = S s' → s = s')
theorem zr_lineOf_eq {so : Int32} {lw : Nat → Int64} {va : Int64} (h : ∀ j, j < 7 → lw j = zk_lw j) : zr_lineOf so lw va = zr_lineOf so zk_lw va := by
  have key : ∀ (m i : Nat), i + m ≤ 7 → zfr (zl_lineG lw va) m i () = zfr (zl_lineG zk_lw va) m i () := by
    intro m
    induction m with
    | zero =>
      intro i _
      show (Sum.inl () : Unit ⊕ Int32) = Sum.inl ()
      rfl
    | succ m ih =>
      intro i hi
      unfold zfr
      rw [show zl_lineG lw va i () = zl_lineG zk_lw va i () by unfold zl_lineG; rw [h i (by omega)]]
      cases zl_lineG zk_lw va i () with
      | inl s' => cases s'; exact ih (i + 1) (by omega)
      | inr r => rfl
  have k7 := key 7 0 (by decide)
  simp only [zr_lineOf, k7]
theorem zr_isName_eq {so : Int32} {lw : Nat → Int64} {va : Int64} (h : ∀ j, j < 7 → lw j = zk_lw j) : zr_isName so lw va = zr_isName so zk_lw va := by
  unfold zr_isName
  rw [zr_lineOf_eq h]
theorem zr_nameAt_is (n : Nat) (nm : Nat → Int64) (va : Int64) : (zr_nameAt n nm va = -1 ∧ ∀ i, i < n → nm i ≠ va) ∨ ∃ i, i < n ∧ zr_nameAt n nm va = nI i ∧ nm i = va := by
  have key : ∀ (m i : Nat), (∃ s, zfr (zl_nameAtG nm va) m i () = .inl s ∧ ∀ j, i ≤ j → j < i + m → nm j ≠ va) ∨ ∃ j, i ≤ j ∧ j < i + m ∧ zfr (zl_nameAtG nm va) m i () = .inr (nI j) ∧ nm j = va := by
    intro m
    induction m with
    | zero => intro i; exact Or.inl ⟨(), rfl, fun j h1 h2 => by omega⟩
    | succ m ih =>
      intro i
      unfold zfr
      by_cases hc : nm i = va
      · rw [show zl_nameAtG nm va i () = .inr (nI i) from if_pos (zp_cmp.mpr hc)]
        exact Or.inr ⟨i, Nat.le_refl _, by omega, rfl, hc⟩
      · rw [show zl_nameAtG nm va i () = .inl () from if_neg (fun z => hc (zp_cmp.mp z))]
        rcases ih (i + 1) with ⟨s, h1, h2⟩ | ⟨j, h1, h2, h3, h4⟩
        · refine Or.inl ⟨s, h1, fun j h3 h4 => ?_⟩
          by_cases hj : j = i
          · subst hj; exact hc
          · exact h2 j (by omega) (by omega)
        · exact Or.inr ⟨j, by omega, by omega, h3, h4⟩
  unfold zr_nameAt
  rcases key n 0 with ⟨s, h1, h2⟩ | ⟨j, h1, h2, h3, h4⟩
  · rw [h1]
    exact Or.inl ⟨rfl, fun i hi => h2 i (by omega) (by omega)⟩
  · rw [h3]
    exact Or.inr ⟨j, by omega, rfl, h4⟩
theorem zr_isName2 {so : Int32} {lw : Nat → Int64} {va : Int64} (h : ¬ zr_isName so lw va = 0) : so = 2 := by
  unfold zr_isName at h
  split at h
  · assumption
  · exact absurd rfl h
theorem zp_findS {a b d : Nat} {nm : Nat → Int64} {ns nu : Nat → Int32} {S : Nat → Int64} (h : zC_N a b d nm ns nu S) {s : Nat} (hs : s < 17) (h0 : S s ≠ 0) : zp_find S (S s) = some s := by
  cases hz : zp_find S (S s) with
  | none => exact absurd rfl (zp_find_none hz hs)
  | some s' =>
    obtain ⟨h1, h2⟩ := zp_find_some hz
    rw [h.2.2.2 s s' hs h1 h0 h2.symm]
theorem zq_see1 {tn : Nat → Nat} {ts : Nat → Int32} {tp : Nat → Nat} {tv : Nat → Int64} {k a b d : Nat} {lw : Nat → Int64} {tk fl pl : Int32} {nm : Nat → Int64} {ns nu : Nat → Int32} {S : Nat → Int64} (hN : zC_N a b d nm ns nu S) (hw : ∀ j, j < 7 → lw j = zk_lw j) (h4 : ts k = 2 → tv k ≠ 0) : (∃ x, zp_see tn ts tp tv 0 8 S k = .inl x ∧ x < a ∧ zr_see tn ts tp tv k lw (a + b + d) tk fl pl nm ns nu 1 = (1, nI x, fl, pl)) ∨ ∃ f p, zp_see tn ts tp tv 0 8 S k = .inr (f, p) ∧ zr_see tn ts tp tv k lw (a + b + d) tk fl pl nm ns nu 1 = (0, tk, f, nI p) := by
  unfold zp_see zr_see
  rw [zr_isName_eq hw]
  by_cases h0 : zr_isName (ts k) zk_lw (tv k) = 0
  · rw [if_pos h0, if_pos h0]
    exact Or.inr ⟨1, tp k, rfl, rfl⟩
  · rw [if_neg h0, if_neg h0]
    have hv := h4 (zr_isName2 h0)
    have h17 : a + b + d ≤ 17 := by obtain ⟨h1, _⟩ := hN; omega
    rcases zr_nameAt_is (a + b + d) nm (tv k) with ⟨h1, h2⟩ | ⟨i, hi, h1, h2⟩
    · rw [h1, if_pos (by decide)]
      cases hz : zp_find S (tv k) with
      | none => exact Or.inr ⟨2, tp k, rfl, rfl⟩
      | some s =>
        exfalso
        obtain ⟨hs, hx⟩ := zp_find_some hz
        obtain ⟨⟨i, hi, hx2⟩, _⟩ := hN.2.2.1 s hs (by rw [hx]; exact hv)
        exact h2 i hi (by rw [hx2, hx])
    · rw [h1, if_neg (nI_pos (by omega)), nI_clamp (show i < 2 ^ 31 by omega)]
      have hN1 := hN.1
      rcases hN.2.1 i hi with ⟨hc, x, hx, hu, hS⟩ | ⟨hc, x, hx, hu, hS⟩ | ⟨hc, x, hx, hu, hS⟩
      · have hf := zp_findS hN (s := x) (by omega) (by rw [hS, h2]; exact hv)
        rw [hS, h2] at hf
        rw [hf, hc]
        rw [if_pos rfl, hu]
        refine Or.inl ⟨x, ?_, hx, rfl⟩
        show (if 0 ≤ x ∧ x < 8 then Sum.inl (x - 0) else _ : Nat ⊕ (Int32 × Nat)) = _
        rw [if_pos ⟨by omega, by omega⟩, show x - 0 = x by omega]
      · have hf := zp_findS hN (s := 8 + x) (by omega) (by rw [hS, h2]; exact hv)
        rw [hS, h2] at hf
        rw [hf, hc]
        rw [if_neg (by decide)]
        refine Or.inr ⟨2, tp k, ?_, rfl⟩
        show (if 0 ≤ 8 + x ∧ 8 + x < 8 then Sum.inl (8 + x - 0) else _ : Nat ⊕ (Int32 × Nat)) = _
        rw [if_neg (by omega)]
      · have hf := zp_findS hN (s := 13 + x) (by omega) (by rw [hS, h2]; exact hv)
        rw [hS, h2] at hf
        rw [hf, hc]
        rw [if_neg (by decide)]
        refine Or.inr ⟨2, tp k, ?_, rfl⟩
        show (if 0 ≤ 13 + x ∧ 13 + x < 8 then Sum.inl (13 + x - 0) else _ : Nat ⊕ (Int32 × Nat)) = _
        rw [if_neg (by omega)]
theorem zq_see2 {tn : Nat → Nat} {ts : Nat → Int32} {tp : Nat → Nat} {tv : Nat → Int64} {k a b d : Nat} {lw : Nat → Int64} {tk fl pl : Int32} {nm : Nat → Int64} {ns nu : Nat → Int32} {S : Nat → Int64} (hN : zC_N a b d nm ns nu S) (hw : ∀ j, j < 7 → lw j = zk_lw j) (h4 : ts k = 2 → tv k ≠ 0) : (∃ x, zp_see tn ts tp tv 8 13 S k = .inl x ∧ x < b ∧ zr_see tn ts tp tv k lw (a + b + d) tk fl pl nm ns nu 2 = (1, nI x, fl, pl)) ∨ ∃ f p, zp_see tn ts tp tv 8 13 S k = .inr (f, p) ∧ zr_see tn ts tp tv k lw (a + b + d) tk fl pl nm ns nu 2 = (0, tk, f, nI p) := by
  unfold zp_see zr_see
  rw [zr_isName_eq hw]
  by_cases h0 : zr_isName (ts k) zk_lw (tv k) = 0
  · rw [if_pos h0, if_pos h0]
    exact Or.inr ⟨1, tp k, rfl, rfl⟩
  · rw [if_neg h0, if_neg h0]
    have hv := h4 (zr_isName2 h0)
    have h17 : a + b + d ≤ 17 := by obtain ⟨h1, _⟩ := hN; omega
    rcases zr_nameAt_is (a + b + d) nm (tv k) with ⟨h1, h2⟩ | ⟨i, hi, h1, h2⟩
    · rw [h1, if_pos (by decide)]
      cases hz : zp_find S (tv k) with
      | none => exact Or.inr ⟨2, tp k, rfl, rfl⟩
      | some s =>
        exfalso
        obtain ⟨hs, hx⟩ := zp_find_some hz
        obtain ⟨⟨i, hi, hx2⟩, _⟩ := hN.2.2.1 s hs (by rw [hx]; exact hv)
        exact h2 i hi (by rw [hx2, hx])
    · rw [h1, if_neg (nI_pos (by omega)), nI_clamp (show i < 2 ^ 31 by omega)]
      have hN1 := hN.1
      rcases hN.2.1 i hi with ⟨hc, x, hx, hu, hS⟩ | ⟨hc, x, hx, hu, hS⟩ | ⟨hc, x, hx, hu, hS⟩
      · have hf := zp_findS hN (s := x) (by omega) (by rw [hS, h2]; exact hv)
        rw [hS, h2] at hf
        rw [hf, hc]
        rw [if_neg (by decide)]
        refine Or.inr ⟨2, tp k, ?_, rfl⟩
        show (if 8 ≤ x ∧ x < 13 then Sum.inl (x - 8) else _ : Nat ⊕ (Int32 × Nat)) = _
        rw [if_neg (by omega)]
      · have hf := zp_findS hN (s := 8 + x) (by omega) (by rw [hS, h2]; exact hv)
        rw [hS, h2] at hf
        rw [hf, hc]
        rw [if_pos rfl, hu]
        refine Or.inl ⟨x, ?_, hx, rfl⟩
        show (if 8 ≤ 8 + x ∧ 8 + x < 13 then Sum.inl (8 + x - 8) else _ : Nat ⊕ (Int32 × Nat)) = _
        rw [if_pos ⟨by omega, by omega⟩, show 8 + x - 8 = x by omega]
      · have hf := zp_findS hN (s := 13 + x) (by omega) (by rw [hS, h2]; exact hv)
        rw [hS, h2] at hf
        rw [hf, hc]
        rw [if_neg (by decide)]
        refine Or.inr ⟨2, tp k, ?_, rfl⟩
        show (if 8 ≤ 13 + x ∧ 13 + x < 13 then Sum.inl (13 + x - 8) else _ : Nat ⊕ (Int32 × Nat)) = _
        rw [if_neg (by omega)]
theorem zq_see3 {tn : Nat → Nat} {ts : Nat → Int32} {tp : Nat → Nat} {tv : Nat → Int64} {k a b d : Nat} {lw : Nat → Int64} {tk fl pl : Int32} {nm : Nat → Int64} {ns nu : Nat → Int32} {S : Nat → Int64} (hN : zC_N a b d nm ns nu S) (hw : ∀ j, j < 7 → lw j = zk_lw j) (h4 : ts k = 2 → tv k ≠ 0) : (∃ x, zp_see tn ts tp tv 13 17 S k = .inl x ∧ x < d ∧ zr_see tn ts tp tv k lw (a + b + d) tk fl pl nm ns nu 3 = (1, nI x, fl, pl)) ∨ ∃ f p, zp_see tn ts tp tv 13 17 S k = .inr (f, p) ∧ zr_see tn ts tp tv k lw (a + b + d) tk fl pl nm ns nu 3 = (0, tk, f, nI p) := by
  unfold zp_see zr_see
  rw [zr_isName_eq hw]
  by_cases h0 : zr_isName (ts k) zk_lw (tv k) = 0
  · rw [if_pos h0, if_pos h0]
    exact Or.inr ⟨1, tp k, rfl, rfl⟩
  · rw [if_neg h0, if_neg h0]
    have hv := h4 (zr_isName2 h0)
    have h17 : a + b + d ≤ 17 := by obtain ⟨h1, _⟩ := hN; omega
    rcases zr_nameAt_is (a + b + d) nm (tv k) with ⟨h1, h2⟩ | ⟨i, hi, h1, h2⟩
    · rw [h1, if_pos (by decide)]
      cases hz : zp_find S (tv k) with
      | none => exact Or.inr ⟨2, tp k, rfl, rfl⟩
      | some s =>
        exfalso
        obtain ⟨hs, hx⟩ := zp_find_some hz
        obtain ⟨⟨i, hi, hx2⟩, _⟩ := hN.2.2.1 s hs (by rw [hx]; exact hv)
        exact h2 i hi (by rw [hx2, hx])
    · rw [h1, if_neg (nI_pos (by omega)), nI_clamp (show i < 2 ^ 31 by omega)]
      have hN1 := hN.1
      rcases hN.2.1 i hi with ⟨hc, x, hx, hu, hS⟩ | ⟨hc, x, hx, hu, hS⟩ | ⟨hc, x, hx, hu, hS⟩
      · have hf := zp_findS hN (s := x) (by omega) (by rw [hS, h2]; exact hv)
        rw [hS, h2] at hf
        rw [hf, hc]
        rw [if_neg (by decide)]
        refine Or.inr ⟨2, tp k, ?_, rfl⟩
        show (if 13 ≤ x ∧ x < 17 then Sum.inl (x - 13) else _ : Nat ⊕ (Int32 × Nat)) = _
        rw [if_neg (by omega)]
      · have hf := zp_findS hN (s := 8 + x) (by omega) (by rw [hS, h2]; exact hv)
        rw [hS, h2] at hf
        rw [hf, hc]
        rw [if_neg (by decide)]
        refine Or.inr ⟨2, tp k, ?_, rfl⟩
        show (if 13 ≤ 8 + x ∧ 8 + x < 17 then Sum.inl (8 + x - 13) else _ : Nat ⊕ (Int32 × Nat)) = _
        rw [if_neg (by omega)]
      · have hf := zp_findS hN (s := 13 + x) (by omega) (by rw [hS, h2]; exact hv)
        rw [hS, h2] at hf
        rw [hf, hc]
        rw [if_pos rfl, hu]
        refine Or.inl ⟨x, ?_, hx, rfl⟩
        show (if 13 ≤ 13 + x ∧ 13 + x < 17 then Sum.inl (13 + x - 13) else _ : Nat ⊕ (Int32 × Nat)) = _
        rw [if_pos ⟨by omega, by omega⟩, show 13 + x - 13 = x by omega]
theorem zL_us {f : Nat → Int64} {i : Nat} {x : Int64} : vp_updL f i x i = x := if_pos rfl
theorem zL_un {f : Nat → Int64} {i j : Nat} {x : Int64} (h : j ≠ i) : vp_updL f i x j = f j := if_neg h
theorem zC_N_new1 {a b d : Nat} {nm : Nat → Int64} {ns nu : Nat → Int32} {S : Nat → Int64} {x0 : Int64} (hN : zC_N a b d nm ns nu S) (hc : a < 8) (hno : ∀ s, s < 17 → S s ≠ x0) (hv : x0 ≠ 0) : zC_N (a + 1) b d (vp_updL nm (a + b + d) x0) (upd ns (a + b + d) 1) (upd nu (a + b + d) (nI a)) (vp_updL S (a) x0) := by
  obtain ⟨h0, h1, h2, h3⟩ := hN
  have hS0 : S (a) = 0 := by
    rcases Classical.em (S (a) = 0) with z | z
    · exact z
    · have := (h2 (a) (by omega) z).2
      omega
  refine ⟨⟨by omega, by omega, by omega⟩, ?_, ?_, ?_⟩
  · intro i hi
    by_cases hin : i = a + b + d
    · subst hin
      refine Or.inl ⟨pk_us, a, by omega, pk_us, ?_⟩
      rw [zL_us, zL_us]
    · rw [pk_un hin, pk_un hin, zL_un hin]
      rcases h1 i (by omega) with ⟨q1, x, q2, q3, q4⟩ | ⟨q1, x, q2, q3, q4⟩ | ⟨q1, x, q2, q3, q4⟩
      · exact Or.inl ⟨q1, x, by omega, q3, by rw [zL_un (show x ≠ a by omega)]; exact q4⟩
      · exact Or.inr (Or.inl ⟨q1, x, by omega, q3, by rw [zL_un (show 8 + x ≠ a by omega)]; exact q4⟩)
      · exact Or.inr (Or.inr ⟨q1, x, by omega, q3, by rw [zL_un (show 13 + x ≠ a by omega)]; exact q4⟩)
  · intro s hs hz
    by_cases hss : s = a
    · exact ⟨⟨a + b + d, by omega, by rw [hss, zL_us, zL_us]⟩, by omega⟩
    · rw [zL_un hss] at hz ⊢
      obtain ⟨⟨i, hi, hx⟩, hr⟩ := h2 s hs hz
      exact ⟨⟨i, by omega, by rw [zL_un (show i ≠ a + b + d by omega)]; exact hx⟩, by omega⟩
  · intro s s' hs hs' hz he
    by_cases hss : s = a
    · by_cases hs2 : s' = a
      · omega
      · rw [hss, zL_us, zL_un hs2] at he
        exact absurd he.symm (hno s' hs')
    · by_cases hs2 : s' = a
      · rw [hs2, zL_us, zL_un hss] at he
        exact absurd he (hno s hs)
      · rw [zL_un hss] at hz he
        rw [zL_un hs2] at he
        exact h3 s s' hs hs' hz he
theorem zq_new1 {tn : Nat → Nat} {ts : Nat → Int32} {tp : Nat → Nat} {tv : Nat → Int64} {k a b d : Nat} {lw : Nat → Int64} {fl pl : Int32} {nm : Nat → Int64} {ns nu : Nat → Int32} {S : Nat → Int64} (hN : zC_N a b d nm ns nu S) (hw : ∀ j, j < 7 → lw j = zk_lw j) (h4 : ts k = 2 → tv k ≠ 0) (hc : a < 8) : (zp_new tn ts tp tv (a) S k = .inl (tn k, vp_updL S (a) (tv k)) ∧ zC_N (a + 1) b d (vp_updL nm (a + b + d) (tv k)) (upd ns (a + b + d) 1) (upd nu (a + b + d) (nI a)) (vp_updL S (a) (tv k)) ∧ zr_newName tn ts tp tv k lw (a + b + d) fl pl nm ns nu 1 (nI a) = (1, tn k, a + b + d + 1, fl, pl, vp_updL nm (a + b + d) (tv k), upd ns (a + b + d) 1, upd nu (a + b + d) (nI a))) ∨ ∃ f p, zp_new tn ts tp tv (a) S k = .inr (f, p) ∧ zr_newName tn ts tp tv k lw (a + b + d) fl pl nm ns nu 1 (nI a) = (0, k, a + b + d, f, nI p, nm, ns, nu) := by
  have hN1 := hN.1
  unfold zp_new zr_newName
  rw [zr_isName_eq hw]
  by_cases h0 : zr_isName (ts k) zk_lw (tv k) = 0
  · rw [if_pos h0, if_pos h0]
    exact Or.inr ⟨1, tp k, rfl, rfl⟩
  · rw [if_neg h0, if_neg h0]
    have hv := h4 (zr_isName2 h0)
    have h17 : a + b + d < 17 := by omega
    rcases zr_nameAt_is (a + b + d) nm (tv k) with ⟨h1, h2⟩ | ⟨i, hi, h1, h2⟩
    · rw [h1, if_pos (by decide), if_neg (show ¬ (Int32.ofNat 17 ≤ nI (a + b + d)) from nI_ge h17 (by decide))]
      have hno : ∀ s, s < 17 → S s ≠ tv k := by
        intro s hs hx
        obtain ⟨⟨i, hi, hx2⟩, _⟩ := hN.2.2.1 s hs (by rw [hx]; exact hv)
        exact h2 i hi (by rw [hx2, hx])
      cases hz : zp_find S (tv k) with
      | some s =>
        exfalso
        obtain ⟨hs, hx⟩ := zp_find_some hz
        exact hno s hs hx
      | none => exact Or.inl ⟨rfl, zC_N_new1 hN hc (hno) hv, rfl⟩
    · rw [h1, if_neg (nI_pos (by omega))]
      have hf : ∃ s, zp_find S (tv k) = some s := by
        rcases hN.2.1 i hi with ⟨_, x, hx, hu, hS⟩ | ⟨_, x, hx, hu, hS⟩ | ⟨_, x, hx, hu, hS⟩
        · exact ⟨_, by have hf := zp_findS hN (s := x) (by omega) (by rw [hS, h2]; exact hv); rw [hS, h2] at hf; exact hf⟩
        · exact ⟨_, by have hf := zp_findS hN (s := 8 + x) (by omega) (by rw [hS, h2]; exact hv); rw [hS, h2] at hf; exact hf⟩
        · exact ⟨_, by have hf := zp_findS hN (s := 13 + x) (by omega) (by rw [hS, h2]; exact hv); rw [hS, h2] at hf; exact hf⟩
      obtain ⟨s, hf⟩ := hf
      rw [hf]
      exact Or.inr ⟨3, tp k, rfl, rfl⟩
theorem zC_N_new2 {a b d : Nat} {nm : Nat → Int64} {ns nu : Nat → Int32} {S : Nat → Int64} {x0 : Int64} (hN : zC_N a b d nm ns nu S) (hc : b < 5) (hno : ∀ s, s < 17 → S s ≠ x0) (hv : x0 ≠ 0) : zC_N a (b + 1) d (vp_updL nm (a + b + d) x0) (upd ns (a + b + d) 2) (upd nu (a + b + d) (nI b)) (vp_updL S (8 + b) x0) := by
  obtain ⟨h0, h1, h2, h3⟩ := hN
  have hS0 : S (8 + b) = 0 := by
    rcases Classical.em (S (8 + b) = 0) with z | z
    · exact z
    · have := (h2 (8 + b) (by omega) z).2
      omega
  refine ⟨⟨by omega, by omega, by omega⟩, ?_, ?_, ?_⟩
  · intro i hi
    by_cases hin : i = a + b + d
    · subst hin
      refine Or.inr (Or.inl ⟨pk_us, b, by omega, pk_us, ?_⟩)
      rw [zL_us, zL_us]
    · rw [pk_un hin, pk_un hin, zL_un hin]
      rcases h1 i (by omega) with ⟨q1, x, q2, q3, q4⟩ | ⟨q1, x, q2, q3, q4⟩ | ⟨q1, x, q2, q3, q4⟩
      · exact Or.inl ⟨q1, x, by omega, q3, by rw [zL_un (show x ≠ 8 + b by omega)]; exact q4⟩
      · exact Or.inr (Or.inl ⟨q1, x, by omega, q3, by rw [zL_un (show 8 + x ≠ 8 + b by omega)]; exact q4⟩)
      · exact Or.inr (Or.inr ⟨q1, x, by omega, q3, by rw [zL_un (show 13 + x ≠ 8 + b by omega)]; exact q4⟩)
  · intro s hs hz
    by_cases hss : s = 8 + b
    · exact ⟨⟨a + b + d, by omega, by rw [hss, zL_us, zL_us]⟩, by omega⟩
    · rw [zL_un hss] at hz ⊢
      obtain ⟨⟨i, hi, hx⟩, hr⟩ := h2 s hs hz
      exact ⟨⟨i, by omega, by rw [zL_un (show i ≠ a + b + d by omega)]; exact hx⟩, by omega⟩
  · intro s s' hs hs' hz he
    by_cases hss : s = 8 + b
    · by_cases hs2 : s' = 8 + b
      · omega
      · rw [hss, zL_us, zL_un hs2] at he
        exact absurd he.symm (hno s' hs')
    · by_cases hs2 : s' = 8 + b
      · rw [hs2, zL_us, zL_un hss] at he
        exact absurd he (hno s hs)
      · rw [zL_un hss] at hz he
        rw [zL_un hs2] at he
        exact h3 s s' hs hs' hz he
theorem zq_new2 {tn : Nat → Nat} {ts : Nat → Int32} {tp : Nat → Nat} {tv : Nat → Int64} {k a b d : Nat} {lw : Nat → Int64} {fl pl : Int32} {nm : Nat → Int64} {ns nu : Nat → Int32} {S : Nat → Int64} (hN : zC_N a b d nm ns nu S) (hw : ∀ j, j < 7 → lw j = zk_lw j) (h4 : ts k = 2 → tv k ≠ 0) (hc : b < 5) : (zp_new tn ts tp tv (8 + b) S k = .inl (tn k, vp_updL S (8 + b) (tv k)) ∧ zC_N a (b + 1) d (vp_updL nm (a + b + d) (tv k)) (upd ns (a + b + d) 2) (upd nu (a + b + d) (nI b)) (vp_updL S (8 + b) (tv k)) ∧ zr_newName tn ts tp tv k lw (a + b + d) fl pl nm ns nu 2 (nI b) = (1, tn k, a + b + d + 1, fl, pl, vp_updL nm (a + b + d) (tv k), upd ns (a + b + d) 2, upd nu (a + b + d) (nI b))) ∨ ∃ f p, zp_new tn ts tp tv (8 + b) S k = .inr (f, p) ∧ zr_newName tn ts tp tv k lw (a + b + d) fl pl nm ns nu 2 (nI b) = (0, k, a + b + d, f, nI p, nm, ns, nu) := by
  have hN1 := hN.1
  unfold zp_new zr_newName
  rw [zr_isName_eq hw]
  by_cases h0 : zr_isName (ts k) zk_lw (tv k) = 0
  · rw [if_pos h0, if_pos h0]
    exact Or.inr ⟨1, tp k, rfl, rfl⟩
  · rw [if_neg h0, if_neg h0]
    have hv := h4 (zr_isName2 h0)
    have h17 : a + b + d < 17 := by omega
    rcases zr_nameAt_is (a + b + d) nm (tv k) with ⟨h1, h2⟩ | ⟨i, hi, h1, h2⟩
    · rw [h1, if_pos (by decide), if_neg (show ¬ (Int32.ofNat 17 ≤ nI (a + b + d)) from nI_ge h17 (by decide))]
      have hno : ∀ s, s < 17 → S s ≠ tv k := by
        intro s hs hx
        obtain ⟨⟨i, hi, hx2⟩, _⟩ := hN.2.2.1 s hs (by rw [hx]; exact hv)
        exact h2 i hi (by rw [hx2, hx])
      cases hz : zp_find S (tv k) with
      | some s =>
        exfalso
        obtain ⟨hs, hx⟩ := zp_find_some hz
        exact hno s hs hx
      | none => exact Or.inl ⟨rfl, zC_N_new2 hN hc (hno) hv, rfl⟩
    · rw [h1, if_neg (nI_pos (by omega))]
      have hf : ∃ s, zp_find S (tv k) = some s := by
        rcases hN.2.1 i hi with ⟨_, x, hx, hu, hS⟩ | ⟨_, x, hx, hu, hS⟩ | ⟨_, x, hx, hu, hS⟩
        · exact ⟨_, by have hf := zp_findS hN (s := x) (by omega) (by rw [hS, h2]; exact hv); rw [hS, h2] at hf; exact hf⟩
        · exact ⟨_, by have hf := zp_findS hN (s := 8 + x) (by omega) (by rw [hS, h2]; exact hv); rw [hS, h2] at hf; exact hf⟩
        · exact ⟨_, by have hf := zp_findS hN (s := 13 + x) (by omega) (by rw [hS, h2]; exact hv); rw [hS, h2] at hf; exact hf⟩
      obtain ⟨s, hf⟩ := hf
      rw [hf]
      exact Or.inr ⟨3, tp k, rfl, rfl⟩
theorem zC_N_new3 {a b d : Nat} {nm : Nat → Int64} {ns nu : Nat → Int32} {S : Nat → Int64} {x0 : Int64} (hN : zC_N a b d nm ns nu S) (hc : d < 4) (hno : ∀ s, s < 17 → S s ≠ x0) (hv : x0 ≠ 0) : zC_N a b (d + 1) (vp_updL nm (a + b + d) x0) (upd ns (a + b + d) 3) (upd nu (a + b + d) (nI d)) (vp_updL S (13 + d) x0) := by
  obtain ⟨h0, h1, h2, h3⟩ := hN
  have hS0 : S (13 + d) = 0 := by
    rcases Classical.em (S (13 + d) = 0) with z | z
    · exact z
    · have := (h2 (13 + d) (by omega) z).2
      omega
  refine ⟨⟨by omega, by omega, by omega⟩, ?_, ?_, ?_⟩
  · intro i hi
    by_cases hin : i = a + b + d
    · subst hin
      refine Or.inr (Or.inr ⟨pk_us, d, by omega, pk_us, ?_⟩)
      rw [zL_us, zL_us]
    · rw [pk_un hin, pk_un hin, zL_un hin]
      rcases h1 i (by omega) with ⟨q1, x, q2, q3, q4⟩ | ⟨q1, x, q2, q3, q4⟩ | ⟨q1, x, q2, q3, q4⟩
      · exact Or.inl ⟨q1, x, by omega, q3, by rw [zL_un (show x ≠ 13 + d by omega)]; exact q4⟩
      · exact Or.inr (Or.inl ⟨q1, x, by omega, q3, by rw [zL_un (show 8 + x ≠ 13 + d by omega)]; exact q4⟩)
      · exact Or.inr (Or.inr ⟨q1, x, by omega, q3, by rw [zL_un (show 13 + x ≠ 13 + d by omega)]; exact q4⟩)
  · intro s hs hz
    by_cases hss : s = 13 + d
    · exact ⟨⟨a + b + d, by omega, by rw [hss, zL_us, zL_us]⟩, by omega⟩
    · rw [zL_un hss] at hz ⊢
      obtain ⟨⟨i, hi, hx⟩, hr⟩ := h2 s hs hz
      exact ⟨⟨i, by omega, by rw [zL_un (show i ≠ a + b + d by omega)]; exact hx⟩, by omega⟩
  · intro s s' hs hs' hz he
    by_cases hss : s = 13 + d
    · by_cases hs2 : s' = 13 + d
      · omega
      · rw [hss, zL_us, zL_un hs2] at he
        exact absurd he.symm (hno s' hs')
    · by_cases hs2 : s' = 13 + d
      · rw [hs2, zL_us, zL_un hss] at he
        exact absurd he (hno s hs)
      · rw [zL_un hss] at hz he
        rw [zL_un hs2] at he
        exact h3 s s' hs hs' hz he
theorem zq_new3 {tn : Nat → Nat} {ts : Nat → Int32} {tp : Nat → Nat} {tv : Nat → Int64} {k a b d : Nat} {lw : Nat → Int64} {fl pl : Int32} {nm : Nat → Int64} {ns nu : Nat → Int32} {S : Nat → Int64} (hN : zC_N a b d nm ns nu S) (hw : ∀ j, j < 7 → lw j = zk_lw j) (h4 : ts k = 2 → tv k ≠ 0) (hc : d < 4) : (zp_new tn ts tp tv (13 + d) S k = .inl (tn k, vp_updL S (13 + d) (tv k)) ∧ zC_N a b (d + 1) (vp_updL nm (a + b + d) (tv k)) (upd ns (a + b + d) 3) (upd nu (a + b + d) (nI d)) (vp_updL S (13 + d) (tv k)) ∧ zr_newName tn ts tp tv k lw (a + b + d) fl pl nm ns nu 3 (nI d) = (1, tn k, a + b + d + 1, fl, pl, vp_updL nm (a + b + d) (tv k), upd ns (a + b + d) 3, upd nu (a + b + d) (nI d))) ∨ ∃ f p, zp_new tn ts tp tv (13 + d) S k = .inr (f, p) ∧ zr_newName tn ts tp tv k lw (a + b + d) fl pl nm ns nu 3 (nI d) = (0, k, a + b + d, f, nI p, nm, ns, nu) := by
  have hN1 := hN.1
  unfold zp_new zr_newName
  rw [zr_isName_eq hw]
  by_cases h0 : zr_isName (ts k) zk_lw (tv k) = 0
  · rw [if_pos h0, if_pos h0]
    exact Or.inr ⟨1, tp k, rfl, rfl⟩
  · rw [if_neg h0, if_neg h0]
    have hv := h4 (zr_isName2 h0)
    have h17 : a + b + d < 17 := by omega
    rcases zr_nameAt_is (a + b + d) nm (tv k) with ⟨h1, h2⟩ | ⟨i, hi, h1, h2⟩
    · rw [h1, if_pos (by decide), if_neg (show ¬ (Int32.ofNat 17 ≤ nI (a + b + d)) from nI_ge h17 (by decide))]
      have hno : ∀ s, s < 17 → S s ≠ tv k := by
        intro s hs hx
        obtain ⟨⟨i, hi, hx2⟩, _⟩ := hN.2.2.1 s hs (by rw [hx]; exact hv)
        exact h2 i hi (by rw [hx2, hx])
      cases hz : zp_find S (tv k) with
      | some s =>
        exfalso
        obtain ⟨hs, hx⟩ := zp_find_some hz
        exact hno s hs hx
      | none => exact Or.inl ⟨rfl, zC_N_new3 hN hc (hno) hv, rfl⟩
    · rw [h1, if_neg (nI_pos (by omega))]
      have hf : ∃ s, zp_find S (tv k) = some s := by
        rcases hN.2.1 i hi with ⟨_, x, hx, hu, hS⟩ | ⟨_, x, hx, hu, hS⟩ | ⟨_, x, hx, hu, hS⟩
        · exact ⟨_, by have hf := zp_findS hN (s := x) (by omega) (by rw [hS, h2]; exact hv); rw [hS, h2] at hf; exact hf⟩
        · exact ⟨_, by have hf := zp_findS hN (s := 8 + x) (by omega) (by rw [hS, h2]; exact hv); rw [hS, h2] at hf; exact hf⟩
        · exact ⟨_, by have hf := zp_findS hN (s := 13 + x) (by omega) (by rw [hS, h2]; exact hv); rw [hS, h2] at hf; exact hf⟩
      obtain ⟨s, hf⟩ := hf
      rw [hf]
      exact Or.inr ⟨3, tp k, rfl, rfl⟩
