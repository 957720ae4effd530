/-! bits (the family bt is pasted from kit/laws/BITS.to-paste) -/
def bt (x : Int32) (i : Nat) : Bool := x.toBitVec.getLsbD i
theorem b_ext {x y : Int32} (h : ∀ i, i < 32 → bt x i = bt y i) : x = y := Int32.toBitVec_inj.mp (BitVec.eq_of_getLsbD_eq (fun i hi => h i hi))
theorem b_or (x y : Int32) (i : Nat) : bt (x ||| y) i = (bt x i || bt y i) := by unfold bt; rw [Int32.toBitVec_or, BitVec.getLsbD_or]
theorem b_and (x y : Int32) (i : Nat) : bt (x &&& y) i = (bt x i && bt y i) := by unfold bt; rw [Int32.toBitVec_and, BitVec.getLsbD_and]
theorem b_xor (x y : Int32) (i : Nat) : bt (x ^^^ y) i = (bt x i ^^ bt y i) := by unfold bt; rw [Int32.toBitVec_xor, BitVec.getLsbD_xor]
theorem b_big {x : Int32} {i : Nat} (h : 32 ≤ i) : bt x i = false := BitVec.getLsbD_of_ge _ _ h
theorem b_255 (i : Nat) : bt 255 i = decide (i < 8) := by
  rcases Nat.lt_or_ge i 32 with h | h
  · exact (by decide +kernel : ∀ i, i < 32 → bt 255 i = decide (i < 8)) i h
  · rw [b_big h, decide_eq_false (by omega)]
theorem b_65535 (i : Nat) : bt 65535 i = decide (i < 16) := by
  rcases Nat.lt_or_ge i 32 with h | h
  · exact (by decide +kernel : ∀ i, i < 32 → bt 65535 i = decide (i < 16)) i h
  · rw [b_big h, decide_eq_false (by omega)]
theorem b_m1 : ∀ i, i < 32 → bt (-1) i = true := by decide +kernel
theorem b_0 (i : Nat) : bt 0 i = false := BitVec.getLsbD_zero
theorem s_l : ∀ n, n < 32 → ((nI n &&& 31).toBitVec.smod 32).toNat = n := by decide +kernel
theorem s_u : ∀ n, n < 32 → (((nI n).toUInt32 &&& Int32.toUInt32 31).toBitVec % 32).toNat = n := by decide +kernel
theorem b_shl (n : Nat) (hn : n < 32) (x : Int32) {i : Nat} (hi : i < 32) : bt (x <<< (nI n &&& 31)) i = (decide (n ≤ i) && bt x (i - n)) := by
  unfold bt
  rw [Int32.toBitVec_shiftLeft]
  show (x.toBitVec <<< ((nI n &&& 31).toBitVec.smod 32).toNat).getLsbD i = _
  rw [s_l n hn, BitVec.getLsbD_shiftLeft]
  rcases Nat.lt_or_ge i n with h | h
  · simp [h, Nat.not_le.mpr h]
  · simp [hi, h, Nat.not_lt.mpr h]
theorem b_ushr (n : Nat) (hn : n < 32) (x : Int32) (i : Nat) : bt ((x.toUInt32 >>> ((nI n).toUInt32 &&& Int32.toUInt32 31)).toInt32) i = bt x (n + i) := by
  show (x.toUInt32 >>> ((nI n).toUInt32 &&& Int32.toUInt32 31)).toBitVec.getLsbD i = x.toUInt32.toBitVec.getLsbD (n + i)
  rw [UInt32.toBitVec_shiftRight]
  show (x.toUInt32.toBitVec >>> (((nI n).toUInt32 &&& Int32.toUInt32 31).toBitVec % 32).toNat).getLsbD i = _
  rw [s_u n hn, BitVec.getLsbD_ushiftRight]
theorem b_sshr (n : Nat) (hn : n < 32) (x : Int32) {i : Nat} (hi : i < 32) : bt (x >>> (nI n &&& 31)) i = if n + i < 32 then bt x (n + i) else bt x 31 := by
  unfold bt
  rw [Int32.toBitVec_shiftRight]
  show (x.toBitVec.sshiftRight ((nI n &&& 31).toBitVec.smod 32).toNat).getLsbD i = _
  rw [s_l n hn, BitVec.getLsbD_sshiftRight, BitVec.msb_eq_getLsbD_last]
  simp [hi]
theorem zt_one {j i : Nat} (hj : j < 32) (hi : i < 32) : bt ((1 : Int32) <<< (nI j &&& 31)) i = decide (i = j) := by
  rw [b_shl j hj _ hi]
  by_cases h : i = j
  · subst h
    rw [Nat.sub_self, decide_eq_true (Nat.le_refl _), decide_eq_true rfl]
    rfl
  · rw [decide_eq_false h]
    by_cases h2 : j ≤ i
    · rw [decide_eq_true h2, Bool.true_and]
      exact (by decide +kernel : ∀ k, k < 32 → ¬ k = 0 → bt 1 k = false) (i - j) (by omega) (by omega)
    · rw [decide_eq_false h2, Bool.false_and]
theorem zt_1 {i : Nat} (hi : i < 32) : bt 1 i = decide (i = 0) := (by decide +kernel : ∀ k, k < 32 → bt 1 k = decide (k = 0)) i hi
/-- a bit, shifted down -/
theorem zt_sh (x : Int32) {j : Nat} (hj : j < 32) : (x >>> (nI j &&& 31)) &&& 1 = if bt x j = true then 1 else 0 := by
  apply b_ext
  intro i hi
  rw [b_and, b_sshr j hj x hi, zt_1 hi]
  by_cases h : i = 0
  · subst h
    rw [decide_eq_true rfl, Bool.and_true, Nat.add_zero, if_pos hj]
    by_cases hb : bt x j = true
    · rw [if_pos hb, hb]; rfl
    · rw [if_neg hb, Bool.eq_false_iff.mpr hb]; rfl
  · rw [decide_eq_false h, Bool.and_false]
    split
    · rw [zt_1 hi, decide_eq_false h]
    · rw [b_0]
theorem zt_hb (x : Int32) {j : Nat} (hj : j < 32) : zr_mhasBit x (nI j) = if bt x j = true then 1 else 0 := by
  unfold zr_mhasBit
  rw [zt_sh x hj]
  by_cases hb : bt x j = true
  · rw [if_pos hb, if_pos rfl]
  · rw [if_neg hb, if_neg (by decide)]
theorem zt_hb0 (x : Int32) {j : Nat} (hj : j < 32) : zr_mhasBit x (nI j) = 0 ↔ bt x j = false := by
  rw [zt_hb x hj]
  by_cases hb : bt x j = true
  · rw [if_pos hb, hb]
    exact ⟨fun h => absurd h (by decide), fun h => absurd h (by decide)⟩
  · rw [if_neg hb]
    exact ⟨fun _ => Bool.eq_false_iff.mpr hb, fun _ => rfl⟩
theorem zt_il (x : Int32) {j : Nat} (hj : j < 32) : zr_isLost x (nI j) = if bt x j = true then 1 else 0 := by
  unfold zr_isLost
  rw [zt_sh x hj]
  by_cases hb : bt x j = true
  · rw [if_pos hb, if_neg (by decide)]
  · rw [if_neg hb, if_pos rfl]
theorem zt_il0 (x : Int32) {j : Nat} (hj : j < 32) : zr_isLost x (nI j) = 0 ↔ bt x j = false := by
  rw [zt_il x hj]
  by_cases hb : bt x j = true
  · rw [if_pos hb, hb]
    exact ⟨fun h => absurd h (by decide), fun h => absurd h (by decide)⟩
  · rw [if_neg hb]
    exact ⟨fun _ => Bool.eq_false_iff.mpr hb, fun _ => rfl⟩
theorem zt_z {x : Int32} : x = 0 ↔ ∀ i, i < 32 → bt x i = false := ⟨fun h i _ => by rw [h]; exact b_0 i, fun h => b_ext (fun i hi => by rw [h i hi, b_0])⟩
theorem zt_an (x y : Int32) {j : Nat} (hj : j < 32) : x &&& (y &&& ((1 : Int32) <<< (nI j &&& 31))) = 0 ↔ (bt x j && bt y j) = false := by
  rw [zt_z]
  constructor
  · intro h
    have h1 := h j hj
    rw [b_and, b_and, zt_one hj hj, decide_eq_true rfl, Bool.and_true] at h1
    exact h1
  · intro h i hi
    rw [b_and, b_and, zt_one hj hi]
    by_cases e : i = j
    · subst e
      rw [decide_eq_true rfl, Bool.and_true]
      exact h
    · rw [decide_eq_false e, Bool.and_false, Bool.and_false]
theorem zt_or1 (x : Int32) {j i : Nat} (hj : j < 32) (hi : i < 32) : bt (x ||| ((1 : Int32) <<< (nI j &&& 31))) i = (bt x i || decide (i = j)) := by
  rw [b_or, zt_one hj hi]
theorem zt_clr (x : Int32) {j i : Nat} (hj : j < 32) (hi : i < 32) : bt (x ^^^ (x &&& ((1 : Int32) <<< (nI j &&& 31)))) i = (bt x i && !(decide (i = j))) := by
  rw [b_xor, b_and, zt_one hj hi]
  by_cases e : i = j
  · rw [decide_eq_true e]; cases bt x i <;> rfl
  · rw [decide_eq_false e]; cases bt x i <;> rfl
theorem zf_succ {σ : Type} (G : Nat → σ → σ) (n i : Nat) (s : σ) : zf G (n + 1) i s = zf G n (i + 1) (G i s) := rfl
theorem zf_zero {σ : Type} (G : Nat → σ → σ) (i : Nat) (s : σ) : zf G 0 i s = s := rfl
/-- the last round apart -/
theorem zf_last {σ : Type} (G : Nat → σ → σ) : ∀ (n i : Nat) (s : σ), zf G (n + 1) i s = G (i + n) (zf G n i s)
  | 0, i, s => rfl
  | n + 1, i, s => by
    rw [zf_succ, zf_last G n (i + 1) (G i s), show i + 1 + n = i + (n + 1) by omega]
    rfl
/-- equal rounds -/
theorem zf_congr {σ : Type} {G H : Nat → σ → σ} : ∀ (n i : Nat) (s : σ), (∀ j s, i ≤ j → j < i + n → G j s = H j s) → zf G n i s = zf H n i s
  | 0, i, s, _ => rfl
  | n + 1, i, s, h => by
    rw [zf_succ, zf_succ, h i s (Nat.le_refl _) (by omega)]
    exact zf_congr n (i + 1) _ (fun j s a b => h j s (by omega) (by omega))
/-- two loops side by side -/
theorem zf_rel {σ τ : Type} {G : Nat → σ → σ} {H : Nat → τ → τ} {P : Nat → σ → τ → Prop} : ∀ (n i : Nat) (s : σ) (t : τ), P i s t → (∀ j s t, i ≤ j → j < i + n → P j s t → P (j + 1) (G j s) (H j t)) → P (i + n) (zf G n i s) (zf H n i t)
  | 0, i, s, t, h, _ => h
  | n + 1, i, s, t, h, hs => by
    rw [zf_succ, zf_succ, show i + (n + 1) = i + 1 + n by omega]
    exact zf_rel n (i + 1) _ _ (hs i s t (Nat.le_refl _) (by omega) h) (fun j s t a b c => hs j s t (by omega) (by omega) c)
/-- what holds of a loop's state, by its count -/
theorem zf_ind {σ : Type} {G : Nat → σ → σ} {P : Nat → σ → Prop} : ∀ (n i : Nat) (s : σ), P i s → (∀ j s, i ≤ j → j < i + n → P j s → P (j + 1) (G j s)) → P (i + n) (zf G n i s)
  | 0, i, s, h, _ => h
  | n + 1, i, s, h, hs => by
    rw [zf_succ, show i + (n + 1) = i + 1 + n by omega]
    exact zf_ind n (i + 1) _ (hs i s (Nat.le_refl _) (by omega) h) (fun j s a b c => hs j s (by omega) (by omega) c)
/-! one good's way through the years: alive, the year and the danger of its end, when its basket is worn, what it still lasts, what it kept out -/
abbrev zg_C : Type := Bool × Int32 × Int32 × Int32 × Int32 × Int32
def zg_d (i fe ou : Int32) (d : Nat) (c : zg_C) : zg_C := match c with
  | (false, x) => (false, x)
  | (true, la, lt, wo, ls, kp) => if ¬ ls ≤ 0 ∧ bt ou d = true then (true, la, lt, (if ls - 1 = 0 then i else wo), ls - 1, kp + 1) else if bt fe d = true then (false, i, nI d, wo, ls, kp) else (true, la, lt, wo, ls, kp)
def zg_s (sk i fe ou : Int32) (d : Nat) (c : zg_C) : zg_C := if bt sk d = true then zg_d i fe ou d c else c
def zg_y (sk i fe ou : Int32) (c : zg_C) : zg_C := zf (zg_s sk i fe ou) 8 0 c
def zg_n (sk : Nat → Int32) (yg fe od ev : Int32) (j : Nat) (c : zg_C) : zg_C := zg_y (sk j) (nI j) fe (if ((yg + (nI j)) - (yg + (nI j)) / 2 * 2) = 0 then ev else od) c
def zg_z (c : zg_C) : Int32 × Int32 × Int32 × Int32 × Int32 × Int32 := (if c.1 = true then 1 else 0, c.2)
theorem zg_s_dead (sk i fe ou : Int32) (d : Nat) (x : Int32 × Int32 × Int32 × Int32 × Int32) : zg_s sk i fe ou d (false, x) = (false, x) := by
  unfold zg_s
  split <;> rfl
theorem zg_f_dead (sk i fe ou : Int32) (x : Int32 × Int32 × Int32 × Int32 × Int32) : ∀ n j, zf (zg_s sk i fe ou) n j (false, x) = (false, x)
  | 0, _ => rfl
  | n + 1, j => by rw [zf_succ, zg_s_dead, zg_f_dead sk i fe ou x n]
theorem zg_f_still {sk i fe ou : Int32} (c : zg_C) : ∀ n j, (∀ d, j ≤ d → d < j + n → bt sk d = false) → zf (zg_s sk i fe ou) n j c = c
  | 0, _, _ => rfl
  | n + 1, j, h => by
    rw [zf_succ]
    have e : zg_s sk i fe ou j c = c := by
      unfold zg_s
      rw [if_neg (by rw [h j (Nat.le_refl _) (by omega)]; decide)]
    rw [e]
    exact zg_f_still c n (j + 1) (fun d a b => h d (by omega) (by omega))
/-- as long as a basket lasts it isn't worn -/
def zg_I (c : zg_C) : Prop := ¬ c.2.2.2.2.1 ≤ 0 → c.2.2.2.1 = -2
theorem zg_d_I {i fe ou : Int32} {d : Nat} {c : zg_C} (h : zg_I c) : zg_I (zg_d i fe ou d c) := by
  obtain ⟨al, la, lt, wo, ls, kp⟩ := c
  cases al with
  | false => exact h
  | true =>
    unfold zg_d
    dsimp only
    split
    · rename_i hc
      intro hh
      have hh : ¬ ls - 1 ≤ 0 := hh
      show (if ls - 1 = 0 then i else wo) = -2
      rw [if_neg (fun z => hh (by rw [z]; decide))]
      exact h hc.1
    · split
      · exact h
      · exact h
theorem zg_s_I {sk i fe ou : Int32} {d : Nat} {c : zg_C} (h : zg_I c) : zg_I (zg_s sk i fe ou d c) := by
  unfold zg_s
  split
  · exact zg_d_I h
  · exact h
theorem zg_f_I {sk i fe ou : Int32} {c : zg_C} (n j : Nat) (h : zg_I c) : zg_I (zf (zg_s sk i fe ou) n j c) := zf_ind (P := fun _ c => zg_I c) n j c h (fun _ _ _ _ hc => zg_s_I hc)
theorem zg_y_I {sk i fe ou : Int32} {c : zg_C} (h : zg_I c) : zg_I (zg_y sk i fe ou c) := zg_f_I 8 0 h
theorem zt_dec {x : Int32} (h : ¬ x ≤ 0) : x - 1 ≤ 0 ↔ x - 1 = 0 := by
  have h0 : (0 : Int32) < x := Int32.not_le.mp h
  have h1 : (0 : Int32).toInt < x.toInt := Int32.lt_iff_toInt_lt.mp h0
  have h2 : (0 : Int32).toInt = 0 := rfl
  obtain ⟨k, hk, rfl⟩ := nI_of (show ¬ x < 0 from fun z => by have := Int32.lt_iff_toInt_lt.mp z; omega)
  have hk1 : 0 < k := by
    rcases Nat.eq_zero_or_pos k with e | e
    · subst e; exact absurd (show nI 0 ≤ 0 by decide) h
    · exact e
  obtain ⟨m, rfl⟩ : ∃ m, k = m + 1 := ⟨k - 1, by omega⟩
  rw [nI_pred]
  constructor
  · intro z
    rcases Nat.eq_zero_or_pos m with e | e
    · subst e; rfl
    · exact absurd z (nI_nle e (by omega))
  · intro z
    rw [z]; decide
/-- a year of the class's walk -/
theorem zg_oy {sk la lt i hi fe ou : Int32} (hhi : ∀ d, d < 32 → bt hi d = (bt sk d && (bt fe d || bt ou d))) : ∀ (n j : Nat) (wo ls kp : Int32), j + n ≤ 8 → (¬ ls ≤ 0 → wo = -2) →
    (match zfr (zl_oyG la lt i hi fe ou) n j (wo, ls, kp) with | .inl s => (1, la, lt, s.1, s.2.1, s.2.2) | .inr r => r) = zg_z (zf (zg_s sk i fe ou) n j (true, la, lt, wo, ls, kp))
  | 0, j, wo, ls, kp, _, _ => rfl
  | n + 1, j, wo, ls, kp, hn, hw => by
    have hj : j < 32 := by omega
    have ih := fun wo ls kp => zg_oy (sk := sk) (la := la) (lt := lt) (i := i) (hi := hi) (fe := fe) (ou := ou) hhi n (j + 1) wo ls kp (by omega)
    have eF : (fe &&& (hi &&& ((1 : Int32) <<< (nI j &&& 31))) = 0) ↔ (bt fe j && (bt sk j && (bt fe j || bt ou j))) = false := by rw [zt_an fe hi hj, hhi j hj]
    have eO : (ou &&& (hi &&& ((1 : Int32) <<< (nI j &&& 31))) = 0) ↔ (bt ou j && (bt sk j && (bt fe j || bt ou j))) = false := by rw [zt_an ou hi hj, hhi j hj]
    rw [zf_succ]
    unfold zfr
    by_cases hb : bt sk j = true
    · have e1 : zg_s sk i fe ou j (true, la, lt, wo, ls, kp) = zg_d i fe ou j (true, la, lt, wo, ls, kp) := by
        unfold zg_s
        rw [if_pos hb]
      have eF2 : (fe &&& (hi &&& ((1 : Int32) <<< (nI j &&& 31))) = 0) ↔ bt fe j = false := by rw [eF, hb]; cases bt fe j <;> cases bt ou j <;> decide
      have eO2 : (ou &&& (hi &&& ((1 : Int32) <<< (nI j &&& 31))) = 0) ↔ bt ou j = false := by rw [eO, hb]; cases bt fe j <;> cases bt ou j <;> decide
      rw [e1]
      unfold zl_oyG zg_d
      dsimp only
      by_cases hl : ls ≤ 0
      · rw [if_pos hl, if_neg (show ¬ (¬ ls ≤ 0 ∧ bt ou j = true) from fun z => z.1 hl)]
        by_cases hf : bt fe j = true
        · rw [if_neg (fun z => by rw [eF2.mp z] at hf; cases hf), if_pos hf, zg_f_dead]
          rfl
        · rw [if_pos (eF2.mpr (Bool.eq_false_iff.mpr hf)), if_neg hf]
          exact ih wo ls kp hw
      · rw [if_neg hl]
        by_cases ho : bt ou j = true
        · rw [if_neg (show ¬ (ou &&& (hi &&& ((1 : Int32) <<< (nI j &&& 31))) = 0) from fun z => by rw [eO2.mp z] at ho; cases ho), if_pos (show ¬ ls ≤ 0 ∧ bt ou j = true from ⟨hl, ho⟩)]
          by_cases h1 : ls - 1 ≤ 0
          · rw [if_pos h1, if_pos ((zt_dec hl).mp h1)]
            exact ih i (ls - 1) (kp + 1) (fun z => absurd h1 z)
          · rw [if_neg h1, if_neg (fun z => h1 ((zt_dec hl).mpr z)), hw hl]
            exact ih (-2) (ls - 1) (kp + 1) (fun _ => rfl)
        · rw [if_pos (eO2.mpr (Bool.eq_false_iff.mpr ho)), if_neg (show ¬ (¬ ls ≤ 0 ∧ bt ou j = true) from fun z => ho z.2)]
          by_cases hf : bt fe j = true
          · rw [if_neg (fun z => by rw [eF2.mp z] at hf; cases hf), if_pos hf, zg_f_dead]
            rfl
          · rw [if_pos (eF2.mpr (Bool.eq_false_iff.mpr hf)), if_neg hf]
            exact ih wo ls kp hw
    · have hb0 : bt sk j = false := Bool.eq_false_iff.mpr hb
      have eF2 : fe &&& (hi &&& ((1 : Int32) <<< (nI j &&& 31))) = 0 := by rw [eF, hb0, Bool.false_and, Bool.and_false]
      have eO2 : ou &&& (hi &&& ((1 : Int32) <<< (nI j &&& 31))) = 0 := by rw [eO, hb0, Bool.false_and, Bool.and_false]
      have e1 : zg_s sk i fe ou j (true, la, lt, wo, ls, kp) = (true, la, lt, wo, ls, kp) := by
        unfold zg_s
        rw [if_neg hb]
      rw [e1]
      unfold zl_oyG
      simp only [if_pos eF2, if_pos eO2, ite_self]
      exact ih wo ls kp hw
theorem zg_oy8 (sk la lt wo ls kp : Int32) (y : Nat) (fe ou : Int32) (hw : ¬ ls ≤ 0 → wo = -2) : zr_oy la lt wo ls kp y (sk &&& (fe ||| ou)) fe ou = zg_z (zg_y sk (nI y) fe ou (true, la, lt, wo, ls, kp)) := by
  unfold zr_oy zg_y
  exact zg_oy (fun d _ => by rw [b_and, b_or]) 8 0 wo ls kp (by omega) hw
/-- what neither is feared nor kept out does nothing -/
theorem zg_y0' {sk i fe ou : Int32} (h : sk &&& (fe ||| ou) = 0) (x : Int32 × Int32 × Int32 × Int32 × Int32) : zg_y sk i fe ou (true, x) = (true, x) := by
  have hb : ∀ d, d < 32 → (bt sk d && (bt fe d || bt ou d)) = false := fun d hd => by
    have := zt_z.mp h d hd
    rw [b_and, b_or] at this
    exact this
  have e := zf_ind (G := zg_s sk i fe ou) (P := fun _ c => c = (true, x)) 8 0 (true, x) rfl (fun j c _ hj hc => ?_)
  · exact e
  · subst hc
    obtain ⟨la, lt, wo, ls, kp⟩ := x
    have h8 := hb j (by omega)
    unfold zg_s
    by_cases hs : bt sk j = true
    · rw [if_pos hs]
      rw [hs, Bool.true_and, Bool.or_eq_false_iff] at h8
      unfold zg_d
      dsimp only
      rw [if_neg (fun z => by rw [h8.2] at z; exact absurd z.2 (by decide)), if_neg (by rw [h8.1]; decide)]
    · rw [if_neg hs]
theorem zg_y0 (i fe ou : Int32) (c : zg_C) : zg_y 0 i fe ou c = c := zg_f_still c 8 0 (fun d _ _ => b_0 d)
theorem zg_n_dead (sk : Nat → Int32) (yg fe od ev : Int32) (x : Int32 × Int32 × Int32 × Int32 × Int32) : ∀ n j, zf (zg_n sk yg fe od ev) n j (false, x) = (false, x)
  | 0, _ => rfl
  | n + 1, j => by
    rw [zf_succ]
    have e : zg_n sk yg fe od ev j (false, x) = (false, x) := zg_f_dead _ _ _ _ x 8 0
    rw [e]
    exact zg_n_dead sk yg fe od ev x n (j + 1)
theorem zg_fo {sk : Nat → Int32} {yg fe od ev : Int32} : ∀ (n j : Nat) (la lt wo ls kp : Int32), (¬ ls ≤ 0 → wo = -2) →
    (match zfr (zl_followG sk yg fe od ev) n j (la, lt, wo, ls, kp) with | .inl s => (1, s.1, s.2.1, s.2.2.1, s.2.2.2.1, s.2.2.2.2) | .inr r => r) = zg_z (zf (zg_n sk yg fe od ev) n j (true, la, lt, wo, ls, kp))
  | 0, j, la, lt, wo, ls, kp, _ => rfl
  | n + 1, j, la, lt, wo, ls, kp, hw => by
    rw [zf_succ]
    have key : ∀ ou, (if ((yg + (nI j)) - (yg + (nI j)) / 2 * 2) = 0 then ev else od) = ou → zl_followG sk yg fe od ev j (la, lt, wo, ls, kp) = (if sk j &&& (fe ||| ou) = 0 then .inl (la, lt, wo, ls, kp) else if (zg_z (zg_y (sk j) (nI j) fe ou (true, la, lt, wo, ls, kp))).1 = 0 then .inr (0, (zg_z (zg_y (sk j) (nI j) fe ou (true, la, lt, wo, ls, kp))).2) else .inl ((zg_z (zg_y (sk j) (nI j) fe ou (true, la, lt, wo, ls, kp))).2) : (Int32 × Int32 × Int32 × Int32 × Int32) ⊕ Int32 × Int32 × Int32 × Int32 × Int32 × Int32) →
      (match zfr (zl_followG sk yg fe od ev) (n + 1) j (la, lt, wo, ls, kp) with | .inl s => (1, s.1, s.2.1, s.2.2.1, s.2.2.2.1, s.2.2.2.2) | .inr r => r) = zg_z (zf (zg_n sk yg fe od ev) n (j + 1) (zg_n sk yg fe od ev j (true, la, lt, wo, ls, kp))) := by
      intro ou hou hG
      have e1 : zg_n sk yg fe od ev j (true, la, lt, wo, ls, kp) = zg_y (sk j) (nI j) fe ou (true, la, lt, wo, ls, kp) := by
        unfold zg_n
        rw [hou]
      rw [e1]
      unfold zfr
      rw [hG]
      by_cases h0 : sk j &&& (fe ||| ou) = 0
      · rw [if_pos h0, zg_y0' h0]
        exact zg_fo n (j + 1) la lt wo ls kp hw
      · rw [if_neg h0]
        have hI : zg_I (zg_y (sk j) (nI j) fe ou (true, la, lt, wo, ls, kp)) := zg_y_I hw
        generalize zg_y (sk j) (nI j) fe ou (true, la, lt, wo, ls, kp) = c at hI ⊢
        obtain ⟨al, la', lt', wo', ls', kp'⟩ := c
        cases al with
        | true =>
          rw [if_neg (show ¬ (zg_z (true, la', lt', wo', ls', kp')).1 = 0 from (by decide : ¬ (1 : Int32) = 0))]
          exact zg_fo n (j + 1) la' lt' wo' ls' kp' hI
        | false =>
          rw [if_pos (show (zg_z (false, la', lt', wo', ls', kp')).1 = 0 from rfl), zg_n_dead]
          rfl
    by_cases hp : ((yg + (nI j)) - (yg + (nI j)) / 2 * 2) = 0
    · refine key ev (if_pos hp) ?_
      unfold zl_followG
      simp only [zg_oy8 _ _ _ _ _ _ _ _ _ hw, if_pos hp]
    · refine key od (if_neg hp) ?_
      unfold zl_followG
      simp only [zg_oy8 _ _ _ _ _ _ _ _ _ hw, if_neg hp]
/-- the class's walk with a good -/
theorem zg_follow (sk : Nat → Int32) (yg : Int32) (sp : Nat) (fe l0 od ev : Int32) : zr_follow sk yg sp fe l0 od ev = zg_z (zf (zg_n sk yg fe od ev) sp 1 (true, -2, -2, (if l0 ≤ 0 then 0 else -2), l0, 0)) := by
  unfold zr_follow
  split
  · rename_i h
    exact zg_fo sp 1 _ _ _ _ _ (fun z => absurd h z)
  · exact zg_fo sp 1 _ _ _ _ _ (fun _ => rfl)
