/-! the sets that fit, on both sides -/
theorem zfr_last {σ ρ : Type} (G : Nat → σ → σ ⊕ ρ) : ∀ (n i : Nat) (s : σ), zfr G (n + 1) i s = (match zfr G n i s with | .inl s' => G (i + n) s' | .inr r => .inr r)
  | 0, i, s => by
    show (match G i s with | .inl s' => zfr G 0 (i + 1) s' | .inr r => .inr r) = G (i + 0) s
    cases h : G i s <;> rfl
  | n + 1, i, s => by
    show (match G i s with | .inl s' => zfr G (n + 1) (i + 1) s' | .inr r => .inr r) = (match (match G i s with | .inl s' => zfr G n (i + 1) s' | .inr r => .inr r) with | .inl s' => G (i + (n + 1)) s' | .inr r => .inr r)
    cases h : G i s with
    | inl s' =>
      show zfr G (n + 1) (i + 1) s' = _
      rw [zfr_last G n (i + 1) s', show i + 1 + n = i + (n + 1) by omega]
    | inr r => rfl
/-- bits counted up to a place -/
def zy_cnt (f : Nat → Bool) : Nat → Nat
  | 0 => 0
  | n + 1 => zy_cnt f n + (if f n = true then 1 else 0)
theorem zy_cnt_le (f : Nat → Bool) : ∀ n, zy_cnt f n ≤ n
  | 0 => Nat.le_refl _
  | n + 1 => by
    have := zy_cnt_le f n
    unfold zy_cnt
    split <;> omega
theorem zy_cnt_add (f : Nat → Bool) (m : Nat) : ∀ n, zy_cnt f (m + n) = zy_cnt f m + zy_cnt (fun j => f (m + j)) n
  | 0 => rfl
  | n + 1 => by
    show zy_cnt f (m + n) + _ = _
    rw [zy_cnt_add f m n]
    show _ = zy_cnt f m + (zy_cnt (fun j => f (m + j)) n + _)
    rw [Nat.add_assoc]
    rfl
theorem zy_cnt_congr {f g : Nat → Bool} : ∀ n, (∀ j, j < n → f j = g j) → zy_cnt f n = zy_cnt g n
  | 0, _ => rfl
  | n + 1, h => by
    unfold zy_cnt
    rw [zy_cnt_congr n (fun j hj => h j (by omega)), h n (by omega)]
theorem zy_cnt_0 (f : Nat → Bool) : ∀ n, zy_cnt f n = 0 ↔ ∀ j, j < n → f j = false
  | 0 => ⟨fun _ j h => absurd h (by omega), fun _ => rfl⟩
  | n + 1 => by
    unfold zy_cnt
    constructor
    · intro h j hj
      by_cases hb : f n = true
      · rw [if_pos hb] at h; omega
      · rw [if_neg hb] at h
        by_cases hjn : j = n
        · rw [hjn]; exact Bool.eq_false_iff.mpr hb
        · exact (zy_cnt_0 f n).mp (by omega) j (by omega)
    · intro h
      rw [(zy_cnt_0 f n).mpr (fun j hj => h j (by omega)), h n (by omega)]
      rfl
theorem zy_bc8 : ∀ s, s < 256 → zr_bc (nI s) = nI (zy_cnt (fun j => Nat.testBit s j) 8) := by decide +kernel
theorem zy_bc16 {ft : Int32} (h : ∀ i, 16 ≤ i → i < 32 → bt ft i = false) : zr_bc ft = nI (zy_cnt (fun j => bt ft j) 16) := by
  obtain ⟨F, hF, rfl⟩ : ∃ F, F < 65536 ∧ ft = nI F := by
    refine ⟨ft.toBitVec.toNat, Nat.lt_pow_two_of_testBit (n := 16) _ (fun i hi => ?_), ?_⟩
    · by_cases h32 : i < 32
      · exact h i hi h32
      · exact b_big (x := ft) (by omega)
    · apply b_ext
      intro i hi
      rw [zt_nI hi]
      rfl
  obtain ⟨a, b, ha, hb, rfl⟩ : ∃ a b, a < 256 ∧ b < 256 ∧ F = a + 256 * b := ⟨F % 256, F / 256, by omega, by omega, by omega⟩
  rw [zy_bcT ha hb, zy_bc8 a ha, zy_bc8 b hb, nI_add, zy_cnt_add _ 8 8]
  congr 2
  · refine zy_cnt_congr 8 (fun j hj => ?_)
    rw [zt_nI (by omega), Nat.add_comm, show 256 * b + a = 2 ^ 8 * b + a by omega, Nat.testBit_two_pow_mul_add _ ha, if_pos hj]
  · refine zy_cnt_congr 8 (fun j hj => ?_)
    rw [zt_nI (by omega), Nat.add_comm a, show 256 * b + a = 2 ^ 8 * b + a by omega, Nat.testBit_two_pow_mul_add _ ha, if_neg (by omega), show 8 + j - 8 = j by omega]
def zl_aG (ft wa : Int32) (Un : Nat) (j : Nat) (s : Int32 × Int32 × Int32 × Int32 × (Nat → Int32)) : Int32 × Int32 × Int32 × Int32 × (Nat → Int32) := match s with
  | (fo, sm, so, al, of_) => if bt ft j = true then ((if sm = wa then nI j else fo), sm + 1, so ||| nI j, al &&& nI j, zf (zl_mskOG (nI j)) Un 0 of_) else (fo, sm, so, al, of_)
theorem zl_aG_off {ft wa : Int32} {Un : Nat} : ∀ (n i : Nat) (s : Int32 × Int32 × Int32 × Int32 × (Nat → Int32)), (∀ j, i ≤ j → j < i + n → bt ft j = false) → zf (zl_aG ft wa Un) n i s = s
  | 0, _, _, _ => rfl
  | n + 1, i, s, h => by
    obtain ⟨fo, sm, so, al, of_⟩ := s
    rw [zf_succ]
    have e : zl_aG ft wa Un i (fo, sm, so, al, of_) = (fo, sm, so, al, of_) := by
      show (if bt ft i = true then _ else (fo, sm, so, al, of_)) = _
      exact if_neg (by rw [h i (Nat.le_refl _) (by omega)]; decide)
    rw [e]
    exact zl_aG_off n (i + 1) _ (fun j h1 h2 => h j (by omega) (by omega))
theorem zl_mskO_at (se : Int32) (of_ : Nat → Int32) : ∀ n u, zf (zl_mskOG se) n 0 of_ u = if u < n then of_ u + ((se >>> ((nI u) &&& 31)) &&& 1) else of_ u
  | 0, u => by rw [if_neg (by omega)]; rfl
  | n + 1, u => by
    rw [zf_last, Nat.zero_add]
    show upd (zf (zl_mskOG se) n 0 of_) n (zf (zl_mskOG se) n 0 of_ n + _) u = _
    by_cases hu : u = n
    · subst hu
      rw [pk_us, zl_mskO_at se of_ u u, if_neg (by omega), if_pos (by omega)]
    · rw [pk_un hu, zl_mskO_at se of_ n u]
      by_cases h : u < n
      · rw [if_pos h, if_pos (by omega)]
      · rw [if_neg h, if_neg (by omega)]
theorem zl_mskZ_at (of_ : Nat → Int32) : ∀ n u, u < n → zf zl_mskZG n 0 of_ u = 0
  | 0, u, h => absurd h (by omega)
  | n + 1, u, h => by
    rw [zf_last, Nat.zero_add]
    show upd (zf zl_mskZG n 0 of_) n 0 u = 0
    by_cases hu : u = n
    · rw [hu, pk_us]
    · rw [pk_un hu]
      exact zl_mskZ_at of_ n u (by omega)
theorem zy_bit01 (x y : Int32) (h : ¬ ((x >>> (y &&& 31)) &&& 1) = 0) : ((x >>> (y &&& 31)) &&& 1) = 1 := by
  apply b_ext
  intro i hi
  rw [b_and, zt_1 hi]
  by_cases hi0 : i = 0
  · subst hi0
    rw [decide_eq_true rfl, Bool.and_true]
    cases hb : bt (x >>> (y &&& 31)) 0 with
    | true => rfl
    | false =>
      refine absurd (zt_z.mpr (fun i hi => ?_)) h
      rw [b_and, zt_1 hi]
      by_cases hi1 : i = 0
      · rw [hi1, hb, Bool.false_and]
      · rw [decide_eq_false hi1, Bool.and_false]
  · rw [decide_eq_false hi0, Bool.and_false]
theorem zl_a_some (ft wa : Int32) (Un : Nat) (fo al : Int32) (of_ : Nat → Int32) : ∀ n, n ≤ 16 → (zf (zl_aG ft wa Un) n 0 (fo, 0, 0, al, of_)).2.1 = nI (zy_cnt (fun j => bt ft j) n) ∧ (zf (zl_aG ft wa Un) n 0 (fo, 0, 0, al, of_)).2.2.1 = zf (zl_inSomeG ft) n 0 0 ∧ ∀ u, u < Un → (zf (zl_aG ft wa Un) n 0 (fo, 0, 0, al, of_)).2.2.2.2 u = of_ u + zf (zl_leftG ft (nI u)) n 0 0
  | 0, _ => ⟨rfl, rfl, fun u _ => (Int32.add_zero _).symm⟩
  | n + 1, hn => by
    have ih := zl_a_some ft wa Un fo al of_ n (by omega)
    rw [zf_last, zf_last (zl_inSomeG ft), Nat.zero_add]
    generalize zf (zl_aG ft wa Un) n 0 (fo, 0, 0, al, of_) = S at ih ⊢
    obtain ⟨fo2, sm2, so2, al2, of2⟩ := S
    obtain ⟨i1, i2, i3⟩ := ih
    have i1 : sm2 = _ := i1
    have i2 : so2 = _ := i2
    have i3 : ∀ u, u < Un → of2 u = of_ u + zf (zl_leftG ft (nI u)) n 0 0 := i3
    unfold zl_aG
    by_cases hb : bt ft n = true
    · have hs : ¬ ((ft >>> ((nI n) &&& 31)) &&& 1) = 0 := fun z => by rw [zt_tob _ (by omega), hb] at z; cases z
      simp only [if_pos hb]
      refine ⟨?_, ?_, ?_⟩
      · show _ = nI (zy_cnt (fun j => bt ft j) n + (if bt ft n = true then 1 else 0))
        rw [i1, nI_1, if_pos hb]
      · unfold zl_inSomeG
        rw [if_neg hs, i2]
        rfl
      · intro u hu
        rw [zl_mskO_at, if_pos hu, zf_last, Nat.zero_add, i3 u hu]
        unfold zl_leftG
        rw [if_neg hs, Int32.add_assoc]
        congr 1
        split
        · next h => rw [h, Int32.add_zero]
        · next h =>
          have h2 : ((nI n >>> ((nI u) &&& 31)) &&& 1) = 1 := zy_bit01 _ _ h
          rw [h2]
    · have hs : ((ft >>> ((nI n) &&& 31)) &&& 1) = 0 := (zt_tob _ (by omega)).mpr (Bool.eq_false_iff.mpr hb)
      simp only [if_neg hb]
      refine ⟨?_, ?_, ?_⟩
      · show _ = nI (zy_cnt (fun j => bt ft j) n + (if bt ft n = true then 1 else 0))
        rw [i1, if_neg hb, Nat.add_zero]
      · unfold zl_inSomeG
        rw [if_pos hs, i2]
        rfl
      · intro u hu
        rw [zf_last, Nat.zero_add, i3 u hu]
        unfold zl_leftG
        rw [if_pos hs]
theorem zl_a_all (ft wa : Int32) (Un : Nat) (hU : Un ≤ 4) (fo : Int32) (of_ : Nat → Int32) (hft : ∀ j, j < 16 → bt ft j = true → j < 2 ^ Un) : ∀ n, n ≤ 16 → ((zf (zl_aG ft wa Un) n 0 (fo, 0, 0, nI (2 ^ Un) - 1, of_)).2.1 = 0 → ∀ d, d < 32 → bt (zf (zl_aG ft wa Un) n 0 (fo, 0, 0, nI (2 ^ Un) - 1, of_)).2.2.2.1 d = decide (d < Un)) ∧ (∀ d, d < 32 → bt (zf (zl_aG ft wa Un) n 0 (fo, 0, 0, nI (2 ^ Un) - 1, of_)).2.2.2.1 d = (bt (zf (zl_inAllG ft) n 0 15) d && decide (d < Un))) ∧ (0 < zy_cnt (fun j => bt ft j) n → ∀ d, Un ≤ d → d < 32 → bt (zf (zl_inAllG ft) n 0 15) d = false)
  | 0, _ => by
    have hk : ∀ u, u ≤ 4 → ∀ d, d < 32 → bt (nI (2 ^ u) - 1) d = decide (d < u) ∧ bt 15 d = decide (d < 4) := by decide +kernel
    refine ⟨fun _ d hd => (hk Un hU d hd).1, fun d hd => ?_, fun h => absurd h (by show ¬ 0 < 0; omega)⟩
    show bt (nI (2 ^ Un) - 1) d = (bt 15 d && _)
    rw [(hk Un hU d hd).1, (hk Un hU d hd).2]
    by_cases h : d < Un
    · rw [decide_eq_true h, decide_eq_true (show d < 4 by omega)]; rfl
    · rw [decide_eq_false h, Bool.and_false]
  | n + 1, hn => by
    have ih := zl_a_all ft wa Un hU fo of_ hft n (by omega)
    have hc := (zl_a_some ft wa Un fo (nI (2 ^ Un) - 1) of_ (n + 1) hn).1
    rw [zf_last, Nat.zero_add] at hc
    rw [zf_last, zf_last (zl_inAllG ft), Nat.zero_add]
    generalize zf (zl_aG ft wa Un) n 0 (fo, 0, 0, nI (2 ^ Un) - 1, of_) = S at ih hc ⊢
    obtain ⟨fo2, sm2, so2, al2, of2⟩ := S
    obtain ⟨i1, i2, i3⟩ := ih
    have i2 : ∀ d, d < 32 → bt al2 d = (bt (zf (zl_inAllG ft) n 0 15) d && decide (d < Un)) := i2
    by_cases hb : bt ft n = true
    · have hs : ¬ ((ft >>> ((nI n) &&& 31)) &&& 1) = 0 := fun z => by rw [zt_tob _ (by omega), hb] at z; cases z
      have hn2 := hft n (by omega) hb
      have hcnt : zy_cnt (fun j => bt ft j) (n + 1) = zy_cnt (fun j => bt ft j) n + 1 := by
        show _ + (if bt ft n = true then 1 else 0) = _
        rw [if_pos hb]
      refine ⟨fun h0 => ?_, fun d hd => ?_, fun _ d h1 h2 => ?_⟩
      · rw [hc, hcnt] at h0
        have := zy_cnt_le (fun j => bt ft j) n
        exact absurd h0 (nI_ne0 (by omega) (by omega))
      · unfold zl_aG zl_inAllG
        simp only [if_pos hb]
        rw [if_neg hs, b_and, b_and, i2 d hd, Bool.and_right_comm]
        rfl
      · unfold zl_inAllG
        rw [if_neg hs, b_and, zt_nI h2, Nat.testBit_lt_two_pow (Nat.lt_of_lt_of_le hn2 (Nat.pow_le_pow_right (by decide) h1)), Bool.and_false]
    · have hs : ((ft >>> ((nI n) &&& 31)) &&& 1) = 0 := (zt_tob _ (by omega)).mpr (Bool.eq_false_iff.mpr hb)
      have hcnt : zy_cnt (fun j => bt ft j) (n + 1) = zy_cnt (fun j => bt ft j) n := by
        show _ + (if bt ft n = true then 1 else 0) = _
        rw [if_neg hb, Nat.add_zero]
      rw [hcnt]
      unfold zl_aG zl_inAllG
      simp only [if_neg hb]
      rw [if_pos hs]
      exact ⟨i1, i2, i3⟩
theorem zl_a_at (ft : Int32) {X : Nat} (hX : X < 2 ^ 31) (Un : Nat) (al : Int32) (of_ : Nat → Int32) : ∀ n, n ≤ 16 → (zy_cnt (fun j => bt ft j) n ≤ X ∧ (zf (zl_aG ft (nI X) Un) n 0 (-1, 0, 0, al, of_)).1 = -1 ∧ zfr (zl_fitSetG ft) n 0 (nI X) = .inl (nI (X - zy_cnt (fun j => bt ft j) n))) ∨ (X < zy_cnt (fun j => bt ft j) n ∧ ∃ j, j < 16 ∧ (zf (zl_aG ft (nI X) Un) n 0 (-1, 0, 0, al, of_)).1 = nI j ∧ zfr (zl_fitSetG ft) n 0 (nI X) = .inr (nI j))
  | 0, _ => Or.inl ⟨Nat.zero_le _, rfl, rfl⟩
  | n + 1, hn => by
    have ih := zl_a_at ft hX Un al of_ n (by omega)
    have hc := (zl_a_some ft (nI X) Un (-1) al of_ n (by omega)).1
    have hle := zy_cnt_le (fun j => bt ft j) n
    rw [zf_last, zfr_last, Nat.zero_add]
    generalize zf (zl_aG ft (nI X) Un) n 0 (-1, 0, 0, al, of_) = S at ih hc ⊢
    obtain ⟨fo2, sm2, so2, al2, of2⟩ := S
    have hc : sm2 = nI (zy_cnt (fun j => bt ft j) n) := hc
    have hcnt : zy_cnt (fun j => bt ft j) (n + 1) = zy_cnt (fun j => bt ft j) n + (if bt ft n = true then 1 else 0) := rfl
    rw [hcnt]
    generalize zy_cnt (fun j => bt ft j) n = C at ih hc hle ⊢
    by_cases hb : bt ft n = true
    · have hs : ¬ ((ft >>> ((nI n) &&& 31)) &&& 1) = 0 := fun z => by rw [zt_tob _ (by omega), hb] at z; cases z
      rw [if_pos hb]
      unfold zl_aG
      simp only [if_pos hb]
      rcases ih with ⟨h1, h2, h3⟩ | ⟨h1, j, h2, h3, h4⟩
      · rw [h3]
        show (_ ∧ _ ∧ zl_fitSetG ft n (nI (X - C)) = _) ∨ (_ ∧ ∃ j, _ ∧ _ ∧ zl_fitSetG ft n (nI (X - C)) = _)
        unfold zl_fitSetG
        rw [if_neg hs]
        by_cases hXC : X = C
        · refine Or.inr ⟨by omega, n, by omega, ?_, ?_⟩
          · rw [if_pos (by rw [hc, hXC])]
          · rw [if_pos (by rw [hXC, Nat.sub_self]; rfl)]
        · refine Or.inl ⟨by omega, ?_, ?_⟩
          · rw [if_neg (fun z => hXC ((nI_eq (by omega) (by omega)).mp (hc.symm.trans z)).symm)]
            exact h2
          · rw [if_neg (nI_ne0 (by omega) (by omega)), zk_dec2 (show X - C = (X - (C + 1)) + 1 by omega)]
      · rw [h4]
        refine Or.inr ⟨by omega, j, h2, ?_, rfl⟩
        rw [if_neg (fun z => by have := (nI_eq (by omega) (by omega)).mp (hc.symm.trans z); omega)]
        exact h3
    · have hs : ((ft >>> ((nI n) &&& 31)) &&& 1) = 0 := (zt_tob _ (by omega)).mpr (Bool.eq_false_iff.mpr hb)
      rw [if_neg hb, Nat.add_zero]
      unfold zl_aG
      simp only [if_neg hb]
      rcases ih with ⟨h1, h2, h3⟩ | ⟨h1, j, h2, h3, h4⟩
      · rw [h3]
        refine Or.inl ⟨h1, h2, ?_⟩
        show zl_fitSetG ft n (nI (X - C)) = _
        unfold zl_fitSetG
        rw [if_pos hs]
      · rw [h4]
        exact Or.inr ⟨h1, j, h2, h3, rfl⟩
