/-! odds: numbers -/
theorem zfr_succ {σ ρ : Type} (G : Nat → σ → σ ⊕ ρ) (n i : Nat) (s : σ) : zfr G (n + 1) i s = (match G i s with | .inl s' => zfr G n (i + 1) s' | .inr r => .inr r) := rfl
theorem zl_gcd_0 {x y : Nat} (h : y = 0) (i : Nat) : zl_gcdG i (lN x, lN y) = .inr (lN x) := by
  unfold zl_gcdG
  simp only
  rw [h, if_pos (by decide)]
theorem zl_gcd_n {x y : Nat} (hx : x < 2 ^ 63) (hy : y < 2 ^ 63) (h : 0 < y) (i : Nat) : zl_gcdG i (lN x, lN y) = .inl (lN y, lN (x % y)) := by
  unfold zl_gcdG
  simp only
  rw [if_neg (fun z => by have := zk_lgZ hy z; omega), pk_lRem hx h hy]
theorem zy_gcdK : ∀ (k n i x y : Nat), y < 2 ^ k → 2 * k + 1 ≤ n → x < 2 ^ 63 → y < 2 ^ 63 → zfr zl_gcdG n i (lN x, lN y) = .inr (lN (Nat.gcd x y))
  | 0, n, i, x, y, h, hn, hx, hy => by
    obtain ⟨m, rfl⟩ : ∃ m, n = m + 1 := ⟨n - 1, by omega⟩
    have h0 : y = 0 := by rw [Nat.pow_zero] at h; omega
    rw [zfr_succ, zl_gcd_0 h0, h0, Nat.gcd_zero_right]
  | k + 1, n, i, x, y, h, hn, hx, hy => by
    obtain ⟨m, rfl⟩ : ∃ m, n = m + 2 := ⟨n - 2, by omega⟩
    rw [zfr_succ]
    rcases Nat.eq_zero_or_pos y with h0 | h0
    · rw [zl_gcd_0 h0, h0, Nat.gcd_zero_right]
    · rw [zl_gcd_n hx hy h0]
      show zfr zl_gcdG (m + 1) (i + 1) (lN y, lN (x % y)) = _
      have hr : x % y < y := Nat.mod_lt _ h0
      have hg : Nat.gcd x y = Nat.gcd y (x % y) := by rw [Nat.gcd_comm x y, Nat.gcd_rec y x, Nat.gcd_comm]
      rw [zfr_succ, hg]
      rcases Nat.eq_zero_or_pos (x % y) with h1 | h1
      · rw [zl_gcd_0 h1, h1, Nat.gcd_zero_right]
      · rw [zl_gcd_n hy (by omega) h1]
        show zfr zl_gcdG m (i + 1 + 1) (lN (x % y), lN (y % (x % y))) = _
        have hr2 : y % (x % y) < x % y := Nat.mod_lt _ h1
        have hr3 : y % (x % y) ≤ y - x % y := by
          have e := Nat.mod_eq_sub_mod (show y ≥ x % y by omega)
          rw [e]
          exact Nat.mod_le _ _
        rw [zy_gcdK k m (i + 1 + 1) (x % y) (y % (x % y)) (by rw [Nat.pow_succ] at h; omega) (by omega) (by omega) (by omega)]
        rw [Nat.gcd_comm y (x % y), Nat.gcd_rec (x % y) y, Nat.gcd_comm]
theorem zr_gcd_at {x y : Nat} (hx : x < 2 ^ 63) (hy : y < 2 ^ 63) : zr_gcd (lN x) (lN y) = lN (Nat.gcd x y) := by
  unfold zr_gcd
  rw [zy_gcdK 63 200 0 x y hy (by decide) hx hy]
theorem zy_i64 : ∀ W, W ≤ 100 → (nI W).toInt64 = lN W ∧ (100 - nI W).toInt64 = lN (100 - W) := by decide +kernel
theorem zy_lmul (a b : Nat) : lN a * lN b = lN (a * b) := (Int64.ofNat_mul a b).symm
theorem zy_ladd (a b : Nat) : lN a + lN b = lN (a + b) := (Int64.ofNat_add a b).symm
theorem zr_shorten_at {F A W : Nat} (hW : W ≤ 100) (hA : 0 < A) (hA2 : A < 2 ^ 63) (hF : F * W < 2 ^ 63) (z : Int32) : (if z = 0 then (zr_shorten (lN F) (lN A) (nI W)).1 else (zr_shorten (lN F) (lN A) (nI W)).2) = zr_mlow (F * W) A z := by
  have hg0 : 0 < Nat.gcd A (F * W) := Nat.gcd_pos_of_pos_left _ hA
  have hg2 : Nat.gcd A (F * W) < 2 ^ 63 := Nat.lt_of_le_of_lt (Nat.gcd_le_left _ hA) hA2
  unfold zr_shorten zr_mlow
  rw [(zy_i64 W hW).1, zy_lmul, zr_gcd_at hA2 hF]
  have hc : ¬ lg_cmp (lN (Nat.gcd A (F * W))) 0 ≤ 0 := by
    have h2 : lN (Nat.gcd A (F * W)) > 0 := (pk_lLT (show 0 < 2 ^ 63 by decide) hg2).mpr hg0
    unfold lg_cmp
    rw [if_pos h2]
    decide
  rw [if_neg hc, pk_lDiv hF hg0 hg2, pk_lDiv hA2 hg0 hg2]
/-- a set's weight -/
def zy_wt (h T j : Nat) : Nat → Nat
  | 0 => 1
  | n + 1 => zy_wt h T j n * (if T.testBit n = true then (if j.testBit n = true then h else 100 - h) else 1)
theorem zl_mtsW_at {h : Nat} (hh : h ≤ 100) (T j : Nat) : ∀ n, n ≤ 8 → zf (zl_mtsWG (nI h) (nI T) (nI j)) n 0 1 = lN (zy_wt h T j n)
  | 0, _ => rfl
  | n + 1, hn => by
    rw [zf_last, Nat.zero_add, zl_mtsW_at hh T j n (by omega)]
    show zl_mtsWG (nI h) (nI T) (nI j) n _ = lN (zy_wt h T j n * _)
    unfold zl_mtsWG
    rw [(zy_i64 h hh).1, (zy_i64 h hh).2]
    cases hb : T.testBit n with
    | false =>
      rw [if_pos ((zt_hb0 _ (by omega)).mpr (by rw [zt_nI (by omega)]; exact hb)), if_neg (by decide), Nat.mul_one]
    | true =>
      rw [if_neg (fun z => by rw [zt_hb0 _ (by omega), zt_nI (by omega), hb] at z; cases z), if_pos rfl]
      cases hc : j.testBit n with
      | false => rw [if_pos ((zt_hb0 _ (by omega)).mpr (by rw [zt_nI (by omega)]; exact hc)), if_neg (by decide), zy_lmul]
      | true => rw [if_neg (fun z => by rw [zt_hb0 _ (by omega), zt_nI (by omega), hc] at z; cases z), if_pos rfl, zy_lmul]
theorem zy_wt_pow (h T j : Nat) (hs : ∀ d, j.testBit d = true → T.testBit d = true) : ∀ n, zy_cnt (fun d => j.testBit d) n ≤ zy_cnt (fun d => T.testBit d) n ∧ zy_wt h T j n = h ^ (zy_cnt (fun d => j.testBit d) n) * (100 - h) ^ (zy_cnt (fun d => T.testBit d) n - zy_cnt (fun d => j.testBit d) n)
  | 0 => ⟨Nat.le_refl _, rfl⟩
  | n + 1 => by
    obtain ⟨h1, h2⟩ := zy_wt_pow h T j hs n
    have e1 : zy_cnt (fun d => j.testBit d) (n + 1) = zy_cnt (fun d => j.testBit d) n + (if j.testBit n = true then 1 else 0) := rfl
    have e2 : zy_cnt (fun d => T.testBit d) (n + 1) = zy_cnt (fun d => T.testBit d) n + (if T.testBit n = true then 1 else 0) := rfl
    have e3 : zy_wt h T j (n + 1) = zy_wt h T j n * (if T.testBit n = true then (if j.testBit n = true then h else 100 - h) else 1) := rfl
    rw [e1, e2, e3, h2]
    generalize zy_cnt (fun d => j.testBit d) n = a at h1 ⊢
    generalize zy_cnt (fun d => T.testBit d) n = b at h1 ⊢
    by_cases hj : j.testBit n = true
    · rw [if_pos hj, if_pos (hs n hj), if_pos (hs n hj), if_pos hj]
      refine ⟨by omega, ?_⟩
      rw [show b + 1 - (a + 1) = b - a by omega, Nat.pow_succ, Nat.mul_right_comm]
    · rw [if_neg hj]
      by_cases hT : T.testBit n = true
      · rw [if_pos hT, if_pos hT, if_neg hj]
        refine ⟨by omega, ?_⟩
        rw [Nat.add_zero, show b + 1 - a = (b - a) + 1 by omega, Nat.pow_succ, Nat.mul_assoc]
      · rw [if_neg hT, if_neg hT]
        exact ⟨by omega, by rw [Nat.mul_one]; rfl⟩
theorem zl_power_at (b : Nat) : ∀ n, zf (zl_powerG (lN b)) n 0 1 = lN (b ^ n)
  | 0 => rfl
  | n + 1 => by
    rw [zf_last, zl_power_at b n]
    show lN (b ^ n) * lN b = _
    rw [zy_lmul, Nat.pow_succ]
theorem zy_sub9 : ∀ a, a ≤ 8 → ∀ b, b ≤ 8 → b ≤ a → nI a - nI b = nI (a - b) := by decide +kernel
theorem zr_weightOf_at {h T j : Nat} (hh : h ≤ 100) (hT : T < 256) (hj : j < 256) (hs : ∀ d, j.testBit d = true → T.testBit d = true) : zr_weightOf (nI h) (nI j) (nI T) = lN (zy_wt h T j 8) := by
  obtain ⟨h1, h2⟩ := zy_wt_pow h T j hs 8
  have hb := zy_cnt_le (fun d => T.testBit d) 8
  unfold zr_weightOf zr_power
  rw [zy_bc8 j hj, zy_bc8 T hT, (zy_i64 h hh).1, (zy_i64 h hh).2, zy_sub9 _ hb _ (by omega) h1, nI_clamp (by omega), nI_clamp (by omega), zl_power_at, zl_power_at, zy_lmul, h2]
def zy_sum (f : Nat → Nat) : Nat → Nat
  | 0 => 0
  | n + 1 => zy_sum f n + f n
theorem zy_sum_add (f : Nat → Nat) (m : Nat) : ∀ n, zy_sum f (m + n) = zy_sum f m + zy_sum (fun j => f (m + j)) n
  | 0 => rfl
  | n + 1 => by
    show zy_sum f (m + n) + f (m + n) = _
    rw [zy_sum_add f m n, Nat.add_assoc]
    rfl
theorem zy_sum_congr {f g : Nat → Nat} : ∀ n, (∀ j, j < n → f j = g j) → zy_sum f n = zy_sum g n
  | 0, _ => rfl
  | n + 1, h => by
    show zy_sum f n + f n = zy_sum g n + g n
    rw [zy_sum_congr n (fun j hj => h j (by omega)), h n (by omega)]
theorem zy_sum_mul (f : Nat → Nat) (c : Nat) : ∀ n, zy_sum (fun j => f j * c) n = zy_sum f n * c
  | 0 => (Nat.zero_mul _).symm
  | n + 1 => by
    show zy_sum (fun j => f j * c) n + f n * c = (zy_sum f n + f n) * c
    rw [zy_sum_mul f c n, Nat.add_mul]
theorem zy_sum_0 {f : Nat → Nat} : ∀ n, (∀ j, j < n → f j = 0) → zy_sum f n = 0
  | 0, _ => rfl
  | n + 1, h => by
    show zy_sum f n + f n = 0
    rw [zy_sum_0 n (fun j hj => h j (by omega)), h n (by omega)]
theorem zy_sum_le {f g : Nat → Nat} : ∀ n, (∀ j, j < n → f j ≤ g j) → zy_sum f n ≤ zy_sum g n
  | 0, _ => Nat.le_refl _
  | n + 1, h => Nat.add_le_add (zy_sum_le n (fun j hj => h j (by omega))) (h n (by omega))
theorem zy_wt_congr (h T : Nat) {i j : Nat} : ∀ n, (∀ d, d < n → i.testBit d = j.testBit d) → zy_wt h T i n = zy_wt h T j n
  | 0, _ => rfl
  | n + 1, hd => by
    show zy_wt h T i n * _ = zy_wt h T j n * _
    rw [zy_wt_congr h T n (fun d hh => hd d (by omega)), hd n (by omega)]
def zy_in (T j k : Nat) : Bool := decide (∀ d, d < k → j.testBit d = true → T.testBit d = true)
theorem zy_inI {T j k : Nat} : zy_in T j k = true ↔ ∀ d, d < k → j.testBit d = true → T.testBit d = true := decide_eq_true_iff
theorem zy_all {h : Nat} (hh : h ≤ 100) (T : Nat) : ∀ k, zy_sum (fun j => if zy_in T j k = true then zy_wt h T j k else 0) (2 ^ k) = 100 ^ (zy_cnt (fun d => T.testBit d) k)
  | 0 => by
    show 0 + (if zy_in T 0 0 = true then zy_wt h T 0 0 else 0) = 100 ^ 0
    rw [if_pos (zy_inI.mpr (fun d hd => absurd hd (by omega)))]
    rfl
  | k + 1 => by
    have ih := zy_all hh T k
    have e2 : zy_cnt (fun d => T.testBit d) (k + 1) = zy_cnt (fun d => T.testBit d) k + (if T.testBit k = true then 1 else 0) := rfl
    rw [Nat.pow_succ, Nat.mul_two, zy_sum_add, e2]
    have eA : zy_sum (fun j => if zy_in T j (k + 1) = true then zy_wt h T j (k + 1) else 0) (2 ^ k) = zy_sum (fun j => if zy_in T j k = true then zy_wt h T j k else 0) (2 ^ k) * (if T.testBit k = true then 100 - h else 1) := by
      rw [← zy_sum_mul]
      refine zy_sum_congr _ (fun j hj => ?_)
      have hjk : j.testBit k = false := Nat.testBit_lt_two_pow hj
      have ew : zy_wt h T j (k + 1) = zy_wt h T j k * (if T.testBit k = true then (if j.testBit k = true then h else 100 - h) else 1) := rfl
      by_cases hc : zy_in T j k = true
      · rw [if_pos hc, if_pos (zy_inI.mpr (fun d hd hb => by
          by_cases hdk : d = k
          · rw [hdk, hjk] at hb; cases hb
          · exact zy_inI.mp hc d (by omega) hb)), ew, hjk, if_neg (show ¬ false = true by decide)]
      · rw [if_neg hc, if_neg (fun z => hc (zy_inI.mpr (fun d hd => zy_inI.mp z d (by omega)))), Nat.zero_mul]
    have eB : zy_sum (fun j => if zy_in T (2 ^ k + j) (k + 1) = true then zy_wt h T (2 ^ k + j) (k + 1) else 0) (2 ^ k) = zy_sum (fun j => if zy_in T j k = true then zy_wt h T j k else 0) (2 ^ k) * (if T.testBit k = true then h else 0) := by
      rw [← zy_sum_mul]
      refine zy_sum_congr _ (fun j hj => ?_)
      have hlow : ∀ d, d < k → (2 ^ k + j).testBit d = j.testBit d := fun d hd => Nat.testBit_two_pow_add_gt hd j
      have hhi : (2 ^ k + j).testBit k = true := by rw [Nat.testBit_two_pow_add_eq, Nat.testBit_lt_two_pow hj]; rfl
      have ew : zy_wt h T (2 ^ k + j) (k + 1) = zy_wt h T (2 ^ k + j) k * (if T.testBit k = true then (if (2 ^ k + j).testBit k = true then h else 100 - h) else 1) := rfl
      by_cases hT : T.testBit k = true
      · rw [if_pos hT]
        by_cases hc : zy_in T j k = true
        · rw [if_pos hc, if_pos (zy_inI.mpr (fun d hd hb => by
            by_cases hdk : d = k
            · rw [hdk]; exact hT
            · rw [hlow d (by omega)] at hb
              exact zy_inI.mp hc d (by omega) hb)), ew, if_pos hT, if_pos hhi, zy_wt_congr h T k hlow]
        · rw [if_neg hc, if_neg (fun z => hc (zy_inI.mpr (fun d hd hb => zy_inI.mp z d (by omega) (by rw [hlow d hd]; exact hb)))), Nat.zero_mul]
      · rw [if_neg hT, if_neg (fun z => hT (zy_inI.mp z k (by omega) hhi)), Nat.mul_zero]
    rw [eA, eB, ih, ← Nat.mul_add]
    by_cases hT : T.testBit k = true
    · rw [if_pos hT, if_pos hT, if_pos hT, Nat.pow_succ, show 100 - h + h = 100 by omega]
    · rw [if_neg hT, if_neg hT, if_neg hT, Nat.add_zero, Nat.add_zero, Nat.mul_one]
theorem zy_sub_iff {T j : Nat} (hj : j < 256) (hT : T < 256) : ((nI j) &&& ((nI T) ^^^ (-1))) = 0 ↔ zy_in T j 8 = true := by
  rw [zt_z, zy_inI]
  constructor
  · intro h d hd hb
    have := h d (by omega)
    rw [b_and, b_xor, b_m1 d (by omega), zt_nI (by omega), zt_nI (by omega), hb, Bool.true_and] at this
    cases ht : T.testBit d with
    | true => rfl
    | false => rw [ht] at this; cases this
  · intro h i hi
    rw [b_and, b_xor, b_m1 i hi, zt_nI hi, zt_nI hi]
    by_cases h8 : i < 8
    · cases hb : j.testBit i with
      | false => rfl
      | true => rw [h i h8 hb]; rfl
    · rw [Nat.testBit_lt_two_pow (Nat.lt_of_lt_of_le hj (show 256 ≤ 2 ^ i from Nat.pow_le_pow_right (n := 2) (i := 8) (by decide) (by omega))), Bool.false_and]
theorem zy_sub_le {T j : Nat} (hj : j < 256) (h : ∀ d, d < 8 → j.testBit d = true → T.testBit d = true) : j ≤ T := by
  have e : j &&& T = j := by
    apply Nat.eq_of_testBit_eq
    intro i
    rw [Nat.testBit_and]
    by_cases h8 : i < 8
    · cases hb : j.testBit i with
      | false => rfl
      | true => rw [h i h8 hb]; rfl
    · rw [Nat.testBit_lt_two_pow (Nat.lt_of_lt_of_le hj (show 256 ≤ 2 ^ i from Nat.pow_le_pow_right (n := 2) (i := 8) (by decide) (by omega))), Bool.false_and]
  rw [← e]
  exact Nat.and_le_right
theorem zy_allT {h T : Nat} (hh : h ≤ 100) (hT : T < 256) : zy_sum (fun j => if zy_in T j 8 = true then zy_wt h T j 8 else 0) (T + 1) = 100 ^ (zy_cnt (fun d => T.testBit d) 8) := by
  have h1 := zy_all hh T 8
  rw [show 2 ^ 8 = (T + 1) + (255 - T) by omega, zy_sum_add, zy_sum_0 (255 - T) (fun j hj => by
    rw [if_neg]
    intro z
    have := zy_sub_le (T := T) (show T + 1 + j < 256 by omega) (zy_inI.mp z)
    omega), Nat.add_zero] at h1
  exact h1
