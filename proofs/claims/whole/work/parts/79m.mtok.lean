/-! the reference's tokens beside the class's -/
theorem zW_tb (n : Nat) : (lN n).toBitVec = BitVec.ofNat 64 n := rfl
theorem zW_inj {a b : Int64} (h : a.toBitVec = b.toBitVec) : a = b := Int64.toBitVec_inj.mp h
theorem zW_c : ∀ k, k < 64 → ((nI k).toInt64 &&& 63) = lN k := by decide +kernel
theorem zW_sm : ∀ k, k < 64 → (BitVec.ofNat 64 k).smod 64 = BitVec.ofNat 64 k := by decide +kernel
theorem zW_shl (n : Nat) {k : Nat} (hk : k < 64) : lN n <<< ((nI k).toInt64 &&& 63) = lN (n * 2 ^ k) := by
  rw [zW_c k hk]
  apply zW_inj
  rw [Int64.toBitVec_shiftLeft, zW_tb, zW_tb, zW_tb, zW_sm k hk]
  apply BitVec.eq_of_toNat_eq
  rw [BitVec.shiftLeft_eq', BitVec.toNat_shiftLeft, BitVec.toNat_ofNat, BitVec.toNat_ofNat, BitVec.toNat_ofNat, Nat.mod_eq_of_lt (show k < 2 ^ 64 by omega), Nat.shiftLeft_eq, Nat.mul_mod, Nat.mod_mod, ← Nat.mul_mod]
theorem zW_or {a b : Nat} (ha : a < 2 ^ 64) (hb : b < 2 ^ 64) : lN a ||| lN b = lN (a ||| b) := by
  apply zW_inj
  rw [Int64.toBitVec_or, zW_tb, zW_tb, zW_tb]
  apply BitVec.eq_of_toNat_eq
  rw [BitVec.toNat_or, BitVec.toNat_ofNat, BitVec.toNat_ofNat, BitVec.toNat_ofNat, Nat.mod_eq_of_lt ha, Nat.mod_eq_of_lt hb, Nat.mod_eq_of_lt (Nat.or_lt_two_pow ha hb)]
/-- a letter -/
def zLt (y : Int32) : Prop := ∃ c, 97 ≤ c ∧ c ≤ 122 ∧ y = nI c
/-- letters, packed as the class packs them -/
def zpk : Nat → (Nat → Int32) → Int64
  | 0, _ => 0
  | j + 1, f => (zpk j f <<< ((5 : Int32).toInt64 &&& 63)) ||| (((f j - 97) + 1 : Int32).toInt64)
def zpn : Nat → (Nat → Int32) → Nat
  | 0, _ => 0
  | j + 1, f => zpn j f * 32 + ((f j).toNatClampNeg - 96)
theorem zpn_lt {f : Nat → Int32} : ∀ (j : Nat), (∀ i, i < j → zLt (f i)) → zpn j f < 32 ^ j
  | 0, _ => by show 0 < 1; decide
  | j + 1, h => by
    have ih := zpn_lt j (fun i hi => h i (by omega))
    obtain ⟨c, h1, h2, h3⟩ := h j (by omega)
    unfold zpn
    rw [h3, nI_clamp (by omega), Nat.pow_succ]
    omega
theorem zpk_n {f : Nat → Int32} : ∀ (j : Nat), j ≤ 8 → (∀ i, i < j → zLt (f i)) → zpk j f = lN (zpn j f)
  | 0, _, _ => rfl
  | j + 1, hj, h => by
    have ih := zpk_n j (by omega) (fun i hi => h i (by omega))
    have hb := zpn_lt j (fun i hi => h i (by omega))
    have hb2 : zpn j f < 32 ^ 7 := Nat.lt_of_lt_of_le hb (Nat.pow_le_pow_right (by decide) (by omega))
    obtain ⟨c, h1, h2, h3⟩ := h j (by omega)
    have e1 : (f j - 97) + 1 = nI (c - 96) := by
      rw [h3, show c = (c - 97) + 97 by omega, ← nI_add, show nI 97 = (97 : Int32) from rfl, Int32.add_sub_cancel, show (1 : Int32) = nI 1 from rfl, nI_add]
      congr 1
      all_goals omega
    unfold zpk zpn
    rw [ih, e1, nI_l (by omega), show ((5 : Int32).toInt64 &&& 63) = ((nI 5).toInt64 &&& 63) from rfl, zW_shl _ (by decide), zW_or (by omega) (by omega), h3, nI_clamp (by omega)]
    congr 1
    rw [← Nat.shiftLeft_eq, ← Nat.shiftLeft_add_eq_or_of_lt (show c - 96 < 2 ^ 5 by omega), Nat.shiftLeft_eq]
theorem zpn_inj {f g : Nat → Int32} : ∀ (j i : Nat), (∀ a, a < j → zLt (f a)) → (∀ a, a < i → zLt (g a)) → zpn j f = zpn i g → j = i ∧ ∀ a, a < j → f a = g a
  | 0, 0, _, _, _ => ⟨rfl, fun a h => by omega⟩
  | 0, i + 1, _, h2, e => by
    obtain ⟨c, q1, q2, q3⟩ := h2 i (by omega)
    unfold zpn at e
    rw [q3, nI_clamp (by omega)] at e
    omega
  | j + 1, 0, h1, _, e => by
    obtain ⟨c, q1, q2, q3⟩ := h1 j (by omega)
    unfold zpn at e
    rw [q3, nI_clamp (by omega)] at e
    omega
  | j + 1, i + 1, h1, h2, e => by
    obtain ⟨c, q1, q2, q3⟩ := h1 j (by omega)
    obtain ⟨c', p1, p2, p3⟩ := h2 i (by omega)
    unfold zpn at e
    rw [q3, p3, nI_clamp (by omega), nI_clamp (by omega)] at e
    obtain ⟨ih1, ih2⟩ := zpn_inj j i (fun a h => h1 a (by omega)) (fun a h => h2 a (by omega)) (by omega)
    refine ⟨by omega, fun a ha => ?_⟩
    by_cases haj : a = j
    · subst haj
      subst ih1
      rw [q3, p3]
      congr 1
      omega
    · exact ih2 a (by omega)
theorem zpk_inj {f g : Nat → Int32} {j i : Nat} (hj : j ≤ 8) (hi : i ≤ 8) (hf : ∀ a, a < j → zLt (f a)) (hg : ∀ a, a < i → zLt (g a)) (e : zpk j f = zpk i g) : j = i ∧ ∀ a, a < j → f a = g a := by
  rw [zpk_n j hj hf, zpk_n i hi hg] at e
  have b1 : zpn j f < 32 ^ 8 := Nat.lt_of_lt_of_le (zpn_lt j hf) (Nat.pow_le_pow_right (by decide) hj)
  have b2 : zpn i g < 32 ^ 8 := Nat.lt_of_lt_of_le (zpn_lt i hg) (Nat.pow_le_pow_right (by decide) hi)
  exact zpn_inj j i hf hg ((pk_lEQ (by omega) (by omega)).mp e)
theorem zpk_eq {f g : Nat → Int32} : ∀ (j : Nat), (∀ a, a < j → f a = g a) → zpk j f = zpk j g
  | 0, _ => rfl
  | j + 1, h => by
    unfold zpk
    rw [zpk_eq j (fun a ha => h a (by omega)), h j (by omega)]
theorem zpk_ne {f : Nat → Int32} {j : Nat} (hj : j ≤ 8) (h1 : 1 ≤ j) (hf : ∀ a, a < j → zLt (f a)) : zpk j f ≠ 0 := fun e => by
  obtain ⟨q, _⟩ := zpk_inj (g := f) hj (show 0 ≤ 8 by decide) hf (fun a ha => by omega) (e.trans rfl)
  omega
/-- the tape's bytes on both sides -/
def zBy (E : Nat) (bb r69 : Nat → Int32) : Prop := ∀ k, k < E → ∃ b, b < 256 ∧ r69 k = nI b ∧ bb k = (nI b).toInt8.toInt32
theorem zy_b32 : ∀ b : Nat, b < 256 → (nI b = 32 ↔ (nI b).toInt8.toInt32 = 32) := by decide +kernel
theorem zy_b59 : ∀ b : Nat, b < 256 → (nI b = 59 ↔ (nI b).toInt8.toInt32 = 59) := by decide +kernel
theorem zy_b44 : ∀ b : Nat, b < 256 → (nI b = 44 ↔ (nI b).toInt8.toInt32 = 44) := by decide +kernel
theorem zy_bm1 : ∀ b : Nat, b < 256 → ¬ nI b = -1 := by decide +kernel
theorem zy_bsm : ∀ b : Nat, b < 256 → (zr_misSmall (nI b) = 0 ∧ zr_isLetter ((nI b).toInt8.toInt32) = 0) ∨ (zr_misSmall (nI b) = 1 ∧ ¬ zr_isLetter ((nI b).toInt8.toInt32) = 0 ∧ 97 ≤ b ∧ b ≤ 122 ∧ (nI b).toInt8.toInt32 = nI b) := by decide +kernel
theorem zy_bdg : ∀ b : Nat, b < 256 → (zr_misDigit (nI b) = 0 ∧ zr_isDigit ((nI b).toInt8.toInt32) = 0) ∨ (zr_misDigit (nI b) = 1 ∧ ¬ zr_isDigit ((nI b).toInt8.toInt32) = 0 ∧ 48 ≤ b ∧ b ≤ 57 ∧ (nI b).toInt8.toInt32 = nI b) := by decide +kernel
/-- a word of the reference -/
def zWd (x : Int64) (n : Int32) (f : Nat → Int32) : Prop := ∃ L, (1 ≤ L ∧ L ≤ 8) ∧ n = nI L ∧ (∀ i, i < L → zLt (f i)) ∧ x = zpk L f
def zt_tok (s : Int32) : Int32 := if s = 4 then 59 else if s = 5 then 44 else s
/-- the reference at a token -/
def zMt (tn : Nat → Nat) (ts : Nat → Int32) (tp : Nat → Nat) (tv : Nat → Int64) (E k : Nat) (u : Nat → Nat → Int32) : Prop :=
  k ≤ E ∧ u 68 3 = nI E ∧ u 68 4 = nI (tp k) ∧ u 68 5 = nI (tn k) ∧ u 68 6 = zt_tok (ts k) ∧ (ts k = 3 → ∃ m, m < 1000 ∧ u 68 7 = nI m ∧ tv k = (nI m).toInt64) ∧ (ts k = 2 → zWd (tv k) (u 68 8) (u 70)) ∧ (ts k ≠ 0 → k < tn k) ∧ tp k ≤ E ∧ (ts k = 0 ∨ ts k = 1 ∨ ts k = 2 ∨ ts k = 3 ∨ ts k = 4 ∨ ts k = 5)
/-- what the reference's tokens leave as it was -/
def zMf (v v' : Nat → Nat → Int32) : Prop := (∀ r, r ≠ 68 → r ≠ 70 → v' r = v r) ∧ ∀ j, j < 4 ∨ 8 < j → v' 68 j = v 68 j
section Z59
variable {Ls : Nat} {xs : Nat → Int32} {v : Nat → Nat → Int32} {w : Nat → Nat → Int64} {t : zk_H}
variable {E : Nat} {bb : Nat → Int32}
theorem zn_sk (hZ : v 68 3 = nI E) (hE9 : E ≤ 900) (hB : zBy E bb (v 69)) : ∀ (n k : Nat) (Q : Option Value × zk_H → Prop), k ≤ E → E - k < n → zx zk_mt zk_ex Ls xs zm_122 (21, [(0, .ref 69), (1, .int (nI (zw (zl_skG bb E) n k)))], []) (zH v w t) Q → zx zk_mt zk_ex Ls xs zm_122 (5, [(0, .ref 69), (1, .int (nI k))], []) (zH v w t) Q := by
  intro n
  induction n with
  | zero => intro k Q hk hn; omega
  | succ n ih =>
    intro k Q hk hn hq
    unfold zw at hq
    by_cases hkE : k < E
    · obtain ⟨b, hb, h1, h2⟩ := hB k hkE
      have hg : ¬ nI E ≤ nI k := nI_ge hkE (by omega)
      by_cases c0 : nI b = 32
      · rw [show zl_skG bb E k = .inl (k + 1) by unfold zl_skG; rw [if_neg hg, h2, if_pos ((zy_b32 b hb).mp c0)]] at hq
        dsimp only at hq
        refine zx.adv 2 (f' := (7, [(0, .ref 69), (1, .int (nI k))], [.int (nI k), .ref 69])) (h' := zH v w t) rfl ?_
        refine zx.cl (v := some (.int (v 69 k))) (h' := zH v w t) rfl (zs_msee_f (v := v) (w := w) k E hZ hE9 hkE) ?_
        show zx zk_mt zk_ex Ls xs zm_122 (10, [(0, .ref 69), (1, .int (nI k))], [.int (v 69 k)]) (zH v w t) _
        rw [show (v 69 k) = nI b from h1]
        refine zx.adv 1 (f' := (12, [(0, .ref 69), (1, .int (nI k))], [.int 32, .int (nI b)])) (h' := zH v w t) rfl ?_
        refine zx.br (f1 := (15, [(0, .ref 69), (1, .int (nI k))], [])) (f2 := (21, [(0, .ref 69), (1, .int (nI k))], [])) rfl (fun c1 => ?_) (fun c1 => absurd c0 (of_decide_eq_false c1))
        refine zx.adv 1 (f' := (18, [(0, .ref 69), (1, .int ((nI k) + 1))], [])) (h' := zH v w t) rfl ?_
        rw [show (nI k) + 1 = nI (k + 1) from nI_add k 1]
        refine zx.adv 1 (f' := (5, [(0, .ref 69), (1, .int (nI (k + 1)))], [])) (h' := zH v w t) rfl ?_
        exact ih (k + 1) Q (by omega) (by omega) hq
      · rw [show zl_skG bb E k = .inr k by unfold zl_skG; rw [if_neg hg, h2, if_neg (fun z => c0 ((zy_b32 b hb).mpr z))]] at hq
        dsimp only at hq
        refine zx.adv 2 (f' := (7, [(0, .ref 69), (1, .int (nI k))], [.int (nI k), .ref 69])) (h' := zH v w t) rfl ?_
        refine zx.cl (v := some (.int (v 69 k))) (h' := zH v w t) rfl (zs_msee_f (v := v) (w := w) k E hZ hE9 hkE) ?_
        show zx zk_mt zk_ex Ls xs zm_122 (10, [(0, .ref 69), (1, .int (nI k))], [.int (v 69 k)]) (zH v w t) _
        rw [show (v 69 k) = nI b from h1]
        refine zx.adv 1 (f' := (12, [(0, .ref 69), (1, .int (nI k))], [.int 32, .int (nI b)])) (h' := zH v w t) rfl ?_
        refine zx.br (f1 := (15, [(0, .ref 69), (1, .int (nI k))], [])) (f2 := (21, [(0, .ref 69), (1, .int (nI k))], [])) rfl (fun c1 => absurd (of_decide_eq_true c1) c0) (fun c1 => ?_)
        exact hq
    · rw [show zl_skG bb E k = .inr k by unfold zl_skG; rw [if_pos (nI_le (by omega) (by omega))]] at hq
      dsimp only at hq
      refine zx.adv 2 (f' := (7, [(0, .ref 69), (1, .int (nI k))], [.int (nI k), .ref 69])) (h' := zH v w t) rfl ?_
      refine zx.cl (v := some (.int (-1))) (h' := zH v w t) rfl (zs_msee_t (v := v) (w := w) k E hZ (by omega) (by omega)) ?_
      show zx zk_mt zk_ex Ls xs zm_122 (10, [(0, .ref 69), (1, .int (nI k))], [.int (-1)]) (zH v w t) _
      refine zx.adv 1 (f' := (12, [(0, .ref 69), (1, .int (nI k))], [.int 32, .int (-1)])) (h' := zH v w t) rfl ?_
      refine zx.br (f1 := (15, [(0, .ref 69), (1, .int (nI k))], [])) (f2 := (21, [(0, .ref 69), (1, .int (nI k))], [])) rfl (fun c1 => absurd (of_decide_eq_true c1) (by decide)) (fun c1 => ?_)
      exact hq
theorem zn_tw (hZ : v 68 3 = nI E) (hE9 : E ≤ 900) (hB : zBy E bb (v 69)) (st : Nat) : ∀ (n j : Nat) (va : Int64) (f : Nat → Int32), st + j ≤ E → E - (st + j) < n → (∀ i, i < j → i < 8 → zLt (f i)) ∧ (j ≤ 8 → va = zpk j f) → ∃ L va' f', (j ≤ L ∧ st + L ≤ E ∧ (L = j → E ≤ st + j ∨ zr_isLetter (bb (st + j)) = 0)) ∧ zw (zl_twG bb E) n (st + j, va) = (st + L, va') ∧ ((∀ i, i < L → i < 8 → zLt (f' i)) ∧ (L ≤ 8 → va' = zpk L f')) ∧ ∀ (Q : Option Value × zk_H → Prop), zx zk_mt zk_ex Ls xs zm_122 (117, [(0, .ref 69), (1, .int (nI (st + L)))], []) (zH (zb (zb v 68 (upd (v 68) 8 (nI L))) 70 f') w t) Q → zx zk_mt zk_ex Ls xs zm_122 (67, [(0, .ref 69), (1, .int (nI (st + j)))], []) (zH (zb (zb v 68 (upd (v 68) 8 (nI j))) 70 f) w t) Q := by
  intro n
  induction n with
  | zero => intro j va f hk hn; omega
  | succ n ih =>
    intro j va f hk hn hi
    unfold zw
    by_cases hkE : st + j < E
    · obtain ⟨b, hb, h1, h2⟩ := hB (st + j) hkE
      have hg : ¬ nI E ≤ nI (st + j) := nI_ge hkE (by omega)
      rcases zy_bsm b hb with ⟨hs0, hs2⟩ | ⟨hs1, hs2, hs3, hs4, hs5⟩
      · rw [show zl_twG bb E (st + j, va) = .inr (st + j, va) by unfold zl_twG; dsimp only; rw [if_neg hg, h2, if_pos hs2]]
        refine ⟨j, va, f, ⟨Nat.le_refl _, hk, fun _ => Or.inr (by rw [h2]; exact hs2)⟩, rfl, hi, fun Q hq => ?_⟩
        refine zx.adv 2 (f' := (69, [(0, .ref 69), (1, .int (nI (st + j)))], [.int (nI (st + j)), .ref 69])) (h' := zH (zb (zb v 68 (upd (v 68) 8 (nI j))) 70 f) w t) rfl ?_
        refine zx.cl (v := some (.int (v 69 (st + j)))) (h' := zH (zb (zb v 68 (upd (v 68) 8 (nI j))) 70 f) w t) rfl (zs_msee_f (v := (zb (zb v 68 (upd (v 68) 8 (nI j))) 70 f)) (w := w) (st + j) E hZ hE9 hkE) ?_
        show zx zk_mt zk_ex Ls xs zm_122 (72, [(0, .ref 69), (1, .int (nI (st + j)))], [.int (v 69 (st + j))]) (zH (zb (zb v 68 (upd (v 68) 8 (nI j))) 70 f) w t) _
        rw [show (v 69 (st + j)) = nI b from h1]
        refine zx.cl (v := some (.int (zr_misSmall (nI b)))) (h' := zH (zb (zb v 68 (upd (v 68) 8 (nI j))) 70 f) w t) rfl (zs_misSmall (v := (zb (zb v 68 (upd (v 68) 8 (nI j))) 70 f)) (w := w) (nI b)) ?_
        show zx zk_mt zk_ex Ls xs zm_122 (75, [(0, .ref 69), (1, .int (nI (st + j)))], [.int (zr_misSmall (nI b))]) (zH (zb (zb v 68 (upd (v 68) 8 (nI j))) 70 f) w t) _
        refine zx.br (f1 := (117, [(0, .ref 69), (1, .int (nI (st + j)))], [])) (f2 := (78, [(0, .ref 69), (1, .int (nI (st + j)))], [])) rfl (fun c1 => ?_) (fun c1 => absurd hs0 (of_decide_eq_false c1))
        exact hq
      · by_cases hj8 : j < 8
        · obtain ⟨L, va', f', ⟨l1, l2, _⟩, hz, hi', hQ⟩ := ih (j + 1) ((va <<< ((5 : Int32).toInt64 &&& 63)) ||| ((((bb (st + j)) - 97) + 1 : Int32).toInt64)) (upd f j (nI b)) (by omega) (by omega) ⟨fun i hi1 hi2 => by
            by_cases hij : i = j
            · subst hij; rw [pk_us]; exact ⟨b, hs3, hs4, rfl⟩
            · rw [pk_un hij]; exact hi.1 i (by omega) hi2, fun _ => by
            show _ = (zpk j (upd f j (nI b)) <<< _) ||| _
            rw [pk_us, hi.2 (by omega), h2, hs5, zpk_eq j (fun a ha => (pk_un (show a ≠ j by omega)).symm)]⟩
          rw [show zl_twG bb E (st + j, va) = .inl (st + (j + 1), (va <<< ((5 : Int32).toInt64 &&& 63)) ||| ((((bb (st + j)) - 97) + 1 : Int32).toInt64)) by unfold zl_twG; dsimp only; rw [if_neg hg, if_neg (by rw [h2]; exact hs2)]; rfl]
          refine ⟨L, va', f', ⟨by omega, l2, fun z => by omega⟩, hz, hi', fun Q hq => ?_⟩
          refine zx.adv 2 (f' := (69, [(0, .ref 69), (1, .int (nI (st + j)))], [.int (nI (st + j)), .ref 69])) (h' := zH (zb (zb v 68 (upd (v 68) 8 (nI j))) 70 f) w t) rfl ?_
          refine zx.cl (v := some (.int (v 69 (st + j)))) (h' := zH (zb (zb v 68 (upd (v 68) 8 (nI j))) 70 f) w t) rfl (zs_msee_f (v := (zb (zb v 68 (upd (v 68) 8 (nI j))) 70 f)) (w := w) (st + j) E hZ hE9 hkE) ?_
          show zx zk_mt zk_ex Ls xs zm_122 (72, [(0, .ref 69), (1, .int (nI (st + j)))], [.int (v 69 (st + j))]) (zH (zb (zb v 68 (upd (v 68) 8 (nI j))) 70 f) w t) _
          rw [show (v 69 (st + j)) = nI b from h1]
          refine zx.cl (v := some (.int (zr_misSmall (nI b)))) (h' := zH (zb (zb v 68 (upd (v 68) 8 (nI j))) 70 f) w t) rfl (zs_misSmall (v := (zb (zb v 68 (upd (v 68) 8 (nI j))) 70 f)) (w := w) (nI b)) ?_
          show zx zk_mt zk_ex Ls xs zm_122 (75, [(0, .ref 69), (1, .int (nI (st + j)))], [.int (zr_misSmall (nI b))]) (zH (zb (zb v 68 (upd (v 68) 8 (nI j))) 70 f) w t) _
          refine zx.br (f1 := (117, [(0, .ref 69), (1, .int (nI (st + j)))], [])) (f2 := (78, [(0, .ref 69), (1, .int (nI (st + j)))], [])) rfl (fun c1 => absurd (of_decide_eq_true c1) (by rw [hs1]; decide)) (fun c1 => ?_)
          refine zx.adv 3 (f' := (84, [(0, .ref 69), (1, .int (nI (st + j)))], [.int 8, .int (nI j)])) (h' := zH (zb (zb v 68 (upd (v 68) 8 (nI j))) 70 f) w t) rfl ?_
          refine zx.br (f1 := (101, [(0, .ref 69), (1, .int (nI (st + j)))], [])) (f2 := (87, [(0, .ref 69), (1, .int (nI (st + j)))], [])) rfl (fun c2 => absurd (of_decide_eq_true c2) (show ¬ (8 : Int32) ≤ nI j from nI_ge (b := 8) hj8 (by decide))) (fun c2 => ?_)
          refine zx.adv 6 (f' := (97, [(0, .ref 69), (1, .int (nI (st + j)))], [.int (nI (st + j)), .ref 69, .int (nI j), .ref 71])) (h' := zH (zb (zb v 68 (upd (v 68) 8 (nI j))) 70 f) w t) rfl ?_
          refine zx.cl (v := some (.int (v 69 (st + j)))) (h' := zH (zb (zb v 68 (upd (v 68) 8 (nI j))) 70 f) w t) rfl (zs_msee_f (v := (zb (zb v 68 (upd (v 68) 8 (nI j))) 70 f)) (w := w) (st + j) E hZ hE9 hkE) ?_
          show zx zk_mt zk_ex Ls xs zm_122 (100, [(0, .ref 69), (1, .int (nI (st + j)))], [.int (v 69 (st + j)), .int (nI j), .ref 71]) (zH (zb (zb v 68 (upd (v 68) 8 (nI j))) 70 f) w t) _
          rw [show (v 69 (st + j)) = nI b from h1]
          refine zx.ob (f' := (101, [(0, .ref 69), (1, .int (nI (st + j)))], [])) (h' := zH (zb (zb v 68 (upd (v 68) 8 (nI j))) 70 (upd f ((nI j)).toNatClampNeg (nI b))) w t) rfl (by first | exact zk_inN (by omega) (by decide) | decide) ?_
          rw [nI_clamp (show j < 2 ^ 31 by omega)]
          refine zx.adv 5 (f' := (108, [(0, .ref 69), (1, .int (nI (st + j)))], [.int ((nI j) + 1), .ref 69])) (h' := zH (zb (zb v 68 (upd (v 68) 8 (nI j))) 70 (upd f j (nI b))) w t) rfl ?_
          rw [show (nI j) + 1 = nI (j + 1) from nI_add j 1]
          refine zx.adv 2 (f' := (114, [(0, .ref 69), (1, .int ((nI (st + j)) + 1))], [])) (h' := zH (zb (zb v 68 (upd (v 68) 8 (nI (j + 1)))) 70 (upd f j (nI b))) w t) rfl ?_
          rw [show (nI (st + j)) + 1 = nI ((st + j) + 1) from nI_add (st + j) 1]
          refine zx.adv 1 (f' := (67, [(0, .ref 69), (1, .int (nI ((st + j) + 1)))], [])) (h' := zH (zb (zb v 68 (upd (v 68) 8 (nI (j + 1)))) 70 (upd f j (nI b))) w t) rfl ?_
          rw [show st + j + 1 = st + (j + 1) from rfl]
          exact hQ Q hq
        · obtain ⟨L, va', f', ⟨l1, l2, _⟩, hz, hi', hQ⟩ := ih (j + 1) ((va <<< ((5 : Int32).toInt64 &&& 63)) ||| ((((bb (st + j)) - 97) + 1 : Int32).toInt64)) f (by omega) (by omega) ⟨fun i hi1 hi2 => hi.1 i (by omega) hi2, fun z => by omega⟩
          rw [show zl_twG bb E (st + j, va) = .inl (st + (j + 1), (va <<< ((5 : Int32).toInt64 &&& 63)) ||| ((((bb (st + j)) - 97) + 1 : Int32).toInt64)) by unfold zl_twG; dsimp only; rw [if_neg hg, if_neg (by rw [h2]; exact hs2)]; rfl]
          refine ⟨L, va', f', ⟨by omega, l2, fun z => by omega⟩, hz, hi', fun Q hq => ?_⟩
          refine zx.adv 2 (f' := (69, [(0, .ref 69), (1, .int (nI (st + j)))], [.int (nI (st + j)), .ref 69])) (h' := zH (zb (zb v 68 (upd (v 68) 8 (nI j))) 70 f) w t) rfl ?_
          refine zx.cl (v := some (.int (v 69 (st + j)))) (h' := zH (zb (zb v 68 (upd (v 68) 8 (nI j))) 70 f) w t) rfl (zs_msee_f (v := (zb (zb v 68 (upd (v 68) 8 (nI j))) 70 f)) (w := w) (st + j) E hZ hE9 hkE) ?_
          show zx zk_mt zk_ex Ls xs zm_122 (72, [(0, .ref 69), (1, .int (nI (st + j)))], [.int (v 69 (st + j))]) (zH (zb (zb v 68 (upd (v 68) 8 (nI j))) 70 f) w t) _
          rw [show (v 69 (st + j)) = nI b from h1]
          refine zx.cl (v := some (.int (zr_misSmall (nI b)))) (h' := zH (zb (zb v 68 (upd (v 68) 8 (nI j))) 70 f) w t) rfl (zs_misSmall (v := (zb (zb v 68 (upd (v 68) 8 (nI j))) 70 f)) (w := w) (nI b)) ?_
          show zx zk_mt zk_ex Ls xs zm_122 (75, [(0, .ref 69), (1, .int (nI (st + j)))], [.int (zr_misSmall (nI b))]) (zH (zb (zb v 68 (upd (v 68) 8 (nI j))) 70 f) w t) _
          refine zx.br (f1 := (117, [(0, .ref 69), (1, .int (nI (st + j)))], [])) (f2 := (78, [(0, .ref 69), (1, .int (nI (st + j)))], [])) rfl (fun c1 => absurd (of_decide_eq_true c1) (by rw [hs1]; decide)) (fun c1 => ?_)
          refine zx.adv 3 (f' := (84, [(0, .ref 69), (1, .int (nI (st + j)))], [.int 8, .int (nI j)])) (h' := zH (zb (zb v 68 (upd (v 68) 8 (nI j))) 70 f) w t) rfl ?_
          refine zx.br (f1 := (101, [(0, .ref 69), (1, .int (nI (st + j)))], [])) (f2 := (87, [(0, .ref 69), (1, .int (nI (st + j)))], [])) rfl (fun c2 => ?_) (fun c2 => absurd (show (8 : Int32) ≤ nI j from nI_le (a := 8) (by omega) (by omega)) (of_decide_eq_false c2))
          refine zx.adv 5 (f' := (108, [(0, .ref 69), (1, .int (nI (st + j)))], [.int ((nI j) + 1), .ref 69])) (h' := zH (zb (zb v 68 (upd (v 68) 8 (nI j))) 70 f) w t) rfl ?_
          rw [show (nI j) + 1 = nI (j + 1) from nI_add j 1]
          refine zx.adv 2 (f' := (114, [(0, .ref 69), (1, .int ((nI (st + j)) + 1))], [])) (h' := zH (zb (zb v 68 (upd (v 68) 8 (nI (j + 1)))) 70 f) w t) rfl ?_
          rw [show (nI (st + j)) + 1 = nI ((st + j) + 1) from nI_add (st + j) 1]
          refine zx.adv 1 (f' := (67, [(0, .ref 69), (1, .int (nI ((st + j) + 1)))], [])) (h' := zH (zb (zb v 68 (upd (v 68) 8 (nI (j + 1)))) 70 f) w t) rfl ?_
          rw [show st + j + 1 = st + (j + 1) from rfl]
          exact hQ Q hq
    · rw [show zl_twG bb E (st + j, va) = .inr (st + j, va) by unfold zl_twG; dsimp only; rw [if_pos (nI_le (by omega) (by omega))]]
      refine ⟨j, va, f, ⟨Nat.le_refl _, hk, fun _ => Or.inl (by omega)⟩, rfl, hi, fun Q hq => ?_⟩
      refine zx.adv 2 (f' := (69, [(0, .ref 69), (1, .int (nI (st + j)))], [.int (nI (st + j)), .ref 69])) (h' := zH (zb (zb v 68 (upd (v 68) 8 (nI j))) 70 f) w t) rfl ?_
      refine zx.cl (v := some (.int (-1))) (h' := zH (zb (zb v 68 (upd (v 68) 8 (nI j))) 70 f) w t) rfl (zs_msee_t (v := (zb (zb v 68 (upd (v 68) 8 (nI j))) 70 f)) (w := w) (st + j) E hZ (by omega) (by omega)) ?_
      show zx zk_mt zk_ex Ls xs zm_122 (72, [(0, .ref 69), (1, .int (nI (st + j)))], [.int (-1)]) (zH (zb (zb v 68 (upd (v 68) 8 (nI j))) 70 f) w t) _
      refine zx.cl (v := some (.int (zr_misSmall (-1)))) (h' := zH (zb (zb v 68 (upd (v 68) 8 (nI j))) 70 f) w t) rfl (zs_misSmall (v := (zb (zb v 68 (upd (v 68) 8 (nI j))) 70 f)) (w := w) (-1)) ?_
      show zx zk_mt zk_ex Ls xs zm_122 (75, [(0, .ref 69), (1, .int (nI (st + j)))], [.int (zr_misSmall (-1))]) (zH (zb (zb v 68 (upd (v 68) 8 (nI j))) 70 f) w t) _
      refine zx.br (f1 := (117, [(0, .ref 69), (1, .int (nI (st + j)))], [])) (f2 := (78, [(0, .ref 69), (1, .int (nI (st + j)))], [])) rfl (fun c1 => ?_) (fun c1 => absurd (by decide) (of_decide_eq_false c1))
      exact hq
theorem zn_tn (hZ : v 68 3 = nI E) (hE9 : E ≤ 900) (hB : zBy E bb (v 69)) (st : Nat) : ∀ (n j : Nat) (va : Int64) (wh : Int32), st + j ≤ E → E - (st + j) < n → (j ≤ 3 → ∃ W, W < 10 ^ j ∧ wh = nI W ∧ va = (nI W).toInt64) → ∃ L va' wh', (j ≤ L ∧ st + L ≤ E ∧ (L = j → E ≤ st + j ∨ zr_isDigit (bb (st + j)) = 0)) ∧ zw (zl_tnG bb E) n (st + j, va) = (st + L, va') ∧ (L ≤ 3 → ∃ W, W < 10 ^ L ∧ wh' = nI W ∧ va' = (nI W).toInt64) ∧ ∀ (Q : Option Value × zk_H → Prop), zx zk_mt zk_ex Ls xs zm_122 (197, [(0, .ref 69), (1, .int (nI (st + L))), (3, .int (nI L))], []) (zH (zb v 68 (upd (v 68) 7 wh')) w t) Q → zx zk_mt zk_ex Ls xs zm_122 (152, [(0, .ref 69), (1, .int (nI (st + j))), (3, .int (nI j))], []) (zH (zb v 68 (upd (v 68) 7 wh)) w t) Q := by
  intro n
  induction n with
  | zero => intro j va wh hk hn; omega
  | succ n ih =>
    intro j va wh hk hn hi
    unfold zw
    by_cases hkE : st + j < E
    · obtain ⟨b, hb, h1, h2⟩ := hB (st + j) hkE
      have hg : ¬ nI E ≤ nI (st + j) := nI_ge hkE (by omega)
      rcases zy_bdg b hb with ⟨hs0, hs2⟩ | ⟨hs1, hs2, hs3, hs4, hs5⟩
      · rw [show zl_tnG bb E (st + j, va) = .inr (st + j, va) by unfold zl_tnG; dsimp only; rw [if_neg hg, h2, if_pos hs2]]
        refine ⟨j, va, wh, ⟨Nat.le_refl _, hk, fun _ => Or.inr (by rw [h2]; exact hs2)⟩, rfl, hi, fun Q hq => ?_⟩
        refine zx.adv 2 (f' := (154, [(0, .ref 69), (1, .int (nI (st + j))), (3, .int (nI j))], [.int (nI (st + j)), .ref 69])) (h' := zH (zb v 68 (upd (v 68) 7 wh)) w t) rfl ?_
        refine zx.cl (v := some (.int (v 69 (st + j)))) (h' := zH (zb v 68 (upd (v 68) 7 wh)) w t) rfl (zs_msee_f (v := (zb v 68 (upd (v 68) 7 wh))) (w := w) (st + j) E hZ hE9 hkE) ?_
        show zx zk_mt zk_ex Ls xs zm_122 (157, [(0, .ref 69), (1, .int (nI (st + j))), (3, .int (nI j))], [.int (v 69 (st + j))]) (zH (zb v 68 (upd (v 68) 7 wh)) w t) _
        rw [show (v 69 (st + j)) = nI b from h1]
        refine zx.cl (v := some (.int (zr_misDigit (nI b)))) (h' := zH (zb v 68 (upd (v 68) 7 wh)) w t) rfl (zs_misDigit (v := (zb v 68 (upd (v 68) 7 wh))) (w := w) (nI b)) ?_
        show zx zk_mt zk_ex Ls xs zm_122 (160, [(0, .ref 69), (1, .int (nI (st + j))), (3, .int (nI j))], [.int (zr_misDigit (nI b))]) (zH (zb v 68 (upd (v 68) 7 wh)) w t) _
        refine zx.br (f1 := (197, [(0, .ref 69), (1, .int (nI (st + j))), (3, .int (nI j))], [])) (f2 := (163, [(0, .ref 69), (1, .int (nI (st + j))), (3, .int (nI j))], [])) rfl (fun c1 => ?_) (fun c1 => absurd hs0 (of_decide_eq_false c1))
        exact hq
      · by_cases hj8 : j < 3
        · obtain ⟨L, va', wh', ⟨l1, l2, _⟩, hz, hi', hQ⟩ := ih (j + 1) (((va * ((10 : Int32).toInt64)) + (((bb (st + j)) : Int32).toInt64)) - ((48 : Int32).toInt64)) (((10 * wh) + (nI b)) - 48) (by omega) (by omega) (fun _ => by
            obtain ⟨W, w1, w2, w3⟩ := hi (by omega)
            have w4 : 10 ^ j ≤ 100 := by
              rcases (show j = 0 ∨ j = 1 ∨ j = 2 by omega) with rfl | rfl | rfl <;> decide
            refine ⟨W * 10 + (b - 48), ?_, ?_, ?_⟩
            · rw [Nat.pow_succ]; omega
            · rw [w2, show (10 : Int32) = nI 10 from rfl, pk_mul, nI_add, show 10 * W + b = (W * 10 + (b - 48)) + 48 by omega, ← nI_add, show nI 48 = (48 : Int32) from rfl, Int32.add_sub_cancel]
            · rw [w3, h2, hs5, nI_l (by omega), nI_l (by omega), nI_l (by omega), show ((10 : Int32).toInt64) = lN 10 from rfl, show ((48 : Int32).toInt64) = lN 48 from rfl, lN_mul, lN_add, lN_sub (by omega)]
              congr 1
              omega)
          rw [show zl_tnG bb E (st + j, va) = .inl (st + (j + 1), ((va * ((10 : Int32).toInt64)) + (((bb (st + j)) : Int32).toInt64)) - ((48 : Int32).toInt64)) by unfold zl_tnG; dsimp only; rw [if_neg hg, if_neg (by rw [h2]; exact hs2)]; rfl]
          refine ⟨L, va', wh', ⟨by omega, l2, fun z => by omega⟩, hz, hi', fun Q hq => ?_⟩
          refine zx.adv 2 (f' := (154, [(0, .ref 69), (1, .int (nI (st + j))), (3, .int (nI j))], [.int (nI (st + j)), .ref 69])) (h' := zH (zb v 68 (upd (v 68) 7 wh)) w t) rfl ?_
          refine zx.cl (v := some (.int (v 69 (st + j)))) (h' := zH (zb v 68 (upd (v 68) 7 wh)) w t) rfl (zs_msee_f (v := (zb v 68 (upd (v 68) 7 wh))) (w := w) (st + j) E hZ hE9 hkE) ?_
          show zx zk_mt zk_ex Ls xs zm_122 (157, [(0, .ref 69), (1, .int (nI (st + j))), (3, .int (nI j))], [.int (v 69 (st + j))]) (zH (zb v 68 (upd (v 68) 7 wh)) w t) _
          rw [show (v 69 (st + j)) = nI b from h1]
          refine zx.cl (v := some (.int (zr_misDigit (nI b)))) (h' := zH (zb v 68 (upd (v 68) 7 wh)) w t) rfl (zs_misDigit (v := (zb v 68 (upd (v 68) 7 wh))) (w := w) (nI b)) ?_
          show zx zk_mt zk_ex Ls xs zm_122 (160, [(0, .ref 69), (1, .int (nI (st + j))), (3, .int (nI j))], [.int (zr_misDigit (nI b))]) (zH (zb v 68 (upd (v 68) 7 wh)) w t) _
          refine zx.br (f1 := (197, [(0, .ref 69), (1, .int (nI (st + j))), (3, .int (nI j))], [])) (f2 := (163, [(0, .ref 69), (1, .int (nI (st + j))), (3, .int (nI j))], [])) rfl (fun c1 => absurd (of_decide_eq_true c1) (by rw [hs1]; decide)) (fun c1 => ?_)
          refine zx.adv 2 (f' := (165, [(0, .ref 69), (1, .int (nI (st + j))), (3, .int (nI j))], [.int 3, .int (nI j)])) (h' := zH (zb v 68 (upd (v 68) 7 wh)) w t) rfl ?_
          refine zx.br (f1 := (188, [(0, .ref 69), (1, .int (nI (st + j))), (3, .int (nI j))], [])) (f2 := (168, [(0, .ref 69), (1, .int (nI (st + j))), (3, .int (nI j))], [])) rfl (fun c2 => absurd (of_decide_eq_true c2) (show ¬ (3 : Int32) ≤ nI j from nI_ge (b := 3) hj8 (by decide))) (fun c2 => ?_)
          refine zx.adv 7 (f' := (178, [(0, .ref 69), (1, .int (nI (st + j))), (3, .int (nI j))], [.int (nI (st + j)), .ref 69, .int (10 * wh), .ref 69])) (h' := zH (zb v 68 (upd (v 68) 7 wh)) w t) rfl ?_
          refine zx.cl (v := some (.int (v 69 (st + j)))) (h' := zH (zb v 68 (upd (v 68) 7 wh)) w t) rfl (zs_msee_f (v := (zb v 68 (upd (v 68) 7 wh))) (w := w) (st + j) E hZ hE9 hkE) ?_
          show zx zk_mt zk_ex Ls xs zm_122 (181, [(0, .ref 69), (1, .int (nI (st + j))), (3, .int (nI j))], [.int (v 69 (st + j)), .int (10 * wh), .ref 69]) (zH (zb v 68 (upd (v 68) 7 wh)) w t) _
          rw [show (v 69 (st + j)) = nI b from h1]
          refine zx.adv 5 (f' := (191, [(0, .ref 69), (1, .int (nI (st + j))), (3, .int ((nI j) + 1))], [])) (h' := zH (zb v 68 (upd (v 68) 7 (((10 * wh) + (nI b)) - 48))) w t) rfl ?_
          rw [show (nI j) + 1 = nI (j + 1) from nI_add j 1]
          refine zx.adv 1 (f' := (194, [(0, .ref 69), (1, .int ((nI (st + j)) + 1)), (3, .int (nI (j + 1)))], [])) (h' := zH (zb v 68 (upd (v 68) 7 (((10 * wh) + (nI b)) - 48))) w t) rfl ?_
          rw [show (nI (st + j)) + 1 = nI ((st + j) + 1) from nI_add (st + j) 1]
          refine zx.adv 1 (f' := (152, [(0, .ref 69), (1, .int (nI ((st + j) + 1))), (3, .int (nI (j + 1)))], [])) (h' := zH (zb v 68 (upd (v 68) 7 (((10 * wh) + (nI b)) - 48))) w t) rfl ?_
          rw [show st + j + 1 = st + (j + 1) from rfl]
          exact hQ Q hq
        · obtain ⟨L, va', wh', ⟨l1, l2, _⟩, hz, hi', hQ⟩ := ih (j + 1) (((va * ((10 : Int32).toInt64)) + (((bb (st + j)) : Int32).toInt64)) - ((48 : Int32).toInt64)) wh (by omega) (by omega) (fun z => by omega)
          rw [show zl_tnG bb E (st + j, va) = .inl (st + (j + 1), ((va * ((10 : Int32).toInt64)) + (((bb (st + j)) : Int32).toInt64)) - ((48 : Int32).toInt64)) by unfold zl_tnG; dsimp only; rw [if_neg hg, if_neg (by rw [h2]; exact hs2)]; rfl]
          refine ⟨L, va', wh', ⟨by omega, l2, fun z => by omega⟩, hz, hi', fun Q hq => ?_⟩
          refine zx.adv 2 (f' := (154, [(0, .ref 69), (1, .int (nI (st + j))), (3, .int (nI j))], [.int (nI (st + j)), .ref 69])) (h' := zH (zb v 68 (upd (v 68) 7 wh)) w t) rfl ?_
          refine zx.cl (v := some (.int (v 69 (st + j)))) (h' := zH (zb v 68 (upd (v 68) 7 wh)) w t) rfl (zs_msee_f (v := (zb v 68 (upd (v 68) 7 wh))) (w := w) (st + j) E hZ hE9 hkE) ?_
          show zx zk_mt zk_ex Ls xs zm_122 (157, [(0, .ref 69), (1, .int (nI (st + j))), (3, .int (nI j))], [.int (v 69 (st + j))]) (zH (zb v 68 (upd (v 68) 7 wh)) w t) _
          rw [show (v 69 (st + j)) = nI b from h1]
          refine zx.cl (v := some (.int (zr_misDigit (nI b)))) (h' := zH (zb v 68 (upd (v 68) 7 wh)) w t) rfl (zs_misDigit (v := (zb v 68 (upd (v 68) 7 wh))) (w := w) (nI b)) ?_
          show zx zk_mt zk_ex Ls xs zm_122 (160, [(0, .ref 69), (1, .int (nI (st + j))), (3, .int (nI j))], [.int (zr_misDigit (nI b))]) (zH (zb v 68 (upd (v 68) 7 wh)) w t) _
          refine zx.br (f1 := (197, [(0, .ref 69), (1, .int (nI (st + j))), (3, .int (nI j))], [])) (f2 := (163, [(0, .ref 69), (1, .int (nI (st + j))), (3, .int (nI j))], [])) rfl (fun c1 => absurd (of_decide_eq_true c1) (by rw [hs1]; decide)) (fun c1 => ?_)
          refine zx.adv 2 (f' := (165, [(0, .ref 69), (1, .int (nI (st + j))), (3, .int (nI j))], [.int 3, .int (nI j)])) (h' := zH (zb v 68 (upd (v 68) 7 wh)) w t) rfl ?_
          refine zx.br (f1 := (188, [(0, .ref 69), (1, .int (nI (st + j))), (3, .int (nI j))], [])) (f2 := (168, [(0, .ref 69), (1, .int (nI (st + j))), (3, .int (nI j))], [])) rfl (fun c2 => ?_) (fun c2 => absurd (show (3 : Int32) ≤ nI j from nI_le (a := 3) (by omega) (by omega)) (of_decide_eq_false c2))
          refine zx.adv 1 (f' := (191, [(0, .ref 69), (1, .int (nI (st + j))), (3, .int ((nI j) + 1))], [])) (h' := zH (zb v 68 (upd (v 68) 7 wh)) w t) rfl ?_
          rw [show (nI j) + 1 = nI (j + 1) from nI_add j 1]
          refine zx.adv 1 (f' := (194, [(0, .ref 69), (1, .int ((nI (st + j)) + 1)), (3, .int (nI (j + 1)))], [])) (h' := zH (zb v 68 (upd (v 68) 7 wh)) w t) rfl ?_
          rw [show (nI (st + j)) + 1 = nI ((st + j) + 1) from nI_add (st + j) 1]
          refine zx.adv 1 (f' := (152, [(0, .ref 69), (1, .int (nI ((st + j) + 1))), (3, .int (nI (j + 1)))], [])) (h' := zH (zb v 68 (upd (v 68) 7 wh)) w t) rfl ?_
          rw [show st + j + 1 = st + (j + 1) from rfl]
          exact hQ Q hq
    · rw [show zl_tnG bb E (st + j, va) = .inr (st + j, va) by unfold zl_tnG; dsimp only; rw [if_pos (nI_le (by omega) (by omega))]]
      refine ⟨j, va, wh, ⟨Nat.le_refl _, hk, fun _ => Or.inl (by omega)⟩, rfl, hi, fun Q hq => ?_⟩
      refine zx.adv 2 (f' := (154, [(0, .ref 69), (1, .int (nI (st + j))), (3, .int (nI j))], [.int (nI (st + j)), .ref 69])) (h' := zH (zb v 68 (upd (v 68) 7 wh)) w t) rfl ?_
      refine zx.cl (v := some (.int (-1))) (h' := zH (zb v 68 (upd (v 68) 7 wh)) w t) rfl (zs_msee_t (v := (zb v 68 (upd (v 68) 7 wh))) (w := w) (st + j) E hZ (by omega) (by omega)) ?_
      show zx zk_mt zk_ex Ls xs zm_122 (157, [(0, .ref 69), (1, .int (nI (st + j))), (3, .int (nI j))], [.int (-1)]) (zH (zb v 68 (upd (v 68) 7 wh)) w t) _
      refine zx.cl (v := some (.int (zr_misDigit (-1)))) (h' := zH (zb v 68 (upd (v 68) 7 wh)) w t) rfl (zs_misDigit (v := (zb v 68 (upd (v 68) 7 wh))) (w := w) (-1)) ?_
      show zx zk_mt zk_ex Ls xs zm_122 (160, [(0, .ref 69), (1, .int (nI (st + j))), (3, .int (nI j))], [.int (zr_misDigit (-1))]) (zH (zb v 68 (upd (v 68) 7 wh)) w t) _
      refine zx.br (f1 := (197, [(0, .ref 69), (1, .int (nI (st + j))), (3, .int (nI j))], [])) (f2 := (163, [(0, .ref 69), (1, .int (nI (st + j))), (3, .int (nI j))], [])) rfl (fun c1 => ?_) (fun c1 => absurd (by decide) (of_decide_eq_false c1))
      exact hq
theorem zn_wh {L : Nat} {wh : Int32} {va tv : Int64} (h : L ≤ 3 → ∃ W, W < 10 ^ L ∧ wh = nI W ∧ va = (nI W).toInt64) (hL : L ≤ 3) (hv : tv = va) : ∃ m, m < 1000 ∧ wh = nI m ∧ tv = (nI m).toInt64 := by
  obtain ⟨W, h1, h2, h3⟩ := h hL
  exact ⟨W, Nat.lt_of_lt_of_le h1 (Nat.le_trans (Nat.pow_le_pow_right (by decide) hL) (by decide)), h2, hv.trans h3⟩
/-- BasketKeepModel.next -/
theorem zn_next (hZ : v 68 3 = nI E) (hE9 : E ≤ 900) (hB : zBy E bb (v 69)) {k : Nat} (hk : k ≤ E) (he : v 68 5 = nI k) : ∃ q, zk_Cr zk_mt zk_ex Ls xs 122 [.ref 69] (zH v w t) q ∧ (fun q => ∃ v', q = (none, zH v' w t) ∧ zMt (zt_n bb E) (zt_s bb E) (zt_p bb E) (zt_v bb E) E k v' ∧ zMf v v') q := by
  refine zx.of (K := zm_122) rfl rfl rfl ?_
  show zx zk_mt zk_ex Ls xs zm_122 (0, [(0, .ref 69)], []) (zH v w t) _
  obtain ⟨s, hs⟩ : ∃ s, s = zw (zl_skG bb E) (E + 1) k := ⟨_, rfl⟩
  have hsE : s ≤ E := by rw [hs]; exact zl_skE hE9 hk
  have hks : k ≤ s := by
    rw [hs]
    refine zw_inv (P := fun z => k ≤ z) ?_ ?_ (E + 1) k (Nat.le_refl _)
    all_goals
      intro z z' hz hg
      have hz : k ≤ z := hz
      unfold zl_skG at hg
      dsimp only at hg
      repeat' split at hg
      all_goals first | (cases hg; done) | (cases hg; show k ≤ _; omega)
  by_cases hkE : s < E
  · obtain ⟨b, hb, h1, h2⟩ := hB s hkE
    have hlt : nI s < nI E := nI_lt hkE (by omega)
    rcases zy_bsm b hb with ⟨hs1, hs2⟩ | ⟨hs1, hs2, hs3, hs4, hs5⟩
    · rcases zy_bdg b hb with ⟨hd1, hd2⟩ | ⟨hd1, hd2, hd3, hd4, hd5⟩
      · have hz : zr_advance bb E k = ((zr_takeSign bb s).1, (zr_takeSign bb s).2, s, 0) := by
          unfold zr_advance
          rw [← hs, if_pos hlt, h2, if_pos hs2, if_pos hd2]
        have hn : zt_n bb E k = s + 1 := by
          unfold zt_n
          rw [hz]
          show (zr_takeSign bb s).1 = s + 1
          unfold zr_takeSign
          repeat' split
          all_goals rfl
        have hp : zt_p bb E k = s := by unfold zt_p; rw [hz]
        have hsr : zt_s bb E k = if nI b = 59 then 4 else if nI b = 44 then 5 else 1 := by
          unfold zt_s
          rw [hz]
          show (zr_takeSign bb s).2 = _
          unfold zr_takeSign
          rw [h2]
          by_cases c1 : nI b = 59
          · rw [if_pos ((zy_b59 b hb).mp c1), if_pos c1]
          · rw [if_neg (fun z => c1 ((zy_b59 b hb).mpr z)), if_neg c1]
            by_cases c2 : nI b = 44
            · rw [if_pos ((zy_b44 b hb).mp c2), if_pos c2]
            · rw [if_neg (fun z => c2 ((zy_b44 b hb).mpr z)), if_neg c2]
        by_cases c59 : nI b = 59
        ·
          refine zx.adv 2 (f' := (4, [(0, .ref 69)], [.int (v 68 5)])) (h' := zH v w t) rfl ?_
          rw [show (v 68 5) = nI k from he]
          refine zx.adv 1 (f' := (5, [(0, .ref 69), (1, .int (nI k))], [])) (h' := zH v w t) rfl ?_
          refine zn_sk hZ hE9 hB (E + 1) k _ hk (by omega) ?_
          rw [← hs]
          refine zx.adv 5 (f' := (28, [(0, .ref 69), (1, .int (nI s))], [.int (nI s), .ref 69])) (h' := zH (zb v 68 (upd (v 68) 4 (nI s))) w t) rfl ?_
          refine zx.cl (v := some (.int (v 69 s))) (h' := zH (zb v 68 (upd (v 68) 4 (nI s))) w t) rfl (zs_msee_f (v := (zb v 68 (upd (v 68) 4 (nI s)))) (w := w) s E hZ hE9 hkE) ?_
          show zx zk_mt zk_ex Ls xs zm_122 (31, [(0, .ref 69), (1, .int (nI s))], [.int (v 69 s)]) (zH (zb v 68 (upd (v 68) 4 (nI s))) w t) _
          rw [show (v 69 s) = nI b from h1]
          refine zx.adv 9 (f' := (44, [(0, .ref 69), (1, .int (nI s)), (2, .int (nI b))], [.int (-1), .int (nI b)])) (h' := zH (zb v 68 (upd (upd (upd (v 68) 4 (nI s)) 7 0) 8 0)) w t) rfl ?_
          refine zx.br (f1 := (47, [(0, .ref 69), (1, .int (nI s)), (2, .int (nI b))], [])) (f2 := (60, [(0, .ref 69), (1, .int (nI s)), (2, .int (nI b))], [])) rfl (fun c1 => absurd (of_decide_eq_true c1) (zy_bm1 b hb)) (fun c1 => ?_)
          refine zx.adv 1 (f' := (61, [(0, .ref 69), (1, .int (nI s)), (2, .int (nI b))], [.int (nI b)])) (h' := zH (zb v 68 (upd (upd (upd (v 68) 4 (nI s)) 7 0) 8 0)) w t) rfl ?_
          refine zx.cl (v := some (.int (zr_misSmall (nI b)))) (h' := zH (zb v 68 (upd (upd (upd (v 68) 4 (nI s)) 7 0) 8 0)) w t) rfl (zs_misSmall (v := (zb v 68 (upd (upd (upd (v 68) 4 (nI s)) 7 0) 8 0))) (w := w) (nI b)) ?_
          show zx zk_mt zk_ex Ls xs zm_122 (64, [(0, .ref 69), (1, .int (nI s)), (2, .int (nI b))], [.int (zr_misSmall (nI b))]) (zH (zb v 68 (upd (upd (upd (v 68) 4 (nI s)) 7 0) 8 0)) w t) _
          refine zx.br (f1 := (143, [(0, .ref 69), (1, .int (nI s)), (2, .int (nI b))], [])) (f2 := (67, [(0, .ref 69), (1, .int (nI s))], [])) rfl (fun c2 => ?_) (fun c2 => absurd hs1 (of_decide_eq_false c2))
          refine zx.adv 1 (f' := (144, [(0, .ref 69), (1, .int (nI s)), (2, .int (nI b))], [.int (nI b)])) (h' := zH (zb v 68 (upd (upd (upd (v 68) 4 (nI s)) 7 0) 8 0)) w t) rfl ?_
          refine zx.cl (v := some (.int (zr_misDigit (nI b)))) (h' := zH (zb v 68 (upd (upd (upd (v 68) 4 (nI s)) 7 0) 8 0)) w t) rfl (zs_misDigit (v := (zb v 68 (upd (upd (upd (v 68) 4 (nI s)) 7 0) 8 0))) (w := w) (nI b)) ?_
          show zx zk_mt zk_ex Ls xs zm_122 (147, [(0, .ref 69), (1, .int (nI s)), (2, .int (nI b))], [.int (zr_misDigit (nI b))]) (zH (zb v 68 (upd (upd (upd (v 68) 4 (nI s)) 7 0) 8 0)) w t) _
          refine zx.br (f1 := (219, [(0, .ref 69), (1, .int (nI s)), (2, .int (nI b))], [])) (f2 := (150, [(0, .ref 69), (1, .int (nI s)), (2, .int (nI b))], [])) rfl (fun c3 => ?_) (fun c3 => absurd hd1 (of_decide_eq_false c3))
          refine zx.adv 4 (f' := (223, [(0, .ref 69), (1, .int (nI s)), (2, .int (nI b))], [.int ((nI s) + 1), .ref 69])) (h' := zH (zb v 68 (upd (upd (upd (v 68) 4 (nI s)) 7 0) 8 0)) w t) rfl ?_
          rw [show (nI s) + 1 = nI (s + 1) from nI_add s 1]
          refine zx.adv 4 (f' := (230, [(0, .ref 69), (1, .int (nI s)), (2, .int (nI b))], [.int 59, .int (nI b), .ref 69])) (h' := zH (zb v 68 (upd (upd (upd (upd (v 68) 4 (nI s)) 5 (nI (s + 1))) 7 0) 8 0)) w t) rfl ?_
          refine zx.br (f1 := (239, [(0, .ref 69), (1, .int (nI s)), (2, .int (nI b))], [.ref 69])) (f2 := (233, [(0, .ref 69), (1, .int (nI s)), (2, .int (nI b))], [.ref 69])) rfl (fun c4 => ?_) (fun c4 => absurd c59 (of_decide_eq_false c4))
          refine zx.adv 3 (f' := (247, [(0, .ref 69), (1, .int (nI s)), (2, .int (nI b))], [])) (h' := zH (zb v 68 (upd (upd (upd (upd (upd (v 68) 4 (nI s)) 5 (nI (s + 1))) 6 (nI b)) 7 0) 8 0)) w t) rfl ?_
          exact zx.rt rfl rfl ⟨(zb v 68 (upd (upd (upd (upd (upd (v 68) 4 (nI s)) 5 (nI (s + 1))) 6 (nI b)) 7 0) 8 0)), rfl, ⟨hk, hZ, by rw [hp]; rfl, by rw [hn]; rfl, by rw [hsr, if_pos c59, c59]; rfl, fun z => absurd z (by rw [hsr, if_pos c59]; decide), fun z => absurd z (by rw [hsr, if_pos c59]; decide), fun _ => by rw [hn]; omega, by rw [hp]; exact hsE, by rw [hsr, if_pos c59]; decide⟩, ⟨fun r h1 h2 => (zb_un (k := 68) (by omega)).trans rfl, fun j hj => (pk_un (k := 8) (by omega)).trans ((pk_un (k := 7) (by omega)).trans ((pk_un (k := 6) (by omega)).trans ((pk_un (k := 5) (by omega)).trans ((pk_un (k := 4) (by omega)).trans rfl))))⟩⟩
        · by_cases c44 : nI b = 44
          ·
            refine zx.adv 2 (f' := (4, [(0, .ref 69)], [.int (v 68 5)])) (h' := zH v w t) rfl ?_
            rw [show (v 68 5) = nI k from he]
            refine zx.adv 1 (f' := (5, [(0, .ref 69), (1, .int (nI k))], [])) (h' := zH v w t) rfl ?_
            refine zn_sk hZ hE9 hB (E + 1) k _ hk (by omega) ?_
            rw [← hs]
            refine zx.adv 5 (f' := (28, [(0, .ref 69), (1, .int (nI s))], [.int (nI s), .ref 69])) (h' := zH (zb v 68 (upd (v 68) 4 (nI s))) w t) rfl ?_
            refine zx.cl (v := some (.int (v 69 s))) (h' := zH (zb v 68 (upd (v 68) 4 (nI s))) w t) rfl (zs_msee_f (v := (zb v 68 (upd (v 68) 4 (nI s)))) (w := w) s E hZ hE9 hkE) ?_
            show zx zk_mt zk_ex Ls xs zm_122 (31, [(0, .ref 69), (1, .int (nI s))], [.int (v 69 s)]) (zH (zb v 68 (upd (v 68) 4 (nI s))) w t) _
            rw [show (v 69 s) = nI b from h1]
            refine zx.adv 9 (f' := (44, [(0, .ref 69), (1, .int (nI s)), (2, .int (nI b))], [.int (-1), .int (nI b)])) (h' := zH (zb v 68 (upd (upd (upd (v 68) 4 (nI s)) 7 0) 8 0)) w t) rfl ?_
            refine zx.br (f1 := (47, [(0, .ref 69), (1, .int (nI s)), (2, .int (nI b))], [])) (f2 := (60, [(0, .ref 69), (1, .int (nI s)), (2, .int (nI b))], [])) rfl (fun c1 => absurd (of_decide_eq_true c1) (zy_bm1 b hb)) (fun c1 => ?_)
            refine zx.adv 1 (f' := (61, [(0, .ref 69), (1, .int (nI s)), (2, .int (nI b))], [.int (nI b)])) (h' := zH (zb v 68 (upd (upd (upd (v 68) 4 (nI s)) 7 0) 8 0)) w t) rfl ?_
            refine zx.cl (v := some (.int (zr_misSmall (nI b)))) (h' := zH (zb v 68 (upd (upd (upd (v 68) 4 (nI s)) 7 0) 8 0)) w t) rfl (zs_misSmall (v := (zb v 68 (upd (upd (upd (v 68) 4 (nI s)) 7 0) 8 0))) (w := w) (nI b)) ?_
            show zx zk_mt zk_ex Ls xs zm_122 (64, [(0, .ref 69), (1, .int (nI s)), (2, .int (nI b))], [.int (zr_misSmall (nI b))]) (zH (zb v 68 (upd (upd (upd (v 68) 4 (nI s)) 7 0) 8 0)) w t) _
            refine zx.br (f1 := (143, [(0, .ref 69), (1, .int (nI s)), (2, .int (nI b))], [])) (f2 := (67, [(0, .ref 69), (1, .int (nI s))], [])) rfl (fun c2 => ?_) (fun c2 => absurd hs1 (of_decide_eq_false c2))
            refine zx.adv 1 (f' := (144, [(0, .ref 69), (1, .int (nI s)), (2, .int (nI b))], [.int (nI b)])) (h' := zH (zb v 68 (upd (upd (upd (v 68) 4 (nI s)) 7 0) 8 0)) w t) rfl ?_
            refine zx.cl (v := some (.int (zr_misDigit (nI b)))) (h' := zH (zb v 68 (upd (upd (upd (v 68) 4 (nI s)) 7 0) 8 0)) w t) rfl (zs_misDigit (v := (zb v 68 (upd (upd (upd (v 68) 4 (nI s)) 7 0) 8 0))) (w := w) (nI b)) ?_
            show zx zk_mt zk_ex Ls xs zm_122 (147, [(0, .ref 69), (1, .int (nI s)), (2, .int (nI b))], [.int (zr_misDigit (nI b))]) (zH (zb v 68 (upd (upd (upd (v 68) 4 (nI s)) 7 0) 8 0)) w t) _
            refine zx.br (f1 := (219, [(0, .ref 69), (1, .int (nI s)), (2, .int (nI b))], [])) (f2 := (150, [(0, .ref 69), (1, .int (nI s)), (2, .int (nI b))], [])) rfl (fun c3 => ?_) (fun c3 => absurd hd1 (of_decide_eq_false c3))
            refine zx.adv 4 (f' := (223, [(0, .ref 69), (1, .int (nI s)), (2, .int (nI b))], [.int ((nI s) + 1), .ref 69])) (h' := zH (zb v 68 (upd (upd (upd (v 68) 4 (nI s)) 7 0) 8 0)) w t) rfl ?_
            rw [show (nI s) + 1 = nI (s + 1) from nI_add s 1]
            refine zx.adv 4 (f' := (230, [(0, .ref 69), (1, .int (nI s)), (2, .int (nI b))], [.int 59, .int (nI b), .ref 69])) (h' := zH (zb v 68 (upd (upd (upd (upd (v 68) 4 (nI s)) 5 (nI (s + 1))) 7 0) 8 0)) w t) rfl ?_
            refine zx.br (f1 := (239, [(0, .ref 69), (1, .int (nI s)), (2, .int (nI b))], [.ref 69])) (f2 := (233, [(0, .ref 69), (1, .int (nI s)), (2, .int (nI b))], [.ref 69])) rfl (fun c4 => absurd (of_decide_eq_true c4) c59) (fun c4 => ?_)
            refine zx.adv 2 (f' := (236, [(0, .ref 69), (1, .int (nI s)), (2, .int (nI b))], [.int 44, .int (nI b), .ref 69])) (h' := zH (zb v 68 (upd (upd (upd (upd (v 68) 4 (nI s)) 5 (nI (s + 1))) 7 0) 8 0)) w t) rfl ?_
            refine zx.br (f1 := (239, [(0, .ref 69), (1, .int (nI s)), (2, .int (nI b))], [.ref 69])) (f2 := (243, [(0, .ref 69), (1, .int (nI s)), (2, .int (nI b))], [.ref 69])) rfl (fun c5 => ?_) (fun c5 => absurd c44 (of_decide_eq_false c5))
            refine zx.adv 3 (f' := (247, [(0, .ref 69), (1, .int (nI s)), (2, .int (nI b))], [])) (h' := zH (zb v 68 (upd (upd (upd (upd (upd (v 68) 4 (nI s)) 5 (nI (s + 1))) 6 (nI b)) 7 0) 8 0)) w t) rfl ?_
            exact zx.rt rfl rfl ⟨(zb v 68 (upd (upd (upd (upd (upd (v 68) 4 (nI s)) 5 (nI (s + 1))) 6 (nI b)) 7 0) 8 0)), rfl, ⟨hk, hZ, by rw [hp]; rfl, by rw [hn]; rfl, by rw [hsr, if_neg c59, if_pos c44, c44]; rfl, fun z => absurd z (by rw [hsr, if_neg c59, if_pos c44]; decide), fun z => absurd z (by rw [hsr, if_neg c59, if_pos c44]; decide), fun _ => by rw [hn]; omega, by rw [hp]; exact hsE, by rw [hsr, if_neg c59, if_pos c44]; decide⟩, ⟨fun r h1 h2 => (zb_un (k := 68) (by omega)).trans rfl, fun j hj => (pk_un (k := 8) (by omega)).trans ((pk_un (k := 7) (by omega)).trans ((pk_un (k := 6) (by omega)).trans ((pk_un (k := 5) (by omega)).trans ((pk_un (k := 4) (by omega)).trans rfl))))⟩⟩
          ·
            refine zx.adv 2 (f' := (4, [(0, .ref 69)], [.int (v 68 5)])) (h' := zH v w t) rfl ?_
            rw [show (v 68 5) = nI k from he]
            refine zx.adv 1 (f' := (5, [(0, .ref 69), (1, .int (nI k))], [])) (h' := zH v w t) rfl ?_
            refine zn_sk hZ hE9 hB (E + 1) k _ hk (by omega) ?_
            rw [← hs]
            refine zx.adv 5 (f' := (28, [(0, .ref 69), (1, .int (nI s))], [.int (nI s), .ref 69])) (h' := zH (zb v 68 (upd (v 68) 4 (nI s))) w t) rfl ?_
            refine zx.cl (v := some (.int (v 69 s))) (h' := zH (zb v 68 (upd (v 68) 4 (nI s))) w t) rfl (zs_msee_f (v := (zb v 68 (upd (v 68) 4 (nI s)))) (w := w) s E hZ hE9 hkE) ?_
            show zx zk_mt zk_ex Ls xs zm_122 (31, [(0, .ref 69), (1, .int (nI s))], [.int (v 69 s)]) (zH (zb v 68 (upd (v 68) 4 (nI s))) w t) _
            rw [show (v 69 s) = nI b from h1]
            refine zx.adv 9 (f' := (44, [(0, .ref 69), (1, .int (nI s)), (2, .int (nI b))], [.int (-1), .int (nI b)])) (h' := zH (zb v 68 (upd (upd (upd (v 68) 4 (nI s)) 7 0) 8 0)) w t) rfl ?_
            refine zx.br (f1 := (47, [(0, .ref 69), (1, .int (nI s)), (2, .int (nI b))], [])) (f2 := (60, [(0, .ref 69), (1, .int (nI s)), (2, .int (nI b))], [])) rfl (fun c1 => absurd (of_decide_eq_true c1) (zy_bm1 b hb)) (fun c1 => ?_)
            refine zx.adv 1 (f' := (61, [(0, .ref 69), (1, .int (nI s)), (2, .int (nI b))], [.int (nI b)])) (h' := zH (zb v 68 (upd (upd (upd (v 68) 4 (nI s)) 7 0) 8 0)) w t) rfl ?_
            refine zx.cl (v := some (.int (zr_misSmall (nI b)))) (h' := zH (zb v 68 (upd (upd (upd (v 68) 4 (nI s)) 7 0) 8 0)) w t) rfl (zs_misSmall (v := (zb v 68 (upd (upd (upd (v 68) 4 (nI s)) 7 0) 8 0))) (w := w) (nI b)) ?_
            show zx zk_mt zk_ex Ls xs zm_122 (64, [(0, .ref 69), (1, .int (nI s)), (2, .int (nI b))], [.int (zr_misSmall (nI b))]) (zH (zb v 68 (upd (upd (upd (v 68) 4 (nI s)) 7 0) 8 0)) w t) _
            refine zx.br (f1 := (143, [(0, .ref 69), (1, .int (nI s)), (2, .int (nI b))], [])) (f2 := (67, [(0, .ref 69), (1, .int (nI s))], [])) rfl (fun c2 => ?_) (fun c2 => absurd hs1 (of_decide_eq_false c2))
            refine zx.adv 1 (f' := (144, [(0, .ref 69), (1, .int (nI s)), (2, .int (nI b))], [.int (nI b)])) (h' := zH (zb v 68 (upd (upd (upd (v 68) 4 (nI s)) 7 0) 8 0)) w t) rfl ?_
            refine zx.cl (v := some (.int (zr_misDigit (nI b)))) (h' := zH (zb v 68 (upd (upd (upd (v 68) 4 (nI s)) 7 0) 8 0)) w t) rfl (zs_misDigit (v := (zb v 68 (upd (upd (upd (v 68) 4 (nI s)) 7 0) 8 0))) (w := w) (nI b)) ?_
            show zx zk_mt zk_ex Ls xs zm_122 (147, [(0, .ref 69), (1, .int (nI s)), (2, .int (nI b))], [.int (zr_misDigit (nI b))]) (zH (zb v 68 (upd (upd (upd (v 68) 4 (nI s)) 7 0) 8 0)) w t) _
            refine zx.br (f1 := (219, [(0, .ref 69), (1, .int (nI s)), (2, .int (nI b))], [])) (f2 := (150, [(0, .ref 69), (1, .int (nI s)), (2, .int (nI b))], [])) rfl (fun c3 => ?_) (fun c3 => absurd hd1 (of_decide_eq_false c3))
            refine zx.adv 4 (f' := (223, [(0, .ref 69), (1, .int (nI s)), (2, .int (nI b))], [.int ((nI s) + 1), .ref 69])) (h' := zH (zb v 68 (upd (upd (upd (v 68) 4 (nI s)) 7 0) 8 0)) w t) rfl ?_
            rw [show (nI s) + 1 = nI (s + 1) from nI_add s 1]
            refine zx.adv 4 (f' := (230, [(0, .ref 69), (1, .int (nI s)), (2, .int (nI b))], [.int 59, .int (nI b), .ref 69])) (h' := zH (zb v 68 (upd (upd (upd (upd (v 68) 4 (nI s)) 5 (nI (s + 1))) 7 0) 8 0)) w t) rfl ?_
            refine zx.br (f1 := (239, [(0, .ref 69), (1, .int (nI s)), (2, .int (nI b))], [.ref 69])) (f2 := (233, [(0, .ref 69), (1, .int (nI s)), (2, .int (nI b))], [.ref 69])) rfl (fun c4 => absurd (of_decide_eq_true c4) c59) (fun c4 => ?_)
            refine zx.adv 2 (f' := (236, [(0, .ref 69), (1, .int (nI s)), (2, .int (nI b))], [.int 44, .int (nI b), .ref 69])) (h' := zH (zb v 68 (upd (upd (upd (upd (v 68) 4 (nI s)) 5 (nI (s + 1))) 7 0) 8 0)) w t) rfl ?_
            refine zx.br (f1 := (239, [(0, .ref 69), (1, .int (nI s)), (2, .int (nI b))], [.ref 69])) (f2 := (243, [(0, .ref 69), (1, .int (nI s)), (2, .int (nI b))], [.ref 69])) rfl (fun c5 => absurd (of_decide_eq_true c5) c44) (fun c5 => ?_)
            refine zx.adv 2 (f' := (247, [(0, .ref 69), (1, .int (nI s)), (2, .int (nI b))], [])) (h' := zH (zb v 68 (upd (upd (upd (upd (upd (v 68) 4 (nI s)) 5 (nI (s + 1))) 6 1) 7 0) 8 0)) w t) rfl ?_
            exact zx.rt rfl rfl ⟨(zb v 68 (upd (upd (upd (upd (upd (v 68) 4 (nI s)) 5 (nI (s + 1))) 6 1) 7 0) 8 0)), rfl, ⟨hk, hZ, by rw [hp]; rfl, by rw [hn]; rfl, by rw [hsr, if_neg c59, if_neg c44]; rfl, fun z => absurd z (by rw [hsr, if_neg c59, if_neg c44]; decide), fun z => absurd z (by rw [hsr, if_neg c59, if_neg c44]; decide), fun _ => by rw [hn]; omega, by rw [hp]; exact hsE, by rw [hsr, if_neg c59, if_neg c44]; decide⟩, ⟨fun r h1 h2 => (zb_un (k := 68) (by omega)).trans rfl, fun j hj => (pk_un (k := 8) (by omega)).trans ((pk_un (k := 7) (by omega)).trans ((pk_un (k := 6) (by omega)).trans ((pk_un (k := 5) (by omega)).trans ((pk_un (k := 4) (by omega)).trans rfl))))⟩⟩
      · obtain ⟨L, va', wh', ⟨l1, l2, l3⟩, hzw, hi1, hQ⟩ := zn_tn (v := (zb v 68 (upd (upd (v 68) 4 (nI s)) 8 0))) (w := w) (t := t) (Ls := Ls) (xs := xs) (bb := bb) hZ hE9 hB s (E + 1) 0 0 0 hsE (by omega) (fun _ => ⟨0, by decide, rfl, rfl⟩)
        have hzw : zw (zl_tnG bb E) (E + 1) (s, 0) = (s + L, va') := hzw
        have hL1 : 1 ≤ L := by
          rcases Nat.eq_zero_or_pos L with z | z
          · rcases l3 z with q | q
            · omega
            · exact absurd (by rw [show s + 0 = s from rfl, h2] at q; exact q) hd2
          · exact z
        have hz : zr_advance bb E k = ((zr_takeWhole bb E s (nI s) 0).1, (zr_takeWhole bb E s (nI s) 0).2.1, s, (zr_takeWhole bb E s (nI s) 0).2.2) := by
          unfold zr_advance
          rw [← hs, if_pos hlt, h2, if_pos hs2, if_neg hd2]
        have hw : zr_takeWhole bb E s (nI s) 0 = (s + L, (if 3 < L then 1 else 3), va') := by
          unfold zr_takeWhole
          rw [hzw]
          dsimp only
          rw [show nI (s + L) - nI s = nI L by rw [Nat.add_comm, ← nI_add, Int32.add_sub_cancel]]
          by_cases c : 3 < L
          · rw [if_pos (show (3 : Int32) < nI L from nI_lt (a := 3) c (by omega)), if_pos c]
          · rw [if_neg (show ¬ (3 : Int32) < nI L from nI_nlt (b := L) (a := 3) (by omega) (by omega)), if_neg c]
        have hn : zt_n bb E k = s + L := by unfold zt_n; rw [hz, hw]
        have hp : zt_p bb E k = s := by unfold zt_p; rw [hz]
        have hsr : zt_s bb E k = if 3 < L then 1 else 3 := by unfold zt_s; rw [hz, hw]
        have hvv : zt_v bb E k = va' := by unfold zt_v; rw [hz, hw]
        refine zx.adv 2 (f' := (4, [(0, .ref 69)], [.int (v 68 5)])) (h' := zH v w t) rfl ?_
        rw [show (v 68 5) = nI k from he]
        refine zx.adv 1 (f' := (5, [(0, .ref 69), (1, .int (nI k))], [])) (h' := zH v w t) rfl ?_
        refine zn_sk hZ hE9 hB (E + 1) k _ hk (by omega) ?_
        rw [← hs]
        refine zx.adv 5 (f' := (28, [(0, .ref 69), (1, .int (nI s))], [.int (nI s), .ref 69])) (h' := zH (zb v 68 (upd (v 68) 4 (nI s))) w t) rfl ?_
        refine zx.cl (v := some (.int (v 69 s))) (h' := zH (zb v 68 (upd (v 68) 4 (nI s))) w t) rfl (zs_msee_f (v := (zb v 68 (upd (v 68) 4 (nI s)))) (w := w) s E hZ hE9 hkE) ?_
        show zx zk_mt zk_ex Ls xs zm_122 (31, [(0, .ref 69), (1, .int (nI s))], [.int (v 69 s)]) (zH (zb v 68 (upd (v 68) 4 (nI s))) w t) _
        rw [show (v 69 s) = nI b from h1]
        refine zx.adv 9 (f' := (44, [(0, .ref 69), (1, .int (nI s)), (2, .int (nI b))], [.int (-1), .int (nI b)])) (h' := zH (zb v 68 (upd (upd (upd (v 68) 4 (nI s)) 7 0) 8 0)) w t) rfl ?_
        refine zx.br (f1 := (47, [(0, .ref 69), (1, .int (nI s)), (2, .int (nI b))], [])) (f2 := (60, [(0, .ref 69), (1, .int (nI s)), (2, .int (nI b))], [])) rfl (fun c1 => absurd (of_decide_eq_true c1) (zy_bm1 b hb)) (fun c1 => ?_)
        refine zx.adv 1 (f' := (61, [(0, .ref 69), (1, .int (nI s)), (2, .int (nI b))], [.int (nI b)])) (h' := zH (zb v 68 (upd (upd (upd (v 68) 4 (nI s)) 7 0) 8 0)) w t) rfl ?_
        refine zx.cl (v := some (.int (zr_misSmall (nI b)))) (h' := zH (zb v 68 (upd (upd (upd (v 68) 4 (nI s)) 7 0) 8 0)) w t) rfl (zs_misSmall (v := (zb v 68 (upd (upd (upd (v 68) 4 (nI s)) 7 0) 8 0))) (w := w) (nI b)) ?_
        show zx zk_mt zk_ex Ls xs zm_122 (64, [(0, .ref 69), (1, .int (nI s)), (2, .int (nI b))], [.int (zr_misSmall (nI b))]) (zH (zb v 68 (upd (upd (upd (v 68) 4 (nI s)) 7 0) 8 0)) w t) _
        refine zx.br (f1 := (143, [(0, .ref 69), (1, .int (nI s)), (2, .int (nI b))], [])) (f2 := (67, [(0, .ref 69), (1, .int (nI s))], [])) rfl (fun c2 => ?_) (fun c2 => absurd hs1 (of_decide_eq_false c2))
        refine zx.adv 1 (f' := (144, [(0, .ref 69), (1, .int (nI s)), (2, .int (nI b))], [.int (nI b)])) (h' := zH (zb v 68 (upd (upd (upd (v 68) 4 (nI s)) 7 0) 8 0)) w t) rfl ?_
        refine zx.cl (v := some (.int (zr_misDigit (nI b)))) (h' := zH (zb v 68 (upd (upd (upd (v 68) 4 (nI s)) 7 0) 8 0)) w t) rfl (zs_misDigit (v := (zb v 68 (upd (upd (upd (v 68) 4 (nI s)) 7 0) 8 0))) (w := w) (nI b)) ?_
        show zx zk_mt zk_ex Ls xs zm_122 (147, [(0, .ref 69), (1, .int (nI s)), (2, .int (nI b))], [.int (zr_misDigit (nI b))]) (zH (zb v 68 (upd (upd (upd (v 68) 4 (nI s)) 7 0) 8 0)) w t) _
        refine zx.br (f1 := (219, [(0, .ref 69), (1, .int (nI s)), (2, .int (nI b))], [])) (f2 := (150, [(0, .ref 69), (1, .int (nI s)), (2, .int (nI b))], [])) rfl (fun c3 => absurd (of_decide_eq_true c3) (by rw [hd1]; decide)) (fun c3 => ?_)
        refine zx.adv 2 (f' := (152, [(0, .ref 69), (1, .int (nI s)), (3, .int 0)], [])) (h' := zH (zb v 68 (upd (upd (upd (v 68) 4 (nI s)) 7 0) 8 0)) w t) rfl ?_
        refine hQ _ ?_
        show zx zk_mt zk_ex Ls xs zm_122 (197, [(0, .ref 69), (1, .int (nI (s + L))), (3, .int (nI L))], []) (zH (zb v 68 (upd (upd (upd (v 68) 4 (nI s)) 7 wh') 8 0)) w t) _
        refine zx.adv 6 (f' := (205, [(0, .ref 69), (1, .int (nI (s + L))), (3, .int (nI L))], [.int 3, .int (nI L), .ref 69])) (h' := zH (zb v 68 (upd (upd (upd (upd (v 68) 4 (nI s)) 5 (nI (s + L))) 7 wh') 8 0)) w t) rfl ?_
        refine zx.br (f1 := (212, [(0, .ref 69), (1, .int (nI (s + L))), (3, .int (nI L))], [.ref 69])) (f2 := (208, [(0, .ref 69), (1, .int (nI (s + L))), (3, .int (nI L))], [.ref 69])) rfl (fun c4 => ?_) (fun c4 => ?_)
        · have c4 : (nI L) ≤ 3 := of_decide_eq_true c4
          refine zx.adv 3 (f' := (247, [(0, .ref 69), (1, .int (nI (s + L))), (3, .int (nI L))], [])) (h' := zH (zb v 68 (upd (upd (upd (upd (upd (v 68) 4 (nI s)) 5 (nI (s + L))) 6 3) 7 wh') 8 0)) w t) rfl ?_
          exact zx.rt rfl rfl ⟨(zb v 68 (upd (upd (upd (upd (upd (v 68) 4 (nI s)) 5 (nI (s + L))) 6 3) 7 wh') 8 0)), rfl, ⟨hk, hZ, by rw [hp]; rfl, by rw [hn]; rfl, by rw [hsr, if_neg (show ¬ 3 < L from fun z => nI_ge (a := 3) z (by omega) c4)]; rfl, fun _ => zn_wh hi1 ((nI_leI (b := 3) (by omega) (by decide)).mp c4) hvv, fun z => absurd z (by rw [hsr]; split <;> decide), fun _ => by rw [hn]; omega, by rw [hp]; exact hsE, by rw [hsr]; split <;> decide⟩, ⟨fun r h1 h2 => (zb_un (k := 68) (by omega)).trans rfl, fun j hj => (pk_un (k := 8) (by omega)).trans ((pk_un (k := 7) (by omega)).trans ((pk_un (k := 6) (by omega)).trans ((pk_un (k := 5) (by omega)).trans ((pk_un (k := 4) (by omega)).trans rfl))))⟩⟩
        · have c4 : ¬ ((nI L) ≤ 3) := of_decide_eq_false c4
          refine zx.adv 4 (f' := (247, [(0, .ref 69), (1, .int (nI (s + L))), (3, .int (nI L))], [])) (h' := zH (zb v 68 (upd (upd (upd (upd (upd (v 68) 4 (nI s)) 5 (nI (s + L))) 6 1) 7 wh') 8 0)) w t) rfl ?_
          exact zx.rt rfl rfl ⟨(zb v 68 (upd (upd (upd (upd (upd (v 68) 4 (nI s)) 5 (nI (s + L))) 6 1) 7 wh') 8 0)), rfl, ⟨hk, hZ, by rw [hp]; rfl, by rw [hn]; rfl, by rw [hsr, if_pos (show 3 < L from Nat.lt_of_not_le (fun z => c4 (nI_le (b := 3) z (by decide))))]; rfl, fun z => absurd z (by rw [hsr, if_pos (show 3 < L from Nat.lt_of_not_le (fun z => c4 (nI_le (b := 3) z (by decide))))]; decide), fun z => absurd z (by rw [hsr]; split <;> decide), fun _ => by rw [hn]; omega, by rw [hp]; exact hsE, by rw [hsr]; split <;> decide⟩, ⟨fun r h1 h2 => (zb_un (k := 68) (by omega)).trans rfl, fun j hj => (pk_un (k := 8) (by omega)).trans ((pk_un (k := 7) (by omega)).trans ((pk_un (k := 6) (by omega)).trans ((pk_un (k := 5) (by omega)).trans ((pk_un (k := 4) (by omega)).trans rfl))))⟩⟩
    · obtain ⟨L, va', f', ⟨l1, l2, l3⟩, hzw, ⟨hi1, hi2⟩, hQ⟩ := zn_tw (v := (zb v 68 (upd (upd (v 68) 4 (nI s)) 7 0))) (w := w) (t := t) (Ls := Ls) (xs := xs) (bb := bb) hZ hE9 hB s (E + 1) 0 0 (v 70) hsE (by omega) ⟨fun i hi => by omega, fun _ => rfl⟩
      have hzw : zw (zl_twG bb E) (E + 1) (s, 0) = (s + L, va') := hzw
      have hL1 : 1 ≤ L := by
        rcases Nat.eq_zero_or_pos L with z | z
        · rcases l3 z with q | q
          · omega
          · exact absurd (by rw [show s + 0 = s from rfl, h2] at q; exact q) hs2
        · exact z
      have hz : zr_advance bb E k = ((zr_takeWord bb E s (nI s) 0).1, (zr_takeWord bb E s (nI s) 0).2.1, s, (zr_takeWord bb E s (nI s) 0).2.2) := by
        unfold zr_advance
        rw [← hs, if_pos hlt, h2, if_neg hs2]
      have hw : zr_takeWord bb E s (nI s) 0 = (s + L, (if 8 < L then 1 else 2), va') := by
        unfold zr_takeWord
        rw [hzw]
        dsimp only
        rw [show nI (s + L) - nI s = nI L by rw [Nat.add_comm, ← nI_add, Int32.add_sub_cancel]]
        by_cases c : 8 < L
        · rw [if_pos (show (8 : Int32) < nI L from nI_lt (a := 8) c (by omega)), if_pos c]
        · rw [if_neg (show ¬ (8 : Int32) < nI L from nI_nlt (b := L) (a := 8) (by omega) (by omega)), if_neg c]
      have hn : zt_n bb E k = s + L := by unfold zt_n; rw [hz, hw]
      have hp : zt_p bb E k = s := by unfold zt_p; rw [hz]
      have hsr : zt_s bb E k = if 8 < L then 1 else 2 := by unfold zt_s; rw [hz, hw]
      have hvv : zt_v bb E k = va' := by unfold zt_v; rw [hz, hw]
      refine zx.adv 2 (f' := (4, [(0, .ref 69)], [.int (v 68 5)])) (h' := zH v w t) rfl ?_
      rw [show (v 68 5) = nI k from he]
      refine zx.adv 1 (f' := (5, [(0, .ref 69), (1, .int (nI k))], [])) (h' := zH v w t) rfl ?_
      refine zn_sk hZ hE9 hB (E + 1) k _ hk (by omega) ?_
      rw [← hs]
      refine zx.adv 5 (f' := (28, [(0, .ref 69), (1, .int (nI s))], [.int (nI s), .ref 69])) (h' := zH (zb v 68 (upd (v 68) 4 (nI s))) w t) rfl ?_
      refine zx.cl (v := some (.int (v 69 s))) (h' := zH (zb v 68 (upd (v 68) 4 (nI s))) w t) rfl (zs_msee_f (v := (zb v 68 (upd (v 68) 4 (nI s)))) (w := w) s E hZ hE9 hkE) ?_
      show zx zk_mt zk_ex Ls xs zm_122 (31, [(0, .ref 69), (1, .int (nI s))], [.int (v 69 s)]) (zH (zb v 68 (upd (v 68) 4 (nI s))) w t) _
      rw [show (v 69 s) = nI b from h1]
      refine zx.adv 9 (f' := (44, [(0, .ref 69), (1, .int (nI s)), (2, .int (nI b))], [.int (-1), .int (nI b)])) (h' := zH (zb v 68 (upd (upd (upd (v 68) 4 (nI s)) 7 0) 8 0)) w t) rfl ?_
      refine zx.br (f1 := (47, [(0, .ref 69), (1, .int (nI s)), (2, .int (nI b))], [])) (f2 := (60, [(0, .ref 69), (1, .int (nI s)), (2, .int (nI b))], [])) rfl (fun c1 => absurd (of_decide_eq_true c1) (zy_bm1 b hb)) (fun c1 => ?_)
      refine zx.adv 1 (f' := (61, [(0, .ref 69), (1, .int (nI s)), (2, .int (nI b))], [.int (nI b)])) (h' := zH (zb v 68 (upd (upd (upd (v 68) 4 (nI s)) 7 0) 8 0)) w t) rfl ?_
      refine zx.cl (v := some (.int (zr_misSmall (nI b)))) (h' := zH (zb v 68 (upd (upd (upd (v 68) 4 (nI s)) 7 0) 8 0)) w t) rfl (zs_misSmall (v := (zb v 68 (upd (upd (upd (v 68) 4 (nI s)) 7 0) 8 0))) (w := w) (nI b)) ?_
      show zx zk_mt zk_ex Ls xs zm_122 (64, [(0, .ref 69), (1, .int (nI s)), (2, .int (nI b))], [.int (zr_misSmall (nI b))]) (zH (zb v 68 (upd (upd (upd (v 68) 4 (nI s)) 7 0) 8 0)) w t) _
      refine zx.br (f1 := (143, [(0, .ref 69), (1, .int (nI s)), (2, .int (nI b))], [])) (f2 := (67, [(0, .ref 69), (1, .int (nI s))], [])) rfl (fun c2 => absurd (of_decide_eq_true c2) (by rw [hs1]; decide)) (fun c2 => ?_)
      refine hQ _ ?_
      show zx zk_mt zk_ex Ls xs zm_122 (117, [(0, .ref 69), (1, .int (nI (s + L)))], []) (zH (zb (zb v 68 (upd (upd (upd (v 68) 4 (nI s)) 7 0) 8 (nI L))) 70 f') w t) _
      refine zx.adv 7 (f' := (129, [(0, .ref 69), (1, .int (nI (s + L)))], [.int 8, .int (nI L), .ref 69])) (h' := zH (zb (zb v 68 (upd (upd (upd (upd (v 68) 4 (nI s)) 5 (nI (s + L))) 7 0) 8 (nI L))) 70 f') w t) rfl ?_
      refine zx.br (f1 := (136, [(0, .ref 69), (1, .int (nI (s + L)))], [.ref 69])) (f2 := (132, [(0, .ref 69), (1, .int (nI (s + L)))], [.ref 69])) rfl (fun c3 => ?_) (fun c3 => ?_)
      · have c3 : (nI L) ≤ 8 := of_decide_eq_true c3
        refine zx.adv 3 (f' := (247, [(0, .ref 69), (1, .int (nI (s + L)))], [])) (h' := zH (zb (zb v 68 (upd (upd (upd (upd (upd (v 68) 4 (nI s)) 5 (nI (s + L))) 6 2) 7 0) 8 (nI L))) 70 f') w t) rfl ?_
        exact zx.rt rfl rfl ⟨(zb (zb v 68 (upd (upd (upd (upd (upd (v 68) 4 (nI s)) 5 (nI (s + L))) 6 2) 7 0) 8 (nI L))) 70 f'), rfl, ⟨hk, hZ, by rw [hp]; rfl, by rw [hn]; rfl, by rw [hsr, if_neg (show ¬ 8 < L from fun z => nI_ge (a := 8) z (by omega) c3)]; rfl, fun z => absurd z (by rw [hsr]; split <;> decide), fun _ => ⟨L, ⟨by omega, (nI_leI (b := 8) (by omega) (by decide)).mp c3⟩, rfl, fun i hi => hi1 i hi (Nat.lt_of_lt_of_le hi ((nI_leI (b := 8) (by omega) (by decide)).mp c3)), hvv.trans (hi2 ((nI_leI (b := 8) (by omega) (by decide)).mp c3))⟩, fun _ => by rw [hn]; omega, by rw [hp]; exact hsE, by rw [hsr]; split <;> decide⟩, ⟨fun r h1 h2 => (zb_un (k := 70) (by omega)).trans ((zb_un (k := 68) (by omega)).trans rfl), fun j hj => (pk_un (k := 8) (by omega)).trans ((pk_un (k := 7) (by omega)).trans ((pk_un (k := 6) (by omega)).trans ((pk_un (k := 5) (by omega)).trans ((pk_un (k := 4) (by omega)).trans rfl))))⟩⟩
      · have c3 : ¬ ((nI L) ≤ 8) := of_decide_eq_false c3
        refine zx.adv 4 (f' := (247, [(0, .ref 69), (1, .int (nI (s + L)))], [])) (h' := zH (zb (zb v 68 (upd (upd (upd (upd (upd (v 68) 4 (nI s)) 5 (nI (s + L))) 6 1) 7 0) 8 (nI L))) 70 f') w t) rfl ?_
        exact zx.rt rfl rfl ⟨(zb (zb v 68 (upd (upd (upd (upd (upd (v 68) 4 (nI s)) 5 (nI (s + L))) 6 1) 7 0) 8 (nI L))) 70 f'), rfl, ⟨hk, hZ, by rw [hp]; rfl, by rw [hn]; rfl, by rw [hsr, if_pos (show 8 < L from Nat.lt_of_not_le (fun z => c3 (nI_le (b := 8) z (by decide))))]; rfl, fun z => absurd z (by rw [hsr]; split <;> decide), fun z => absurd z (by rw [hsr, if_pos (show 8 < L from Nat.lt_of_not_le (fun z => c3 (nI_le (b := 8) z (by decide))))]; decide), fun _ => by rw [hn]; omega, by rw [hp]; exact hsE, by rw [hsr]; split <;> decide⟩, ⟨fun r h1 h2 => (zb_un (k := 70) (by omega)).trans ((zb_un (k := 68) (by omega)).trans rfl), fun j hj => (pk_un (k := 8) (by omega)).trans ((pk_un (k := 7) (by omega)).trans ((pk_un (k := 6) (by omega)).trans ((pk_un (k := 5) (by omega)).trans ((pk_un (k := 4) (by omega)).trans rfl))))⟩⟩
  · have hlt : ¬ nI s < nI E := nI_nlt (by omega) (by omega)
    have hz : zr_advance bb E k = (s, 0, s, 0) := by
      unfold zr_advance
      rw [← hs, if_neg hlt]
    have hn : zt_n bb E k = s := by unfold zt_n; rw [hz]
    have hp : zt_p bb E k = s := by unfold zt_p; rw [hz]
    have hsr : zt_s bb E k = 0 := by unfold zt_s; rw [hz]
    refine zx.adv 2 (f' := (4, [(0, .ref 69)], [.int (v 68 5)])) (h' := zH v w t) rfl ?_
    rw [show (v 68 5) = nI k from he]
    refine zx.adv 1 (f' := (5, [(0, .ref 69), (1, .int (nI k))], [])) (h' := zH v w t) rfl ?_
    refine zn_sk hZ hE9 hB (E + 1) k _ hk (by omega) ?_
    rw [← hs]
    refine zx.adv 5 (f' := (28, [(0, .ref 69), (1, .int (nI s))], [.int (nI s), .ref 69])) (h' := zH (zb v 68 (upd (v 68) 4 (nI s))) w t) rfl ?_
    refine zx.cl (v := some (.int (-1))) (h' := zH (zb v 68 (upd (v 68) 4 (nI s))) w t) rfl (zs_msee_t (v := (zb v 68 (upd (v 68) 4 (nI s)))) (w := w) s E hZ (by omega) (by omega)) ?_
    show zx zk_mt zk_ex Ls xs zm_122 (31, [(0, .ref 69), (1, .int (nI s))], [.int (-1)]) (zH (zb v 68 (upd (v 68) 4 (nI s))) w t) _
    refine zx.adv 9 (f' := (44, [(0, .ref 69), (1, .int (nI s)), (2, .int (-1))], [.int (-1), .int (-1)])) (h' := zH (zb v 68 (upd (upd (upd (v 68) 4 (nI s)) 7 0) 8 0)) w t) rfl ?_
    refine zx.br (f1 := (47, [(0, .ref 69), (1, .int (nI s)), (2, .int (-1))], [])) (f2 := (60, [(0, .ref 69), (1, .int (nI s)), (2, .int (-1))], [])) rfl (fun c1 => ?_) (fun c1 => absurd rfl (of_decide_eq_false c1))
    refine zx.adv 7 (f' := (247, [(0, .ref 69), (1, .int (nI s)), (2, .int (-1))], [])) (h' := zH (zb v 68 (upd (upd (upd (upd (upd (v 68) 4 (nI s)) 5 (nI s)) 6 0) 7 0) 8 0)) w t) rfl ?_
    exact zx.rt rfl rfl ⟨(zb v 68 (upd (upd (upd (upd (upd (v 68) 4 (nI s)) 5 (nI s)) 6 0) 7 0) 8 0)), rfl, ⟨hk, hZ, by rw [hp]; rfl, by rw [hn]; rfl, by rw [hsr]; rfl, fun z => absurd (hsr.symm.trans z) (by decide), fun z => absurd (hsr.symm.trans z) (by decide), fun z => absurd hsr z, by rw [hp]; exact hsE, Or.inl hsr⟩, ⟨fun r h1 h2 => (zb_un (k := 68) (by omega)).trans rfl, fun j hj => (pk_un (k := 8) (by omega)).trans ((pk_un (k := 7) (by omega)).trans ((pk_un (k := 6) (by omega)).trans ((pk_un (k := 5) (by omega)).trans ((pk_un (k := 4) (by omega)).trans rfl))))⟩⟩
end Z59
