/-! the reference's list of dangers -/
def zzc (T : Nat) : Nat := 8 - (T % 2 + T / 2 % 2 + T / 4 % 2 + T / 8 % 2 + T / 16 % 2 + T / 32 % 2 + T / 64 % 2 + T / 128 % 2)
theorem zz_step : ∀ T, T < 256 → ∀ x, x < 8 → ((nI T >>> (nI x &&& 31)) &&& 1 = 0 → nI T ||| ((1 : Int32) <<< (nI x &&& 31)) = nI (T + 2 ^ x) ∧ T + 2 ^ x < 256 ∧ zzc (T + 2 ^ x) < zzc T ∧ T / 2 ^ x % 2 = 0) := by decide +kernel
theorem zz_bit : ∀ T, T < 256 → ∀ x, x < 8 → ((nI T >>> (nI x &&& 31)) &&& 1 = 0 ∨ (nI T >>> (nI x &&& 31)) &&& 1 = 1) := by decide +kernel
theorem zz_lt : ∀ a, a < 9 → ∀ x, x < a → ∀ T, T < 2 ^ a → T / 2 ^ x % 2 = 0 → T + 2 ^ x < 2 ^ a := by decide +kernel
theorem zt_tok5 {s : Int32} (h : s = 0 ∨ s = 1 ∨ s = 2 ∨ s = 3 ∨ s = 4 ∨ s = 5) : (zt_tok s = 44 ↔ s = 5) ∧ (zt_tok s = 59 ↔ s = 4) ∧ (zt_tok s = 0 ↔ s = 0) := by
  rcases h with h | h | h | h | h | h <;> rw [h] <;> decide
theorem zp_see_lt {tn : Nat → Nat} {ts : Nat → Int32} {tp : Nat → Nat} {tv : Nat → Int64} {lo hi k x : Nat} {S : Nat → Int64} (h : zp_see tn ts tp tv lo hi S k = .inl x) : lo + x < hi ∧ S (lo + x) = tv k ∧ ts k = 2 ∧ lo + x < 17 := by
  unfold zp_see at h
  split at h
  · cases h
  · rename_i hn
    cases hf : zp_find S (tv k) with
    | none => rw [hf] at h; cases h
    | some s =>
      rw [hf] at h
      dsimp only at h
      split at h
      · rename_i hc
        have e := Sum.inl.inj h
        have hs := zp_find_some hf
        exact ⟨by omega, by rw [show lo + x = s by omega]; exact hs.2, zr_isName2 hn, by omega⟩
      · cases h
theorem zp_dng_lt {tn : Nat → Nat} {ts : Nat → Int32} {tp : Nat → Nat} {tv : Nat → Int64} {S : Nat → Int64} {a E : Nat} (ha : a ≤ 8) (hS : ∀ s, s < 8 → S s ≠ 0 → s < a) (hT : zt_ok tn ts tv E) (hE : ∀ k, k ≤ E → tn k ≤ E) : ∀ (n T k k1 : Nat) (b : Int32), k ≤ E → T < 2 ^ a → zp_dng tn ts tp tv S n (nI T) k = .inl (k1, b) → ∃ T', T' < 2 ^ a ∧ b = nI T' := by
  intro n
  induction n with
  | zero => intro T k k1 b _ _ h; cases h
  | succ n ih =>
    intro T k k1 b hk hlt h
    have h256 : T < 256 := Nat.lt_of_lt_of_le hlt (Nat.pow_le_pow_right (n := 2) (by decide) ha)
    unfold zp_dng at h
    cases hz : zp_see tn ts tp tv 0 8 S k with
    | inr e => rw [hz] at h; cases h
    | inl x =>
      rw [hz] at h
      dsimp only at h
      obtain ⟨q1, q2, q3, _⟩ := zp_see_lt hz
      have hx : x < 8 := by omega
      have hxa : x < a := hS x hx (by rw [show x = 0 + x by omega, q2]; exact hT.1 k hk q3)
      by_cases c : (nI T >>> (nI x &&& 31)) &&& 1 = 0
      · obtain ⟨e1, e2, _, e4⟩ := zz_step T h256 x hx c
        have h3 := zz_lt a (by omega) x hxa T hlt e4
        rw [if_pos c, e1] at h
        split at h
        · exact ih (T + 2 ^ x) _ _ _ (hE _ (hE _ hk)) h3 h
        · cases h
          exact ⟨_, h3, rfl⟩
      · rw [if_neg c] at h
        cases h
section Z62
variable {Ls : Nat} {xs : Nat → Int32} {v u : Nat → Nat → Int32} {w : Nat → Nat → Int64} {t : zk_H}
variable {tn : Nat → Nat} {ts : Nat → Int32} {tp : Nat → Nat} {tv : Nat → Int64} {E : Nat} {B : Nat → Int32}
theorem zn_dl (hM : zk_MA Ls xs tn ts tp tv E B) {S : Nat → Int64} : ∀ (n T k : Nat) (u : Nat → Nat → Int32), zMs tn ts tp tv E B k u → zRN S (u 72) → T < 256 → zzc T < n → ∃ (u' : Nat → Nat → Int32) (r : Int32), zMg u u' ∧ (match zp_dng tn ts tp tv S n (nI T) k with
    | .inl (k2, b) => r = b ∧ zMs tn ts tp tv E B k2 u'
    | .inr (f, p) => zMx f p u') ∧ ∀ Q : Option Value × zk_H → Prop, Q (some (.int r), zH u' w t) → zx zk_mt zk_ex Ls xs zm_299 (20, [(0, .ref 69), (2, .int (nI T)), (3, .int 1)], []) (zH u w t) Q := by
  intro n
  induction n with
  | zero => intro T k u _ _ _ h; omega
  | succ n ih =>
    intro T k u hs hN hT hz
    obtain ⟨u1, hq1, hg1, hr1⟩ := zm_dangerHere (Ls := Ls) (xs := xs) (w := w) (t := t) hs hN
    unfold zp_dng
    cases hsee : zp_see tn ts tp tv 0 8 S k with
    | inr e =>
      obtain ⟨f, p⟩ := e
      rw [hsee] at hq1 hr1
      have hx1 : zMx f p u1 := hr1
      refine ⟨u1, (nI T) ||| ((1 : Int32) <<< ((0 : Int32) &&& 31)), hg1, hx1, fun Q hq => ?_⟩
      refine zx.adv 1 (f' := (21, [(0, .ref 69), (2, .int (nI T)), (3, .int 1)], [.int 1])) (h' := zH u w t) rfl ?_
      refine zx.br (f1 := (99, [(0, .ref 69), (2, .int (nI T)), (3, .int 1)], [])) (f2 := (24, [(0, .ref 69), (2, .int (nI T)), (3, .int 1)], [])) rfl (fun c1 => absurd (of_decide_eq_true c1) (by decide)) (fun c1 => ?_)
      refine zx.adv 1 (f' := (25, [(0, .ref 69), (2, .int (nI T)), (3, .int 1)], [.ref 69])) (h' := zH u w t) rfl ?_
      refine zx.cl (v := some (.int 0)) (h' := zH u1 w t) rfl hq1 ?_
      show zx zk_mt zk_ex Ls xs zm_299 (28, [(0, .ref 69), (2, .int (nI T)), (3, .int 1)], [.int 0]) (zH u1 w t) _
      refine zx.adv 3 (f' := (34, [(0, .ref 69), (2, .int (nI T)), (3, .int 1), (4, .int 0)], [.int (u1 68 13)])) (h' := zH u1 w t) rfl ?_
      rw [show (u1 68 13) = 1 from hx1.1]
      refine zx.br (f1 := (37, [(0, .ref 69), (2, .int (nI T)), (3, .int 1), (4, .int 0)], [])) (f2 := (55, [(0, .ref 69), (2, .int (nI T)), (3, .int 1), (4, .int 0)], [])) rfl (fun c2 => absurd (of_decide_eq_true c2) (by decide)) (fun c2 => ?_)
      refine zx.adv 1 (f' := (56, [(0, .ref 69), (2, .int (nI T)), (3, .int 1), (4, .int 0)], [.ref 69])) (h' := zH u1 w t) rfl ?_
      refine zx.cl (v := none) (h' := zH u1 w t) rfl (zm_pass_x hx1.1) ?_
      show zx zk_mt zk_ex Ls xs zm_299 (59, [(0, .ref 69), (2, .int (nI T)), (3, .int 1), (4, .int 0)], []) (zH u1 w t) _
      refine zx.adv 8 (f' := (70, [(0, .ref 69), (2, .int ((nI T) ||| ((1 : Int32) <<< ((0 : Int32) &&& 31)))), (3, .int 1), (4, .int 0)], [.int (u1 68 13)])) (h' := zH u1 w t) rfl ?_
      rw [show (u1 68 13) = 1 from hx1.1]
      refine zx.br (f1 := (73, [(0, .ref 69), (2, .int ((nI T) ||| ((1 : Int32) <<< ((0 : Int32) &&& 31)))), (3, .int 1), (4, .int 0)], [])) (f2 := (86, [(0, .ref 69), (2, .int ((nI T) ||| ((1 : Int32) <<< ((0 : Int32) &&& 31)))), (3, .int 1), (4, .int 0)], [])) rfl (fun c3 => absurd (of_decide_eq_true c3) (by decide)) (fun c3 => ?_)
      refine zx.adv 3 (f' := (89, [(0, .ref 69), (2, .int ((nI T) ||| ((1 : Int32) <<< ((0 : Int32) &&& 31)))), (3, .int 0), (4, .int 0)], [.int 0])) (h' := zH u1 w t) rfl ?_
      refine zx.br (f1 := (96, [(0, .ref 69), (2, .int ((nI T) ||| ((1 : Int32) <<< ((0 : Int32) &&& 31)))), (3, .int 0), (4, .int 0)], [])) (f2 := (92, [(0, .ref 69), (2, .int ((nI T) ||| ((1 : Int32) <<< ((0 : Int32) &&& 31)))), (3, .int 0), (4, .int 0)], [])) rfl (fun c4 => ?_) (fun c4 => absurd (by decide) (of_decide_eq_false c4))
      refine zx.adv 2 (f' := (21, [(0, .ref 69), (2, .int ((nI T) ||| ((1 : Int32) <<< ((0 : Int32) &&& 31)))), (3, .int 0)], [.int 0])) (h' := zH u1 w t) rfl ?_
      refine zx.br (f1 := (99, [(0, .ref 69), (2, .int ((nI T) ||| ((1 : Int32) <<< ((0 : Int32) &&& 31)))), (3, .int 0)], [])) (f2 := (24, [(0, .ref 69), (2, .int ((nI T) ||| ((1 : Int32) <<< ((0 : Int32) &&& 31)))), (3, .int 0)], [])) rfl (fun c5 => ?_) (fun c5 => absurd (by decide) (of_decide_eq_false c5))
      refine zx.adv 1 (f' := (100, [(0, .ref 69), (2, .int ((nI T) ||| ((1 : Int32) <<< ((0 : Int32) &&& 31)))), (3, .int 0)], [.int ((nI T) ||| ((1 : Int32) <<< ((0 : Int32) &&& 31)))])) (h' := zH u1 w t) rfl ?_
      exact zx.rt rfl rfl hq
    | inl x =>
      rw [hsee] at hq1 hr1
      have hu : u1 = u := hr1
      rw [hu] at hq1
      have hx8 : x < 8 := by have := (zp_see_lt hsee).1; omega
      dsimp only
      by_cases c : (nI T >>> (nI x &&& 31)) &&& 1 = 0
      · have hbt : zr_mhasBit (nI T) (nI x) = 0 := by unfold zr_mhasBit; rw [c]; rfl
        obtain ⟨e1, e2, e3, _⟩ := zz_step T hT x hx8 c
        obtain ⟨u2, hq2, hg2, hs2⟩ := zm_pass (w := w) (t := t) hM hs
        rw [if_pos c, e1]
        have hts := hs2.1.2.2.2.2.2.2.2.2.2
        have htok := hs2.1.2.2.2.2.1
        by_cases c5 : ts (tn k) = 5
        · rw [if_pos c5]
          have htk : u2 68 6 = 44 := by rw [htok]; exact (zt_tok5 hts).1.mpr c5
          obtain ⟨u3, hq3, hg3, hs3⟩ := zm_next (w := w) (t := t) hM hs2
          obtain ⟨u4, r, hg4, hr4, hQ⟩ := ih (T + 2 ^ x) (tn (tn k)) u3 hs3 (by rw [hg3.1 72 (by decide) (by decide), hg2.1 72 (by decide) (by decide)]; exact hN) e2 (by omega)
          refine ⟨u4, r, (hg2.trans hg3).trans hg4, hr4, fun Q hq => ?_⟩
          refine zx.adv 1 (f' := (21, [(0, .ref 69), (2, .int (nI T)), (3, .int 1)], [.int 1])) (h' := zH u w t) rfl ?_
          refine zx.br (f1 := (99, [(0, .ref 69), (2, .int (nI T)), (3, .int 1)], [])) (f2 := (24, [(0, .ref 69), (2, .int (nI T)), (3, .int 1)], [])) rfl (fun c1 => absurd (of_decide_eq_true c1) (by decide)) (fun c1 => ?_)
          refine zx.adv 1 (f' := (25, [(0, .ref 69), (2, .int (nI T)), (3, .int 1)], [.ref 69])) (h' := zH u w t) rfl ?_
          refine zx.cl (v := some (.int (nI x))) (h' := zH u w t) rfl hq1 ?_
          show zx zk_mt zk_ex Ls xs zm_299 (28, [(0, .ref 69), (2, .int (nI T)), (3, .int 1)], [.int (nI x)]) (zH u w t) _
          refine zx.adv 3 (f' := (34, [(0, .ref 69), (2, .int (nI T)), (3, .int 1), (4, .int (nI x))], [.int (u 68 13)])) (h' := zH u w t) rfl ?_
          rw [show (u 68 13) = 0 from hs.2.2]
          refine zx.br (f1 := (37, [(0, .ref 69), (2, .int (nI T)), (3, .int 1), (4, .int (nI x))], [])) (f2 := (55, [(0, .ref 69), (2, .int (nI T)), (3, .int 1), (4, .int (nI x))], [])) rfl (fun c2 => ?_) (fun c2 => absurd (by decide) (of_decide_eq_false c2))
          refine zx.adv 2 (f' := (40, [(0, .ref 69), (2, .int (nI T)), (3, .int 1), (4, .int (nI x))], [.int (nI x), .int (nI T)])) (h' := zH u w t) rfl ?_
          refine zx.cl (v := some (.int 0)) (h' := zH u w t) rfl (by have ee := zs_mhasBit (v := u) (w := w) (t := t) (Ls := Ls) (xs := xs) (nI T) (nI x); rw [hbt] at ee; exact ee) ?_
          show zx zk_mt zk_ex Ls xs zm_299 (43, [(0, .ref 69), (2, .int (nI T)), (3, .int 1), (4, .int (nI x))], [.int 0]) (zH u w t) _
          refine zx.br (f1 := (55, [(0, .ref 69), (2, .int (nI T)), (3, .int 1), (4, .int (nI x))], [])) (f2 := (46, [(0, .ref 69), (2, .int (nI T)), (3, .int 1), (4, .int (nI x))], [])) rfl (fun c3 => ?_) (fun c3 => absurd (by decide) (of_decide_eq_false c3))
          refine zx.adv 1 (f' := (56, [(0, .ref 69), (2, .int (nI T)), (3, .int 1), (4, .int (nI x))], [.ref 69])) (h' := zH u w t) rfl ?_
          refine zx.cl (v := none) (h' := zH u2 w t) rfl hq2 ?_
          show zx zk_mt zk_ex Ls xs zm_299 (59, [(0, .ref 69), (2, .int (nI T)), (3, .int 1), (4, .int (nI x))], []) (zH u2 w t) _
          refine zx.adv 5 (f' := (65, [(0, .ref 69), (2, .int (nI T)), (3, .int 1), (4, .int (nI x))], [.int ((nI T) ||| ((1 : Int32) <<< ((nI x) &&& 31)))])) (h' := zH u2 w t) rfl ?_
          rw [show (nI T) ||| ((1 : Int32) <<< ((nI x) &&& 31)) = nI (T + 2 ^ x) from e1]
          refine zx.adv 3 (f' := (70, [(0, .ref 69), (2, .int (nI (T + 2 ^ x))), (3, .int 1), (4, .int (nI x))], [.int (u2 68 13)])) (h' := zH u2 w t) rfl ?_
          rw [show (u2 68 13) = 0 from hs2.2.2]
          refine zx.br (f1 := (73, [(0, .ref 69), (2, .int (nI (T + 2 ^ x))), (3, .int 1), (4, .int (nI x))], [])) (f2 := (86, [(0, .ref 69), (2, .int (nI (T + 2 ^ x))), (3, .int 1), (4, .int (nI x))], [])) rfl (fun c4 => ?_) (fun c4 => absurd (by decide) (of_decide_eq_false c4))
          refine zx.adv 2 (f' := (77, [(0, .ref 69), (2, .int (nI (T + 2 ^ x))), (3, .int 1), (4, .int (nI x))], [.int (u2 68 6)])) (h' := zH u2 w t) rfl ?_
          rw [show (u2 68 6) = 44 from htk]
          refine zx.adv 1 (f' := (79, [(0, .ref 69), (2, .int (nI (T + 2 ^ x))), (3, .int 1), (4, .int (nI x))], [.int 44, .int 44])) (h' := zH u2 w t) rfl ?_
          refine zx.br (f1 := (82, [(0, .ref 69), (2, .int (nI (T + 2 ^ x))), (3, .int 1), (4, .int (nI x))], [])) (f2 := (86, [(0, .ref 69), (2, .int (nI (T + 2 ^ x))), (3, .int 1), (4, .int (nI x))], [])) rfl (fun c5 => ?_) (fun c5 => absurd (by decide) (of_decide_eq_false c5))
          refine zx.adv 4 (f' := (89, [(0, .ref 69), (2, .int (nI (T + 2 ^ x))), (3, .int 1), (4, .int (nI x))], [.int 1])) (h' := zH u2 w t) rfl ?_
          refine zx.br (f1 := (96, [(0, .ref 69), (2, .int (nI (T + 2 ^ x))), (3, .int 1), (4, .int (nI x))], [])) (f2 := (92, [(0, .ref 69), (2, .int (nI (T + 2 ^ x))), (3, .int 1), (4, .int (nI x))], [])) rfl (fun c6 => absurd (of_decide_eq_true c6) (by decide)) (fun c6 => ?_)
          refine zx.adv 1 (f' := (93, [(0, .ref 69), (2, .int (nI (T + 2 ^ x))), (3, .int 1), (4, .int (nI x))], [.ref 69])) (h' := zH u2 w t) rfl ?_
          refine zx.cl (v := none) (h' := zH u3 w t) rfl hq3 ?_
          show zx zk_mt zk_ex Ls xs zm_299 (96, [(0, .ref 69), (2, .int (nI (T + 2 ^ x))), (3, .int 1), (4, .int (nI x))], []) (zH u3 w t) _
          refine zx.adv 1 (f' := (20, [(0, .ref 69), (2, .int (nI (T + 2 ^ x))), (3, .int 1)], [])) (h' := zH u3 w t) rfl ?_
          exact hQ Q hq
        · rw [if_neg c5]
          have htk : ¬ u2 68 6 = 44 := by rw [htok]; exact fun z => c5 ((zt_tok5 hts).1.mp z)
          refine ⟨u2, nI (T + 2 ^ x), hg2, ⟨rfl, hs2⟩, fun Q hq => ?_⟩
          refine zx.adv 1 (f' := (21, [(0, .ref 69), (2, .int (nI T)), (3, .int 1)], [.int 1])) (h' := zH u w t) rfl ?_
          refine zx.br (f1 := (99, [(0, .ref 69), (2, .int (nI T)), (3, .int 1)], [])) (f2 := (24, [(0, .ref 69), (2, .int (nI T)), (3, .int 1)], [])) rfl (fun c1 => absurd (of_decide_eq_true c1) (by decide)) (fun c1 => ?_)
          refine zx.adv 1 (f' := (25, [(0, .ref 69), (2, .int (nI T)), (3, .int 1)], [.ref 69])) (h' := zH u w t) rfl ?_
          refine zx.cl (v := some (.int (nI x))) (h' := zH u w t) rfl hq1 ?_
          show zx zk_mt zk_ex Ls xs zm_299 (28, [(0, .ref 69), (2, .int (nI T)), (3, .int 1)], [.int (nI x)]) (zH u w t) _
          refine zx.adv 3 (f' := (34, [(0, .ref 69), (2, .int (nI T)), (3, .int 1), (4, .int (nI x))], [.int (u 68 13)])) (h' := zH u w t) rfl ?_
          rw [show (u 68 13) = 0 from hs.2.2]
          refine zx.br (f1 := (37, [(0, .ref 69), (2, .int (nI T)), (3, .int 1), (4, .int (nI x))], [])) (f2 := (55, [(0, .ref 69), (2, .int (nI T)), (3, .int 1), (4, .int (nI x))], [])) rfl (fun c2 => ?_) (fun c2 => absurd (by decide) (of_decide_eq_false c2))
          refine zx.adv 2 (f' := (40, [(0, .ref 69), (2, .int (nI T)), (3, .int 1), (4, .int (nI x))], [.int (nI x), .int (nI T)])) (h' := zH u w t) rfl ?_
          refine zx.cl (v := some (.int 0)) (h' := zH u w t) rfl (by have ee := zs_mhasBit (v := u) (w := w) (t := t) (Ls := Ls) (xs := xs) (nI T) (nI x); rw [hbt] at ee; exact ee) ?_
          show zx zk_mt zk_ex Ls xs zm_299 (43, [(0, .ref 69), (2, .int (nI T)), (3, .int 1), (4, .int (nI x))], [.int 0]) (zH u w t) _
          refine zx.br (f1 := (55, [(0, .ref 69), (2, .int (nI T)), (3, .int 1), (4, .int (nI x))], [])) (f2 := (46, [(0, .ref 69), (2, .int (nI T)), (3, .int 1), (4, .int (nI x))], [])) rfl (fun c3 => ?_) (fun c3 => absurd (by decide) (of_decide_eq_false c3))
          refine zx.adv 1 (f' := (56, [(0, .ref 69), (2, .int (nI T)), (3, .int 1), (4, .int (nI x))], [.ref 69])) (h' := zH u w t) rfl ?_
          refine zx.cl (v := none) (h' := zH u2 w t) rfl hq2 ?_
          show zx zk_mt zk_ex Ls xs zm_299 (59, [(0, .ref 69), (2, .int (nI T)), (3, .int 1), (4, .int (nI x))], []) (zH u2 w t) _
          refine zx.adv 5 (f' := (65, [(0, .ref 69), (2, .int (nI T)), (3, .int 1), (4, .int (nI x))], [.int ((nI T) ||| ((1 : Int32) <<< ((nI x) &&& 31)))])) (h' := zH u2 w t) rfl ?_
          rw [show (nI T) ||| ((1 : Int32) <<< ((nI x) &&& 31)) = nI (T + 2 ^ x) from e1]
          refine zx.adv 3 (f' := (70, [(0, .ref 69), (2, .int (nI (T + 2 ^ x))), (3, .int 1), (4, .int (nI x))], [.int (u2 68 13)])) (h' := zH u2 w t) rfl ?_
          rw [show (u2 68 13) = 0 from hs2.2.2]
          refine zx.br (f1 := (73, [(0, .ref 69), (2, .int (nI (T + 2 ^ x))), (3, .int 1), (4, .int (nI x))], [])) (f2 := (86, [(0, .ref 69), (2, .int (nI (T + 2 ^ x))), (3, .int 1), (4, .int (nI x))], [])) rfl (fun c4 => ?_) (fun c4 => absurd (by decide) (of_decide_eq_false c4))
          refine zx.adv 3 (f' := (79, [(0, .ref 69), (2, .int (nI (T + 2 ^ x))), (3, .int 1), (4, .int (nI x))], [.int 44, .int (u2 68 6)])) (h' := zH u2 w t) rfl ?_
          refine zx.br (f1 := (82, [(0, .ref 69), (2, .int (nI (T + 2 ^ x))), (3, .int 1), (4, .int (nI x))], [])) (f2 := (86, [(0, .ref 69), (2, .int (nI (T + 2 ^ x))), (3, .int 1), (4, .int (nI x))], [])) rfl (fun c5 => absurd (of_decide_eq_true c5) htk) (fun c5 => ?_)
          refine zx.adv 3 (f' := (89, [(0, .ref 69), (2, .int (nI (T + 2 ^ x))), (3, .int 0), (4, .int (nI x))], [.int 0])) (h' := zH u2 w t) rfl ?_
          refine zx.br (f1 := (96, [(0, .ref 69), (2, .int (nI (T + 2 ^ x))), (3, .int 0), (4, .int (nI x))], [])) (f2 := (92, [(0, .ref 69), (2, .int (nI (T + 2 ^ x))), (3, .int 0), (4, .int (nI x))], [])) rfl (fun c6 => ?_) (fun c6 => absurd (by decide) (of_decide_eq_false c6))
          refine zx.adv 2 (f' := (21, [(0, .ref 69), (2, .int (nI (T + 2 ^ x))), (3, .int 0)], [.int 0])) (h' := zH u2 w t) rfl ?_
          refine zx.br (f1 := (99, [(0, .ref 69), (2, .int (nI (T + 2 ^ x))), (3, .int 0)], [])) (f2 := (24, [(0, .ref 69), (2, .int (nI (T + 2 ^ x))), (3, .int 0)], [])) rfl (fun c7 => ?_) (fun c7 => absurd (by decide) (of_decide_eq_false c7))
          refine zx.adv 1 (f' := (100, [(0, .ref 69), (2, .int (nI (T + 2 ^ x))), (3, .int 0)], [.int (nI (T + 2 ^ x))])) (h' := zH u2 w t) rfl ?_
          exact zx.rt rfl rfl hq
      · have hbt : zr_mhasBit (nI T) (nI x) = 1 := by
          unfold zr_mhasBit
          rcases zz_bit T hT x hx8 with q | q
          · exact absurd q c
          · rw [q]; rfl
        rw [if_neg c]
        refine ⟨_, (nI T) ||| ((1 : Int32) <<< ((nI x) &&& 31)), zMg.wrong, zMx.wrong hs, fun Q hq => ?_⟩
        refine zx.adv 1 (f' := (21, [(0, .ref 69), (2, .int (nI T)), (3, .int 1)], [.int 1])) (h' := zH u w t) rfl ?_
        refine zx.br (f1 := (99, [(0, .ref 69), (2, .int (nI T)), (3, .int 1)], [])) (f2 := (24, [(0, .ref 69), (2, .int (nI T)), (3, .int 1)], [])) rfl (fun c1 => absurd (of_decide_eq_true c1) (by decide)) (fun c1 => ?_)
        refine zx.adv 1 (f' := (25, [(0, .ref 69), (2, .int (nI T)), (3, .int 1)], [.ref 69])) (h' := zH u w t) rfl ?_
        refine zx.cl (v := some (.int (nI x))) (h' := zH u w t) rfl hq1 ?_
        show zx zk_mt zk_ex Ls xs zm_299 (28, [(0, .ref 69), (2, .int (nI T)), (3, .int 1)], [.int (nI x)]) (zH u w t) _
        refine zx.adv 3 (f' := (34, [(0, .ref 69), (2, .int (nI T)), (3, .int 1), (4, .int (nI x))], [.int (u 68 13)])) (h' := zH u w t) rfl ?_
        rw [show (u 68 13) = 0 from hs.2.2]
        refine zx.br (f1 := (37, [(0, .ref 69), (2, .int (nI T)), (3, .int 1), (4, .int (nI x))], [])) (f2 := (55, [(0, .ref 69), (2, .int (nI T)), (3, .int 1), (4, .int (nI x))], [])) rfl (fun c2 => ?_) (fun c2 => absurd (by decide) (of_decide_eq_false c2))
        refine zx.adv 2 (f' := (40, [(0, .ref 69), (2, .int (nI T)), (3, .int 1), (4, .int (nI x))], [.int (nI x), .int (nI T)])) (h' := zH u w t) rfl ?_
        refine zx.cl (v := some (.int 1)) (h' := zH u w t) rfl (by have ee := zs_mhasBit (v := u) (w := w) (t := t) (Ls := Ls) (xs := xs) (nI T) (nI x); rw [hbt] at ee; exact ee) ?_
        show zx zk_mt zk_ex Ls xs zm_299 (43, [(0, .ref 69), (2, .int (nI T)), (3, .int 1), (4, .int (nI x))], [.int 1]) (zH u w t) _
        refine zx.br (f1 := (55, [(0, .ref 69), (2, .int (nI T)), (3, .int 1), (4, .int (nI x))], [])) (f2 := (46, [(0, .ref 69), (2, .int (nI T)), (3, .int 1), (4, .int (nI x))], [])) rfl (fun c3 => absurd (of_decide_eq_true c3) (by decide)) (fun c3 => ?_)
        refine zx.adv 4 (f' := (52, [(0, .ref 69), (2, .int (nI T)), (3, .int 1), (4, .int (nI x))], [.int (u 68 4), .int 3, .ref 69])) (h' := zH u w t) rfl ?_
        refine zx.cl (v := none) (h' := zH (zb u 68 (upd (upd (upd (u 68) 9 3) 10 (u 68 4)) 13 1)) w t) rfl (zs_mwrong_0 (v := u) (w := w) hs.2.2 3 (u 68 4)) ?_
        show zx zk_mt zk_ex Ls xs zm_299 (55, [(0, .ref 69), (2, .int (nI T)), (3, .int 1), (4, .int (nI x))], []) (zH (zb u 68 (upd (upd (upd (u 68) 9 3) 10 (u 68 4)) 13 1)) w t) _
        refine zx.adv 1 (f' := (56, [(0, .ref 69), (2, .int (nI T)), (3, .int 1), (4, .int (nI x))], [.ref 69])) (h' := zH (zb u 68 (upd (upd (upd (u 68) 9 3) 10 (u 68 4)) 13 1)) w t) rfl ?_
        refine zx.cl (v := none) (h' := zH (zb u 68 (upd (upd (upd (u 68) 9 3) 10 (u 68 4)) 13 1)) w t) rfl (zm_pass_x (u := (zb u 68 (upd (upd (upd (u 68) 9 3) 10 (u 68 4)) 13 1))) rfl) ?_
        show zx zk_mt zk_ex Ls xs zm_299 (59, [(0, .ref 69), (2, .int (nI T)), (3, .int 1), (4, .int (nI x))], []) (zH (zb u 68 (upd (upd (upd (u 68) 9 3) 10 (u 68 4)) 13 1)) w t) _
        refine zx.adv 8 (f' := (70, [(0, .ref 69), (2, .int ((nI T) ||| ((1 : Int32) <<< ((nI x) &&& 31)))), (3, .int 1), (4, .int (nI x))], [.int 1])) (h' := zH (zb u 68 (upd (upd (upd (u 68) 9 3) 10 (u 68 4)) 13 1)) w t) rfl ?_
        refine zx.br (f1 := (73, [(0, .ref 69), (2, .int ((nI T) ||| ((1 : Int32) <<< ((nI x) &&& 31)))), (3, .int 1), (4, .int (nI x))], [])) (f2 := (86, [(0, .ref 69), (2, .int ((nI T) ||| ((1 : Int32) <<< ((nI x) &&& 31)))), (3, .int 1), (4, .int (nI x))], [])) rfl (fun c4 => absurd (of_decide_eq_true c4) (by decide)) (fun c4 => ?_)
        refine zx.adv 3 (f' := (89, [(0, .ref 69), (2, .int ((nI T) ||| ((1 : Int32) <<< ((nI x) &&& 31)))), (3, .int 0), (4, .int (nI x))], [.int 0])) (h' := zH (zb u 68 (upd (upd (upd (u 68) 9 3) 10 (u 68 4)) 13 1)) w t) rfl ?_
        refine zx.br (f1 := (96, [(0, .ref 69), (2, .int ((nI T) ||| ((1 : Int32) <<< ((nI x) &&& 31)))), (3, .int 0), (4, .int (nI x))], [])) (f2 := (92, [(0, .ref 69), (2, .int ((nI T) ||| ((1 : Int32) <<< ((nI x) &&& 31)))), (3, .int 0), (4, .int (nI x))], [])) rfl (fun c5 => ?_) (fun c5 => absurd (by decide) (of_decide_eq_false c5))
        refine zx.adv 2 (f' := (21, [(0, .ref 69), (2, .int ((nI T) ||| ((1 : Int32) <<< ((nI x) &&& 31)))), (3, .int 0)], [.int 0])) (h' := zH (zb u 68 (upd (upd (upd (u 68) 9 3) 10 (u 68 4)) 13 1)) w t) rfl ?_
        refine zx.br (f1 := (99, [(0, .ref 69), (2, .int ((nI T) ||| ((1 : Int32) <<< ((nI x) &&& 31)))), (3, .int 0)], [])) (f2 := (24, [(0, .ref 69), (2, .int ((nI T) ||| ((1 : Int32) <<< ((nI x) &&& 31)))), (3, .int 0)], [])) rfl (fun c6 => ?_) (fun c6 => absurd (by decide) (of_decide_eq_false c6))
        refine zx.adv 1 (f' := (100, [(0, .ref 69), (2, .int ((nI T) ||| ((1 : Int32) <<< ((nI x) &&& 31)))), (3, .int 0)], [.int ((nI T) ||| ((1 : Int32) <<< ((nI x) &&& 31)))])) (h' := zH (zb u 68 (upd (upd (upd (u 68) 9 3) 10 (u 68 4)) 13 1)) w t) rfl ?_
        exact zx.rt rfl rfl hq
/-- BasketKeepModel.dangers -/
theorem zm_dangers_x (a : Nat) (hf : u 68 13 = 1) : zk_Cr zk_mt zk_ex Ls xs 299 [.ref 69, .retAddr a] (zH u w t) (some (.int 0), zH u w t) := by
  refine zk_Cr.of (K := zm_299) rfl rfl rfl ?_
  show zk_T zk_mt zk_ex Ls xs zm_299 (0, [(0, .ref 69), (1, .retAddr a)], []) (zH u w t) _
  refine zk_T.adv 2 (f' := (2, [(0, .ref 69), (1, .retAddr a)], [.retAddr a, .ref 69])) (h' := zH u w t) rfl ?_
  refine zk_T.cl (v := none) (h' := zH u w t) rfl (zm_must_x (u := u) a hf) ?_
  show zk_T zk_mt zk_ex Ls xs zm_299 (5, [(0, .ref 69), (1, .retAddr a)], []) (zH u w t) _
  refine zk_T.adv 4 (f' := (11, [(0, .ref 69), (1, .retAddr a), (2, .int 0)], [.int (u 68 13)])) (h' := zH u w t) rfl ?_
  rw [show (u 68 13) = 1 from hf]
  refine zk_T.br (f1 := (14, [(0, .ref 69), (1, .retAddr a), (2, .int 0)], [])) (f2 := (18, [(0, .ref 69), (1, .retAddr a), (2, .int 0)], [])) rfl (fun c1 => absurd (of_decide_eq_true c1) (by decide)) (fun c1 => ?_)
  refine zk_T.adv 3 (f' := (21, [(0, .ref 69), (2, .int 0), (3, .int 0)], [.int 0])) (h' := zH u w t) rfl ?_
  refine zk_T.br (f1 := (99, [(0, .ref 69), (2, .int 0), (3, .int 0)], [])) (f2 := (24, [(0, .ref 69), (2, .int 0), (3, .int 0)], [])) rfl (fun c2 => ?_) (fun c2 => absurd (by decide) (of_decide_eq_false c2))
  refine zk_T.adv 1 (f' := (100, [(0, .ref 69), (2, .int 0), (3, .int 0)], [.int 0])) (h' := zH u w t) rfl ?_
  exact zk_T.rt rfl rfl (by rfl)
def zp_dgs (tn : Nat → Nat) (ts : Nat → Int32) (tp : Nat → Nat) (tv : Nat → Int64) (c : Int64) (S : Nat → Int64) (k : Nat) : (Nat × Int32) ⊕ (Int32 × Nat) := zbd (zp_kw tn ts tp tv c k) fun k1 => zp_dng tn ts tp tv S 9 0 k1
/-- BasketKeepModel.dangers -/
theorem zm_dangers (hM : zk_MA Ls xs tn ts tp tv E B) {a n : Nat} {c : Int64} (hW : zWs Ls xs a n c) {k : Nat} {S : Nat → Int64} (hs : zMs tn ts tp tv E B k u) (hN : zRN S (u 72)) : ∃ (u' : Nat → Nat → Int32) (r : Int32), zk_Cr zk_mt zk_ex Ls xs 299 [.ref 69, .retAddr a] (zH u w t) (some (.int r), zH u' w t) ∧ zMg u u' ∧ match zp_dgs tn ts tp tv c S k with
    | .inl (k2, b) => r = b ∧ zMs tn ts tp tv E B k2 u'
    | .inr (f, p) => zMx f p u' := by
  have main : ∃ q, zk_Cr zk_mt zk_ex Ls xs 299 [.ref 69, .retAddr a] (zH u w t) q ∧ ∃ (u' : Nat → Nat → Int32) (r : Int32), q = (some (.int r), zH u' w t) ∧ zMg u u' ∧ match zp_dgs tn ts tp tv c S k with
    | .inl (k2, b) => r = b ∧ zMs tn ts tp tv E B k2 u'
    | .inr (f, p) => zMx f p u' := by
    refine zx.of (K := zm_299) rfl rfl rfl ?_
    show zx zk_mt zk_ex Ls xs zm_299 (0, [(0, .ref 69), (1, .retAddr a)], []) (zH u w t) _
    obtain ⟨u1, h1, g1, r1⟩ := zm_must (w := w) (t := t) hM hW hs
    unfold zp_dgs
    cases hz : zp_kw tn ts tp tv c k with
    | inr e =>
      obtain ⟨f, p⟩ := e
      rw [hz] at r1
      have r1 : zMx f p u1 := r1
      refine zx.adv 2 (f' := (2, [(0, .ref 69), (1, .retAddr a)], [.retAddr a, .ref 69])) (h' := zH u w t) rfl ?_
      refine zx.cl (v := none) (h' := zH u1 w t) rfl h1 ?_
      show zx zk_mt zk_ex Ls xs zm_299 (5, [(0, .ref 69), (1, .retAddr a)], []) (zH u1 w t) _
      refine zx.adv 4 (f' := (11, [(0, .ref 69), (1, .retAddr a), (2, .int 0)], [.int (u1 68 13)])) (h' := zH u1 w t) rfl ?_
      rw [show (u1 68 13) = 1 from r1.1]
      refine zx.br (f1 := (14, [(0, .ref 69), (1, .retAddr a), (2, .int 0)], [])) (f2 := (18, [(0, .ref 69), (1, .retAddr a), (2, .int 0)], [])) rfl (fun c1 => absurd (of_decide_eq_true c1) (by decide)) (fun c1 => ?_)
      refine zx.adv 3 (f' := (21, [(0, .ref 69), (2, .int 0), (3, .int 0)], [.int 0])) (h' := zH u1 w t) rfl ?_
      refine zx.br (f1 := (99, [(0, .ref 69), (2, .int 0), (3, .int 0)], [])) (f2 := (24, [(0, .ref 69), (2, .int 0), (3, .int 0)], [])) rfl (fun c2 => ?_) (fun c2 => absurd (by decide) (of_decide_eq_false c2))
      refine zx.adv 1 (f' := (100, [(0, .ref 69), (2, .int 0), (3, .int 0)], [.int 0])) (h' := zH u1 w t) rfl ?_
      exact zx.rt rfl rfl ⟨u1, 0, rfl, g1, r1⟩
    | inl k1 =>
      rw [hz] at r1
      have r1 : zMs tn ts tp tv E B k1 u1 := r1
      obtain ⟨u2, r, g2, r2, hQ⟩ := zn_dl (w := w) (t := t) hM (S := S) 9 0 k1 u1 r1 (by rw [g1.1 72 (by decide) (by decide)]; exact hN) (by decide) (by decide)
      refine zx.adv 2 (f' := (2, [(0, .ref 69), (1, .retAddr a)], [.retAddr a, .ref 69])) (h' := zH u w t) rfl ?_
      refine zx.cl (v := none) (h' := zH u1 w t) rfl h1 ?_
      show zx zk_mt zk_ex Ls xs zm_299 (5, [(0, .ref 69), (1, .retAddr a)], []) (zH u1 w t) _
      refine zx.adv 4 (f' := (11, [(0, .ref 69), (1, .retAddr a), (2, .int 0)], [.int (u1 68 13)])) (h' := zH u1 w t) rfl ?_
      rw [show (u1 68 13) = 0 from r1.2.2]
      refine zx.br (f1 := (14, [(0, .ref 69), (1, .retAddr a), (2, .int 0)], [])) (f2 := (18, [(0, .ref 69), (1, .retAddr a), (2, .int 0)], [])) rfl (fun c1 => ?_) (fun c1 => absurd (by decide) (of_decide_eq_false c1))
      refine zx.adv 3 (f' := (20, [(0, .ref 69), (2, .int 0), (3, .int 1)], [])) (h' := zH u1 w t) rfl ?_
      exact hQ _ ⟨u2, r, rfl, g1.trans g2, r2⟩
  obtain ⟨q, h1, u', r, rfl, h2⟩ := main
  exact ⟨u', r, h1, h2⟩
end Z62
