/-! what is told as functions: texts, and the law's own led; loops -/
theorem zk_inN {i n : Nat} (h : i < n) (hn : n < 2 ^ 31) : zk_in (nI i) n = true := by
  unfold zk_in
  exact decide_eq_true (vp_in_nI h hn)
/-- so many rounds: each goes on with a new state, or ends -/
def zfr {σ ρ : Type} (G : Nat → σ → σ ⊕ ρ) : Nat → Nat → σ → σ ⊕ ρ
  | 0, _, s => .inl s
  | n + 1, i, s => match G i s with
    | .inl s' => zfr G n (i + 1) s'
    | .inr r => .inr r
/-- the same, where no round ends -/
def zf {σ : Type} (G : Nat → σ → σ) : Nat → Nat → σ → σ
  | 0, _, s => s
  | n + 1, i, s => zf G n (i + 1) (G i s)
section ZLP
variable {Ls : Nat} {xs : Nat → Int32} {M : zk_M}
/-- a loop that counts: rounds i .. i + n - 1, then the end -/
theorem zk_for {σ : Type} (F : Nat → σ → zk_F) (Hh : Nat → σ → zk_H) (G : Nat → σ → σ) (P : Nat → σ → Prop) (res : σ → Option Value × zk_H) :
    ∀ (n i : Nat) (s : σ), (∀ j s, i ≤ j → j < i + n → P j s → P (j + 1) (G j s) ∧ ∀ q, zk_T zk_mt zk_ex Ls xs M (F (j + 1) (G j s)) (Hh (j + 1) (G j s)) q → zk_T zk_mt zk_ex Ls xs M (F j s) (Hh j s) q) →
      (∀ s, P (i + n) s → zk_T zk_mt zk_ex Ls xs M (F (i + n) s) (Hh (i + n) s) (res s)) → P i s → zk_T zk_mt zk_ex Ls xs M (F i s) (Hh i s) (res (zf G n i s))
  | 0, i, s, _, he, hp => he s hp
  | n + 1, i, s, hs, he, hp => by
    obtain ⟨h1, h2⟩ := hs i s (Nat.le_refl _) (by omega) hp
    refine h2 _ ?_
    refine zk_for F Hh G P res n (i + 1) (G i s) (fun j s a b c => hs j s (by omega) (by omega) c) ?_ h1
    rw [show i + 1 + n = i + (n + 1) by omega]
    exact he
/-- a loop that counts and may end early -/
theorem zk_forE {σ ρ : Type} (F : Nat → σ → zk_F) (Hh : Nat → σ → zk_H) (G : Nat → σ → σ ⊕ ρ) (P : Nat → σ → Prop) (res : σ ⊕ ρ → Option Value × zk_H) :
    ∀ (n i : Nat) (s : σ), (∀ j s, i ≤ j → j < i + n → P j s → match G j s with
        | .inl s' => P (j + 1) s' ∧ ∀ q, zk_T zk_mt zk_ex Ls xs M (F (j + 1) s') (Hh (j + 1) s') q → zk_T zk_mt zk_ex Ls xs M (F j s) (Hh j s) q
        | .inr r => zk_T zk_mt zk_ex Ls xs M (F j s) (Hh j s) (res (.inr r))) →
      (∀ s, P (i + n) s → zk_T zk_mt zk_ex Ls xs M (F (i + n) s) (Hh (i + n) s) (res (.inl s))) → P i s → zk_T zk_mt zk_ex Ls xs M (F i s) (Hh i s) (res (zfr G n i s))
  | 0, i, s, _, he, hp => he s hp
  | n + 1, i, s, hs, he, hp => by
    have h1 := hs i s (Nat.le_refl _) (by omega) hp
    unfold zfr
    split
    · rename_i s' hg
      rw [hg] at h1
      refine h1.2 _ ?_
      refine zk_forE F Hh G P res n (i + 1) s' (fun j s a b c => hs j s (by omega) (by omega) c) ?_ h1.1
      rw [show i + 1 + n = i + (n + 1) by omega]
      exact he
    · rename_i r hg
      rw [hg] at h1
      exact h1
end ZLP
/-- of a loop's end: the one or the other -/
def zk_or {σ ρ : Type} (A : σ → Prop) (B : ρ → Prop) : σ ⊕ ρ → Prop
  | .inl s => A s
  | .inr r => B r
section ZLQ
variable {Ls : Nat} {xs : Nat → Int32} {M : zk_M}
/-- a loop that counts, whatever follows it -/
theorem zk_forK {σ : Type} (F : Nat → σ → zk_F) (Hh : Nat → σ → zk_H) (G : Nat → σ → σ) (P : Nat → σ → Prop) (Fx : σ → zk_F) (Hx : σ → zk_H) :
    ∀ (n i : Nat) (s : σ), (∀ j s, i ≤ j → j < i + n → P j s → P (j + 1) (G j s)) → (∀ j s, i ≤ j → j < i + n → P j s → ∀ q, zk_T zk_mt zk_ex Ls xs M (F (j + 1) (G j s)) (Hh (j + 1) (G j s)) q → zk_T zk_mt zk_ex Ls xs M (F j s) (Hh j s) q) →
      (∀ s, P (i + n) s → ∀ q, zk_T zk_mt zk_ex Ls xs M (Fx s) (Hx s) q → zk_T zk_mt zk_ex Ls xs M (F (i + n) s) (Hh (i + n) s) q) → P i s → ∀ q, zk_T zk_mt zk_ex Ls xs M (Fx (zf G n i s)) (Hx (zf G n i s)) q → zk_T zk_mt zk_ex Ls xs M (F i s) (Hh i s) q
  | 0, i, s, _, _, he, hp, q, hq => he s hp q hq
  | n + 1, i, s, hp1, hs, he, hp, q, hq => by
    refine hs i s (Nat.le_refl _) (by omega) hp q ?_
    refine zk_forK F Hh G P Fx Hx n (i + 1) (G i s) (fun j s a b c => hp1 j s (by omega) (by omega) c) (fun j s a b c => hs j s (by omega) (by omega) c) ?_ (hp1 i s (Nat.le_refl _) (by omega) hp) q hq
    rw [show i + 1 + n = i + (n + 1) by omega]
    exact he
/-- .. that may end early -/
theorem zk_forX {σ ρ : Type} (F : Nat → σ → zk_F) (Hh : Nat → σ → zk_H) (G : Nat → σ → σ ⊕ ρ) (P : Nat → σ → Prop) (Fx : σ → zk_F) (Hx : σ → zk_H) (Er : ρ → Option Value × zk_H → Prop) :
    ∀ (n i : Nat) (s : σ), (∀ j s s', i ≤ j → j < i + n → P j s → G j s = .inl s' → P (j + 1) s') → (∀ j s, i ≤ j → j < i + n → P j s → ∀ q, zk_or (fun s' => zk_T zk_mt zk_ex Ls xs M (F (j + 1) s') (Hh (j + 1) s') q) (fun r => Er r q) (G j s) → zk_T zk_mt zk_ex Ls xs M (F j s) (Hh j s) q) →
      (∀ s, P (i + n) s → ∀ q, zk_T zk_mt zk_ex Ls xs M (Fx s) (Hx s) q → zk_T zk_mt zk_ex Ls xs M (F (i + n) s) (Hh (i + n) s) q) → P i s → ∀ q, zk_or (fun s' => zk_T zk_mt zk_ex Ls xs M (Fx s') (Hx s') q) (fun r => Er r q) (zfr G n i s) → zk_T zk_mt zk_ex Ls xs M (F i s) (Hh i s) q
  | 0, i, s, _, _, he, hp, q, hq => he s hp q hq
  | n + 1, i, s, hp1, hs, he, hp, q, hq => by
    refine hs i s (Nat.le_refl _) (by omega) hp q ?_
    unfold zfr at hq
    cases hg : G i s with
    | inl s' =>
      rw [hg] at hq
      dsimp only at hq
      show zk_T zk_mt zk_ex Ls xs M (F (i + 1) s') (Hh (i + 1) s') q
      refine zk_forX F Hh G P Fx Hx Er n (i + 1) s' (fun j s s' a b c => hp1 j s s' (by omega) (by omega) c) (fun j s a b c => hs j s (by omega) (by omega) c) ?_ (hp1 i s s' (Nat.le_refl _) (by omega) hp hg) q hq
      rw [show i + 1 + n = i + (n + 1) by omega]
      exact he
    | inr r =>
      rw [hg] at hq
      exact hq
end ZLQ
