/-! reckoning with runs of the small machine -/
def zk_R (mt : Nat → Option zk_M) (ex : Nat → List Value → zk_H → Option (Option Value × zk_H)) (Ls : Nat) (xs : Nat → Int32) (M : zk_M) (f : zk_F) (h : zk_H) (Q : Option Value → zk_H → Prop) : Prop := ∃ (n : Nat) (r : Option Value) (hE : zk_H), zk_run zk_zd mt ex Ls xs n M f h = some (r, hE) ∧ Q r hE
section ZWP
variable {mt : Nat → Option zk_M} {ex : Nat → List Value → zk_H → Option (Option Value × zk_H)} {Ls : Nat} {xs : Nat → Int32}
theorem zk_run_le : ∀ (n k : Nat) (M : zk_M) (f : zk_F) (h : zk_H) (q : Option Value × zk_H), zk_run zk_zd mt ex Ls xs n M f h = some q → zk_run zk_zd mt ex Ls xs (n + k) M f h = some q := by
  intro n k
  induction n with
  | zero => intro M f h q hr; simp [zk_run] at hr
  | succ n ih =>
    intro M f h q hr
    rw [show n + 1 + k = (n + k) + 1 by omega]
    unfold zk_run at hr ⊢
    cases hst : zk_step zk_zd Ls xs M f h with
    | none => rw [hst] at hr; cases hr
    | some ev =>
      rw [hst] at hr
      match ev, hr with
      | .inl (f', h'), hr => exact ih _ _ _ _ hr
      | .inr (.inl (b, f', h')), hr =>
        cases b with
        | false => cases hr
        | true => exact ih _ _ _ _ hr
      | .inr (.inr (.inl (b, f1, f2))), hr =>
        cases b with
        | false => exact ih _ _ _ _ hr
        | true => exact ih _ _ _ _ hr
      | .inr (.inr (.inr (.inl (b, v)))), hr => exact hr
      | .inr (.inr (.inr (.inr (kk, as, f')))), hr =>
        dsimp only at hr ⊢
        cases hK : mt kk with
        | none => rw [hK] at hr; cases hr
        | some K =>
          rw [hK] at hr
          dsimp only at hr ⊢
          cases hct : zk_ct K with
          | nil =>
            rw [hct] at hr
            dsimp only at hr ⊢
            cases he : ex kk as h with
            | none => rw [he] at hr; cases hr
            | some z =>
              rw [he] at hr
              obtain ⟨v, h'⟩ := z
              exact ih _ _ _ _ hr
          | cons a b =>
            rw [hct] at hr
            dsimp only at hr ⊢
            cases hb : Nat.ble (zk_cat as) (zk_mxl K) with
            | false => rw [hb] at hr; cases hr
            | true =>
              rw [hb] at hr
              dsimp only [cond_true] at hr ⊢
              cases he : zk_run zk_zd mt ex Ls xs n K (zk_ent K as) h with
              | none => rw [he] at hr; cases hr
              | some z =>
                rw [he] at hr
                rw [ih _ _ _ _ he]
                obtain ⟨v, h'⟩ := z
                exact ih _ _ _ _ hr
end ZWP
/-- a call: with these arguments, from this heap, method k answers q.1 and leaves q.2 -/
def zk_Cr (mt : Nat → Option zk_M) (ex : Nat → List Value → zk_H → Option (Option Value × zk_H)) (Ls : Nat) (xs : Nat → Int32) (k : Nat) (as : List Value) (h : zk_H) (q : Option Value × zk_H) : Prop :=
  ∃ K, mt k = some K ∧ ((zk_ct K = [] ∧ ex k as h = some q) ∨ (zk_ct K ≠ [] ∧ Nat.ble (zk_cat as) (zk_mxl K) = true ∧ ∃ n, zk_run zk_zd mt ex Ls xs n K (zk_ent K as) h = some q))
/-- from a place in a method: it ends with q -/
def zk_T (mt : Nat → Option zk_M) (ex : Nat → List Value → zk_H → Option (Option Value × zk_H)) (Ls : Nat) (xs : Nat → Int32) (M : zk_M) (f : zk_F) (h : zk_H) (q : Option Value × zk_H) : Prop := ∃ n, zk_run zk_zd mt ex Ls xs n M f h = some q
/-- plain steps, at most n, up to a branch, a duty, a call or the end -/
def zk_adv (Ls : Nat) (xs : Nat → Int32) : Nat → zk_M → zk_F → zk_H → zk_F × zk_H
  | 0, _, f, h => (f, h)
  | n + 1, M, f, h => match zk_step zk_zd Ls xs M f h with
    | some (.inl (f', h')) => zk_adv Ls xs n M f' h'
    | _ => (f, h)
section ZT
variable {mt : Nat → Option zk_M} {ex : Nat → List Value → zk_H → Option (Option Value × zk_H)} {Ls : Nat} {xs : Nat → Int32} {M : zk_M} {f f' f1 f2 : zk_F} {h h' : zk_H} {q : Option Value × zk_H} {b : Bool} {v : Option Value} {k : Nat} {as : List Value}
theorem zk_T.nx (hs : zk_step zk_zd Ls xs M f h = some (.inl (f', h'))) (k : zk_T mt ex Ls xs M f' h' q) : zk_T mt ex Ls xs M f h q := by
  obtain ⟨n, hn⟩ := k
  exact ⟨n + 1, by unfold zk_run; rw [hs]; exact hn⟩
theorem zk_T.ob (hs : zk_step zk_zd Ls xs M f h = some (.inr (.inl (b, f', h')))) (hb : b = true) (k : zk_T mt ex Ls xs M f' h' q) : zk_T mt ex Ls xs M f h q := by
  obtain ⟨n, hn⟩ := k
  subst hb
  exact ⟨n + 1, by unfold zk_run; rw [hs]; exact hn⟩
theorem zk_T.br (hs : zk_step zk_zd Ls xs M f h = some (.inr (.inr (.inl (b, f1, f2))))) (kt : b = true → zk_T mt ex Ls xs M f1 h q) (kf : b = false → zk_T mt ex Ls xs M f2 h q) : zk_T mt ex Ls xs M f h q := by
  cases b with
  | true =>
    obtain ⟨n, hn⟩ := kt rfl
    exact ⟨n + 1, by unfold zk_run; rw [hs]; exact hn⟩
  | false =>
    obtain ⟨n, hn⟩ := kf rfl
    exact ⟨n + 1, by unfold zk_run; rw [hs]; exact hn⟩
theorem zk_T.rt (hs : zk_step zk_zd Ls xs M f h = some (.inr (.inr (.inr (.inl (b, v)))))) (hb : b = true) (hq : (v, h) = q) : zk_T mt ex Ls xs M f h q := by
  subst hb; subst hq
  exact ⟨1, by unfold zk_run; rw [hs]; rfl⟩
theorem zk_T.cl (hs : zk_step zk_zd Ls xs M f h = some (.inr (.inr (.inr (.inr (k, as, f')))))) (hc : zk_Cr mt ex Ls xs k as h (v, h')) (kk : zk_T mt ex Ls xs M (zk_push M f' v) h' q) : zk_T mt ex Ls xs M f h q := by
  obtain ⟨K, hK, hc⟩ := hc
  obtain ⟨n, hn⟩ := kk
  rcases hc with ⟨h1, h2⟩ | ⟨h1, h2, n2, h3⟩
  · refine ⟨n + 1, ?_⟩
    unfold zk_run
    rw [hs]
    dsimp only
    rw [hK]
    dsimp only
    rw [h1]
    dsimp only
    rw [h2]
    exact hn
  · refine ⟨n + n2 + 1, ?_⟩
    unfold zk_run
    rw [hs]
    dsimp only
    rw [hK]
    dsimp only
    have e1 := zk_run_le n n2 _ _ _ _ hn
    have e2 := zk_run_le n2 n _ _ _ _ h3
    rw [Nat.add_comm n2 n] at e2
    cases hct : zk_ct K with
    | nil => exact absurd hct h1
    | cons a l =>
      dsimp only
      rw [h2]
      dsimp only [cond_true]
      rw [e2]
      exact e1
theorem zk_T.adv (n : Nat) (ha : zk_adv Ls xs n M f h = (f', h')) (kk : zk_T mt ex Ls xs M f' h' q) : zk_T mt ex Ls xs M f h q := by
  induction n generalizing f h with
  | zero => cases ha; exact kk
  | succ n ih =>
    unfold zk_adv at ha
    split at ha
    · rename_i hs
      exact zk_T.nx hs (ih ha)
    · cases ha; exact kk
/-- a method by its table -/
theorem zk_Cr.of {K : zk_M} (hK : mt k = some K) (hct : (zk_ct K).isEmpty = false) (hc : Nat.ble (zk_cat as) (zk_mxl K) = true) (kk : zk_T mt ex Ls xs K (zk_ent K as) h q) : zk_Cr mt ex Ls xs k as h q :=
  ⟨K, hK, Or.inr ⟨(fun z => by rw [z] at hct; cases hct), hc, kk⟩⟩
end ZT
