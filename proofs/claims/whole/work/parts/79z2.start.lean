/-! what a method answers, by its type; the start -/
def zk_evR : zk_E → Option (Option Value)
  | some (.inr (.inr (.inr (.inl (_, v))))) => some v
  | _ => none
/-- an answer of the right sort -/
def zk_aty (M : zk_M) (v : Option Value) : Prop := (zk_ret M = some .int ∨ zk_ret M = some .boolean → ∃ x, v = some (.int x)) ∧ (zk_ret M = some .long → ∃ x, v = some (.long x))
theorem zk_r1 {M : zk_M} {i : Instr} {r1 : Nat} {c : Int32} {pc : Nat} {L : zk_L} {st : List Value} {h : zk_H} {v : Option Value} (hs : zk_evR (zk_x1 M i r1 c pc L st h) = some v) : False := by
  unfold zk_x1 at hs
  simp only [Bool.cond_eq_ite] at hs
  split at hs
  all_goals (try split at hs)
  all_goals (try split at hs)
  all_goals exact absurd (show (none : Option (Option Value)) = some v from hs) (by simp)
theorem zk_r2 {M : zk_M} {i : Instr} {pc : Nat} {L : zk_L} {st : List Value} {h : zk_H} {v : Option Value} (hs : zk_evR (zk_x2 M i pc L st h) = some v) : False := by
  unfold zk_x2 at hs
  split at hs
  all_goals (try split at hs)
  all_goals exact absurd (show (none : Option (Option Value)) = some v from hs) (by simp)
theorem zk_r3 {M : zk_M} {i : Instr} {r1 pc : Nat} {L : zk_L} {st : List Value} {h : zk_H} {v : Option Value} (hs : zk_evR (zk_x3 M i r1 pc L st h) = some v) : zk_aty M v := by
  unfold zk_x3 at hs
  split at hs
  all_goals (try split at hs)
  all_goals (try split at hs)
  all_goals first
    | exact absurd (show (none : Option (Option Value)) = some v from hs) (by simp)
    | (rename_i hr; have e := Option.some.inj hs; subst e; exact ⟨fun _ => ⟨_, rfl⟩, fun z => absurd (hr.symm.trans z) (by decide)⟩)
    | (rename_i hr; have e := Option.some.inj hs; subst e; exact ⟨fun z => absurd z (by rw [hr]; decide), fun _ => ⟨_, rfl⟩⟩)
    | (rename_i hr; have e := Option.some.inj hs; subst e; exact ⟨fun z => absurd z (by rw [hr]; decide), fun z => absurd (hr.symm.trans z) (by decide)⟩)
theorem zk_r4 {zd : List (List Value)} {Ls : Nat} {xs : Nat → Int32} {M : zk_M} {i : Instr} {r1 r2 r3 : Nat} {c : Int32} {pc : Nat} {L : zk_L} {st : List Value} {h : zk_H} {v : Option Value} (hs : zk_evR (zk_x4 zd Ls xs M i r1 r2 r3 c pc L st h) = some v) : False := by
  unfold zk_x4 at hs
  simp only [Bool.cond_eq_ite] at hs
  split at hs
  all_goals (try split at hs)
  all_goals (try split at hs)
  all_goals (try split at hs)
  all_goals (try split at hs)
  all_goals exact absurd (show (none : Option (Option Value)) = some v from hs) (by simp)
theorem zk_r5 {M : zk_M} {i : Instr} {r1 r2 r3 pc : Nat} {L : zk_L} {st : List Value} {h : zk_H} {v : Option Value} (hs : zk_evR (zk_x5 M i r1 r2 r3 pc L st h) = some v) : False := by
  unfold zk_x5 at hs
  simp only [Bool.cond_eq_ite] at hs
  split at hs
  all_goals (try split at hs)
  all_goals (try split at hs)
  all_goals (try split at hs)
  all_goals (try split at hs)
  all_goals exact absurd (show (none : Option (Option Value)) = some v from hs) (by simp)
theorem zk_rty {zd : List (List Value)} {Ls : Nat} {xs : Nat → Int32} {M : zk_M} {f : zk_F} {h : zk_H} {v : Option Value} (hs : zk_evR (zk_step zd Ls xs M f h) = some v) : zk_aty M v := by
  obtain ⟨pc, L, st⟩ := f
  unfold zk_step at hs
  dsimp only at hs
  split at hs
  · rename_i q hq
    obtain ⟨i, len, r1, r2, r3, c⟩ := q
    unfold zk_x at hs
    dsimp only at hs
    split at hs
    · exact (zk_r1 hs).elim
    · exact (zk_r2 hs).elim
    · exact zk_r3 hs
    · exact (zk_r4 hs).elim
    · exact (zk_r5 hs).elim
    · exact absurd (show (none : Option (Option Value)) = some v from hs) (by simp)
  · exact absurd (show (none : Option (Option Value)) = some v from hs) (by simp)
theorem zk_runTy {mt : Nat → Option zk_M} {ex : Nat → List Value → zk_H → Option (Option Value × zk_H)} {Ls : Nat} {xs : Nat → Int32} : ∀ (n : Nat) (M : zk_M) (f : zk_F) (h : zk_H) (r : Option Value) (hE : zk_H), zk_run zk_zd mt ex Ls xs n M f h = some (r, hE) → zk_aty M r := by
  intro n
  induction n with
  | zero => intro M f h r hE hr; simp [zk_run] at hr
  | succ n ih =>
    intro M f h r hE hr
    unfold zk_run at hr
    cases hst : zk_step zk_zd Ls xs M f h with
    | none => rw [hst] at hr; cases hr
    | some ev =>
      rw [hst] at hr
      match ev, hst, hr with
      | .inl (f', h'), hst, hr => exact ih _ _ _ _ _ hr
      | .inr (.inl (b, f', h')), hst, hr =>
        cases b with
        | false => cases hr
        | true => exact ih _ _ _ _ _ hr
      | .inr (.inr (.inl (b, f1, f2))), hst, hr =>
        cases b with
        | false => exact ih _ _ _ _ _ hr
        | true => exact ih _ _ _ _ _ hr
      | .inr (.inr (.inr (.inl (b, v)))), hst, hr =>
        cases b with
        | false => cases hr
        | true =>
          have e : v = r := congrArg Prod.fst (Option.some.inj hr)
          rw [← e]
          exact zk_rty (zd := zk_zd) (Ls := Ls) (xs := xs) (f := f) (h := h) (by rw [hst]; rfl)
      | .inr (.inr (.inr (.inr (kk, as, f')))), hst, hr =>
        dsimp only at hr
        cases hK : mt kk with
        | none => rw [hK] at hr; cases hr
        | some K =>
          rw [hK] at hr
          dsimp only at hr
          split at hr
          · exact ih _ _ _ _ _ hr
          · cases hr
theorem zk_crTy {Ls : Nat} {xs : Nat → Int32} {k : Nat} {as : List Value} {h hE : zk_H} {r : Option Value} {K : zk_M} (hK : zk_mt k = some K) (hct : (zk_ct K).isEmpty = false) (hc : zk_Cr zk_mt zk_ex Ls xs k as h (r, hE)) : zk_aty K r := by
  obtain ⟨K', hK', hc⟩ := hc
  rw [hK] at hK'
  cases hK'
  rcases hc with ⟨h1, _⟩ | ⟨_, _, n, hn⟩
  · rw [h1] at hct; cases hct
  · exact zk_runTy n _ _ _ _ _ hn
section Z81
variable {Ls : Nat} {xs : Nat → Int32} {v : Nat → Nat → Int32} {w : Nat → Nat → Int64} {t : zk_H} {k1 k2 : Nat} {as : List Value}
theorem zT.i (h : zT Ls xs v w t k1 k2 as) {K : zk_M} (hK : zk_mt k1 = some K) (hct : (zk_ct K).isEmpty = false) (hr : zk_ret K = some .int ∨ zk_ret K = some .boolean) : ∃ (a : Int32) (v1 : Nat → Nat → Int32) (w1 : Nat → Nat → Int64) (v2 : Nat → Nat → Int32) (w2 : Nat → Nat → Int64), zk_Cr zk_mt zk_ex Ls xs k1 (.ref 0 :: as) (zH v w t) (some (.int a), zH v1 w1 t) ∧ zk_Cr zk_mt zk_ex Ls xs k2 (.ref 69 :: as) (zH v1 w1 t) (some (.int a), zH v2 w2 t) ∧ zJ v2 w2 := by
  obtain ⟨a, v1, w1, v2, w2, h1, h2, hj⟩ := h
  obtain ⟨x, hx⟩ := (zk_crTy hK hct h1).1 hr
  cases hx
  exact ⟨x, v1, w1, v2, w2, h1, h2, hj⟩
theorem zT.l (h : zT Ls xs v w t k1 k2 as) {K : zk_M} (hK : zk_mt k1 = some K) (hct : (zk_ct K).isEmpty = false) (hr : zk_ret K = some .long) : ∃ (a : Int64) (v1 : Nat → Nat → Int32) (w1 : Nat → Nat → Int64) (v2 : Nat → Nat → Int32) (w2 : Nat → Nat → Int64), zk_Cr zk_mt zk_ex Ls xs k1 (.ref 0 :: as) (zH v w t) (some (.long a), zH v1 w1 t) ∧ zk_Cr zk_mt zk_ex Ls xs k2 (.ref 69 :: as) (zH v1 w1 t) (some (.long a), zH v2 w2 t) ∧ zJ v2 w2 := by
  obtain ⟨a, v1, w1, v2, w2, h1, h2, hj⟩ := h
  obtain ⟨x, hx⟩ := (zk_crTy hK hct h1).2 hr
  cases hx
  exact ⟨x, v1, w1, v2, w2, h1, h2, hj⟩
end Z81
theorem zJ0 : zJ zv0 zw0 := by
  have hs : zI_s 0 0 0 0 0 (fun _ => 0) (fun _ => 0) (fun _ => 0) (fun _ => 0) := ⟨⟨0, by decide, rfl, rfl⟩, rfl, fun g hg => by omega, fun a _ ha => by omega, fun m hm => by omega, fun m hm => by omega⟩
  refine ⟨⟨rfl, rfl, ⟨0, by decide, rfl, rfl, fun k hk => by omega⟩, fun e _ => Or.inl rfl, fun e _ => rfl, ?_, 0, 0, 0, 0, ?_, hs, ?_, Or.inl ⟨rfl, rfl, rfl, rfl, rfl, rfl, rfl, rfl, rfl, rfl⟩⟩, rfl, fun _ => rfl⟩
  · intro j hj
    rcases (show j = 0 ∨ j = 1 ∨ j = 2 ∨ j = 3 ∨ j = 4 ∨ j = 5 ∨ j = 6 by omega) with rfl | rfl | rfl | rfl | rfl | rfl | rfl <;> rfl
  · exact ⟨⟨by decide, by decide, by decide, by decide⟩, ⟨rfl, rfl, rfl, rfl, rfl, rfl, rfl, rfl⟩, ⟨rfl, 0, by decide, rfl, rfl⟩, fun d hd => by omega, fun e _ => Or.inl rfl, fun d hd => by omega, fun d hd => by omega, fun d hd => by omega, hs⟩
  · exact ⟨0, 0, 0, ⟨by decide, by decide, by decide⟩, ⟨rfl, rfl, rfl, rfl, rfl⟩, fun j hj => by omega, fun j hj => by omega⟩
