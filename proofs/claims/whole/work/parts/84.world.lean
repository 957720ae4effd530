/-! the classes and arrays at the law's start -/
theorem zk_ins12 : zk_isw 1344 (.instantiable "java/util/NoSuchElementException" 6) = true := by decide +kernel
theorem zk_insA : ∀ (c : Nat) (q : vw_C), zk_cls[c]? = some q → (∀ w ∈ u_ws q.1 q.2.1 q.2.2, w ∈ zk_TB) ∧ ∃ n, Cond.instantiable q.1 n ∈ zk_TB := by
  intro c q hq
  by_cases hc : c < 12
  · refine ⟨(zk_cf hq hc).1, ?_⟩
    rcases (show c = 0 ∨ c = 1 ∨ c = 2 ∨ c = 3 ∨ c = 4 ∨ c = 5 ∨ c = 6 ∨ c = 7 ∨ c = 8 ∨ c = 9 ∨ c = 10 ∨ c = 11 by omega) with rfl | rfl | rfl | rfl | rfl | rfl | rfl | rfl | rfl | rfl | rfl | rfl
    · cases hq; exact ⟨12, zk_isw_mem zk_ins0⟩
    · cases hq; exact ⟨11, zk_isw_mem zk_ins1⟩
    · cases hq; exact ⟨7, zk_isw_mem zk_ins2⟩
    · cases hq; exact ⟨17, zk_isw_mem zk_ins3⟩
    · cases hq; exact ⟨5, zk_isw_mem zk_ins4⟩
    · cases hq; exact ⟨5, zk_isw_mem zk_ins5⟩
    · cases hq; exact ⟨8, zk_isw_mem zk_ins6⟩
    · cases hq; exact ⟨8, zk_isw_mem zk_ins7⟩
    · cases hq; exact ⟨5, zk_isw_mem zk_ins8⟩
    · cases hq; exact ⟨5, zk_isw_mem zk_ins9⟩
    · cases hq; exact ⟨7, zk_isw_mem zk_ins10⟩
    · cases hq; exact ⟨39, zk_isw_mem zk_ins11⟩
  · by_cases h12 : c = 12
    · subst h12
      cases hq
      exact ⟨fun w hw => by simp [u_ws] at hw, 6, zk_isw_mem zk_ins12⟩
    · rw [List.getElem?_eq_none (show zk_cls.length ≤ c from (show zk_cls.length = 13 from rfl) ▸ (by omega))] at hq
      cases hq
theorem zk_Kst {s : State} {args : Array Value} (hts : ∀ w ∈ zk_TB, w.before args s = true) : ∃ (D : va_G) (E : Nat → ClassId), va_K D zk_cls (zk_tys E) s := by
  have h0 : ∀ c : Nat, ∃ d : ClassId × (Nat → Nat), ∀ q, zk_cls[c]? = some q → u_Kn s q.1 q.2.1 q.2.2 d.1 d.2 := by
    intro c
    cases hq : zk_cls[c]? with
    | none => exact ⟨(0, fun _ => 0), fun q z => by cases z⟩
    | some q =>
      obtain ⟨h1, n, h2⟩ := zk_insA c q hq
      obtain ⟨cC, iS, h3⟩ := u_known hts h1 (hts _ h2)
      exact ⟨(cC, iS), fun q' z => by cases z; exact h3⟩
  obtain ⟨d, hd⟩ := Classical.axiomOfChoice h0
  obtain ⟨cI, kI, pI, i1, i2, i3⟩ := Cond.arrayClass_spec (hts _ (zk_isw_mem zk_arI))
  obtain ⟨cB, kB, pB, b1, b2, b3⟩ := Cond.arrayClass_spec (hts _ (zk_isw_mem zk_arB))
  obtain ⟨cL, kL, pL, l1, l2, l3⟩ := Cond.arrayClass_spec (hts _ (zk_isw_mem zk_arL))
  refine ⟨(fun c => (d c).1, fun c => (d c).2), fun k => match k with | 0 => cI | 1 => cB | _ => cL, fun c q hq => hd c q hq, fun k q hk => ?_⟩
  match k, hk with
  | 0, hk => cases hk; exact ⟨fun n z => ⟨fun k h => (by cases h), kI, i2, pI, i3⟩, i1⟩
  | 1, hk => cases hk; exact ⟨fun n z => ⟨fun k h => (by cases h), kB, b2, pB, b3⟩, b1⟩
  | 2, hk => cases hk; exact ⟨fun n z => ⟨fun k h => (by cases h), kL, l2, pL, l3⟩, l1⟩
