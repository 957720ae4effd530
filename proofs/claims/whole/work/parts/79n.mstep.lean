/-! the reference's reading steps, the smaller -/
def zMs (tn : Nat → Nat) (ts : Nat → Int32) (tp : Nat → Nat) (tv : Nat → Int64) (E : Nat) (B : Nat → Int32) (k : Nat) (u : Nat → Nat → Int32) : Prop := zMt tn ts tp tv E k u ∧ (u 69 = B ∧ u 68 9 = 0) ∧ u 68 13 = 0
def zMx (f : Int32) (p : Nat) (u : Nat → Nat → Int32) : Prop := u 68 13 = 1 ∧ u 68 9 = f ∧ u 68 10 = nI p
/-- what a step of the reference leaves as it was -/
def zMg (v v' : Nat → Nat → Int32) : Prop := (∀ r, r ≠ 68 → r ≠ 70 → v' r = v r) ∧ ∀ j, j < 4 ∨ 8 < j → j ≠ 9 → j ≠ 10 → j ≠ 13 → v' 68 j = v 68 j
def zk_MA (Ls : Nat) (xs : Nat → Int32) (tn : Nat → Nat) (ts : Nat → Int32) (tp : Nat → Nat) (tv : Nat → Int64) (E : Nat) (B : Nat → Int32) : Prop := (∀ k, k ≤ E → tn k ≤ E) ∧ ∀ (v : Nat → Nat → Int32) (w : Nat → Nat → Int64) (t : zk_H) (k : Nat), k ≤ E → v 68 3 = nI E → v 69 = B → v 68 5 = nI k → ∃ v', zk_Cr zk_mt zk_ex Ls xs 122 [.ref 69] (zH v w t) (none, zH v' w t) ∧ zMt tn ts tp tv E k v' ∧ zMf v v'
def zR (tn : Nat → Nat) (ts : Nat → Int32) (tp : Nat → Nat) (tv : Nat → Int64) (E : Nat) (B : Nat → Int32) (res : Nat ⊕ (Int32 × Nat)) (u : Nat → Nat → Int32) : Prop := match res with
  | .inl k => zMs tn ts tp tv E B k u
  | .inr (f, p) => zMx f p u
theorem zMg.refl {u : Nat → Nat → Int32} : zMg u u := ⟨fun _ _ _ => rfl, fun _ _ _ _ _ => rfl⟩
theorem zMg.trans {u v x : Nat → Nat → Int32} (h1 : zMg u v) (h2 : zMg v x) : zMg u x := ⟨fun r a b => (h2.1 r a b).trans (h1.1 r a b), fun j a b c d => (h2.2 j a b c d).trans (h1.2 j a b c d)⟩
theorem zMf.g {u v : Nat → Nat → Int32} (h : zMf u v) : zMg u v := ⟨h.1, fun j a _ _ _ => h.2 j a⟩
theorem zMg.wrong {u : Nat → Nat → Int32} {x y : Int32} : zMg u (zb u 68 (upd (upd (upd (u 68) 9 x) 10 y) 13 1)) := ⟨fun r a _ => zb_un a, fun j _ h9 h10 h13 => (pk_un h13).trans ((pk_un h10).trans (pk_un h9))⟩
theorem zt_tok2 {s : Int32} : zt_tok s = 2 ↔ s = 2 := by
  unfold zt_tok
  by_cases h4 : s = 4
  · rw [if_pos h4, h4]; decide
  · rw [if_neg h4]
    by_cases h5 : s = 5
    · rw [if_pos h5, h5]; decide
    · rw [if_neg h5]
theorem zt_tok3 {s : Int32} : zt_tok s = 3 ↔ s = 3 := by
  unfold zt_tok
  by_cases h4 : s = 4
  · rw [if_pos h4, h4]; decide
  · rw [if_neg h4]
    by_cases h5 : s = 5
    · rw [if_pos h5, h5]; decide
    · rw [if_neg h5]
/-- a text of the reference: its number, length, packed letters -/
def zWs (Ls : Nat) (xs : Nat → Int32) (a n : Nat) (c : Int64) : Prop := (Nat.blt 0 a = true ∧ Nat.ble a 36 = true) ∧ ∃ W : Nat → Int32, (1 ≤ n ∧ n ≤ 8) ∧ (∀ i, i < n → zLt (W i)) ∧ c = zpk n W ∧ (∀ h : zk_H, zk_Cr zk_mt zk_ex Ls xs 0 [.retAddr a] h (some (.int (nI n)), h)) ∧ ∀ (h : zk_H) j, j < n → zk_Cr zk_mt zk_ex Ls xs 1 [.retAddr a, .int (nI j)] h (some (.int (W j)), h)
theorem zw_level {Ls : Nat} {xs : Nat → Int32} : zWs Ls xs 19 5 12769452 := by
  refine ⟨⟨rfl, rfl⟩, fun j => match j with | 0 => 108 | 1 => 101 | 2 => 118 | 3 => 101 | 4 => 108 | _ => 97, ⟨by decide, by decide⟩, ?_, by decide +kernel, fun h => ⟨_, rfl, Or.inl ⟨rfl, rfl⟩⟩, ?_⟩
  · intro i hi
    rcases (show i = 0 ∨ i = 1 ∨ i = 2 ∨ i = 3 ∨ i = 4 by omega) with rfl | rfl | rfl | rfl | rfl
    · exact ⟨108, by decide, by decide, rfl⟩
    · exact ⟨101, by decide, by decide, rfl⟩
    · exact ⟨118, by decide, by decide, rfl⟩
    · exact ⟨101, by decide, by decide, rfl⟩
    · exact ⟨108, by decide, by decide, rfl⟩
  · intro h j hj
    rcases (show j = 0 ∨ j = 1 ∨ j = 2 ∨ j = 3 ∨ j = 4 by omega) with rfl | rfl | rfl | rfl | rfl
    · exact ⟨_, rfl, Or.inl ⟨rfl, rfl⟩⟩
    · exact ⟨_, rfl, Or.inl ⟨rfl, rfl⟩⟩
    · exact ⟨_, rfl, Or.inl ⟨rfl, rfl⟩⟩
    · exact ⟨_, rfl, Or.inl ⟨rfl, rfl⟩⟩
    · exact ⟨_, rfl, Or.inl ⟨rfl, rfl⟩⟩
theorem zw_hurry {Ls : Nat} {xs : Nat → Int32} : zWs Ls xs 20 5 9095769 := by
  refine ⟨⟨rfl, rfl⟩, fun j => match j with | 0 => 104 | 1 => 117 | 2 => 114 | 3 => 114 | 4 => 121 | _ => 97, ⟨by decide, by decide⟩, ?_, by decide +kernel, fun h => ⟨_, rfl, Or.inl ⟨rfl, rfl⟩⟩, ?_⟩
  · intro i hi
    rcases (show i = 0 ∨ i = 1 ∨ i = 2 ∨ i = 3 ∨ i = 4 by omega) with rfl | rfl | rfl | rfl | rfl
    · exact ⟨104, by decide, by decide, rfl⟩
    · exact ⟨117, by decide, by decide, rfl⟩
    · exact ⟨114, by decide, by decide, rfl⟩
    · exact ⟨114, by decide, by decide, rfl⟩
    · exact ⟨121, by decide, by decide, rfl⟩
  · intro h j hj
    rcases (show j = 0 ∨ j = 1 ∨ j = 2 ∨ j = 3 ∨ j = 4 by omega) with rfl | rfl | rfl | rfl | rfl
    · exact ⟨_, rfl, Or.inl ⟨rfl, rfl⟩⟩
    · exact ⟨_, rfl, Or.inl ⟨rfl, rfl⟩⟩
    · exact ⟨_, rfl, Or.inl ⟨rfl, rfl⟩⟩
    · exact ⟨_, rfl, Or.inl ⟨rfl, rfl⟩⟩
    · exact ⟨_, rfl, Or.inl ⟨rfl, rfl⟩⟩
theorem zw_danger {Ls : Nat} {xs : Nat → Int32} : zWs Ls xs 21 6 135732402 := by
  refine ⟨⟨rfl, rfl⟩, fun j => match j with | 0 => 100 | 1 => 97 | 2 => 110 | 3 => 103 | 4 => 101 | 5 => 114 | _ => 97, ⟨by decide, by decide⟩, ?_, by decide +kernel, fun h => ⟨_, rfl, Or.inl ⟨rfl, rfl⟩⟩, ?_⟩
  · intro i hi
    rcases (show i = 0 ∨ i = 1 ∨ i = 2 ∨ i = 3 ∨ i = 4 ∨ i = 5 by omega) with rfl | rfl | rfl | rfl | rfl | rfl
    · exact ⟨100, by decide, by decide, rfl⟩
    · exact ⟨97, by decide, by decide, rfl⟩
    · exact ⟨110, by decide, by decide, rfl⟩
    · exact ⟨103, by decide, by decide, rfl⟩
    · exact ⟨101, by decide, by decide, rfl⟩
    · exact ⟨114, by decide, by decide, rfl⟩
  · intro h j hj
    rcases (show j = 0 ∨ j = 1 ∨ j = 2 ∨ j = 3 ∨ j = 4 ∨ j = 5 by omega) with rfl | rfl | rfl | rfl | rfl | rfl
    · exact ⟨_, rfl, Or.inl ⟨rfl, rfl⟩⟩
    · exact ⟨_, rfl, Or.inl ⟨rfl, rfl⟩⟩
    · exact ⟨_, rfl, Or.inl ⟨rfl, rfl⟩⟩
    · exact ⟨_, rfl, Or.inl ⟨rfl, rfl⟩⟩
    · exact ⟨_, rfl, Or.inl ⟨rfl, rfl⟩⟩
    · exact ⟨_, rfl, Or.inl ⟨rfl, rfl⟩⟩
theorem zw_maker {Ls : Nat} {xs : Nat → Int32} : zWs Ls xs 22 5 13675698 := by
  refine ⟨⟨rfl, rfl⟩, fun j => match j with | 0 => 109 | 1 => 97 | 2 => 107 | 3 => 101 | 4 => 114 | _ => 97, ⟨by decide, by decide⟩, ?_, by decide +kernel, fun h => ⟨_, rfl, Or.inl ⟨rfl, rfl⟩⟩, ?_⟩
  · intro i hi
    rcases (show i = 0 ∨ i = 1 ∨ i = 2 ∨ i = 3 ∨ i = 4 by omega) with rfl | rfl | rfl | rfl | rfl
    · exact ⟨109, by decide, by decide, rfl⟩
    · exact ⟨97, by decide, by decide, rfl⟩
    · exact ⟨107, by decide, by decide, rfl⟩
    · exact ⟨101, by decide, by decide, rfl⟩
    · exact ⟨114, by decide, by decide, rfl⟩
  · intro h j hj
    rcases (show j = 0 ∨ j = 1 ∨ j = 2 ∨ j = 3 ∨ j = 4 by omega) with rfl | rfl | rfl | rfl | rfl
    · exact ⟨_, rfl, Or.inl ⟨rfl, rfl⟩⟩
    · exact ⟨_, rfl, Or.inl ⟨rfl, rfl⟩⟩
    · exact ⟨_, rfl, Or.inl ⟨rfl, rfl⟩⟩
    · exact ⟨_, rfl, Or.inl ⟨rfl, rfl⟩⟩
    · exact ⟨_, rfl, Or.inl ⟨rfl, rfl⟩⟩
theorem zw_good {Ls : Nat} {xs : Nat → Int32} : zWs Ls xs 23 4 245220 := by
  refine ⟨⟨rfl, rfl⟩, fun j => match j with | 0 => 103 | 1 => 111 | 2 => 111 | 3 => 100 | _ => 97, ⟨by decide, by decide⟩, ?_, by decide +kernel, fun h => ⟨_, rfl, Or.inl ⟨rfl, rfl⟩⟩, ?_⟩
  · intro i hi
    rcases (show i = 0 ∨ i = 1 ∨ i = 2 ∨ i = 3 by omega) with rfl | rfl | rfl | rfl
    · exact ⟨103, by decide, by decide, rfl⟩
    · exact ⟨111, by decide, by decide, rfl⟩
    · exact ⟨111, by decide, by decide, rfl⟩
    · exact ⟨100, by decide, by decide, rfl⟩
  · intro h j hj
    rcases (show j = 0 ∨ j = 1 ∨ j = 2 ∨ j = 3 by omega) with rfl | rfl | rfl | rfl
    · exact ⟨_, rfl, Or.inl ⟨rfl, rfl⟩⟩
    · exact ⟨_, rfl, Or.inl ⟨rfl, rfl⟩⟩
    · exact ⟨_, rfl, Or.inl ⟨rfl, rfl⟩⟩
    · exact ⟨_, rfl, Or.inl ⟨rfl, rfl⟩⟩
theorem zw_in {Ls : Nat} {xs : Nat → Int32} : zWs Ls xs 24 2 302 := by
  refine ⟨⟨rfl, rfl⟩, fun j => match j with | 0 => 105 | 1 => 110 | _ => 97, ⟨by decide, by decide⟩, ?_, by decide +kernel, fun h => ⟨_, rfl, Or.inl ⟨rfl, rfl⟩⟩, ?_⟩
  · intro i hi
    rcases (show i = 0 ∨ i = 1 by omega) with rfl | rfl
    · exact ⟨105, by decide, by decide, rfl⟩
    · exact ⟨110, by decide, by decide, rfl⟩
  · intro h j hj
    rcases (show j = 0 ∨ j = 1 by omega) with rfl | rfl
    · exact ⟨_, rfl, Or.inl ⟨rfl, rfl⟩⟩
    · exact ⟨_, rfl, Or.inl ⟨rfl, rfl⟩⟩
theorem zw_unsure {Ls : Nat} {xs : Nat → Int32} : zWs Ls xs 25 6 719967813 := by
  refine ⟨⟨rfl, rfl⟩, fun j => match j with | 0 => 117 | 1 => 110 | 2 => 115 | 3 => 117 | 4 => 114 | 5 => 101 | _ => 97, ⟨by decide, by decide⟩, ?_, by decide +kernel, fun h => ⟨_, rfl, Or.inl ⟨rfl, rfl⟩⟩, ?_⟩
  · intro i hi
    rcases (show i = 0 ∨ i = 1 ∨ i = 2 ∨ i = 3 ∨ i = 4 ∨ i = 5 by omega) with rfl | rfl | rfl | rfl | rfl | rfl
    · exact ⟨117, by decide, by decide, rfl⟩
    · exact ⟨110, by decide, by decide, rfl⟩
    · exact ⟨115, by decide, by decide, rfl⟩
    · exact ⟨117, by decide, by decide, rfl⟩
    · exact ⟨114, by decide, by decide, rfl⟩
    · exact ⟨101, by decide, by decide, rfl⟩
  · intro h j hj
    rcases (show j = 0 ∨ j = 1 ∨ j = 2 ∨ j = 3 ∨ j = 4 ∨ j = 5 by omega) with rfl | rfl | rfl | rfl | rfl | rfl
    · exact ⟨_, rfl, Or.inl ⟨rfl, rfl⟩⟩
    · exact ⟨_, rfl, Or.inl ⟨rfl, rfl⟩⟩
    · exact ⟨_, rfl, Or.inl ⟨rfl, rfl⟩⟩
    · exact ⟨_, rfl, Or.inl ⟨rfl, rfl⟩⟩
    · exact ⟨_, rfl, Or.inl ⟨rfl, rfl⟩⟩
    · exact ⟨_, rfl, Or.inl ⟨rfl, rfl⟩⟩
theorem zw_befell {Ls : Nat} {xs : Nat → Int32} : zWs Ls xs 26 6 72553868 := by
  refine ⟨⟨rfl, rfl⟩, fun j => match j with | 0 => 98 | 1 => 101 | 2 => 102 | 3 => 101 | 4 => 108 | 5 => 108 | _ => 97, ⟨by decide, by decide⟩, ?_, by decide +kernel, fun h => ⟨_, rfl, Or.inl ⟨rfl, rfl⟩⟩, ?_⟩
  · intro i hi
    rcases (show i = 0 ∨ i = 1 ∨ i = 2 ∨ i = 3 ∨ i = 4 ∨ i = 5 by omega) with rfl | rfl | rfl | rfl | rfl | rfl
    · exact ⟨98, by decide, by decide, rfl⟩
    · exact ⟨101, by decide, by decide, rfl⟩
    · exact ⟨102, by decide, by decide, rfl⟩
    · exact ⟨101, by decide, by decide, rfl⟩
    · exact ⟨108, by decide, by decide, rfl⟩
    · exact ⟨108, by decide, by decide, rfl⟩
  · intro h j hj
    rcases (show j = 0 ∨ j = 1 ∨ j = 2 ∨ j = 3 ∨ j = 4 ∨ j = 5 by omega) with rfl | rfl | rfl | rfl | rfl | rfl
    · exact ⟨_, rfl, Or.inl ⟨rfl, rfl⟩⟩
    · exact ⟨_, rfl, Or.inl ⟨rfl, rfl⟩⟩
    · exact ⟨_, rfl, Or.inl ⟨rfl, rfl⟩⟩
    · exact ⟨_, rfl, Or.inl ⟨rfl, rfl⟩⟩
    · exact ⟨_, rfl, Or.inl ⟨rfl, rfl⟩⟩
    · exact ⟨_, rfl, Or.inl ⟨rfl, rfl⟩⟩
theorem zw_every {Ls : Nat} {xs : Nat → Int32} : zWs Ls xs 27 5 5969497 := by
  refine ⟨⟨rfl, rfl⟩, fun j => match j with | 0 => 101 | 1 => 118 | 2 => 101 | 3 => 114 | 4 => 121 | _ => 97, ⟨by decide, by decide⟩, ?_, by decide +kernel, fun h => ⟨_, rfl, Or.inl ⟨rfl, rfl⟩⟩, ?_⟩
  · intro i hi
    rcases (show i = 0 ∨ i = 1 ∨ i = 2 ∨ i = 3 ∨ i = 4 by omega) with rfl | rfl | rfl | rfl | rfl
    · exact ⟨101, by decide, by decide, rfl⟩
    · exact ⟨118, by decide, by decide, rfl⟩
    · exact ⟨101, by decide, by decide, rfl⟩
    · exact ⟨114, by decide, by decide, rfl⟩
    · exact ⟨121, by decide, by decide, rfl⟩
  · intro h j hj
    rcases (show j = 0 ∨ j = 1 ∨ j = 2 ∨ j = 3 ∨ j = 4 by omega) with rfl | rfl | rfl | rfl | rfl
    · exact ⟨_, rfl, Or.inl ⟨rfl, rfl⟩⟩
    · exact ⟨_, rfl, Or.inl ⟨rfl, rfl⟩⟩
    · exact ⟨_, rfl, Or.inl ⟨rfl, rfl⟩⟩
    · exact ⟨_, rfl, Or.inl ⟨rfl, rfl⟩⟩
    · exact ⟨_, rfl, Or.inl ⟨rfl, rfl⟩⟩
theorem zw_from {Ls : Nat} {xs : Nat → Int32} : zWs Ls xs 28 4 215533 := by
  refine ⟨⟨rfl, rfl⟩, fun j => match j with | 0 => 102 | 1 => 114 | 2 => 111 | 3 => 109 | _ => 97, ⟨by decide, by decide⟩, ?_, by decide +kernel, fun h => ⟨_, rfl, Or.inl ⟨rfl, rfl⟩⟩, ?_⟩
  · intro i hi
    rcases (show i = 0 ∨ i = 1 ∨ i = 2 ∨ i = 3 by omega) with rfl | rfl | rfl | rfl
    · exact ⟨102, by decide, by decide, rfl⟩
    · exact ⟨114, by decide, by decide, rfl⟩
    · exact ⟨111, by decide, by decide, rfl⟩
    · exact ⟨109, by decide, by decide, rfl⟩
  · intro h j hj
    rcases (show j = 0 ∨ j = 1 ∨ j = 2 ∨ j = 3 by omega) with rfl | rfl | rfl | rfl
    · exact ⟨_, rfl, Or.inl ⟨rfl, rfl⟩⟩
    · exact ⟨_, rfl, Or.inl ⟨rfl, rfl⟩⟩
    · exact ⟨_, rfl, Or.inl ⟨rfl, rfl⟩⟩
    · exact ⟨_, rfl, Or.inl ⟨rfl, rfl⟩⟩
theorem zw_grave {Ls : Nat} {xs : Nat → Int32} : zWs Ls xs 29 5 7931589 := by
  refine ⟨⟨rfl, rfl⟩, fun j => match j with | 0 => 103 | 1 => 114 | 2 => 97 | 3 => 118 | 4 => 101 | _ => 97, ⟨by decide, by decide⟩, ?_, by decide +kernel, fun h => ⟨_, rfl, Or.inl ⟨rfl, rfl⟩⟩, ?_⟩
  · intro i hi
    rcases (show i = 0 ∨ i = 1 ∨ i = 2 ∨ i = 3 ∨ i = 4 by omega) with rfl | rfl | rfl | rfl | rfl
    · exact ⟨103, by decide, by decide, rfl⟩
    · exact ⟨114, by decide, by decide, rfl⟩
    · exact ⟨97, by decide, by decide, rfl⟩
    · exact ⟨118, by decide, by decide, rfl⟩
    · exact ⟨101, by decide, by decide, rfl⟩
  · intro h j hj
    rcases (show j = 0 ∨ j = 1 ∨ j = 2 ∨ j = 3 ∨ j = 4 by omega) with rfl | rfl | rfl | rfl | rfl
    · exact ⟨_, rfl, Or.inl ⟨rfl, rfl⟩⟩
    · exact ⟨_, rfl, Or.inl ⟨rfl, rfl⟩⟩
    · exact ⟨_, rfl, Or.inl ⟨rfl, rfl⟩⟩
    · exact ⟨_, rfl, Or.inl ⟨rfl, rfl⟩⟩
    · exact ⟨_, rfl, Or.inl ⟨rfl, rfl⟩⟩
theorem zw_hasty {Ls : Nat} {xs : Nat → Int32} : zWs Ls xs 30 5 8441497 := by
  refine ⟨⟨rfl, rfl⟩, fun j => match j with | 0 => 104 | 1 => 97 | 2 => 115 | 3 => 116 | 4 => 121 | _ => 97, ⟨by decide, by decide⟩, ?_, by decide +kernel, fun h => ⟨_, rfl, Or.inl ⟨rfl, rfl⟩⟩, ?_⟩
  · intro i hi
    rcases (show i = 0 ∨ i = 1 ∨ i = 2 ∨ i = 3 ∨ i = 4 by omega) with rfl | rfl | rfl | rfl | rfl
    · exact ⟨104, by decide, by decide, rfl⟩
    · exact ⟨97, by decide, by decide, rfl⟩
    · exact ⟨115, by decide, by decide, rfl⟩
    · exact ⟨116, by decide, by decide, rfl⟩
    · exact ⟨121, by decide, by decide, rfl⟩
  · intro h j hj
    rcases (show j = 0 ∨ j = 1 ∨ j = 2 ∨ j = 3 ∨ j = 4 by omega) with rfl | rfl | rfl | rfl | rfl
    · exact ⟨_, rfl, Or.inl ⟨rfl, rfl⟩⟩
    · exact ⟨_, rfl, Or.inl ⟨rfl, rfl⟩⟩
    · exact ⟨_, rfl, Or.inl ⟨rfl, rfl⟩⟩
    · exact ⟨_, rfl, Or.inl ⟨rfl, rfl⟩⟩
    · exact ⟨_, rfl, Or.inl ⟨rfl, rfl⟩⟩
theorem zw_happy {Ls : Nat} {xs : Nat → Int32} : zWs Ls xs 31 5 8438297 := by
  refine ⟨⟨rfl, rfl⟩, fun j => match j with | 0 => 104 | 1 => 97 | 2 => 112 | 3 => 112 | 4 => 121 | _ => 97, ⟨by decide, by decide⟩, ?_, by decide +kernel, fun h => ⟨_, rfl, Or.inl ⟨rfl, rfl⟩⟩, ?_⟩
  · intro i hi
    rcases (show i = 0 ∨ i = 1 ∨ i = 2 ∨ i = 3 ∨ i = 4 by omega) with rfl | rfl | rfl | rfl | rfl
    · exact ⟨104, by decide, by decide, rfl⟩
    · exact ⟨97, by decide, by decide, rfl⟩
    · exact ⟨112, by decide, by decide, rfl⟩
    · exact ⟨112, by decide, by decide, rfl⟩
    · exact ⟨121, by decide, by decide, rfl⟩
  · intro h j hj
    rcases (show j = 0 ∨ j = 1 ∨ j = 2 ∨ j = 3 ∨ j = 4 by omega) with rfl | rfl | rfl | rfl | rfl
    · exact ⟨_, rfl, Or.inl ⟨rfl, rfl⟩⟩
    · exact ⟨_, rfl, Or.inl ⟨rfl, rfl⟩⟩
    · exact ⟨_, rfl, Or.inl ⟨rfl, rfl⟩⟩
    · exact ⟨_, rfl, Or.inl ⟨rfl, rfl⟩⟩
    · exact ⟨_, rfl, Or.inl ⟨rfl, rfl⟩⟩
theorem zw_lasts {Ls : Nat} {xs : Nat → Int32} : zWs Ls xs 32 5 12635795 := by
  refine ⟨⟨rfl, rfl⟩, fun j => match j with | 0 => 108 | 1 => 97 | 2 => 115 | 3 => 116 | 4 => 115 | _ => 97, ⟨by decide, by decide⟩, ?_, by decide +kernel, fun h => ⟨_, rfl, Or.inl ⟨rfl, rfl⟩⟩, ?_⟩
  · intro i hi
    rcases (show i = 0 ∨ i = 1 ∨ i = 2 ∨ i = 3 ∨ i = 4 by omega) with rfl | rfl | rfl | rfl | rfl
    · exact ⟨108, by decide, by decide, rfl⟩
    · exact ⟨97, by decide, by decide, rfl⟩
    · exact ⟨115, by decide, by decide, rfl⟩
    · exact ⟨116, by decide, by decide, rfl⟩
    · exact ⟨115, by decide, by decide, rfl⟩
  · intro h j hj
    rcases (show j = 0 ∨ j = 1 ∨ j = 2 ∨ j = 3 ∨ j = 4 by omega) with rfl | rfl | rfl | rfl | rfl
    · exact ⟨_, rfl, Or.inl ⟨rfl, rfl⟩⟩
    · exact ⟨_, rfl, Or.inl ⟨rfl, rfl⟩⟩
    · exact ⟨_, rfl, Or.inl ⟨rfl, rfl⟩⟩
    · exact ⟨_, rfl, Or.inl ⟨rfl, rfl⟩⟩
    · exact ⟨_, rfl, Or.inl ⟨rfl, rfl⟩⟩
theorem zw_thinks {Ls : Nat} {xs : Nat → Int32} : zWs Ls xs 33 6 679786867 := by
  refine ⟨⟨rfl, rfl⟩, fun j => match j with | 0 => 116 | 1 => 104 | 2 => 105 | 3 => 110 | 4 => 107 | 5 => 115 | _ => 97, ⟨by decide, by decide⟩, ?_, by decide +kernel, fun h => ⟨_, rfl, Or.inl ⟨rfl, rfl⟩⟩, ?_⟩
  · intro i hi
    rcases (show i = 0 ∨ i = 1 ∨ i = 2 ∨ i = 3 ∨ i = 4 ∨ i = 5 by omega) with rfl | rfl | rfl | rfl | rfl | rfl
    · exact ⟨116, by decide, by decide, rfl⟩
    · exact ⟨104, by decide, by decide, rfl⟩
    · exact ⟨105, by decide, by decide, rfl⟩
    · exact ⟨110, by decide, by decide, rfl⟩
    · exact ⟨107, by decide, by decide, rfl⟩
    · exact ⟨115, by decide, by decide, rfl⟩
  · intro h j hj
    rcases (show j = 0 ∨ j = 1 ∨ j = 2 ∨ j = 3 ∨ j = 4 ∨ j = 5 by omega) with rfl | rfl | rfl | rfl | rfl | rfl
    · exact ⟨_, rfl, Or.inl ⟨rfl, rfl⟩⟩
    · exact ⟨_, rfl, Or.inl ⟨rfl, rfl⟩⟩
    · exact ⟨_, rfl, Or.inl ⟨rfl, rfl⟩⟩
    · exact ⟨_, rfl, Or.inl ⟨rfl, rfl⟩⟩
    · exact ⟨_, rfl, Or.inl ⟨rfl, rfl⟩⟩
    · exact ⟨_, rfl, Or.inl ⟨rfl, rfl⟩⟩
theorem zw_worth {Ls : Nat} {xs : Nat → Int32} : zWs Ls xs 34 5 24627848 := by
  refine ⟨⟨rfl, rfl⟩, fun j => match j with | 0 => 119 | 1 => 111 | 2 => 114 | 3 => 116 | 4 => 104 | _ => 97, ⟨by decide, by decide⟩, ?_, by decide +kernel, fun h => ⟨_, rfl, Or.inl ⟨rfl, rfl⟩⟩, ?_⟩
  · intro i hi
    rcases (show i = 0 ∨ i = 1 ∨ i = 2 ∨ i = 3 ∨ i = 4 by omega) with rfl | rfl | rfl | rfl | rfl
    · exact ⟨119, by decide, by decide, rfl⟩
    · exact ⟨111, by decide, by decide, rfl⟩
    · exact ⟨114, by decide, by decide, rfl⟩
    · exact ⟨116, by decide, by decide, rfl⟩
    · exact ⟨104, by decide, by decide, rfl⟩
  · intro h j hj
    rcases (show j = 0 ∨ j = 1 ∨ j = 2 ∨ j = 3 ∨ j = 4 by omega) with rfl | rfl | rfl | rfl | rfl
    · exact ⟨_, rfl, Or.inl ⟨rfl, rfl⟩⟩
    · exact ⟨_, rfl, Or.inl ⟨rfl, rfl⟩⟩
    · exact ⟨_, rfl, Or.inl ⟨rfl, rfl⟩⟩
    · exact ⟨_, rfl, Or.inl ⟨rfl, rfl⟩⟩
    · exact ⟨_, rfl, Or.inl ⟨rfl, rfl⟩⟩
theorem zw_fears {Ls : Nat} {xs : Nat → Int32} : zWs Ls xs 35 5 6456915 := by
  refine ⟨⟨rfl, rfl⟩, fun j => match j with | 0 => 102 | 1 => 101 | 2 => 97 | 3 => 114 | 4 => 115 | _ => 97, ⟨by decide, by decide⟩, ?_, by decide +kernel, fun h => ⟨_, rfl, Or.inl ⟨rfl, rfl⟩⟩, ?_⟩
  · intro i hi
    rcases (show i = 0 ∨ i = 1 ∨ i = 2 ∨ i = 3 ∨ i = 4 by omega) with rfl | rfl | rfl | rfl | rfl
    · exact ⟨102, by decide, by decide, rfl⟩
    · exact ⟨101, by decide, by decide, rfl⟩
    · exact ⟨97, by decide, by decide, rfl⟩
    · exact ⟨114, by decide, by decide, rfl⟩
    · exact ⟨115, by decide, by decide, rfl⟩
  · intro h j hj
    rcases (show j = 0 ∨ j = 1 ∨ j = 2 ∨ j = 3 ∨ j = 4 by omega) with rfl | rfl | rfl | rfl | rfl
    · exact ⟨_, rfl, Or.inl ⟨rfl, rfl⟩⟩
    · exact ⟨_, rfl, Or.inl ⟨rfl, rfl⟩⟩
    · exact ⟨_, rfl, Or.inl ⟨rfl, rfl⟩⟩
    · exact ⟨_, rfl, Or.inl ⟨rfl, rfl⟩⟩
    · exact ⟨_, rfl, Or.inl ⟨rfl, rfl⟩⟩
theorem zw_year {Ls : Nat} {xs : Nat → Int32} : zWs Ls xs 36 4 824370 := by
  refine ⟨⟨rfl, rfl⟩, fun j => match j with | 0 => 121 | 1 => 101 | 2 => 97 | 3 => 114 | _ => 97, ⟨by decide, by decide⟩, ?_, by decide +kernel, fun h => ⟨_, rfl, Or.inl ⟨rfl, rfl⟩⟩, ?_⟩
  · intro i hi
    rcases (show i = 0 ∨ i = 1 ∨ i = 2 ∨ i = 3 by omega) with rfl | rfl | rfl | rfl
    · exact ⟨121, by decide, by decide, rfl⟩
    · exact ⟨101, by decide, by decide, rfl⟩
    · exact ⟨97, by decide, by decide, rfl⟩
    · exact ⟨114, by decide, by decide, rfl⟩
  · intro h j hj
    rcases (show j = 0 ∨ j = 1 ∨ j = 2 ∨ j = 3 by omega) with rfl | rfl | rfl | rfl
    · exact ⟨_, rfl, Or.inl ⟨rfl, rfl⟩⟩
    · exact ⟨_, rfl, Or.inl ⟨rfl, rfl⟩⟩
    · exact ⟨_, rfl, Or.inl ⟨rfl, rfl⟩⟩
    · exact ⟨_, rfl, Or.inl ⟨rfl, rfl⟩⟩
theorem zfr_l {σ ρ : Type} {G : Nat → σ → σ ⊕ ρ} {n i : Nat} {s s' : σ} (h : G i s = .inl s') : zfr G (n + 1) i s = zfr G n (i + 1) s' := by
  show (match G i s with | .inl s' => zfr G n (i + 1) s' | .inr r => .inr r) = _
  rw [h]
theorem zfr_r {σ ρ : Type} {G : Nat → σ → σ ⊕ ρ} {n i : Nat} {s : σ} {r : ρ} (h : G i s = .inr r) : zfr G (n + 1) i s = .inr r := by
  show (match G i s with | .inl s' => zfr G n (i + 1) s' | .inr r => .inr r) = _
  rw [h]
theorem zr_line_r {va : Int64} {m i : Nat} {lw : Nat → Int64} (h : lw i = va) : zfr (zl_lineG lw va) (m + 1) i () = .inr (nI i) := zfr_r (if_pos (zp_cmp.mpr h))
theorem zr_line_l {va : Int64} {m i : Nat} {lw : Nat → Int64} (h : ¬ lw i = va) : zfr (zl_lineG lw va) (m + 1) i () = zfr (zl_lineG lw va) m (i + 1) () := zfr_l (if_neg (fun z => h (zp_cmp.mp z)))
theorem zr_lineF {lw : Nat → Int64} {va : Int64} : ∀ (m i : Nat), (∃ j, i ≤ j ∧ j < i + m ∧ lw j = va ∧ (∀ a, i ≤ a → a < j → lw a ≠ va) ∧ zfr (zl_lineG lw va) m i () = .inr (nI j)) ∨ ((∀ a, i ≤ a → a < i + m → lw a ≠ va) ∧ zfr (zl_lineG lw va) m i () = .inl ()) := by
  intro m
  induction m with
  | zero => intro i; exact Or.inr ⟨fun a h1 h2 => by omega, rfl⟩
  | succ m ih =>
    intro i
    by_cases h : lw i = va
    · exact Or.inl ⟨i, Nat.le_refl _, by omega, h, fun a h1 h2 => by omega, zr_line_r h⟩
    · rw [zr_line_l h]
      rcases ih (i + 1) with ⟨j, h1, h2, h3, h4, h5⟩ | ⟨h1, h2⟩
      · refine Or.inl ⟨j, by omega, by omega, h3, fun a q1 q2 => ?_, h5⟩
        by_cases ha : a = i
        · subst ha; exact h
        · exact h4 a (by omega) q2
      · refine Or.inr ⟨fun a q1 q2 => ?_, h2⟩
        by_cases ha : a = i
        · subst ha; exact h
        · exact h1 a (by omega) (by omega)
/-- which line a word begins -/
theorem zr_lineOf_is (so : Int32) (va : Int64) : (so = 2 ∧ ∃ j, j < 7 ∧ zk_lw j = va ∧ zr_lineOf so zk_lw va = nI j ∧ zr_isName so zk_lw va = 0) ∨ ((so = 2 → ∀ j, j < 7 → zk_lw j ≠ va) ∧ zr_lineOf so zk_lw va = -1 ∧ (zr_isName so zk_lw va = 0 ↔ ¬ so = 2)) := by
  by_cases h2 : so = 2
  · have el : zr_lineOf so zk_lw va = match zfr (zl_lineG zk_lw va) 7 0 () with | .inl s => (-1) | .inr r => r := by
      unfold zr_lineOf
      rw [if_pos h2]
      cases zfr (zl_lineG zk_lw va) 7 0 () <;> rfl
    rcases zr_lineF (lw := zk_lw) (va := va) 7 0 with ⟨j, h1, h3, h4, h5, h6⟩ | ⟨h1, h3⟩
    · rw [h6] at el
      refine Or.inl ⟨h2, j, by omega, h4, el, ?_⟩
      unfold zr_isName
      rw [el, if_pos h2, if_neg (fun z => ?_)]
      have := nI_pos (n := j) (by omega)
      rw [show nI j = -1 from z] at this
      exact absurd this (by decide)
    · rw [h3] at el
      refine Or.inr ⟨fun _ j hj => h1 j (by omega) (by omega), el, ?_⟩
      unfold zr_isName
      rw [el, if_pos h2, if_pos rfl]
      exact ⟨fun z => absurd z (by decide), fun z => absurd h2 z⟩
  · refine Or.inr ⟨fun z => absurd z h2, ?_, ?_⟩
    · unfold zr_lineOf; rw [if_neg h2]
    · unfold zr_isName; rw [if_neg h2]; exact ⟨fun _ => h2, fun _ => rfl⟩
section Z60
variable {Ls : Nat} {xs : Nat → Int32} {v u : Nat → Nat → Int32} {w : Nat → Nat → Int64} {t : zk_H}
variable {tn : Nat → Nat} {ts : Nat → Int32} {tp : Nat → Nat} {tv : Nat → Int64} {E : Nat} {B : Nat → Int32}
theorem zm_next (hM : zk_MA Ls xs tn ts tp tv E B) {k : Nat} (hs : zMs tn ts tp tv E B k u) : ∃ u', zk_Cr zk_mt zk_ex Ls xs 122 [.ref 69] (zH u w t) (none, zH u' w t) ∧ zMg u u' ∧ zMs tn ts tp tv E B (tn k) u' := by
  obtain ⟨⟨h0, h1, _, h3, _⟩, h4, h5⟩ := hs
  obtain ⟨u', q1, q2, q3⟩ := hM.2 u w t (tn k) (hM.1 k h0) h1 h4.1 h3
  exact ⟨u', q1, q3.g, q2, ⟨(q3.1 69 (by decide) (by decide)).trans h4.1, (q3.2 9 (by omega)).trans h4.2⟩, (q3.2 13 (by omega)).trans h5⟩
def zl_iwG (f W : Nat → Int32) (j : Nat) (s : Int32) : Int32 := match s with
  | sm => if sm = 0 then 0 else (if (f j) = (W j) then 1 else 0)
theorem zl_iw (n a : Nat) (hb1 : Nat.blt 0 a = true) (hb2 : Nat.ble a 36 = true) (W : Nat → Int32) (hn8 : n ≤ 8) (hlen : ∀ h : zk_H, zk_Cr zk_mt zk_ex Ls xs 0 [.retAddr a] h (some (.int (nI n)), h)) (hch : ∀ (h : zk_H) j, j < n → zk_Cr zk_mt zk_ex Ls xs 1 [.retAddr a, .int (nI j)] h (some (.int (W j)), h)) : ∀ (s : Int32) (q : Option Value × zk_H), zk_T zk_mt zk_ex Ls xs zm_225 ((fun (s : Int32) => ((70, [(0, .ref 69), (1, .retAddr a), (2, .int s), (3, .int (nI (0 + n)))], []) : zk_F)) (zf (zl_iwG (u 70) W) n 0 s)) ((fun (s : Int32) => zH (zb u 68 (upd (u 68) 8 (nI n))) w t) (zf (zl_iwG (u 70) W) n 0 s)) q → zk_T zk_mt zk_ex Ls xs zm_225 (32, [(0, .ref 69), (1, .retAddr a), (2, .int s), (3, .int (nI 0))], []) (zH (zb u 68 (upd (u 68) 8 (nI n))) w t) q := by
  intro s q hk
  refine zk_forK (M := zm_225) (fun j (s : Int32) => (32, [(0, .ref 69), (1, .retAddr a), (2, .int s), (3, .int (nI j))], [])) (fun _ (s : Int32) => zH (zb u 68 (upd (u 68) 8 (nI n))) w t) (zl_iwG (u 70) W) (fun _ _ => True) (fun (s : Int32) => (70, [(0, .ref 69), (1, .retAddr a), (2, .int s), (3, .int (nI (0 + n)))], [])) (fun (s : Int32) => zH (zb u 68 (upd (u 68) 8 (nI n))) w t) (n) 0 s (fun _ _ _ _ _ => trivial) (fun j s hj1 hj2 hp q hk => ?_) (fun s hp q hk => ?_) ?_ q hk
  · have hz := True.intro
    obtain ⟨sm, rfl⟩ : ∃ z, z = s := ⟨_, rfl⟩
    show zk_T zk_mt zk_ex Ls xs zm_225 (32, [(0, .ref 69), (1, .retAddr a), (2, .int sm), (3, .int (nI j))], []) (zH (zb u 68 (upd (u 68) 8 (nI n))) w t) q
    refine zk_T.adv 3 (f' := (37, [(0, .ref 69), (1, .retAddr a), (2, .int sm), (3, .int (nI j))], [.int (nI n), .int (nI j)])) (h' := zH (zb u 68 (upd (u 68) 8 (nI n))) w t) rfl ?_
    refine zk_T.br (f1 := (70, [(0, .ref 69), (1, .retAddr a), (2, .int sm), (3, .int (nI j))], [])) (f2 := (40, [(0, .ref 69), (1, .retAddr a), (2, .int sm), (3, .int (nI j))], [])) rfl (fun c1 => absurd (of_decide_eq_true c1) (nI_ge (show j < n by omega) (by omega))) (fun c1 => ?_)
    refine zk_T.adv 1 (f' := (41, [(0, .ref 69), (1, .retAddr a), (2, .int sm), (3, .int (nI j))], [.int sm])) (h' := zH (zb u 68 (upd (u 68) 8 (nI n))) w t) rfl ?_
    refine zk_T.br (f1 := (62, [(0, .ref 69), (1, .retAddr a), (2, .int sm), (3, .int (nI j))], [])) (f2 := (44, [(0, .ref 69), (1, .retAddr a), (2, .int sm), (3, .int (nI j))], [])) rfl (fun c2 => ?_) (fun c2 => ?_)
    · have c2 : sm = 0 := of_decide_eq_true c2
      refine zk_T.adv 4 (f' := (32, [(0, .ref 69), (1, .retAddr a), (2, .int 0), (3, .int ((nI j) + 1))], [])) (h' := zH (zb u 68 (upd (u 68) 8 (nI n))) w t) rfl ?_
      rw [nI_1]
      simp only [zl_iwG, if_pos c2] at hk
      exact hk
    · have c2 : ¬ (sm = 0) := of_decide_eq_false c2
      refine zk_T.adv 3 (f' := (49, [(0, .ref 69), (1, .retAddr a), (2, .int sm), (3, .int (nI j))], [.int (nI j), .ref 71])) (h' := zH (zb u 68 (upd (u 68) 8 (nI n))) w t) rfl ?_
      refine zk_T.ob (f' := (50, [(0, .ref 69), (1, .retAddr a), (2, .int sm), (3, .int (nI j))], [.int (u 70 (nI j).toNatClampNeg)])) (h' := zH (zb u 68 (upd (u 68) 8 (nI n))) w t) rfl (by first | exact zk_inN (by omega) (by decide) | decide) ?_
      rw [nI_clamp (show j < 2 ^ 31 by omega)]
      refine zk_T.adv 2 (f' := (52, [(0, .ref 69), (1, .retAddr a), (2, .int sm), (3, .int (nI j))], [.int (nI j), .retAddr a, .int (u 70 j)])) (h' := zH (zb u 68 (upd (u 68) 8 (nI n))) w t) rfl ?_
      refine zk_T.cl (v := some (.int (W j))) (h' := zH (zb u 68 (upd (u 68) 8 (nI n))) w t) (by show (bif (_ && (Nat.blt 0 a && (Nat.ble a 36 && _))) then _ else none) = _; rw [hb1, hb2]; rfl) (hch _ j (by omega)) ?_
      show zk_T zk_mt zk_ex Ls xs zm_225 (55, [(0, .ref 69), (1, .retAddr a), (2, .int sm), (3, .int (nI j))], [.int (W j), .int (u 70 j)]) (zH (zb u 68 (upd (u 68) 8 (nI n))) w t) _
      refine zk_T.br (f1 := (58, [(0, .ref 69), (1, .retAddr a), (2, .int sm), (3, .int (nI j))], [])) (f2 := (62, [(0, .ref 69), (1, .retAddr a), (2, .int sm), (3, .int (nI j))], [])) rfl (fun c3 => ?_) (fun c3 => ?_)
      · have c3 : (u 70 j) = (W j) := of_decide_eq_true c3
        refine zk_T.adv 5 (f' := (32, [(0, .ref 69), (1, .retAddr a), (2, .int 1), (3, .int ((nI j) + 1))], [])) (h' := zH (zb u 68 (upd (u 68) 8 (nI n))) w t) rfl ?_
        rw [nI_1]
        simp only [zl_iwG, if_neg c2, if_pos c3] at hk
        exact hk
      · have c3 : ¬ ((u 70 j) = (W j)) := of_decide_eq_false c3
        refine zk_T.adv 4 (f' := (32, [(0, .ref 69), (1, .retAddr a), (2, .int 0), (3, .int ((nI j) + 1))], [])) (h' := zH (zb u 68 (upd (u 68) 8 (nI n))) w t) rfl ?_
        rw [nI_1]
        simp only [zl_iwG, if_neg c2, if_neg c3] at hk
        exact hk
  · have hz := True.intro
    obtain ⟨sm, rfl⟩ : ∃ z, z = s := ⟨_, rfl⟩
    show zk_T zk_mt zk_ex Ls xs zm_225 (32, [(0, .ref 69), (1, .retAddr a), (2, .int sm), (3, .int (nI (0 + n)))], []) (zH (zb u 68 (upd (u 68) 8 (nI n))) w t) q
    refine zk_T.adv 3 (f' := (37, [(0, .ref 69), (1, .retAddr a), (2, .int sm), (3, .int (nI (0 + n)))], [.int (nI n), .int (nI (0 + n))])) (h' := zH (zb u 68 (upd (u 68) 8 (nI n))) w t) rfl ?_
    refine zk_T.br (f1 := (70, [(0, .ref 69), (1, .retAddr a), (2, .int sm), (3, .int (nI (0 + n)))], [])) (f2 := (40, [(0, .ref 69), (1, .retAddr a), (2, .int sm), (3, .int (nI (0 + n)))], [])) rfl (fun c1 => ?_) (fun c1 => absurd (by rw [Nat.zero_add]; exact nI_le (Nat.le_refl _) (by omega)) (of_decide_eq_false c1))
    exact hk
  · exact trivial
/-- BasketKeepModel.isWord -/
theorem zm_iw_x (a : Nat) (hf : u 68 13 = 1) : zk_Cr zk_mt zk_ex Ls xs 225 [.ref 69, .retAddr a] (zH u w t) (some (.int 0), zH u w t) := by
  refine zk_Cr.of (K := zm_225) rfl rfl rfl ?_
  show zk_T zk_mt zk_ex Ls xs zm_225 (0, [(0, .ref 69), (1, .retAddr a)], []) (zH u w t) _
  refine zk_T.adv 2 (f' := (4, [(0, .ref 69), (1, .retAddr a)], [.int (u 68 13)])) (h' := zH u w t) rfl ?_
  rw [show (u 68 13) = 1 from hf]
  refine zk_T.br (f1 := (7, [(0, .ref 69), (1, .retAddr a)], [])) (f2 := (26, [(0, .ref 69), (1, .retAddr a)], [])) rfl (fun c1 => absurd (of_decide_eq_true c1) (by decide)) (fun c1 => ?_)
  refine zk_T.adv 1 (f' := (27, [(0, .ref 69), (1, .retAddr a)], [.int 0])) (h' := zH u w t) rfl ?_
  exact zk_T.rt rfl rfl (by rfl)
/-- BasketKeepModel.isWord -/
theorem zm_iw_a (a : Nat) (hf : u 68 13 = 0) (h2 : ¬ u 68 6 = 2) : zk_Cr zk_mt zk_ex Ls xs 225 [.ref 69, .retAddr a] (zH u w t) (some (.int 0), zH u w t) := by
  refine zk_Cr.of (K := zm_225) rfl rfl rfl ?_
  show zk_T zk_mt zk_ex Ls xs zm_225 (0, [(0, .ref 69), (1, .retAddr a)], []) (zH u w t) _
  refine zk_T.adv 2 (f' := (4, [(0, .ref 69), (1, .retAddr a)], [.int (u 68 13)])) (h' := zH u w t) rfl ?_
  rw [show (u 68 13) = 0 from hf]
  refine zk_T.br (f1 := (7, [(0, .ref 69), (1, .retAddr a)], [])) (f2 := (26, [(0, .ref 69), (1, .retAddr a)], [])) rfl (fun c1 => ?_) (fun c1 => absurd (by decide) (of_decide_eq_false c1))
  refine zk_T.adv 3 (f' := (12, [(0, .ref 69), (1, .retAddr a)], [.int 2, .int (u 68 6)])) (h' := zH u w t) rfl ?_
  refine zk_T.br (f1 := (15, [(0, .ref 69), (1, .retAddr a)], [])) (f2 := (26, [(0, .ref 69), (1, .retAddr a)], [])) rfl (fun c2 => absurd (of_decide_eq_true c2) h2) (fun c2 => ?_)
  refine zk_T.adv 1 (f' := (27, [(0, .ref 69), (1, .retAddr a)], [.int 0])) (h' := zH u w t) rfl ?_
  exact zk_T.rt rfl rfl (by rfl)
/-- BasketKeepModel.isWord -/
theorem zm_iw_b (n a : Nat) (hb1 : Nat.blt 0 a = true) (hb2 : Nat.ble a 36 = true) (W : Nat → Int32) (hn8 : n ≤ 8) (hlen : ∀ h : zk_H, zk_Cr zk_mt zk_ex Ls xs 0 [.retAddr a] h (some (.int (nI n)), h)) (hch : ∀ (h : zk_H) j, j < n → zk_Cr zk_mt zk_ex Ls xs 1 [.retAddr a, .int (nI j)] h (some (.int (W j)), h)) (L : Nat) (hf : u 68 13 = 0) (h2 : u 68 6 = 2) (h8 : u 68 8 = nI L) (hL : L ≤ 8) (hne : ¬ L = n) : zk_Cr zk_mt zk_ex Ls xs 225 [.ref 69, .retAddr a] (zH u w t) (some (.int 0), zH u w t) := by
  refine zk_Cr.of (K := zm_225) rfl rfl rfl ?_
  show zk_T zk_mt zk_ex Ls xs zm_225 (0, [(0, .ref 69), (1, .retAddr a)], []) (zH u w t) _
  refine zk_T.adv 2 (f' := (4, [(0, .ref 69), (1, .retAddr a)], [.int (u 68 13)])) (h' := zH u w t) rfl ?_
  rw [show (u 68 13) = 0 from hf]
  refine zk_T.br (f1 := (7, [(0, .ref 69), (1, .retAddr a)], [])) (f2 := (26, [(0, .ref 69), (1, .retAddr a)], [])) rfl (fun c1 => ?_) (fun c1 => absurd (by decide) (of_decide_eq_false c1))
  refine zk_T.adv 3 (f' := (12, [(0, .ref 69), (1, .retAddr a)], [.int 2, .int (u 68 6)])) (h' := zH u w t) rfl ?_
  refine zk_T.br (f1 := (15, [(0, .ref 69), (1, .retAddr a)], [])) (f2 := (26, [(0, .ref 69), (1, .retAddr a)], [])) rfl (fun c2 => ?_) (fun c2 => absurd h2 (of_decide_eq_false c2))
  refine zk_T.adv 2 (f' := (19, [(0, .ref 69), (1, .retAddr a)], [.int (u 68 8)])) (h' := zH u w t) rfl ?_
  rw [show (u 68 8) = nI L from h8]
  refine zk_T.adv 1 (f' := (20, [(0, .ref 69), (1, .retAddr a)], [.retAddr a, .int (nI L)])) (h' := zH u w t) rfl ?_
  refine zk_T.cl (v := some (.int (nI n))) (h' := zH u w t) (by show (bif (_ && (Nat.blt 0 a && (Nat.ble a 36 && _))) then _ else none) = _; rw [hb1, hb2]; rfl) (hlen _) ?_
  show zk_T zk_mt zk_ex Ls xs zm_225 (23, [(0, .ref 69), (1, .retAddr a)], [.int (nI n), .int (nI L)]) (zH u w t) _
  refine zk_T.br (f1 := (28, [(0, .ref 69), (1, .retAddr a)], [])) (f2 := (26, [(0, .ref 69), (1, .retAddr a)], [])) rfl (fun c3 => absurd (of_decide_eq_true c3) (fun z => hne ((nI_eq (by omega) (by omega)).mp z))) (fun c3 => ?_)
  refine zk_T.adv 1 (f' := (27, [(0, .ref 69), (1, .retAddr a)], [.int 0])) (h' := zH u w t) rfl ?_
  exact zk_T.rt rfl rfl (by rfl)
theorem zl_iwG_eq (f W : Nat → Int32) (i : Nat) (x : Int32) : zl_iwG f W i x = if x = 0 then 0 else if f i = W i then 1 else 0 := rfl
theorem zl_iw01 (f W : Nat → Int32) : ∀ (n i : Nat) (x : Int32), x = 0 ∨ x = 1 → decide (zf (zl_iwG f W) n i x = 0 ∨ zf (zl_iwG f W) n i x = 1) = true := by
  have key : ∀ (n i : Nat) (x : Int32), x = 0 ∨ x = 1 → zf (zl_iwG f W) n i x = 0 ∨ zf (zl_iwG f W) n i x = 1 := by
    intro n
    induction n with
    | zero => intro i x h; exact h
    | succ n ih =>
      intro i x h
      show zf (zl_iwG f W) n (i + 1) (zl_iwG f W i x) = 0 ∨ _
      refine ih (i + 1) _ ?_
      rw [zl_iwG_eq]
      repeat' split
      all_goals first | exact Or.inl rfl | exact Or.inr rfl
  intro n i x h
  exact decide_eq_true (key n i x h)
theorem zl_iwF (f W : Nat → Int32) : ∀ (n i : Nat), ((∀ j, i ≤ j → j < i + n → f j = W j) → zf (zl_iwG f W) n i 1 = 1) ∧ ((∃ j, i ≤ j ∧ j < i + n ∧ f j ≠ W j) → zf (zl_iwG f W) n i 1 = 0) := by
  have z0 : ∀ (n i : Nat), zf (zl_iwG f W) n i 0 = 0 := by
    intro n
    induction n with
    | zero => intro i; rfl
    | succ n ih =>
      intro i
      show zf (zl_iwG f W) n (i + 1) (zl_iwG f W i 0) = 0
      rw [zl_iwG_eq, if_pos rfl]
      exact ih (i + 1)
  intro n
  induction n with
  | zero => intro i; exact ⟨fun _ => rfl, fun ⟨j, h1, h2, _⟩ => by omega⟩
  | succ n ih =>
    intro i
    show (_ → zf (zl_iwG f W) n (i + 1) (zl_iwG f W i 1) = 1) ∧ (_ → zf (zl_iwG f W) n (i + 1) (zl_iwG f W i 1) = 0)
    have hg : zl_iwG f W i 1 = if f i = W i then 1 else 0 := by rw [zl_iwG_eq, if_neg (by decide)]
    by_cases hi : f i = W i
    · rw [hg, if_pos hi]
      refine ⟨fun h => (ih (i + 1)).1 (fun j h1 h2 => h j (by omega) (by omega)), fun ⟨j, h1, h2, h3⟩ => (ih (i + 1)).2 ⟨j, ?_, by omega, h3⟩⟩
      rcases Nat.lt_or_ge i j with q | q
      · exact q
      · exact absurd (by rw [show j = i by omega]; exact hi) h3
    · rw [hg, if_neg hi]
      exact ⟨fun h => absurd (h i (Nat.le_refl _) (by omega)) hi, fun _ => z0 n (i + 1)⟩
/-- BasketKeepModel.isWord -/
theorem zm_iw_c (n a : Nat) (hb1 : Nat.blt 0 a = true) (hb2 : Nat.ble a 36 = true) (W : Nat → Int32) (hn8 : n ≤ 8) (hlen : ∀ h : zk_H, zk_Cr zk_mt zk_ex Ls xs 0 [.retAddr a] h (some (.int (nI n)), h)) (hch : ∀ (h : zk_H) j, j < n → zk_Cr zk_mt zk_ex Ls xs 1 [.retAddr a, .int (nI j)] h (some (.int (W j)), h)) (hf : u 68 13 = 0) (h2 : u 68 6 = 2) : zk_Cr zk_mt zk_ex Ls xs 225 [.ref 69, .retAddr a] (zH (zb u 68 (upd (u 68) 8 (nI n))) w t) (some (.int (zf (zl_iwG (u 70) W) n 0 1)), zH (zb u 68 (upd (u 68) 8 (nI n))) w t) := by
  refine zk_Cr.of (K := zm_225) rfl rfl rfl ?_
  show zk_T zk_mt zk_ex Ls xs zm_225 (0, [(0, .ref 69), (1, .retAddr a)], []) (zH (zb u 68 (upd (u 68) 8 (nI n))) w t) _
  refine zk_T.adv 2 (f' := (4, [(0, .ref 69), (1, .retAddr a)], [.int (u 68 13)])) (h' := zH (zb u 68 (upd (u 68) 8 (nI n))) w t) rfl ?_
  rw [show (u 68 13) = 0 from hf]
  refine zk_T.br (f1 := (7, [(0, .ref 69), (1, .retAddr a)], [])) (f2 := (26, [(0, .ref 69), (1, .retAddr a)], [])) rfl (fun c1 => ?_) (fun c1 => absurd (by decide) (of_decide_eq_false c1))
  refine zk_T.adv 3 (f' := (12, [(0, .ref 69), (1, .retAddr a)], [.int 2, .int (u 68 6)])) (h' := zH (zb u 68 (upd (u 68) 8 (nI n))) w t) rfl ?_
  refine zk_T.br (f1 := (15, [(0, .ref 69), (1, .retAddr a)], [])) (f2 := (26, [(0, .ref 69), (1, .retAddr a)], [])) rfl (fun c2 => ?_) (fun c2 => absurd h2 (of_decide_eq_false c2))
  refine zk_T.adv 3 (f' := (20, [(0, .ref 69), (1, .retAddr a)], [.retAddr a, .int (nI n)])) (h' := zH (zb u 68 (upd (u 68) 8 (nI n))) w t) rfl ?_
  refine zk_T.cl (v := some (.int (nI n))) (h' := zH (zb u 68 (upd (u 68) 8 (nI n))) w t) (by show (bif (_ && (Nat.blt 0 a && (Nat.ble a 36 && _))) then _ else none) = _; rw [hb1, hb2]; rfl) (hlen _) ?_
  show zk_T zk_mt zk_ex Ls xs zm_225 (23, [(0, .ref 69), (1, .retAddr a)], [.int (nI n), .int (nI n)]) (zH (zb u 68 (upd (u 68) 8 (nI n))) w t) _
  refine zk_T.br (f1 := (28, [(0, .ref 69), (1, .retAddr a)], [])) (f2 := (26, [(0, .ref 69), (1, .retAddr a)], [])) rfl (fun c3 => ?_) (fun c3 => absurd rfl (of_decide_eq_false c3))
  refine zk_T.adv 4 (f' := (32, [(0, .ref 69), (1, .retAddr a), (2, .int 1), (3, .int 0)], [])) (h' := zH (zb u 68 (upd (u 68) 8 (nI n))) w t) rfl ?_
  refine zl_iw n a hb1 hb2 W hn8 hlen hch 1 _ ?_
  show zk_T zk_mt zk_ex Ls xs zm_225 (70, [(0, .ref 69), (1, .retAddr a), (2, .int (zf (zl_iwG (u 70) W) n 0 1)), (3, .int (nI (0 + n)))], []) (zH (zb u 68 (upd (u 68) 8 (nI n))) w t) _
  refine zk_T.adv 1 (f' := (71, [(0, .ref 69), (1, .retAddr a), (2, .int (zf (zl_iwG (u 70) W) n 0 1)), (3, .int (nI (0 + n)))], [.int (zf (zl_iwG (u 70) W) n 0 1)])) (h' := zH (zb u 68 (upd (u 68) 8 (nI n))) w t) rfl ?_
  exact zk_T.rt rfl (zl_iw01 _ _ _ _ _ (Or.inr rfl)) (by rfl)
/-- BasketKeepModel.isWord -/
theorem zm_isWord {a n : Nat} {c : Int64} (hW : zWs Ls xs a n c) {k : Nat} (hs : zMs tn ts tp tv E B k u) : zk_Cr zk_mt zk_ex Ls xs 225 [.ref 69, .retAddr a] (zH u w t) (some (.int (if ts k = 2 ∧ tv k = c then 1 else 0)), zH u w t) := by
  obtain ⟨⟨hb1, hb2⟩, W, ⟨h1, h8⟩, hl, hc, hlen, hch⟩ := hW
  obtain ⟨⟨_, _, _, _, htok, _, hwd, _⟩, _, hf⟩ := hs
  by_cases h2 : ts k = 2
  · have h6 : u 68 6 = 2 := by rw [htok]; exact zt_tok2.mpr h2
    obtain ⟨L, ⟨l1, l8⟩, hsz, hlt, hv⟩ := hwd h2
    by_cases hLn : L = n
    · subst hLn
      have e := zm_iw_c (u := u) (w := w) (t := t) L a hb1 hb2 W h8 hlen hch hf h6
      rw [zu_same hsz, zb_same] at e
      by_cases hall : ∀ j, 0 ≤ j → j < 0 + L → u 70 j = W j
      · rw [(zl_iwF (u 70) W L 0).1 hall] at e
        rw [if_pos ⟨h2, by rw [hv, hc]; exact zpk_eq L (fun a ha => hall a (by omega) (by omega))⟩]
        exact e
      · rw [(zl_iwF (u 70) W L 0).2 (by
          rcases Classical.em (∃ j, 0 ≤ j ∧ j < 0 + L ∧ u 70 j ≠ W j) with q | q
          · exact q
          · exact absurd (fun j a b => Classical.byContradiction (fun z => q ⟨j, a, b, z⟩)) hall)] at e
        rw [if_neg (fun z => hall (fun j a b => ?_))]
        · exact e
        · exact (zpk_inj l8 l8 hlt hl (by rw [← hv, ← hc]; exact z.2)).2 j (by omega)
    · rw [if_neg (fun z => hLn (zpk_inj l8 h8 hlt hl (by rw [← hv, ← hc]; exact z.2)).1)]
      exact zm_iw_b (u := u) (w := w) (t := t) n a hb1 hb2 W h8 hlen hch L hf h6 hsz l8 hLn
  · rw [if_neg (fun z => h2 z.1)]
    exact zm_iw_a (u := u) (w := w) (t := t) a hf (fun z => h2 (zt_tok2.mp (by rw [← htok]; exact z)))
/-- BasketKeepModel.takesWord -/
theorem zm_tw_x (a : Nat) (hf : u 68 13 = 1) : zk_Cr zk_mt zk_ex Ls xs 246 [.ref 69, .retAddr a] (zH u w t) (some (.int 0), zH u w t) := by
  refine zk_Cr.of (K := zm_246) rfl rfl rfl ?_
  show zk_T zk_mt zk_ex Ls xs zm_246 (0, [(0, .ref 69), (1, .retAddr a)], []) (zH u w t) _
  refine zk_T.adv 2 (f' := (2, [(0, .ref 69), (1, .retAddr a)], [.retAddr a, .ref 69])) (h' := zH u w t) rfl ?_
  refine zk_T.cl (v := some (.int 0)) (h' := zH u w t) rfl (zm_iw_x (u := u) a hf) ?_
  show zk_T zk_mt zk_ex Ls xs zm_246 (5, [(0, .ref 69), (1, .retAddr a)], [.int 0]) (zH u w t) _
  refine zk_T.br (f1 := (8, [(0, .ref 69), (1, .retAddr a)], [])) (f2 := (10, [(0, .ref 69), (1, .retAddr a)], [])) rfl (fun c1 => ?_) (fun c1 => absurd (by decide) (of_decide_eq_false c1))
  refine zk_T.adv 1 (f' := (9, [(0, .ref 69), (1, .retAddr a)], [.int 0])) (h' := zH u w t) rfl ?_
  exact zk_T.rt rfl rfl (by rfl)
/-- BasketKeepModel.takesWord -/
theorem zm_tw_0 (a : Nat) (hi : zk_Cr zk_mt zk_ex Ls xs 225 [.ref 69, .retAddr a] (zH u w t) (some (.int 0), zH u w t)) : zk_Cr zk_mt zk_ex Ls xs 246 [.ref 69, .retAddr a] (zH u w t) (some (.int 0), zH u w t) := by
  refine zk_Cr.of (K := zm_246) rfl rfl rfl ?_
  show zk_T zk_mt zk_ex Ls xs zm_246 (0, [(0, .ref 69), (1, .retAddr a)], []) (zH u w t) _
  refine zk_T.adv 2 (f' := (2, [(0, .ref 69), (1, .retAddr a)], [.retAddr a, .ref 69])) (h' := zH u w t) rfl ?_
  refine zk_T.cl (v := some (.int 0)) (h' := zH u w t) rfl hi ?_
  show zk_T zk_mt zk_ex Ls xs zm_246 (5, [(0, .ref 69), (1, .retAddr a)], [.int 0]) (zH u w t) _
  refine zk_T.br (f1 := (8, [(0, .ref 69), (1, .retAddr a)], [])) (f2 := (10, [(0, .ref 69), (1, .retAddr a)], [])) rfl (fun c1 => ?_) (fun c1 => absurd (by decide) (of_decide_eq_false c1))
  refine zk_T.adv 1 (f' := (9, [(0, .ref 69), (1, .retAddr a)], [.int 0])) (h' := zH u w t) rfl ?_
  exact zk_T.rt rfl rfl (by rfl)
/-- BasketKeepModel.takesWord -/
theorem zm_tw_1 (a : Nat) {u' : Nat → Nat → Int32} (hi : zk_Cr zk_mt zk_ex Ls xs 225 [.ref 69, .retAddr a] (zH u w t) (some (.int 1), zH u w t)) (hn : zk_Cr zk_mt zk_ex Ls xs 122 [.ref 69] (zH u w t) (none, zH u' w t)) : zk_Cr zk_mt zk_ex Ls xs 246 [.ref 69, .retAddr a] (zH u w t) (some (.int 1), zH u' w t) := by
  refine zk_Cr.of (K := zm_246) rfl rfl rfl ?_
  show zk_T zk_mt zk_ex Ls xs zm_246 (0, [(0, .ref 69), (1, .retAddr a)], []) (zH u w t) _
  refine zk_T.adv 2 (f' := (2, [(0, .ref 69), (1, .retAddr a)], [.retAddr a, .ref 69])) (h' := zH u w t) rfl ?_
  refine zk_T.cl (v := some (.int 1)) (h' := zH u w t) rfl hi ?_
  show zk_T zk_mt zk_ex Ls xs zm_246 (5, [(0, .ref 69), (1, .retAddr a)], [.int 1]) (zH u w t) _
  refine zk_T.br (f1 := (8, [(0, .ref 69), (1, .retAddr a)], [])) (f2 := (10, [(0, .ref 69), (1, .retAddr a)], [])) rfl (fun c1 => absurd (of_decide_eq_true c1) (by decide)) (fun c1 => ?_)
  refine zk_T.adv 1 (f' := (11, [(0, .ref 69), (1, .retAddr a)], [.ref 69])) (h' := zH u w t) rfl ?_
  refine zk_T.cl (v := none) (h' := zH u' w t) rfl hn ?_
  show zk_T zk_mt zk_ex Ls xs zm_246 (14, [(0, .ref 69), (1, .retAddr a)], []) (zH u' w t) _
  refine zk_T.adv 1 (f' := (15, [(0, .ref 69), (1, .retAddr a)], [.int 1])) (h' := zH u' w t) rfl ?_
  exact zk_T.rt rfl rfl (by rfl)
/-- BasketKeepModel.must -/
theorem zm_must_x (a : Nat) (hf : u 68 13 = 1) : zk_Cr zk_mt zk_ex Ls xs 268 [.ref 69, .retAddr a] (zH u w t) (none, zH u w t) := by
  refine zk_Cr.of (K := zm_268) rfl rfl rfl ?_
  show zk_T zk_mt zk_ex Ls xs zm_268 (0, [(0, .ref 69), (1, .retAddr a)], []) (zH u w t) _
  refine zk_T.adv 2 (f' := (4, [(0, .ref 69), (1, .retAddr a)], [.int (u 68 13)])) (h' := zH u w t) rfl ?_
  rw [show (u 68 13) = 1 from hf]
  refine zk_T.br (f1 := (7, [(0, .ref 69), (1, .retAddr a)], [])) (f2 := (24, [(0, .ref 69), (1, .retAddr a)], [])) rfl (fun c1 => absurd (of_decide_eq_true c1) (by decide)) (fun c1 => ?_)
  exact zk_T.rt rfl rfl (by rfl)
/-- BasketKeepModel.must -/
theorem zm_must_0 (a : Nat) (hf : u 68 13 = 0) (hi : zk_Cr zk_mt zk_ex Ls xs 246 [.ref 69, .retAddr a] (zH u w t) (some (.int 0), zH u w t)) : zk_Cr zk_mt zk_ex Ls xs 268 [.ref 69, .retAddr a] (zH u w t) (none, zH (zb u 68 (upd (upd (upd (u 68) 9 1) 10 (u 68 4)) 13 1)) w t) := by
  refine zk_Cr.of (K := zm_268) rfl rfl rfl ?_
  show zk_T zk_mt zk_ex Ls xs zm_268 (0, [(0, .ref 69), (1, .retAddr a)], []) (zH u w t) _
  refine zk_T.adv 2 (f' := (4, [(0, .ref 69), (1, .retAddr a)], [.int (u 68 13)])) (h' := zH u w t) rfl ?_
  rw [show (u 68 13) = 0 from hf]
  refine zk_T.br (f1 := (7, [(0, .ref 69), (1, .retAddr a)], [])) (f2 := (24, [(0, .ref 69), (1, .retAddr a)], [])) rfl (fun c1 => ?_) (fun c1 => absurd (by decide) (of_decide_eq_false c1))
  refine zk_T.adv 2 (f' := (9, [(0, .ref 69), (1, .retAddr a)], [.retAddr a, .ref 69])) (h' := zH u w t) rfl ?_
  refine zk_T.cl (v := some (.int 0)) (h' := zH u w t) rfl hi ?_
  show zk_T zk_mt zk_ex Ls xs zm_268 (12, [(0, .ref 69), (1, .retAddr a)], [.int 0]) (zH u w t) _
  refine zk_T.br (f1 := (15, [(0, .ref 69), (1, .retAddr a)], [])) (f2 := (24, [(0, .ref 69), (1, .retAddr a)], [])) rfl (fun c2 => ?_) (fun c2 => absurd (by decide) (of_decide_eq_false c2))
  refine zk_T.adv 4 (f' := (21, [(0, .ref 69), (1, .retAddr a)], [.int (u 68 4), .int 1, .ref 69])) (h' := zH u w t) rfl ?_
  refine zk_T.cl (v := none) (h' := zH (zb u 68 (upd (upd (upd (u 68) 9 1) 10 (u 68 4)) 13 1)) w t) rfl (zs_mwrong_0 (v := u) hf 1 (u 68 4)) ?_
  show zk_T zk_mt zk_ex Ls xs zm_268 (24, [(0, .ref 69), (1, .retAddr a)], []) (zH (zb u 68 (upd (upd (upd (u 68) 9 1) 10 (u 68 4)) 13 1)) w t) _
  exact zk_T.rt rfl rfl (by rfl)
/-- BasketKeepModel.must -/
theorem zm_must_1 (a : Nat) {u' : Nat → Nat → Int32} (hf : u 68 13 = 0) (hi : zk_Cr zk_mt zk_ex Ls xs 246 [.ref 69, .retAddr a] (zH u w t) (some (.int 1), zH u' w t)) : zk_Cr zk_mt zk_ex Ls xs 268 [.ref 69, .retAddr a] (zH u w t) (none, zH u' w t) := by
  refine zk_Cr.of (K := zm_268) rfl rfl rfl ?_
  show zk_T zk_mt zk_ex Ls xs zm_268 (0, [(0, .ref 69), (1, .retAddr a)], []) (zH u w t) _
  refine zk_T.adv 2 (f' := (4, [(0, .ref 69), (1, .retAddr a)], [.int (u 68 13)])) (h' := zH u w t) rfl ?_
  rw [show (u 68 13) = 0 from hf]
  refine zk_T.br (f1 := (7, [(0, .ref 69), (1, .retAddr a)], [])) (f2 := (24, [(0, .ref 69), (1, .retAddr a)], [])) rfl (fun c1 => ?_) (fun c1 => absurd (by decide) (of_decide_eq_false c1))
  refine zk_T.adv 2 (f' := (9, [(0, .ref 69), (1, .retAddr a)], [.retAddr a, .ref 69])) (h' := zH u w t) rfl ?_
  refine zk_T.cl (v := some (.int 1)) (h' := zH u' w t) rfl hi ?_
  show zk_T zk_mt zk_ex Ls xs zm_268 (12, [(0, .ref 69), (1, .retAddr a)], [.int 1]) (zH u' w t) _
  refine zk_T.br (f1 := (15, [(0, .ref 69), (1, .retAddr a)], [])) (f2 := (24, [(0, .ref 69), (1, .retAddr a)], [])) rfl (fun c2 => absurd (of_decide_eq_true c2) (by decide)) (fun c2 => ?_)
  exact zk_T.rt rfl rfl (by rfl)
theorem zMx.wrong {k : Nat} {x : Int32} (hs : zMs tn ts tp tv E B k u) : zMx x (tp k) (zb u 68 (upd (upd (upd (u 68) 9 x) 10 (u 68 4)) 13 1)) := ⟨rfl, rfl, hs.1.2.2.1⟩
/-- BasketKeepModel.must -/
theorem zm_must (hM : zk_MA Ls xs tn ts tp tv E B) {a n : Nat} {c : Int64} (hW : zWs Ls xs a n c) {k : Nat} (hs : zMs tn ts tp tv E B k u) : ∃ u', zk_Cr zk_mt zk_ex Ls xs 268 [.ref 69, .retAddr a] (zH u w t) (none, zH u' w t) ∧ zMg u u' ∧ zR tn ts tp tv E B (zp_kw tn ts tp tv c k) u' := by
  have hi := zm_isWord (w := w) (t := t) hW hs
  unfold zp_kw
  by_cases hc : ts k = 2 ∧ tv k = c
  · rw [if_pos hc] at hi ⊢
    obtain ⟨u', h1, h2, h3⟩ := zm_next (w := w) (t := t) hM hs
    exact ⟨u', zm_must_1 a hs.2.2 (zm_tw_1 a hi h1), h2, h3⟩
  · rw [if_neg hc] at hi ⊢
    exact ⟨_, zm_must_0 a hs.2.2 (zm_tw_0 a hi), zMg.wrong, zMx.wrong hs⟩
theorem zr_isN0 {so : Int32} {va : Int64} (j : Nat) (hj : j < 7) (h : zk_lw j = va) : zr_isName so zk_lw va = 0 := by
  rcases zr_lineOf_is so va with ⟨_, _, _, _, _, h1⟩ | ⟨h1, _, h2⟩
  · exact h1
  · exact h2.mpr (fun z => h1 z j hj h)
theorem zr_isN1 {so : Int32} {va : Int64} (h2 : so = 2) (h : ∀ j, j < 7 → zk_lw j ≠ va) : ¬ zr_isName so zk_lw va = 0 := by
  rcases zr_lineOf_is so va with ⟨_, j, hj, h1, _, _⟩ | ⟨_, _, h1⟩
  · exact absurd h1 (h j hj)
  · exact fun z => h1.mp z h2
/-- BasketKeepModel.mustName -/
theorem zm_mustName {k : Nat} (hs : zMs tn ts tp tv E B k u) : ∃ u', zk_Cr zk_mt zk_ex Ls xs 244 [.ref 69] (zH u w t) (none, zH u' w t) ∧ zMg u u' ∧ (zr_isName (ts k) zk_lw (tv k) = 0 → zMx 1 (tp k) u') ∧ (¬ zr_isName (ts k) zk_lw (tv k) = 0 → u' = u) := by
  have main : ∃ q, zk_Cr zk_mt zk_ex Ls xs 244 [.ref 69] (zH u w t) q ∧ ∃ u', q = (none, zH u' w t) ∧ zMg u u' ∧ (zr_isName (ts k) zk_lw (tv k) = 0 → zMx 1 (tp k) u') ∧ (¬ zr_isName (ts k) zk_lw (tv k) = 0 → u' = u) := by
    refine zx.of (K := zm_244) rfl rfl rfl ?_
    show zx zk_mt zk_ex Ls xs zm_244 (0, [(0, .ref 69)], []) (zH u w t) _
    have htok := hs.1.2.2.2.2.1
    by_cases h2 : ts k = 2
    · have h6 : u 68 6 = 2 := by rw [htok]; exact zt_tok2.mpr h2
      refine zx.adv 3 (f' := (5, [(0, .ref 69)], [.int 2, .int (u 68 6)])) (h' := zH u w t) rfl ?_
      refine zx.br (f1 := (8, [(0, .ref 69)], [])) (f2 := (71, [(0, .ref 69)], [])) rfl (fun c1 => ?_) (fun c1 => absurd h6 (of_decide_eq_false c1))
      refine zx.adv 2 (f' := (11, [(0, .ref 69)], [.retAddr 19, .ref 69])) (h' := zH u w t) rfl ?_
      by_cases hz1 : tv k = 12769452
      · refine zx.cl (v := some (.int 1)) (h' := zH u w t) rfl (by have ee := zm_isWord (w := w) (t := t) (zw_level (Ls := Ls) (xs := xs)) hs; rw [if_pos ⟨h2, hz1⟩] at ee; exact ee) ?_
        show zx zk_mt zk_ex Ls xs zm_244 (14, [(0, .ref 69)], [.int 1]) (zH u w t) _
        refine zx.br (f1 := (17, [(0, .ref 69)], [])) (f2 := (71, [(0, .ref 69)], [])) rfl (fun c2 => absurd (of_decide_eq_true c2) (by decide)) (fun c2 => ?_)
        refine zx.adv 4 (f' := (77, [(0, .ref 69)], [.int (u 68 4), .int 1, .ref 69])) (h' := zH u w t) rfl ?_
        refine zx.cl (v := none) (h' := zH (zb u 68 (upd (upd (upd (u 68) 9 1) 10 (u 68 4)) 13 1)) w t) rfl (zs_mwrong_0 (v := u) hs.2.2 1 (u 68 4)) ?_
        show zx zk_mt zk_ex Ls xs zm_244 (80, [(0, .ref 69)], []) (zH (zb u 68 (upd (upd (upd (u 68) 9 1) 10 (u 68 4)) 13 1)) w t) _
        exact zx.rt rfl rfl ⟨_, rfl, zMg.wrong, fun _ => zMx.wrong hs, fun z => absurd (zr_isN0 0 (by decide) (show zk_lw 0 = _ from hz1.symm)) z⟩
      · refine zx.cl (v := some (.int 0)) (h' := zH u w t) rfl (by have ee := zm_isWord (w := w) (t := t) (zw_level (Ls := Ls) (xs := xs)) hs; rw [if_neg (fun z => hz1 z.2)] at ee; exact ee) ?_
        show zx zk_mt zk_ex Ls xs zm_244 (14, [(0, .ref 69)], [.int 0]) (zH u w t) _
        refine zx.br (f1 := (17, [(0, .ref 69)], [])) (f2 := (71, [(0, .ref 69)], [])) rfl (fun c3 => ?_) (fun c3 => absurd (by decide) (of_decide_eq_false c3))
        refine zx.adv 2 (f' := (20, [(0, .ref 69)], [.retAddr 21, .ref 69])) (h' := zH u w t) rfl ?_
        by_cases hz2 : tv k = 135732402
        · refine zx.cl (v := some (.int 1)) (h' := zH u w t) rfl (by have ee := zm_isWord (w := w) (t := t) (zw_danger (Ls := Ls) (xs := xs)) hs; rw [if_pos ⟨h2, hz2⟩] at ee; exact ee) ?_
          show zx zk_mt zk_ex Ls xs zm_244 (23, [(0, .ref 69)], [.int 1]) (zH u w t) _
          refine zx.br (f1 := (26, [(0, .ref 69)], [])) (f2 := (71, [(0, .ref 69)], [])) rfl (fun c4 => absurd (of_decide_eq_true c4) (by decide)) (fun c4 => ?_)
          refine zx.adv 4 (f' := (77, [(0, .ref 69)], [.int (u 68 4), .int 1, .ref 69])) (h' := zH u w t) rfl ?_
          refine zx.cl (v := none) (h' := zH (zb u 68 (upd (upd (upd (u 68) 9 1) 10 (u 68 4)) 13 1)) w t) rfl (zs_mwrong_0 (v := u) hs.2.2 1 (u 68 4)) ?_
          show zx zk_mt zk_ex Ls xs zm_244 (80, [(0, .ref 69)], []) (zH (zb u 68 (upd (upd (upd (u 68) 9 1) 10 (u 68 4)) 13 1)) w t) _
          exact zx.rt rfl rfl ⟨_, rfl, zMg.wrong, fun _ => zMx.wrong hs, fun z => absurd (zr_isN0 1 (by decide) (show zk_lw 1 = _ from hz2.symm)) z⟩
        · refine zx.cl (v := some (.int 0)) (h' := zH u w t) rfl (by have ee := zm_isWord (w := w) (t := t) (zw_danger (Ls := Ls) (xs := xs)) hs; rw [if_neg (fun z => hz2 z.2)] at ee; exact ee) ?_
          show zx zk_mt zk_ex Ls xs zm_244 (23, [(0, .ref 69)], [.int 0]) (zH u w t) _
          refine zx.br (f1 := (26, [(0, .ref 69)], [])) (f2 := (71, [(0, .ref 69)], [])) rfl (fun c5 => ?_) (fun c5 => absurd (by decide) (of_decide_eq_false c5))
          refine zx.adv 2 (f' := (29, [(0, .ref 69)], [.retAddr 22, .ref 69])) (h' := zH u w t) rfl ?_
          by_cases hz3 : tv k = 13675698
          · refine zx.cl (v := some (.int 1)) (h' := zH u w t) rfl (by have ee := zm_isWord (w := w) (t := t) (zw_maker (Ls := Ls) (xs := xs)) hs; rw [if_pos ⟨h2, hz3⟩] at ee; exact ee) ?_
            show zx zk_mt zk_ex Ls xs zm_244 (32, [(0, .ref 69)], [.int 1]) (zH u w t) _
            refine zx.br (f1 := (35, [(0, .ref 69)], [])) (f2 := (71, [(0, .ref 69)], [])) rfl (fun c6 => absurd (of_decide_eq_true c6) (by decide)) (fun c6 => ?_)
            refine zx.adv 4 (f' := (77, [(0, .ref 69)], [.int (u 68 4), .int 1, .ref 69])) (h' := zH u w t) rfl ?_
            refine zx.cl (v := none) (h' := zH (zb u 68 (upd (upd (upd (u 68) 9 1) 10 (u 68 4)) 13 1)) w t) rfl (zs_mwrong_0 (v := u) hs.2.2 1 (u 68 4)) ?_
            show zx zk_mt zk_ex Ls xs zm_244 (80, [(0, .ref 69)], []) (zH (zb u 68 (upd (upd (upd (u 68) 9 1) 10 (u 68 4)) 13 1)) w t) _
            exact zx.rt rfl rfl ⟨_, rfl, zMg.wrong, fun _ => zMx.wrong hs, fun z => absurd (zr_isN0 2 (by decide) (show zk_lw 2 = _ from hz3.symm)) z⟩
          · refine zx.cl (v := some (.int 0)) (h' := zH u w t) rfl (by have ee := zm_isWord (w := w) (t := t) (zw_maker (Ls := Ls) (xs := xs)) hs; rw [if_neg (fun z => hz3 z.2)] at ee; exact ee) ?_
            show zx zk_mt zk_ex Ls xs zm_244 (32, [(0, .ref 69)], [.int 0]) (zH u w t) _
            refine zx.br (f1 := (35, [(0, .ref 69)], [])) (f2 := (71, [(0, .ref 69)], [])) rfl (fun c7 => ?_) (fun c7 => absurd (by decide) (of_decide_eq_false c7))
            refine zx.adv 2 (f' := (38, [(0, .ref 69)], [.retAddr 23, .ref 69])) (h' := zH u w t) rfl ?_
            by_cases hz4 : tv k = 245220
            · refine zx.cl (v := some (.int 1)) (h' := zH u w t) rfl (by have ee := zm_isWord (w := w) (t := t) (zw_good (Ls := Ls) (xs := xs)) hs; rw [if_pos ⟨h2, hz4⟩] at ee; exact ee) ?_
              show zx zk_mt zk_ex Ls xs zm_244 (41, [(0, .ref 69)], [.int 1]) (zH u w t) _
              refine zx.br (f1 := (44, [(0, .ref 69)], [])) (f2 := (71, [(0, .ref 69)], [])) rfl (fun c8 => absurd (of_decide_eq_true c8) (by decide)) (fun c8 => ?_)
              refine zx.adv 4 (f' := (77, [(0, .ref 69)], [.int (u 68 4), .int 1, .ref 69])) (h' := zH u w t) rfl ?_
              refine zx.cl (v := none) (h' := zH (zb u 68 (upd (upd (upd (u 68) 9 1) 10 (u 68 4)) 13 1)) w t) rfl (zs_mwrong_0 (v := u) hs.2.2 1 (u 68 4)) ?_
              show zx zk_mt zk_ex Ls xs zm_244 (80, [(0, .ref 69)], []) (zH (zb u 68 (upd (upd (upd (u 68) 9 1) 10 (u 68 4)) 13 1)) w t) _
              exact zx.rt rfl rfl ⟨_, rfl, zMg.wrong, fun _ => zMx.wrong hs, fun z => absurd (zr_isN0 3 (by decide) (show zk_lw 3 = _ from hz4.symm)) z⟩
            · refine zx.cl (v := some (.int 0)) (h' := zH u w t) rfl (by have ee := zm_isWord (w := w) (t := t) (zw_good (Ls := Ls) (xs := xs)) hs; rw [if_neg (fun z => hz4 z.2)] at ee; exact ee) ?_
              show zx zk_mt zk_ex Ls xs zm_244 (41, [(0, .ref 69)], [.int 0]) (zH u w t) _
              refine zx.br (f1 := (44, [(0, .ref 69)], [])) (f2 := (71, [(0, .ref 69)], [])) rfl (fun c9 => ?_) (fun c9 => absurd (by decide) (of_decide_eq_false c9))
              refine zx.adv 2 (f' := (47, [(0, .ref 69)], [.retAddr 24, .ref 69])) (h' := zH u w t) rfl ?_
              by_cases hz5 : tv k = 302
              · refine zx.cl (v := some (.int 1)) (h' := zH u w t) rfl (by have ee := zm_isWord (w := w) (t := t) (zw_in (Ls := Ls) (xs := xs)) hs; rw [if_pos ⟨h2, hz5⟩] at ee; exact ee) ?_
                show zx zk_mt zk_ex Ls xs zm_244 (50, [(0, .ref 69)], [.int 1]) (zH u w t) _
                refine zx.br (f1 := (53, [(0, .ref 69)], [])) (f2 := (71, [(0, .ref 69)], [])) rfl (fun c10 => absurd (of_decide_eq_true c10) (by decide)) (fun c10 => ?_)
                refine zx.adv 4 (f' := (77, [(0, .ref 69)], [.int (u 68 4), .int 1, .ref 69])) (h' := zH u w t) rfl ?_
                refine zx.cl (v := none) (h' := zH (zb u 68 (upd (upd (upd (u 68) 9 1) 10 (u 68 4)) 13 1)) w t) rfl (zs_mwrong_0 (v := u) hs.2.2 1 (u 68 4)) ?_
                show zx zk_mt zk_ex Ls xs zm_244 (80, [(0, .ref 69)], []) (zH (zb u 68 (upd (upd (upd (u 68) 9 1) 10 (u 68 4)) 13 1)) w t) _
                exact zx.rt rfl rfl ⟨_, rfl, zMg.wrong, fun _ => zMx.wrong hs, fun z => absurd (zr_isN0 4 (by decide) (show zk_lw 4 = _ from hz5.symm)) z⟩
              · refine zx.cl (v := some (.int 0)) (h' := zH u w t) rfl (by have ee := zm_isWord (w := w) (t := t) (zw_in (Ls := Ls) (xs := xs)) hs; rw [if_neg (fun z => hz5 z.2)] at ee; exact ee) ?_
                show zx zk_mt zk_ex Ls xs zm_244 (50, [(0, .ref 69)], [.int 0]) (zH u w t) _
                refine zx.br (f1 := (53, [(0, .ref 69)], [])) (f2 := (71, [(0, .ref 69)], [])) rfl (fun c11 => ?_) (fun c11 => absurd (by decide) (of_decide_eq_false c11))
                refine zx.adv 2 (f' := (56, [(0, .ref 69)], [.retAddr 25, .ref 69])) (h' := zH u w t) rfl ?_
                by_cases hz6 : tv k = 719967813
                · refine zx.cl (v := some (.int 1)) (h' := zH u w t) rfl (by have ee := zm_isWord (w := w) (t := t) (zw_unsure (Ls := Ls) (xs := xs)) hs; rw [if_pos ⟨h2, hz6⟩] at ee; exact ee) ?_
                  show zx zk_mt zk_ex Ls xs zm_244 (59, [(0, .ref 69)], [.int 1]) (zH u w t) _
                  refine zx.br (f1 := (62, [(0, .ref 69)], [])) (f2 := (71, [(0, .ref 69)], [])) rfl (fun c12 => absurd (of_decide_eq_true c12) (by decide)) (fun c12 => ?_)
                  refine zx.adv 4 (f' := (77, [(0, .ref 69)], [.int (u 68 4), .int 1, .ref 69])) (h' := zH u w t) rfl ?_
                  refine zx.cl (v := none) (h' := zH (zb u 68 (upd (upd (upd (u 68) 9 1) 10 (u 68 4)) 13 1)) w t) rfl (zs_mwrong_0 (v := u) hs.2.2 1 (u 68 4)) ?_
                  show zx zk_mt zk_ex Ls xs zm_244 (80, [(0, .ref 69)], []) (zH (zb u 68 (upd (upd (upd (u 68) 9 1) 10 (u 68 4)) 13 1)) w t) _
                  exact zx.rt rfl rfl ⟨_, rfl, zMg.wrong, fun _ => zMx.wrong hs, fun z => absurd (zr_isN0 5 (by decide) (show zk_lw 5 = _ from hz6.symm)) z⟩
                · refine zx.cl (v := some (.int 0)) (h' := zH u w t) rfl (by have ee := zm_isWord (w := w) (t := t) (zw_unsure (Ls := Ls) (xs := xs)) hs; rw [if_neg (fun z => hz6 z.2)] at ee; exact ee) ?_
                  show zx zk_mt zk_ex Ls xs zm_244 (59, [(0, .ref 69)], [.int 0]) (zH u w t) _
                  refine zx.br (f1 := (62, [(0, .ref 69)], [])) (f2 := (71, [(0, .ref 69)], [])) rfl (fun c13 => ?_) (fun c13 => absurd (by decide) (of_decide_eq_false c13))
                  refine zx.adv 2 (f' := (65, [(0, .ref 69)], [.retAddr 26, .ref 69])) (h' := zH u w t) rfl ?_
                  by_cases hz7 : tv k = 72553868
                  · refine zx.cl (v := some (.int 1)) (h' := zH u w t) rfl (by have ee := zm_isWord (w := w) (t := t) (zw_befell (Ls := Ls) (xs := xs)) hs; rw [if_pos ⟨h2, hz7⟩] at ee; exact ee) ?_
                    show zx zk_mt zk_ex Ls xs zm_244 (68, [(0, .ref 69)], [.int 1]) (zH u w t) _
                    refine zx.br (f1 := (80, [(0, .ref 69)], [])) (f2 := (71, [(0, .ref 69)], [])) rfl (fun c14 => absurd (of_decide_eq_true c14) (by decide)) (fun c14 => ?_)
                    refine zx.adv 4 (f' := (77, [(0, .ref 69)], [.int (u 68 4), .int 1, .ref 69])) (h' := zH u w t) rfl ?_
                    refine zx.cl (v := none) (h' := zH (zb u 68 (upd (upd (upd (u 68) 9 1) 10 (u 68 4)) 13 1)) w t) rfl (zs_mwrong_0 (v := u) hs.2.2 1 (u 68 4)) ?_
                    show zx zk_mt zk_ex Ls xs zm_244 (80, [(0, .ref 69)], []) (zH (zb u 68 (upd (upd (upd (u 68) 9 1) 10 (u 68 4)) 13 1)) w t) _
                    exact zx.rt rfl rfl ⟨_, rfl, zMg.wrong, fun _ => zMx.wrong hs, fun z => absurd (zr_isN0 6 (by decide) (show zk_lw 6 = _ from hz7.symm)) z⟩
                  · refine zx.cl (v := some (.int 0)) (h' := zH u w t) rfl (by have ee := zm_isWord (w := w) (t := t) (zw_befell (Ls := Ls) (xs := xs)) hs; rw [if_neg (fun z => hz7 z.2)] at ee; exact ee) ?_
                    show zx zk_mt zk_ex Ls xs zm_244 (68, [(0, .ref 69)], [.int 0]) (zH u w t) _
                    refine zx.br (f1 := (80, [(0, .ref 69)], [])) (f2 := (71, [(0, .ref 69)], [])) rfl (fun c15 => ?_) (fun c15 => absurd (by decide) (of_decide_eq_false c15))
                    exact zx.rt rfl rfl ⟨u, rfl, zMg.refl, fun z => absurd z (zr_isN1 h2 (fun j hj => by
          rcases (show j = 0 ∨ j = 1 ∨ j = 2 ∨ j = 3 ∨ j = 4 ∨ j = 5 ∨ j = 6 by omega) with rfl | rfl | rfl | rfl | rfl | rfl | rfl
          · exact fun z => hz1 z.symm
          · exact fun z => hz2 z.symm
          · exact fun z => hz3 z.symm
          · exact fun z => hz4 z.symm
          · exact fun z => hz5 z.symm
          · exact fun z => hz6 z.symm
          · exact fun z => hz7 z.symm)), fun _ => rfl⟩
    · have h6 : ¬ u 68 6 = 2 := fun z => h2 (zt_tok2.mp (by rw [← htok]; exact z))
      refine zx.adv 3 (f' := (5, [(0, .ref 69)], [.int 2, .int (u 68 6)])) (h' := zH u w t) rfl ?_
      refine zx.br (f1 := (8, [(0, .ref 69)], [])) (f2 := (71, [(0, .ref 69)], [])) rfl (fun c1 => absurd (of_decide_eq_true c1) h6) (fun c1 => ?_)
      refine zx.adv 4 (f' := (77, [(0, .ref 69)], [.int (u 68 4), .int 1, .ref 69])) (h' := zH u w t) rfl ?_
      refine zx.cl (v := none) (h' := zH (zb u 68 (upd (upd (upd (u 68) 9 1) 10 (u 68 4)) 13 1)) w t) rfl (zs_mwrong_0 (v := u) hs.2.2 1 (u 68 4)) ?_
      show zx zk_mt zk_ex Ls xs zm_244 (80, [(0, .ref 69)], []) (zH (zb u 68 (upd (upd (upd (u 68) 9 1) 10 (u 68 4)) 13 1)) w t) _
      exact zx.rt rfl rfl ⟨_, rfl, zMg.wrong, fun _ => zMx.wrong hs, fun z => absurd (zr_isName2 z) h2⟩
  obtain ⟨q, h1, u', rfl, h2⟩ := main
  exact ⟨u', h1, h2⟩
/-- the reference's names beside the slots -/
def zRN (S : Nat → Int64) (fr : Nat → Int32) : Prop := ∀ s, s < 17 → (S s = 0 ∧ fr (53 + s) = 0) ∨ zWd (S s) (fr (53 + s)) (fun i => fr (70 + 8 * s + i))
theorem zn_fi {s L : Nat} (hs : s < 17) (hL : L ≤ 8) (h8 : u 68 8 = nI L) : ∀ (m j : Nat), j + m = L → ∃ (j' : Nat) (r : Int32), ((r = 1 ∧ ∀ i, j ≤ i → i < L → u 72 (70 + 8 * s + i) = u 70 i) ∨ (r = 0 ∧ ∃ i, i < L ∧ u 72 (70 + 8 * s + i) ≠ u 70 i)) ∧ ∀ Q : Option Value × zk_H → Prop, zx zk_mt zk_ex Ls xs zm_47 (91, [(0, .ref 69), (1, .int (nI s)), (2, .int r), (3, .int (nI j'))], []) (zH u w t) Q → zx zk_mt zk_ex Ls xs zm_47 (44, [(0, .ref 69), (1, .int (nI s)), (2, .int 1), (3, .int (nI j))], []) (zH u w t) Q := by
  intro m
  induction m with
  | zero =>
    intro j hj
    refine ⟨j, 1, Or.inl ⟨rfl, fun i h1 h2 => by omega⟩, fun Q hq => ?_⟩
    refine zx.adv 3 (f' := (49, [(0, .ref 69), (1, .int (nI s)), (2, .int 1), (3, .int (nI j))], [.int (u 68 8), .int (nI j)])) (h' := zH u w t) rfl ?_
    rw [show (u 68 8) = nI L from h8]
    refine zx.br (f1 := (91, [(0, .ref 69), (1, .int (nI s)), (2, .int 1), (3, .int (nI j))], [])) (f2 := (52, [(0, .ref 69), (1, .int (nI s)), (2, .int 1), (3, .int (nI j))], [])) rfl (fun c1 => ?_) (fun c1 => absurd (nI_le (by omega) (by omega)) (of_decide_eq_false c1))
    exact hq
  | succ m ih =>
    intro j hj
    by_cases he : u 72 (70 + 8 * s + j) = u 70 j
    · obtain ⟨j', r, hr, hQ⟩ := ih (j + 1) (by omega)
      refine ⟨j', r, ?_, fun Q hq => ?_⟩
      · rcases hr with ⟨h1, h2⟩ | h1
        · refine Or.inl ⟨h1, fun i q1 q2 => ?_⟩
          by_cases hi : i = j
          · subst hi; exact he
          · exact h2 i (by omega) q2
        · exact Or.inr h1
      refine zx.adv 3 (f' := (49, [(0, .ref 69), (1, .int (nI s)), (2, .int 1), (3, .int (nI j))], [.int (u 68 8), .int (nI j)])) (h' := zH u w t) rfl ?_
      rw [show (u 68 8) = nI L from h8]
      refine zx.br (f1 := (91, [(0, .ref 69), (1, .int (nI s)), (2, .int 1), (3, .int (nI j))], [])) (f2 := (52, [(0, .ref 69), (1, .int (nI s)), (2, .int 1), (3, .int (nI j))], [])) rfl (fun c1 => absurd (of_decide_eq_true c1) (nI_ge (by omega) (by omega))) (fun c1 => ?_)
      refine zx.adv 1 (f' := (53, [(0, .ref 69), (1, .int (nI s)), (2, .int 1), (3, .int (nI j))], [.int 1])) (h' := zH u w t) rfl ?_
      refine zx.br (f1 := (91, [(0, .ref 69), (1, .int (nI s)), (2, .int 1), (3, .int (nI j))], [])) (f2 := (56, [(0, .ref 69), (1, .int (nI s)), (2, .int 1), (3, .int (nI j))], [])) rfl (fun c2 => absurd (of_decide_eq_true c2) (by decide)) (fun c2 => ?_)
      refine zx.adv 6 (f' := (66, [(0, .ref 69), (1, .int (nI s)), (2, .int 1), (3, .int (nI j))], [.int (8 * (nI s)), .int 70, .ref 73])) (h' := zH u w t) rfl ?_
      rw [show 8 * (nI s) = nI (8 * s) from pk_mul 8 s]
      refine zx.adv 1 (f' := (67, [(0, .ref 69), (1, .int (nI s)), (2, .int 1), (3, .int (nI j))], [.int (70 + (nI (8 * s))), .ref 73])) (h' := zH u w t) rfl ?_
      rw [show 70 + (nI (8 * s)) = nI (70 + (8 * s)) from nI_add 70 (8 * s)]
      refine zx.adv 2 (f' := (69, [(0, .ref 69), (1, .int (nI s)), (2, .int 1), (3, .int (nI j))], [.int ((nI (70 + (8 * s))) + (nI j)), .ref 73])) (h' := zH u w t) rfl ?_
      rw [show (nI (70 + (8 * s))) + (nI j) = nI ((70 + (8 * s)) + j) from nI_add (70 + (8 * s)) j]
      refine zx.ob (f' := (70, [(0, .ref 69), (1, .int (nI s)), (2, .int 1), (3, .int (nI j))], [.int (u 72 (nI ((70 + (8 * s)) + j)).toNatClampNeg)])) (h' := zH u w t) rfl (by first | exact zk_inN (by omega) (by decide) | decide) ?_
      rw [nI_clamp (show ((70 + (8 * s)) + j) < 2 ^ 31 by omega)]
      refine zx.adv 3 (f' := (75, [(0, .ref 69), (1, .int (nI s)), (2, .int 1), (3, .int (nI j))], [.int (nI j), .ref 71, .int (u 72 ((70 + (8 * s)) + j))])) (h' := zH u w t) rfl ?_
      refine zx.ob (f' := (76, [(0, .ref 69), (1, .int (nI s)), (2, .int 1), (3, .int (nI j))], [.int (u 70 (nI j).toNatClampNeg), .int (u 72 ((70 + (8 * s)) + j))])) (h' := zH u w t) rfl (by first | exact zk_inN (by omega) (by decide) | decide) ?_
      rw [nI_clamp (show j < 2 ^ 31 by omega)]
      refine zx.br (f1 := (79, [(0, .ref 69), (1, .int (nI s)), (2, .int 1), (3, .int (nI j))], [])) (f2 := (83, [(0, .ref 69), (1, .int (nI s)), (2, .int 1), (3, .int (nI j))], [])) rfl (fun c3 => ?_) (fun c3 => absurd he (of_decide_eq_false c3))
      refine zx.adv 4 (f' := (88, [(0, .ref 69), (1, .int (nI s)), (2, .int 1), (3, .int ((nI j) + 1))], [])) (h' := zH u w t) rfl ?_
      rw [show (nI j) + 1 = nI (j + 1) from nI_add j 1]
      refine zx.adv 1 (f' := (44, [(0, .ref 69), (1, .int (nI s)), (2, .int 1), (3, .int (nI (j + 1)))], [])) (h' := zH u w t) rfl ?_
      exact hQ Q hq
    · refine ⟨j + 1, 0, Or.inr ⟨rfl, j, by omega, he⟩, fun Q hq => ?_⟩
      refine zx.adv 3 (f' := (49, [(0, .ref 69), (1, .int (nI s)), (2, .int 1), (3, .int (nI j))], [.int (u 68 8), .int (nI j)])) (h' := zH u w t) rfl ?_
      rw [show (u 68 8) = nI L from h8]
      refine zx.br (f1 := (91, [(0, .ref 69), (1, .int (nI s)), (2, .int 1), (3, .int (nI j))], [])) (f2 := (52, [(0, .ref 69), (1, .int (nI s)), (2, .int 1), (3, .int (nI j))], [])) rfl (fun c1 => absurd (of_decide_eq_true c1) (nI_ge (by omega) (by omega))) (fun c1 => ?_)
      refine zx.adv 1 (f' := (53, [(0, .ref 69), (1, .int (nI s)), (2, .int 1), (3, .int (nI j))], [.int 1])) (h' := zH u w t) rfl ?_
      refine zx.br (f1 := (91, [(0, .ref 69), (1, .int (nI s)), (2, .int 1), (3, .int (nI j))], [])) (f2 := (56, [(0, .ref 69), (1, .int (nI s)), (2, .int 1), (3, .int (nI j))], [])) rfl (fun c2 => absurd (of_decide_eq_true c2) (by decide)) (fun c2 => ?_)
      refine zx.adv 6 (f' := (66, [(0, .ref 69), (1, .int (nI s)), (2, .int 1), (3, .int (nI j))], [.int (8 * (nI s)), .int 70, .ref 73])) (h' := zH u w t) rfl ?_
      rw [show 8 * (nI s) = nI (8 * s) from pk_mul 8 s]
      refine zx.adv 1 (f' := (67, [(0, .ref 69), (1, .int (nI s)), (2, .int 1), (3, .int (nI j))], [.int (70 + (nI (8 * s))), .ref 73])) (h' := zH u w t) rfl ?_
      rw [show 70 + (nI (8 * s)) = nI (70 + (8 * s)) from nI_add 70 (8 * s)]
      refine zx.adv 2 (f' := (69, [(0, .ref 69), (1, .int (nI s)), (2, .int 1), (3, .int (nI j))], [.int ((nI (70 + (8 * s))) + (nI j)), .ref 73])) (h' := zH u w t) rfl ?_
      rw [show (nI (70 + (8 * s))) + (nI j) = nI ((70 + (8 * s)) + j) from nI_add (70 + (8 * s)) j]
      refine zx.ob (f' := (70, [(0, .ref 69), (1, .int (nI s)), (2, .int 1), (3, .int (nI j))], [.int (u 72 (nI ((70 + (8 * s)) + j)).toNatClampNeg)])) (h' := zH u w t) rfl (by first | exact zk_inN (by omega) (by decide) | decide) ?_
      rw [nI_clamp (show ((70 + (8 * s)) + j) < 2 ^ 31 by omega)]
      refine zx.adv 3 (f' := (75, [(0, .ref 69), (1, .int (nI s)), (2, .int 1), (3, .int (nI j))], [.int (nI j), .ref 71, .int (u 72 ((70 + (8 * s)) + j))])) (h' := zH u w t) rfl ?_
      refine zx.ob (f' := (76, [(0, .ref 69), (1, .int (nI s)), (2, .int 1), (3, .int (nI j))], [.int (u 70 (nI j).toNatClampNeg), .int (u 72 ((70 + (8 * s)) + j))])) (h' := zH u w t) rfl (by first | exact zk_inN (by omega) (by decide) | decide) ?_
      rw [nI_clamp (show j < 2 ^ 31 by omega)]
      refine zx.br (f1 := (79, [(0, .ref 69), (1, .int (nI s)), (2, .int 1), (3, .int (nI j))], [])) (f2 := (83, [(0, .ref 69), (1, .int (nI s)), (2, .int 1), (3, .int (nI j))], [])) rfl (fun c3 => absurd (of_decide_eq_true c3) he) (fun c3 => ?_)
      refine zx.adv 3 (f' := (88, [(0, .ref 69), (1, .int (nI s)), (2, .int 0), (3, .int ((nI j) + 1))], [])) (h' := zH u w t) rfl ?_
      rw [show (nI j) + 1 = nI (j + 1) from nI_add j 1]
      refine zx.adv 4 (f' := (49, [(0, .ref 69), (1, .int (nI s)), (2, .int 0), (3, .int (nI (j + 1)))], [.int (u 68 8), .int (nI (j + 1))])) (h' := zH u w t) rfl ?_
      rw [show (u 68 8) = nI L from h8]
      refine zx.br (f1 := (91, [(0, .ref 69), (1, .int (nI s)), (2, .int 0), (3, .int (nI (j + 1)))], [])) (f2 := (52, [(0, .ref 69), (1, .int (nI s)), (2, .int 0), (3, .int (nI (j + 1)))], [])) rfl (fun c4 => ?_) (fun c4 => ?_)
      · have c4 : (nI L) ≤ (nI (j + 1)) := of_decide_eq_true c4
        exact hq
      · have c4 : ¬ ((nI L) ≤ (nI (j + 1))) := of_decide_eq_false c4
        refine zx.adv 1 (f' := (53, [(0, .ref 69), (1, .int (nI s)), (2, .int 0), (3, .int (nI (j + 1)))], [.int 0])) (h' := zH u w t) rfl ?_
        refine zx.br (f1 := (91, [(0, .ref 69), (1, .int (nI s)), (2, .int 0), (3, .int (nI (j + 1)))], [])) (f2 := (56, [(0, .ref 69), (1, .int (nI s)), (2, .int 0), (3, .int (nI (j + 1)))], [])) rfl (fun c5 => ?_) (fun c5 => absurd (by decide) (of_decide_eq_false c5))
        exact hq
def zfv : Option Nat → Int32
  | none => -1
  | some s => nI s
theorem zn_fo {S : Nat → Int64} {x : Int64} {L : Nat} (hL1 : 1 ≤ L) (hL : L ≤ 8) (h8 : u 68 8 = nI L) (hlt : ∀ i, i < L → zLt (u 70 i)) (hx : x = zpk L (u 70)) (hN : zRN S (u 72)) : ∀ (m s : Nat), s + m = 17 → ∀ Q : Option Value × zk_H → Prop, Q (some (.int (zfv (zp_fnd S x m s))), zH u w t) → zx zk_mt zk_ex Ls xs zm_47 (2, [(0, .ref 69), (1, .int (nI s))], []) (zH u w t) Q := by
  intro m
  induction m with
  | zero =>
    intro s hs Q hq
    refine zx.adv 2 (f' := (5, [(0, .ref 69), (1, .int (nI s))], [.int 17, .int (nI s)])) (h' := zH u w t) rfl ?_
    refine zx.br (f1 := (103, [(0, .ref 69), (1, .int (nI s))], [])) (f2 := (8, [(0, .ref 69), (1, .int (nI s))], [])) rfl (fun c1 => ?_) (fun c1 => absurd (show (17 : Int32) ≤ nI s from nI_le (a := 17) (by omega) (by omega)) (of_decide_eq_false c1))
    refine zx.adv 1 (f' := (104, [(0, .ref 69), (1, .int (nI s))], [.int (-1)])) (h' := zH u w t) rfl ?_
    exact zx.rt rfl rfl (by exact hq)
  | succ m ih =>
    intro s hs Q hq
    unfold zp_fnd at hq
    rcases hN s (by omega) with ⟨h0, hz⟩ | ⟨L', ⟨l1, l8⟩, hz, hg, hv⟩
    · rw [if_neg (show ¬ S s = x by rw [h0, hx]; exact fun z => zpk_ne hL hL1 hlt z.symm)] at hq
      refine zx.adv 2 (f' := (5, [(0, .ref 69), (1, .int (nI s))], [.int 17, .int (nI s)])) (h' := zH u w t) rfl ?_
      refine zx.br (f1 := (103, [(0, .ref 69), (1, .int (nI s))], [])) (f2 := (8, [(0, .ref 69), (1, .int (nI s))], [])) rfl (fun c1 => absurd (of_decide_eq_true c1) (show ¬ (17 : Int32) ≤ nI s from nI_ge (b := 17) (by omega) (by decide))) (fun c1 => ?_)
      refine zx.adv 5 (f' := (16, [(0, .ref 69), (1, .int (nI s))], [.int (53 + (nI s)), .ref 73])) (h' := zH u w t) rfl ?_
      rw [show 53 + (nI s) = nI (53 + s) from nI_add 53 s]
      refine zx.ob (f' := (17, [(0, .ref 69), (1, .int (nI s))], [.int (u 72 (nI (53 + s)).toNatClampNeg)])) (h' := zH u w t) rfl (by first | exact zk_inN (by omega) (by decide) | decide) ?_
      rw [nI_clamp (show (53 + s) < 2 ^ 31 by omega)]
      rw [show u 72 (53 + s) = 0 from hz]
      refine zx.br (f1 := (40, [(0, .ref 69), (1, .int (nI s))], [])) (f2 := (20, [(0, .ref 69), (1, .int (nI s))], [])) rfl (fun c2 => ?_) (fun c2 => absurd (by decide) (of_decide_eq_false c2))
      refine zx.adv 7 (f' := (49, [(0, .ref 69), (1, .int (nI s)), (2, .int 0), (3, .int 0)], [.int (u 68 8), .int 0])) (h' := zH u w t) rfl ?_
      rw [show (u 68 8) = nI L from h8]
      refine zx.br (f1 := (91, [(0, .ref 69), (1, .int (nI s)), (2, .int 0), (3, .int 0)], [])) (f2 := (52, [(0, .ref 69), (1, .int (nI s)), (2, .int 0), (3, .int 0)], [])) rfl (fun c3 => absurd (of_decide_eq_true c3) (show ¬ nI L ≤ (0 : Int32) from nI_ge (a := 0) (by omega) (by omega))) (fun c3 => ?_)
      refine zx.adv 1 (f' := (53, [(0, .ref 69), (1, .int (nI s)), (2, .int 0), (3, .int 0)], [.int 0])) (h' := zH u w t) rfl ?_
      refine zx.br (f1 := (91, [(0, .ref 69), (1, .int (nI s)), (2, .int 0), (3, .int 0)], [])) (f2 := (56, [(0, .ref 69), (1, .int (nI s)), (2, .int 0), (3, .int 0)], [])) rfl (fun c4 => ?_) (fun c4 => absurd (by decide) (of_decide_eq_false c4))
      refine zx.adv 1 (f' := (92, [(0, .ref 69), (1, .int (nI s)), (2, .int 0), (3, .int 0)], [.int 0])) (h' := zH u w t) rfl ?_
      refine zx.br (f1 := (97, [(0, .ref 69), (1, .int (nI s)), (2, .int 0), (3, .int 0)], [])) (f2 := (95, [(0, .ref 69), (1, .int (nI s)), (2, .int 0), (3, .int 0)], [])) rfl (fun c5 => ?_) (fun c5 => absurd (by decide) (of_decide_eq_false c5))
      refine zx.adv 1 (f' := (100, [(0, .ref 69), (1, .int ((nI s) + 1)), (2, .int 0), (3, .int 0)], [])) (h' := zH u w t) rfl ?_
      rw [show (nI s) + 1 = nI (s + 1) from nI_add s 1]
      refine zx.adv 1 (f' := (2, [(0, .ref 69), (1, .int (nI (s + 1)))], [])) (h' := zH u w t) rfl ?_
      exact ih (s + 1) (by omega) Q hq
    · by_cases hne : L' = L
      · have hne' := hne.symm
        subst hne'
        obtain ⟨j', r, hr, hQ⟩ := zn_fi (w := w) (t := t) (Ls := Ls) (xs := xs) (s := s) (by omega) hL h8 L 0 (by omega)
        rcases hr with ⟨hr, ha⟩ | ⟨hr, i, hi, ha⟩
        · rw [if_pos (show S s = x by rw [hv, hx]; exact zpk_eq L (fun a q => ha a (by omega) q))] at hq
          refine zx.adv 2 (f' := (5, [(0, .ref 69), (1, .int (nI s))], [.int 17, .int (nI s)])) (h' := zH u w t) rfl ?_
          refine zx.br (f1 := (103, [(0, .ref 69), (1, .int (nI s))], [])) (f2 := (8, [(0, .ref 69), (1, .int (nI s))], [])) rfl (fun c1 => absurd (of_decide_eq_true c1) (show ¬ (17 : Int32) ≤ nI s from nI_ge (b := 17) (by omega) (by decide))) (fun c1 => ?_)
          refine zx.adv 5 (f' := (16, [(0, .ref 69), (1, .int (nI s))], [.int (53 + (nI s)), .ref 73])) (h' := zH u w t) rfl ?_
          rw [show 53 + (nI s) = nI (53 + s) from nI_add 53 s]
          refine zx.ob (f' := (17, [(0, .ref 69), (1, .int (nI s))], [.int (u 72 (nI (53 + s)).toNatClampNeg)])) (h' := zH u w t) rfl (by first | exact zk_inN (by omega) (by decide) | decide) ?_
          rw [nI_clamp (show (53 + s) < 2 ^ 31 by omega)]
          rw [show u 72 (53 + s) = nI L from hz]
          refine zx.br (f1 := (40, [(0, .ref 69), (1, .int (nI s))], [])) (f2 := (20, [(0, .ref 69), (1, .int (nI s))], [])) rfl (fun c2 => absurd (of_decide_eq_true c2) (nI_nle (by omega) (by omega))) (fun c2 => ?_)
          refine zx.adv 5 (f' := (28, [(0, .ref 69), (1, .int (nI s))], [.int (53 + (nI s)), .ref 73])) (h' := zH u w t) rfl ?_
          rw [show 53 + (nI s) = nI (53 + s) from nI_add 53 s]
          refine zx.ob (f' := (29, [(0, .ref 69), (1, .int (nI s))], [.int (u 72 (nI (53 + s)).toNatClampNeg)])) (h' := zH u w t) rfl (by first | exact zk_inN (by omega) (by decide) | decide) ?_
          rw [nI_clamp (show (53 + s) < 2 ^ 31 by omega)]
          rw [show u 72 (53 + s) = nI L from hz]
          refine zx.adv 2 (f' := (33, [(0, .ref 69), (1, .int (nI s))], [.int (u 68 8), .int (nI L)])) (h' := zH u w t) rfl ?_
          rw [show (u 68 8) = nI L from h8]
          refine zx.br (f1 := (36, [(0, .ref 69), (1, .int (nI s))], [])) (f2 := (40, [(0, .ref 69), (1, .int (nI s))], [])) rfl (fun c3 => ?_) (fun c3 => absurd rfl (of_decide_eq_false c3))
          refine zx.adv 5 (f' := (44, [(0, .ref 69), (1, .int (nI s)), (2, .int 1), (3, .int 0)], [])) (h' := zH u w t) rfl ?_
          refine hQ _ ?_
          show zx zk_mt zk_ex Ls xs zm_47 (91, [(0, .ref 69), (1, .int (nI s)), (2, .int r), (3, .int (nI j'))], []) (zH u w t) _
          refine zx.adv 1 (f' := (92, [(0, .ref 69), (1, .int (nI s)), (2, .int r), (3, .int (nI j'))], [.int r])) (h' := zH u w t) rfl ?_
          refine zx.br (f1 := (97, [(0, .ref 69), (1, .int (nI s)), (2, .int r), (3, .int (nI j'))], [])) (f2 := (95, [(0, .ref 69), (1, .int (nI s)), (2, .int r), (3, .int (nI j'))], [])) rfl (fun c4 => absurd (of_decide_eq_true c4) (by rw [hr]; decide)) (fun c4 => ?_)
          refine zx.adv 1 (f' := (96, [(0, .ref 69), (1, .int (nI s)), (2, .int r), (3, .int (nI j'))], [.int (nI s)])) (h' := zH u w t) rfl ?_
          exact zx.rt rfl rfl (by exact hq)
        · rw [if_neg (show ¬ S s = x by rw [hv, hx]; exact fun z => ha ((zpk_inj hL hL hg hlt z).2 i hi))] at hq
          refine zx.adv 2 (f' := (5, [(0, .ref 69), (1, .int (nI s))], [.int 17, .int (nI s)])) (h' := zH u w t) rfl ?_
          refine zx.br (f1 := (103, [(0, .ref 69), (1, .int (nI s))], [])) (f2 := (8, [(0, .ref 69), (1, .int (nI s))], [])) rfl (fun c1 => absurd (of_decide_eq_true c1) (show ¬ (17 : Int32) ≤ nI s from nI_ge (b := 17) (by omega) (by decide))) (fun c1 => ?_)
          refine zx.adv 5 (f' := (16, [(0, .ref 69), (1, .int (nI s))], [.int (53 + (nI s)), .ref 73])) (h' := zH u w t) rfl ?_
          rw [show 53 + (nI s) = nI (53 + s) from nI_add 53 s]
          refine zx.ob (f' := (17, [(0, .ref 69), (1, .int (nI s))], [.int (u 72 (nI (53 + s)).toNatClampNeg)])) (h' := zH u w t) rfl (by first | exact zk_inN (by omega) (by decide) | decide) ?_
          rw [nI_clamp (show (53 + s) < 2 ^ 31 by omega)]
          rw [show u 72 (53 + s) = nI L from hz]
          refine zx.br (f1 := (40, [(0, .ref 69), (1, .int (nI s))], [])) (f2 := (20, [(0, .ref 69), (1, .int (nI s))], [])) rfl (fun c2 => absurd (of_decide_eq_true c2) (nI_nle (by omega) (by omega))) (fun c2 => ?_)
          refine zx.adv 5 (f' := (28, [(0, .ref 69), (1, .int (nI s))], [.int (53 + (nI s)), .ref 73])) (h' := zH u w t) rfl ?_
          rw [show 53 + (nI s) = nI (53 + s) from nI_add 53 s]
          refine zx.ob (f' := (29, [(0, .ref 69), (1, .int (nI s))], [.int (u 72 (nI (53 + s)).toNatClampNeg)])) (h' := zH u w t) rfl (by first | exact zk_inN (by omega) (by decide) | decide) ?_
          rw [nI_clamp (show (53 + s) < 2 ^ 31 by omega)]
          rw [show u 72 (53 + s) = nI L from hz]
          refine zx.adv 2 (f' := (33, [(0, .ref 69), (1, .int (nI s))], [.int (u 68 8), .int (nI L)])) (h' := zH u w t) rfl ?_
          rw [show (u 68 8) = nI L from h8]
          refine zx.br (f1 := (36, [(0, .ref 69), (1, .int (nI s))], [])) (f2 := (40, [(0, .ref 69), (1, .int (nI s))], [])) rfl (fun c3 => ?_) (fun c3 => absurd rfl (of_decide_eq_false c3))
          refine zx.adv 5 (f' := (44, [(0, .ref 69), (1, .int (nI s)), (2, .int 1), (3, .int 0)], [])) (h' := zH u w t) rfl ?_
          refine hQ _ ?_
          show zx zk_mt zk_ex Ls xs zm_47 (91, [(0, .ref 69), (1, .int (nI s)), (2, .int r), (3, .int (nI j'))], []) (zH u w t) _
          refine zx.adv 1 (f' := (92, [(0, .ref 69), (1, .int (nI s)), (2, .int r), (3, .int (nI j'))], [.int r])) (h' := zH u w t) rfl ?_
          refine zx.br (f1 := (97, [(0, .ref 69), (1, .int (nI s)), (2, .int r), (3, .int (nI j'))], [])) (f2 := (95, [(0, .ref 69), (1, .int (nI s)), (2, .int r), (3, .int (nI j'))], [])) rfl (fun c4 => ?_) (fun c4 => absurd hr (of_decide_eq_false c4))
          refine zx.adv 1 (f' := (100, [(0, .ref 69), (1, .int ((nI s) + 1)), (2, .int r), (3, .int (nI j'))], [])) (h' := zH u w t) rfl ?_
          rw [show (nI s) + 1 = nI (s + 1) from nI_add s 1]
          refine zx.adv 1 (f' := (2, [(0, .ref 69), (1, .int (nI (s + 1)))], [])) (h' := zH u w t) rfl ?_
          exact ih (s + 1) (by omega) Q hq
      · rw [if_neg (show ¬ S s = x by rw [hv, hx]; exact fun z => hne (zpk_inj l8 hL hg hlt z).1)] at hq
        refine zx.adv 2 (f' := (5, [(0, .ref 69), (1, .int (nI s))], [.int 17, .int (nI s)])) (h' := zH u w t) rfl ?_
        refine zx.br (f1 := (103, [(0, .ref 69), (1, .int (nI s))], [])) (f2 := (8, [(0, .ref 69), (1, .int (nI s))], [])) rfl (fun c1 => absurd (of_decide_eq_true c1) (show ¬ (17 : Int32) ≤ nI s from nI_ge (b := 17) (by omega) (by decide))) (fun c1 => ?_)
        refine zx.adv 5 (f' := (16, [(0, .ref 69), (1, .int (nI s))], [.int (53 + (nI s)), .ref 73])) (h' := zH u w t) rfl ?_
        rw [show 53 + (nI s) = nI (53 + s) from nI_add 53 s]
        refine zx.ob (f' := (17, [(0, .ref 69), (1, .int (nI s))], [.int (u 72 (nI (53 + s)).toNatClampNeg)])) (h' := zH u w t) rfl (by first | exact zk_inN (by omega) (by decide) | decide) ?_
        rw [nI_clamp (show (53 + s) < 2 ^ 31 by omega)]
        rw [show u 72 (53 + s) = nI L' from hz]
        refine zx.br (f1 := (40, [(0, .ref 69), (1, .int (nI s))], [])) (f2 := (20, [(0, .ref 69), (1, .int (nI s))], [])) rfl (fun c2 => absurd (of_decide_eq_true c2) (nI_nle (by omega) (by omega))) (fun c2 => ?_)
        refine zx.adv 5 (f' := (28, [(0, .ref 69), (1, .int (nI s))], [.int (53 + (nI s)), .ref 73])) (h' := zH u w t) rfl ?_
        rw [show 53 + (nI s) = nI (53 + s) from nI_add 53 s]
        refine zx.ob (f' := (29, [(0, .ref 69), (1, .int (nI s))], [.int (u 72 (nI (53 + s)).toNatClampNeg)])) (h' := zH u w t) rfl (by first | exact zk_inN (by omega) (by decide) | decide) ?_
        rw [nI_clamp (show (53 + s) < 2 ^ 31 by omega)]
        rw [show u 72 (53 + s) = nI L' from hz]
        refine zx.adv 2 (f' := (33, [(0, .ref 69), (1, .int (nI s))], [.int (u 68 8), .int (nI L')])) (h' := zH u w t) rfl ?_
        rw [show (u 68 8) = nI L from h8]
        refine zx.br (f1 := (36, [(0, .ref 69), (1, .int (nI s))], [])) (f2 := (40, [(0, .ref 69), (1, .int (nI s))], [])) rfl (fun c3 => absurd (of_decide_eq_true c3) (fun z => hne ((nI_eq (by omega) (by omega)).mp z))) (fun c3 => ?_)
        refine zx.adv 7 (f' := (49, [(0, .ref 69), (1, .int (nI s)), (2, .int 0), (3, .int 0)], [.int (u 68 8), .int 0])) (h' := zH u w t) rfl ?_
        rw [show (u 68 8) = nI L from h8]
        refine zx.br (f1 := (91, [(0, .ref 69), (1, .int (nI s)), (2, .int 0), (3, .int 0)], [])) (f2 := (52, [(0, .ref 69), (1, .int (nI s)), (2, .int 0), (3, .int 0)], [])) rfl (fun c4 => absurd (of_decide_eq_true c4) (show ¬ nI L ≤ (0 : Int32) from nI_ge (a := 0) (by omega) (by omega))) (fun c4 => ?_)
        refine zx.adv 1 (f' := (53, [(0, .ref 69), (1, .int (nI s)), (2, .int 0), (3, .int 0)], [.int 0])) (h' := zH u w t) rfl ?_
        refine zx.br (f1 := (91, [(0, .ref 69), (1, .int (nI s)), (2, .int 0), (3, .int 0)], [])) (f2 := (56, [(0, .ref 69), (1, .int (nI s)), (2, .int 0), (3, .int 0)], [])) rfl (fun c5 => ?_) (fun c5 => absurd (by decide) (of_decide_eq_false c5))
        refine zx.adv 1 (f' := (92, [(0, .ref 69), (1, .int (nI s)), (2, .int 0), (3, .int 0)], [.int 0])) (h' := zH u w t) rfl ?_
        refine zx.br (f1 := (97, [(0, .ref 69), (1, .int (nI s)), (2, .int 0), (3, .int 0)], [])) (f2 := (95, [(0, .ref 69), (1, .int (nI s)), (2, .int 0), (3, .int 0)], [])) rfl (fun c6 => ?_) (fun c6 => absurd (by decide) (of_decide_eq_false c6))
        refine zx.adv 1 (f' := (100, [(0, .ref 69), (1, .int ((nI s) + 1)), (2, .int 0), (3, .int 0)], [])) (h' := zH u w t) rfl ?_
        rw [show (nI s) + 1 = nI (s + 1) from nI_add s 1]
        refine zx.adv 1 (f' := (2, [(0, .ref 69), (1, .int (nI (s + 1)))], [])) (h' := zH u w t) rfl ?_
        exact ih (s + 1) (by omega) Q hq
/-- BasketKeepModel.find -/
theorem zm_find {k : Nat} {S : Nat → Int64} (hs : zMs tn ts tp tv E B k u) (h2 : ts k = 2) (hN : zRN S (u 72)) : zk_Cr zk_mt zk_ex Ls xs 47 [.ref 69] (zH u w t) (some (.int (zfv (zp_find S (tv k)))), zH u w t) := by
  obtain ⟨L, ⟨l1, l8⟩, hsz, hlt, hv⟩ := hs.1.2.2.2.2.2.2.1 h2
  refine zk_Cr.of (K := zm_47) rfl rfl rfl (zx.to ?_)
  show zx zk_mt zk_ex Ls xs zm_47 (0, [(0, .ref 69)], []) (zH u w t) _
  refine zx.adv 2 (f' := (2, [(0, .ref 69), (1, .int 0)], [])) (h' := zH u w t) rfl ?_
  exact zn_fo l1 l8 hsz hlt hv hN 17 0 rfl _ rfl
end Z60
