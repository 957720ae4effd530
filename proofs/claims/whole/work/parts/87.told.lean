/-! the told functions' contracts -/
section ZJC
variable {D : va_G} {E : Nat → ClassId} {B : Nat} {X : Nat → Nat} {Ls : Nat} {xs : Nat → Int32} {l : Launch}
theorem zk_ledI {i : Int32} {h h' : zk_H} {v : Option Value} (hq : zk_led i h = some (v, h')) : ∃ (fx fl fs : List Value) (n : Nat) (f : Nat → Int64) (goods lost : Int32), zk_at h 0 = some (.inr (0, fx)) ∧ zk_at h 20 = some (.inr (3, fl)) ∧ zk_at h 32 = some (.inr (4, fs)) ∧ zk_at h 86 = some (.inl (2, n, .inr (.inl f))) ∧ zk_at fx 1 = some (.ref 20) ∧ zk_at fx 3 = some (.ref 32) ∧ zk_at fl 8 = some (.int goods) ∧ zk_at fs 1 = some (.int lost) ∧ 0 < n ∧
    ((∃ g, zk_ledF goods.toNatClampNeg 0 lost i = some g ∧ v = some (.int 0) ∧ h' = zk_put h 86 (.inl (2, n, .inr (.inl (vp_updL f 0 (nI g).toInt64))))) ∨ (zk_ledF goods.toNatClampNeg 0 lost i = none ∧ v = some (.int 1) ∧ h' = h ++ [.inr (12, [.null, .null, .null, .null, .null, .null])])) := by
  unfold zk_led at hq
  split at hq
  · rename_i fx fl fs n f h0 h20 h32 h85
    split at hq
    · rename_i goods lost a1 a3 a8 b1
      refine ⟨fx, fl, fs, n, f, goods, lost, h0, h20, h32, h85, a1, a3, a8, b1, ?_⟩
      cases hn : Nat.blt 0 n with
      | false => rw [hn] at hq; cases hq
      | true =>
        rw [hn] at hq
        refine ⟨zk_bltI.mp hn, ?_⟩
        cases hg : zk_ledF goods.toNatClampNeg 0 lost i with
        | some g =>
          rw [hg] at hq
          have e := Prod.mk.inj (Option.some.inj hq)
          exact Or.inl ⟨g, rfl, e.1.symm, e.2.symm⟩
        | none =>
          rw [hg] at hq
          have e := Prod.mk.inj (Option.some.inj hq)
          exact Or.inr ⟨rfl, e.1.symm, e.2.symm⟩
    · cases hq
  · cases hq
theorem zk_exL {i : Int32} {h h' : zk_H} {v : Option Value} (hq : zk_led i h = some (v, h')) : zk_le h h' := by
  obtain ⟨fx, fl, fs, n, f, goods, lost, h0, h20, h32, h85, a1, a3, a8, b1, hn, hz⟩ := zk_ledI hq
  rcases hz with ⟨g, -, -, rfl⟩ | ⟨-, -, rfl⟩
  · exact zk_le_put h85 rfl
  · exact zk_le_app
theorem zk_hex : ∀ (k : Nat) (K : zk_M) (as : List Value) (h : zk_H) (v : Option Value) (h' : zk_H), zk_mt k = some K → zk_ct K = [] → zk_ex k as h = some (v, h') → zk_Sp (zk_EX B X) D E B X Ls xs l K as h v h' ∧ zk_le h h' := by
  intro k K as h v h' hk _ hq
  have hq0 := hq
  unfold zk_ex at hq
  split at hq
  · rename_i a
    cases hk
    cases ha : zk_at zk_sb (a - 1) with
    | none => rw [ha] at hq; cases hq
    | some b =>
      rw [ha] at hq
      have e := Prod.mk.inj (Option.some.inj hq)
      obtain ⟨rfl, rfl⟩ := e
      refine ⟨⟨fun _ hgd => ?_, fun z => absurd z (by decide)⟩, zk_le_rf⟩
      rw [Nat.sub_self, Nat.sub_self]
      have h0 := hgd rfl rfl a [] rfl
      obtain ⟨a, rfl⟩ : ∃ z, a = z + 1 := ⟨a - 1, by omega⟩
      exact zj_length (a := a) ha
  · rename_i a i
    cases hk
    cases ha : zk_at zk_sb (a - 1) with
    | none => rw [ha] at hq; cases hq
    | some b =>
      rw [ha] at hq
      dsimp only at hq
      cases hi : zk_in i b.length with
      | false => rw [hi] at hq; cases hq
      | true =>
        rw [hi] at hq
        cases hc : zk_at b i.toNatClampNeg with
        | none => rw [hc] at hq; cases hq
        | some r =>
          rw [hc] at hq
          have e := Prod.mk.inj (Option.some.inj hq)
          obtain ⟨rfl, rfl⟩ := e
          refine ⟨⟨fun _ hgd => ?_, fun z => absurd z (by decide)⟩, zk_le_rf⟩
          rw [Nat.sub_self, Nat.sub_self]
          have h0 := hgd rfl rfl a [.int i] rfl
          obtain ⟨a, rfl⟩ : ∃ z, a = z + 1 := ⟨a - 1, by omega⟩
          exact zj_charAt (a := a) ha hi hc
  · have hK : K = zm_2 := (Option.some.inj hk).symm
    refine ⟨⟨fun z => absurd z (by rw [hK]; decide), fun _ => ⟨_, hk, hq0⟩⟩, zk_exL hq⟩
  · have hK : K = zm_71 := (Option.some.inj hk).symm
    have e := Prod.mk.inj (Option.some.inj hq)
    refine ⟨⟨fun z => absurd z (by rw [hK]; decide), fun _ => ⟨_, hk, hq0⟩⟩, ?_⟩
    rw [← e.2]; exact zk_le_rf
  · have hK : K = zm_72 := (Option.some.inj hk).symm
    have e := Prod.mk.inj (Option.some.inj hq)
    refine ⟨⟨fun z => absurd z (by rw [hK]; decide), fun _ => ⟨_, hk, hq0⟩⟩, ?_⟩
    rw [← e.2]; exact zk_le_rf
  · cases hq
end ZJC
