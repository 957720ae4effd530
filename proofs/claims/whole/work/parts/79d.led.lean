/-! led: the class's throw beside the reference's answer -/
theorem zy_dn (x m : Int32) : x - m + (-1) = x - (m + 1) := by
  rw [Int32.sub_eq_add_neg x m, Int32.sub_eq_add_neg x (m + 1), Int32.neg_add, Int32.sub_eq_add_neg (-m) 1, Int32.add_assoc]
theorem zy_led1 (lo x : Int32) : ∀ (n i : Nat) (m : Int32), i + n ≤ 32 → (∃ g, g < i + n ∧ zk_ledF n i lo (x - m) = some g ∧ zfr (zl_mledG lo x) n i m = .inr (nI g)) ∨ (zk_ledF n i lo (x - m) = none ∧ ∃ q, zfr (zl_mledG lo x) n i m = .inl q)
  | 0, i, m, _ => Or.inr ⟨rfl, m, rfl⟩
  | n + 1, i, m, h => by
    have e1 : zk_ledF (n + 1) i lo (x - m) = if (lo >>> (nI i &&& 31)) &&& 1 = 0 then zk_ledF n (i + 1) lo (x - m) else if x - m = 0 then some i else zk_ledF n (i + 1) lo (x - m + (-1)) := rfl
    have e2 : zl_mledG lo x i m = if (zr_mhasBit lo (nI i)) = 0 then .inl m else (if m = x then .inr (nI i) else .inl (m + 1)) := rfl
    rw [e1, zfr_succ, e2]
    cases hb : bt lo i with
    | false =>
      rw [if_pos ((zt_tob _ (by omega)).mpr hb), if_pos ((zt_hb0 _ (by omega)).mpr hb)]
      rcases zy_led1 lo x n (i + 1) m (by omega) with ⟨g, h1, h2, h3⟩ | ⟨h1, q, h2⟩
      · exact Or.inl ⟨g, by omega, h2, h3⟩
      · exact Or.inr ⟨h1, q, h2⟩
    | true =>
      rw [if_neg (show ¬ ((lo >>> (nI i &&& 31)) &&& 1) = 0 from fun z => by rw [zt_tob _ (by omega), hb] at z; cases z), if_neg (show ¬ zr_mhasBit lo (nI i) = 0 from fun z => by rw [zt_hb0 _ (by omega), hb] at z; cases z)]
      by_cases hx : m = x
      · rw [if_pos (show x - m = 0 by rw [hx]; exact Int32.sub_self _), if_pos hx]
        exact Or.inl ⟨i, by omega, rfl, rfl⟩
      · rw [if_neg (show ¬ x - m = 0 from fun z => hx (by
          have h2 := congrArg (fun a => a + m) z
          simp only [Int32.sub_add_cancel, Int32.zero_add] at h2
          exact h2.symm)), if_neg hx, zy_dn]
        rcases zy_led1 lo x n (i + 1) (m + 1) (by omega) with ⟨g, h1, h2, h3⟩ | ⟨h1, q, h2⟩
        · exact Or.inl ⟨g, by omega, h2, h3⟩
        · exact Or.inr ⟨h1, q, h2⟩
theorem zy_led {Gn : Nat} (h4 : Gn ≤ 4) (lo x : Int32) : (∃ g, g < Gn ∧ zk_ledF Gn 0 lo x = some g ∧ zr_mled Gn lo x = (nI g, 0)) ∨ (zk_ledF Gn 0 lo x = none ∧ zr_mled Gn lo x = (0, 1)) := by
  have h := zy_led1 lo x Gn 0 0 (by omega)
  rw [Int32.sub_zero] at h
  unfold zr_mled
  rcases h with ⟨g, h1, h2, h3⟩ | ⟨h1, q, h2⟩
  · rw [h3]
    exact Or.inl ⟨g, by omega, h2, rfl⟩
  · rw [h2]
    exact Or.inr ⟨h1, rfl⟩
section ZYE
variable {v : Nat → Nat → Int32} {w : Nat → Nat → Int64} {t : zk_H}
theorem zy_exS {Gn : Nat} (hG : v 20 8 = nI Gn) (h4 : Gn ≤ 4) {x : Int32} {g : Nat} (h : zk_ledF Gn 0 (v 32 1) x = some g) : zk_ex 2 [.ref 0, .int x, .ref 86] (zH v w t) = some (some (.int 0), zH v (zb w 85 (vp_updL (w 85) 0 (nI g).toInt64)) t) := by
  show (match zk_ledF (v 20 8).toNatClampNeg 0 (v 32 1) x with
      | some g => some (some (Value.int 0), zk_put (zH v w t) 86 (Sum.inl (2, 1, Sum.inr (.inl (vp_updL (w 85) 0 (nI g).toInt64)))))
      | none => some (some (Value.int 1), zH v w t ++ [Sum.inr (12, [Value.null, .null, .null, .null, .null, .null])])) = _
  rw [hG, nI_clamp (show Gn < 2 ^ 31 by omega), h]
  rfl
theorem zy_exN {Gn : Nat} (hG : v 20 8 = nI Gn) (h4 : Gn ≤ 4) {x : Int32} (h : zk_ledF Gn 0 (v 32 1) x = none) : zk_ex 2 [.ref 0, .int x, .ref 86] (zH v w t) = some (some (.int 1), zH v w (t ++ [Sum.inr (12, [.null, .null, .null, .null, .null, .null])])) := by
  show (match zk_ledF (v 20 8).toNatClampNeg 0 (v 32 1) x with
      | some g => some (some (Value.int 0), zk_put (zH v w t) 86 (Sum.inl (2, 1, Sum.inr (.inl (vp_updL (w 85) 0 (nI g).toInt64)))))
      | none => some (some (Value.int 1), zH v w t ++ [Sum.inr (12, [Value.null, .null, .null, .null, .null, .null])])) = _
  rw [hG, nI_clamp (show Gn < 2 ^ 31 by omega), h]
  rfl
end ZYE
section ZTN
variable {Ls : Nat} {xs : Nat → Int32} {v : Nat → Nat → Int32} {w : Nat → Nat → Int64} {t : zk_H}
def zy_junk : zk_H := [Sum.inr (12, [Value.null, .null, .null, .null, .null, .null])]
theorem zT_led (h : zJ v w) (x : Int32) :
    (∃ (g : Nat) (v2 : Nat → Nat → Int32), zk_Cr zk_mt zk_ex Ls xs 2 [.ref 0, .int x, .ref 86] (zH v w t) (some (.int 0), zH v (zb w 85 (vp_updL (w 85) 0 (nI g).toInt64)) t) ∧ zk_Cr zk_mt zk_ex Ls xs 121 [.ref 69, .int x] (zH v (zb w 85 (vp_updL (w 85) 0 (nI g).toInt64)) t) (some (.int (nI g)), zH v2 (zb w 85 (vp_updL (w 85) 0 (nI g).toInt64)) t) ∧ g < 4 ∧ v2 68 0 = 0 ∧ zJ v2 (zb w 85 (vp_updL (w 85) 0 (nI g).toInt64))) ∨
    (∃ v2 : Nat → Nat → Int32, zk_Cr zk_mt zk_ex Ls xs 2 [.ref 0, .int x, .ref 86] (zH v w t) (some (.int 1), zH v w (t ++ zy_junk)) ∧ zk_Cr zk_mt zk_ex Ls xs 121 [.ref 69, .int x] (zH v w (t ++ zy_junk)) (some (.int 0), zH v2 w (t ++ zy_junk)) ∧ v2 68 0 = 1 ∧ zJ v2 w) := by
  obtain ⟨hc2, h1, h2⟩ := h
  have hc := hc2
  obtain ⟨hst0, _, _, _, _, _, D, Mn, Gn, Un, ht, hs, _, hz⟩ := hc
  have hG := ht.1.2.2.1
  rcases hz with hz | hz
  · have hG0 : Gn = 0 := hz.2.2.2.1
    refine Or.inr ⟨zb v 68 (upd (v 68) 0 1), ⟨_, rfl, Or.inl ⟨rfl, zy_exN (Gn := Gn) ht.2.1.2.2.2.2.1 hG (by rw [hG0]; rfl)⟩⟩, zM_led_t (hst0.symm.trans hz.1) x, rfl, ⟨hc2, h1, h2⟩⟩
  · rcases zy_led hG (v 75 14) x with ⟨g, g1, g2, g3⟩ | ⟨g2, g3⟩
    · rw [← hs.2.1] at g2
      have hM := zM_led_f (v := v) (w := zb w 85 (vp_updL (w 85) 0 (nI g).toInt64)) (t := t) (Ls := Ls) (xs := xs) (hst0.symm.trans hz.1) Gn ht.2.1.2.2.2.2.2.1 hG x
      rw [g3] at hM
      exact Or.inl ⟨g, zb v 68 (upd (v 68) 0 0), ⟨_, rfl, Or.inl ⟨rfl, zy_exS (Gn := Gn) ht.2.1.2.2.2.2.1 hG g2⟩⟩, hM, by omega, rfl, ⟨hc2, h1, h2⟩⟩
    · rw [← hs.2.1] at g2
      have hM := zM_led_f (v := v) (w := w) (t := t ++ zy_junk) (Ls := Ls) (xs := xs) (hst0.symm.trans hz.1) Gn ht.2.1.2.2.2.2.2.1 hG x
      rw [g3] at hM
      exact Or.inr ⟨zb v 68 (upd (v 68) 0 1), ⟨_, rfl, Or.inl ⟨rfl, zy_exN (Gn := Gn) ht.2.1.2.2.2.2.1 hG g2⟩⟩, hM, rfl, ⟨hc2, h1, h2⟩⟩
end ZTN
