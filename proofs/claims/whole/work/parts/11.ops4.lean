section ZKS
variable {p : Program} {l : Launch} {e : Env} {R : Room} {s : State} {m : MethodId} {args : Array Value} {below : List Frame} {meth : Method} {c : Code} {Q : State → Prop}
variable {EX : State → Prop} {D : va_G} {E : Nat → ClassId} {B : Nat} {X : Nat → Nat} {Ls : Nat} {xs : Nat → Int32} {M : zk_M} {n0 s0 : Nat}

theorem lv_ldcSW {cc : ByteArray} {pc : Nat} {ls : Array Slot} {rest : List Value} {H : Heap} {locs : List Loc} {cells slots : Nat} (hexec : p.tables.exec = Jvm.exec) (hb : c.code = cc) {own tx : String} {index q : Nat} (hown : s.vm.findClass own = some m.cls) (hZ : vk_R own index tx q s) (hdg : decode cc pc = .ok (.ldc_w index, 3))
    (k : W p l e R s m args below meth c H locs cells slots Q (F0 m (pc + 3) ls (.ref q :: rest))) : W p l e R s m args below meth c H locs cells slots Q (F0 m pc ls rest) := by
  intro T hT X
  obtain ⟨t, a1, b1⟩ := k T hT X
  exact ⟨t, X.ldcStringW hexec hown (text := tx) (a := q) hZ.1 hZ.2 (g := F0 m pc ls rest) rfl (by rw [hb]; exact hdg) t a1, b1⟩
theorem zk_dflt (B : Nat) (X : Nat → Nat) (ty : FieldType) : zk_v B X (defaultValue ty) = defaultValue ty := by cases ty <;> rfl
theorem zk_Vmap (B : Nat) (X : Nat → Nat) (fs : List Value) (j : Nat) : vp_V (fs.map (zk_v B X)) j = zk_v B X (vp_V fs j) := by
  unfold vp_V
  rw [List.getD_eq_getElem?_getD, List.getD_eq_getElem?_getD, List.getElem?_map]
  cases fs[j]? <;> rfl
theorem zk_arI : zk_isw 290 (.arrayClass .int) = true := by decide +kernel
theorem zk_arB : zk_isw 177 (.arrayClass .byte) = true := by decide +kernel
theorem zk_arL : zk_isw 387 (.arrayClass .long) = true := by decide +kernel
/-- what holds of the strings that the tables name -/
def zk_Str (EX : State → Prop) (X : Nat → Nat) : Prop := ∀ U, EX U → ∀ i q, zk_at zk_rs i = some q → vk_R (zk_cn q.1) q.2.1 q.2.2 (X (i + 1)) U
theorem zk_strOf {r2 idx : Nat} {U : State} (hstr : zk_Str EX X) (hE : EX U) (hk : (match zk_at zk_rs (r2 - 1) with
      | some q => Nat.blt 0 r2 && (Nat.beq q.1 (zk_own M) && Nat.beq q.2.1 idx)
      | none => false) = true) : ∃ tx, vk_R (zk_cn (zk_own M)) idx tx (X r2) U := by
  split at hk
  · rename_i q hq
    simp only [Bool.and_eq_true, zk_blt, zk_beq] at hk
    obtain ⟨h1, h2, h3⟩ := hk
    have h4 := hstr U hE _ _ hq
    rw [h2, h3, show r2 - 1 + 1 = r2 by omega] at h4
    exact ⟨_, h4⟩
  · cases hk
/-- a new row of numbers -/
theorem zk_newarr {atype : ArrayType} {ty : FieldType} {t pc : Nat} {n : Int32} {L : zk_L} {rest : List Value} {a0 : (Nat → Int32) ⊕ (Nat → Int64) ⊕ (Nat → UInt32) ⊕ (Nat → UInt64) ⊕ (Nat → Option Nat)} {h : zk_H} (hty : newarray.typeOf atype = ty) (hw : Cond.arrayClass (newarray.typeOf atype) ∈ zk_TB) (ht : (zk_tys E)[t]? = some (E t, ty)) (hcb : componentBytes ty ≤ 8) (hra : ∀ (U : State) (cA : ClassId), va_RA U cA ty → U.vm.findClass ("[" ++ ty.toString) = some cA)
    (ha0 : ∀ cA : ClassId, vp_cell cA (n.toNatClampNeg, a0) = arrV cA n.toNatClampNeg (fun _ => defaultValue ty)) (F : zk_Fx EX D E B X Ls xs M p R s m args meth c) (hd : decode (zk_byt M) pc = .ok (.newarray atype, 2)) (hn0 : n0 ≤ h.length) (hs0 : s0 ≤ zk_sl h) (hsz : s.heap.size = B + n0) (hn : ¬ n < 0) (hle : n.toNatClampNeg ≤ 1000)
    (hroom : (h ++ [Sum.inl (t, n.toNatClampNeg, a0)] : zk_H).length - n0 ≤ R.cells ∧ zk_sl (h ++ [.inl (t, n.toNatClampNeg, a0)]) - s0 ≤ R.slots) (hK : zk_K D E B X M p l e R s m args below meth c n0 s0 Q (pc + 2, zk_nm M (pc + 2) L, .ref h.length :: rest) (h ++ [.inl (t, n.toNatClampNeg, a0)])) : zk_K D E B X M p l e R s m args below meth c n0 s0 Q (pc, L, .int n :: rest) h := by
  obtain ⟨hx, hb, hr, hml, hown, hts, hlocks, hinit, -, -, -, hKk, hB, -⟩ := F
  intro H locs ls hl hP hS
  have e1 : (h ++ [Sum.inl (t, n.toNatClampNeg, a0)] : zk_H).length = h.length + 1 := by simp
  have e2 : zk_sl (h ++ [.inl (t, n.toNatClampNeg, a0)]) = zk_sl h + n.toNatClampNeg := by rw [zk_sl_app]; rfl
  rw [e1, e2] at hroom
  refine va_newa (atype := atype) (ty := ty) (N' := n.toNatClampNeg) (a0 := (n.toNatClampNeg, a0)) hx hb (hts _ hw) hty hKk hP (zk_w_D h) hS (fun q hq => Nat.le_trans hB hq) ha0 hn rfl (Nat.le_trans (Nat.mul_le_mul hle hcb) (by decide)) (by omega) (by omega) hd (fun q cA H1 g1 g2 g3 g4 => ?_)
  have hc : cA = E t := by
    have k1 := (g1.2 (zk_tys E).length (cA, ty) (by rw [List.getElem?_append_right (Nat.le_refl _), Nat.sub_self]; rfl)).2
    have k2 := (hKk.2 t (E t, ty) ht).2
    exact Option.some.inj ((hra _ _ k1).symm.trans (hra _ _ k2))
  subst hc
  exact zk_cellnew (q := .inl (t, n.toNatClampNeg, a0)) hn0 hs0 hsz rfl hl hK g2 g3 g4
set_option maxHeartbeats 1000000 in
theorem zk_g4 {i : Instr} {len r1 r2 r3 pc : Nat} {cc : Int32} {L : zk_L} {st : List Value} {h : zk_H} (hstr : zk_Str EX X) (F : zk_Fx EX D E B X Ls xs M p R s m args meth c) (hd : decode (zk_byt M) pc = .ok (i, len)) (hk : zk_okL zk_mt M pc i len r1 r2 r3 cc = true) (hg : zk_grp i = 4) (hn0 : n0 ≤ h.length) (hs0 : s0 ≤ zk_sl h) (hsz : s.heap.size = B + n0)
    (hA : zk_Af EX D E B X Ls xs M p l e R s m args below meth c n0 s0 Q h (zk_x4 zk_zd Ls xs M i r1 r2 r3 cc pc L st h)) : zk_K D E B X M p l e R s m args below meth c n0 s0 Q (pc, L, st) h := by
  have F0' := F
  obtain ⟨hx, hb, hr, hml, hown, hts, hlocks, hinit, -, -, -, hKk, hB, hXs, hXB, hE⟩ := F
  have hbA : ¬ (fun q => B ≤ q) (X 0) := Nat.not_le.mpr hXB
  have hbl : X 0 < s.heap.size := Nat.lt_of_lt_of_le hXB hB
  cases i
  case getfield idx =>
    simp only [zk_okL, Bool.and_eq_true, zk_beq] at hk
    obtain ⟨rfl, hm⟩ := hk
    obtain ⟨r, hr, hkN, hlink, ⟨c1, c2, c3, c4, -, -, -, c8, -⟩, hty⟩ := zk_fld hm
    obtain ⟨C, T, N⟩ := r
    simp only [zk_x4] at hA
    split at hA
    · rename_i a rest
      split at hA
      · rename_i ci fs ha
        cases hc : Nat.beq ci r1 with
        | false => rw [hc] at hA; exact False.elim hA
        | true =>
          rw [hc] at hA
          have hc := Nat.eq_of_beq_eq_true hc
          subst hc
          simp only [cond_true] at hA
          split at hA
          · rename_i v hv
            intro H locs ls hl hP hS
            exact va_get (D := D) (ci := ci) (v := zk_v B X v) hx hb hts c1 hown hKk hP a (zk_w_get ha) hr r2 hkN (hts _ hlink) (fun x hx => by have e : (T r2).1 = C := c4 r2 hkN; rw [← e]; exact hx) (by rw [List.getElem?_map, ← zk_at_eq, hv]; rfl) hd (hA.2 H locs ls (zk_nmL hl) hP hS)
          · exact False.elim hA
      · exact False.elim hA
    · exact False.elim hA
  case putfield idx =>
    simp only [zk_okL, Bool.and_eq_true, zk_beq] at hk
    obtain ⟨rfl, hm, hfin⟩ := hk
    have hfin : (!zk_final r1 r2 || (Nat.beq (zk_kd M) 2 && Nat.beq (zk_own M) r1)) = true := hfin
    simp only [zk_x4] at hA
    split at hA
    · rename_i v a rest
      split at hA
      · rename_i ci fs ha
        cases hc : (Nat.beq ci r1 && Nat.blt r2 fs.length) with
        | false => rw [hc] at hA; exact False.elim hA
        | true =>
          rw [hc] at hA
          simp only [Bool.and_eq_true, zk_blt] at hc
          obtain ⟨hc, hlt⟩ := hc
          have hc := Nat.eq_of_beq_eq_true hc
          subst hc
          simp only [cond_true] at hA
          split at hA
          · exact zk_putf F0' hd hm hfin ha hlt (fun ty ht => by unfold zk_tok at ht; split at ht <;> simp_all [zk_v, narrow, fits]) hA.2
          · have hc := of_decide_eq_true hA.1
            exact zk_putf F0' hd hm hfin ha hlt (fun ty ht => by unfold zk_tok at ht; split at ht <;> rcases hc with rfl | rfl <;> simp_all [zk_v, narrow, fits]) hA.2.2
          · exact zk_putf F0' hd hm hfin ha hlt (fun ty ht => by unfold zk_tok at ht; split at ht <;> simp_all [zk_v, narrow, fits]) hA.2
          · exact zk_putf F0' hd hm hfin ha hlt (fun ty ht => by unfold zk_tok at ht; split at ht <;> simp_all [zk_v, narrow, fits]) hA.2
          · exact False.elim hA
      · exact False.elim hA
    · exact False.elim hA
  case iaload =>
    simp only [zk_okL, zk_beq] at hk
    subst hk
    simp only [zk_x4] at hA
    split at hA
    · rename_i j a rest
      split at hA
      · rename_i n f ha
        intro H locs ls hl hP hS
        exact va_iald hx hb hKk hP a 0 (zk_w_get ha) rfl (zk_in_sp hA.1) hd (hA.2.2 H locs ls (zk_nmL hl) hP hS)
      · exact False.elim hA
    · intro H locs ls hl hP hS
      exact va_sld hx hb hXs hbl hbA hS (zk_in_sp hA.1) hd (hA.2.2 H locs ls (zk_nmL hl) hP hS)
    · exact False.elim hA
  case baload =>
    simp only [zk_okL, zk_beq] at hk
    subst hk
    simp only [zk_x4] at hA
    split at hA
    · rename_i j a rest
      split at hA
      · rename_i n f ha
        intro H locs ls hl hP hS
        exact va_bald hx hb hKk hP a 1 (zk_w_get ha) rfl (zk_in_sp hA.1) hd (hA.2.2 H locs ls (zk_nmL hl) hP hS)
      · exact False.elim hA
    · exact False.elim hA
  case laload =>
    simp only [zk_okL, zk_beq] at hk
    subst hk
    simp only [zk_x4] at hA
    split at hA
    · rename_i j a rest
      split at hA
      · rename_i n f ha
        intro H locs ls hl hP hS
        exact va_lald hx hb hKk hP a 2 (zk_w_get ha) rfl (zk_in_sp hA.1) hd (hA.2.2 H locs ls (zk_nmL hl) hP hS)
      · exact False.elim hA
    · exact False.elim hA
  case iastore =>
    simp only [zk_okL, zk_beq] at hk
    subst hk
    simp only [zk_x4] at hA
    split at hA
    · rename_i x j a rest
      split at hA
      · rename_i n f ha
        intro H locs ls hl hP hS
        exact va_iast hx hb hKk hP (zk_w_D h) hS a 0 (zk_w_get ha) rfl (zk_in_sp hA.1) hd (fun H1 locs1 g1 _ g2 => zk_arr (x := (n, .inl f)) (y := (n, .inl (upd f j.toNatClampNeg x))) ha rfl hl hA.2.2 H1 locs1 g1 g2)
      · exact False.elim hA
    · exact False.elim hA
  case bastore =>
    simp only [zk_okL, zk_beq] at hk
    subst hk
    simp only [zk_x4] at hA
    split at hA
    · rename_i x j a rest
      split at hA
      · rename_i n f ha
        intro H locs ls hl hP hS
        exact va_bast hx hb hKk hP (zk_w_D h) hS a 1 (zk_w_get ha) rfl (zk_in_sp hA.1) hd (fun H1 locs1 g1 _ g2 => zk_arr (x := (n, .inl f)) (y := (n, .inl (upd f j.toNatClampNeg x.toInt8.toInt32))) ha rfl hl hA.2.2 H1 locs1 (by rw [vp_nar_byte] at g1; exact g1) g2)
      · exact False.elim hA
    · exact False.elim hA
  case lastore =>
    simp only [zk_okL, zk_beq] at hk
    subst hk
    simp only [zk_x4] at hA
    split at hA
    · rename_i x j a rest
      split at hA
      · rename_i n f ha
        intro H locs ls hl hP hS
        exact va_last hx hb hKk hP (zk_w_D h) hS a 2 (zk_w_get ha) rfl (zk_in_sp hA.1) hd (fun H1 locs1 g1 _ g2 => zk_arr (x := (n, .inr (.inl f))) (y := (n, .inr (.inl (vp_updL f j.toNatClampNeg x)))) ha rfl hl hA.2.2 H1 locs1 g1 g2)
      · exact False.elim hA
    · exact False.elim hA
  case arraylength =>
    simp only [zk_okL, zk_beq] at hk
    subst hk
    simp only [zk_x4] at hA
    split at hA
    · rename_i a rest
      split at hA
      · rename_i n x ha
        intro H locs ls hl hP hS
        exact va_alen hx hb hKk hP a 0 (zk_w_get ha) rfl rfl hd (hA.2 H locs ls (zk_nmL hl) hP hS)
      · rename_i n x ha
        intro H locs ls hl hP hS
        exact va_alen hx hb hKk hP a 1 (zk_w_get ha) rfl rfl hd (hA.2 H locs ls (zk_nmL hl) hP hS)
      · rename_i n x ha
        intro H locs ls hl hP hS
        exact va_alen hx hb hKk hP a 2 (zk_w_get ha) rfl rfl hd (hA.2 H locs ls (zk_nmL hl) hP hS)
      · exact False.elim hA
    · intro H locs ls hl hP hS
      exact va_slen hx hb hXs hbl hbA hS hd (hA.2 H locs ls (zk_nmL hl) hP hS)
    · exact False.elim hA
  case newarray t =>
    simp only [zk_okL, zk_beq] at hk
    subst hk
    simp only [zk_x4] at hA
    split at hA
    · rename_i n rest
      cases hc : (decide (¬ n < 0) && Nat.ble n.toNatClampNeg 1000) with
      | false => rw [hc] at hA; exact False.elim hA
      | true =>
        rw [hc] at hA
        simp only [Bool.and_eq_true, decide_eq_true_eq] at hc
        obtain ⟨h1, h2⟩ := hc
        have h2 := Nat.le_of_ble_eq_true h2
        simp only [cond_true] at hA
        split at hA
        · exact zk_newarr (atype := .int) (ty := .int) (t := 0) rfl (zk_isw_mem zk_arI) rfl (by decide) (fun _ _ h => h) (fun _ => rfl) F0' hd hn0 hs0 hsz h1 h2 hA.1 hA.2
        · exact zk_newarr (atype := .byte) (ty := .byte) (t := 1) rfl (zk_isw_mem zk_arB) rfl (by decide) (fun _ _ h => h) (fun _ => rfl) F0' hd hn0 hs0 hsz h1 h2 hA.1 hA.2
        · exact zk_newarr (atype := .long) (ty := .long) (t := 2) rfl (zk_isw_mem zk_arL) rfl (by decide) (fun _ _ h => h) (fun _ => rfl) F0' hd hn0 hs0 hsz h1 h2 hA.1 hA.2
        · exact False.elim hA
    · exact False.elim hA
  case new idx =>
    simp only [zk_okL, Bool.and_eq_true, zk_beq, zk_blt] at hk
    obtain ⟨rfl, hm, h12⟩ := hk
    obtain ⟨pw, hpw⟩ := zk_memC_sp hm
    have hw := zk_rc_ok _ hpw
    unfold zk_okN at hw
    dsimp only at hw
    split at hw
    · rename_i r hr
      obtain ⟨c1, c2, c3, c4, c5, c6, c7, c8, c9⟩ := zk_cf hr h12
      obtain ⟨C, T, N⟩ := r
      simp only [zk_x4] at hA
      split at hA
      · rename_i fs hfs
        have hfs' : zk_zd.getD r1 [] = fs := by
          unfold zk_new at hfs
          rw [zk_at_eq] at hfs
          rw [List.getD_eq_getElem?_getD, hfs]; rfl
        rw [hfs'] at c5 c9
        obtain ⟨hroom, hK⟩ := hA
        have e1 : (h ++ [Sum.inr (r1, fs)] : zk_H).length = h.length + 1 := by simp
        have e2 : zk_sl (h ++ [.inr (r1, fs)]) = zk_sl h + N := by rw [zk_sl_app, show zk_sc (.inr (r1, fs)) = N from c9]
        have hroom' := hroom
        rw [e1, e2] at hroom'
        intro H locs ls hl hP hS
        have c5' : ∀ j, j < N → defaultValue (zk_tyo r1 j) = vp_V (fs.map (zk_v B X)) j := fun j hj => by rw [zk_Vmap, ← c5 j hj, zk_dflt]
        refine va_new (D := D) (ci := r1) (fs := fs.map (zk_v B X)) hx hb hts c1 (zk_tyo r1) c2 hown (hts _ (zk_isw_mem hw)) (hts _ c6) (hts _ c7) hKk hP (zk_w_D h) hS (fun q hq => Nat.le_trans hB hq) hr c5' (by omega) (by show zk_sl h - s0 + N ≤ R.slots; omega) hd (fun q H1 g1 g2 g3 => ?_)
        have g := zk_cellnew (q := .inr (r1, fs)) hn0 hs0 hsz rfl hl hK g1 g2 g3
        rw [show zk_sc (.inr (r1, fs)) = N from c9] at g
        exact g
      · exact False.elim hA
    · cases hw
  case ldc idx =>
    simp only [zk_okL, Bool.and_eq_true, zk_beq] at hk
    obtain ⟨rfl, hm⟩ := hk
    simp only [zk_x4] at hA
    split at hA
    · obtain ⟨pw, hpw⟩ := zk_memK_sp hm
      intro H locs ls hl hP hS
      exact lv_ldc hx hb hown (hts _ (zk_isw_mem (zk_rk_ok _ hpw))) hd (hA.2 H locs ls (zk_nmL hl) hP hS)
    · obtain ⟨tx, hZ⟩ := zk_strOf hstr hE hm
      intro H locs ls hl hP hS
      exact va_ldcS hx hb hown hZ hd (hA.2 H locs ls (zk_nmL hl) hP hS)
    · exact False.elim hA
  case ldc_w idx =>
    simp only [zk_okL, Bool.and_eq_true, zk_beq] at hk
    obtain ⟨rfl, hm⟩ := hk
    simp only [zk_x4] at hA
    split at hA
    · obtain ⟨pw, hpw⟩ := zk_memK_sp hm
      intro H locs ls hl hP hS
      exact lv_ldcw hx hb hown (hts _ (zk_isw_mem (zk_rk_ok _ hpw))) hd (hA.2 H locs ls (zk_nmL hl) hP hS)
    · obtain ⟨tx, hZ⟩ := zk_strOf hstr hE hm
      intro H locs ls hl hP hS
      exact lv_ldcSW hx hb hown hZ hd (hA.2 H locs ls (zk_nmL hl) hP hS)
    · exact False.elim hA
  case ldc2_w idx =>
    simp only [zk_okL, Bool.and_eq_true, zk_beq] at hk
    obtain ⟨rfl, hm⟩ := hk
    obtain ⟨pw, hpw⟩ := zk_memK_sp hm
    intro H locs ls hl hP hS
    exact lv_ldc2 hx hb hown (hts _ (zk_isw_mem (zk_rl_ok _ hpw))) hd (hA.2 H locs ls (zk_nmL hl) hP hS)
  all_goals first | exact absurd (show (0 : Nat) = 4 from hg) (by decide) | exact absurd (show (1 : Nat) = 4 from hg) (by decide) | exact absurd (show (2 : Nat) = 4 from hg) (by decide) | exact absurd (show (3 : Nat) = 4 from hg) (by decide) | exact absurd (show (5 : Nat) = 4 from hg) (by decide)
end ZKS
