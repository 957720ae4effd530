section ZKP
variable {p : Program} {l : Launch} {e : Env} {R : Room} {s : State} {m : MethodId} {args : Array Value} {below : List Frame} {meth : Method} {c : Code} {Q : State → Prop}
variable {EX : State → Prop} {D : va_G} {E : Nat → ClassId} {B : Nat} {X : Nat → Nat} {Ls : Nat} {xs : Nat → Int32} {M : zk_M} {n0 s0 : Nat}

theorem zk_g2 {i : Instr} {len r1 r2 r3 pc : Nat} {cc : Int32} {L : zk_L} {st : List Value} {h : zk_H} (F : zk_Fx EX D E B X Ls xs M p R s m args meth c) (hd : decode (zk_byt M) pc = .ok (i, len)) (hk : zk_okL zk_mt M pc i len r1 r2 r3 cc = true) (hg : zk_grp i = 2)
    (hA : zk_Af EX D E B X Ls xs M p l e R s m args below meth c n0 s0 Q h (zk_x2 M i pc L st h)) : zk_K D E B X M p l e R s m args below meth c n0 s0 Q (pc, L, st) h := by
  obtain ⟨hx, hb, -⟩ := F
  cases i
  case iadd =>
    simp only [zk_okL, zk_beq] at hk
    subst hk
    simp only [zk_x2] at hA
    split at hA
    all_goals first | exact False.elim hA | (intro H locs ls hl hP hS; exact lv_iadd hx hb hd (hA.2 H locs ls (zk_nmL hl) hP hS))
  case isub =>
    simp only [zk_okL, zk_beq] at hk
    subst hk
    simp only [zk_x2] at hA
    split at hA
    all_goals first | exact False.elim hA | (intro H locs ls hl hP hS; exact lv_isub hx hb hd (hA.2 H locs ls (zk_nmL hl) hP hS))
  case imul =>
    simp only [zk_okL, zk_beq] at hk
    subst hk
    simp only [zk_x2] at hA
    split at hA
    all_goals first | exact False.elim hA | (intro H locs ls hl hP hS; exact lv_imul hx hb hd (hA.2 H locs ls (zk_nmL hl) hP hS))
  case iand =>
    simp only [zk_okL, zk_beq] at hk
    subst hk
    simp only [zk_x2] at hA
    split at hA
    all_goals first | exact False.elim hA | (intro H locs ls hl hP hS; exact lv_iand hx hb hd (hA.2 H locs ls (zk_nmL hl) hP hS))
  case ior =>
    simp only [zk_okL, zk_beq] at hk
    subst hk
    simp only [zk_x2] at hA
    split at hA
    all_goals first | exact False.elim hA | (intro H locs ls hl hP hS; exact lv_ior hx hb hd (hA.2 H locs ls (zk_nmL hl) hP hS))
  case ixor =>
    simp only [zk_okL, zk_beq] at hk
    subst hk
    simp only [zk_x2] at hA
    split at hA
    all_goals first | exact False.elim hA | (intro H locs ls hl hP hS; exact lv_ixor hx hb hd (hA.2 H locs ls (zk_nmL hl) hP hS))
  case ishl =>
    simp only [zk_okL, zk_beq] at hk
    subst hk
    simp only [zk_x2] at hA
    split at hA
    all_goals first | exact False.elim hA | (intro H locs ls hl hP hS; exact lv_ishl hx hb hd (hA.2 H locs ls (zk_nmL hl) hP hS))
  case ishr =>
    simp only [zk_okL, zk_beq] at hk
    subst hk
    simp only [zk_x2] at hA
    split at hA
    all_goals first | exact False.elim hA | (intro H locs ls hl hP hS; exact lv_ishr hx hb hd (hA.2 H locs ls (zk_nmL hl) hP hS))
  case ladd =>
    simp only [zk_okL, zk_beq] at hk
    subst hk
    simp only [zk_x2] at hA
    split at hA
    all_goals first | exact False.elim hA | (intro H locs ls hl hP hS; exact lv_ladd hx hb hd (hA.2 H locs ls (zk_nmL hl) hP hS))
  case lsub =>
    simp only [zk_okL, zk_beq] at hk
    subst hk
    simp only [zk_x2] at hA
    split at hA
    all_goals first | exact False.elim hA | (intro H locs ls hl hP hS; exact lv_lsub hx hb hd (hA.2 H locs ls (zk_nmL hl) hP hS))
  case lmul =>
    simp only [zk_okL, zk_beq] at hk
    subst hk
    simp only [zk_x2] at hA
    split at hA
    all_goals first | exact False.elim hA | (intro H locs ls hl hP hS; exact lv_lmul hx hb hd (hA.2 H locs ls (zk_nmL hl) hP hS))
  case lor =>
    simp only [zk_okL, zk_beq] at hk
    subst hk
    simp only [zk_x2] at hA
    split at hA
    all_goals first | exact False.elim hA | (intro H locs ls hl hP hS; exact lv_lor hx hb hd (hA.2 H locs ls (zk_nmL hl) hP hS))
  case ineg =>
    simp only [zk_okL, zk_beq] at hk
    subst hk
    simp only [zk_x2] at hA
    split at hA
    all_goals first | exact False.elim hA | (intro H locs ls hl hP hS; exact lv_ineg hx hb hd (hA.2 H locs ls (zk_nmL hl) hP hS))
  case idiv =>
    simp only [zk_okL, zk_beq] at hk
    subst hk
    simp only [zk_x2] at hA
    split at hA
    all_goals first | exact False.elim hA | (intro H locs ls hl hP hS; exact lv_idiv hx hb hd (of_decide_eq_true hA.1) (hA.2.2 H locs ls (zk_nmL hl) hP hS))
  case irem =>
    simp only [zk_okL, zk_beq] at hk
    subst hk
    simp only [zk_x2] at hA
    split at hA
    all_goals first | exact False.elim hA | (intro H locs ls hl hP hS; exact lv_irem hx hb hd (of_decide_eq_true hA.1) (hA.2.2 H locs ls (zk_nmL hl) hP hS))
  case ldiv =>
    simp only [zk_okL, zk_beq] at hk
    subst hk
    simp only [zk_x2] at hA
    split at hA
    all_goals first | exact False.elim hA | (intro H locs ls hl hP hS; exact lv_ldiv hx hb hd (of_decide_eq_true hA.1) (hA.2.2 H locs ls (zk_nmL hl) hP hS))
  case lrem =>
    simp only [zk_okL, zk_beq] at hk
    subst hk
    simp only [zk_x2] at hA
    split at hA
    all_goals first | exact False.elim hA | (intro H locs ls hl hP hS; exact lv_lrem hx hb hd (of_decide_eq_true hA.1) (hA.2.2 H locs ls (zk_nmL hl) hP hS))
  case iushr =>
    simp only [zk_okL, zk_beq] at hk
    subst hk
    simp only [zk_x2] at hA
    split at hA
    all_goals first | exact False.elim hA | (intro H locs ls hl hP hS; exact lv_iushr hx hb hd rfl (hA.2 H locs ls (zk_nmL hl) hP hS))
  case i2l =>
    simp only [zk_okL, zk_beq] at hk
    subst hk
    simp only [zk_x2] at hA
    split at hA
    all_goals first | exact False.elim hA | (intro H locs ls hl hP hS; exact lv_i2l hx hb hd rfl (hA.2 H locs ls (zk_nmL hl) hP hS))
  case i2b =>
    simp only [zk_okL, zk_beq] at hk
    subst hk
    simp only [zk_x2] at hA
    split at hA
    all_goals first | exact False.elim hA | (intro H locs ls hl hP hS; exact lv_i2b hx hb hd rfl (hA.2 H locs ls (zk_nmL hl) hP hS))
  case lshl =>
    simp only [zk_okL, zk_beq] at hk
    subst hk
    simp only [zk_x2] at hA
    split at hA
    all_goals first | exact False.elim hA | (intro H locs ls hl hP hS; exact lv_lshl hx hb hd rfl (hA.2 H locs ls (zk_nmL hl) hP hS))
  case l2i =>
    simp only [zk_okL, zk_beq] at hk
    subst hk
    simp only [zk_x2] at hA
    split at hA
    all_goals first | exact False.elim hA | (intro H locs ls hl hP hS; exact lv_l2i hx hb hd rfl (hA.2 H locs ls (zk_nmL hl) hP hS))
  case lcmp =>
    simp only [zk_okL, zk_beq] at hk
    subst hk
    simp only [zk_x2] at hA
    split at hA
    all_goals first | exact False.elim hA | (intro H locs ls hl hP hS; exact W.lcmp hx hb hd (hA.2 H locs ls (zk_nmL hl) hP hS))
  all_goals first | exact absurd (show (0 : Nat) = 2 from hg) (by decide) | exact absurd (show (1 : Nat) = 2 from hg) (by decide) | exact absurd (show (3 : Nat) = 2 from hg) (by decide) | exact absurd (show (4 : Nat) = 2 from hg) (by decide) | exact absurd (show (5 : Nat) = 2 from hg) (by decide)
theorem zk_toNat {z : Int} (h : 0 ≤ z) : z = ((z.toNat : Nat) : Int) := (Int.toNat_of_nonneg h).symm
theorem zk_lsw_ok : ∀ (ps : List (Int × Int)) (pc : Nat) (d x : Int), 0 ≤ (pc : Int) + d → ps.all (fun q => decide (0 ≤ (pc : Int) + q.2)) = true → 0 ≤ (pc : Int) + Op.lookupswitch.offset ps d x
  | [], pc, d, x, h, _ => by simpa [Op.lookupswitch.offset] using h
  | (a, o) :: ps, pc, d, x, h, h2 => by
    simp only [List.all_cons, Bool.and_eq_true, decide_eq_true_eq] at h2
    rw [Op.lookupswitch.offset_cons]
    split
    · exact h2.1
    · exact zk_lsw_ok ps pc d x h h2.2
theorem zk_g3 {i : Instr} {len r1 r2 r3 pc : Nat} {cc : Int32} {L : zk_L} {st : List Value} {h : zk_H} (F : zk_Fx EX D E B X Ls xs M p R s m args meth c) (hd : decode (zk_byt M) pc = .ok (i, len)) (hk : zk_okL zk_mt M pc i len r1 r2 r3 cc = true) (hg : zk_grp i = 3)
    (hA : zk_Af EX D E B X Ls xs M p l e R s m args below meth c n0 s0 Q h (zk_x3 M i r1 pc L st h)) : zk_K D E B X M p l e R s m args below meth c n0 s0 Q (pc, L, st) h := by
  obtain ⟨hx, hb, hr, -, -, -, hlocks, -⟩ := F
  cases i
  case ifCond cd off =>
    simp only [zk_okL, Bool.and_eq_true, zk_beq, decide_eq_true_eq] at hk
    obtain ⟨rfl, hv⟩ := hk
    simp only [zk_x3] at hA
    split at hA
    · intro H locs ls hl hP hS
      cases cd
      · exact lv_if_eq hx hb hd hv (fun hc => hA.1 (decide_eq_true hc) H locs ls (zk_nmL hl) hP hS) (fun hc => hA.2 (decide_eq_false hc) H locs ls (zk_nmL hl) hP hS)
      · exact lv_if_ne hx hb hd hv (fun hc => hA.2 (decide_eq_false hc) H locs ls (zk_nmL hl) hP hS) (fun hc => hA.1 (decide_eq_true hc) H locs ls (zk_nmL hl) hP hS)
      · exact lv_if_lt hx hb hd hv (fun hc => hA.1 (decide_eq_true hc) H locs ls (zk_nmL hl) hP hS) (fun hc => hA.2 (decide_eq_false hc) H locs ls (zk_nmL hl) hP hS)
      · exact lv_if_ge hx hb hd hv (fun hc => hA.1 (decide_eq_true hc) H locs ls (zk_nmL hl) hP hS) (fun hc => hA.2 (decide_eq_false hc) H locs ls (zk_nmL hl) hP hS)
      · exact lv_if_gt hx hb hd hv (fun hc => hA.1 (decide_eq_true hc) H locs ls (zk_nmL hl) hP hS) (fun hc => hA.2 (decide_eq_false hc) H locs ls (zk_nmL hl) hP hS)
      · exact lv_if_le hx hb hd hv (fun hc => hA.1 (decide_eq_true hc) H locs ls (zk_nmL hl) hP hS) (fun hc => hA.2 (decide_eq_false hc) H locs ls (zk_nmL hl) hP hS)
    · exact False.elim hA
  case if_icmp cd off =>
    simp only [zk_okL, Bool.and_eq_true, zk_beq, decide_eq_true_eq] at hk
    obtain ⟨rfl, hv⟩ := hk
    simp only [zk_x3] at hA
    split at hA
    · intro H locs ls hl hP hS
      cases cd
      · exact lv_icmp_eq hx hb hd hv (fun hc => hA.1 (decide_eq_true hc) H locs ls (zk_nmL hl) hP hS) (fun hc => hA.2 (decide_eq_false hc) H locs ls (zk_nmL hl) hP hS)
      · exact lv_icmp_ne hx hb hd hv (fun hc => hA.2 (decide_eq_false hc) H locs ls (zk_nmL hl) hP hS) (fun hc => hA.1 (decide_eq_true hc) H locs ls (zk_nmL hl) hP hS)
      · exact lv_icmp_lt hx hb hd hv (fun hc => hA.1 (decide_eq_true hc) H locs ls (zk_nmL hl) hP hS) (fun hc => hA.2 (decide_eq_false hc) H locs ls (zk_nmL hl) hP hS)
      · exact lv_icmp_ge hx hb hd hv (fun hc => hA.1 (decide_eq_true hc) H locs ls (zk_nmL hl) hP hS) (fun hc => hA.2 (decide_eq_false hc) H locs ls (zk_nmL hl) hP hS)
      · exact lv_icmp_gt hx hb hd hv (fun hc => hA.1 (decide_eq_true hc) H locs ls (zk_nmL hl) hP hS) (fun hc => hA.2 (decide_eq_false hc) H locs ls (zk_nmL hl) hP hS)
      · exact lv_icmp_le hx hb hd hv (fun hc => hA.1 (decide_eq_true hc) H locs ls (zk_nmL hl) hP hS) (fun hc => hA.2 (decide_eq_false hc) H locs ls (zk_nmL hl) hP hS)
    · exact False.elim hA
  case tableswitch d lo hi offs =>
    simp only [zk_okL, Bool.and_eq_true, decide_eq_true_eq, List.all_eq_true] at hk
    obtain ⟨hd0, hall⟩ := hk
    simp only [zk_x3, zk_tsw] at hA
    split at hA
    · rename_i x rest
      by_cases hc : x.toInt < lo ∨ hi < x.toInt
      · rw [if_pos hc] at hA
        intro H locs ls hl hP hS
        exact lv_tableOut hx hb hd hc (zk_toNat hd0) (hA.2 H locs ls (zk_nmL hl) hP hS)
      · rw [if_neg hc] at hA
        cases ho : offs[(x.toInt - lo).toNat]? with
        | none => rw [ho] at hA; exact False.elim hA
        | some o =>
          rw [ho] at hA
          have hm : o ∈ offs.toList := Array.mem_toList_iff.mpr (Array.mem_of_getElem? ho)
          intro H locs ls hl hP hS
          exact lv_tableIn hx hb hd (fun z => hc (Or.inl z)) (fun z => hc (Or.inr z)) ho (zk_toNat (hall o hm)) (hA.2 H locs ls (zk_nmL hl) hP hS)
    · exact False.elim hA
  case lookupswitch d ps =>
    simp only [zk_okL, Bool.and_eq_true, decide_eq_true_eq] at hk
    obtain ⟨hs, hd0, hall⟩ := hk
    simp only [zk_x3] at hA
    split at hA
    · intro H locs ls hl hP hS
      exact lv_lookup hx hb hd hs rfl (zk_toNat (zk_lsw_ok _ _ _ _ hd0 hall)) (hA.2 H locs ls (zk_nmL hl) hP hS)
    · exact False.elim hA
  case ireturn =>
    simp only [zk_okL, zk_beq] at hk
    subst hk
    simp only [zk_x3] at hA
    split at hA
    · rename_i x
      split at hA
      · rename_i hq
        obtain ⟨-, rfl⟩ := hA
        intro H locs ls hl hP hS
        exact W.iret (v := x) hx hb (hr.trans hq) (fun t ht hW => ⟨⟨x, (), rfl, rfl, by show va_P D zk_cls (zk_w E B X 0 h) t.heap; rw [ht]; exact hP⟩, hS.F ht⟩) hS.2.2 hd hlocks
      · rename_i hq
        obtain ⟨hc, rfl⟩ := hA
        have hc := of_decide_eq_true hc
        intro H locs ls hl hP hS
        exact W.zret (v := x) hx hb (hr.trans hq) (by rcases hc with rfl | rfl <;> rfl) (fun t ht hW => ⟨⟨x, (), rfl, rfl, by show va_P D zk_cls (zk_w E B X 0 h) t.heap; rw [ht]; exact hP⟩, hS.F ht⟩) hS.2.2 hd hlocks
      · exact False.elim hA
    · exact False.elim hA
  case lreturn =>
    simp only [zk_okL, zk_beq] at hk
    subst hk
    simp only [zk_x3] at hA
    split at hA
    · rename_i x
      split at hA
      · rename_i hq
        obtain ⟨-, rfl⟩ := hA
        intro H locs ls hl hP hS
        exact W.lret (v := x) hx hb (hr.trans hq) (fun t ht hW => ⟨⟨x, (), rfl, rfl, by show va_P D zk_cls (zk_w E B X 0 h) t.heap; rw [ht]; exact hP⟩, hS.F ht⟩) hS.2.2 hd hlocks
      · exact False.elim hA
    · exact False.elim hA
  case return_ =>
    simp only [zk_okL, zk_beq] at hk
    subst hk
    simp only [zk_x3] at hA
    split at hA
    · split at hA
      · rename_i hq
        obtain ⟨-, rfl⟩ := hA
        intro H locs ls hl hP hS
        exact W.vret hx hb (hr.trans hq) (fun t ht hW => ⟨⟨(), rfl, trivial, by show va_P D zk_cls (zk_w E B X 0 h) t.heap; rw [ht]; exact hP⟩, hS.F ht⟩) hS.2.2 hd hlocks
      · exact False.elim hA
    · exact False.elim hA
  all_goals first | exact absurd (show (0 : Nat) = 3 from hg) (by decide) | exact absurd (show (1 : Nat) = 3 from hg) (by decide) | exact absurd (show (2 : Nat) = 3 from hg) (by decide) | exact absurd (show (4 : Nat) = 3 from hg) (by decide) | exact absurd (show (5 : Nat) = 3 from hg) (by decide)
end ZKP
