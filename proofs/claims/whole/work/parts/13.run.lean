/-! a run of the small machine is a run of the Statement's machine -/
def zk_le (h h' : zk_H) : Prop := h.length ≤ h'.length ∧ zk_sl h ≤ zk_sl h'
theorem zk_le_rf {h : zk_H} : zk_le h h := ⟨Nat.le_refl _, Nat.le_refl _⟩
theorem zk_le_tr {h1 h2 h3 : zk_H} (a : zk_le h1 h2) (b : zk_le h2 h3) : zk_le h1 h3 := ⟨Nat.le_trans a.1 b.1, Nat.le_trans a.2 b.2⟩
theorem zk_le_put {h : zk_H} {a : Nat} {q q0 : zk_C} (ha : zk_at h a = some q0) (hq : zk_sc q = zk_sc q0) : zk_le h (zk_put h a q) := ⟨by rw [zk_put_len]; exact Nat.le_refl _, by rw [zk_sl_put h a q q0 ha hq]; exact Nat.le_refl _⟩
theorem zk_le_app {h : zk_H} {q : zk_C} : zk_le h (h ++ [q]) := ⟨by rw [List.length_append]; exact Nat.le_add_right _ _, by rw [zk_sl_app]; exact Nat.le_add_right _ _⟩
def zk_evH : zk_E → Option zk_H
  | some (.inl (_, h')) => some h'
  | some (.inr (.inl (_, _, h'))) => some h'
  | _ => none
theorem zk_m1 {M : zk_M} {i : Instr} {r1 : Nat} {c : Int32} {pc : Nat} {L : zk_L} {st : List Value} {h h' : zk_H} (hs : zk_evH (zk_x1 M i r1 c pc L st h) = some h') : zk_le h h' := by
  unfold zk_x1 at hs
  simp only [Bool.cond_eq_ite] at hs
  split at hs
  all_goals (try split at hs)
  all_goals (try split at hs)
  all_goals first | (have e := Option.some.inj hs; subst e; exact zk_le_rf) | (exact absurd (show (none : Option zk_H) = some h' from hs) (by simp))
theorem zk_m2 {M : zk_M} {i : Instr} {pc : Nat} {L : zk_L} {st : List Value} {h h' : zk_H} (hs : zk_evH (zk_x2 M i pc L st h) = some h') : zk_le h h' := by
  unfold zk_x2 at hs
  split at hs
  all_goals (try split at hs)
  all_goals first | (have e := Option.some.inj hs; subst e; exact zk_le_rf) | (exact absurd (show (none : Option zk_H) = some h' from hs) (by simp))
theorem zk_m3 {M : zk_M} {i : Instr} {r1 pc : Nat} {L : zk_L} {st : List Value} {h h' : zk_H} (hs : zk_evH (zk_x3 M i r1 pc L st h) = some h') : zk_le h h' := by
  unfold zk_x3 at hs
  split at hs
  all_goals (try split at hs)
  all_goals (try split at hs)
  all_goals first | (have e := Option.some.inj hs; subst e; exact zk_le_rf) | (exact absurd (show (none : Option zk_H) = some h' from hs) (by simp))
theorem zk_m4 {zd : List (List Value)} {Ls : Nat} {xs : Nat → Int32} {M : zk_M} {i : Instr} {r1 r2 r3 : Nat} {c : Int32} {pc : Nat} {L : zk_L} {st : List Value} {h h' : zk_H} (hs : zk_evH (zk_x4 zd Ls xs M i r1 r2 r3 c pc L st h) = some h') : zk_le h h' := by
  unfold zk_x4 at hs
  simp only [Bool.cond_eq_ite] at hs
  split at hs
  all_goals (try split at hs)
  all_goals (try split at hs)
  all_goals (try split at hs)
  all_goals (try split at hs)
  all_goals first | (have e := Option.some.inj hs; subst e; first | exact zk_le_rf | exact zk_le_app | exact zk_le_put (by assumption) rfl | exact zk_le_put (by assumption) (by simp [zk_sc, zk_put_len])) | (exact absurd (show (none : Option zk_H) = some h' from hs) (by simp))
theorem zk_m5 {M : zk_M} {i : Instr} {r1 r2 r3 pc : Nat} {L : zk_L} {st : List Value} {h h' : zk_H} (hs : zk_evH (zk_x5 M i r1 r2 r3 pc L st h) = some h') : zk_le h h' := by
  unfold zk_x5 at hs
  simp only [Bool.cond_eq_ite] at hs
  split at hs
  all_goals (try split at hs)
  all_goals (try split at hs)
  all_goals (try split at hs)
  all_goals (try split at hs)
  all_goals first | (have e := Option.some.inj hs; subst e; first | exact zk_le_rf | exact zk_le_app | exact zk_le_put (by assumption) (by simp [zk_sc])) | (exact absurd (show (none : Option zk_H) = some h' from hs) (by simp))
theorem zk_mono {zd : List (List Value)} {Ls : Nat} {xs : Nat → Int32} {M : zk_M} {f : zk_F} {h h' : zk_H} (hs : zk_evH (zk_step zd Ls xs M f h) = some h') : zk_le h h' := by
  obtain ⟨pc, L, st⟩ := f
  unfold zk_step at hs
  dsimp only at hs
  split at hs
  · rename_i q hq
    obtain ⟨i, len, r1, r2, r3, c⟩ := q
    unfold zk_x at hs
    dsimp only at hs
    split at hs
    · exact zk_m1 hs
    · exact zk_m2 hs
    · exact zk_m3 hs
    · exact zk_m4 hs
    · exact zk_m5 hs
    · exact absurd (show (none : Option zk_H) = some h' from hs) (by simp)
  · exact absurd (show (none : Option zk_H) = some h' from hs) (by simp)
theorem zk_fetched {M : zk_M} {pc : Nat} {q : Instr × Nat × Nat × Nat × Nat × Int32} (hC : zk_okC M = true) (hf : zk_fetch M pc = some q) : decode (zk_byt M) pc = .ok (q.1, q.2.1) ∧ zk_okL zk_mt M pc q.1 q.2.1 q.2.2.1 q.2.2.2.1 q.2.2.2.2.1 q.2.2.2.2.2 = true := by
  unfold zk_fetch at hf
  split at hf
  · rename_i l hl
    rw [zk_at_eq] at hl
    have h1 := List.all_eq_true.mp hC l (List.mem_of_getElem? hl)
    have h2 := List.all_eq_true.mp h1 (pc, q) (zk_look_mem hf)
    unfold zk_okI at h2
    simp only [Bool.and_eq_true, decide_eq_true_eq] at h2
    exact h2
  · cases hf
/-- calls of the law's own catching method stand in the law alone; nobody calls the law -/
theorem zk_rm7 : zk_rm.all (fun q => (!Nat.beq q.2.2.1 7 || Nat.beq q.1 13) && (Nat.beq q.2.2.1 7 || (!Nat.beq q.2.2.2.1 2 && !Nat.beq q.2.2.2.1 311))) = true := by decide +kernel
section ZKU
variable {p : Program} {l : Launch} {e : Env} {R : Room} {s : State} {m : MethodId} {args : Array Value} {below : List Frame} {meth : Method} {c : Code} {Q : State → Prop}
variable {EX : State → Prop} {D : va_G} {E : Nat → ClassId} {B : Nat} {X : Nat → Nat} {Ls : Nat} {xs : Nat → Int32} {M : zk_M} {n0 s0 : Nat}
theorem zk_led0 (h13 : zk_own M ≠ 13) : zk_LedH EX D E B X Ls xs M p l e R s m args below meth c n0 s0 Q := by
  intro idx r2 r3 pc L st h hd hm
  obtain ⟨pw, hpw⟩ := zk_memM_sp hm
  have h1 := List.all_eq_true.mp zk_rm7 _ hpw
  simp only [Bool.and_eq_true] at h1
  have h2 : Nat.beq (zk_own M) 13 = true := h1.1
  exact absurd (Nat.eq_of_beq_eq_true h2) h13
/-- what the start must say, and what the tables say of the methods -/
def zk_Env (EX : State → Prop) (B : Nat) (X : Nat → Nat) : Prop := zk_ExS EX B ∧ zk_Str EX X ∧ zk_StrC EX B X ∧ zk_NestH EX ∧ (∀ k K, zk_mt k = some K → zk_okC K = true) ∧ (∀ k K, zk_mt k = some K → k ≠ 2 → k ≠ 311 → zk_MG K)
theorem zk_one {f : zk_F} {h : zk_H} (N : zk_Env EX B X) (hLed : zk_LedH EX D E B X Ls xs M p l e R s m args below meth c n0 s0 Q) (F : zk_Fx EX D E B X Ls xs M p R s m args meth c) (hn0 : n0 ≤ h.length) (hs0 : s0 ≤ zk_sl h) (hsz : s.heap.size = B + n0)
    (hA : zk_Af EX D E B X Ls xs M p l e R s m args below meth c n0 s0 Q h (zk_step zk_zd Ls xs M f h)) : zk_K D E B X M p l e R s m args below meth c n0 s0 Q f h := by
  obtain ⟨pc, L, st⟩ := f
  obtain ⟨hEX, hstr, hsc, hnest, hC, hW⟩ := N
  unfold zk_step at hA
  dsimp only at hA
  cases hf : zk_fetch M pc with
  | none => rw [hf] at hA; exact hA.elim
  | some q =>
    rw [hf] at hA
    obtain ⟨i, len, r1, r2, r3, cc⟩ := q
    obtain ⟨hd, hk⟩ := zk_fetched F.2.2.2.2.2.2.2.2.2.2.1 hf
    dsimp only at hd hk
    dsimp only [zk_x] at hA
    split at hA
    · exact zk_g1 F hd hk hA
    · rename_i hg; exact zk_g2 F hd hk hg hA
    · rename_i hg; exact zk_g3 F hd hk hg hA
    · rename_i hg; exact zk_g4 hstr F hd hk hg hn0 hs0 hsz hA
    · rename_i hg
      refine zk_g5 hEX hsc hnest hLed F hd hk hg hn0 hs0 hsz (fun K hK h7 => ?_) hA
      have hm : ∃ idx pw, (zk_own M, idx, r1, r2, pw) ∈ zk_rm := by
        cases i <;> first | (exact absurd (show (0 : Nat) = 5 from hg) (by decide)) | (exact absurd (show (1 : Nat) = 5 from hg) (by decide)) | (exact absurd (show (2 : Nat) = 5 from hg) (by decide)) | (exact absurd (show (3 : Nat) = 5 from hg) (by decide)) | (exact absurd (show (4 : Nat) = 5 from hg) (by decide)) | (simp only [zk_okL, Bool.and_eq_true] at hk; obtain ⟨-, hm, -⟩ := hk; obtain ⟨pw, hpw⟩ := zk_memM_sp hm; exact ⟨_, pw, hpw⟩)
      obtain ⟨idx, pw, hm⟩ := hm
      have h1 := List.all_eq_true.mp zk_rm7 _ hm
      simp only [Bool.and_eq_true, Bool.or_eq_true, Bool.not_eq_true'] at h1
      rcases h1.2 with h2 | ⟨h2, h3⟩
      · exact absurd (Nat.eq_of_beq_eq_true h2) h7
      · exact hW _ K hK (Nat.ne_of_beq_eq_false h2) (Nat.ne_of_beq_eq_false h3)
    · exact hA.elim
/-- a run of a called method gives its contract -/
theorem zk_mkSp {K : zk_M} {as : List Value} {h h' : zk_H} {v : Option Value} (hsp : zk_sp K = false) (hW : zk_MW K) (hC : zk_okC K = true) (hcat : zk_cat as ≤ zk_mxl K)
    (hk : ∀ (p : Program) (e : Env) (R : Room) (s : State) (m : MethodId) (args : Array Value) (below : List Frame) (meth : Method) (c : Code), zk_Fx EX D E B X Ls xs K p R s m args meth c → s.heap.size = B + h.length → h'.length - h.length ≤ R.cells ∧ zk_sl h' - zk_sl h ≤ R.slots →
      zk_K D E B X K p l e R s m args below meth c h.length (zk_sl h) (MQ below (zk_Qr D E B X v h') args s (h'.length - h.length) (zk_sl h' - zk_sl h) (fun q => B ≤ q)) (zk_ent K as) h) : zk_Sp EX D E B X Ls xs l K as h v h' := by
  obtain ⟨w1, w2, w3, w4, w5, w6, w7, w8, w9, w10⟩ := hW
  unfold zk_Sp
  refine ⟨fun _ _ => ?_, fun z => absurd (hsp.symm.trans z) (by decide)⟩
  refine Met.ofW (cc := zk_byt K) (maxL := zk_mxl K) (ret := zk_ret K) w4 rfl ?_
  intro p e s m args below meth c s₁ Bd hml hv
  obtain ⟨rfl, hsz, hP, hKk, hXs, hXB, hE⟩ := hv
  have hts := atoms_spec (ws := .code (zk_nam K) (zk_byt K) (zk_mxl K) (zk_ret K) :: zk_TB) Bd.pre
  have hown : s.vm.findClass (zk_nam K).cls = some m.cls := findClass_of_methodNamed Bd.named
  have hnm : meth.name = (zk_nam K).name := (name_of_methodNamed Bd.named Bd.method).1
  rw [w3] at hown
  have F : zk_Fx EX D E B X Ls xs K p (headSpec (.code (zk_nam K) (zk_byt K) (zk_mxl K) (zk_ret K) :: zk_TB) { frames := zk_fr K, cells := h'.length - h.length, slots := zk_sl h' - zk_sl h, locals := zk_lo K }).room s m (as.map (zk_v B X)).toArray meth c :=
    ⟨Bd.exec, Bd.bytes, Bd.returns, hml, hown, fun w hw => hts w (List.mem_cons_of_mem _ hw), Bd.notSynchronized, fun h2 => by rw [hnm]; exact (w10 h2).2.1, Nat.le_refl _, Nat.le_refl _, hC, hKk, by omega, hXs, hXB, hE⟩
  have hz := hk p e _ s m _ below meth c F hsz ⟨Nat.le_refl _, Nat.le_refl _⟩
  have hl := lv_entry (as.map (zk_v B X)) (n := zk_mxl K) (by rw [zk_cat_sl]; exact hcat)
  rw [lg_entry_eq]
  rw [zk_args_tr] at hl
  have hg := hz s.heap [] _ (zk_nmL (pc := 0) (M := K) hl) hP va_S.rf
  rw [Nat.sub_self, Nat.sub_self] at hg
  exact hg
/-- THE TIE: what the small machine answers, the Statement's machine answers -/
theorem zk_tie {ex : Nat → List Value → zk_H → Option (Option Value × zk_H)} (N : zk_Env EX B X)
    (hex : ∀ (k : Nat) (K : zk_M) (as : List Value) (h : zk_H) (v : Option Value) (h' : zk_H), zk_mt k = some K → zk_ct K = [] → ex k as h = some (v, h') → zk_Sp EX D E B X Ls xs l K as h v h' ∧ zk_le h h')
    (h13 : ∀ k K, zk_mt k = some K → k ≠ 2 → k ≠ 311 → zk_own K ≠ 13) (hnl : ∀ (k : Nat) (K : zk_M), zk_mt k = some K → k = 2 → zk_ct K = []) (h309 : zk_mt 311 = none) :
    ∀ (n : Nat) (M : zk_M) (f : zk_F) (h : zk_H) (r : Option Value) (hE : zk_H), zk_run zk_zd zk_mt ex Ls xs n M f h = some (r, hE) → zk_le h hE ∧ ∀ (p : Program) (e : Env) (R : Room) (s : State) (m : MethodId) (args : Array Value) (below : List Frame) (meth : Method) (c : Code) (n0 s0 : Nat), zk_Fx EX D E B X Ls xs M p R s m args meth c → zk_LedH EX D E B X Ls xs M p l e R s m args below meth c n0 s0 (MQ below (zk_Qr D E B X r hE) args s (hE.length - n0) (zk_sl hE - s0) (fun q => B ≤ q)) → s.heap.size = B + n0 → n0 ≤ h.length → s0 ≤ zk_sl h → hE.length - n0 ≤ R.cells ∧ zk_sl hE - s0 ≤ R.slots →
      zk_K D E B X M p l e R s m args below meth c n0 s0 (MQ below (zk_Qr D E B X r hE) args s (hE.length - n0) (zk_sl hE - s0) (fun q => B ≤ q)) f h := by
  intro n
  induction n with
  | zero => intro M f h r hE hr; simp [zk_run] at hr
  | succ n ih =>
    intro M f h r hE hr
    unfold zk_run at hr
    cases hst : zk_step zk_zd Ls xs M f h with
    | none => rw [hst] at hr; cases hr
    | some ev =>
      rw [hst] at hr
      match ev, hst, hr with
      | .inl (f', h'), hst, hr =>
        obtain ⟨i1, i2⟩ := ih M f' h' r hE hr
        have hm : zk_le h h' := zk_mono (by rw [hst]; rfl)
        refine ⟨zk_le_tr hm i1, fun p e R s m args below meth c n0 s0 F hLed hsz hn0 hs0 hR => zk_one N hLed F hn0 hs0 hsz ?_⟩
        rw [hst]
        exact ⟨⟨by have := i1.1; omega, by have := i1.2; omega⟩, i2 p e R s m args below meth c n0 s0 F hLed hsz (Nat.le_trans hn0 hm.1) (Nat.le_trans hs0 hm.2) hR⟩
      | .inr (.inl (b, f', h')), hst, hr =>
        cases b with
        | false => cases hr
        | true =>
          obtain ⟨i1, i2⟩ := ih M f' h' r hE hr
          have hm : zk_le h h' := zk_mono (by rw [hst]; rfl)
          refine ⟨zk_le_tr hm i1, fun p e R s m args below meth c n0 s0 F hLed hsz hn0 hs0 hR => zk_one N hLed F hn0 hs0 hsz ?_⟩
          rw [hst]
          exact ⟨rfl, ⟨by have := i1.1; omega, by have := i1.2; omega⟩, i2 p e R s m args below meth c n0 s0 F hLed hsz (Nat.le_trans hn0 hm.1) (Nat.le_trans hs0 hm.2) hR⟩
      | .inr (.inr (.inl (b, f1, f2))), hst, hr =>
        cases b with
        | false =>
          obtain ⟨i1, i2⟩ := ih M f2 h r hE hr
          refine ⟨i1, fun p e R s m args below meth c n0 s0 F hLed hsz hn0 hs0 hR => zk_one N hLed F hn0 hs0 hsz ?_⟩
          rw [hst]
          exact ⟨(fun z => by cases z), fun _ => i2 p e R s m args below meth c n0 s0 F hLed hsz hn0 hs0 hR⟩
        | true =>
          obtain ⟨i1, i2⟩ := ih M f1 h r hE hr
          refine ⟨i1, fun p e R s m args below meth c n0 s0 F hLed hsz hn0 hs0 hR => zk_one N hLed F hn0 hs0 hsz ?_⟩
          rw [hst]
          exact ⟨fun _ => i2 p e R s m args below meth c n0 s0 F hLed hsz hn0 hs0 hR, (fun z => by cases z)⟩
      | .inr (.inr (.inr (.inl (b, v)))), hst, hr =>
        cases b with
        | false => cases hr
        | true =>
          have he : (v, h) = (r, hE) := Option.some.inj hr
          cases he
          refine ⟨zk_le_rf, fun p e R s m args below meth c n0 s0 F hLed hsz hn0 hs0 hR => zk_one N hLed F hn0 hs0 hsz ?_⟩
          rw [hst]
          exact ⟨rfl, rfl⟩
      | .inr (.inr (.inr (.inr (k, as, f')))), hst, hr =>
        have hr2 : (match zk_mt k with
          | none => none
          | some K => match (match zk_ct K with
              | [] => ex k as h
              | _ => bif Nat.ble (zk_cat as) (zk_mxl K) then zk_run zk_zd zk_mt ex Ls xs n K (zk_ent K as) h else none) with
            | some (v, h') => zk_run zk_zd zk_mt ex Ls xs n M (zk_push M f' v) h'
            | none => none) = some (r, hE) := hr
        cases hK : zk_mt k with
        | none => rw [hK] at hr2; cases hr2
        | some K =>
          rw [hK] at hr2
          dsimp only at hr2
          split at hr2
          · rename_i v h' hcall
            obtain ⟨i1, i2⟩ := ih M (zk_push M f' v) h' r hE hr2
            have hSp : zk_Sp EX D E B X Ls xs l K as h v h' ∧ zk_le h h' := by
              split at hcall
              · rename_i hct
                exact hex k K as h v h' hK hct hcall
              · rename_i hct
                cases hb : Nat.ble (zk_cat as) (zk_mxl K) with
                | false => rw [hb] at hcall; cases hcall
                | true =>
                  rw [hb] at hcall
                  obtain ⟨j1, j2⟩ := ih K (zk_ent K as) h v h' hcall
                  have k2 : k ≠ 2 := fun z => hct (hnl k K hK z)
                  by_cases k309 : k = 311
                  · subst k309; rw [h309] at hK; cases hK
                  · rcases N.2.2.2.2.2 k K hK k2 k309 with hmath | ⟨hsp, hMF⟩
                    · exact absurd (show zk_ct K = [] by rcases hmath.2.2.2.2.2.2.2.2 with z | z <;> rw [z.1] <;> rfl) hct
                    refine ⟨zk_mkSp hsp (zk_mw hMF) (N.2.2.2.2.1 k K hK) (Nat.le_of_ble_eq_true hb) (fun p e R s m args below meth c F hsz hR => ?_), j1⟩
                    exact j2 p e R s m args below meth c h.length (zk_sl h) F (zk_led0 (h13 k K hK k2 k309)) hsz (Nat.le_refl _) (Nat.le_refl _) hR
            refine ⟨zk_le_tr hSp.2 i1, fun p e R s m args below meth c n0 s0 F hLed hsz hn0 hs0 hR => zk_one N hLed F hn0 hs0 hsz ?_⟩
            rw [hst]
            exact ⟨K, v, h', hK, hSp.1, hSp.2, ⟨by have := i1.1; omega, by have := i1.2; omega⟩, i2 p e R s m args below meth c n0 s0 F hLed hsz (Nat.le_trans hn0 hSp.2.1) (Nat.le_trans hs0 hSp.2.2) hR⟩
          · cases hr2
end ZKU
