section ZKT
variable {p : Program} {l : Launch} {e : Env} {R : Room} {s : State} {m : MethodId} {args : Array Value} {below : List Frame} {meth : Method} {c : Code} {Q : State → Prop}
variable {EX : State → Prop} {D : va_G} {E : Nat → ClassId} {B : Nat} {X : Nat → Nat} {Ls : Nat} {xs : Nat → Int32} {M : zk_M} {n0 s0 : Nat}
theorem zk_good {l : List Cond} (h : ∀ w ∈ l, w ∈ zk_TB) : GoodIn zk_TB l := fun w hw => ⟨h w hw, good_of_word (List.mem_filter.mp (h w hw)).2⟩
/-- all that the tables say of a method that is called -/
def zk_MW (K : zk_M) : Prop := Cond.code (zk_nam K) (zk_byt K) (zk_mxl K) (zk_ret K) ∈ zk_TB ∧ Cond.initialized (zk_nam K).cls ∈ zk_TB ∧ (zk_nam K).cls = zk_cn (zk_own K) ∧ plainName (zk_nam K).cls = true ∧ (zk_nam K).cls ≠ "java/lang/invoke/MethodHandle" ∧ (zk_nam K).cls ≠ "java/lang/invoke/VarHandle" ∧ (parseMethodDescriptor (zk_nam K).desc).map (fun d => d.parameters.length) = some (zk_na K) ∧ (zk_kd K = 0 → Cond.static (zk_nam K) ∈ zk_TB) ∧ (zk_kd K = 1 → Cond.instanceMethod (zk_nam K) ∈ zk_TB ∧ Cond.selects (zk_nam K).cls (zk_nam K) (zk_nam K) ∈ zk_TB) ∧ (zk_kd K = 2 → Cond.instanceMethod (zk_nam K) ∈ zk_TB ∧ (zk_nam K).name = "<init>" ∧ zk_ret K = none)
def zk_MF (K : zk_M) : Prop := ∃ q, zk_okM K q = true
/-- Math.max or min, by their words; else a method by its own -/
def zk_MG (K : zk_M) : Prop := (zk_sp K = true ∧ zk_own K = 16 ∧ zk_kd K = 0 ∧ zk_mxl K = 2 ∧ zk_fr K = 0 ∧ Cond.static (zk_nam K) ∈ zk_TB ∧ Cond.initialized "java/lang/Math" ∈ zk_TB ∧ Cond.code (zk_nam K) (zk_byt K) 2 (some .int) ∈ zk_TB ∧ ((K = zm_71 ∧ zk_nam K = Lib.Math.max.name ∧ zk_byt K = Lib.Math.max.code) ∨ (K = zm_72 ∧ zk_nam K = Lib.Math.min.name ∧ zk_byt K = Lib.Math.min.code))) ∨ (zk_sp K = false ∧ zk_MF K)
theorem zk_MG.mf {K : zk_M} (h : zk_MG K) (hk : zk_kd K ≠ 0) : zk_sp K = false ∧ zk_MF K := by
  rcases h with h | h
  · exact absurd h.2.2.1 hk
  · exact h
theorem zk_mw {K : zk_M} (h : zk_MF K) : zk_MW K := by
  obtain ⟨q, hq⟩ := h
  unfold zk_okM at hq
  simp only [Bool.and_eq_true, decide_eq_true_eq] at hq
  obtain ⟨h1, h2, h3, h4, h5, h6, h7, h8⟩ := hq
  refine ⟨zk_isw_mem h1, zk_isw_mem h2, h3, h4, h5, h6, h7, fun hk => ?_, fun hk => ?_, fun hk => ?_⟩
  · rw [hk] at h8; exact zk_isw_mem h8
  · rw [hk] at h8
    simp only [Bool.and_eq_true] at h8
    exact ⟨zk_isw_mem h8.1, zk_isw_mem h8.2⟩
  · rw [hk] at h8
    simp only [Bool.and_eq_true, decide_eq_true_eq] at h8
    exact ⟨zk_isw_mem h8.1, h8.2.1, h8.2.2⟩
theorem zk_clsnm {ci : Nat} (h : ci < 13) : ∃ r, zk_cls[ci]? = some r ∧ r.1 = zk_cn ci := by
  match ci, h with
  | 0, _ => exact ⟨_, rfl, rfl⟩
  | 1, _ => exact ⟨_, rfl, rfl⟩
  | 2, _ => exact ⟨_, rfl, rfl⟩
  | 3, _ => exact ⟨_, rfl, rfl⟩
  | 4, _ => exact ⟨_, rfl, rfl⟩
  | 5, _ => exact ⟨_, rfl, rfl⟩
  | 6, _ => exact ⟨_, rfl, rfl⟩
  | 7, _ => exact ⟨_, rfl, rfl⟩
  | 8, _ => exact ⟨_, rfl, rfl⟩
  | 9, _ => exact ⟨_, rfl, rfl⟩
  | 10, _ => exact ⟨_, rfl, rfl⟩
  | 11, _ => exact ⟨_, rfl, rfl⟩
  | 12, _ => exact ⟨_, rfl, rfl⟩
  | ci + 13, h => exact absurd h (by omega)
theorem zk_pop_sp : ∀ {n : Nat} {st acc as rest : List Value}, zk_pop n st acc = some (as, rest) → acc.reverse ++ st = as.reverse ++ rest ∧ as.length = n + acc.length
  | 0, st, acc, as, rest, h => by
    simp only [zk_pop, Option.some.injEq, Prod.mk.injEq] at h
    obtain ⟨rfl, rfl⟩ := h
    exact ⟨rfl, by omega⟩
  | n + 1, v :: st, acc, as, rest, h => by
    unfold zk_pop at h
    obtain ⟨h1, h2⟩ := zk_pop_sp h
    refine ⟨?_, by rw [h2, List.length_cons]; omega⟩
    rw [← h1]
    simp
  | n + 1, [], acc, as, rest, h => by simp [zk_pop] at h
/-- what else holds of the start holds as long as no old cell changes -/
def zk_ExS (EX : State → Prop) (B : Nat) : Prop := ∀ s U : State, s.WarmedH U.vm → (∀ q, q < B → U.heap[q]? = s.heap[q]?) → EX s → EX U
theorem zk_size {h : zk_H} {H : Heap} {locs : List Loc} (hP : va_P D zk_cls (zk_w E B X 0 h) H) (hS : va_S (fun q => B ≤ q) s.heap H locs) (hn0 : n0 ≤ h.length) (hsz : s.heap.size = B + n0) (hz : H.size ≤ s.heap.size + (h.length - n0)) : H.size = B + h.length := by
  have h1 := zk_P_size hP (Nat.le_trans (by omega : B ≤ s.heap.size) hS.1)
  omega
theorem zk_pre {h : zk_H} {H : Heap} {locs : List Loc} (hEX : zk_ExS EX B) (F : zk_Fx EX D E B X Ls xs M p R s m args meth c) (hn0 : n0 ≤ h.length) (hsz : s.heap.size = B + n0) (hP : va_P D zk_cls (zk_w E B X 0 h) H) (hS : va_S (fun q => B ≤ q) s.heap H locs) (hz : H.size ≤ s.heap.size + (h.length - n0)) : ∀ U : State, U.heap = H → s.WarmedH U.vm → zk_Wd EX D E B X Ls xs h U := by
  obtain ⟨hx, hb, hr, hml, hown, hts, hlocks, hinit, -, -, -, hKk, hB, hXs, hXB, hE⟩ := F
  intro U hU hW
  subst hU
  have hk : ∀ q, q < B → U.heap[q]? = s.heap[q]? := fun q hq => hS.2.1 q (Nat.lt_of_lt_of_le hq hB) (Nat.not_le.mpr hq)
  exact ⟨zk_size hP hS hn0 hsz hz, hP, va_K.moved hW.alike hKk, (hXs.kept (hk _ hXB)).moved hW.alike, hXB, hEX s U hW hk hE⟩
theorem zk_blind {h : zk_H} {av : List Value} (hEX : zk_ExS EX B) : FrameBlind (va_Pc av (zk_Wd EX D E B X Ls xs h)) := by
  intro a U g mk q
  obtain ⟨q0, h1, h2, h3, h4, h5, h6⟩ := q
  exact ⟨q0, h1, h2, va_K.moved (u := U) (U := U.calling g mk a) (Vm.Alike.refl U.vm) h3, va_X.moved (u := U) (U := U.calling g mk a) (Vm.Alike.refl U.vm) h4, h5, hEX U (U.calling g mk a) (State.WarmedH.refl U) (fun _ _ => rfl) h6⟩
/-- behind a call -/
theorem zk_after {h h' : zk_H} {H : Heap} {locs : List Loc} {pc : Nat} {L : zk_L} {ls : Array Slot} {st0 rest : List Value} {v : Option Value} {a : Array Value} (hr : va_Run p l e R s m args below meth c H locs (h.length - n0) (zk_sl h - s0) (h'.length - h.length) (zk_sl h' - zk_sl h) (F0 m pc ls st0) (rest.map (zk_v B X)) (zk_Qr D E B X v h' a) (fun q => B ≤ q)) (hS : va_S (fun q => B ≤ q) s.heap H locs) (hn0 : n0 ≤ h.length) (hs0 : s0 ≤ zk_sl h) (hm : h.length ≤ h'.length ∧ zk_sl h ≤ zk_sl h') (hlv : lv_has ls (zk_mxl M) (zk_lv B X L))
    (hK : zk_K D E B X M p l e R s m args below meth c n0 s0 Q (zk_push M (pc + 3, L, rest) v) h') : W p l e R s m args below meth c H locs (h.length - n0) (zk_sl h - s0) Q (F0 m pc ls st0) := by
  have e1 : h.length - n0 + (h'.length - h.length) = h'.length - n0 := by omega
  have e2 : zk_sl h - s0 + (zk_sl h' - zk_sl h) = zk_sl h' - s0 := by omega
  cases v with
  | none =>
    refine va_callv (a := a) hr hS (fun _ _ h => h) (fun _ h => h) (fun u t H1 locs1 ht hvm hp hB hz hk hS1 => ?_)
    rw [ht] at hB
    rw [e1, e2]
    exact hK H1 locs1 ls (zk_nmL hlv) hB hS1
  | some v =>
    cases v with
    | int x =>
      refine va_calli (a := a) hr hS (fun _ _ h => h) (fun _ h => h) (fun r u t H1 locs1 ht hvm hp hB hz hk hS1 => ?_)
      rw [ht] at hB
      rw [e1, e2, hp]
      exact hK H1 locs1 ls (zk_nmL hlv) hB hS1
    | long x =>
      refine va_calll (a := a) hr hS (fun _ _ h => h) (fun _ h => h) (fun r u t H1 locs1 ht hvm hp hB hz hk hS1 => ?_)
      rw [ht] at hB
      rw [e1, e2, hp]
      exact hK H1 locs1 ls (zk_nmL hlv) hB hS1
    | _ =>
      intro T hT X1
      obtain ⟨v, st₀, t, T', L1, h0, X', hL, e1, e2, hq, st⟩ := hr T hT X1
      exact hq.elim
def zk_okS (K : zk_M) (r1 r2 : Nat) : Bool := match r1 with
    | 1 => Nat.beq (zk_kd K) 0
    | 2 => Nat.beq (zk_kd K) 2
    | 3 => Nat.beq (zk_kd K) 2
    | 6 => Nat.beq (zk_kd K) 1 && Nat.beq (zk_own K) 18
    | 7 => Nat.beq r2 2
    | r => Nat.beq r (zk_own K + 100) && (Nat.beq (zk_kd K) 1 && Nat.blt (zk_own K) 13)
theorem zk_okK_sp {r1 r2 r3 : Nat} {K : zk_M} (hmt : zk_mt r2 = some K) (hk : zk_okK zk_mt M r1 r2 r3 = true) : zk_na K = r3 ∧ zk_fr K + 1 ≤ zk_fr M ∧ 8 + (zk_mxl K + 11) + zk_lo K ≤ zk_lo M ∧ zk_okS K r1 r2 = true := by
  unfold zk_okK at hk
  rw [hmt] at hk
  simp only [Bool.and_eq_true] at hk
  obtain ⟨h1, h2, h3, h4⟩ := hk
  exact ⟨Nat.eq_of_beq_eq_true h1, Nat.le_of_ble_eq_true h2, Nat.le_of_ble_eq_true h3, h4⟩
theorem zk_link {o idx r1 k : Nat} {K : zk_M} (hm : zk_memM zk_rm o idx r1 k = true) (hmt : zk_mt k = some K) (h3 : r1 ≠ 3) (h4 : r1 ≠ 4) (h5 : r1 ≠ 5) : Cond.methodLink (zk_cn o) idx (zk_nam K) ∈ zk_TB := by
  obtain ⟨pw, hpw⟩ := zk_memM_sp hm
  have hw := zk_rm_ok _ hpw
  unfold zk_okR at hw
  dsimp only at hw
  split at hw
  · exact absurd rfl h4
  · exact absurd rfl h5
  · exact absurd rfl h3
  · rw [hmt] at hw
    exact zk_isw_mem hw
theorem zk_w1 : zk_isw 812 (.native arraycopyName) = true := by decide +kernel
theorem zk_w2 : zk_isw 811 (.static arraycopyName) = true := by decide +kernel
theorem zk_w3 : zk_isw 124 (.initialized "java/lang/System") = true := by decide +kernel
theorem zk_w4 : zk_isw 137 (.instanceMethod objectInit) = true := by decide +kernel
theorem zk_w5 : zk_isw 138 (.code objectInit ⟨#[0xb1]⟩ 1 none) = true := by decide +kernel
/-- strings are objects of their class, below all that the law makes -/
def zk_StrC (EX : State → Prop) (B : Nat) (X : Nat → Nat) : Prop := ∀ U, EX U → ∀ a, 0 < a → a ≤ 36 → X a < B ∧ ∃ cell : Cell, U.heap[X a]? = some cell ∧ cell.vm.isStatics = false ∧ U.vm.findClass "java/lang/String" = some cell.cls
def zk_isNest : Cond → Bool
  | .methodLinkNest .. => true
  | _ => false
/-- private constructors of nest mates: their words hold -/
def zk_NestH (EX : State → Prop) : Prop := ∀ U, EX U → ∀ (p : Nat) (w : Cond), lw_tbl[p]? = some w → zk_isNest w = true → va_Nw w U
/-- the law's own call of its method that catches -/
def zk_LedH (EX : State → Prop) (D : va_G) (E : Nat → ClassId) (B : Nat) (X : Nat → Nat) (Ls : Nat) (xs : Nat → Int32) (M : zk_M) (p : Program) (l : Launch) (e : Env) (R : Room) (s : State) (m : MethodId) (args : Array Value) (below : List Frame) (meth : Method) (c : Code) (n0 s0 : Nat) (Q : State → Prop) : Prop :=
  ∀ (idx r2 r3 pc : Nat) (L : zk_L) (st : List Value) (h : zk_H), decode (zk_byt M) pc = .ok (.invokestatic idx, 3) → zk_memM zk_rm (zk_own M) idx 7 r2 = true → n0 ≤ h.length → s0 ≤ zk_sl h → zk_Af EX D E B X Ls xs M p l e R s m args below meth c n0 s0 Q h (zk_x5 M (.invokestatic idx) 7 r2 r3 pc L st h) → zk_K D E B X M p l e R s m args below meth c n0 s0 Q (pc, L, st) h
theorem zk_exM {k : Nat} {K : zk_M} {as : List Value} {h h' : zk_H} {v : Option Value} (hk : zk_mt k = some K) (hK : K = zm_71 ∨ K = zm_72) (hq : zk_ex k as h = some (v, h')) : ∃ x y : Int32, as = [.int x, .int y] ∧ h' = h ∧ ((K = zm_71 ∧ v = some (.int (if x < y then y else x))) ∨ (K = zm_72 ∧ v = some (.int (if y < x then y else x)))) := by
  have hn : zk_nam K = zk_nam zm_71 ∨ zk_nam K = zk_nam zm_72 := hK.imp (congrArg zk_nam) (congrArg zk_nam)
  unfold zk_ex at hq
  split at hq
  · exfalso
    have e : zk_nam zm_0 = zk_nam K := congrArg zk_nam (Option.some.inj (show some zm_0 = some K from hk))
    rw [← e] at hn
    exact absurd hn (by decide)
  · exfalso
    have e : zk_nam zm_1 = zk_nam K := congrArg zk_nam (Option.some.inj (show some zm_1 = some K from hk))
    rw [← e] at hn
    exact absurd hn (by decide)
  · exfalso
    have e : zk_nam zm_2 = zk_nam K := congrArg zk_nam (Option.some.inj (show some zm_2 = some K from hk))
    rw [← e] at hn
    exact absurd hn (by decide)
  · rename_i x y
    have e : zm_71 = K := Option.some.inj (show some zm_71 = some K from hk)
    cases hq
    exact ⟨x, y, rfl, rfl, Or.inl ⟨e.symm, rfl⟩⟩
  · rename_i x y
    have e : zm_72 = K := Option.some.inj (show some zm_72 = some K from hk)
    cases hq
    exact ⟨x, y, rfl, rfl, Or.inr ⟨e.symm, rfl⟩⟩
  · cases hq
theorem zk_math {idx r2 pc : Nat} {K : zk_M} {as rest st : List Value} {L : zk_L} {h h' : zk_H} {v : Option Value} (hx : p.tables.exec = Jvm.exec) (hb : c.code = zk_byt M) (hml : c.maxLocals = zk_mxl M) (hown : s.vm.findClass (zk_cn (zk_own M)) = some m.cls) (hts : ∀ w ∈ zk_TB, w.before args s = true) (hm : zk_memM zk_rm (zk_own M) idx 1 r2 = true) (hmt : zk_mt r2 = some K)
    (hmath : zk_sp K = true ∧ zk_own K = 16 ∧ zk_kd K = 0 ∧ zk_mxl K = 2 ∧ zk_fr K = 0 ∧ Cond.static (zk_nam K) ∈ zk_TB ∧ Cond.initialized "java/lang/Math" ∈ zk_TB ∧ Cond.code (zk_nam K) (zk_byt K) 2 (some .int) ∈ zk_TB ∧ ((K = zm_71 ∧ zk_nam K = Lib.Math.max.name ∧ zk_byt K = Lib.Math.max.code) ∨ (K = zm_72 ∧ zk_nam K = Lib.Math.min.name ∧ zk_byt K = Lib.Math.min.code)))
    (hq : ∃ k, zk_mt k = some K ∧ zk_ex k as h = some (v, h')) (hst : st = as.reverse ++ rest) (hc2 : zk_cat rest ≤ 8) (k2 : zk_fr K + 1 ≤ zk_fr M) (k3 : 8 + (zk_mxl K + 11) + zk_lo K ≤ zk_lo M) (hfr : zk_fr M ≤ R.frames) (hlo : zk_lo M ≤ R.locals) (hroom : h'.length - n0 ≤ R.cells ∧ zk_sl h' - s0 ≤ R.slots) (hd : decode (zk_byt M) pc = .ok (.invokestatic idx, 3))
    (hK : zk_K D E B X M p l e R s m args below meth c n0 s0 Q (zk_push M (pc + 3, L, rest) v) h') : zk_K D E B X M p l e R s m args below meth c n0 s0 Q (pc, L, st) h := by
  obtain ⟨m1, m2, m3, m4, m5, m6, m7, m8, m9⟩ := hmath
  obtain ⟨k, hk, hq⟩ := hq
  obtain ⟨x, y, rfl, rfl, hv⟩ := zk_exM hk (m9.imp (·.1) (·.1)) hq
  have hl := zk_link hm hmt (by omega) (by omega) (by omega)
  have hst2 : st.map (zk_v B X) = .int y :: .int x :: rest.map (zk_v B X) := by rw [hst]; rfl
  intro H locs ls hlv hP hS
  show W p l e R s m args below meth c H locs (h'.length - n0) (zk_sl h' - s0) Q (F0 m pc ls (st.map (zk_v B X)))
  rw [hst2]
  have hcat : ((rest.map (zk_v B X)).map fun v => v.category).sum + 13 ≤ R.locals := by
    rw [zk_cat_sum]
    omega
  rcases m9 with ⟨z1, z2, z3⟩ | ⟨z1, z2, z3⟩
  · rcases hv with ⟨_, rfl⟩ | ⟨z4, _⟩
    · rw [z2] at hl m6 m8
      rw [z3] at m8
      exact va_mmax hx hb (hml.trans hlv.1.symm) hown (hts _ hl) (hts _ m6) (hts _ m7) (hts _ m8) (by omega) hcat hroom.1 hroom.2 hd (hK H locs ls (zk_nmL hlv) hP hS)
    · exact absurd (congrArg zk_nam (z1.symm.trans z4)) (by decide)
  · rcases hv with ⟨z4, _⟩ | ⟨_, rfl⟩
    · exact absurd (congrArg zk_nam (z1.symm.trans z4)) (by decide)
    · rw [z2] at hl m6 m8
      rw [z3] at m8
      exact va_mmin hx hb (hml.trans hlv.1.symm) hown (hts _ hl) (hts _ m6) (hts _ m7) (hts _ m8) (by omega) hcat hroom.1 hroom.2 hd (hK H locs ls (zk_nmL hlv) hP hS)
set_option maxHeartbeats 2000000 in
theorem zk_g5 {i : Instr} {len r1 r2 r3 pc : Nat} {cc : Int32} {L : zk_L} {st : List Value} {h : zk_H} (hEX : zk_ExS EX B) (hsc : zk_StrC EX B X) (hnest : zk_NestH EX) (hLed : zk_LedH EX D E B X Ls xs M p l e R s m args below meth c n0 s0 Q) (F : zk_Fx EX D E B X Ls xs M p R s m args meth c) (hd : decode (zk_byt M) pc = .ok (i, len)) (hk : zk_okL zk_mt M pc i len r1 r2 r3 cc = true) (hg : zk_grp i = 5) (hn0 : n0 ≤ h.length) (hs0 : s0 ≤ zk_sl h) (hsz : s.heap.size = B + n0) (hmf : ∀ K, zk_mt r2 = some K → r1 ≠ 7 → zk_MG K)
    (hA : zk_Af EX D E B X Ls xs M p l e R s m args below meth c n0 s0 Q h (zk_x5 M i r1 r2 r3 pc L st h)) : zk_K D E B X M p l e R s m args below meth c n0 s0 Q (pc, L, st) h := by
  have F0' := F
  obtain ⟨hx, hb, hr, hml, hown, hts, hlocks, hinit, hfr, hlo, -, hKk, hB, hXs, hXB, hE⟩ := F
  cases i
  case invokevirtual idx =>
    simp only [zk_okL, Bool.and_eq_true, zk_beq] at hk
    obtain ⟨rfl, hm, hok⟩ := hk
    simp only [zk_x5] at hA
    split at hA
    · rename_i as a rest hpop
      obtain ⟨hst, hlen⟩ := zk_pop_sp hpop
      simp only [List.reverse_nil, List.nil_append, List.length_nil, Nat.add_zero] at hst hlen
      split at hA
      · rename_i ci fs ha
        cases hc : (Nat.beq (ci + 100) r1 && Nat.ble (zk_cat rest) 8) with
        | false => rw [hc] at hA; exact False.elim hA
        | true =>
          rw [hc] at hA
          simp only [Bool.and_eq_true] at hc
          obtain ⟨hc1, hc2⟩ := hc
          have hc1 := Nat.eq_of_beq_eq_true hc1
          have hc2 := Nat.le_of_ble_eq_true hc2
          subst hc1
          obtain ⟨K, v, h', hmt, hSp, hmono, hroom, hK⟩ := hA
          obtain ⟨k1, k2, k3, k4⟩ := zk_okK_sp hmt hok
          have k4 : (Nat.beq (ci + 100) (zk_own K + 100) && (Nat.beq (zk_kd K) 1 && Nat.blt (zk_own K) 13)) = true := k4
          simp only [Bool.and_eq_true, zk_beq, zk_blt] at k4
          obtain ⟨e1, e2, e3⟩ := k4
          have hMG := (hmf K hmt (by omega)).mf (by rw [e2]; decide)
          have hSp := hSp.1 hMG.1 (fun _ z => by omega)
          obtain ⟨w1, w2, w3, w4, w5, w6, w7, w8, w9, w10⟩ := zk_mw hMG.2
          have e1 : ci = zk_own K := by omega
          subst e1
          obtain ⟨r, hr1, hr2⟩ := zk_clsnm e3
          have hl := zk_link hm hmt (by omega) (by omega) (by omega)
          intro H locs ls hlv hP hS
          refine W.zsz fun hz => ?_
          have hpre := zk_pre hEX F0' hn0 hsz hP hS hz
          refine zk_after (va_runV (C := (zk_nam K).cls) (b := B + a) (As := as.map (zk_v B X)) (rest := rest.map (zk_v B X)) ⟨hx, hb, hml, hown, hts⟩ hSp (cwV r3 hts (zk_good ?_) rfl rfl rfl ⟨rfl, w5, w6, by rw [w7, k1]⟩ ⟨by show zk_fr K + 1 ≤ R.frames; omega, by show 8 + (zk_mxl K + 11) + zk_lo K ≤ R.locals; omega⟩) ⟨zk_blind hEX, ?_, fun U hU hW => ⟨rfl, hpre U hU hW⟩⟩ rfl (by rw [List.length_map]; exact hlen) hlv.1 ?_ ?_ hd ?_) hS hn0 hs0 hmono hlv hK
          · intro w hw
            simp only [wsV, List.cons_append, List.nil_append, List.mem_cons] at hw
            rcases hw with rfl | rfl | rfl | rfl | rfl | hw
            · exact hl
            · exact (w9 e2).1
            · exact (w9 e2).2
            · exact w2
            · exact w1
            · exact hw
          · have g := va_recv (s := s) hKk hP hr1 (zk_w_get ha)
            rw [hr2, ← w3] at g
            exact g
          · show st.map (zk_v B X) = _
            rw [hst]
            simp [zk_v]
          · exact lv_room (by rw [zk_cat_sum]; exact hc2)
          · constructor <;> omega
      · exact False.elim hA
    · rename_i as a rest hpop
      obtain ⟨hst, hlen⟩ := zk_pop_sp hpop
      simp only [List.reverse_nil, List.nil_append, List.length_nil, Nat.add_zero] at hst hlen
      cases hc : (Nat.beq r1 6 && (Nat.blt 0 a && (Nat.ble a 36 && Nat.ble (zk_cat rest) 8))) with
      | false => rw [hc] at hA; exact False.elim hA
      | true =>
        rw [hc] at hA
        simp only [Bool.and_eq_true, zk_blt] at hc
        obtain ⟨hc1, hc3, hc4, hc2⟩ := hc
        have hc1 := Nat.eq_of_beq_eq_true hc1
        have hc4 := Nat.le_of_ble_eq_true hc4
        have hc2 := Nat.le_of_ble_eq_true hc2
        subst hc1
        obtain ⟨K, v, h', hmt, hSp, hmono, hroom, hK⟩ := hA
        obtain ⟨k1, k2, k3, k4⟩ := zk_okK_sp hmt hok
        have k4 : (Nat.beq (zk_kd K) 1 && Nat.beq (zk_own K) 18) = true := k4
        simp only [Bool.and_eq_true, zk_beq] at k4
        obtain ⟨e2, e3⟩ := k4
        have hMG := (hmf K hmt (by omega)).mf (by rw [e2]; decide)
        have hSp := hSp.1 hMG.1 (fun _ _ a2 r2 z => by have z2 := Value.retAddr.inj (List.cons.inj z).1; omega)
        obtain ⟨w1, w2, w3, w4, w5, w6, w7, w8, w9, w10⟩ := zk_mw hMG.2
        have hl := zk_link hm hmt (by omega) (by omega) (by omega)
        have hcn : (zk_nam K).cls = "java/lang/String" := by rw [w3, e3]; rfl
        obtain ⟨hXa, cell, g1, g2, g3⟩ := hsc s hE a hc3 hc4
        intro H locs ls hlv hP hS
        refine W.zsz fun hz => ?_
        have hpre := zk_pre hEX F0' hn0 hsz hP hS hz
        refine zk_after (va_runV (C := (zk_nam K).cls) (b := X a) (As := as.map (zk_v B X)) (rest := rest.map (zk_v B X)) ⟨hx, hb, hml, hown, hts⟩ hSp (cwV r3 hts (zk_good ?_) rfl rfl rfl ⟨rfl, w5, w6, by rw [w7, k1]⟩ ⟨by show zk_fr K + 1 ≤ R.frames; omega, by show 8 + (zk_mxl K + 11) + zk_lo K ≤ R.locals; omega⟩) ⟨zk_blind hEX, ⟨cell, by rw [hS.2.1 _ (Nat.lt_of_lt_of_le hXa hB) (Nat.not_le.mpr hXa)]; exact g1, g2, by rw [hcn]; exact g3⟩, fun U hU hW => ⟨rfl, hpre U hU hW⟩⟩ rfl (by rw [List.length_map]; exact hlen) hlv.1 ?_ ?_ hd ?_) hS hn0 hs0 hmono hlv hK
        · intro w hw
          simp only [wsV, List.cons_append, List.nil_append, List.mem_cons] at hw
          rcases hw with rfl | rfl | rfl | rfl | rfl | hw
          · exact hl
          · exact (w9 e2).1
          · exact (w9 e2).2
          · exact w2
          · exact w1
          · exact hw
        · show st.map (zk_v B X) = _
          rw [hst]
          simp [zk_v]
        · exact lv_room (by rw [zk_cat_sum]; exact hc2)
        · constructor <;> omega
    · exact False.elim hA
  case invokestatic idx =>
    simp only [zk_okL, Bool.and_eq_true, zk_beq] at hk
    obtain ⟨rfl, hm, hok⟩ := hk
    by_cases h7 : r1 = 7
    · subst h7
      exact hLed idx r2 r3 pc L st h hd hm hn0 hs0 hA
    · simp only [zk_x5] at hA
      split at hA
      · split at hA
        · rename_i as rest hpop
          obtain ⟨hst, hlen⟩ := zk_pop_sp hpop
          simp only [List.reverse_nil, List.nil_append, List.length_nil, Nat.add_zero] at hst hlen
          cases hc : Nat.ble (zk_cat rest) 8 with
          | false => rw [hc] at hA; exact False.elim hA
          | true =>
            rw [hc] at hA
            have hc2 := Nat.le_of_ble_eq_true hc
            obtain ⟨K, v, h', hmt, hSp, hmono, hroom, hK⟩ := hA
            obtain ⟨k1, k2, k3, k4⟩ := zk_okK_sp hmt hok
            rcases hmf K hmt (by omega) with hmath | hMG
            · exact zk_math hx hb hml hown hts hm hmt hmath (hSp.2 hmath.1) hst hc2 k2 k3 hfr hlo hroom hd hK
            have hSp := hSp.1 hMG.1 (fun z => absurd ((show zk_kd K = 0 from Nat.eq_of_beq_eq_true k4).symm.trans z) (by decide))
            obtain ⟨w1, w2, w3, w4, w5, w6, w7, w8, w9, w10⟩ := zk_mw hMG.2
            have k4 : Nat.beq (zk_kd K) 0 = true := k4
            have e2 := Nat.eq_of_beq_eq_true k4
            have hl := zk_link hm hmt (by omega) (by omega) (by omega)
            intro H locs ls hlv hP hS
            refine W.zsz fun hz => ?_
            have hpre := zk_pre hEX F0' hn0 hsz hP hS hz
            refine zk_after (va_runS (As := as.map (zk_v B X)) (rest := rest.map (zk_v B X)) ⟨hx, hb, hml, hown, hts⟩ hSp (va_cwS r3 hts (zk_good ?_) rfl rfl rfl ⟨w5, w6, by rw [w7, k1]⟩ ⟨by show zk_fr K + 1 ≤ R.frames; omega, by show 8 + (zk_mxl K + 11) + zk_lo K ≤ R.locals; omega⟩) ⟨zk_blind hEX, fun U hU hW => ⟨rfl, hpre U hU hW⟩⟩ rfl (by rw [List.length_map]; exact hlen) hlv.1 ?_ ?_ hd ?_) hS hn0 hs0 hmono hlv hK
            · intro w hw
              simp only [va_wsS, List.cons_append, List.nil_append, List.mem_cons] at hw
              rcases hw with rfl | rfl | rfl | rfl | hw
              · exact hl
              · exact w8 e2
              · exact w2
              · exact w1
              · exact hw
            · show st.map (zk_v B X) = _
              rw [hst]
              simp
            · exact lv_room (by rw [zk_cat_sum]; exact hc2)
            · constructor <;> omega
        · exact False.elim hA
      · exact absurd rfl h7
      · split at hA
        · rename_i n dp a1 sp a0 rest
          split at hA
          · rename_i n0' f n1 g ha0 ha1
            cases hc : Nat.ble (zk_cat rest) 8 with
            | false => rw [hc] at hA; exact False.elim hA
            | true =>
              rw [hc] at hA
              have hc2 := Nat.le_of_ble_eq_true hc
              obtain ⟨hcp, hroom, hK⟩ := hA
              unfold zk_cpOk at hcp
              simp only [Bool.and_eq_true, decide_eq_true_eq] at hcp
              obtain ⟨p1, p2, p3, p4, p5⟩ := hcp
              obtain ⟨pw, hpw⟩ := zk_memM_sp hm
              have hw : zk_isw pw (.methodLink (zk_cn (zk_own M)) idx arraycopyName) = true := zk_rm_ok _ hpw
              have hok : (Nat.ble 1 (zk_fr M) && Nat.ble 48 (zk_lo M)) = true := hok
              simp only [Bool.and_eq_true] at hok
              have o1 := Nat.le_of_ble_eq_true hok.1
              have o2 := Nat.le_of_ble_eq_true hok.2
              intro H locs ls hlv hP hS
              exact va_copyi hx hb (hml.trans hlv.1.symm) hown (hts _ (zk_isw_mem hw)) (hts _ (zk_isw_mem zk_w1)) (hts _ (zk_isw_mem zk_w2)) (hts _ (zk_isw_mem zk_w3)) hKk hP (zk_w_D h) hS a0 a1 0 0 (zk_w_get ha0) (zk_w_get ha1) rfl rfl rfl p1 p2 p3 p4 p5 (fun _ _ => rfl) (by omega) (by rw [zk_cat_sum]; show zk_cat rest + (7 + 11) ≤ _; omega) hd (fun H1 locs1 g1 _ g2 => zk_arr (x := (n1, .inl g)) (y := (n1, .inl (va_cpy f g sp.toNatClampNeg dp.toNatClampNeg n.toNatClampNeg))) ha1 rfl hlv hK H1 locs1 g1 g2)
          · exact False.elim hA
        · exact False.elim hA
      · exact False.elim hA
  case invokespecial idx =>
    simp only [zk_okL, Bool.and_eq_true, zk_beq] at hk
    obtain ⟨rfl, hm, hok⟩ := hk
    simp only [zk_x5] at hA
    split at hA
    · split at hA
      · rename_i a rest
        cases hc : Nat.ble (zk_cat rest) 8 with
        | false => rw [hc] at hA; exact False.elim hA
        | true =>
          rw [hc] at hA
          have hc2 := Nat.le_of_ble_eq_true hc
          obtain ⟨pw, hpw⟩ := zk_memM_sp hm
          have hw : zk_isw pw (.methodLink (zk_cn (zk_own M)) idx objectInit) = true := zk_rm_ok _ hpw
          have hok : (Nat.ble 1 (zk_fr M) && Nat.ble 20 (zk_lo M)) = true := hok
          simp only [Bool.and_eq_true] at hok
          have o1 := Nat.le_of_ble_eq_true hok.1
          have o2 := Nat.le_of_ble_eq_true hok.2
          intro H locs ls hlv hP hS
          refine W.objInit hx hb hown (hts _ (zk_isw_mem hw)) (hts _ (zk_isw_mem zk_w4)) (hts _ (zk_isw_mem zk_w5)) rfl (by rw [hml]; exact hlv.1) rfl hd (by omega) (Nat.le_trans (Nat.add_le_add_right (lv_room (by rw [zk_cat_sum]; exact hc2)) 12) (by omega)) ?_
          exact hA.2 H locs ls (zk_nmL hlv) hP hS
      · exact False.elim hA
    · split at hA
      · rename_i as a rest hpop
        obtain ⟨hst, hlen⟩ := zk_pop_sp hpop
        simp only [List.reverse_nil, List.nil_append, List.length_nil, Nat.add_zero] at hst hlen
        cases hc : Nat.ble (zk_cat rest) 8 with
        | false => rw [hc] at hA; exact False.elim hA
        | true =>
          rw [hc] at hA
          have hc2 := Nat.le_of_ble_eq_true hc
          obtain ⟨K, v, h', hmt, hSp, hmono, hroom, hK⟩ := hA
          obtain ⟨k1, k2, k3, k4⟩ := zk_okK_sp hmt hok
          have k4 : Nat.beq (zk_kd K) 2 = true := k4
          have e2 := Nat.eq_of_beq_eq_true k4
          have hMG := (hmf K hmt (by omega)).mf (by rw [e2]; decide)
          have hSp := hSp.1 hMG.1 (fun z => absurd (e2.symm.trans z) (by decide))
          obtain ⟨w1, w2, w3, w4, w5, w6, w7, w8, w9, w10⟩ := zk_mw hMG.2
          have hl := zk_link hm hmt (by omega) (by omega) (by omega)
          obtain ⟨i1, i2, i3⟩ := w10 e2
          rw [i3] at hSp w1
          intro H locs ls hlv hP hS
          refine W.zsz fun hz => ?_
          have hpre := zk_pre hEX F0' hn0 hsz hP hS hz
          refine zk_after (va_runI (b := B + a) (As := as.map (zk_v B X)) (rest := rest.map (zk_v B X)) ⟨hx, hb, hml, hown, hts⟩ hSp (cwI r3 hts (zk_good ?_) rfl rfl rfl (hts _ w2) (hts _ hl) (hts _ i1) i2 ⟨w5, w6, by rw [w7, k1]⟩ ⟨by show zk_fr K + 1 ≤ R.frames; omega, by show 8 + (zk_mxl K + 11) + zk_lo K ≤ R.locals; omega⟩) ⟨zk_blind hEX, fun U hU hW => ⟨rfl, hpre U hU hW⟩⟩ rfl (by rw [List.length_map]; exact hlen) hlv.1 ?_ ?_ hd ?_) hS hn0 hs0 hmono hlv hK
          · intro w hw
            rcases List.mem_cons.mp hw with rfl | hw
            · exact w1
            · exact hw
          · show st.map (zk_v B X) = _
            rw [hst]
            simp [zk_v]
          · exact lv_room (by rw [zk_cat_sum]; exact hc2)
          · constructor <;> omega
      · exact False.elim hA
    · split at hA
      · rename_i as a rest hpop
        obtain ⟨hst, hlen⟩ := zk_pop_sp hpop
        simp only [List.reverse_nil, List.nil_append, List.length_nil, Nat.add_zero] at hst hlen
        cases hc : Nat.ble (zk_cat rest) 8 with
        | false => rw [hc] at hA; exact False.elim hA
        | true =>
          rw [hc] at hA
          have hc2 := Nat.le_of_ble_eq_true hc
          obtain ⟨K, v, h', hmt, hSp, hmono, hroom, hK⟩ := hA
          obtain ⟨k1, k2, k3, k4⟩ := zk_okK_sp hmt hok
          have k4 : Nat.beq (zk_kd K) 2 = true := k4
          have e2 := Nat.eq_of_beq_eq_true k4
          have hMG := (hmf K hmt (by omega)).mf (by rw [e2]; decide)
          have hSp := hSp.1 hMG.1 (fun z => absurd (e2.symm.trans z) (by decide))
          obtain ⟨w1, w2, w3, w4, w5, w6, w7, w8, w9, w10⟩ := zk_mw hMG.2
          obtain ⟨pw, hpw⟩ := zk_memM_sp hm
          have hw0 := zk_rm_ok _ hpw
          have hw0 : (match zk_mt r2 with
            | some K => decide (lw_tbl[pw]? = some (.methodLinkNest (zk_cn (zk_own M)) idx (zk_nam K) "BasketKeep"))
            | none => false) = true := hw0
          rw [hmt] at hw0
          have hl := hnest s hE pw _ (of_decide_eq_true hw0) rfl
          obtain ⟨i1, i2, i3⟩ := w10 e2
          rw [i3] at hSp w1
          intro H locs ls hlv hP hS
          refine W.zsz fun hz => ?_
          have hpre := zk_pre hEX F0' hn0 hsz hP hS hz
          refine zk_after (va_runIN (host := "BasketKeep") (b := B + a) (As := as.map (zk_v B X)) (rest := rest.map (zk_v B X)) ⟨hx, hb, hml, hown, hts⟩ hSp ⟨va_cnB r3 hts (zk_good ?_) rfl rfl rfl hl (hts _ w2) ⟨w5, w6, by rw [w7, k1]⟩ ⟨by show zk_fr K + 1 ≤ R.frames; omega, by show 8 + (zk_mxl K + 11) + zk_lo K ≤ R.locals; omega⟩, i2, hts _ i1⟩ ⟨zk_blind hEX, fun U hU hW => ⟨rfl, hpre U hU hW⟩⟩ rfl (by rw [List.length_map]; exact hlen) hlv.1 ?_ ?_ hd ?_) hS hn0 hs0 hmono hlv hK
          · intro w hw
            rcases List.mem_cons.mp hw with rfl | hw
            · exact w1
            · exact hw
          · show st.map (zk_v B X) = _
            rw [hst]
            simp [zk_v]
          · exact lv_room (by rw [zk_cat_sum]; exact hc2)
          · constructor <;> omega
      · exact False.elim hA
    · exact False.elim hA
  all_goals first | exact absurd (show (0 : Nat) = 5 from hg) (by decide) | exact absurd (show (1 : Nat) = 5 from hg) (by decide) | exact absurd (show (2 : Nat) = 5 from hg) (by decide) | exact absurd (show (3 : Nat) = 5 from hg) (by decide) | exact absurd (show (4 : Nat) = 5 from hg) (by decide)
end ZKT
