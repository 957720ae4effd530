/-! one step of the small machine is a step of the Statement's machine -/
/-- what stays the same while a method runs -/
def zk_Fx (EX : State → Prop) (D : va_G) (E : Nat → ClassId) (B : Nat) (X : Nat → Nat) (Ls : Nat) (xs : Nat → Int32) (M : zk_M) (p : Program) (R : Room) (s : State) (m : MethodId) (args : Array Value) (meth : Method) (c : Code) : Prop :=
  p.tables.exec = Jvm.exec ∧ c.code = zk_byt M ∧ meth.sig.returnType = zk_ret M ∧ c.maxLocals = zk_mxl M ∧ s.vm.findClass (zk_cn (zk_own M)) = some m.cls ∧ (∀ w ∈ zk_TB, w.before args s = true) ∧ meth.locks = false ∧ (zk_kd M = 2 → meth.name = "<init>") ∧ zk_fr M ≤ R.frames ∧ zk_lo M ≤ R.locals ∧ zk_okC M = true ∧ va_K D zk_cls (zk_tys E) s ∧ B ≤ s.heap.size ∧ va_X (X 0) Ls xs s s.heap ∧ X 0 < B ∧ EX s
/-- from a place in the method the Statement's machine comes to Q -/
def zk_K (D : va_G) (E : Nat → ClassId) (B : Nat) (X : Nat → Nat) (M : zk_M) (p : Program) (l : Launch) (e : Env) (R : Room) (s : State) (m : MethodId) (args : Array Value) (below : List Frame) (meth : Method) (c : Code) (n0 s0 : Nat) (Q : State → Prop) (f : zk_F) (h : zk_H) : Prop :=
  ∀ (H : Heap) (locs : List Loc) (ls : Array Slot), lv_has ls (zk_mxl M) (zk_lv B X f.2.1) → va_P D zk_cls (zk_w E B X 0 h) H → va_S (fun q => B ≤ q) s.heap H locs → W p l e R s m args below meth c H locs (h.length - n0) (zk_sl h - s0) Q (F0 m f.1 ls (f.2.2.map (zk_v B X)))
def zk_Qr (D : va_G) (E : Nat → ClassId) (B : Nat) (X : Nat → Nat) (v : Option Value) (h : zk_H) : Array Value → State → Outcome → State → Prop := match v with
  | none => va_Qv (fun _ : Unit => True) (fun _ t => va_P D zk_cls (zk_w E B X 0 h) t.heap) (fun q => B ≤ q)
  | some (.int x) => va_Qi (fun r (_ : Unit) => r = x) (fun _ t => va_P D zk_cls (zk_w E B X 0 h) t.heap) (fun q => B ≤ q)
  | some (.long x) => va_Ql (fun r (_ : Unit) => r = x) (fun _ t => va_P D zk_cls (zk_w E B X 0 h) t.heap) (fun q => B ≤ q)
  | _ => fun _ _ _ _ => False
/-- the world in which a method is called -/
def zk_Wd (EX : State → Prop) (D : va_G) (E : Nat → ClassId) (B : Nat) (X : Nat → Nat) (Ls : Nat) (xs : Nat → Int32) (h : zk_H) (U : State) : Prop :=
  U.heap.size = B + h.length ∧ va_P D zk_cls (zk_w E B X 0 h) U.heap ∧ va_K D zk_cls (zk_tys E) U ∧ va_X (X 0) Ls xs U U.heap ∧ X 0 < B ∧ EX U
/-- methods that are told as functions and called by laws of their own: the law's led, Math.max and min -/
def zk_sp (K : zk_M) : Bool := Nat.beq (zk_own K) 13 || Nat.beq (zk_own K) 16
def zk_Sp (EX : State → Prop) (D : va_G) (E : Nat → ClassId) (B : Nat) (X : Nat → Nat) (Ls : Nat) (xs : Nat → Int32) (l : Launch) (K : zk_M) (as : List Value) (h : zk_H) (v : Option Value) (h' : zk_H) : Prop :=
  (zk_sp K = false → (zk_kd K = 1 → zk_own K = 18 → ∀ (a : Nat) (r : List Value), as = .retAddr a :: r → 0 < a) → Met l (zk_nam K) (.code (zk_nam K) (zk_byt K) (zk_mxl K) (zk_ret K) :: zk_TB) { frames := zk_fr K, cells := h'.length - h.length, slots := zk_sl h' - zk_sl h, locals := zk_lo K } (va_Pc (as.map (zk_v B X)) (zk_Wd EX D E B X Ls xs h)) (zk_Qr D E B X v h') (h'.length - h.length) (zk_sl h' - zk_sl h) (fun q => B ≤ q)) ∧ (zk_sp K = true → ∃ k, zk_mt k = some K ∧ zk_ex k as h = some (v, h'))
/-- what must hold behind one step -/
def zk_Af (EX : State → Prop) (D : va_G) (E : Nat → ClassId) (B : Nat) (X : Nat → Nat) (Ls : Nat) (xs : Nat → Int32) (M : zk_M) (p : Program) (l : Launch) (e : Env) (R : Room) (s : State) (m : MethodId) (args : Array Value) (below : List Frame) (meth : Method) (c : Code) (n0 s0 : Nat) (Q : State → Prop) (h : zk_H) (ev : zk_E) : Prop := match ev with
  | none => False
  | some (.inl (f', h')) => (h'.length - n0 ≤ R.cells ∧ zk_sl h' - s0 ≤ R.slots) ∧ zk_K D E B X M p l e R s m args below meth c n0 s0 Q f' h'
  | some (.inr (.inl (b, f', h'))) => b = true ∧ (h'.length - n0 ≤ R.cells ∧ zk_sl h' - s0 ≤ R.slots) ∧ zk_K D E B X M p l e R s m args below meth c n0 s0 Q f' h'
  | some (.inr (.inr (.inl (b, f1, f2)))) => (b = true → zk_K D E B X M p l e R s m args below meth c n0 s0 Q f1 h) ∧ (b = false → zk_K D E B X M p l e R s m args below meth c n0 s0 Q f2 h)
  | some (.inr (.inr (.inr (.inl (b, v))))) => b = true ∧ Q = MQ below (zk_Qr D E B X v h) args s (h.length - n0) (zk_sl h - s0) (fun q => B ≤ q)
  | some (.inr (.inr (.inr (.inr (k, as, f'))))) => ∃ (K : zk_M) (v : Option Value) (h' : zk_H), zk_mt k = some K ∧ zk_Sp EX D E B X Ls xs l K as h v h' ∧ (h.length ≤ h'.length ∧ zk_sl h ≤ zk_sl h') ∧ (h'.length - n0 ≤ R.cells ∧ zk_sl h' - s0 ≤ R.slots) ∧ zk_K D E B X M p l e R s m args below meth c n0 s0 Q (zk_push M f' v) h'
section ZKO
variable {p : Program} {l : Launch} {e : Env} {R : Room} {s : State} {m : MethodId} {args : Array Value} {below : List Frame} {meth : Method} {c : Code} {Q : State → Prop}
variable {EX : State → Prop} {D : va_G} {E : Nat → ClassId} {B : Nat} {X : Nat → Nat} {Ls : Nat} {xs : Nat → Int32} {M : zk_M} {n0 s0 : Nat}
theorem zk_g1 {i : Instr} {len r1 r2 r3 pc : Nat} {cc : Int32} {L : zk_L} {st : List Value} {h : zk_H} (F : zk_Fx EX D E B X Ls xs M p R s m args meth c) (hd : decode (zk_byt M) pc = .ok (i, len)) (hk : zk_okL zk_mt M pc i len r1 r2 r3 cc = true)
    (hA : zk_Af EX D E B X Ls xs M p l e R s m args below meth c n0 s0 Q h (zk_x1 M i r1 cc pc L st h)) : zk_K D E B X M p l e R s m args below meth c n0 s0 Q (pc, L, st) h := by
  obtain ⟨hx, hb, -⟩ := F
  cases i
  case iconst n =>
    simp only [zk_okL, Bool.and_eq_true, zk_beq, decide_eq_true_eq] at hk
    obtain ⟨rfl, hv⟩ := hk
    intro H locs ls hl hP hS
    exact lv_iconst hx hb hd hv (hA.2 H locs ls (zk_nmL hl) hP hS)
  case bipush n =>
    simp only [zk_okL, Bool.and_eq_true, zk_beq, decide_eq_true_eq] at hk
    obtain ⟨rfl, hv⟩ := hk
    intro H locs ls hl hP hS
    exact lv_bipush hx hb hd hv (hA.2 H locs ls (zk_nmL hl) hP hS)
  case sipush n =>
    simp only [zk_okL, Bool.and_eq_true, zk_beq, decide_eq_true_eq] at hk
    obtain ⟨rfl, hv⟩ := hk
    intro H locs ls hl hP hS
    exact lv_sipush hx hb hd hv (hA.2 H locs ls (zk_nmL hl) hP hS)
  case lconst n =>
    simp only [zk_okL, zk_beq] at hk
    subst hk
    intro H locs ls hl hP hS
    rcases n with ⟨_ | _ | n, hn⟩
    · exact lv_lconst (v := 0) hx hb hd rfl (hA.2 H locs ls (zk_nmL hl) hP hS)
    · exact lv_lconst (v := 1) hx hb hd rfl (hA.2 H locs ls (zk_nmL hl) hP hS)
    · omega
  case iload_n k =>
    simp only [zk_okL, zk_beq] at hk
    subst hk
    simp only [zk_x1] at hA
    split at hA
    · rename_i x hq
      intro H locs ls hl hP hS
      exact lv_iload_n hx hb hd rfl (zk_get hl hq) (hA.2 H locs ls (zk_nmL hl) hP hS)
    · exact hA.elim
  case iload k =>
    simp only [zk_okL, zk_beq] at hk
    subst hk
    simp only [zk_x1] at hA
    split at hA
    · rename_i x hq
      intro H locs ls hl hP hS
      exact lv_iload hx hb hd (zk_get hl hq) (hA.2 H locs ls (zk_nmL hl) hP hS)
    · exact hA.elim
  case lload_n k =>
    simp only [zk_okL, zk_beq] at hk
    subst hk
    simp only [zk_x1] at hA
    split at hA
    · rename_i x hq
      intro H locs ls hl hP hS
      exact lv_lload_n hx hb hd rfl (zk_get hl hq) (hA.2 H locs ls (zk_nmL hl) hP hS)
    · exact hA.elim
  case lload k =>
    simp only [zk_okL, zk_beq] at hk
    subst hk
    simp only [zk_x1] at hA
    split at hA
    · rename_i x hq
      intro H locs ls hl hP hS
      exact lv_lload hx hb hd (zk_get hl hq) (hA.2 H locs ls (zk_nmL hl) hP hS)
    · exact hA.elim
  case aload_n k =>
    simp only [zk_okL, zk_beq] at hk
    subst hk
    simp only [zk_x1] at hA
    split at hA
    · rename_i x hq
      intro H locs ls hl hP hS
      exact lv_aload_n hx hb hd rfl (zk_get hl hq) (hA.2 H locs ls (zk_nmL hl) hP hS)
    · rename_i x hq
      intro H locs ls hl hP hS
      exact lv_aload_n hx hb hd rfl (zk_get hl hq) (hA.2 H locs ls (zk_nmL hl) hP hS)
    · exact hA.elim
  case aload k =>
    simp only [zk_okL, zk_beq] at hk
    subst hk
    simp only [zk_x1] at hA
    split at hA
    · rename_i x hq
      intro H locs ls hl hP hS
      exact lv_aload hx hb hd (zk_get hl hq) (hA.2 H locs ls (zk_nmL hl) hP hS)
    · rename_i x hq
      intro H locs ls hl hP hS
      exact lv_aload hx hb hd (zk_get hl hq) (hA.2 H locs ls (zk_nmL hl) hP hS)
    · exact hA.elim
  case istore_n k =>
    simp only [zk_okL, zk_beq] at hk
    subst hk
    simp only [zk_x1] at hA
    split at hA
    · rename_i x rest
      cases hn : Nat.blt k.val (zk_mxl M) with
      | false => rw [hn] at hA; exact hA.elim
      | true =>
        rw [hn] at hA
        intro H locs ls hl hP hS
        exact lv_istore_n hx hb hd rfl hl (zk_bltI.mp hn) rfl (fun ls' hl' => hA.2 H locs ls' (zk_nmL (zk_st1L rfl hl')) hP hS)
    · exact hA.elim
  case istore k =>
    simp only [zk_okL, zk_beq] at hk
    subst hk
    simp only [zk_x1] at hA
    split at hA
    · rename_i x rest
      cases hn : Nat.blt k (zk_mxl M) with
      | false => rw [hn] at hA; exact hA.elim
      | true =>
        rw [hn] at hA
        intro H locs ls hl hP hS
        exact lv_istore hx hb hd hl (zk_bltI.mp hn) rfl (fun ls' hl' => hA.2 H locs ls' (zk_nmL (zk_st1L rfl hl')) hP hS)
    · exact hA.elim
  case lstore_n k =>
    simp only [zk_okL, zk_beq] at hk
    subst hk
    simp only [zk_x1] at hA
    split at hA
    · rename_i x rest
      cases hn : Nat.blt (k.val + 1) (zk_mxl M) with
      | false => rw [hn] at hA; exact hA.elim
      | true =>
        rw [hn] at hA
        intro H locs ls hl hP hS
        exact lv_lstore_n hx hb hd rfl hl (zk_bltI.mp hn) rfl (fun ls' hl' => hA.2 H locs ls' (zk_nmL (zk_st2L rfl hl')) hP hS)
    · exact hA.elim
  case lstore k =>
    simp only [zk_okL, zk_beq] at hk
    subst hk
    simp only [zk_x1] at hA
    split at hA
    · rename_i x rest
      cases hn : Nat.blt (k + 1) (zk_mxl M) with
      | false => rw [hn] at hA; exact hA.elim
      | true =>
        rw [hn] at hA
        intro H locs ls hl hP hS
        exact lv_lstore hx hb hd hl (zk_bltI.mp hn) rfl (fun ls' hl' => hA.2 H locs ls' (zk_nmL (zk_st2L rfl hl')) hP hS)
    · exact hA.elim
  case astore_n k =>
    simp only [zk_okL, zk_beq] at hk
    subst hk
    simp only [zk_x1] at hA
    split at hA
    · rename_i x rest
      cases hn : Nat.blt k.val (zk_mxl M) with
      | false => rw [hn] at hA; exact hA.elim
      | true =>
        rw [hn] at hA
        intro H locs ls hl hP hS
        exact lv_astore_n hx hb hd rfl hl (zk_bltI.mp hn) rfl (fun ls' hl' => hA.2 H locs ls' (zk_nmL (zk_st1L rfl hl')) hP hS)
    · exact hA.elim
  case astore k =>
    simp only [zk_okL, zk_beq] at hk
    subst hk
    simp only [zk_x1] at hA
    split at hA
    · rename_i x rest
      cases hn : Nat.blt k (zk_mxl M) with
      | false => rw [hn] at hA; exact hA.elim
      | true =>
        rw [hn] at hA
        intro H locs ls hl hP hS
        exact lv_astore hx hb hd hl (zk_bltI.mp hn) rfl (fun ls' hl' => hA.2 H locs ls' (zk_nmL (zk_st1L rfl hl')) hP hS)
    · exact hA.elim
  case iinc k n =>
    simp only [zk_okL, Bool.and_eq_true, zk_beq, decide_eq_true_eq] at hk
    obtain ⟨rfl, hv⟩ := hk
    simp only [zk_x1] at hA
    split at hA
    · rename_i x hq
      cases hn : Nat.blt k (zk_mxl M) with
      | false => rw [hn] at hA; exact hA.elim
      | true =>
        rw [hn] at hA
        intro H locs ls hl hP hS
        obtain ⟨j, hj⟩ := List.getElem?_of_mem (List.mem_map.mpr ⟨(k, Value.int x), zk_look_mem hq, rfl⟩ : (k, zk_v B X (.int x)) ∈ zk_lv B X L)
        exact lv_iinc hx hb hd hl (k := j) hj (by rw [hv]) (zk_bltI.mp hn) rfl (fun ls' hl' => hA.2 H locs ls' (zk_nmL (zk_st1L rfl hl')) hP hS)
    · exact hA.elim
  case dup =>
    simp only [zk_okL, zk_beq] at hk
    subst hk
    simp only [zk_x1] at hA
    split at hA
    · intro H locs ls hl hP hS
      exact lv_dup hx hb hd rfl (hA.2 H locs ls (zk_nmL hl) hP hS)
    · intro H locs ls hl hP hS
      exact lv_dup hx hb hd rfl (hA.2 H locs ls (zk_nmL hl) hP hS)
    · exact hA.elim
  case dup2 =>
    simp only [zk_okL, zk_beq] at hk
    subst hk
    simp only [zk_x1] at hA
    split at hA
    · intro H locs ls hl hP hS
      exact lv_dup2_11 hx hb hd rfl rfl (hA.2 H locs ls (zk_nmL hl) hP hS)
    · exact hA.elim
  case pop =>
    simp only [zk_okL, zk_beq] at hk
    subst hk
    simp only [zk_x1] at hA
    split at hA
    · intro H locs ls hl hP hS
      exact lv_pop hx hb hd rfl (hA.2 H locs ls (zk_nmL hl) hP hS)
    · exact hA.elim
  case goto off =>
    simp only [zk_okL, Bool.and_eq_true, zk_beq, decide_eq_true_eq] at hk
    obtain ⟨rfl, hv⟩ := hk
    intro H locs ls hl hP hS
    exact lv_goto hx hb hd hv (hA.2 H locs ls (zk_nmL hl) hP hS)
  all_goals exact False.elim hA
end ZKO
