/-! THE CLAIM OUT OF ONE WALK OF THE LAW'S BODY. Your part is whole_start (and what it stands on); all else here is the same for every law, but numbers. -/
def R_law : String := "BasketKeepLaw"
def lw_P (b : Addr) (xs : List Int32) (args : Array Value) (s : State) : Prop := args = #[.ref b] ∧ s.IntsAt b xs ∧ xs.length ≤ 3072 ∧ (Jvm.Cond.and given_1 narrow_1).before args s = true
def lw_Q (_ : Array Value) (s : State) (o : Outcome) (t : State) : Prop := o = .returned (some (.int 1)) ∧ Framed s o t [] 601024 7293034
def lw_Z (below : List Frame) (a : Array Value) (s : State) : State → Prop := fun t => ∃ o, t.status = .running ∧ Ended t below o ∧ lw_Q a s o t
/-- the law's own end, with 1 on the stack, nothing written that was there before, its room as the claim has it -/
theorem lw_ret {p : Program} {l : Launch} {e : Env} {s : State} {m : MethodId} {below : List Frame} {meth : Method} {c : Code} {b : Nat} (hx : p.tables.exec = Jvm.exec) (hb : c.code = code) (hr : meth.sig.returnType = ret) (hlocks : meth.locks = false) {pc : Nat} {H : Heap} {ls : Array Slot} (hdg : decode code pc = .ok (.ireturn, 1)) : W p l e room_1 s m #[Value.ref b] below meth c H [] 601024 7293034 (lw_Z below #[Value.ref b] s) (F0 m pc ls [.int 1]) := by
  intro T hT X
  obtain ⟨fs, hret, hrun, hended, hW, hframe⟩ := X.leave (v := some (.int 1)) (hlocks := hlocks) (fun h => by rw [hr] at h; cases h)
  have hmeth' : T.vm.method? m = some meth := X.method'
  refine ⟨T.setFrames fs, ?_, .returned (some (.int 1)), hrun, hended, rfl, ⟨_, rfl⟩, hW, hframe⟩
  jvm_step X.here [X.here.top, hx, hb, hdg, hmeth', hr, ret, narrow_b1]
  (try refine ⟨rfl, ?_⟩); (try refine ⟨rfl, ?_⟩)
  first | (intro acts; rw [hret _ acts rfl rfl rfl]) | rw [hret _ _ rfl rfl rfl]
  exact Steps.refl _
/-- what holds at the law's entry: the machine, the code, the tables' words (any of lw_tbl by 'hts w (by decide +kernel)'), the script of L ints xs at the cell b, what the Statement gives of the start (any of its parts by flat_of_before) -/
def lw_At (p : Program) (s : State) (m : MethodId) (meth : Method) (c : Code) (b L : Nat) (xs : Nat → Int32) : Prop :=
  p.tables.exec = Jvm.exec ∧ c.code = code ∧ meth.sig.returnType = ret ∧ c.maxLocals = 7 ∧ s.vm.findClass R_law = some m.cls ∧ (∀ w ∈ lw_tbl, w.before #[Value.ref b] s = true) ∧ va_X b L xs s s.heap ∧ b < s.heap.size ∧ meth.locks = false ∧ (Jvm.Cond.and given_1 narrow_1).before #[Value.ref b] s = true
/-! the law's start, out of the small machine's run -/
theorem zk_sbn {s t : State} {L : List Loc} {c n c' n' : Nat} (h : s.sameButNew t L c n) (hL : ∀ q ∈ L, s.heap.size ≤ q.base) (hc : c ≤ c') (hn : n ≤ n') : s.sameButNew t [] c' n' := by
  obtain ⟨h1, h2, h3, h4, h5, h6⟩ := h
  refine ⟨h1, h2, Nat.le_trans h3 (Nat.add_le_add_left hc _), h4, Nat.le_trans h5 hn, fun a cc hcc => ?_⟩
  obtain ⟨c2, g1, g2, g3, g4⟩ := h6 a cc hcc
  refine ⟨c2, g1, g2, g3, fun i _ => g4 i (fun z => ?_)⟩
  have h7 := hL _ z
  have h8 := (Array.getElem?_eq_some_iff.mp hcc).1
  exact absurd h8 (Nat.not_lt.mpr h7)
theorem zk_slH (v : Nat → Nat → Int32) (w : Nat → Nat → Int64) (t : zk_H) : zk_sl (zH v w t) = zk_sl (zH v w []) + zk_sl t := by
  have e : ∀ (a b : zk_H), zk_sl (a ++ b) = zk_sl a + zk_sl b := by
    intro a
    induction a with
    | nil => intro b; simp [zk_sl]
    | cons x a ih => intro b; simp [zk_sl, ih b, Nat.add_assoc]
  rw [← e]
  rfl
set_option maxRecDepth 20000 in
theorem zk_slH0 (v : Nat → Nat → Int32) (w : Nat → Nat → Int64) : zk_sl (zH v w []) ≤ 8000 := by
  simp only [zH, zk_sl, zk_sc, List.length_cons, List.length_nil]
  omega
theorem zk_start {p : Program} {e : Env} {s : State} {m : MethodId} {below : List Frame} {meth : Method} {c : Code} {EX : State → Prop} {D : va_G} {E : Nat → ClassId} {X : Nat → Nat} (l : Launch) {b L : Nat} {xs : Nat → Int32} (hL : L ≤ 3072) (C0 : lw_At p s m meth c b L xs) (hX0 : X 0 = b) (hC : zk_okC zm_311 = true) (N : zk_Env EX s.heap.size X) (hK : va_K D zk_cls (zk_tys E) s) (hEX : EX s)
    (hex : ∀ (k : Nat) (K : zk_M) (as : List Value) (h : zk_H) (v : Option Value) (h' : zk_H), zk_mt k = some K → zk_ct K = [] → zk_ex k as h = some (v, h') → zk_Sp EX D E s.heap.size X L xs l K as h v h' ∧ zk_le h h')
    (h13 : ∀ k K, zk_mt k = some K → k ≠ 2 → k ≠ 311 → zk_own K ≠ 13) (hnl : ∀ (k : Nat) (K : zk_M), zk_mt k = some K → k = 2 → zk_ct K = []) (h309 : zk_mt 311 = none)
    (hLed : ∀ (Q : State → Prop), zk_LedH EX D E s.heap.size X L xs zm_311 p l e room_1 s m #[Value.ref b] below meth c 0 0 Q) :
    W p l e room_1 s m #[Value.ref b] below meth c s.heap [] 0 0 (lw_Z below #[Value.ref b] s) (entryFrame m ([Value.ref b] : List Value).toArray 7) := by
  obtain ⟨hx, hcode, hret, hml, hown, hts, hXa, hbl, hlocks, hgv⟩ := C0
  obtain ⟨v', w', t', ⟨n, hn⟩, ht1, ht2⟩ := zl_law (Ls := L) (xs := xs) hL
  have hlen : (zH v' w' t').length = 87 + t'.length := by
    show t'.length + 87 = _
    omega
  have hsl : zk_sl (zH v' w' t') ≤ 11796 := by
    rw [zk_slH]
    have h0 := zk_slH0 v' w'
    omega
  have F : zk_Fx EX D E s.heap.size X L xs zm_311 p room_1 s m #[Value.ref b] meth c :=
    ⟨hx, hcode, hret, hml, hown, fun w hw => hts w (List.mem_filter.mp hw).1, hlocks, fun z => absurd z (by decide), by decide, by decide, hC, hK, Nat.le_refl _, by rw [hX0]; exact hXa, by rw [hX0]; exact hbl, hEX⟩
  have hT := (zk_tie (l := l) N hex h13 hnl h309 n zm_311 (0, [(0, .retAddr 0)], []) [] (some (.int 1)) (zH v' w' t') hn).2 p e room_1 s m #[Value.ref b] below meth c 0 0 F (hLed _) rfl (Nat.zero_le _) (Nat.zero_le _) ⟨by
    show (zH v' w' t').length - 0 ≤ 601024
    omega, by
    show zk_sl (zH v' w' t') - 0 ≤ 7293034
    omega⟩
  have hl := lv_entry ([Value.retAddr 0].map (zk_v s.heap.size X)) (n := 7) (by rw [zk_cat_sl]; decide)
  rw [zk_args_tr] at hl
  have hW := hT s.heap [] _ (zk_nmL (pc := 0) (M := zm_311) hl) (fun k q hq => by simp [zk_w] at hq) va_S.rf
  intro T hT2 XX
  have e1 : entryFrame m ([Value.ref b] : List Value).toArray 7 = F0 m 0 ((lg_sl ([Value.retAddr 0].map (zk_v s.heap.size X)) ++ List.replicate (7 - (lg_sl ([Value.retAddr 0].map (zk_v s.heap.size X))).length) Slot.unset).toArray) [] := by
    rw [lg_entry_eq]
    show _ = F0 m 0 ((lg_sl [Value.ref (X 0)] ++ _).toArray) []
    rw [hX0]
    rfl
  rw [e1]
  obtain ⟨t, a1, o, o1, o2, o3, L2, o4, o5⟩ := hW T hT2 XX
  refine ⟨t, a1, o, o1, o2, ?_, ?_⟩
  · obtain ⟨⟨r, u, q1, q2, _⟩, _⟩ := o3
    rw [q1, q2]
  · obtain ⟨g1, g2, g3⟩ := o4
    exact ⟨g1, g2, zk_sbn g3 o5 (by omega) (by omega)⟩
