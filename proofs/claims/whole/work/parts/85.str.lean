/-! the strings and statics at the law's start -/
def zk_tm (q : Nat × Nat × String) : Term := .string (zk_cn q.1) q.2.1
def zk_el (t : Term) : Nat → List Int32 → List Cond
  | _, [] => []
  | j, x :: l => .eq (.elem t (.int (Int32.ofNat j))) (.int x) :: zk_el t (j + 1) l
def zk_sw (q : Nat × Nat × String) (l : List Int32) : List Cond := .exactly (zk_tm q) "java/lang/String" :: .eq (.field (zk_tm q) "java/lang/String" "code\x72" "B") (.int 0) :: .arrayOf (.field (zk_tm q) "java/lang/String" "value" "[B") .byte :: .eq (.length (.field (zk_tm q) "java/lang/String" "value" "[B")) (.int (Int32.ofNat l.length)) :: zk_el (.field (zk_tm q) "java/lang/String" "value" "[B") 0 l
def zk_so : List (Nat × Nat) := [(23, 291), (32, 343), (42, 344), (51, 345), (59, 346), (65, 347), (75, 348), (85, 726), (94, 756), (103, 757), (111, 766), (120, 767), (129, 768), (138, 769), (147, 770), (157, 783), (166, 784), (175, 805), (183, 1569), (193, 1584), (203, 1601), (214, 1622), (224, 1623), (233, 1624), (240, 1625), (251, 1626), (262, 1631), (272, 1632), (281, 1637), (291, 1638), (301, 1639), (311, 1640), (321, 1641), (332, 1661), (342, 1662), (352, 1683)]
def zk_swo (i : Nat) : Bool := match zk_at zk_rs i, zk_at zk_sb i, zk_at zk_so i with
  | some q, some l, some (a, b) => decide (((flatC (Jvm.Cond.and given_1 narrow_1)).drop a).take (4 + l.length) = zk_sw q l) && decide (lw_tbl[b]? = some (.stringRef (zk_cn q.1) q.2.1 q.2.2)) && Nat.blt l.length 100
  | _, _, _ => false
theorem zk_swc : (List.range 36).all zk_swo = true := by decide +kernel
theorem zk_elm (t : Term) : ∀ (l : List Int32) (j k : Nat), k < l.length → Cond.eq (.elem t (.int (Int32.ofNat (j + k)))) (.int (l.getD k 0)) ∈ zk_el t j l
  | [], _, k, h => absurd h (Nat.not_lt_zero k)
  | x :: l, j, 0, _ => List.mem_cons_self
  | x :: l, j, k + 1, h => by
    have h1 := zk_elm t l (j + 1) k (Nat.lt_of_succ_lt_succ h)
    rw [show j + 1 + k = j + (k + 1) by omega] at h1
    exact List.mem_cons_of_mem _ h1
/-- what a throw needs that doesn't stay by itself -/
def zk_xw : List Cond := [.declares ⟨"java/lang/RuntimeException", "<init>", "()V"⟩, .declares ⟨"java/lang/Exception", "<init>", "()V"⟩, .declares ⟨"java/lang/Throwable", "<init>", "()V"⟩, .castable "java/util/NoSuchElementException" "java/util/NoSuchElementException"]
theorem zk_xwc : zk_xw = [1346, 1348, 1350, 1345].filterMap (fun i => lw_tbl[i]?) := by decide +kernel
theorem zk_xwt : ∀ w ∈ zk_xw, w ∈ lw_tbl := by
  intro w hw
  rw [zk_xwc] at hw
  obtain ⟨i, -, hi⟩ := List.mem_filterMap.mp hw
  exact List.mem_of_getElem? hi
def zk_EX (B : Nat) (X : Nat → Nat) (U : State) : Prop :=
  (∀ i q, zk_at zk_rs i = some q → vk_R (zk_cn q.1) q.2.1 q.2.2 (X (i + 1)) U) ∧
  (∀ i l, zk_at zk_sb i = some l → va_O "java/lang/String" (X (i + 1)) (fun q => B ≤ q) U U.heap ∧ va_OF "java/lang/String" "code\x72" "B" (.int 0) (X (i + 1)) (fun q => B ≤ q) U U.heap ∧ ∃ v, va_OF "java/lang/String" "value" "[B" (.ref v) (X (i + 1)) (fun q => B ≤ q) U U.heap ∧ va_T .byte v l.length (fun j => .int (l.getD j 0)) (fun q => B ≤ q) U U.heap) ∧
  (∀ (p : Nat) (w : Cond), lw_tbl[p]? = some w → zk_isNest w = true → va_Nw w U) ∧
  va_Z "java/lang/String" "COMPACT_STRINGS" "Z" (.int 1) (fun q => B ≤ q) U U.heap ∧ va_Zq "jdk/internal/util/Preconditions" "SIOOBE_FORMATTER" "Ljava/util/function/BiFunction;" (fun q => B ≤ q) U U.heap ∧
  (∀ w ∈ zk_xw, va_Nw w U) ∧ vx_Zq Bundle.tN "UNASSIGNED_STACK" Bundle.steD (fun q => B ≤ q) U U.heap ∧ vx_Zq Bundle.tN "SUPPRESSED_SENTINEL" Bundle.listD (fun q => B ≤ q) U U.heap
theorem zk_EXs (B : Nat) (X : Nat → Nat) : zk_ExS (zk_EX B X) B := by
  intro s U hW hq ⟨h1, h2, h3, h4, h5, h7, h8, h9⟩
  have hk : ∀ a : Nat, a < s.heap.size → ¬ (B ≤ a) → U.heap[a]? = s.heap[a]? := fun a _ h => hq a (Nat.lt_of_not_le h)
  refine ⟨fun i q hi => vk_R.warm hW (h1 i q hi), fun i l hi => ?_, fun p w hp hn => ?_, va_Z.moved hW.alike (h4.kept hk), va_Zq.moved hW.alike (h5.kept hk), fun w hw => ?_, vx_Zq.moved hW.alike (h8.kept hk), vx_Zq.moved hW.alike (h9.kept hk)⟩
  · obtain ⟨g1, g2, v, g3, g4⟩ := h2 i l hi
    exact ⟨va_O.moved hW.alike (g1.kept hk), va_OF.moved hW.alike (g2.kept hk), v, va_OF.moved hW.alike (g3.kept hk), va_T.moved hW.alike (g4.kept hk)⟩
  · have h6 := h3 p w hp hn
    cases w <;> first | exact va_Nw.warmM hW h6 | exact absurd hn (by simp [zk_isNest])
  · have h6 := h7 w hw
    simp only [zk_xw, List.mem_cons, List.not_mem_nil, or_false] at hw
    rcases hw with rfl | rfl | rfl | rfl
    · exact va_Nw.warmD hW h6
    · exact va_Nw.warmD hW h6
    · exact va_Nw.warmD hW h6
    · exact va_Nw.warmC hW h6
theorem zk_EXstr (B : Nat) (X : Nat → Nat) : zk_Str (zk_EX B X) X := fun U h => h.1
theorem zk_sb36 : zk_sb.length = 36 := rfl
theorem zk_rs36 : zk_rs.length = 36 := rfl
theorem zk_EXsc (B : Nat) (X : Nat → Nat) : zk_StrC (zk_EX B X) B X := by
  intro U h a h0 h36
  have hl : a - 1 < zk_sb.length := by rw [zk_sb36]; omega
  obtain ⟨⟨cell, g1, g2, g3, g4⟩, -⟩ := h.2.1 (a - 1) (zk_sb[a - 1]) (by rw [zk_at_eq]; exact List.getElem?_eq_getElem hl)
  rw [show a - 1 + 1 = a by omega] at g1 g4
  exact ⟨Nat.lt_of_not_le g4, cell, g1, g2, g3⟩
theorem zk_EXn (B : Nat) (X : Nat → Nat) : zk_NestH (zk_EX B X) := fun U h => h.2.2.1
theorem zk_cs1 : (flatC (Jvm.Cond.and given_1 narrow_1))[4]? = some (.eq (.static "java/lang/String" "COMPACT_STRINGS" "Z") (.int 1)) := by decide +kernel
theorem zk_cs2 : (flatC (Jvm.Cond.and given_1 narrow_1))[5]? = some (.isRef (.static "jdk/internal/util/Preconditions" "SIOOBE_FORMATTER" "Ljava/util/function/BiFunction;")) := by decide +kernel
theorem zk_cs3 : lw_tbl[304]? = some (.laysStatic "java/lang/String" "COMPACT_STRINGS" "Z") := by decide +kernel
theorem zk_cs4 : lw_tbl[320]? = some (.laysStatic "jdk/internal/util/Preconditions" "SIOOBE_FORMATTER" "Ljava/util/function/BiFunction;") := by decide +kernel
theorem zk_cs5 : lw_tbl[110]? = some (.initialized "java/lang/String") := by decide +kernel
theorem zk_cs7 : (flatC (Jvm.Cond.and given_1 narrow_1))[9]? = some (.isRef (.static Bundle.tN "UNASSIGNED_STACK" Bundle.steD)) := by decide +kernel
theorem zk_cs8 : (flatC (Jvm.Cond.and given_1 narrow_1))[10]? = some (.isRef (.static Bundle.tN "SUPPRESSED_SENTINEL" Bundle.listD)) := by decide +kernel
theorem zk_cs9 : lw_tbl[1370]? = some (.laysStatic Bundle.tN "UNASSIGNED_STACK" Bundle.steD) := by decide +kernel
theorem zk_cs10 : lw_tbl[1372]? = some (.laysStatic Bundle.tN "SUPPRESSED_SENTINEL" Bundle.listD) := by decide +kernel
theorem zk_cs11 : lw_tbl[127]? = some (.initialized Bundle.tN) := by decide +kernel
theorem zk_cs6 : lw_tbl[112]? = some (.initialized "jdk/internal/util/Preconditions") := by decide +kernel
/-- at the law's start -/
theorem zk_EX0 {s : State} {b : Nat} (hts : ∀ w ∈ lw_tbl, w.before #[Value.ref b] s = true) (hgv : (Jvm.Cond.and given_1 narrow_1).before #[Value.ref b] s = true) : ∃ X : Nat → Nat, X 0 = b ∧ zk_EX s.heap.size X s := by
  have hg := flat_of_before _ hgv
  have hA : ∀ a : Nat, a < s.heap.size → ¬ (s.heap.size ≤ a) := fun a h => Nat.not_le.mpr h
  have h0 : ∀ i : Nat, ∃ a : Nat, (∀ q, zk_at zk_rs i = some q → vk_R (zk_cn q.1) q.2.1 q.2.2 a s) ∧ ∀ l, zk_at zk_sb i = some l → va_O "java/lang/String" a (fun q => s.heap.size ≤ q) s s.heap ∧ va_OF "java/lang/String" "code\x72" "B" (.int 0) a (fun q => s.heap.size ≤ q) s s.heap ∧ ∃ v, va_OF "java/lang/String" "value" "[B" (.ref v) a (fun q => s.heap.size ≤ q) s s.heap ∧ va_T .byte v l.length (fun j => .int (l.getD j 0)) (fun q => s.heap.size ≤ q) s s.heap := by
    intro i
    by_cases hi : i < 36
    · have hc := List.all_eq_true.mp zk_swc i (List.mem_range.mpr hi)
      unfold zk_swo at hc
      cases hr : zk_at zk_rs i with
      | none => rw [hr] at hc; cases hc
      | some q =>
        cases hs : zk_at zk_sb i with
        | none => rw [hr, hs] at hc; cases hc
        | some l =>
          cases ho : zk_at zk_so i with
          | none => rw [hr, hs, ho] at hc; cases hc
          | some z =>
            obtain ⟨a, p⟩ := z
            rw [hr, hs, ho] at hc
            simp only [Bool.and_eq_true, decide_eq_true_eq] at hc
            obtain ⟨⟨hc1, hc2⟩, hc3⟩ := hc
            have hw : ∀ w ∈ zk_sw q l, w.before #[Value.ref b] s = true := fun w hw => hg w (by rw [← hc1] at hw; exact List.mem_of_mem_drop (List.mem_of_mem_take hw))
            have hc4 : l.length < 100 := zk_bltI.mp hc3
            obtain ⟨adK, adV, hS, hT⟩ := vk_Sof (args := #[Value.ref b]) (s := s) (N := 1) (tm := fun _ => zk_tm q) (len := [l.length]) (byt := [l]) (A := fun q => s.heap.size ≤ q)
              (fun i hi => by rw [show i = 0 by omega]; show l.length < 2 ^ 31; omega)
              (fun i _ => hw _ List.mem_cons_self)
              (fun i _ => hw _ (List.mem_cons_of_mem _ List.mem_cons_self))
              (fun i _ => hw _ (List.mem_cons_of_mem _ (List.mem_cons_of_mem _ List.mem_cons_self)))
              (fun i hi => by rw [show i = 0 by omega]; exact hw _ (List.mem_cons_of_mem _ (List.mem_cons_of_mem _ (List.mem_cons_of_mem _ List.mem_cons_self))))
              (fun i hi j hj => by
                rw [show i = 0 by omega] at hj ⊢
                have h9 := zk_elm (.field (zk_tm q) "java/lang/String" "value" "[B") l 0 j hj
                rw [Nat.zero_add] at h9
                exact hw _ (List.mem_cons_of_mem _ (List.mem_cons_of_mem _ (List.mem_cons_of_mem _ (List.mem_cons_of_mem _ h9)))))
              (fun i j hi hj hij => absurd (show i = j by omega) hij) hA
            have hS0 := hS.1 0 (by omega)
            refine ⟨adK 0, fun q' hq' => ?_, fun l' hl' => ?_⟩
            · cases hq'
              exact vk_R.of (hts _ (List.mem_of_getElem? hc2)) (hT 0 (by omega))
            · cases hl'
              exact ⟨hS0.1, hS0.2.1, adV 0, hS0.2.2.1, hS0.2.2.2⟩
    · refine ⟨0, fun q hq => ?_, fun l hl => ?_⟩
      · rw [zk_at_eq, List.getElem?_eq_none (by rw [zk_rs36]; omega)] at hq; cases hq
      · rw [zk_at_eq, List.getElem?_eq_none (by rw [zk_sb36]; omega)] at hl; cases hl
  obtain ⟨d, hd⟩ := Classical.axiomOfChoice h0
  refine ⟨fun k => match k with | 0 => b | i + 1 => d i, rfl, fun i q hq => (hd i).1 q hq, fun i l hl => (hd i).2 l hl, fun p w hp hn => ?_, va_Zof (hts _ (List.mem_of_getElem? zk_cs3)) (hts _ (List.mem_of_getElem? zk_cs5)) (va_eqt (hg _ (List.mem_of_getElem? zk_cs1))) hA, va_Zqof (hts _ (List.mem_of_getElem? zk_cs4)) (hts _ (List.mem_of_getElem? zk_cs6)) (hg _ (List.mem_of_getElem? zk_cs2)) hA, fun w hw => ?_, vx_Zqof (hts _ (List.mem_of_getElem? zk_cs9)) (hts _ (List.mem_of_getElem? zk_cs11)) (hg _ (List.mem_of_getElem? zk_cs7)) hA, vx_Zqof (hts _ (List.mem_of_getElem? zk_cs10)) (hts _ (List.mem_of_getElem? zk_cs11)) (hg _ (List.mem_of_getElem? zk_cs8)) hA⟩
  · have h6 := hts _ (List.mem_of_getElem? hp)
    cases w <;> first | exact va_Nw.of rfl h6 | exact absurd hn (by simp [zk_isNest])
  · have h6 := hts _ (zk_xwt w hw)
    simp only [zk_xw, List.mem_cons, List.not_mem_nil, or_false] at hw
    rcases hw with rfl | rfl | rfl | rfl
    · exact va_Nw.of rfl h6
    · exact va_Nw.of rfl h6
    · exact va_Nw.of rfl h6
    · exact va_Nw.of rfl h6
