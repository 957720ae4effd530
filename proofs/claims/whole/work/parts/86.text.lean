/-! String.length and String.charAt: the JDK's own code, over the law's texts -/
def zj_yc : MethodName := ⟨"java/lang/String", "code\x72", "()B"⟩
def zj_yi : MethodName := ⟨"java/lang/String", "isLatin1", "()Z"⟩
def zj_yl : MethodName := ⟨"java/lang/StringLatin1", "charAt", "([BI)C"⟩
def zj_yk : MethodName := ⟨"java/lang/String", "checkIndex", "(II)V"⟩
def zj_yp : MethodName := ⟨"jdk/internal/util/Preconditions", "checkIndex", "(IILjava/util/function/BiFunction;)I"⟩
theorem zj_wcc : zk_isw 302 (.code zj_yc prog_22_method_152_code 1 (some .byte)) = true := by decide +kernel
theorem zj_wic : zk_isw 300 (.instanceMethod zj_yc) = true := by decide +kernel
theorem zj_wsc : zk_isw 301 (.selects "java/lang/String" zj_yc zj_yc) = true := by decide +kernel
theorem zj_wci : zk_isw 312 (.code zj_yi prog_22_method_154_code 1 (some .boolean)) = true := by decide +kernel
theorem zj_wii : zk_isw 310 (.instanceMethod zj_yi) = true := by decide +kernel
theorem zj_wsi : zk_isw 311 (.selects "java/lang/String" zj_yi zj_yi) = true := by decide +kernel
theorem zj_wcl : zk_isw 315 (.code zj_yl prog_23_method_2_code 2 (some .char)) = true := by decide +kernel
theorem zj_wsl : zk_isw 314 (.static zj_yl) = true := by decide +kernel
theorem zj_wck : zk_isw 318 (.code zj_yk prog_22_method_155_code 2 none) = true := by decide +kernel
theorem zj_wsk : zk_isw 317 (.static zj_yk) = true := by decide +kernel
theorem zj_wcp : zk_isw 323 (.code zj_yp prog_31_method_11_code 3 (some .int)) = true := by decide +kernel
theorem zj_wsp : zk_isw 322 (.static zj_yp) = true := by decide +kernel
theorem zj_wS : zk_isw 110 (.initialized "java/lang/String") = true := by decide +kernel
theorem zj_wL : zk_isw 111 (.initialized "java/lang/StringLatin1") = true := by decide +kernel
theorem zj_wP : zk_isw 112 (.initialized "jdk/internal/util/Preconditions") = true := by decide +kernel
theorem zj_f9 : zk_isw 2065 (.fieldLink "java/lang/String" 9 "java/lang/String" "value" "[B") = true := by decide +kernel
theorem zj_f15 : zk_isw 2066 (.fieldLink "java/lang/String" 15 "java/lang/String" "code\x72" "B") = true := by decide +kernel
theorem zj_f38 : zk_isw 303 (.fieldLink "java/lang/String" 38 "java/lang/String" "COMPACT_STRINGS" "Z") = true := by decide +kernel
theorem zj_f1053 : zk_isw 319 (.fieldLink "java/lang/String" 1053 "jdk/internal/util/Preconditions" "SIOOBE_FORMATTER" "Ljava/util/function/BiFunction;") = true := by decide +kernel
theorem zj_m335 : zk_isw 299 (.methodLink "java/lang/String" 335 zj_yc) = true := by decide +kernel
theorem zj_m492 : zk_isw 309 (.methodLink "java/lang/String" 492 zj_yi) = true := by decide +kernel
theorem zj_m495 : zk_isw 313 (.methodLink "java/lang/String" 495 zj_yl) = true := by decide +kernel
theorem zj_m1059 : zk_isw 321 (.methodLink "java/lang/String" 1059 zj_yp) = true := by decide +kernel
theorem zj_mL9 : zk_isw 316 (.methodLink "java/lang/StringLatin1" 9 zj_yk) = true := by decide +kernel
theorem zj_dc_0 : decode prog_22_method_152_code 0 = .ok (.getstatic 38, 3) := by decide +kernel
theorem zj_dc_3 : decode prog_22_method_152_code 3 = .ok (.ifCond .eq 10, 3) := by decide +kernel
theorem zj_dc_6 : decode prog_22_method_152_code 6 = .ok (.aload_n 0, 1) := by decide +kernel
theorem zj_dc_7 : decode prog_22_method_152_code 7 = .ok (.getfield 15, 3) := by decide +kernel
theorem zj_dc_10 : decode prog_22_method_152_code 10 = .ok (.goto 4, 3) := by decide +kernel
theorem zj_dc_14 : decode prog_22_method_152_code 14 = .ok (.ireturn, 1) := by decide +kernel
theorem zj_di_0 : decode prog_22_method_154_code 0 = .ok (.getstatic 38, 3) := by decide +kernel
theorem zj_di_3 : decode prog_22_method_154_code 3 = .ok (.ifCond .eq 14, 3) := by decide +kernel
theorem zj_di_6 : decode prog_22_method_154_code 6 = .ok (.aload_n 0, 1) := by decide +kernel
theorem zj_di_7 : decode prog_22_method_154_code 7 = .ok (.getfield 15, 3) := by decide +kernel
theorem zj_di_10 : decode prog_22_method_154_code 10 = .ok (.ifCond .ne 7, 3) := by decide +kernel
theorem zj_di_13 : decode prog_22_method_154_code 13 = .ok (.iconst 1, 1) := by decide +kernel
theorem zj_di_14 : decode prog_22_method_154_code 14 = .ok (.goto 4, 3) := by decide +kernel
theorem zj_di_18 : decode prog_22_method_154_code 18 = .ok (.ireturn, 1) := by decide +kernel
theorem zj_dl_0 : decode prog_23_method_2_code 0 = .ok (.iload_n 1, 1) := by decide +kernel
theorem zj_dl_1 : decode prog_23_method_2_code 1 = .ok (.aload_n 0, 1) := by decide +kernel
theorem zj_dl_2 : decode prog_23_method_2_code 2 = .ok (.arraylength, 1) := by decide +kernel
theorem zj_dl_3 : decode prog_23_method_2_code 3 = .ok (.invokestatic 9, 3) := by decide +kernel
theorem zj_dl_6 : decode prog_23_method_2_code 6 = .ok (.aload_n 0, 1) := by decide +kernel
theorem zj_dl_7 : decode prog_23_method_2_code 7 = .ok (.iload_n 1, 1) := by decide +kernel
theorem zj_dl_8 : decode prog_23_method_2_code 8 = .ok (.baload, 1) := by decide +kernel
theorem zj_dl_9 : decode prog_23_method_2_code 9 = .ok (.sipush 255, 3) := by decide +kernel
theorem zj_dl_12 : decode prog_23_method_2_code 12 = .ok (.iand, 1) := by decide +kernel
theorem zj_dl_13 : decode prog_23_method_2_code 13 = .ok (.i2c, 1) := by decide +kernel
theorem zj_dl_14 : decode prog_23_method_2_code 14 = .ok (.ireturn, 1) := by decide +kernel
theorem zj_dk_0 : decode prog_22_method_155_code 0 = .ok (.iload_n 0, 1) := by decide +kernel
theorem zj_dk_1 : decode prog_22_method_155_code 1 = .ok (.iload_n 1, 1) := by decide +kernel
theorem zj_dk_2 : decode prog_22_method_155_code 2 = .ok (.getstatic 1053, 3) := by decide +kernel
theorem zj_dk_5 : decode prog_22_method_155_code 5 = .ok (.invokestatic 1059, 3) := by decide +kernel
theorem zj_dk_8 : decode prog_22_method_155_code 8 = .ok (.pop, 1) := by decide +kernel
theorem zj_dk_9 : decode prog_22_method_155_code 9 = .ok (.return_, 1) := by decide +kernel
theorem zj_dp_0 : decode prog_31_method_11_code 0 = .ok (.iload_n 0, 1) := by decide +kernel
theorem zj_dp_1 : decode prog_31_method_11_code 1 = .ok (.ifCond .lt 8, 3) := by decide +kernel
theorem zj_dp_4 : decode prog_31_method_11_code 4 = .ok (.iload_n 0, 1) := by decide +kernel
theorem zj_dp_5 : decode prog_31_method_11_code 5 = .ok (.iload_n 1, 1) := by decide +kernel
theorem zj_dp_6 : decode prog_31_method_11_code 6 = .ok (.if_icmp .lt 10, 3) := by decide +kernel
theorem zj_dp_16 : decode prog_31_method_11_code 16 = .ok (.iload_n 0, 1) := by decide +kernel
theorem zj_dp_17 : decode prog_31_method_11_code 17 = .ok (.ireturn, 1) := by decide +kernel
theorem zj_d0_0 : decode prog_22_method_54_code 0 = .ok (.aload_n 0, 1) := by decide +kernel
theorem zj_d0_1 : decode prog_22_method_54_code 1 = .ok (.getfield 9, 3) := by decide +kernel
theorem zj_d0_4 : decode prog_22_method_54_code 4 = .ok (.arraylength, 1) := by decide +kernel
theorem zj_d0_5 : decode prog_22_method_54_code 5 = .ok (.aload_n 0, 1) := by decide +kernel
theorem zj_d0_6 : decode prog_22_method_54_code 6 = .ok (.invokevirtual 335, 3) := by decide +kernel
theorem zj_d0_9 : decode prog_22_method_54_code 9 = .ok (.ishr, 1) := by decide +kernel
theorem zj_d0_10 : decode prog_22_method_54_code 10 = .ok (.ireturn, 1) := by decide +kernel
theorem zj_d1_0 : decode prog_22_method_56_code 0 = .ok (.aload_n 0, 1) := by decide +kernel
theorem zj_d1_1 : decode prog_22_method_56_code 1 = .ok (.invokevirtual 492, 3) := by decide +kernel
theorem zj_d1_4 : decode prog_22_method_56_code 4 = .ok (.ifCond .eq 12, 3) := by decide +kernel
theorem zj_d1_7 : decode prog_22_method_56_code 7 = .ok (.aload_n 0, 1) := by decide +kernel
theorem zj_d1_8 : decode prog_22_method_56_code 8 = .ok (.getfield 9, 3) := by decide +kernel
theorem zj_d1_11 : decode prog_22_method_56_code 11 = .ok (.iload_n 1, 1) := by decide +kernel
theorem zj_d1_12 : decode prog_22_method_56_code 12 = .ok (.invokestatic 495, 3) := by decide +kernel
theorem zj_d1_15 : decode prog_22_method_56_code 15 = .ok (.ireturn, 1) := by decide +kernel
section ZJ
variable {l : Launch} {B : Nat} {G : State → Prop}
theorem zj_blind {av : List Value} (hG : zk_ExS G B) : FrameBlind (va_Pc av G) := by
  intro a U g mk q
  exact ⟨q.1, hG U (U.calling g mk a) (State.WarmedH.refl U) (fun _ _ => rfl) q.2⟩
theorem zj_pre {s : State} {H : Heap} {locs : List Loc} (hG : zk_ExS G B) (hB : B ≤ s.heap.size) (hg : G s) (hS : va_S (fun _ => False) s.heap H locs) : ∀ U : State, U.heap = H → s.WarmedH U.vm → G U := fun U hU hW =>
  hG s U hW (fun q hq => by rw [hU]; exact hS.2.1 q (Nat.lt_of_lt_of_le hq hB) (fun z => z)) hg
theorem zj_wk {A : Nat → Prop} {H0 H : Heap} {locs : List Loc} (h : va_S (fun _ => False) H0 H locs) : va_S A H0 H locs := ⟨h.1, fun q h1 _ => h.2.1 q h1 (fun z => z), fun q hq => (h.2.2 q hq).elim⟩
theorem zj_F {s t : State} {H : Heap} (hz : s.heap.size ≤ H.size) (hk : ∀ q : Nat, q < s.heap.size → H[q]? = s.heap[q]?) (ht : t.heap = H) : va_F (fun _ => False) s t := ⟨by rw [ht]; exact hz, fun q h1 _ => by rw [ht]; exact hk q h1⟩

theorem zj_coder {a : Nat} (h : ∀ U, G U → va_OF "java/lang/String" "code\x72" "B" (.int 0) a (fun q => B ≤ q) U U.heap ∧ va_Z "java/lang/String" "COMPACT_STRINGS" "Z" (.int 1) (fun q => B ≤ q) U U.heap) : Met l zj_yc (.code zj_yc prog_22_method_152_code 1 (some .byte) :: zk_TB) { frames := 0, cells := 0, slots := 0, locals := 0 } (va_Pc [.ref a] G) (va_Qi (fun r (_ : Unit) => r = 0) (fun _ _ => True) (fun _ => False)) 0 0 (fun _ => False) := by
  refine Met.ofW (cc := prog_22_method_152_code) (maxL := 1) (ret := (some .byte)) (by decide) rfl ?_
  intro p e s m args below meth c s₁ Bd hml hv
  obtain ⟨rfl, hg⟩ := hv
  have hx := Bd.exec
  have hb := Bd.bytes
  have hr := Bd.returns
  have hlocks := Bd.notSynchronized
  have hown := findClass_of_methodNamed Bd.named
  have hts0 := atoms_spec (ws := .code zj_yc prog_22_method_152_code 1 (some .byte) :: zk_TB) Bd.pre
  have hts : ∀ w ∈ zk_TB, w.before ([.ref a] : List Value).toArray s = true := fun w hw => hts0 w (List.mem_cons_of_mem _ hw)
  have hl := lv_entry ([.ref a]) (n := 1) (Nat.le_of_ble_eq_true rfl)
  rw [lg_entry_eq]
  generalize (lg_sl ([.ref a]) ++ List.replicate (1 - (lg_sl ([.ref a])).length) Slot.unset).toArray = ls at hl ⊢
  obtain ⟨h1, h2⟩ := h s hg
  have hl : lv_has ls 1 [(0, .ref a)] := hl
  refine va_gets (ref := "java/lang/String") hx hb h2 va_S.rf hown (hts _ (zk_isw_mem zj_f38)) (fun x h => h) zj_dc_0 ?_
  refine lv_if_eq hx hb (tgt := 13) zj_dc_3 (by decide) (fun z => absurd z (by decide)) (fun _ => ?_)
  refine lv_aload_n hx hb zj_dc_6 rfl (lv_at hl 0 rfl) ?_
  refine vk_getf (ref := "java/lang/String") hx hb h1 va_S.rf hown (hts _ (zk_isw_mem zj_f15)) (fun x h => h) zj_dc_7 ?_
  refine lv_goto hx hb (tgt := 14) zj_dc_10 (by decide) ?_
  exact W.zret hx hb hr (by decide) (fun t ht hW => ⟨⟨0, (), rfl, rfl, trivial⟩, zj_F (Nat.le_refl _) (fun _ _ => rfl) ht⟩) (fun q hq => by cases hq) zj_dc_14
theorem zj_latin {a : Nat} (h : ∀ U, G U → va_OF "java/lang/String" "code\x72" "B" (.int 0) a (fun q => B ≤ q) U U.heap ∧ va_Z "java/lang/String" "COMPACT_STRINGS" "Z" (.int 1) (fun q => B ≤ q) U U.heap) : Met l zj_yi (.code zj_yi prog_22_method_154_code 1 (some .boolean) :: zk_TB) { frames := 0, cells := 0, slots := 0, locals := 0 } (va_Pc [.ref a] G) (va_Qi (fun r (_ : Unit) => r = 1) (fun _ _ => True) (fun _ => False)) 0 0 (fun _ => False) := by
  refine Met.ofW (cc := prog_22_method_154_code) (maxL := 1) (ret := (some .boolean)) (by decide) rfl ?_
  intro p e s m args below meth c s₁ Bd hml hv
  obtain ⟨rfl, hg⟩ := hv
  have hx := Bd.exec
  have hb := Bd.bytes
  have hr := Bd.returns
  have hlocks := Bd.notSynchronized
  have hown := findClass_of_methodNamed Bd.named
  have hts0 := atoms_spec (ws := .code zj_yi prog_22_method_154_code 1 (some .boolean) :: zk_TB) Bd.pre
  have hts : ∀ w ∈ zk_TB, w.before ([.ref a] : List Value).toArray s = true := fun w hw => hts0 w (List.mem_cons_of_mem _ hw)
  have hl := lv_entry ([.ref a]) (n := 1) (Nat.le_of_ble_eq_true rfl)
  rw [lg_entry_eq]
  generalize (lg_sl ([.ref a]) ++ List.replicate (1 - (lg_sl ([.ref a])).length) Slot.unset).toArray = ls at hl ⊢
  obtain ⟨h1, h2⟩ := h s hg
  have hl : lv_has ls 1 [(0, .ref a)] := hl
  refine va_gets (ref := "java/lang/String") hx hb h2 va_S.rf hown (hts _ (zk_isw_mem zj_f38)) (fun x h => h) zj_di_0 ?_
  refine lv_if_eq hx hb (tgt := 17) zj_di_3 (by decide) (fun z => absurd z (by decide)) (fun _ => ?_)
  refine lv_aload_n hx hb zj_di_6 rfl (lv_at hl 0 rfl) ?_
  refine vk_getf (ref := "java/lang/String") hx hb h1 va_S.rf hown (hts _ (zk_isw_mem zj_f15)) (fun x h => h) zj_di_7 ?_
  refine lv_if_ne hx hb (tgt := 17) zj_di_10 (by decide) (fun z => absurd rfl z) (fun _ => ?_)
  refine lv_iconst (v := 1) hx hb zj_di_13 rfl ?_
  refine lv_goto hx hb (tgt := 18) zj_di_14 (by decide) ?_
  exact W.zret hx hb hr (by decide) (fun t ht hW => ⟨⟨1, (), rfl, rfl, trivial⟩, zj_F (Nat.le_refl _) (fun _ _ => rfl) ht⟩) (fun q hq => by cases hq) zj_di_18
theorem zj_checkN {i n : Int32} (h0 : ¬ i < 0) (h1 : i < n) : Met l zj_yp (.code zj_yp prog_31_method_11_code 3 (some .int) :: zk_TB) { frames := 0, cells := 0, slots := 0, locals := 0 } (va_Pc [.int i, .int n, .null] G) (va_Qi (fun r (_ : Unit) => r = i) (fun _ _ => True) (fun _ => False)) 0 0 (fun _ => False) := by
  refine Met.ofW (cc := prog_31_method_11_code) (maxL := 3) (ret := (some .int)) (by decide) rfl ?_
  intro p e s m args below meth c s₁ Bd hml hv
  obtain ⟨rfl, hg⟩ := hv
  have hx := Bd.exec
  have hb := Bd.bytes
  have hr := Bd.returns
  have hlocks := Bd.notSynchronized
  have hown := findClass_of_methodNamed Bd.named
  have hts0 := atoms_spec (ws := .code zj_yp prog_31_method_11_code 3 (some .int) :: zk_TB) Bd.pre
  have hts : ∀ w ∈ zk_TB, w.before ([.int i, .int n, .null] : List Value).toArray s = true := fun w hw => hts0 w (List.mem_cons_of_mem _ hw)
  have hl := lv_entry ([.int i, .int n, .null]) (n := 3) (Nat.le_of_ble_eq_true rfl)
  rw [lg_entry_eq]
  generalize (lg_sl ([.int i, .int n, .null]) ++ List.replicate (3 - (lg_sl ([.int i, .int n, .null])).length) Slot.unset).toArray = ls at hl ⊢
  have hl : lv_has ls 3 [(0, .int i), (1, .int n), (2, .null)] := hl
  refine lv_iload_n hx hb zj_dp_0 rfl (lv_at hl 0 rfl) ?_
  refine lv_if_lt hx hb (tgt := 9) zj_dp_1 (by decide) (fun z => absurd z h0) (fun _ => ?_)
  refine lv_iload_n hx hb zj_dp_4 rfl (lv_at hl 0 rfl) ?_
  refine lv_iload_n hx hb zj_dp_5 rfl (lv_at hl 1 rfl) ?_
  refine lv_icmp_lt hx hb (tgt := 16) zj_dp_6 (by decide) (fun _ => ?_) (fun z => absurd h1 z)
  refine lv_iload_n hx hb zj_dp_16 rfl (lv_at hl 0 rfl) ?_
  exact W.iret hx hb hr (fun t ht hW => ⟨⟨i, (), rfl, rfl, trivial⟩, zj_F (Nat.le_refl _) (fun _ _ => rfl) ht⟩) (fun q hq => by cases hq) zj_dp_17
theorem zj_checkR {f : Nat} {i n : Int32} (h0 : ¬ i < 0) (h1 : i < n) : Met l zj_yp (.code zj_yp prog_31_method_11_code 3 (some .int) :: zk_TB) { frames := 0, cells := 0, slots := 0, locals := 0 } (va_Pc [.int i, .int n, .ref f] G) (va_Qi (fun r (_ : Unit) => r = i) (fun _ _ => True) (fun _ => False)) 0 0 (fun _ => False) := by
  refine Met.ofW (cc := prog_31_method_11_code) (maxL := 3) (ret := (some .int)) (by decide) rfl ?_
  intro p e s m args below meth c s₁ Bd hml hv
  obtain ⟨rfl, hg⟩ := hv
  have hx := Bd.exec
  have hb := Bd.bytes
  have hr := Bd.returns
  have hlocks := Bd.notSynchronized
  have hown := findClass_of_methodNamed Bd.named
  have hts0 := atoms_spec (ws := .code zj_yp prog_31_method_11_code 3 (some .int) :: zk_TB) Bd.pre
  have hts : ∀ w ∈ zk_TB, w.before ([.int i, .int n, .ref f] : List Value).toArray s = true := fun w hw => hts0 w (List.mem_cons_of_mem _ hw)
  have hl := lv_entry ([.int i, .int n, .ref f]) (n := 3) (Nat.le_of_ble_eq_true rfl)
  rw [lg_entry_eq]
  generalize (lg_sl ([.int i, .int n, .ref f]) ++ List.replicate (3 - (lg_sl ([.int i, .int n, .ref f])).length) Slot.unset).toArray = ls at hl ⊢
  have hl : lv_has ls 3 [(0, .int i), (1, .int n), (2, .ref f)] := hl
  refine lv_iload_n hx hb zj_dp_0 rfl (lv_at hl 0 rfl) ?_
  refine lv_if_lt hx hb (tgt := 9) zj_dp_1 (by decide) (fun z => absurd z h0) (fun _ => ?_)
  refine lv_iload_n hx hb zj_dp_4 rfl (lv_at hl 0 rfl) ?_
  refine lv_iload_n hx hb zj_dp_5 rfl (lv_at hl 1 rfl) ?_
  refine lv_icmp_lt hx hb (tgt := 16) zj_dp_6 (by decide) (fun _ => ?_) (fun z => absurd h1 z)
  refine lv_iload_n hx hb zj_dp_16 rfl (lv_at hl 0 rfl) ?_
  exact W.iret hx hb hr (fun t ht hW => ⟨⟨i, (), rfl, rfl, trivial⟩, zj_F (Nat.le_refl _) (fun _ _ => rfl) ht⟩) (fun q hq => by cases hq) zj_dp_17
theorem zj_index (hG : zk_ExS G B) (hGB : ∀ U, G U → B ≤ U.heap.size) {i n : Int32} (h0 : ¬ i < 0) (h1 : i < n) (h : ∀ U, G U → va_Zq "jdk/internal/util/Preconditions" "SIOOBE_FORMATTER" "Ljava/util/function/BiFunction;" (fun q => B ≤ q) U U.heap) : Met l zj_yk (.code zj_yk prog_22_method_155_code 2 none :: zk_TB) { frames := 1, cells := 0, slots := 0, locals := 22 } (va_Pc [.int i, .int n] G) (va_Qv (fun (_ : Unit) => True) (fun _ _ => True) (fun _ => False)) 0 0 (fun _ => False) := by
  refine Met.ofW (cc := prog_22_method_155_code) (maxL := 2) (ret := none) (by decide) rfl ?_
  intro p e s m args below meth c s₁ Bd hml hv
  obtain ⟨rfl, hg⟩ := hv
  have hx := Bd.exec
  have hb := Bd.bytes
  have hr := Bd.returns
  have hlocks := Bd.notSynchronized
  have hown := findClass_of_methodNamed Bd.named
  have hts0 := atoms_spec (ws := .code zj_yk prog_22_method_155_code 2 none :: zk_TB) Bd.pre
  have hts : ∀ w ∈ zk_TB, w.before ([.int i, .int n] : List Value).toArray s = true := fun w hw => hts0 w (List.mem_cons_of_mem _ hw)
  have hl := lv_entry ([.int i, .int n]) (n := 2) (Nat.le_of_ble_eq_true rfl)
  rw [lg_entry_eq]
  generalize (lg_sl ([.int i, .int n]) ++ List.replicate (2 - (lg_sl ([.int i, .int n])).length) Slot.unset).toArray = ls at hl ⊢
  have hS : va_S (fun _ => False) s.heap s.heap [] := va_S.rf
  have hl : lv_has ls 2 [(0, .int i), (1, .int n)] := hl
  refine lv_iload_n hx hb zj_dk_0 rfl (lv_at hl 0 rfl) ?_
  refine lv_iload_n hx hb zj_dk_1 rfl (lv_at hl 1 rfl) ?_
  rcases h s hg with hz | ⟨f, hz⟩
  · refine va_gets (ref := "jdk/internal/util/Preconditions") hx hb hz va_S.rf hown (hts _ (zk_isw_mem zj_f1053)) (fun x h => h) zj_dk_2 ?_
    refine va_calli (a := ([.int i, .int n, .null] : List Value).toArray) (va_runS (own := "java/lang/String") (index := 1059) (As := [.int i, .int n, .null]) (rest := []) ⟨hx, hb, hml, hown, hts⟩ (zj_checkN (G := G) h0 h1) (va_cwS 3 hts (zk_good ?_) rfl rfl rfl ⟨by decide, by decide, by decide⟩ ⟨Nat.le_of_ble_eq_true rfl, Nat.le_of_ble_eq_true rfl⟩) ⟨zj_blind hG, fun U hU hW => ⟨rfl, zj_pre hG (hGB s hg) hg hS U hU hW⟩⟩ rfl rfl hl.1 rfl (lv_room (Nat.le_of_ble_eq_true rfl)) zj_dk_5 ⟨Nat.le_of_ble_eq_true rfl, Nat.le_of_ble_eq_true rfl⟩) hS (fun _ _ z => z.elim) (fun _ z => z.elim) (fun r u t H1 locs1 ht hvm hp hB hz hk hS1 => ?_)
    · intro w hw
      simp only [va_wsS, List.cons_append, List.nil_append, List.mem_cons] at hw
      rcases hw with rfl | rfl | rfl | rfl | hw
      · exact zk_isw_mem zj_m1059
      · exact zk_isw_mem zj_wsp
      · exact zk_isw_mem zj_wP
      · exact zk_isw_mem zj_wcp
      · exact hw
    · refine lv_pop hx hb zj_dk_8 rfl ?_
      exact W.vret hx hb hr (fun t ht hW => ⟨⟨(), rfl, trivial, trivial⟩, hS1.F ht⟩) hS1.2.2 zj_dk_9
  · refine va_gets (ref := "jdk/internal/util/Preconditions") hx hb hz va_S.rf hown (hts _ (zk_isw_mem zj_f1053)) (fun x h => h) zj_dk_2 ?_
    refine va_calli (a := ([.int i, .int n, .ref f] : List Value).toArray) (va_runS (own := "java/lang/String") (index := 1059) (As := [.int i, .int n, .ref f]) (rest := []) ⟨hx, hb, hml, hown, hts⟩ (zj_checkR (G := G) h0 h1) (va_cwS 3 hts (zk_good ?_) rfl rfl rfl ⟨by decide, by decide, by decide⟩ ⟨Nat.le_of_ble_eq_true rfl, Nat.le_of_ble_eq_true rfl⟩) ⟨zj_blind hG, fun U hU hW => ⟨rfl, zj_pre hG (hGB s hg) hg hS U hU hW⟩⟩ rfl rfl hl.1 rfl (lv_room (Nat.le_of_ble_eq_true rfl)) zj_dk_5 ⟨Nat.le_of_ble_eq_true rfl, Nat.le_of_ble_eq_true rfl⟩) hS (fun _ _ z => z.elim) (fun _ z => z.elim) (fun r u t H1 locs1 ht hvm hp hB hz hk hS1 => ?_)
    · intro w hw
      simp only [va_wsS, List.cons_append, List.nil_append, List.mem_cons] at hw
      rcases hw with rfl | rfl | rfl | rfl | hw
      · exact zk_isw_mem zj_m1059
      · exact zk_isw_mem zj_wsp
      · exact zk_isw_mem zj_wP
      · exact zk_isw_mem zj_wcp
      · exact hw
    · refine lv_pop hx hb zj_dk_8 rfl ?_
      exact W.vret hx hb hr (fun t ht hW => ⟨⟨(), rfl, trivial, trivial⟩, hS1.F ht⟩) hS1.2.2 zj_dk_9
theorem zj_lchar (hG : zk_ExS G B) (hGB : ∀ U, G U → B ≤ U.heap.size) {v n : Nat} {f : Nat → Int32} {i y : Int32} (h0 : ¬ i < 0) (h1 : i < Int32.ofNat n) (hi : vp_in i n) (hr1 : ((f i.toNatClampNeg &&& 255).toUInt32 % 65536).toInt32 = y) (hr2 : narrow .char (.int y) = .int y) (h : ∀ U, G U → va_Zq "jdk/internal/util/Preconditions" "SIOOBE_FORMATTER" "Ljava/util/function/BiFunction;" (fun q => B ≤ q) U U.heap ∧ va_T .byte v n (fun j => .int (f j)) (fun q => B ≤ q) U U.heap) : Met l zj_yl (.code zj_yl prog_23_method_2_code 2 (some .char) :: zk_TB) { frames := 2, cells := 0, slots := 0, locals := 43 } (va_Pc [.ref v, .int i] G) (va_Qi (fun r (_ : Unit) => r = y) (fun _ _ => True) (fun _ => False)) 0 0 (fun _ => False) := by
  refine Met.ofW (cc := prog_23_method_2_code) (maxL := 2) (ret := (some .char)) (by decide) rfl ?_
  intro p e s m args below meth c s₁ Bd hml hv
  obtain ⟨rfl, hg⟩ := hv
  have hx := Bd.exec
  have hb := Bd.bytes
  have hr := Bd.returns
  have hlocks := Bd.notSynchronized
  have hown := findClass_of_methodNamed Bd.named
  have hts0 := atoms_spec (ws := .code zj_yl prog_23_method_2_code 2 (some .char) :: zk_TB) Bd.pre
  have hts : ∀ w ∈ zk_TB, w.before ([.ref v, .int i] : List Value).toArray s = true := fun w hw => hts0 w (List.mem_cons_of_mem _ hw)
  have hl := lv_entry ([.ref v, .int i]) (n := 2) (Nat.le_of_ble_eq_true rfl)
  rw [lg_entry_eq]
  generalize (lg_sl ([.ref v, .int i]) ++ List.replicate (2 - (lg_sl ([.ref v, .int i])).length) Slot.unset).toArray = ls at hl ⊢
  have hS : va_S (fun _ => False) s.heap s.heap [] := va_S.rf
  have hl : lv_has ls 2 [(0, .ref v), (1, .int i)] := hl
  refine lv_iload_n hx hb zj_dl_0 rfl (lv_at hl 1 rfl) ?_
  refine lv_aload_n hx hb zj_dl_1 rfl (lv_at hl 0 rfl) ?_
  refine va_tlen hx hb (h s hg).2 va_S.rf rfl zj_dl_2 ?_
  refine va_callv (a := ([.int i, .int (Int32.ofNat n)] : List Value).toArray) (va_runS (own := "java/lang/StringLatin1") (index := 9) (As := [.int i, .int (Int32.ofNat n)]) (rest := []) ⟨hx, hb, hml, hown, hts⟩ (zj_index hG hGB h0 h1 (fun U hU => (h U hU).1)) (va_cwS 2 hts (zk_good ?_) rfl rfl rfl ⟨by decide, by decide, by decide⟩ ⟨Nat.le_of_ble_eq_true rfl, Nat.le_of_ble_eq_true rfl⟩) ⟨zj_blind hG, fun U hU hW => ⟨rfl, zj_pre hG (hGB s hg) hg hS U hU hW⟩⟩ rfl rfl hl.1 rfl (lv_room (Nat.le_of_ble_eq_true rfl)) zj_dl_3 ⟨Nat.le_of_ble_eq_true rfl, Nat.le_of_ble_eq_true rfl⟩) hS (fun _ _ z => z.elim) (fun _ z => z.elim) (fun u t H1 locs1 ht hvm hp hB hz hk hS1 => ?_)
  · intro w hw
    simp only [va_wsS, List.cons_append, List.nil_append, List.mem_cons] at hw
    rcases hw with rfl | rfl | rfl | rfl | hw
    · exact zk_isw_mem zj_mL9
    · exact zk_isw_mem zj_wsk
    · exact zk_isw_mem zj_wS
    · exact zk_isw_mem zj_wck
    · exact hw
  · refine lv_aload_n hx hb zj_dl_6 rfl (lv_at hl 0 rfl) ?_
    refine lv_iload_n hx hb zj_dl_7 rfl (lv_at hl 1 rfl) ?_
    refine va_tb hx hb (h s hg).2 (zj_wk hS1) hi rfl zj_dl_8 ?_
    refine lv_sipush (v := 255) hx hb zj_dl_9 rfl ?_
    refine lv_iand hx hb zj_dl_12 ?_
    refine lv_i2c hx hb zj_dl_13 hr1 ?_
    exact W.zret hx hb hr hr2 (fun t ht hW => ⟨⟨y, (), rfl, rfl, trivial⟩, hS1.F ht⟩) hS1.2.2 zj_dl_14
end ZJ
section ZJB
variable {D : va_G} {E : Nat → ClassId} {B : Nat} {X : Nat → Nat} {Ls : Nat} {xs : Nat → Int32} {l : Launch}
theorem zj_Wd (h : zk_H) : zk_ExS (fun U => B ≤ U.heap.size ∧ va_X (X 0) Ls xs U U.heap ∧ X 0 < B ∧ zk_EX B X U) B := by
  intro s U hW hq ⟨h1, h2, h3, h4⟩
  have hk : B ≤ U.heap.size := by
    rcases Nat.eq_zero_or_pos B with h0 | h0
    · omega
    · have h9 := hq (B - 1) (by omega)
      rw [Array.getElem?_eq_getElem (by omega : B - 1 < s.heap.size)] at h9
      have := (Array.getElem?_eq_some_iff.mp h9).1
      omega
  exact ⟨hk, (h2.kept (hq _ h3)).moved hW.alike, h3, zk_EXs B X s U hW hq h4⟩
theorem zj_sbc : zk_sb.all (fun l => Nat.blt l.length 100 && l.all (fun c => decide (((c &&& 255).toUInt32 % 65536).toInt32 = c) && decide (narrow .char (.int c) = .int c))) = true := by decide +kernel

theorem zj_length {h : zk_H} {a : Nat} {b : List Int32} (hb0 : zk_at zk_sb a = some b) : Met l (zk_nam zm_0) (.code (zk_nam zm_0) (zk_byt zm_0) (zk_mxl zm_0) (zk_ret zm_0) :: zk_TB) { frames := zk_fr zm_0, cells := 0, slots := 0, locals := zk_lo zm_0 } (va_Pc [.ref (X (a + 1))] (zk_Wd (zk_EX B X) D E B X Ls xs h)) (zk_Qr D E B X (some (.int (Int32.ofNat b.length))) h) 0 0 (fun q => B ≤ q) := by
  refine Met.ofW (cc := prog_22_method_54_code) (maxL := 1) (ret := (some .int)) (by decide) rfl ?_
  intro p e s m args below meth c s₁ Bd hml hv
  obtain ⟨rfl, hg⟩ := hv
  have hx := Bd.exec
  have hb := Bd.bytes
  have hr := Bd.returns
  have hlocks := Bd.notSynchronized
  have hown := findClass_of_methodNamed Bd.named
  have hts0 := atoms_spec (ws := .code (zk_nam zm_0) prog_22_method_54_code 1 (some .int) :: zk_TB) Bd.pre
  have hts : ∀ w ∈ zk_TB, w.before ([.ref (X (a + 1))] : List Value).toArray s = true := fun w hw => hts0 w (List.mem_cons_of_mem _ hw)
  have hl := lv_entry ([.ref (X (a + 1))]) (n := 1) (Nat.le_of_ble_eq_true rfl)
  rw [lg_entry_eq]
  generalize (lg_sl ([.ref (X (a + 1))]) ++ List.replicate (1 - (lg_sl ([.ref (X (a + 1))])).length) Slot.unset).toArray = ls at hl ⊢
  obtain ⟨g1, hP, g3, g4, g5, g6⟩ := hg
  have hlen : b.length < 100 := by
    have h9 := List.all_eq_true.mp zj_sbc b (by rw [zk_at_eq] at hb0; exact List.mem_of_getElem? hb0)
    simp only [Bool.and_eq_true] at h9
    exact zk_bltI.mp h9.1
  have hg' : B ≤ s.heap.size ∧ va_X (X 0) Ls xs s s.heap ∧ X 0 < B ∧ zk_EX B X s := ⟨by omega, g4, g5, g6⟩
  obtain ⟨⟨cell, c1, c2, c3, -⟩, -, v, k3, k4⟩ := g6.2.1 a b hb0
  have hS : va_S (fun _ => False) s.heap s.heap [] := va_S.rf
  have hl : lv_has ls 1 [(0, .ref (X (a + 1)))] := hl
  refine lv_aload_n hx hb zj_d0_0 rfl (lv_at hl 0 rfl) ?_
  refine vk_getf (ref := "java/lang/String") hx hb k3 va_S.rf hown (hts _ (zk_isw_mem zj_f9)) (fun x h => h) zj_d0_1 ?_
  refine va_tlen hx hb k4 va_S.rf rfl zj_d0_4 ?_
  refine lv_aload_n hx hb zj_d0_5 rfl (lv_at hl 0 rfl) ?_
  refine va_calli (a := ([.ref (X (a + 1))] : List Value).toArray) (va_runV (own := "java/lang/String") (C := "java/lang/String") (index := 335) (b := X (a + 1)) (As := []) (rest := [.int (Int32.ofNat b.length)]) ⟨hx, hb, hml, hown, hts⟩ (zj_coder (B := B) (fun U hU => ⟨(hU.2.2.2.2.1 a b hb0).2.1, hU.2.2.2.2.2.2.1⟩)) (cwV 0 hts (zk_good ?_) rfl rfl rfl ⟨rfl, by decide, by decide, by decide⟩ ⟨Nat.le_of_ble_eq_true rfl, Nat.le_of_ble_eq_true rfl⟩) ⟨zj_blind (zj_Wd h), ⟨cell, c1, c2, c3⟩, fun U hU hW => ⟨rfl, zj_pre (zj_Wd h) hg'.1 hg' hS U hU hW⟩⟩ rfl rfl hl.1 rfl (lv_room (Nat.le_of_ble_eq_true rfl)) zj_d0_6 ⟨Nat.le_of_ble_eq_true rfl, Nat.le_of_ble_eq_true rfl⟩) hS (fun _ _ z => z.elim) (fun _ z => z.elim) (fun r u t H1 locs1 ht hvm hp hB hz hk hS1 => ?_)
  · intro w hw
    simp only [wsV, List.cons_append, List.nil_append, List.mem_cons] at hw
    rcases hw with rfl | rfl | rfl | rfl | rfl | hw
    · exact zk_isw_mem zj_m335
    · exact zk_isw_mem zj_wic
    · exact zk_isw_mem zj_wsc
    · exact zk_isw_mem zj_wS
    · exact zk_isw_mem zj_wcc
    · exact hw
  · subst hp
    refine lv_ishr hx hb zj_d0_9 ?_
    rw [show Int32.ofNat b.length >>> ((0 : Int32) &&& 31) = Int32.ofNat b.length from sc_shr0 (by omega)]
    exact W.iret hx hb hr (fun t ht hW => ⟨⟨_, (), rfl, rfl, by show va_P _ _ _ t.heap; rw [ht]; exact (fun k q hq => (hP k q hq).kept (hk q.1 (hP k q hq).lt (fun z => z)))⟩, (zj_wk hS1).F ht⟩) (zj_wk hS1).2.2 zj_d0_10
theorem zj_charAt {h : zk_H} {a : Nat} {b : List Int32} {i r : Int32} (hb0 : zk_at zk_sb a = some b) (hin : zk_in i b.length = true) (hr0 : zk_at b i.toNatClampNeg = some r) : Met l (zk_nam zm_1) (.code (zk_nam zm_1) (zk_byt zm_1) (zk_mxl zm_1) (zk_ret zm_1) :: zk_TB) { frames := zk_fr zm_1, cells := 0, slots := 0, locals := zk_lo zm_1 } (va_Pc [.ref (X (a + 1)), .int i] (zk_Wd (zk_EX B X) D E B X Ls xs h)) (zk_Qr D E B X (some (.int r)) h) 0 0 (fun q => B ≤ q) := by
  refine Met.ofW (cc := prog_22_method_56_code) (maxL := 2) (ret := (some .char)) (by decide) rfl ?_
  intro p e s m args below meth c s₁ Bd hml hv
  obtain ⟨rfl, hg⟩ := hv
  have hx := Bd.exec
  have hb := Bd.bytes
  have hr := Bd.returns
  have hlocks := Bd.notSynchronized
  have hown := findClass_of_methodNamed Bd.named
  have hts0 := atoms_spec (ws := .code (zk_nam zm_1) prog_22_method_56_code 2 (some .char) :: zk_TB) Bd.pre
  have hts : ∀ w ∈ zk_TB, w.before ([.ref (X (a + 1)), .int i] : List Value).toArray s = true := fun w hw => hts0 w (List.mem_cons_of_mem _ hw)
  have hl := lv_entry ([.ref (X (a + 1)), .int i]) (n := 2) (Nat.le_of_ble_eq_true rfl)
  rw [lg_entry_eq]
  generalize (lg_sl ([.ref (X (a + 1)), .int i]) ++ List.replicate (2 - (lg_sl ([.ref (X (a + 1)), .int i])).length) Slot.unset).toArray = ls at hl ⊢
  obtain ⟨g1, hP, g3, g4, g5, g6⟩ := hg
  have h9 := List.all_eq_true.mp zj_sbc b (by rw [zk_at_eq] at hb0; exact List.mem_of_getElem? hb0)
  simp only [Bool.and_eq_true] at h9
  have hlen : b.length < 100 := zk_bltI.mp h9.1
  have h10 := List.all_eq_true.mp h9.2 r (by rw [zk_at_eq] at hr0; exact List.mem_of_getElem? hr0)
  simp only [Bool.and_eq_true, decide_eq_true_eq] at h10
  have hvi : vp_in i b.length := zk_in_sp hin
  have h0 : ¬ i < 0 := fun z => hvi (Or.inl z)
  have hlt : i.toNatClampNeg < b.length := Nat.not_le.mp (fun z => hvi (Or.inr z))
  have h1 : i < Int32.ofNat b.length := by
    obtain ⟨k, hk, rfl⟩ := nI_of h0
    rw [nI_clamp (by omega)] at hlt
    exact nI_lt hlt (by omega)
  have hg' : B ≤ s.heap.size ∧ va_X (X 0) Ls xs s s.heap ∧ X 0 < B ∧ zk_EX B X s := ⟨by omega, g4, g5, g6⟩
  obtain ⟨⟨cell, c1, c2, c3, -⟩, -, v, k3, k4⟩ := g6.2.1 a b hb0
  have hS : va_S (fun _ => False) s.heap s.heap [] := va_S.rf
  have hl : lv_has ls 2 [(0, .ref (X (a + 1))), (1, .int i)] := hl
  refine lv_aload_n hx hb zj_d1_0 rfl (lv_at hl 0 rfl) ?_
  refine va_calli (a := ([.ref (X (a + 1))] : List Value).toArray) (va_runV (own := "java/lang/String") (C := "java/lang/String") (index := 492) (b := X (a + 1)) (As := []) (rest := []) ⟨hx, hb, hml, hown, hts⟩ (zj_latin (B := B) (fun U hU => ⟨(hU.2.2.2.2.1 a b hb0).2.1, hU.2.2.2.2.2.2.1⟩)) (cwV 0 hts (zk_good ?_) rfl rfl rfl ⟨rfl, by decide, by decide, by decide⟩ ⟨Nat.le_of_ble_eq_true rfl, Nat.le_of_ble_eq_true rfl⟩) ⟨zj_blind (zj_Wd h), ⟨cell, c1, c2, c3⟩, fun U hU hW => ⟨rfl, zj_pre (zj_Wd h) hg'.1 hg' hS U hU hW⟩⟩ rfl rfl hl.1 rfl (lv_room (Nat.le_of_ble_eq_true rfl)) zj_d1_1 ⟨Nat.le_of_ble_eq_true rfl, Nat.le_of_ble_eq_true rfl⟩) hS (fun _ _ z => z.elim) (fun _ z => z.elim) (fun r1 u t H1 locs1 ht hvm hp hB hz hk hS1 => ?_)
  · intro w hw
    simp only [wsV, List.cons_append, List.nil_append, List.mem_cons] at hw
    rcases hw with rfl | rfl | rfl | rfl | rfl | hw
    · exact zk_isw_mem zj_m492
    · exact zk_isw_mem zj_wii
    · exact zk_isw_mem zj_wsi
    · exact zk_isw_mem zj_wS
    · exact zk_isw_mem zj_wci
    · exact hw
  · subst hp
    refine lv_if_eq hx hb (tgt := 16) zj_d1_4 (by decide) (fun z => absurd z (by decide)) (fun _ => ?_)
    refine lv_aload_n hx hb zj_d1_7 rfl (lv_at hl 0 rfl) ?_
    refine vk_getf (ref := "java/lang/String") hx hb k3 (zj_wk hS1) hown (hts _ (zk_isw_mem zj_f9)) (fun x h => h) zj_d1_8 ?_
    refine lv_iload_n hx hb zj_d1_11 rfl (lv_at hl 1 rfl) ?_
    have hGT : zk_ExS (fun U => (B ≤ U.heap.size ∧ va_X (X 0) Ls xs U U.heap ∧ X 0 < B ∧ zk_EX B X U) ∧ va_T .byte v b.length (fun j => .int (b.getD j 0)) (fun q => B ≤ q) U U.heap) B := fun s U hW hq z => ⟨zj_Wd h s U hW hq z.1, va_T.moved hW.alike (z.2.kept (fun a _ h => hq a (Nat.lt_of_not_le h)))⟩
    have hgT : (B ≤ s.heap.size ∧ va_X (X 0) Ls xs s s.heap ∧ X 0 < B ∧ zk_EX B X s) ∧ va_T .byte v b.length (fun j => .int (b.getD j 0)) (fun q => B ≤ q) s s.heap := ⟨hg', k4⟩
    refine va_calli (a := ([.ref v, .int i] : List Value).toArray) (va_runS (own := "java/lang/String") (index := 495) (As := [.ref v, .int i]) (rest := []) ⟨hx, hb, hml, hown, hts⟩ (zj_lchar (y := r) (n := b.length) (f := fun j => b.getD j 0) hGT (fun U hU => hU.1.1) h0 h1 hvi (by rw [List.getD_eq_getElem?_getD, ← zk_at_eq, hr0]; exact h10.1) h10.2 (fun U hU => ⟨hU.1.2.2.2.2.2.2.2.1, hU.2⟩)) (va_cwS 2 hts (zk_good ?_) rfl rfl rfl ⟨by decide, by decide, by decide⟩ ⟨Nat.le_of_ble_eq_true rfl, Nat.le_of_ble_eq_true rfl⟩) ⟨zj_blind hGT, fun U hU hW => ⟨rfl, zj_pre hGT hg'.1 hgT hS1 U hU hW⟩⟩ rfl rfl hl.1 rfl (lv_room (Nat.le_of_ble_eq_true rfl)) zj_d1_12 ⟨Nat.le_of_ble_eq_true rfl, Nat.le_of_ble_eq_true rfl⟩) hS1 (fun _ _ z => z.elim) (fun _ z => z.elim) (fun r2 u t H2 locs2 ht2 hvm2 hp2 hB2 hz2 hk2 hS2 => ?_)
    · intro w hw
      simp only [va_wsS, List.cons_append, List.nil_append, List.mem_cons] at hw
      rcases hw with rfl | rfl | rfl | rfl | hw
      · exact zk_isw_mem zj_m495
      · exact zk_isw_mem zj_wsl
      · exact zk_isw_mem zj_wL
      · exact zk_isw_mem zj_wcl
      · exact hw
    · subst hp2
      exact W.zret hx hb hr h10.2 (fun t ht hW => ⟨⟨_, (), rfl, rfl, by show va_P _ _ _ t.heap; rw [ht]; exact (fun k q hq => (hP k q hq).kept (hS2.2.1 q.1 (hP k q hq).lt (fun z => z)))⟩, (zj_wk hS2).F ht⟩) (zj_wk hS2).2.2 zj_d1_15
end ZJB
