/-! led, its throw, and the law's own led that catches it -/
def zx_yB : MethodName := ⟨"BasketKeep", "led", "(I)I"⟩
theorem zx_f19 : zk_isw 611 (.fieldLink "BasketKeep" 19 "BasketKeep" "told" "LBasketKeep$Level;") = true := by decide +kernel
theorem zx_f117 : zk_isw 221 (.fieldLink "BasketKeep" 117 "BasketKeep$Level" "goods" "I") = true := by decide +kernel
theorem zx_f30 : zk_isw 613 (.fieldLink "BasketKeep" 30 "BasketKeep" "now" "LBasketKeep$State;") = true := by decide +kernel
theorem zx_f15 : zk_isw 399 (.fieldLink "BasketKeep$State" 15 "BasketKeep$State" "lost" "I") = true := by decide +kernel
theorem zx_m177 : zk_isw 918 (.methodLink "BasketKeep" 177 (zk_nam zm_25)) = true := by decide +kernel
theorem zx_i25 : zk_isw 919 (.instanceMethod (zk_nam zm_25)) = true := by decide +kernel
theorem zx_s25 : zk_isw 920 (.selects "BasketKeep$State" (zk_nam zm_25) (zk_nam zm_25)) = true := by decide +kernel
theorem zx_c25 : zk_isw 921 (.code (zk_nam zm_25) prog_10_method_6_code 2 (some .boolean)) = true := by decide +kernel
theorem zx_n4 : zk_isw 114 (.initialized "BasketKeep$State") = true := by decide +kernel
theorem zx_n0 : zk_isw 106 (.initialized "BasketKeep") = true := by decide +kernel
theorem zx_nL : zk_isw 105 (.initialized "BasketKeepLaw") = true := by decide +kernel
theorem zx_s2 : zk_isw 1336 (.static (zk_nam zm_2)) = true := by decide +kernel
theorem zx_c2 : zk_isw 1337 (.codeWith (zk_nam zm_2) method_3_code 4 (some .int) [(0, 9, 12, 13)]) = true := by decide +kernel
theorem zx_k13 : zk_isw 1338 (.classLink "BasketKeepLaw" 13 "java/util/NoSuchElementException") = true := by decide +kernel
theorem zx_m7 : zk_isw 1339 (.methodLink "BasketKeepLaw" 7 zx_yB) = true := by decide +kernel
theorem zx_iB : zk_isw 1340 (.instanceMethod zx_yB) = true := by decide +kernel
theorem zx_sB : zk_isw 1341 (.selects "BasketKeep" zx_yB zx_yB) = true := by decide +kernel
theorem zx_cB : zk_isw 1342 (.code zx_yB prog_1_method_60_code 4 (some .int)) = true := by decide +kernel
theorem zx_k353 : zk_isw 1343 (.classLink "BasketKeep" 353 "java/util/NoSuchElementException") = true := by decide +kernel
theorem zx_nN : zk_isw 130 (.initialized "java/util/NoSuchElementException") = true := by decide +kernel
theorem zx_di_0 : decode prog_10_method_6_code 0 = .ok (.aload_n 0, 1) := by decide +kernel
theorem zx_di_1 : decode prog_10_method_6_code 1 = .ok (.getfield 15, 3) := by decide +kernel
theorem zx_di_4 : decode prog_10_method_6_code 4 = .ok (.iload_n 1, 1) := by decide +kernel
theorem zx_di_5 : decode prog_10_method_6_code 5 = .ok (.ishr, 1) := by decide +kernel
theorem zx_di_6 : decode prog_10_method_6_code 6 = .ok (.iconst 1, 1) := by decide +kernel
theorem zx_di_7 : decode prog_10_method_6_code 7 = .ok (.iand, 1) := by decide +kernel
theorem zx_di_8 : decode prog_10_method_6_code 8 = .ok (.ifCond .eq 7, 3) := by decide +kernel
theorem zx_di_11 : decode prog_10_method_6_code 11 = .ok (.iconst 1, 1) := by decide +kernel
theorem zx_di_12 : decode prog_10_method_6_code 12 = .ok (.goto 4, 3) := by decide +kernel
theorem zx_di_15 : decode prog_10_method_6_code 15 = .ok (.iconst 0, 1) := by decide +kernel
theorem zx_di_16 : decode prog_10_method_6_code 16 = .ok (.ireturn, 1) := by decide +kernel
theorem zx_db_0 : decode prog_1_method_60_code 0 = .ok (.iload_n 1, 1) := by decide +kernel
theorem zx_db_1 : decode prog_1_method_60_code 1 = .ok (.istore_n 2, 1) := by decide +kernel
theorem zx_db_2 : decode prog_1_method_60_code 2 = .ok (.iconst 0, 1) := by decide +kernel
theorem zx_db_3 : decode prog_1_method_60_code 3 = .ok (.istore_n 3, 1) := by decide +kernel
theorem zx_db_4 : decode prog_1_method_60_code 4 = .ok (.iload_n 3, 1) := by decide +kernel
theorem zx_db_5 : decode prog_1_method_60_code 5 = .ok (.aload_n 0, 1) := by decide +kernel
theorem zx_db_6 : decode prog_1_method_60_code 6 = .ok (.getfield 19, 3) := by decide +kernel
theorem zx_db_9 : decode prog_1_method_60_code 9 = .ok (.getfield 117, 3) := by decide +kernel
theorem zx_db_12 : decode prog_1_method_60_code 12 = .ok (.if_icmp .ge 29, 3) := by decide +kernel
theorem zx_db_15 : decode prog_1_method_60_code 15 = .ok (.aload_n 0, 1) := by decide +kernel
theorem zx_db_16 : decode prog_1_method_60_code 16 = .ok (.getfield 30, 3) := by decide +kernel
theorem zx_db_19 : decode prog_1_method_60_code 19 = .ok (.iload_n 3, 1) := by decide +kernel
theorem zx_db_20 : decode prog_1_method_60_code 20 = .ok (.invokevirtual 177, 3) := by decide +kernel
theorem zx_db_23 : decode prog_1_method_60_code 23 = .ok (.ifCond .eq 12, 3) := by decide +kernel
theorem zx_db_26 : decode prog_1_method_60_code 26 = .ok (.iload_n 2, 1) := by decide +kernel
theorem zx_db_27 : decode prog_1_method_60_code 27 = .ok (.ifCond .ne 5, 3) := by decide +kernel
theorem zx_db_30 : decode prog_1_method_60_code 30 = .ok (.iload_n 3, 1) := by decide +kernel
theorem zx_db_31 : decode prog_1_method_60_code 31 = .ok (.ireturn, 1) := by decide +kernel
theorem zx_db_32 : decode prog_1_method_60_code 32 = .ok (.iinc 2 (-1), 3) := by decide +kernel
theorem zx_db_35 : decode prog_1_method_60_code 35 = .ok (.iinc 3 1, 3) := by decide +kernel
theorem zx_db_38 : decode prog_1_method_60_code 38 = .ok (.goto (-34), 3) := by decide +kernel
theorem zx_db_41 : decode prog_1_method_60_code 41 = .ok (.new 353, 3) := by decide +kernel
theorem zx_db_44 : decode prog_1_method_60_code 44 = .ok (.dup, 1) := by decide +kernel
theorem zx_db_45 : decode prog_1_method_60_code 45 = .ok (.invokespecial 355, 3) := by decide +kernel
theorem zx_db_48 : decode prog_1_method_60_code 48 = .ok (.athrow, 1) := by decide +kernel
theorem zx_dl_0 : decode method_3_code 0 = .ok (.aload_n 2, 1) := by decide +kernel
theorem zx_dl_1 : decode method_3_code 1 = .ok (.iconst 0, 1) := by decide +kernel
theorem zx_dl_2 : decode method_3_code 2 = .ok (.aload_n 0, 1) := by decide +kernel
theorem zx_dl_3 : decode method_3_code 3 = .ok (.iload_n 1, 1) := by decide +kernel
theorem zx_dl_4 : decode method_3_code 4 = .ok (.invokevirtual 7, 3) := by decide +kernel
theorem zx_dl_7 : decode method_3_code 7 = .ok (.i2l, 1) := by decide +kernel
theorem zx_dl_8 : decode method_3_code 8 = .ok (.lastore, 1) := by decide +kernel
theorem zx_dl_9 : decode method_3_code 9 = .ok (.goto 6, 3) := by decide +kernel
theorem zx_dl_12 : decode method_3_code 12 = .ok (.astore_n 3, 1) := by decide +kernel
theorem zx_dl_13 : decode method_3_code 13 = .ok (.iconst 1, 1) := by decide +kernel
theorem zx_dl_14 : decode method_3_code 14 = .ok (.ireturn, 1) := by decide +kernel
theorem zx_dl_15 : decode method_3_code 15 = .ok (.iconst 0, 1) := by decide +kernel
theorem zx_dl_16 : decode method_3_code 16 = .ok (.ireturn, 1) := by decide +kernel
def zx_nm : List String := ["java/lang/RuntimeException", "java/lang/Exception"]
def zx_at : List Cond := vx_at0 "BasketKeep" 355 "java/util/NoSuchElementException" zx_nm
def zx_pl : List Nat := [127, 1365, 1374, 1376, 1379, 1381, 1366, 1367, 137, 138, 1368, 1373, 1377, 1393, 1355, 1394, 1357, 1395, 1359, 1369, 1371, 1361, 1383, 1384, 1385, 1386, 1346, 1386, 1387, 1388, 1389, 1348, 1389, 1390, 1391, 1366, 1350, 1382, 1344, 1345, 1352, 1353, 1354, 1356, 1358, 1360, 1364, 1363, 1362]
theorem zx_atp : zx_at = zx_pl.filterMap (fun i => lw_tbl[i]?) := by decide +kernel
theorem zx_atn : (zx_at.filter (fun w => !goodWord w)).all (fun w => zk_xw.contains w) = true := by decide +kernel
theorem zx_ato : (Cond.classLink "BasketKeep" 353 "java/util/NoSuchElementException" :: Cond.initialized "java/util/NoSuchElementException" :: zx_at).all vx_ot = true := by decide +kernel
theorem zx_atT : ∀ w ∈ zx_at.filter goodWord, w ∈ zk_TB := by
  intro w hw
  obtain ⟨h1, h2⟩ := List.mem_filter.mp hw
  rw [zx_atp] at h1
  obtain ⟨i, -, hi⟩ := List.mem_filterMap.mp h1
  exact List.mem_filter.mpr ⟨List.mem_of_getElem? hi, h2⟩
theorem zx_hat {args : Array Value} {s : State} (hts : ∀ w ∈ zk_TB, w.before args s = true) (hx : ∀ w ∈ zk_xw, va_Nw w s) : ∀ w ∈ zx_at, w.before args s = true := by
  refine vx_hat (B := zk_xw) (fun w hw => hts w (zx_atT w hw)) (fun w hw => by have h := List.all_eq_true.mp zx_atn w hw; exact List.contains_iff_mem.mp h) (fun w hw => ?_)
  have h6 := hx w hw
  simp only [zk_xw, List.mem_cons, List.not_mem_nil, or_false] at hw
  rcases hw with rfl | rfl | rfl | rfl <;> exact va_Nw.use rfl h6
theorem zx_lt {goods : Int32} {g : Nat} (h : g < goods.toNatClampNeg) : ¬ goods ≤ nI g := by
  by_cases h0 : goods < 0
  · have h1 : goods.toNatClampNeg = 0 := by
      have h2 := Int32.lt_iff_toInt_lt.mp h0
      show goods.toInt.toNat = 0
      have h3 : (0 : Int32).toInt = 0 := rfl
      omega
    omega
  · obtain ⟨k, hk, rfl⟩ := nI_of h0
    rw [nI_clamp hk] at h
    exact Int32.not_le.mpr (nI_lt h hk)
theorem zx_ge {goods : Int32} {g : Nat} (h : g = goods.toNatClampNeg) : goods ≤ nI g := by
  by_cases h0 : goods < 0
  · have h2 := Int32.lt_iff_toInt_lt.mp h0
    have h3 : (0 : Int32).toInt = 0 := rfl
    have h1 : goods.toNatClampNeg = 0 := by
      show goods.toInt.toNat = 0
      omega
    rw [h, h1]
    exact Int32.le_of_lt h0
  · obtain ⟨k, hk, rfl⟩ := nI_of h0
    rw [h, nI_clamp hk]
    exact Int32.le_refl _
theorem zx_eq {H0 H : Heap} {locs : List Loc} (hS : va_S (fun _ => False) H0 H locs) (hz : H.size ≤ H0.size) : H = H0 := by
  refine Array.ext_getElem? (fun i => ?_)
  by_cases hi : i < H0.size
  · exact hS.2.1 i hi (fun z => z)
  · have h1 := hS.1
    rw [Array.getElem?_eq_none (by omega), Array.getElem?_eq_none (by omega)]
section ZX
variable {D : va_G} {E : Nat → ClassId} {B : Nat} {X : Nat → Nat} {Ls : Nat} {xs : Nat → Int32} {l : Launch} {h : zk_H}

theorem zx_isLost {g lost : Int32} {fs : List Value} (h32 : zk_at h 32 = some (.inr (4, fs))) (h1 : zk_at fs 1 = some (.int lost)) : Met l (zk_nam zm_25) (.code (zk_nam zm_25) prog_10_method_6_code 2 (some .boolean) :: zk_TB) { frames := 0, cells := 0, slots := 0, locals := 0 } (va_Pc [.ref (B + 32), .int g] (zk_Wd (zk_EX B X) D E B X Ls xs h)) (va_Qi (fun r (_ : Unit) => r = if (lost >>> (g &&& 31)) &&& 1 = 0 then 0 else 1) (fun _ _ => True) (fun _ => False)) 0 0 (fun _ => False) := by
  refine Met.ofW (cc := prog_10_method_6_code) (maxL := 2) (ret := some .boolean) (by decide) rfl ?_
  intro p e s m args below meth c s₁ Bd hml hv
  obtain ⟨rfl, hg⟩ := hv
  have hx := Bd.exec
  have hb := Bd.bytes
  have hr := Bd.returns
  have hlocks := Bd.notSynchronized
  have hown := findClass_of_methodNamed Bd.named
  have hts0 := atoms_spec (ws := .code (zk_nam zm_25) prog_10_method_6_code 2 (some .boolean) :: zk_TB) Bd.pre
  have hts : ∀ w ∈ zk_TB, w.before ([.ref (B + 32), .int g] : List Value).toArray s = true := fun w hw => hts0 w (List.mem_cons_of_mem _ hw)
  have hl := lv_entry ([.ref (B + 32), .int g]) (n := 2) (Nat.le_of_ble_eq_true rfl)
  rw [lg_entry_eq]
  generalize (lg_sl ([.ref (B + 32), .int g]) ++ List.replicate (2 - (lg_sl ([.ref (B + 32), .int g])).length) Slot.unset).toArray = ls at hl ⊢
  have hl : lv_has ls 2 [(0, .ref (B + 32)), (1, .int g)] := hl
  obtain ⟨g1, hP, hK, -⟩ := hg
  have hF : ∀ t : State, t.heap = s.heap → va_F (fun _ => False) s t := fun t ht => zj_F (Nat.le_refl _) (fun _ _ => rfl) ht
  refine lv_aload_n hx hb zx_di_0 rfl (lv_at hl 0 rfl) ?_
  refine va_get (D := D) (ci := 4) (v := .int lost) (ref := "BasketKeep$State") hx hb hts (zk_cf (ci := 4) rfl (by decide)).1 hown hK hP 32 (zk_w_get h32) rfl 1 (by decide) (hts _ (zk_isw_mem zx_f15)) (fun x z => z) (by rw [List.getElem?_map, ← zk_at_eq, h1]; rfl) zx_di_1 ?_
  refine lv_iload_n hx hb zx_di_4 rfl (lv_at hl 1 rfl) ?_
  refine lv_ishr hx hb zx_di_5 ?_
  refine lv_iconst (v := 1) hx hb zx_di_6 rfl ?_
  refine lv_iand hx hb zx_di_7 ?_
  refine lv_if_eq hx hb (tgt := 15) zx_di_8 (by decide) (fun z => ?_) (fun z => ?_)
  · refine lv_iconst (v := 0) hx hb zx_di_15 rfl ?_
    exact W.zret hx hb hr (by decide) (fun t ht hW => ⟨⟨0, (), rfl, by rw [if_pos z], trivial⟩, hF t ht⟩) (fun q hq => by cases hq) zx_di_16
  · refine lv_iconst (v := 1) hx hb zx_di_11 rfl ?_
    refine lv_goto hx hb (tgt := 16) zx_di_12 (by decide) ?_
    exact W.zret hx hb hr (by decide) (fun t ht hW => ⟨⟨1, (), rfl, by rw [if_neg z], trivial⟩, hF t ht⟩) (fun q hq => by cases hq) zx_di_16
theorem zx_rm : zk_rm.all (fun q => !Nat.beq q.2.2.1 7 || Nat.beq q.2.2.2.1 2) = true := by decide +kernel
theorem zx_r2 {o idx r2 : Nat} (hm : zk_memM zk_rm o idx 7 r2 = true) : r2 = 2 := by
  obtain ⟨pw, hpw⟩ := zk_memM_sp hm
  have h1 := List.all_eq_true.mp zx_rm _ hpw
  exact Nat.eq_of_beq_eq_true h1
theorem zx_ex {k : Nat} {as : List Value} {h h' : zk_H} {v : Option Value} (hk : zk_mt k = some zm_2) (hq : zk_ex k as h = some (v, h')) : ∃ i : Int32, as = [.ref 0, .int i, .ref 86] ∧ zk_led i h = some (v, h') := by
  unfold zk_ex at hq
  split at hq
  · exact absurd (congrArg zk_nam (Option.some.inj hk)) (by decide)
  · exact absurd (congrArg zk_nam (Option.some.inj hk)) (by decide)
  · exact ⟨_, rfl, hq⟩
  · exact absurd (congrArg zk_nam (Option.some.inj hk)) (by decide)
  · exact absurd (congrArg zk_nam (Option.some.inj hk)) (by decide)
  · cases hq
theorem zx_pre {s : State} (hg : zk_Wd (zk_EX B X) D E B X Ls xs h s) : ∀ U : State, U.heap = s.heap → s.WarmedH U.vm → zk_Wd (zk_EX B X) D E B X Ls xs h U := by
  intro U hU hW
  obtain ⟨g1, g2, g3, g4, g5, g6⟩ := hg
  exact ⟨by rw [hU]; exact g1, by rw [hU]; exact g2, va_K.moved hW.alike g3, (g4.kept (by rw [hU])).moved hW.alike, g5, zk_EXs B X s U hW (fun q _ => by rw [hU]) g6⟩
set_option maxHeartbeats 2000000 in
theorem zx_led (hflags : l.stackTraces = false) {i goods lost : Int32} {fx fl fs : List Value} (h0 : zk_at h 0 = some (.inr (0, fx))) (h20 : zk_at h 20 = some (.inr (3, fl))) (h32 : zk_at h 32 = some (.inr (4, fs))) (a1 : zk_at fx 1 = some (.ref 20)) (a3 : zk_at fx 3 = some (.ref 32)) (a8 : zk_at fl 8 = some (.int goods)) (b1 : zk_at fs 1 = some (.int lost)) {mc ms : Nat} (hroom : zk_ledF goods.toNatClampNeg 0 lost i = none → 1 ≤ mc ∧ 6 ≤ ms) :
    vx_Met l zx_yB (.code zx_yB prog_1_method_60_code 4 (some .int) :: zk_TB) { frames := 6, cells := mc, slots := ms, locals := 81 } (va_Pc [.ref B, .int i] (zk_Wd (zk_EX B X) D E B X Ls xs h)) (va_Qi (fun r (_ : Unit) => ∃ g, zk_ledF goods.toNatClampNeg 0 lost i = some g ∧ r = nI g) (fun _ _ => True) (fun _ => False)) (vx_X (fun (_ : Unit) => zk_ledF goods.toNatClampNeg 0 lost i = none) (fun E0 _ t => E0 = "java/util/NoSuchElementException" ∧ ∃ ce : Cell, t.heap[B + h.length]? = some ce ∧ ce.vm = .none ∧ ce.cls = D.1 12) (fun _ => False)) mc ms (fun _ => False) := by
  refine vx_ofW (cc := prog_1_method_60_code) (maxL := 4) (ret := some .int) (by decide) rfl ?_
  intro p e s m args below meth c s₁ Bd hml hnt hv
  obtain ⟨rfl, hg⟩ := hv
  have hx := Bd.exec
  have hb := Bd.bytes
  have hr := Bd.returns
  have hlocks := Bd.notSynchronized
  have hown := findClass_of_methodNamed Bd.named
  have hts0 := atoms_spec (ws := .code zx_yB prog_1_method_60_code 4 (some .int) :: zk_TB) Bd.pre
  have hts : ∀ w ∈ zk_TB, w.before ([.ref B, .int i] : List Value).toArray s = true := fun w hw => hts0 w (List.mem_cons_of_mem _ hw)
  have hl := lv_entry ([.ref B, .int i]) (n := 4) (Nat.le_of_ble_eq_true rfl)
  rw [lg_entry_eq]
  generalize (lg_sl ([.ref B, .int i]) ++ List.replicate (4 - (lg_sl ([.ref B, .int i])).length) Slot.unset).toArray = ls at hl ⊢
  have hl : lv_has ls 4 [(0, .ref B), (1, .int i)] := hl
  have hg0 := hg
  obtain ⟨hsz, hP, hK, -, -, hEX⟩ := hg
  have loop : ∀ (n g : Nat) (behind : Int32) (ls : Array Slot), g + n = goods.toNatClampNeg → zk_ledF n g lost behind = zk_ledF goods.toNatClampNeg 0 lost i → lv_has ls 4 [(0, .ref B), (1, .int i), (2, .int behind), (3, .int (nI g))] → W p l e (headSpec (.code zx_yB prog_1_method_60_code 4 (some .int) :: zk_TB) { frames := 6, cells := mc, slots := ms, locals := 81 }).room s m ([.ref B, .int i] : List Value).toArray below meth c s.heap [] 0 0 (vx_MQ below (va_Qi (fun r (_ : Unit) => ∃ g, zk_ledF goods.toNatClampNeg 0 lost i = some g ∧ r = nI g) (fun _ _ => True) (fun _ => False)) (vx_X (fun (_ : Unit) => zk_ledF goods.toNatClampNeg 0 lost i = none) (fun E0 _ t => E0 = "java/util/NoSuchElementException" ∧ ∃ ce : Cell, t.heap[B + h.length]? = some ce ∧ ce.vm = .none ∧ ce.cls = D.1 12) (fun _ => False)) ([.ref B, .int i] : List Value).toArray s mc ms (fun _ => False)) (F0 m 4 ls []) := by
    intro n
    induction n with
    | zero =>
      intro g behind ls hgn hr0 hl
      have hn0 : zk_ledF goods.toNatClampNeg 0 lost i = none := hr0.symm
      refine lv_iload_n hx hb zx_db_4 rfl (lv_at hl 3 rfl) ?_
      refine lv_aload_n hx hb zx_db_5 rfl (lv_at hl 0 rfl) ?_
      refine va_get (D := D) (ci := 0) (v := .ref (B + 20)) (ref := "BasketKeep") hx hb hts (zk_cf (ci := 0) rfl (by decide)).1 hown hK hP 0 (zk_w_get h0) rfl 1 (by decide) (hts _ (zk_isw_mem zx_f19)) (fun x z => z) (by rw [List.getElem?_map, ← zk_at_eq, a1]; rfl) zx_db_6 ?_
      refine va_get (D := D) (ci := 3) (v := .int goods) (ref := "BasketKeep$Level") hx hb hts (zk_cf (ci := 3) rfl (by decide)).1 hown hK hP 20 (zk_w_get h20) rfl 8 (by decide) (hts _ (zk_isw_mem zx_f117)) (fun x z => z) (by rw [List.getElem?_map, ← zk_at_eq, a8]; rfl) zx_db_9 ?_
      refine lv_icmp_ge hx hb (tgt := 41) zx_db_12 (by decide) (fun _ => ?_) (fun z => absurd (zx_ge hgn) z)
      obtain ⟨r1, r2⟩ := hroom hn0
      refine zx_throw0 (names := zx_nm) (A := fun q => B ≤ q) hx hb hflags hown (by decide) (by decide) (hts _ (zk_isw_mem zx_k353)) (hts _ (zk_isw_mem zx_nN)) (zx_hat hts hEX.2.2.2.2.2.1) (List.all_eq_true.mp zx_ato) hEX.2.2.2.2.2.2.1 hEX.2.2.2.2.2.2.2 va_S.rf (hl.1.trans hml.symm) zx_db_41 zx_db_44 zx_db_45 zx_db_48 (fun x z => (hnt x z).elim) (Nat.le_of_ble_eq_true rfl) (Nat.le_of_ble_eq_true rfl) (show 0 + 1 ≤ mc by omega) (show 0 + 6 ≤ ms by omega) hlocks ?_ (fun z hz => by cases hz) (by omega) (by omega)
      intro t hal hz hk ⟨ce, c1, c2, c3⟩
      rw [hsz] at c1
      exact ⟨(), hn0, ⟨rfl, ce, c1, c2, (Option.some.inj (c3.symm.trans (hK.1 12 _ rfl).2.1))⟩, hz, fun q hq _ => hk q hq⟩
    | succ n ih =>
      intro g behind ls hgn hr0 hl
      refine lv_iload_n hx hb zx_db_4 rfl (lv_at hl 3 rfl) ?_
      refine lv_aload_n hx hb zx_db_5 rfl (lv_at hl 0 rfl) ?_
      refine va_get (D := D) (ci := 0) (v := .ref (B + 20)) (ref := "BasketKeep") hx hb hts (zk_cf (ci := 0) rfl (by decide)).1 hown hK hP 0 (zk_w_get h0) rfl 1 (by decide) (hts _ (zk_isw_mem zx_f19)) (fun x z => z) (by rw [List.getElem?_map, ← zk_at_eq, a1]; rfl) zx_db_6 ?_
      refine va_get (D := D) (ci := 3) (v := .int goods) (ref := "BasketKeep$Level") hx hb hts (zk_cf (ci := 3) rfl (by decide)).1 hown hK hP 20 (zk_w_get h20) rfl 8 (by decide) (hts _ (zk_isw_mem zx_f117)) (fun x z => z) (by rw [List.getElem?_map, ← zk_at_eq, a8]; rfl) zx_db_9 ?_
      refine lv_icmp_ge hx hb (tgt := 41) zx_db_12 (by decide) (fun z => absurd z (zx_lt (by omega))) (fun _ => ?_)
      refine lv_aload_n hx hb zx_db_15 rfl (lv_at hl 0 rfl) ?_
      refine va_get (D := D) (ci := 0) (v := .ref (B + 32)) (ref := "BasketKeep") hx hb hts (zk_cf (ci := 0) rfl (by decide)).1 hown hK hP 0 (zk_w_get h0) rfl 3 (by decide) (hts _ (zk_isw_mem zx_f30)) (fun x z => z) (by rw [List.getElem?_map, ← zk_at_eq, a3]; rfl) zx_db_16 ?_
      refine lv_iload_n hx hb zx_db_19 rfl (lv_at hl 3 rfl) ?_
      have hS : va_S (fun _ => False) s.heap s.heap [] := va_S.rf
      refine va_calli (a := ([.ref (B + 32), .int (nI g)] : List Value).toArray) (va_runV (own := "BasketKeep") (C := "BasketKeep$State") (index := 177) (b := B + 32) (As := [.int (nI g)]) (rest := []) ⟨hx, hb, hml, hown, hts⟩ (zx_isLost (D := D) (E := E) (B := B) (X := X) (Ls := Ls) (xs := xs) h32 b1) (cwV 1 hts (zk_good ?_) rfl rfl rfl ⟨rfl, by decide, by decide, by decide⟩ ⟨Nat.le_of_ble_eq_true rfl, Nat.le_of_ble_eq_true rfl⟩) ⟨zk_blind (zk_EXs B X), va_recv hK hP (ci := 4) rfl (zk_w_get h32), fun U hU hW => ⟨rfl, zx_pre hg0 U hU hW⟩⟩ rfl rfl hl.1 rfl (lv_room (Nat.le_of_ble_eq_true rfl)) zx_db_20 ⟨Nat.zero_le _, Nat.zero_le _⟩) hS (fun _ _ z => z.elim) (fun _ z => z.elim) (fun r u t H1 locs1 ht hvm hp hB hz hk hS1 => ?_)
      · intro w hw
        simp only [wsV, List.cons_append, List.nil_append, List.mem_cons] at hw
        rcases hw with rfl | rfl | rfl | rfl | rfl | hw
        · exact zk_isw_mem zx_m177
        · exact zk_isw_mem zx_i25
        · exact zk_isw_mem zx_s25
        · exact zk_isw_mem zx_n4
        · exact zk_isw_mem zx_c25
        · exact hw
      · refine W.zsz fun hzz => ?_
        have e1 : H1 = s.heap := zx_eq hS1 (by omega)
        have e2 : locs1 = [] := List.eq_nil_iff_forall_not_mem.mpr (fun q hq => hS1.2.2 q hq)
        subst e1; subst e2
        have ih2 := ih (g + 1)
        have back : ∀ (bh : Int32) (ls : Array Slot), zk_ledF n (g + 1) lost bh = zk_ledF goods.toNatClampNeg 0 lost i → lv_has ls 4 [(0, .ref B), (1, .int i), (2, .int bh), (3, .int (nI g))] → W p l e (headSpec (.code zx_yB prog_1_method_60_code 4 (some .int) :: zk_TB) { frames := 6, cells := mc, slots := ms, locals := 81 }).room s m ([.ref B, .int i] : List Value).toArray below meth c s.heap [] 0 0 (vx_MQ below (va_Qi (fun r (_ : Unit) => ∃ g, zk_ledF goods.toNatClampNeg 0 lost i = some g ∧ r = nI g) (fun _ _ => True) (fun _ => False)) (vx_X (fun (_ : Unit) => zk_ledF goods.toNatClampNeg 0 lost i = none) (fun E0 _ t => E0 = "java/util/NoSuchElementException" ∧ ∃ ce : Cell, t.heap[B + h.length]? = some ce ∧ ce.vm = .none ∧ ce.cls = D.1 12) (fun _ => False)) ([.ref B, .int i] : List Value).toArray s mc ms (fun _ => False)) (F0 m 35 ls []) := by
          intro bh ls hbh hl
          refine lv_iinc hx hb zx_db_35 hl (k := 3) rfl (show nI g + Int32.ofInt 1 = nI (g + 1) from (nI_succ g).symm) (by decide) rfl (fun ls2 hl2 => ?_)
          refine lv_goto hx hb (tgt := 4) zx_db_38 (by decide) ?_
          exact ih2 bh ls2 (by omega) hbh (lv_sub hl2 [1, 2, 3, 0] rfl)
        have hstep : zk_ledF (n + 1) g lost behind = if (lost >>> (nI g &&& 31)) &&& 1 = 0 then zk_ledF n (g + 1) lost behind else if behind = 0 then some g else zk_ledF n (g + 1) lost (behind + (-1)) := rfl
        rw [hstep] at hr0
        refine lv_if_eq hx hb (tgt := 35) zx_db_23 (by decide) (fun z => ?_) (fun z => ?_)
        · have hz0 : (lost >>> (nI g &&& 31)) &&& 1 = 0 := by
            refine Classical.byContradiction fun z2 => ?_
            rw [hp, if_neg z2] at z
            exact absurd z (by decide)
          rw [if_pos hz0] at hr0
          exact back behind ls hr0 hl
        · have hz0 : ¬ ((lost >>> (nI g &&& 31)) &&& 1 = 0) := fun z2 => z (by rw [hp, if_pos z2])
          rw [if_neg hz0] at hr0
          refine lv_iload_n hx hb zx_db_26 rfl (lv_at hl 2 rfl) ?_
          refine lv_if_ne hx hb (tgt := 32) zx_db_27 (by decide) (fun z3 => ?_) (fun z3 => ?_)
          · rw [if_neg z3] at hr0
            refine lv_iinc hx hb zx_db_32 hl (k := 2) rfl (show behind + Int32.ofInt (-1) = behind + (-1) from rfl) (by decide) rfl (fun ls2 hl2 => ?_)
            exact back (behind + (-1)) ls2 hr0 (lv_sub hl2 [1, 2, 0, 3] rfl)
          · have z4 : behind = 0 := z3
            rw [if_pos z4] at hr0
            refine lv_iload_n hx hb zx_db_30 rfl (lv_at hl 3 rfl) ?_
            refine W.widen (k := mc) (n := ms) (Nat.zero_le _) (Nat.zero_le _) ?_
            exact vx_ret (W.iret hx hb hr (fun t ht hW => ⟨⟨_, (), rfl, ⟨g, hr0.symm, rfl⟩, trivial⟩, zj_F (Nat.le_refl _) (fun _ _ => rfl) ht⟩) (fun q hq => by cases hq) zx_db_31)
  refine lv_iload_n hx hb zx_db_0 rfl (lv_at hl 1 rfl) ?_
  refine lv_istore_n hx hb zx_db_1 rfl hl (by decide) rfl (fun ls2 hl2 => ?_)
  refine lv_iconst (v := 0) hx hb zx_db_2 rfl ?_
  refine lv_istore_n hx hb zx_db_3 rfl hl2 (by decide) rfl (fun ls3 hl3 => ?_)
  exact loop goods.toNatClampNeg 0 i ls3 (by omega) rfl (lv_sub hl3 [2, 3, 1, 0] rfl)
set_option maxHeartbeats 2000000 in
theorem zx_law (hflags : l.stackTraces = false) {i : Int32} {h' : zk_H} {v : Option Value} (hq : zk_led i h = some (v, h')) :
    Met l (zk_nam zm_2) (.codeWith (zk_nam zm_2) method_3_code 4 (some .int) [(0, 9, 12, 13)] :: zk_TB) { frames := 7, cells := h'.length - h.length, slots := zk_sl h' - zk_sl h, locals := 104 } (va_Pc [.ref B, .int i, .ref (B + 86)] (zk_Wd (zk_EX B X) D E B X Ls xs h)) (zk_Qr D E B X v h') (h'.length - h.length) (zk_sl h' - zk_sl h) (fun q => B ≤ q) := by
  obtain ⟨fx, fl, fs, n, f, goods, lost, h0, h20, h32, h85, a1, a3, a8, b1, hn, hz⟩ := zk_ledI hq
  have hroom : zk_ledF goods.toNatClampNeg 0 lost i = none → 1 ≤ h'.length - h.length ∧ 6 ≤ zk_sl h' - zk_sl h := by
    intro hN
    rcases hz with ⟨g, hg, -, -⟩ | ⟨-, -, rfl⟩
    · rw [hN] at hg; cases hg
    · rw [List.length_append, zk_sl_app]
      show 1 ≤ h.length + 1 - h.length ∧ 6 ≤ zk_sl h + 6 - zk_sl h
      omega
  have hled := zx_led (D := D) (E := E) (B := B) (X := X) (Ls := Ls) (xs := xs) hflags h0 h20 h32 a1 a3 a8 b1 hroom
  generalize hmc : h'.length - h.length = mc at hled ⊢
  generalize hms : zk_sl h' - zk_sl h = ms at hled ⊢
  refine va_MetW (cc := method_3_code) (maxL := 4) (ret := some .int) (hh := [(0, 9, 12, 13)]) (by decide) rfl ?_
  intro p e s m args below meth c s₁ Bd hml hv
  obtain ⟨rfl, hg⟩ := hv
  have hx := Bd.exec
  have hb := Bd.bytes
  have hr := Bd.returns
  have hlocks := Bd.notSynchronized
  have hown := findClass_of_methodNamed Bd.named
  have hts0 := atoms_spec (ws := .codeWith (zk_nam zm_2) method_3_code 4 (some .int) [(0, 9, 12, 13)] :: zk_TB) Bd.pre
  have hts : ∀ w ∈ zk_TB, w.before ([.ref B, .int i, .ref (B + 86)] : List Value).toArray s = true := fun w hw => hts0 w (List.mem_cons_of_mem _ hw)
  have hl := lv_entry ([.ref B, .int i, .ref (B + 86)]) (n := 4) (Nat.le_of_ble_eq_true rfl)
  rw [lg_entry_eq]
  generalize (lg_sl ([.ref B, .int i, .ref (B + 86)]) ++ List.replicate (4 - (lg_sl ([.ref B, .int i, .ref (B + 86)])).length) Slot.unset).toArray = ls at hl ⊢
  have hl : lv_has ls 4 [(0, .ref B), (1, .int i), (2, .ref (B + 86))] := hl
  have htab := vx_table (x := zk_nam zm_2) Bd (hts0 _ List.mem_cons_self)
  have hg0 := hg
  obtain ⟨hsz, hP, hK, -, -, hEX⟩ := hg
  have hS : va_S (fun q => B ≤ q) s.heap s.heap [] := va_S.rf
  refine lv_aload_n hx hb zx_dl_0 rfl (lv_at hl 2 rfl) ?_
  refine lv_iconst (v := 0) hx hb zx_dl_1 rfl ?_
  refine lv_aload_n hx hb zx_dl_2 rfl (lv_at hl 0 rfl) ?_
  refine lv_iload_n hx hb zx_dl_3 rfl (lv_at hl 1 rfl) ?_
  refine vx_calli (a := ([.ref B, .int i] : List Value).toArray) (vx_runV (own := "BasketKeepLaw") (C := "BasketKeep") (index := 7) (b := B) (As := [.int i]) (rest := [.int 0, .ref (B + 86)]) ⟨hx, hb, hml, hown, hts⟩ hled (cwV 1 hts (zk_good ?_) rfl rfl rfl ⟨rfl, by decide, by decide, by decide⟩ ⟨Nat.le_of_ble_eq_true rfl, Nat.le_of_ble_eq_true rfl⟩) ⟨zk_blind (zk_EXs B X), va_recv hK hP (ci := 0) (a := B) rfl (zk_w_get (a := 0) h0), fun U hU hW => ⟨rfl, zx_pre hg0 U hU hW⟩⟩ rfl rfl hl.1 rfl (lv_room (Nat.le_of_ble_eq_true rfl)) zx_dl_4 ⟨by show 0 + mc ≤ mc; omega, by show 0 + ms ≤ ms; omega⟩) hS (fun _ _ z => z.elim) (fun _ z => z.elim) (fun _ _ z => z.elim) ?_ ?_
  · intro w hw
    simp only [wsV, List.cons_append, List.nil_append, List.mem_cons] at hw
    rcases hw with rfl | rfl | rfl | rfl | rfl | hw
    · exact zk_isw_mem zx_m7
    · exact zk_isw_mem zx_iB
    · exact zk_isw_mem zx_sB
    · exact zk_isw_mem zx_n0
    · exact zk_isw_mem zx_cB
    · exact hw
  · intro E0 ce q9 u t H1 locs1 ht hvm hp ⟨hE0, ce2, y1, y2, y3⟩ hz1 hk1 hS1 hc1 hc2 hc3
    subst hE0
    rw [ht] at y1
    refine vx_catch (own := "BasketKeepLaw") (name := "java/util/NoSuchElementException") hown [] ⟨0, 9, 12, 13⟩ [] htab (fun z hz => by cases hz) (by decide) (by decide) (hts _ (zk_isw_mem zx_k13)) (va_Nw.use rfl (hEX.2.2.2.2.2.1 _ (by simp [zk_xw]))) hc1 hc2 hc3 ?_
    refine lv_astore_n hx hb zx_dl_12 rfl hl (by decide) rfl (fun ls2 hl2 => ?_)
    refine lv_iconst (v := 1) hx hb zx_dl_13 rfl ?_
    rw [Nat.zero_add, Nat.zero_add]
    rcases hz with ⟨g, hg, -, -⟩ | ⟨-, rfl, rfl⟩
    · rw [hp] at hg; cases hg
    refine W.iret hx hb hr (fun t2 ht2 hW => ⟨⟨_, (), rfl, rfl, ?_⟩, hS1.F ht2⟩) hS1.2.2 zx_dl_14
    show va_P _ _ _ t2.heap
    rw [ht2, zk_w_app]
    refine va_P.app (fun k q hq => (hP k q hq).kept (hk1 q.1 (hP k q hq).lt (fun z => z))) (fun k q hq => ?_)
    match k, hq with
    | 0, hq =>
      cases hq
      refine ⟨_, rfl, ce2, ?_, y3, y2, fun k hk => absurd hk (Nat.not_lt_zero k)⟩
      show H1[B + (0 + h.length)]? = some ce2
      rw [Nat.zero_add]
      exact y1
  · intro r u t H1 locs1 ht hvm ⟨g, hg, hrg⟩ hB hz1 hk1 hS1
    rcases hz with ⟨g2, hg2, rfl, rfl⟩ | ⟨hN, -, -⟩
    · cases hg2.symm.trans hg
      subst hrg
      have hP1 : va_P D zk_cls (zk_w E B X 0 h) H1 := fun k q hq => (hP k q hq).kept (hk1 q.1 (hP k q hq).lt (fun z => z))
      refine lv_i2l hx hb zx_dl_7 rfl ?_
      refine va_last hx hb hK hP1 (zk_w_D h) hS1 86 2 (zk_w_get h85) rfl (fun z => z.elim (fun z => absurd z (by decide)) (fun z => absurd hn (Nat.not_lt.mpr z))) zx_dl_8 (fun H2 locs2 gg1 _ gg2 => ?_)
      refine lv_goto hx hb (tgt := 15) zx_dl_9 (by decide) ?_
      refine lv_iconst (v := 0) hx hb zx_dl_15 rfl ?_
      rw [Nat.zero_add, Nat.zero_add]
      refine W.iret hx hb hr (fun t2 ht2 hW => ⟨⟨_, (), rfl, rfl, ?_⟩, gg2.F ht2⟩) gg2.2.2 zx_dl_16
      show va_P _ _ _ t2.heap
      rw [ht2, ← zk_w_set]
      exact gg1
    · rw [hN] at hg; cases hg
/-- the law's own call of its led -/
theorem zx_LedH {p : Program} {e : Env} {s : State} {m : MethodId} {below : List Frame} {meth : Method} {c : Code} {b L : Nat} {Q : State → Prop} (hflags : l.stackTraces = false) (F : zk_Fx (zk_EX s.heap.size X) D E s.heap.size X L xs zm_311 p room_1 s m #[Value.ref b] meth c) : zk_LedH (zk_EX s.heap.size X) D E s.heap.size X L xs zm_311 p l e room_1 s m #[Value.ref b] below meth c 0 0 Q := by
  intro idx r2 r3 pc LL st h hd hm hn0 hs0 hA
  have F0' := F
  obtain ⟨hx, hb, hr, hml, hown, hts, hlocks, hinit, hfr, hlo, -, hKk, hB, hXs, hXB, hE⟩ := F
  have hA : zk_Af (zk_EX s.heap.size X) D E s.heap.size X L xs zm_311 p l e room_1 s m #[Value.ref b] below meth c 0 0 Q h (match zk_pop r3 st [] with
      | some (as, rest) => bif Nat.ble (zk_cat rest) 8 then zk_cl r2 as (pc + 3, LL, rest) else none
      | none => none) := hA
  cases hpop : zk_pop r3 st [] with
  | none => rw [hpop] at hA; exact False.elim hA
  | some q =>
    obtain ⟨as, rest⟩ := q
    rw [hpop] at hA
    dsimp only at hA
    obtain ⟨hst, hlen⟩ := zk_pop_sp hpop
    simp only [List.reverse_nil, List.nil_append, List.length_nil, Nat.add_zero] at hst hlen
    cases hc : Nat.ble (zk_cat rest) 8 with
    | false => rw [hc] at hA; exact False.elim hA
    | true =>
      rw [hc] at hA
      have hc2 := Nat.le_of_ble_eq_true hc
      obtain ⟨K, v, h', hmt, hSp, hmono, hroom, hK⟩ := hA
      have hr2 : r2 = 2 := zx_r2 hm
      subst hr2
      have hK2 : K = zm_2 := (Option.some.inj hmt).symm
      subst hK2
      obtain ⟨k, hk, hq⟩ := hSp.2 rfl
      obtain ⟨i, rfl, hq2⟩ := zx_ex hk hq
      have hl := zk_link hm hmt (by omega) (by omega) (by omega)
      intro H locs ls hlv hP hS
      refine W.zsz fun hz => ?_
      have hpre := zk_pre (zk_EXs s.heap.size X) F0' hn0 rfl hP hS hz
      refine zk_after (v := v) (h' := h') (rest := rest) (a := ([.ref s.heap.size, .int i, .ref (s.heap.size + 86)] : List Value).toArray) (vx_runSW (own := "BasketKeepLaw") (index := idx) (As := [.ref s.heap.size, .int i, .ref (s.heap.size + 86)]) (rest := rest.map (zk_v s.heap.size X)) ⟨hx, hb, hml, hown, hts⟩ (zx_law hflags hq2) (vx_cwSW 3 hts (zk_good ?_) rfl rfl rfl ⟨by decide, by decide, by decide⟩ ⟨Nat.le_of_ble_eq_true rfl, Nat.le_of_ble_eq_true rfl⟩) ⟨zk_blind (zk_EXs s.heap.size X), fun U hU hW => ⟨rfl, hpre U hU hW⟩⟩ rfl rfl hlv.1 ?_ ?_ hd ?_) hS hn0 hs0 hmono hlv hK
      · intro w hw
        simp only [va_wsS, List.cons_append, List.nil_append, List.mem_cons] at hw
        rcases hw with rfl | rfl | rfl | rfl | hw
        · exact hl
        · exact zk_isw_mem zx_s2
        · exact zk_isw_mem zx_nL
        · exact zk_isw_mem zx_c2
        · exact hw
      · show st.map (zk_v s.heap.size X) = _
        rw [hst]
        rfl
      · exact lv_room (by rw [zk_cat_sum]; exact hc2)
      · constructor <;> omega
end ZX
