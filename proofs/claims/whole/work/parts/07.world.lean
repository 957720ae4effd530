/-! the small machine's cells and values as the Statement's machine has them -/
def zk_v (B : Nat) (X : Nat → Nat) : Value → Value
  | .ref k => .ref (B + k)
  | .retAddr k => .ref (X k)
  | v => v
def zk_c (E : Nat → ClassId) (B : Nat) (X : Nat → Nat) : zk_C → va_E
  | .inl q => .inl (E q.1, q.2)
  | .inr q => .inr (q.1, q.2.map (zk_v B X))
def zk_w (E : Nat → ClassId) (B : Nat) (X : Nat → Nat) : Nat → zk_H → va_W
  | _, [] => []
  | k, q :: h => (B + k, zk_c E B X q) :: zk_w E B X (k + 1) h
def zk_sc : zk_C → Nat
  | .inl q => q.2.1
  | .inr q => q.2.length
def zk_sl : zk_H → Nat
  | [] => 0
  | q :: h => zk_sc q + zk_sl h
def zk_lv (B : Nat) (X : Nat → Nat) (L : zk_L) : List (Nat × Value) := L.map (fun q => (q.1, zk_v B X q.2))
def zk_tys (E : Nat → ClassId) : List (ClassId × FieldType) := [(E 0, .int), (E 1, .byte), (E 2, .long)]
theorem zk_beq (a b : Nat) : (Nat.beq a b = true) = (a = b) := propext ⟨Nat.eq_of_beq_eq_true, fun h => by rw [h]; exact Nat.beq_refl b⟩
theorem zk_bltI {a b : Nat} : Nat.blt a b = true ↔ a < b := ⟨fun h => Nat.le_of_ble_eq_true h, fun h => Nat.ble_eq_true_of_le h⟩
theorem zk_blt (a b : Nat) : (Nat.blt a b = true) = (a < b) := propext zk_bltI
theorem zk_at_eq {α : Type} : ∀ (l : List α) (k : Nat), zk_at l k = l[k]?
  | [], k => by simp [zk_at]
  | a :: l, 0 => by simp [zk_at]
  | a :: l, k + 1 => by simp [zk_at, zk_at_eq l k]
theorem zk_put_eq {α : Type} : ∀ (l : List α) (k : Nat) (x : α), zk_put l k x = l.set k x
  | [], k, x => by simp [zk_put]
  | a :: l, 0, x => by simp [zk_put]
  | a :: l, k + 1, x => by simp [zk_put, zk_put_eq l k x]
theorem zk_put_len {α : Type} (l : List α) (k : Nat) (x : α) : (zk_put l k x).length = l.length := by rw [zk_put_eq, List.length_set]
theorem zk_sl_put : ∀ (h : zk_H) (a : Nat) (q q0 : zk_C), zk_at h a = some q0 → zk_sc q = zk_sc q0 → zk_sl (zk_put h a q) = zk_sl h
  | [], a, q, q0, h1, _ => by simp [zk_at] at h1
  | x :: h, 0, q, q0, h1, h2 => by
    simp [zk_at] at h1
    simp [zk_put, zk_sl, h2, h1]
  | x :: h, a + 1, q, q0, h1, h2 => by
    simp only [zk_at] at h1
    simp [zk_put, zk_sl, zk_sl_put h a q q0 h1 h2]
theorem zk_sl_app : ∀ (h : zk_H) (q : zk_C), zk_sl (h ++ [q]) = zk_sl h + zk_sc q
  | [], q => by simp [zk_sl]
  | x :: h, q => by simp [zk_sl, zk_sl_app h q, Nat.add_assoc]
theorem zk_w_at {E : Nat → ClassId} {B : Nat} {X : Nat → Nat} : ∀ (h : zk_H) (k j : Nat), (zk_w E B X k h)[j]? = (zk_at h j).map (fun q => (B + (k + j), zk_c E B X q))
  | [], k, j => by simp [zk_w, zk_at]
  | q :: h, k, 0 => by simp [zk_w, zk_at]
  | q :: h, k, j + 1 => by
    simp only [zk_w, zk_at, List.getElem?_cons_succ]
    rw [zk_w_at h (k + 1) j, show k + 1 + j = k + (j + 1) by omega]
theorem zk_w_put {E : Nat → ClassId} {B : Nat} {X : Nat → Nat} : ∀ (h : zk_H) (k j : Nat) (q : zk_C), zk_w E B X k (zk_put h j q) = (zk_w E B X k h).set j (B + (k + j), zk_c E B X q)
  | [], k, j, q => by simp [zk_w, zk_put]
  | x :: h, k, 0, q => by simp [zk_w, zk_put]
  | x :: h, k, j + 1, q => by
    simp only [zk_w, zk_put, List.set_cons_succ]
    rw [zk_w_put h (k + 1) j q, show k + 1 + j = k + (j + 1) by omega]
theorem zk_w_app {E : Nat → ClassId} {B : Nat} {X : Nat → Nat} : ∀ (h : zk_H) (k : Nat) (q : zk_C), zk_w E B X k (h ++ [q]) = zk_w E B X k h ++ [(B + (k + h.length), zk_c E B X q)]
  | [], k, q => by simp [zk_w]
  | x :: h, k, q => by
    simp only [zk_w, List.cons_append, List.length_cons]
    rw [zk_w_app h (k + 1) q, show k + 1 + h.length = k + (h.length + 1) by omega]
theorem zk_w_get {E : Nat → ClassId} {B : Nat} {X : Nat → Nat} {h : zk_H} {a : Nat} {q : zk_C} (ha : zk_at h a = some q) : (zk_w E B X 0 h)[a]? = some (B + a, zk_c E B X q) := by
  rw [zk_w_at, ha, Nat.zero_add]; rfl
theorem zk_w_set {E : Nat → ClassId} {B : Nat} {X : Nat → Nat} {h : zk_H} {a : Nat} {q : zk_C} : (zk_w E B X 0 h).set a (B + a, zk_c E B X q) = zk_w E B X 0 (zk_put h a q) := by
  rw [zk_w_put, Nat.zero_add]
theorem zk_w_key {E : Nat → ClassId} {B : Nat} {X : Nat → Nat} {h : zk_H} {a : Nat} {q : Nat × va_E} (ha : (zk_w E B X 0 h)[a]? = some q) : q.1 = B + a := by
  rw [zk_w_at] at ha
  cases hz : zk_at h a with
  | none => rw [hz] at ha; cases ha
  | some c => rw [hz] at ha; cases ha; simp
theorem zk_w_D {E : Nat → ClassId} {B : Nat} {X : Nat → Nat} (h : zk_H) : va_D (fun q => B ≤ q) (zk_w E B X 0 h) := by
  refine ⟨fun i j p q hi hj hpq => ?_, fun k q hk => ?_⟩
  · have h1 := zk_w_key hi
    have h2 := zk_w_key hj
    omega
  · have h1 := zk_w_key hk
    show B ≤ q.1
    omega
theorem zk_w_len {E : Nat → ClassId} {B : Nat} {X : Nat → Nat} : ∀ (h : zk_H) (k : Nat), (zk_w E B X k h).length = h.length
  | [], _ => rfl
  | _ :: h, k => by simp [zk_w, zk_w_len h (k + 1)]
/-- the heap is at least as long as the cells say -/
theorem zk_P_size {D : va_G} {E : Nat → ClassId} {B : Nat} {X : Nat → Nat} {h : zk_H} {H : Heap} (hP : va_P D zk_cls (zk_w E B X 0 h) H) (hB : B ≤ H.size) : B + h.length ≤ H.size := by
  rcases Nat.eq_zero_or_pos h.length with h0 | h0
  · omega
  · have hl : h.length - 1 < (zk_w E B X 0 h).length := by rw [zk_w_len]; omega
    have h1 : (zk_w E B X 0 h)[h.length - 1]? = some ((zk_w E B X 0 h)[h.length - 1]) := List.getElem?_eq_getElem hl
    have h2 := (hP _ _ h1).lt
    have h3 := zk_w_key h1
    omega
/-! locals -/
theorem zk_v_cat (B : Nat) (X : Nat → Nat) (v : Value) : (zk_v B X v).category = v.category := by cases v <;> rfl
theorem zk_lv_sub {ls : Array Slot} {n : Nat} {l l' : List (Nat × Value)} (h : lv_has ls n l) (hs : ∀ q ∈ l', q ∈ l) : lv_has ls n l' := ⟨h.1, h.2.1, fun q hq => h.2.2 q (hs q hq)⟩
theorem zk_look_mem {α : Type} : ∀ {L : List (Nat × α)} {k : Nat} {v : α}, zk_look L k = some v → (k, v) ∈ L
  | [], k, v, h => by simp [zk_look] at h
  | q :: l, k, v, h => by
    unfold zk_look at h
    cases hc : Nat.beq q.1 k with
    | true =>
      rw [hc] at h
      have e1 : q.1 = k := Nat.eq_of_beq_eq_true hc
      have e2 : q.2 = v := Option.some.inj h
      rw [← e1, ← e2]
      exact List.mem_cons_self
    | false =>
      rw [hc] at h
      exact List.mem_cons_of_mem _ (zk_look_mem h)
theorem zk_get {ls : Array Slot} {n B k : Nat} {X : Nat → Nat} {L : zk_L} {v : Value} (h : lv_has ls n (zk_lv B X L)) (hq : zk_look L k = some v) : ls[k]? = some (.val (zk_v B X v)) :=
  h.2.2 (k, zk_v B X v) (List.mem_map.mpr ⟨(k, v), zk_look_mem hq, rfl⟩)
theorem zk_flt_mem {p : Nat × Value → Bool} : ∀ {L : zk_L} {q : Nat × Value}, q ∈ zk_flt p L → q ∈ L ∧ p q = true
  | [], q, h => by simp [zk_flt] at h
  | x :: l, q, h => by
    unfold zk_flt at h
    cases hc : p x with
    | true =>
      rw [hc] at h
      rcases List.mem_cons.mp h with rfl | h
      · exact ⟨List.mem_cons_self, hc⟩
      · exact ⟨List.mem_cons_of_mem _ (zk_flt_mem h).1, (zk_flt_mem h).2⟩
    | false =>
      rw [hc] at h
      exact ⟨List.mem_cons_of_mem _ (zk_flt_mem h).1, (zk_flt_mem h).2⟩
theorem zk_ins_mem {i : Nat} {v : Value} : ∀ {L : zk_L} {q : Nat × Value}, q ∈ zk_ins i v L → q = (i, v) ∨ q ∈ L
  | [], q, h => by
    simp only [zk_ins, List.mem_singleton] at h
    exact Or.inl h
  | x :: l, q, h => by
    unfold zk_ins at h
    cases hc : Nat.blt i x.1 with
    | true =>
      rw [hc] at h
      exact (List.mem_cons.mp h).imp id id
    | false =>
      rw [hc] at h
      rcases List.mem_cons.mp h with rfl | h
      · exact Or.inr List.mem_cons_self
      · exact (zk_ins_mem h).imp id (List.mem_cons_of_mem _)
theorem zk_nm_mem {M : zk_M} {pc : Nat} {L : zk_L} {q : Nat × Value} (h : q ∈ zk_nm M pc L) : q ∈ L := by
  unfold zk_nm at h
  split at h
  · exact (zk_flt_mem h).1
  · exact h
theorem zk_nmL {ls : Array Slot} {n B pc : Nat} {X : Nat → Nat} {M : zk_M} {L : zk_L} (h : lv_has ls n (zk_lv B X L)) : lv_has ls n (zk_lv B X (zk_nm M pc L)) := by
  refine zk_lv_sub h fun q hq => ?_
  obtain ⟨z, hz, rfl⟩ := List.mem_map.mp hq
  exact List.mem_map.mpr ⟨z, zk_nm_mem hz, rfl⟩
theorem zk_st1L {ls : Array Slot} {n B i : Nat} {X : Nat → Nat} {L : zk_L} {v w : Value} (hw : zk_v B X v = w) (h : lv_has ls n ((i, w) :: (zk_lv B X L).filter (fun q => !(q.1 == i) && !(q.1 + 1 == i && q.2.category == 2)))) : lv_has ls n (zk_lv B X (zk_st1 L i v)) := by
  refine zk_lv_sub h fun q hq => ?_
  obtain ⟨z, hz, rfl⟩ := List.mem_map.mp hq
  rcases zk_ins_mem hz with rfl | hz
  · rw [← hw]; exact List.mem_cons_self
  · obtain ⟨h1, h2⟩ := zk_flt_mem hz
    refine List.mem_cons_of_mem _ (List.mem_filter.mpr ⟨List.mem_map.mpr ⟨z, h1, rfl⟩, ?_⟩)
    simp only [Bool.and_eq_true, Bool.not_eq_true', Bool.and_eq_false_iff] at h2 ⊢
    rw [zk_v_cat]
    exact ⟨by simpa using Nat.ne_of_beq_eq_false h2.1, h2.2.imp (fun h => by simpa using Nat.ne_of_beq_eq_false h) (fun h => by simpa using Nat.ne_of_beq_eq_false h)⟩
theorem zk_st2L {ls : Array Slot} {n B i : Nat} {X : Nat → Nat} {L : zk_L} {v w : Value} (hw : zk_v B X v = w) (h : lv_has ls n ((i, w) :: (zk_lv B X L).filter (fun q => !(q.1 == i) && (!(q.1 == i + 1) && !(q.1 + 1 == i && q.2.category == 2))))) : lv_has ls n (zk_lv B X (zk_st2 L i v)) := by
  refine zk_lv_sub h fun q hq => ?_
  obtain ⟨z, hz, rfl⟩ := List.mem_map.mp hq
  rcases zk_ins_mem hz with rfl | hz
  · rw [← hw]; exact List.mem_cons_self
  · obtain ⟨h1, h2⟩ := zk_flt_mem hz
    refine List.mem_cons_of_mem _ (List.mem_filter.mpr ⟨List.mem_map.mpr ⟨z, h1, rfl⟩, ?_⟩)
    simp only [Bool.and_eq_true, Bool.not_eq_true', Bool.and_eq_false_iff] at h2 ⊢
    rw [zk_v_cat]
    exact ⟨by simpa using Nat.ne_of_beq_eq_false h2.1, by simpa using Nat.ne_of_beq_eq_false h2.2.1, h2.2.2.imp (fun h => by simpa using Nat.ne_of_beq_eq_false h) (fun h => by simpa using Nat.ne_of_beq_eq_false h)⟩
theorem zk_args_tr {B : Nat} {X : Nat → Nat} : ∀ (as : List Value) (i : Nat), lv_args i (as.map (zk_v B X)) = zk_lv B X (lv_args i as)
  | [], i => rfl
  | v :: as, i => by
    simp only [List.map_cons, lv_args, zk_v_cat]
    rw [zk_args_tr as]
    rfl
theorem zk_cat_sl (B : Nat) (X : Nat → Nat) : ∀ (as : List Value), (lg_sl (as.map (zk_v B X))).length = zk_cat as
  | [] => rfl
  | v :: as => by
    simp only [List.map_cons, lg_sl, List.flatMap_cons, List.length_append, zk_cat, zk_v_cat]
    have h1 := zk_cat_sl B X as
    unfold lg_sl at h1
    rw [h1]
    rcases lv_cat v with h | h <;> simp [h]
theorem zk_cat_sum (B : Nat) (X : Nat → Nat) : ∀ (as : List Value), ((as.map (zk_v B X)).map fun v => v.category).sum = zk_cat as
  | [] => rfl
  | v :: as => by
    have h1 := zk_cat_sum B X as
    simp only [List.map_cons, List.sum_cons, zk_cat, zk_v_cat]
    rw [h1]
