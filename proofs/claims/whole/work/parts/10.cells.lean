theorem zk_memF_sp : ∀ {l : List (Nat × Nat × Nat × Nat × Nat × Nat)} {o i a b c : Nat}, zk_memF l o i a b c = true → ∃ p, (o, i, a, b, c, p) ∈ l
  | [], o, i, a, b, c, h => by simp [zk_memF] at h
  | q :: l, o, i, a, b, c, h => by
    simp only [zk_memF, Bool.or_eq_true, Bool.and_eq_true, zk_beq] at h
    rcases h with ⟨h1, h2, h3, h4, h5⟩ | h
    · obtain ⟨q1, q2, q3, q4, q5, q6⟩ := q
      simp only at h1 h2 h3 h4 h5
      subst h1; subst h2; subst h3; subst h4; subst h5
      exact ⟨q6, List.mem_cons_self⟩
    · obtain ⟨p, hp⟩ := zk_memF_sp h
      exact ⟨p, List.mem_cons_of_mem _ hp⟩
theorem zk_memM_sp : ∀ {l : List (Nat × Nat × Nat × Nat × Nat)} {o i a b : Nat}, zk_memM l o i a b = true → ∃ p, (o, i, a, b, p) ∈ l
  | [], o, i, a, b, h => by simp [zk_memM] at h
  | q :: l, o, i, a, b, h => by
    simp only [zk_memM, Bool.or_eq_true, Bool.and_eq_true, zk_beq] at h
    rcases h with ⟨h1, h2, h3, h4⟩ | h
    · obtain ⟨q1, q2, q3, q4, q5⟩ := q
      simp only at h1 h2 h3 h4
      subst h1; subst h2; subst h3; subst h4
      exact ⟨q5, List.mem_cons_self⟩
    · obtain ⟨p, hp⟩ := zk_memM_sp h
      exact ⟨p, List.mem_cons_of_mem _ hp⟩
theorem zk_memC_sp : ∀ {l : List (Nat × Nat × Nat × Nat)} {o i a : Nat}, zk_memC l o i a = true → ∃ p, (o, i, a, p) ∈ l
  | [], o, i, a, h => by simp [zk_memC] at h
  | q :: l, o, i, a, h => by
    simp only [zk_memC, Bool.or_eq_true, Bool.and_eq_true, zk_beq] at h
    rcases h with ⟨h1, h2, h3⟩ | h
    · obtain ⟨q1, q2, q3, q4⟩ := q
      simp only at h1 h2 h3
      subst h1; subst h2; subst h3
      exact ⟨q4, List.mem_cons_self⟩
    · obtain ⟨p, hp⟩ := zk_memC_sp h
      exact ⟨p, List.mem_cons_of_mem _ hp⟩
theorem zk_memK_sp : ∀ {l : List (Nat × Nat × Int32 × Nat)} {o i : Nat} {a : Int32}, zk_memK l o i a = true → ∃ p, (o, i, a, p) ∈ l
  | [], o, i, a, h => by simp [zk_memK] at h
  | q :: l, o, i, a, h => by
    simp only [zk_memK, Bool.or_eq_true, Bool.and_eq_true, zk_beq, decide_eq_true_eq] at h
    rcases h with ⟨h1, h2, h3⟩ | h
    · obtain ⟨q1, q2, q3, q4⟩ := q
      simp only at h1 h2 h3
      subst h1; subst h2; subst h3
      exact ⟨q4, List.mem_cons_self⟩
    · obtain ⟨p, hp⟩ := zk_memK_sp h
      exact ⟨p, List.mem_cons_of_mem _ hp⟩
/-- which values a field's sort may hold -/
def zk_tok (tc : Nat) (ty : FieldType) : Bool := match tc, ty with
  | 0, .int => true
  | 1, .boolean => true
  | 2, .long => true
  | 3, .object _ => true
  | 3, .array _ => true
  | _, _ => false
theorem zk_fld {o idx ci k tc : Nat} (h : zk_memF zk_rf o idx ci k tc = true) : ∃ r : vw_C, zk_cls[ci]? = some r ∧ k < r.2.2 ∧ Cond.fieldLink (zk_cn o) idx r.1 (r.2.1 k).2.1 (r.2.1 k).2.2.1 ∈ zk_TB ∧ zk_CF ci r ∧ zk_tok tc (zk_tyo ci k) = true := by
  obtain ⟨p, hp⟩ := zk_memF_sp h
  have h1 := zk_rf_ok _ hp
  unfold zk_okF at h1
  dsimp only at h1
  split at h1
  · rename_i r hr
    simp only [Bool.and_eq_true, zk_blt] at h1
    obtain ⟨a1, a2, a3, a4⟩ := h1
    exact ⟨r, hr, a1, zk_isw_mem a2, zk_cf hr a3, a4⟩
  · cases h1
theorem zk_setmap {B : Nat} {X : Nat → Nat} : ∀ (fs : List Value) (k : Nat) (v : Value), (zk_put fs k v).map (zk_v B X) = (fs.map (zk_v B X)).set k (zk_v B X v)
  | [], k, v => by simp [zk_put]
  | a :: fs, 0, v => by simp [zk_put]
  | a :: fs, k + 1, v => by simp [zk_put, zk_setmap fs k v]
theorem zk_in_sp {i : Int32} {n : Nat} (h : zk_in i n = true) : vp_in i n := by unfold vp_in; exact of_decide_eq_true h
section ZKR
variable {p : Program} {l : Launch} {e : Env} {R : Room} {s : State} {m : MethodId} {args : Array Value} {below : List Frame} {meth : Method} {c : Code} {Q : State → Prop}
variable {EX : State → Prop} {D : va_G} {E : Nat → ClassId} {B : Nat} {X : Nat → Nat} {Ls : Nat} {xs : Nat → Int32} {M : zk_M} {n0 s0 : Nat}

/-- a field is written -/
theorem zk_putf {idx ci k tc pc a : Nat} {L : zk_L} {rest : List Value} {v : Value} {fs : List Value} {h : zk_H} (F : zk_Fx EX D E B X Ls xs M p R s m args meth c) (hd : decode (zk_byt M) pc = .ok (.putfield idx, 3)) (hm : zk_memF zk_rf (zk_own M) idx ci k tc = true) (hfin : (!zk_final ci k || (Nat.beq (zk_kd M) 2 && Nat.beq (zk_own M) ci)) = true)
    (ha : zk_at h a = some (.inr (ci, fs))) (hl : k < fs.length) (hn : ∀ ty, zk_tok tc ty = true → narrow ty (zk_v B X v) = zk_v B X v ∧ fits ty (zk_v B X v) = true)
    (hK : zk_K D E B X M p l e R s m args below meth c n0 s0 Q (pc + 3, zk_nm M (pc + 3) L, rest) (zk_put h a (.inr (ci, zk_put fs k v)))) : zk_K D E B X M p l e R s m args below meth c n0 s0 Q (pc, L, v :: .ref a :: rest) h := by
  obtain ⟨hx, hb, hr, hml, hown, hts, hlocks, hinit, -, -, -, hKk, hB, -⟩ := F
  obtain ⟨r, hr, hk, hlink, ⟨c1, c2, c3, c4, -, -, -, c8, -⟩, hty⟩ := zk_fld hm
  obtain ⟨C, T, N⟩ := r
  obtain ⟨n1, n2⟩ := hn _ hty
  intro H locs ls hlv hP hS
  have hl' : k < (fs.map (zk_v B X)).length := by rw [List.length_map]; exact hl
  have e1 : (zk_put h a (.inr (ci, zk_put fs k v))).length = h.length := zk_put_len _ _ _
  have e2 : zk_sl (zk_put h a (.inr (ci, zk_put fs k v))) = zk_sl h := zk_sl_put h a _ _ ha (by simp [zk_sc, zk_put_len])
  have kk : ∀ (H1 : Heap) (locs1 : List Loc), va_P D zk_cls ((zk_w E B X 0 h).set a (B + a, .inr (ci, (fs.map (zk_v B X)).set k (zk_v B X v)))) H1 → va_S (fun q => B ≤ q) s.heap H1 locs1 → W p l e R s m args below meth c H1 locs1 (h.length - n0) (zk_sl h - s0) Q (F0 m (pc + 3) ls (rest.map (zk_v B X))) := by
    intro H1 locs1 g1 g2
    have g3 := hK H1 locs1 ls (zk_nmL hlv) (by rw [← zk_w_set]; simp only [zk_c, zk_setmap]; exact g1) g2
    rw [e1, e2] at g3
    exact g3
  cases hf : (T k).2.2.2 with
  | false => exact va_put (D := D) (ci := ci) (v := zk_v B X v) hx hb hts c1 (zk_tyo ci) c2 c3 hown hKk hP (zk_w_D h) hS a (zk_w_get ha) hr k hk (hts _ hlink) (fun x hx => by have e : (T k).1 = C := c4 k hk; rw [← e]; exact hx) hf (c2 k hk) n1 n2 hl' hd (fun H1 locs1 g1 _ g2 => kk H1 locs1 g1 g2)
  | true =>
    have hz : zk_final ci k = true := by unfold zk_final; rw [hr]; exact hf
    rw [hz] at hfin
    simp only [Bool.not_true, Bool.false_or, Bool.and_eq_true, zk_beq] at hfin
    exact va_putF (D := D) (ci := ci) (v := zk_v B X v) hx hb hts c1 (zk_tyo ci) c2 c3 hown hKk hP (zk_w_D h) hS a (zk_w_get ha) hr k hk (hts _ hlink) (fun x hx => by have e : (T k).1 = C := c4 k hk; rw [← e]; exact hx) hf (hinit hfin.1) (by rw [hfin.2, c4 k hk]; exact c8) (c2 k hk) n1 n2 hl' hd (fun H1 locs1 g1 _ g2 => kk H1 locs1 g1 g2)
/-- a step that writes an array's cell of the same length -/
theorem zk_arr {a t : Nat} {x y : vp_A} {h : zk_H} {pc : Nat} {L : zk_L} {rest : List Value} {ls : Array Slot} (ha : zk_at h a = some (.inl (t, x))) (hxy : y.1 = x.1) (hlv : lv_has ls (zk_mxl M) (zk_lv B X L))
    (hK : zk_K D E B X M p l e R s m args below meth c n0 s0 Q (pc, zk_nm M pc L, rest) (zk_put h a (.inl (t, y)))) :
    ∀ (H1 : Heap) (locs1 : List Loc), va_P D zk_cls ((zk_w E B X 0 h).set a (B + a, .inl (E t, y))) H1 → va_S (fun q => B ≤ q) s.heap H1 locs1 → W p l e R s m args below meth c H1 locs1 (h.length - n0) (zk_sl h - s0) Q (F0 m pc ls (rest.map (zk_v B X))) := by
  intro H1 locs1 g1 g2
  have e1 : (zk_put h a (.inl (t, y))).length = h.length := zk_put_len _ _ _
  have e2 : zk_sl (zk_put h a (.inl (t, y))) = zk_sl h := zk_sl_put h a _ _ ha (by simp [zk_sc, hxy])
  have g3 := hK H1 locs1 ls (zk_nmL hlv) (by rw [← zk_w_set]; exact g1) g2
  rw [e1, e2] at g3
  exact g3
theorem W.zsz {H : Heap} {locs : List Loc} {cells slots : Nat} {g : JFrame} (k : H.size ≤ s.heap.size + cells → W p l e R s m args below meth c H locs cells slots Q g) : W p l e R s m args below meth c H locs cells slots Q g := by
  intro T hT X
  have h1 := X.same.2.2.1
  have h2 : H.size ≤ s.heap.size + cells := by rw [← hT]; exact h1
  exact k h2 T hT X
/-- a cell comes: it is the next -/
theorem zk_cellnew {h : zk_H} {q : zk_C} {qa : Nat} {x : va_E} {H1 : Heap} {locs : List Loc} {pc : Nat} {L : zk_L} {rest : List Value} {ls : Array Slot} (hn0 : n0 ≤ h.length) (hs0 : s0 ≤ zk_sl h) (hsz : s.heap.size = B + n0) (hx : x = zk_c E B X q) (hlv : lv_has ls (zk_mxl M) (zk_lv B X L))
    (hK : zk_K D E B X M p l e R s m args below meth c n0 s0 Q (pc, zk_nm M pc L, .ref h.length :: rest) (h ++ [q])) (hP : va_P D zk_cls (zk_w E B X 0 h ++ [(qa, x)]) H1) (hD : va_D (fun z => B ≤ z) (zk_w E B X 0 h ++ [(qa, x)])) (hS : va_S (fun z => B ≤ z) s.heap H1 locs) :
    W p l e R s m args below meth c H1 locs (h.length - n0 + 1) (zk_sl h - s0 + zk_sc q) Q (F0 m pc ls (.ref qa :: rest.map (zk_v B X))) := by
  refine W.zsz fun hz => ?_
  have hq : (zk_w E B X 0 h ++ [(qa, x)])[h.length]? = some (qa, x) := by
    rw [List.getElem?_append_right (by rw [zk_w_len]; exact Nat.le_refl _), zk_w_len, Nat.sub_self]; rfl
  have h1 : qa < H1.size := (hP _ _ hq).lt
  have h2 : B ≤ qa := hD.2 _ _ hq
  have h3 : qa = B + h.length := by
    rcases Nat.lt_or_ge qa (B + h.length) with hlt | hge
    · exfalso
      have hlt2 : qa - B < (zk_w E B X 0 h).length := by rw [zk_w_len]; omega
      have g1 : (zk_w E B X 0 h ++ [(qa, x)])[qa - B]? = some ((zk_w E B X 0 h)[qa - B]) := by
        rw [List.getElem?_append_left hlt2]; exact List.getElem?_eq_getElem hlt2
      have g2 : ((zk_w E B X 0 h)[qa - B]).1 = B + (qa - B) := zk_w_key (List.getElem?_eq_getElem hlt2)
      have g3 := hD.1 _ _ _ _ g1 hq (by rw [g2]; show B + (qa - B) = qa; omega)
      omega
    · omega
  subst hx
  rw [h3] at hP ⊢
  have hP' : va_P D zk_cls (zk_w E B X 0 (h ++ [q])) H1 := by rw [zk_w_app, Nat.zero_add]; exact hP
  have g := hK H1 locs ls (zk_nmL hlv) hP' hS
  have e1 : (h ++ [q]).length - n0 = h.length - n0 + 1 := by rw [List.length_append]; simp; omega
  have e2 : zk_sl (h ++ [q]) - s0 = zk_sl h - s0 + zk_sc q := by rw [zk_sl_app]; omega
  rw [e1, e2] at g
  exact g
end ZKR
