/-! switches past their ends; copies; numbers that are sums -/
section Z31a
variable {Ls : Nat} {xs : Nat → Int32} {M : zk_M}
theorem zk_T.tsd {pc tgt len r1 r2 r3 : Nat} {d lo hi : Int} {offs : Array Int} {cc x : Int32} {L : zk_L} {rest : List Value} {h : zk_H} {q : Option Value × zk_H} (hf : zk_fetch M pc = some (.tableswitch d lo hi offs, len, r1, r2, r3, cc)) (hx : x.toInt < lo ∨ hi < x.toInt) (ht : ((pc : Int) + d).toNat = tgt) (kk : zk_T zk_mt zk_ex Ls xs M (tgt, zk_nm M tgt L, rest) h q) : zk_T zk_mt zk_ex Ls xs M (pc, L, .int x :: rest) h q := by
  have e : zk_tsw pc d lo hi offs x.toInt = some tgt := by
    unfold zk_tsw
    rw [if_pos hx, ht]
  refine zk_T.nx (f' := (tgt, zk_nm M tgt L, rest)) (h' := h) ?_ kk
  simp only [zk_step, hf, zk_x, zk_grp, zk_x3, e]
theorem zk_cpN {a b c n0 n1 : Nat} (h1 : a + c ≤ n0) (h2 : b + c ≤ n1) (h3 : n0 < 2 ^ 31) (h4 : n1 < 2 ^ 31) : zk_cpOk (nI a) (nI b) (nI c) n0 n1 = true := by
  unfold zk_cpOk
  rw [nI_clamp (show a < 2 ^ 31 by omega), nI_clamp (show b < 2 ^ 31 by omega), nI_clamp (show c < 2 ^ 31 by omega)]
  simp only [Bool.and_eq_true, decide_eq_true_eq]
  exact ⟨nI_pos (by omega), nI_pos (by omega), nI_pos (by omega), h1, h2⟩
end Z31a
