theorem zq_311_0 : ((zc_311.drop 0).take 5).all (fun l => l.all (zk_okI zm_311)) = true := by decide +kernel
theorem zq_311_1 : ((zc_311.drop 5).take 5).all (fun l => l.all (zk_okI zm_311)) = true := by decide +kernel
theorem zq_311_2 : ((zc_311.drop 10).take 5).all (fun l => l.all (zk_okI zm_311)) = true := by decide +kernel
theorem zq_311_3 : ((zc_311.drop 15).take 5).all (fun l => l.all (zk_okI zm_311)) = true := by decide +kernel
theorem zq_311_4 : ((zc_311.drop 20).take 5).all (fun l => l.all (zk_okI zm_311)) = true := by decide +kernel
theorem zq_311_5 : ((zc_311.drop 25).take 5).all (fun l => l.all (zk_okI zm_311)) = true := by decide +kernel
theorem zq_311_6 : ((zc_311.drop 30).take 5).all (fun l => l.all (zk_okI zm_311)) = true := by decide +kernel
theorem zq_311_7 : ((zc_311.drop 35).take 5).all (fun l => l.all (zk_okI zm_311)) = true := by decide +kernel
theorem zq_311_8 : ((zc_311.drop 40).take 5).all (fun l => l.all (zk_okI zm_311)) = true := by decide +kernel
theorem zq_311_9 : ((zc_311.drop 45).take 5).all (fun l => l.all (zk_okI zm_311)) = true := by decide +kernel
theorem zq_311_10 : ((zc_311.drop 50).take 5).all (fun l => l.all (zk_okI zm_311)) = true := by decide +kernel
theorem zq_311_11 : ((zc_311.drop 55).take 5).all (fun l => l.all (zk_okI zm_311)) = true := by decide +kernel
theorem zq_311_12 : ((zc_311.drop 60).take 5).all (fun l => l.all (zk_okI zm_311)) = true := by decide +kernel
theorem zq_311_t : ∀ (n k : Nat) (l : List (List zk_I)), (∀ j, j < n → ((l.drop (k * j)).take k).all (fun q => q.all (zk_okI zm_311)) = true) → l.length ≤ k * n → l.all (fun q => q.all (zk_okI zm_311)) = true := by
  intro n k l h hl
  rw [List.all_eq_true]
  intro q hq
  obtain ⟨i, hi, rfl⟩ := List.getElem_of_mem hq
  have hk : 0 < k := by
    rcases Nat.eq_zero_or_pos k with h0 | h0
    · subst h0; omega
    · exact h0
  have hj : i / k < n := by rw [Nat.div_lt_iff_lt_mul hk, Nat.mul_comm]; omega
  refine List.all_eq_true.mp (h (i / k) hj) _ ?_
  have hm := Nat.div_add_mod i k
  have hr := Nat.mod_lt i hk
  refine List.mem_of_getElem? (i := i % k) ?_
  rw [List.getElem?_take, if_pos hr, List.getElem?_drop, hm]
  exact List.getElem?_eq_getElem hi
theorem zq_311 : zk_okC zm_311 = true := by
  refine zq_311_t 13 5 zc_311 ?_ (by decide +kernel)
  intro j hj
  match j, hj with
  | 0, _ => exact zq_311_0
  | 1, _ => exact zq_311_1
  | 2, _ => exact zq_311_2
  | 3, _ => exact zq_311_3
  | 4, _ => exact zq_311_4
  | 5, _ => exact zq_311_5
  | 6, _ => exact zq_311_6
  | 7, _ => exact zq_311_7
  | 8, _ => exact zq_311_8
  | 9, _ => exact zq_311_9
  | 10, _ => exact zq_311_10
  | 11, _ => exact zq_311_11
  | 12, _ => exact zq_311_12
  | j + 13, hj => exact absurd hj (by omega)
