theorem zk_rf_0 : ((zk_rf.drop 0).take 40).all zk_okF = true := by decide +kernel
theorem zk_rf_1 : ((zk_rf.drop 40).take 40).all zk_okF = true := by decide +kernel
theorem zk_rf_2 : ((zk_rf.drop 80).take 40).all zk_okF = true := by decide +kernel
theorem zk_rf_3 : ((zk_rf.drop 120).take 40).all zk_okF = true := by decide +kernel
theorem zk_rf_4 : ((zk_rf.drop 160).take 40).all zk_okF = true := by decide +kernel
theorem zk_rf_5 : ((zk_rf.drop 200).take 40).all zk_okF = true := by decide +kernel
theorem zk_rf_ok : ∀ q ∈ zk_rf, zk_okF q = true := by
  have e : zk_rf = (zk_rf.drop 0).take 40 ++ (zk_rf.drop 40).take 40 ++ (zk_rf.drop 80).take 40 ++ (zk_rf.drop 120).take 40 ++ (zk_rf.drop 160).take 40 ++ (zk_rf.drop 200).take 40 := by decide +kernel
  intro q hq
  rw [e] at hq
  simp only [List.mem_append] at hq
  rcases hq with ((((h0 | h1) | h2) | h3) | h4) | h5
  · exact List.all_eq_true.mp zk_rf_0 q h0
  · exact List.all_eq_true.mp zk_rf_1 q h1
  · exact List.all_eq_true.mp zk_rf_2 q h2
  · exact List.all_eq_true.mp zk_rf_3 q h3
  · exact List.all_eq_true.mp zk_rf_4 q h4
  · exact List.all_eq_true.mp zk_rf_5 q h5
theorem zk_rm_0 : ((zk_rm.drop 0).take 40).all zk_okR = true := by decide +kernel
theorem zk_rm_1 : ((zk_rm.drop 40).take 40).all zk_okR = true := by decide +kernel
theorem zk_rm_2 : ((zk_rm.drop 80).take 40).all zk_okR = true := by decide +kernel
theorem zk_rm_3 : ((zk_rm.drop 120).take 40).all zk_okR = true := by decide +kernel
theorem zk_rm_4 : ((zk_rm.drop 160).take 40).all zk_okR = true := by decide +kernel
theorem zk_rm_5 : ((zk_rm.drop 200).take 40).all zk_okR = true := by decide +kernel
theorem zk_rm_6 : ((zk_rm.drop 240).take 40).all zk_okR = true := by decide +kernel
theorem zk_rm_7 : ((zk_rm.drop 280).take 40).all zk_okR = true := by decide +kernel
theorem zk_rm_8 : ((zk_rm.drop 320).take 40).all zk_okR = true := by decide +kernel
theorem zk_rm_ok : ∀ q ∈ zk_rm, zk_okR q = true := by
  have e : zk_rm = (zk_rm.drop 0).take 40 ++ (zk_rm.drop 40).take 40 ++ (zk_rm.drop 80).take 40 ++ (zk_rm.drop 120).take 40 ++ (zk_rm.drop 160).take 40 ++ (zk_rm.drop 200).take 40 ++ (zk_rm.drop 240).take 40 ++ (zk_rm.drop 280).take 40 ++ (zk_rm.drop 320).take 40 := by decide +kernel
  intro q hq
  rw [e] at hq
  simp only [List.mem_append] at hq
  rcases hq with (((((((h0 | h1) | h2) | h3) | h4) | h5) | h6) | h7) | h8
  · exact List.all_eq_true.mp zk_rm_0 q h0
  · exact List.all_eq_true.mp zk_rm_1 q h1
  · exact List.all_eq_true.mp zk_rm_2 q h2
  · exact List.all_eq_true.mp zk_rm_3 q h3
  · exact List.all_eq_true.mp zk_rm_4 q h4
  · exact List.all_eq_true.mp zk_rm_5 q h5
  · exact List.all_eq_true.mp zk_rm_6 q h6
  · exact List.all_eq_true.mp zk_rm_7 q h7
  · exact List.all_eq_true.mp zk_rm_8 q h8
theorem zk_rc_0 : ((zk_rc.drop 0).take 40).all zk_okN = true := by decide +kernel
theorem zk_rc_ok : ∀ q ∈ zk_rc, zk_okN q = true := by
  have e : zk_rc = (zk_rc.drop 0).take 40 := by decide +kernel
  intro q hq
  rw [e] at hq
  skip
  exact List.all_eq_true.mp zk_rc_0 q hq
theorem zk_rk_0 : ((zk_rk.drop 0).take 40).all zk_okV = true := by decide +kernel
theorem zk_rk_ok : ∀ q ∈ zk_rk, zk_okV q = true := by
  have e : zk_rk = (zk_rk.drop 0).take 40 := by decide +kernel
  intro q hq
  rw [e] at hq
  skip
  exact List.all_eq_true.mp zk_rk_0 q hq
theorem zk_rl_0 : ((zk_rl.drop 0).take 40).all zk_okW = true := by decide +kernel
theorem zk_rl_ok : ∀ q ∈ zk_rl, zk_okW q = true := by
  have e : zk_rl = (zk_rl.drop 0).take 40 := by decide +kernel
  intro q hq
  rw [e] at hq
  skip
  exact List.all_eq_true.mp zk_rl_0 q hq
