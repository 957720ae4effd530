theorem zk_ins0 : zk_isw 132 (.instantiable "BasketKeep" 12) = true := by decide +kernel
theorem zk_ini0 : zk_isw 106 (.initialized "BasketKeep") = true := by decide +kernel
theorem zk_ins1 : zk_isw 140 (.instantiable "BasketKeep$Reade\x72" 11) = true := by decide +kernel
theorem zk_ini1 : zk_isw 107 (.initialized "BasketKeep$Reade\x72") = true := by decide +kernel
theorem zk_ins2 : zk_isw 146 (.instantiable "BasketKeep$Tape" 7) = true := by decide +kernel
theorem zk_ini2 : zk_isw 108 (.initialized "BasketKeep$Tape") = true := by decide +kernel
theorem zk_ins3 : zk_isw 179 (.instantiable "BasketKeep$Level" 17) = true := by decide +kernel
theorem zk_ini3 : zk_isw 109 (.initialized "BasketKeep$Level") = true := by decide +kernel
theorem zk_ins4 : zk_isw 391 (.instantiable "BasketKeep$State" 5) = true := by decide +kernel
theorem zk_ini4 : zk_isw 114 (.initialized "BasketKeep$State") = true := by decide +kernel
theorem zk_ins5 : zk_isw 427 (.instantiable "BasketKeep$History" 5) = true := by decide +kernel
theorem zk_ini5 : zk_isw 115 (.initialized "BasketKeep$History") = true := by decide +kernel
theorem zk_ins6 : zk_isw 451 (.instantiable "BasketKeep$Outlook" 8) = true := by decide +kernel
theorem zk_ini6 : zk_isw 116 (.initialized "BasketKeep$Outlook") = true := by decide +kernel
theorem zk_ins7 : zk_isw 457 (.instantiable "BasketKeep$Walk" 8) = true := by decide +kernel
theorem zk_ini7 : zk_isw 117 (.initialized "BasketKeep$Walk") = true := by decide +kernel
theorem zk_ins8 : zk_isw 525 (.instantiable "BasketKeep$Planne\x72" 5) = true := by decide +kernel
theorem zk_ini8 : zk_isw 118 (.initialized "BasketKeep$Planne\x72") = true := by decide +kernel
theorem zk_ins9 : zk_isw 550 (.instantiable "BasketKeep$Doubts" 5) = true := by decide +kernel
theorem zk_ini9 : zk_isw 119 (.initialized "BasketKeep$Doubts") = true := by decide +kernel
theorem zk_ins10 : zk_isw 578 (.instantiable "BasketKeep$Hurry" 7) = true := by decide +kernel
theorem zk_ini10 : zk_isw 120 (.initialized "BasketKeep$Hurry") = true := by decide +kernel
theorem zk_ins11 : zk_isw 1405 (.instantiable "BasketKeepModel" 39) = true := by decide +kernel
theorem zk_ini11 : zk_isw 121 (.initialized "BasketKeepModel") = true := by decide +kernel
theorem zk_uws {C : String} {T : u_T} {N : Nat} {pl : List Nat} (h : (List.range N).all (fun k => zk_isw (pl.getD k 0) (u_lay C T k)) = true) : ∀ w ∈ u_ws C T N, w ∈ zk_TB := by
  intro w hw
  obtain ⟨k, hk, rfl⟩ := List.mem_map.mp hw
  exact zk_isw_mem (List.all_eq_true.mp h k hk)
/-- all that the tables say of a class whose objects are made -/
def zk_CF (ci : Nat) (r : vw_C) : Prop := (∀ w ∈ u_ws r.1 r.2.1 r.2.2, w ∈ zk_TB) ∧ (∀ k, k < r.2.2 → parseFieldDescriptor (r.2.1 k).2.2.1 = some (zk_tyo ci k)) ∧ (∀ a, a < r.2.2 → ∀ b, b < r.2.2 → a ≠ b → (r.2.1 a).2.1 ≠ (r.2.1 b).2.1) ∧ (∀ k, k < r.2.2 → (r.2.1 k).1 = r.1) ∧ (∀ j, j < r.2.2 → defaultValue (zk_tyo ci j) = vp_V (zk_zd.getD ci []) j) ∧ Cond.instantiable r.1 r.2.2 ∈ zk_TB ∧ Cond.initialized r.1 ∈ zk_TB ∧ r.1 = zk_cn ci ∧ (zk_zd.getD ci []).length = r.2.2
theorem zk_cf {ci : Nat} {r : vw_C} (h : zk_cls[ci]? = some r) (hci : ci < 12) : zk_CF ci r := by
  match ci, hci, h with
  | 0, _, h => cases h; exact ⟨zk_uws zk_lay0, zk_ty0, zk_nm0, zk_own0, zk_dv0, zk_isw_mem zk_ins0, zk_isw_mem zk_ini0, rfl, rfl⟩
  | 1, _, h => cases h; exact ⟨zk_uws zk_lay1, zk_ty1, zk_nm1, zk_own1, zk_dv1, zk_isw_mem zk_ins1, zk_isw_mem zk_ini1, rfl, rfl⟩
  | 2, _, h => cases h; exact ⟨zk_uws zk_lay2, zk_ty2, zk_nm2, zk_own2, zk_dv2, zk_isw_mem zk_ins2, zk_isw_mem zk_ini2, rfl, rfl⟩
  | 3, _, h => cases h; exact ⟨zk_uws zk_lay3, zk_ty3, zk_nm3, zk_own3, zk_dv3, zk_isw_mem zk_ins3, zk_isw_mem zk_ini3, rfl, rfl⟩
  | 4, _, h => cases h; exact ⟨zk_uws zk_lay4, zk_ty4, zk_nm4, zk_own4, zk_dv4, zk_isw_mem zk_ins4, zk_isw_mem zk_ini4, rfl, rfl⟩
  | 5, _, h => cases h; exact ⟨zk_uws zk_lay5, zk_ty5, zk_nm5, zk_own5, zk_dv5, zk_isw_mem zk_ins5, zk_isw_mem zk_ini5, rfl, rfl⟩
  | 6, _, h => cases h; exact ⟨zk_uws zk_lay6, zk_ty6, zk_nm6, zk_own6, zk_dv6, zk_isw_mem zk_ins6, zk_isw_mem zk_ini6, rfl, rfl⟩
  | 7, _, h => cases h; exact ⟨zk_uws zk_lay7, zk_ty7, zk_nm7, zk_own7, zk_dv7, zk_isw_mem zk_ins7, zk_isw_mem zk_ini7, rfl, rfl⟩
  | 8, _, h => cases h; exact ⟨zk_uws zk_lay8, zk_ty8, zk_nm8, zk_own8, zk_dv8, zk_isw_mem zk_ins8, zk_isw_mem zk_ini8, rfl, rfl⟩
  | 9, _, h => cases h; exact ⟨zk_uws zk_lay9, zk_ty9, zk_nm9, zk_own9, zk_dv9, zk_isw_mem zk_ins9, zk_isw_mem zk_ini9, rfl, rfl⟩
  | 10, _, h => cases h; exact ⟨zk_uws zk_lay10, zk_ty10, zk_nm10, zk_own10, zk_dv10, zk_isw_mem zk_ins10, zk_isw_mem zk_ini10, rfl, rfl⟩
  | 11, _, h => cases h; exact ⟨zk_uws zk_lay11, zk_ty11, zk_nm11, zk_own11, zk_dv11, zk_isw_mem zk_ins11, zk_isw_mem zk_ini11, rfl, rfl⟩
  | ci + 12, hci, _ => exact absurd hci (by omega)
