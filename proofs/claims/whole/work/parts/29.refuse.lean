/-! contracts: refusals; the outlook asked -/
section Z29
variable {Ls : Nat} {xs : Nat → Int32} {v : Nat → Nat → Int32} {w : Nat → Nat → Int64} {t : zk_H}
/-- the heap behind a reckoning -/
def zvR_now (v : Nat → Nat → Int32) (D Mn Gn sp : Nat) : Nat → Nat → Int32 := (zb (zb (zb (zb (zb (zb (zb (zb v 43 (upd (upd (v 43) 2 ((zr_reckon D Mn Gn sp (v 21) (v 22) (v 27) (v 26) (v 34) (v 35) (v 23) (v 46) (v 33) (v 32 0) (v 32 1) (v 45) (v 47) (v 48) (v 49) (v 50) (v 51) (v 44 3) (v 44 4) (v 44 5) (v 44 6) (v 44 7)).1)) 3 ((zr_reckon D Mn Gn sp (v 21) (v 22) (v 27) (v 26) (v 34) (v 35) (v 23) (v 46) (v 33) (v 32 0) (v 32 1) (v 45) (v 47) (v 48) (v 49) (v 50) (v 51) (v 44 3) (v 44 4) (v 44 5) (v 44 6) (v 44 7)).2.1))) 44 (upd (upd (upd (upd (upd (upd (upd (v 44) 0 ((zr_reckon D Mn Gn sp (v 21) (v 22) (v 27) (v 26) (v 34) (v 35) (v 23) (v 46) (v 33) (v 32 0) (v 32 1) (v 45) (v 47) (v 48) (v 49) (v 50) (v 51) (v 44 3) (v 44 4) (v 44 5) (v 44 6) (v 44 7)).2.2.2.2.2.2.2.2.2.2.2.2.1)) 1 ((zr_reckon D Mn Gn sp (v 21) (v 22) (v 27) (v 26) (v 34) (v 35) (v 23) (v 46) (v 33) (v 32 0) (v 32 1) (v 45) (v 47) (v 48) (v 49) (v 50) (v 51) (v 44 3) (v 44 4) (v 44 5) (v 44 6) (v 44 7)).2.2.2.2.2.2.2.2.2.2.2.2.2.1)) 3 ((zr_reckon D Mn Gn sp (v 21) (v 22) (v 27) (v 26) (v 34) (v 35) (v 23) (v 46) (v 33) (v 32 0) (v 32 1) (v 45) (v 47) (v 48) (v 49) (v 50) (v 51) (v 44 3) (v 44 4) (v 44 5) (v 44 6) (v 44 7)).2.2.2.2.2.2.2.1)) 4 ((zr_reckon D Mn Gn sp (v 21) (v 22) (v 27) (v 26) (v 34) (v 35) (v 23) (v 46) (v 33) (v 32 0) (v 32 1) (v 45) (v 47) (v 48) (v 49) (v 50) (v 51) (v 44 3) (v 44 4) (v 44 5) (v 44 6) (v 44 7)).2.2.2.2.2.2.2.2.1)) 5 ((zr_reckon D Mn Gn sp (v 21) (v 22) (v 27) (v 26) (v 34) (v 35) (v 23) (v 46) (v 33) (v 32 0) (v 32 1) (v 45) (v 47) (v 48) (v 49) (v 50) (v 51) (v 44 3) (v 44 4) (v 44 5) (v 44 6) (v 44 7)).2.2.2.2.2.2.2.2.2.1)) 6 ((zr_reckon D Mn Gn sp (v 21) (v 22) (v 27) (v 26) (v 34) (v 35) (v 23) (v 46) (v 33) (v 32 0) (v 32 1) (v 45) (v 47) (v 48) (v 49) (v 50) (v 51) (v 44 3) (v 44 4) (v 44 5) (v 44 6) (v 44 7)).2.2.2.2.2.2.2.2.2.2.1)) 7 ((zr_reckon D Mn Gn sp (v 21) (v 22) (v 27) (v 26) (v 34) (v 35) (v 23) (v 46) (v 33) (v 32 0) (v 32 1) (v 45) (v 47) (v 48) (v 49) (v 50) (v 51) (v 44 3) (v 44 4) (v 44 5) (v 44 6) (v 44 7)).2.2.2.2.2.2.2.2.2.2.2.1))) 45 ((zr_reckon D Mn Gn sp (v 21) (v 22) (v 27) (v 26) (v 34) (v 35) (v 23) (v 46) (v 33) (v 32 0) (v 32 1) (v 45) (v 47) (v 48) (v 49) (v 50) (v 51) (v 44 3) (v 44 4) (v 44 5) (v 44 6) (v 44 7)).2.2.2.2.2.2.2.2.2.2.2.2.2.2)) 47 ((zr_reckon D Mn Gn sp (v 21) (v 22) (v 27) (v 26) (v 34) (v 35) (v 23) (v 46) (v 33) (v 32 0) (v 32 1) (v 45) (v 47) (v 48) (v 49) (v 50) (v 51) (v 44 3) (v 44 4) (v 44 5) (v 44 6) (v 44 7)).2.2.1)) 48 ((zr_reckon D Mn Gn sp (v 21) (v 22) (v 27) (v 26) (v 34) (v 35) (v 23) (v 46) (v 33) (v 32 0) (v 32 1) (v 45) (v 47) (v 48) (v 49) (v 50) (v 51) (v 44 3) (v 44 4) (v 44 5) (v 44 6) (v 44 7)).2.2.2.1)) 49 ((zr_reckon D Mn Gn sp (v 21) (v 22) (v 27) (v 26) (v 34) (v 35) (v 23) (v 46) (v 33) (v 32 0) (v 32 1) (v 45) (v 47) (v 48) (v 49) (v 50) (v 51) (v 44 3) (v 44 4) (v 44 5) (v 44 6) (v 44 7)).2.2.2.2.1)) 50 ((zr_reckon D Mn Gn sp (v 21) (v 22) (v 27) (v 26) (v 34) (v 35) (v 23) (v 46) (v 33) (v 32 0) (v 32 1) (v 45) (v 47) (v 48) (v 49) (v 50) (v 51) (v 44 3) (v 44 4) (v 44 5) (v 44 6) (v 44 7)).2.2.2.2.2.1)) 51 ((zr_reckon D Mn Gn sp (v 21) (v 22) (v 27) (v 26) (v 34) (v 35) (v 23) (v 46) (v 33) (v 32 0) (v 32 1) (v 45) (v 47) (v 48) (v 49) (v 50) (v 51) (v 44 3) (v 44 4) (v 44 5) (v 44 6) (v 44 7)).2.2.2.2.2.2.1))
theorem zs_rsv_now (D : Nat) (hD : v 20 1 = nI D) (h8 : D ≤ 8) (Mn : Nat) (hM : v 20 4 = nI Mn) (h5 : Mn ≤ 5) (Gn : Nat) (hG : v 20 8 = nI Gn) (h4 : Gn ≤ 4) (hli : ∀ a, a < Gn → v 33 a < 0 ∨ ∃ e, e < 5 ∧ v 33 a = nI e) (hkd : ∀ e, e < 5 → v 23 e = 0 ∨ v 23 e = 1 ∨ v 23 e = 2) (sp : Nat) (hsp : sp ≤ 60) : zk_Cr zk_mt zk_ex Ls xs 220 [.ref 43, .ref 20, .ref 32, .int (nI sp), .ref 68] (zH v w t) (none, zH (zvR_now v D Mn Gn sp) w t) := zs_rs_now D hD h8 Mn hM h5 Gn hG h4 hli hkd sp hsp
/-- the heap behind a reckoning -/
def zvR_tried (v : Nat → Nat → Int32) (D Mn Gn sp : Nat) : Nat → Nat → Int32 := (zb (zb (zb (zb (zb (zb (zb (zb v 43 (upd (upd (v 43) 2 ((zr_reckon D Mn Gn sp (v 21) (v 22) (v 27) (v 26) (v 38) (v 39) (v 23) (v 46) (v 37) (v 36 0) (v 36 1) (v 45) (v 47) (v 48) (v 49) (v 50) (v 51) (v 44 3) (v 44 4) (v 44 5) (v 44 6) (v 44 7)).1)) 3 ((zr_reckon D Mn Gn sp (v 21) (v 22) (v 27) (v 26) (v 38) (v 39) (v 23) (v 46) (v 37) (v 36 0) (v 36 1) (v 45) (v 47) (v 48) (v 49) (v 50) (v 51) (v 44 3) (v 44 4) (v 44 5) (v 44 6) (v 44 7)).2.1))) 44 (upd (upd (upd (upd (upd (upd (upd (v 44) 0 ((zr_reckon D Mn Gn sp (v 21) (v 22) (v 27) (v 26) (v 38) (v 39) (v 23) (v 46) (v 37) (v 36 0) (v 36 1) (v 45) (v 47) (v 48) (v 49) (v 50) (v 51) (v 44 3) (v 44 4) (v 44 5) (v 44 6) (v 44 7)).2.2.2.2.2.2.2.2.2.2.2.2.1)) 1 ((zr_reckon D Mn Gn sp (v 21) (v 22) (v 27) (v 26) (v 38) (v 39) (v 23) (v 46) (v 37) (v 36 0) (v 36 1) (v 45) (v 47) (v 48) (v 49) (v 50) (v 51) (v 44 3) (v 44 4) (v 44 5) (v 44 6) (v 44 7)).2.2.2.2.2.2.2.2.2.2.2.2.2.1)) 3 ((zr_reckon D Mn Gn sp (v 21) (v 22) (v 27) (v 26) (v 38) (v 39) (v 23) (v 46) (v 37) (v 36 0) (v 36 1) (v 45) (v 47) (v 48) (v 49) (v 50) (v 51) (v 44 3) (v 44 4) (v 44 5) (v 44 6) (v 44 7)).2.2.2.2.2.2.2.1)) 4 ((zr_reckon D Mn Gn sp (v 21) (v 22) (v 27) (v 26) (v 38) (v 39) (v 23) (v 46) (v 37) (v 36 0) (v 36 1) (v 45) (v 47) (v 48) (v 49) (v 50) (v 51) (v 44 3) (v 44 4) (v 44 5) (v 44 6) (v 44 7)).2.2.2.2.2.2.2.2.1)) 5 ((zr_reckon D Mn Gn sp (v 21) (v 22) (v 27) (v 26) (v 38) (v 39) (v 23) (v 46) (v 37) (v 36 0) (v 36 1) (v 45) (v 47) (v 48) (v 49) (v 50) (v 51) (v 44 3) (v 44 4) (v 44 5) (v 44 6) (v 44 7)).2.2.2.2.2.2.2.2.2.1)) 6 ((zr_reckon D Mn Gn sp (v 21) (v 22) (v 27) (v 26) (v 38) (v 39) (v 23) (v 46) (v 37) (v 36 0) (v 36 1) (v 45) (v 47) (v 48) (v 49) (v 50) (v 51) (v 44 3) (v 44 4) (v 44 5) (v 44 6) (v 44 7)).2.2.2.2.2.2.2.2.2.2.1)) 7 ((zr_reckon D Mn Gn sp (v 21) (v 22) (v 27) (v 26) (v 38) (v 39) (v 23) (v 46) (v 37) (v 36 0) (v 36 1) (v 45) (v 47) (v 48) (v 49) (v 50) (v 51) (v 44 3) (v 44 4) (v 44 5) (v 44 6) (v 44 7)).2.2.2.2.2.2.2.2.2.2.2.1))) 45 ((zr_reckon D Mn Gn sp (v 21) (v 22) (v 27) (v 26) (v 38) (v 39) (v 23) (v 46) (v 37) (v 36 0) (v 36 1) (v 45) (v 47) (v 48) (v 49) (v 50) (v 51) (v 44 3) (v 44 4) (v 44 5) (v 44 6) (v 44 7)).2.2.2.2.2.2.2.2.2.2.2.2.2.2)) 47 ((zr_reckon D Mn Gn sp (v 21) (v 22) (v 27) (v 26) (v 38) (v 39) (v 23) (v 46) (v 37) (v 36 0) (v 36 1) (v 45) (v 47) (v 48) (v 49) (v 50) (v 51) (v 44 3) (v 44 4) (v 44 5) (v 44 6) (v 44 7)).2.2.1)) 48 ((zr_reckon D Mn Gn sp (v 21) (v 22) (v 27) (v 26) (v 38) (v 39) (v 23) (v 46) (v 37) (v 36 0) (v 36 1) (v 45) (v 47) (v 48) (v 49) (v 50) (v 51) (v 44 3) (v 44 4) (v 44 5) (v 44 6) (v 44 7)).2.2.2.1)) 49 ((zr_reckon D Mn Gn sp (v 21) (v 22) (v 27) (v 26) (v 38) (v 39) (v 23) (v 46) (v 37) (v 36 0) (v 36 1) (v 45) (v 47) (v 48) (v 49) (v 50) (v 51) (v 44 3) (v 44 4) (v 44 5) (v 44 6) (v 44 7)).2.2.2.2.1)) 50 ((zr_reckon D Mn Gn sp (v 21) (v 22) (v 27) (v 26) (v 38) (v 39) (v 23) (v 46) (v 37) (v 36 0) (v 36 1) (v 45) (v 47) (v 48) (v 49) (v 50) (v 51) (v 44 3) (v 44 4) (v 44 5) (v 44 6) (v 44 7)).2.2.2.2.2.1)) 51 ((zr_reckon D Mn Gn sp (v 21) (v 22) (v 27) (v 26) (v 38) (v 39) (v 23) (v 46) (v 37) (v 36 0) (v 36 1) (v 45) (v 47) (v 48) (v 49) (v 50) (v 51) (v 44 3) (v 44 4) (v 44 5) (v 44 6) (v 44 7)).2.2.2.2.2.2.1))
theorem zs_rsv_tried (D : Nat) (hD : v 20 1 = nI D) (h8 : D ≤ 8) (Mn : Nat) (hM : v 20 4 = nI Mn) (h5 : Mn ≤ 5) (Gn : Nat) (hG : v 20 8 = nI Gn) (h4 : Gn ≤ 4) (hli : ∀ a, a < Gn → v 37 a < 0 ∨ ∃ e, e < 5 ∧ v 37 a = nI e) (hkd : ∀ e, e < 5 → v 23 e = 0 ∨ v 23 e = 1 ∨ v 23 e = 2) (sp : Nat) (hsp : sp ≤ 60) : zk_Cr zk_mt zk_ex Ls xs 220 [.ref 43, .ref 20, .ref 36, .int (nI sp), .ref 68] (zH v w t) (none, zH (zvR_tried v D Mn Gn sp) w t) := zs_rs_tried D hD h8 Mn hM h5 Gn hG h4 hli hkd sp hsp
/-- the heap behind a reckoning -/
def zvR_slip (v : Nat → Nat → Int32) (D Mn Gn sp : Nat) : Nat → Nat → Int32 := (zb (zb (zb (zb (zb (zb (zb (zb v 43 (upd (upd (v 43) 2 ((zr_reckon D Mn Gn sp (v 21) (v 22) (v 27) (v 26) (v 34) (v 35) (v 23) (v 67) (v 33) (v 32 0) (v 32 1) (v 45) (v 47) (v 48) (v 49) (v 50) (v 51) (v 44 3) (v 44 4) (v 44 5) (v 44 6) (v 44 7)).1)) 3 ((zr_reckon D Mn Gn sp (v 21) (v 22) (v 27) (v 26) (v 34) (v 35) (v 23) (v 67) (v 33) (v 32 0) (v 32 1) (v 45) (v 47) (v 48) (v 49) (v 50) (v 51) (v 44 3) (v 44 4) (v 44 5) (v 44 6) (v 44 7)).2.1))) 44 (upd (upd (upd (upd (upd (upd (upd (v 44) 0 ((zr_reckon D Mn Gn sp (v 21) (v 22) (v 27) (v 26) (v 34) (v 35) (v 23) (v 67) (v 33) (v 32 0) (v 32 1) (v 45) (v 47) (v 48) (v 49) (v 50) (v 51) (v 44 3) (v 44 4) (v 44 5) (v 44 6) (v 44 7)).2.2.2.2.2.2.2.2.2.2.2.2.1)) 1 ((zr_reckon D Mn Gn sp (v 21) (v 22) (v 27) (v 26) (v 34) (v 35) (v 23) (v 67) (v 33) (v 32 0) (v 32 1) (v 45) (v 47) (v 48) (v 49) (v 50) (v 51) (v 44 3) (v 44 4) (v 44 5) (v 44 6) (v 44 7)).2.2.2.2.2.2.2.2.2.2.2.2.2.1)) 3 ((zr_reckon D Mn Gn sp (v 21) (v 22) (v 27) (v 26) (v 34) (v 35) (v 23) (v 67) (v 33) (v 32 0) (v 32 1) (v 45) (v 47) (v 48) (v 49) (v 50) (v 51) (v 44 3) (v 44 4) (v 44 5) (v 44 6) (v 44 7)).2.2.2.2.2.2.2.1)) 4 ((zr_reckon D Mn Gn sp (v 21) (v 22) (v 27) (v 26) (v 34) (v 35) (v 23) (v 67) (v 33) (v 32 0) (v 32 1) (v 45) (v 47) (v 48) (v 49) (v 50) (v 51) (v 44 3) (v 44 4) (v 44 5) (v 44 6) (v 44 7)).2.2.2.2.2.2.2.2.1)) 5 ((zr_reckon D Mn Gn sp (v 21) (v 22) (v 27) (v 26) (v 34) (v 35) (v 23) (v 67) (v 33) (v 32 0) (v 32 1) (v 45) (v 47) (v 48) (v 49) (v 50) (v 51) (v 44 3) (v 44 4) (v 44 5) (v 44 6) (v 44 7)).2.2.2.2.2.2.2.2.2.1)) 6 ((zr_reckon D Mn Gn sp (v 21) (v 22) (v 27) (v 26) (v 34) (v 35) (v 23) (v 67) (v 33) (v 32 0) (v 32 1) (v 45) (v 47) (v 48) (v 49) (v 50) (v 51) (v 44 3) (v 44 4) (v 44 5) (v 44 6) (v 44 7)).2.2.2.2.2.2.2.2.2.2.1)) 7 ((zr_reckon D Mn Gn sp (v 21) (v 22) (v 27) (v 26) (v 34) (v 35) (v 23) (v 67) (v 33) (v 32 0) (v 32 1) (v 45) (v 47) (v 48) (v 49) (v 50) (v 51) (v 44 3) (v 44 4) (v 44 5) (v 44 6) (v 44 7)).2.2.2.2.2.2.2.2.2.2.2.1))) 45 ((zr_reckon D Mn Gn sp (v 21) (v 22) (v 27) (v 26) (v 34) (v 35) (v 23) (v 67) (v 33) (v 32 0) (v 32 1) (v 45) (v 47) (v 48) (v 49) (v 50) (v 51) (v 44 3) (v 44 4) (v 44 5) (v 44 6) (v 44 7)).2.2.2.2.2.2.2.2.2.2.2.2.2.2)) 47 ((zr_reckon D Mn Gn sp (v 21) (v 22) (v 27) (v 26) (v 34) (v 35) (v 23) (v 67) (v 33) (v 32 0) (v 32 1) (v 45) (v 47) (v 48) (v 49) (v 50) (v 51) (v 44 3) (v 44 4) (v 44 5) (v 44 6) (v 44 7)).2.2.1)) 48 ((zr_reckon D Mn Gn sp (v 21) (v 22) (v 27) (v 26) (v 34) (v 35) (v 23) (v 67) (v 33) (v 32 0) (v 32 1) (v 45) (v 47) (v 48) (v 49) (v 50) (v 51) (v 44 3) (v 44 4) (v 44 5) (v 44 6) (v 44 7)).2.2.2.1)) 49 ((zr_reckon D Mn Gn sp (v 21) (v 22) (v 27) (v 26) (v 34) (v 35) (v 23) (v 67) (v 33) (v 32 0) (v 32 1) (v 45) (v 47) (v 48) (v 49) (v 50) (v 51) (v 44 3) (v 44 4) (v 44 5) (v 44 6) (v 44 7)).2.2.2.2.1)) 50 ((zr_reckon D Mn Gn sp (v 21) (v 22) (v 27) (v 26) (v 34) (v 35) (v 23) (v 67) (v 33) (v 32 0) (v 32 1) (v 45) (v 47) (v 48) (v 49) (v 50) (v 51) (v 44 3) (v 44 4) (v 44 5) (v 44 6) (v 44 7)).2.2.2.2.2.1)) 51 ((zr_reckon D Mn Gn sp (v 21) (v 22) (v 27) (v 26) (v 34) (v 35) (v 23) (v 67) (v 33) (v 32 0) (v 32 1) (v 45) (v 47) (v 48) (v 49) (v 50) (v 51) (v 44 3) (v 44 4) (v 44 5) (v 44 6) (v 44 7)).2.2.2.2.2.2.1))
theorem zs_rsv_slip (D : Nat) (hD : v 20 1 = nI D) (h8 : D ≤ 8) (Mn : Nat) (hM : v 20 4 = nI Mn) (h5 : Mn ≤ 5) (Gn : Nat) (hG : v 20 8 = nI Gn) (h4 : Gn ≤ 4) (hli : ∀ a, a < Gn → v 33 a < 0 ∨ ∃ e, e < 5 ∧ v 33 a = nI e) (hkd : ∀ e, e < 5 → v 23 e = 0 ∨ v 23 e = 1 ∨ v 23 e = 2) (sp : Nat) (hsp : sp ≤ 60) : zk_Cr zk_mt zk_ex Ls xs 220 [.ref 43, .ref 20, .ref 32, .int (nI sp), .ref 67] (zH v w t) (none, zH (zvR_slip v D Mn Gn sp) w t) := zs_rs_slip D hD h8 Mn hM h5 Gn hG h4 hli hkd sp hsp
/-- BasketKeep.refusedIf -/
theorem zs_ref1 (why : Int32) : zk_Cr zk_mt zk_ex Ls xs 6 [.ref 0, .int 1, .int why] (zH v w t) (some (.int 1), zH (zb v 0 (upd (v 0) 10 why)) w t) := by
  refine zk_Cr.of (K := zm_6) rfl rfl rfl ?_
  show zk_T zk_mt zk_ex Ls xs zm_6 (0, [(0, .ref 0), (1, .int 1), (2, .int why)], []) (zH v w t) _
  refine zk_T.adv 2 (f' := (2, [(0, .ref 0), (1, .int 1), (2, .int why)], [.int 1, .ref 0])) (h' := zH v w t) rfl ?_
  refine zk_T.br (f1 := (9, [(0, .ref 0), (1, .int 1), (2, .int why)], [.ref 0])) (f2 := (5, [(0, .ref 0), (1, .int 1), (2, .int why)], [.ref 0])) rfl (fun c1 => absurd (of_decide_eq_true c1) (by decide)) (fun c1 => ?_)
  refine zk_T.adv 4 (f' := (14, [(0, .ref 0), (1, .int 1), (2, .int why)], [.int 1])) (h' := zH (zb v 0 (upd (v 0) 10 why)) w t) rfl ?_
  exact zk_T.rt rfl rfl (by rfl)
/-- BasketKeep.refusedIf -/
theorem zs_ref0 (why : Int32) : zk_Cr zk_mt zk_ex Ls xs 6 [.ref 0, .int 0, .int why] (zH v w t) (some (.int 0), zH (zb v 0 (upd (v 0) 10 0)) w t) := by
  refine zk_Cr.of (K := zm_6) rfl rfl rfl ?_
  show zk_T zk_mt zk_ex Ls xs zm_6 (0, [(0, .ref 0), (1, .int 0), (2, .int why)], []) (zH v w t) _
  refine zk_T.adv 2 (f' := (2, [(0, .ref 0), (1, .int 0), (2, .int why)], [.int 0, .ref 0])) (h' := zH v w t) rfl ?_
  refine zk_T.br (f1 := (9, [(0, .ref 0), (1, .int 0), (2, .int why)], [.ref 0])) (f2 := (5, [(0, .ref 0), (1, .int 0), (2, .int why)], [.ref 0])) rfl (fun c1 => ?_) (fun c1 => absurd (by decide) (of_decide_eq_false c1))
  refine zk_T.adv 3 (f' := (14, [(0, .ref 0), (1, .int 0), (2, .int why)], [.int 0])) (h' := zH (zb v 0 (upd (v 0) 10 0)) w t) rfl ?_
  exact zk_T.rt rfl rfl (by rfl)
/-- BasketKeep.noLevel -/
theorem zs_noLevel_t (hst : v 0 2 = 0) : zk_Cr zk_mt zk_ex Ls xs 78 [.ref 0] (zH v w t) (some (.int 1), zH (zb v 0 (upd (v 0) 10 1)) w t) := by
  refine zk_Cr.of (K := zm_78) rfl rfl rfl ?_
  show zk_T zk_mt zk_ex Ls xs zm_78 (0, [(0, .ref 0)], []) (zH v w t) _
  refine zk_T.adv 3 (f' := (5, [(0, .ref 0)], [.int (v 0 2), .ref 0])) (h' := zH v w t) rfl ?_
  refine zk_T.br (f1 := (8, [(0, .ref 0)], [.ref 0])) (f2 := (12, [(0, .ref 0)], [.ref 0])) rfl (fun c1 => ?_) (fun c1 => absurd hst (of_decide_eq_false c1))
  refine zk_T.adv 3 (f' := (14, [(0, .ref 0)], [.int 1, .int 1, .ref 0])) (h' := zH v w t) rfl ?_
  refine zk_T.cl (v := some (.int 1)) (h' := zH (zb v 0 (upd (v 0) 10 1)) w t) rfl (zs_ref1 1) ?_
  show zk_T zk_mt zk_ex Ls xs zm_78 (17, [(0, .ref 0)], [.int 1]) (zH (zb v 0 (upd (v 0) 10 1)) w t) _
  exact zk_T.rt rfl rfl (by rfl)
/-- BasketKeep.noLevel -/
theorem zs_noLevel_f (hst : v 0 2 = 1) : zk_Cr zk_mt zk_ex Ls xs 78 [.ref 0] (zH v w t) (some (.int 0), zH (zb v 0 (upd (v 0) 10 0)) w t) := by
  refine zk_Cr.of (K := zm_78) rfl rfl rfl ?_
  show zk_T zk_mt zk_ex Ls xs zm_78 (0, [(0, .ref 0)], []) (zH v w t) _
  refine zk_T.adv 3 (f' := (5, [(0, .ref 0)], [.int (v 0 2), .ref 0])) (h' := zH v w t) rfl ?_
  refine zk_T.br (f1 := (8, [(0, .ref 0)], [.ref 0])) (f2 := (12, [(0, .ref 0)], [.ref 0])) rfl (fun c1 => absurd (of_decide_eq_true c1) (by rw [hst]; decide)) (fun c1 => ?_)
  refine zk_T.adv 2 (f' := (14, [(0, .ref 0)], [.int 1, .int 0, .ref 0])) (h' := zH v w t) rfl ?_
  refine zk_T.cl (v := some (.int 0)) (h' := zH (zb v 0 (upd (v 0) 10 0)) w t) rfl (zs_ref0 1) ?_
  show zk_T zk_mt zk_ex Ls xs zm_78 (17, [(0, .ref 0)], [.int 0]) (zH (zb v 0 (upd (v 0) 10 0)) w t) _
  exact zk_T.rt rfl rfl (by rfl)
theorem zs_noDanger_t (x : Int32) (h : v 0 2 = 0 ∨ x < 0 ∨ v 20 1 ≤ x) : zk_Cr zk_mt zk_ex Ls xs 76 [.ref 0, .int x] (zH v w t) (some (.int 1), zH (zb v 0 (upd (v 0) 10 1)) w t) := by
  refine zk_Cr.of (K := zm_76) rfl rfl rfl ?_
  show zk_T zk_mt zk_ex Ls xs zm_76 (0, [(0, .ref 0), (1, .int x)], []) (zH v w t) _
  refine zk_T.adv 3 (f' := (5, [(0, .ref 0), (1, .int x)], [.int (v 0 2), .ref 0])) (h' := zH v w t) rfl ?_
  refine zk_T.br (f1 := (23, [(0, .ref 0), (1, .int x)], [.ref 0])) (f2 := (8, [(0, .ref 0), (1, .int x)], [.ref 0])) rfl (fun c1 => ?_) (fun c1 => ?_)
  · have c1 : (v 0 2) = 0 := of_decide_eq_true c1
    refine zk_T.adv 3 (f' := (29, [(0, .ref 0), (1, .int x)], [.int 1, .int 1, .ref 0])) (h' := zH v w t) rfl ?_
    refine zk_T.cl (v := some (.int 1)) (h' := zH (zb v 0 (upd (v 0) 10 1)) w t) rfl (zs_ref1 1) ?_
    show zk_T zk_mt zk_ex Ls xs zm_76 (32, [(0, .ref 0), (1, .int x)], [.int 1]) (zH (zb v 0 (upd (v 0) 10 1)) w t) _
    exact zk_T.rt rfl rfl rfl
  · have c1 : ¬ ((v 0 2) = 0) := of_decide_eq_false c1
    refine zk_T.adv 1 (f' := (9, [(0, .ref 0), (1, .int x)], [.int x, .ref 0])) (h' := zH v w t) rfl ?_
    refine zk_T.br (f1 := (23, [(0, .ref 0), (1, .int x)], [.ref 0])) (f2 := (12, [(0, .ref 0), (1, .int x)], [.ref 0])) rfl (fun c2 => ?_) (fun c2 => ?_)
    · have c2 : x < 0 := of_decide_eq_true c2
      refine zk_T.adv 3 (f' := (29, [(0, .ref 0), (1, .int x)], [.int 1, .int 1, .ref 0])) (h' := zH v w t) rfl ?_
      refine zk_T.cl (v := some (.int 1)) (h' := zH (zb v 0 (upd (v 0) 10 1)) w t) rfl (zs_ref1 1) ?_
      show zk_T zk_mt zk_ex Ls xs zm_76 (32, [(0, .ref 0), (1, .int x)], [.int 1]) (zH (zb v 0 (upd (v 0) 10 1)) w t) _
      exact zk_T.rt rfl rfl rfl
    · have c2 : ¬ (x < 0) := of_decide_eq_false c2
      refine zk_T.adv 4 (f' := (20, [(0, .ref 0), (1, .int x)], [.int (v 20 1), .int x, .ref 0])) (h' := zH v w t) rfl ?_
      refine zk_T.br (f1 := (27, [(0, .ref 0), (1, .int x)], [.ref 0])) (f2 := (23, [(0, .ref 0), (1, .int x)], [.ref 0])) rfl (fun c3 => ?_) (fun c3 => ?_)
      · have c3 : x < (v 20 1) := of_decide_eq_true c3
        refine zk_T.adv 2 (f' := (29, [(0, .ref 0), (1, .int x)], [.int 1, .int 0, .ref 0])) (h' := zH v w t) rfl ?_
        refine zk_T.cl (v := some (.int 0)) (h' := zH (zb v 0 (upd (v 0) 10 0)) w t) rfl (zs_ref0 1) ?_
        show zk_T zk_mt zk_ex Ls xs zm_76 (32, [(0, .ref 0), (1, .int x)], [.int 0]) (zH (zb v 0 (upd (v 0) 10 0)) w t) _
        exact absurd h (by simp [c1, c2, c3])
      · have c3 : ¬ (x < (v 20 1)) := of_decide_eq_false c3
        refine zk_T.adv 3 (f' := (29, [(0, .ref 0), (1, .int x)], [.int 1, .int 1, .ref 0])) (h' := zH v w t) rfl ?_
        refine zk_T.cl (v := some (.int 1)) (h' := zH (zb v 0 (upd (v 0) 10 1)) w t) rfl (zs_ref1 1) ?_
        show zk_T zk_mt zk_ex Ls xs zm_76 (32, [(0, .ref 0), (1, .int x)], [.int 1]) (zH (zb v 0 (upd (v 0) 10 1)) w t) _
        exact zk_T.rt rfl rfl rfl
/-- BasketKeep.noDanger -/
theorem zs_noDanger_f (hst : v 0 2 = 1) (D : Nat) (hD : v 20 1 = nI D) (h8 : D ≤ 8) (a : Nat) (ha : a < D) : zk_Cr zk_mt zk_ex Ls xs 76 [.ref 0, .int (nI a)] (zH v w t) (some (.int 0), zH (zb v 0 (upd (v 0) 10 0)) w t) := by
  refine zk_Cr.of (K := zm_76) rfl rfl rfl ?_
  show zk_T zk_mt zk_ex Ls xs zm_76 (0, [(0, .ref 0), (1, .int (nI a))], []) (zH v w t) _
  refine zk_T.adv 3 (f' := (5, [(0, .ref 0), (1, .int (nI a))], [.int (v 0 2), .ref 0])) (h' := zH v w t) rfl ?_
  refine zk_T.br (f1 := (23, [(0, .ref 0), (1, .int (nI a))], [.ref 0])) (f2 := (8, [(0, .ref 0), (1, .int (nI a))], [.ref 0])) rfl (fun c1 => absurd (of_decide_eq_true c1) (by rw [hst]; decide)) (fun c1 => ?_)
  refine zk_T.adv 1 (f' := (9, [(0, .ref 0), (1, .int (nI a))], [.int (nI a), .ref 0])) (h' := zH v w t) rfl ?_
  refine zk_T.br (f1 := (23, [(0, .ref 0), (1, .int (nI a))], [.ref 0])) (f2 := (12, [(0, .ref 0), (1, .int (nI a))], [.ref 0])) rfl (fun c2 => absurd (of_decide_eq_true c2) (nI_pos (by omega))) (fun c2 => ?_)
  refine zk_T.adv 4 (f' := (20, [(0, .ref 0), (1, .int (nI a))], [.int (v 20 1), .int (nI a), .ref 0])) (h' := zH v w t) rfl ?_
  refine zk_T.br (f1 := (27, [(0, .ref 0), (1, .int (nI a))], [.ref 0])) (f2 := (23, [(0, .ref 0), (1, .int (nI a))], [.ref 0])) rfl (fun c3 => ?_) (fun c3 => absurd (by rw [hD]; exact nI_lt ha (by omega)) (of_decide_eq_false c3))
  refine zk_T.adv 2 (f' := (29, [(0, .ref 0), (1, .int (nI a))], [.int 1, .int 0, .ref 0])) (h' := zH v w t) rfl ?_
  refine zk_T.cl (v := some (.int 0)) (h' := zH (zb v 0 (upd (v 0) 10 0)) w t) rfl (zs_ref0 1) ?_
  show zk_T zk_mt zk_ex Ls xs zm_76 (32, [(0, .ref 0), (1, .int (nI a))], [.int 0]) (zH (zb v 0 (upd (v 0) 10 0)) w t) _
  exact zk_T.rt rfl rfl (by rfl)
theorem zs_noMaker_t (x : Int32) (h : v 0 2 = 0 ∨ x < 0 ∨ v 20 4 ≤ x) : zk_Cr zk_mt zk_ex Ls xs 79 [.ref 0, .int x] (zH v w t) (some (.int 1), zH (zb v 0 (upd (v 0) 10 1)) w t) := by
  refine zk_Cr.of (K := zm_79) rfl rfl rfl ?_
  show zk_T zk_mt zk_ex Ls xs zm_79 (0, [(0, .ref 0), (1, .int x)], []) (zH v w t) _
  refine zk_T.adv 3 (f' := (5, [(0, .ref 0), (1, .int x)], [.int (v 0 2), .ref 0])) (h' := zH v w t) rfl ?_
  refine zk_T.br (f1 := (23, [(0, .ref 0), (1, .int x)], [.ref 0])) (f2 := (8, [(0, .ref 0), (1, .int x)], [.ref 0])) rfl (fun c1 => ?_) (fun c1 => ?_)
  · have c1 : (v 0 2) = 0 := of_decide_eq_true c1
    refine zk_T.adv 3 (f' := (29, [(0, .ref 0), (1, .int x)], [.int 1, .int 1, .ref 0])) (h' := zH v w t) rfl ?_
    refine zk_T.cl (v := some (.int 1)) (h' := zH (zb v 0 (upd (v 0) 10 1)) w t) rfl (zs_ref1 1) ?_
    show zk_T zk_mt zk_ex Ls xs zm_79 (32, [(0, .ref 0), (1, .int x)], [.int 1]) (zH (zb v 0 (upd (v 0) 10 1)) w t) _
    exact zk_T.rt rfl rfl rfl
  · have c1 : ¬ ((v 0 2) = 0) := of_decide_eq_false c1
    refine zk_T.adv 1 (f' := (9, [(0, .ref 0), (1, .int x)], [.int x, .ref 0])) (h' := zH v w t) rfl ?_
    refine zk_T.br (f1 := (23, [(0, .ref 0), (1, .int x)], [.ref 0])) (f2 := (12, [(0, .ref 0), (1, .int x)], [.ref 0])) rfl (fun c2 => ?_) (fun c2 => ?_)
    · have c2 : x < 0 := of_decide_eq_true c2
      refine zk_T.adv 3 (f' := (29, [(0, .ref 0), (1, .int x)], [.int 1, .int 1, .ref 0])) (h' := zH v w t) rfl ?_
      refine zk_T.cl (v := some (.int 1)) (h' := zH (zb v 0 (upd (v 0) 10 1)) w t) rfl (zs_ref1 1) ?_
      show zk_T zk_mt zk_ex Ls xs zm_79 (32, [(0, .ref 0), (1, .int x)], [.int 1]) (zH (zb v 0 (upd (v 0) 10 1)) w t) _
      exact zk_T.rt rfl rfl rfl
    · have c2 : ¬ (x < 0) := of_decide_eq_false c2
      refine zk_T.adv 4 (f' := (20, [(0, .ref 0), (1, .int x)], [.int (v 20 4), .int x, .ref 0])) (h' := zH v w t) rfl ?_
      refine zk_T.br (f1 := (27, [(0, .ref 0), (1, .int x)], [.ref 0])) (f2 := (23, [(0, .ref 0), (1, .int x)], [.ref 0])) rfl (fun c3 => ?_) (fun c3 => ?_)
      · have c3 : x < (v 20 4) := of_decide_eq_true c3
        refine zk_T.adv 2 (f' := (29, [(0, .ref 0), (1, .int x)], [.int 1, .int 0, .ref 0])) (h' := zH v w t) rfl ?_
        refine zk_T.cl (v := some (.int 0)) (h' := zH (zb v 0 (upd (v 0) 10 0)) w t) rfl (zs_ref0 1) ?_
        show zk_T zk_mt zk_ex Ls xs zm_79 (32, [(0, .ref 0), (1, .int x)], [.int 0]) (zH (zb v 0 (upd (v 0) 10 0)) w t) _
        exact absurd h (by simp [c1, c2, c3])
      · have c3 : ¬ (x < (v 20 4)) := of_decide_eq_false c3
        refine zk_T.adv 3 (f' := (29, [(0, .ref 0), (1, .int x)], [.int 1, .int 1, .ref 0])) (h' := zH v w t) rfl ?_
        refine zk_T.cl (v := some (.int 1)) (h' := zH (zb v 0 (upd (v 0) 10 1)) w t) rfl (zs_ref1 1) ?_
        show zk_T zk_mt zk_ex Ls xs zm_79 (32, [(0, .ref 0), (1, .int x)], [.int 1]) (zH (zb v 0 (upd (v 0) 10 1)) w t) _
        exact zk_T.rt rfl rfl rfl
/-- BasketKeep.noMaker -/
theorem zs_noMaker_f (hst : v 0 2 = 1) (Mn : Nat) (hM : v 20 4 = nI Mn) (h5 : Mn ≤ 5) (a : Nat) (ha : a < Mn) : zk_Cr zk_mt zk_ex Ls xs 79 [.ref 0, .int (nI a)] (zH v w t) (some (.int 0), zH (zb v 0 (upd (v 0) 10 0)) w t) := by
  refine zk_Cr.of (K := zm_79) rfl rfl rfl ?_
  show zk_T zk_mt zk_ex Ls xs zm_79 (0, [(0, .ref 0), (1, .int (nI a))], []) (zH v w t) _
  refine zk_T.adv 3 (f' := (5, [(0, .ref 0), (1, .int (nI a))], [.int (v 0 2), .ref 0])) (h' := zH v w t) rfl ?_
  refine zk_T.br (f1 := (23, [(0, .ref 0), (1, .int (nI a))], [.ref 0])) (f2 := (8, [(0, .ref 0), (1, .int (nI a))], [.ref 0])) rfl (fun c1 => absurd (of_decide_eq_true c1) (by rw [hst]; decide)) (fun c1 => ?_)
  refine zk_T.adv 1 (f' := (9, [(0, .ref 0), (1, .int (nI a))], [.int (nI a), .ref 0])) (h' := zH v w t) rfl ?_
  refine zk_T.br (f1 := (23, [(0, .ref 0), (1, .int (nI a))], [.ref 0])) (f2 := (12, [(0, .ref 0), (1, .int (nI a))], [.ref 0])) rfl (fun c2 => absurd (of_decide_eq_true c2) (nI_pos (by omega))) (fun c2 => ?_)
  refine zk_T.adv 4 (f' := (20, [(0, .ref 0), (1, .int (nI a))], [.int (v 20 4), .int (nI a), .ref 0])) (h' := zH v w t) rfl ?_
  refine zk_T.br (f1 := (27, [(0, .ref 0), (1, .int (nI a))], [.ref 0])) (f2 := (23, [(0, .ref 0), (1, .int (nI a))], [.ref 0])) rfl (fun c3 => ?_) (fun c3 => absurd (by rw [hM]; exact nI_lt ha (by omega)) (of_decide_eq_false c3))
  refine zk_T.adv 2 (f' := (29, [(0, .ref 0), (1, .int (nI a))], [.int 1, .int 0, .ref 0])) (h' := zH v w t) rfl ?_
  refine zk_T.cl (v := some (.int 0)) (h' := zH (zb v 0 (upd (v 0) 10 0)) w t) rfl (zs_ref0 1) ?_
  show zk_T zk_mt zk_ex Ls xs zm_79 (32, [(0, .ref 0), (1, .int (nI a))], [.int 0]) (zH (zb v 0 (upd (v 0) 10 0)) w t) _
  exact zk_T.rt rfl rfl (by rfl)
theorem zs_noGood_t (x : Int32) (h : v 0 2 = 0 ∨ x < 0 ∨ v 20 8 ≤ x) : zk_Cr zk_mt zk_ex Ls xs 77 [.ref 0, .int x] (zH v w t) (some (.int 1), zH (zb v 0 (upd (v 0) 10 1)) w t) := by
  refine zk_Cr.of (K := zm_77) rfl rfl rfl ?_
  show zk_T zk_mt zk_ex Ls xs zm_77 (0, [(0, .ref 0), (1, .int x)], []) (zH v w t) _
  refine zk_T.adv 3 (f' := (5, [(0, .ref 0), (1, .int x)], [.int (v 0 2), .ref 0])) (h' := zH v w t) rfl ?_
  refine zk_T.br (f1 := (23, [(0, .ref 0), (1, .int x)], [.ref 0])) (f2 := (8, [(0, .ref 0), (1, .int x)], [.ref 0])) rfl (fun c1 => ?_) (fun c1 => ?_)
  · have c1 : (v 0 2) = 0 := of_decide_eq_true c1
    refine zk_T.adv 3 (f' := (29, [(0, .ref 0), (1, .int x)], [.int 1, .int 1, .ref 0])) (h' := zH v w t) rfl ?_
    refine zk_T.cl (v := some (.int 1)) (h' := zH (zb v 0 (upd (v 0) 10 1)) w t) rfl (zs_ref1 1) ?_
    show zk_T zk_mt zk_ex Ls xs zm_77 (32, [(0, .ref 0), (1, .int x)], [.int 1]) (zH (zb v 0 (upd (v 0) 10 1)) w t) _
    exact zk_T.rt rfl rfl rfl
  · have c1 : ¬ ((v 0 2) = 0) := of_decide_eq_false c1
    refine zk_T.adv 1 (f' := (9, [(0, .ref 0), (1, .int x)], [.int x, .ref 0])) (h' := zH v w t) rfl ?_
    refine zk_T.br (f1 := (23, [(0, .ref 0), (1, .int x)], [.ref 0])) (f2 := (12, [(0, .ref 0), (1, .int x)], [.ref 0])) rfl (fun c2 => ?_) (fun c2 => ?_)
    · have c2 : x < 0 := of_decide_eq_true c2
      refine zk_T.adv 3 (f' := (29, [(0, .ref 0), (1, .int x)], [.int 1, .int 1, .ref 0])) (h' := zH v w t) rfl ?_
      refine zk_T.cl (v := some (.int 1)) (h' := zH (zb v 0 (upd (v 0) 10 1)) w t) rfl (zs_ref1 1) ?_
      show zk_T zk_mt zk_ex Ls xs zm_77 (32, [(0, .ref 0), (1, .int x)], [.int 1]) (zH (zb v 0 (upd (v 0) 10 1)) w t) _
      exact zk_T.rt rfl rfl rfl
    · have c2 : ¬ (x < 0) := of_decide_eq_false c2
      refine zk_T.adv 4 (f' := (20, [(0, .ref 0), (1, .int x)], [.int (v 20 8), .int x, .ref 0])) (h' := zH v w t) rfl ?_
      refine zk_T.br (f1 := (27, [(0, .ref 0), (1, .int x)], [.ref 0])) (f2 := (23, [(0, .ref 0), (1, .int x)], [.ref 0])) rfl (fun c3 => ?_) (fun c3 => ?_)
      · have c3 : x < (v 20 8) := of_decide_eq_true c3
        refine zk_T.adv 2 (f' := (29, [(0, .ref 0), (1, .int x)], [.int 1, .int 0, .ref 0])) (h' := zH v w t) rfl ?_
        refine zk_T.cl (v := some (.int 0)) (h' := zH (zb v 0 (upd (v 0) 10 0)) w t) rfl (zs_ref0 1) ?_
        show zk_T zk_mt zk_ex Ls xs zm_77 (32, [(0, .ref 0), (1, .int x)], [.int 0]) (zH (zb v 0 (upd (v 0) 10 0)) w t) _
        exact absurd h (by simp [c1, c2, c3])
      · have c3 : ¬ (x < (v 20 8)) := of_decide_eq_false c3
        refine zk_T.adv 3 (f' := (29, [(0, .ref 0), (1, .int x)], [.int 1, .int 1, .ref 0])) (h' := zH v w t) rfl ?_
        refine zk_T.cl (v := some (.int 1)) (h' := zH (zb v 0 (upd (v 0) 10 1)) w t) rfl (zs_ref1 1) ?_
        show zk_T zk_mt zk_ex Ls xs zm_77 (32, [(0, .ref 0), (1, .int x)], [.int 1]) (zH (zb v 0 (upd (v 0) 10 1)) w t) _
        exact zk_T.rt rfl rfl rfl
/-- BasketKeep.noGood -/
theorem zs_noGood_f (hst : v 0 2 = 1) (Gn : Nat) (hG : v 20 8 = nI Gn) (h4 : Gn ≤ 4) (a : Nat) (ha : a < Gn) : zk_Cr zk_mt zk_ex Ls xs 77 [.ref 0, .int (nI a)] (zH v w t) (some (.int 0), zH (zb v 0 (upd (v 0) 10 0)) w t) := by
  refine zk_Cr.of (K := zm_77) rfl rfl rfl ?_
  show zk_T zk_mt zk_ex Ls xs zm_77 (0, [(0, .ref 0), (1, .int (nI a))], []) (zH v w t) _
  refine zk_T.adv 3 (f' := (5, [(0, .ref 0), (1, .int (nI a))], [.int (v 0 2), .ref 0])) (h' := zH v w t) rfl ?_
  refine zk_T.br (f1 := (23, [(0, .ref 0), (1, .int (nI a))], [.ref 0])) (f2 := (8, [(0, .ref 0), (1, .int (nI a))], [.ref 0])) rfl (fun c1 => absurd (of_decide_eq_true c1) (by rw [hst]; decide)) (fun c1 => ?_)
  refine zk_T.adv 1 (f' := (9, [(0, .ref 0), (1, .int (nI a))], [.int (nI a), .ref 0])) (h' := zH v w t) rfl ?_
  refine zk_T.br (f1 := (23, [(0, .ref 0), (1, .int (nI a))], [.ref 0])) (f2 := (12, [(0, .ref 0), (1, .int (nI a))], [.ref 0])) rfl (fun c2 => absurd (of_decide_eq_true c2) (nI_pos (by omega))) (fun c2 => ?_)
  refine zk_T.adv 4 (f' := (20, [(0, .ref 0), (1, .int (nI a))], [.int (v 20 8), .int (nI a), .ref 0])) (h' := zH v w t) rfl ?_
  refine zk_T.br (f1 := (27, [(0, .ref 0), (1, .int (nI a))], [.ref 0])) (f2 := (23, [(0, .ref 0), (1, .int (nI a))], [.ref 0])) rfl (fun c3 => ?_) (fun c3 => absurd (by rw [hG]; exact nI_lt ha (by omega)) (of_decide_eq_false c3))
  refine zk_T.adv 2 (f' := (29, [(0, .ref 0), (1, .int (nI a))], [.int 1, .int 0, .ref 0])) (h' := zH v w t) rfl ?_
  refine zk_T.cl (v := some (.int 0)) (h' := zH (zb v 0 (upd (v 0) 10 0)) w t) rfl (zs_ref0 1) ?_
  show zk_T zk_mt zk_ex Ls xs zm_77 (32, [(0, .ref 0), (1, .int (nI a))], [.int 0]) (zH (zb v 0 (upd (v 0) 10 0)) w t) _
  exact zk_T.rt rfl rfl (by rfl)
theorem zs_outside_t (x lo hi : Int32) (h : x < lo ∨ hi < x) : zk_Cr zk_mt zk_ex Ls xs 80 [.ref 0, .int x, .int lo, .int hi] (zH v w t) (some (.int 1), zH (zb v 0 (upd (v 0) 10 2)) w t) := by
  refine zk_Cr.of (K := zm_80) rfl rfl rfl ?_
  show zk_T zk_mt zk_ex Ls xs zm_80 (0, [(0, .ref 0), (1, .int x), (2, .int lo), (3, .int hi)], []) (zH v w t) _
  refine zk_T.adv 3 (f' := (3, [(0, .ref 0), (1, .int x), (2, .int lo), (3, .int hi)], [.int lo, .int x, .ref 0])) (h' := zH v w t) rfl ?_
  refine zk_T.br (f1 := (11, [(0, .ref 0), (1, .int x), (2, .int lo), (3, .int hi)], [.ref 0])) (f2 := (6, [(0, .ref 0), (1, .int x), (2, .int lo), (3, .int hi)], [.ref 0])) rfl (fun c1 => ?_) (fun c1 => ?_)
  · have c1 : x < lo := of_decide_eq_true c1
    refine zk_T.adv 3 (f' := (17, [(0, .ref 0), (1, .int x), (2, .int lo), (3, .int hi)], [.int 2, .int 1, .ref 0])) (h' := zH v w t) rfl ?_
    refine zk_T.cl (v := some (.int 1)) (h' := zH (zb v 0 (upd (v 0) 10 2)) w t) rfl (zs_ref1 2) ?_
    show zk_T zk_mt zk_ex Ls xs zm_80 (20, [(0, .ref 0), (1, .int x), (2, .int lo), (3, .int hi)], [.int 1]) (zH (zb v 0 (upd (v 0) 10 2)) w t) _
    exact zk_T.rt rfl rfl rfl
  · have c1 : ¬ (x < lo) := of_decide_eq_false c1
    refine zk_T.adv 2 (f' := (8, [(0, .ref 0), (1, .int x), (2, .int lo), (3, .int hi)], [.int hi, .int x, .ref 0])) (h' := zH v w t) rfl ?_
    refine zk_T.br (f1 := (15, [(0, .ref 0), (1, .int x), (2, .int lo), (3, .int hi)], [.ref 0])) (f2 := (11, [(0, .ref 0), (1, .int x), (2, .int lo), (3, .int hi)], [.ref 0])) rfl (fun c2 => ?_) (fun c2 => ?_)
    · have c2 : x ≤ hi := of_decide_eq_true c2
      refine zk_T.adv 2 (f' := (17, [(0, .ref 0), (1, .int x), (2, .int lo), (3, .int hi)], [.int 2, .int 0, .ref 0])) (h' := zH v w t) rfl ?_
      refine zk_T.cl (v := some (.int 0)) (h' := zH (zb v 0 (upd (v 0) 10 0)) w t) rfl (zs_ref0 2) ?_
      show zk_T zk_mt zk_ex Ls xs zm_80 (20, [(0, .ref 0), (1, .int x), (2, .int lo), (3, .int hi)], [.int 0]) (zH (zb v 0 (upd (v 0) 10 0)) w t) _
      exact absurd h (by rintro (h | h); exact c1 h; exact absurd c2 (Int32.not_le.mpr h))
    · have c2 : ¬ (x ≤ hi) := of_decide_eq_false c2
      refine zk_T.adv 3 (f' := (17, [(0, .ref 0), (1, .int x), (2, .int lo), (3, .int hi)], [.int 2, .int 1, .ref 0])) (h' := zH v w t) rfl ?_
      refine zk_T.cl (v := some (.int 1)) (h' := zH (zb v 0 (upd (v 0) 10 2)) w t) rfl (zs_ref1 2) ?_
      show zk_T zk_mt zk_ex Ls xs zm_80 (20, [(0, .ref 0), (1, .int x), (2, .int lo), (3, .int hi)], [.int 1]) (zH (zb v 0 (upd (v 0) 10 2)) w t) _
      exact zk_T.rt rfl rfl rfl
/-- BasketKeep.outside -/
theorem zs_outside_f (x lo hi : Int32) (h1 : ¬ x < lo) (h2 : x ≤ hi) : zk_Cr zk_mt zk_ex Ls xs 80 [.ref 0, .int x, .int lo, .int hi] (zH v w t) (some (.int 0), zH (zb v 0 (upd (v 0) 10 0)) w t) := by
  refine zk_Cr.of (K := zm_80) rfl rfl rfl ?_
  show zk_T zk_mt zk_ex Ls xs zm_80 (0, [(0, .ref 0), (1, .int x), (2, .int lo), (3, .int hi)], []) (zH v w t) _
  refine zk_T.adv 3 (f' := (3, [(0, .ref 0), (1, .int x), (2, .int lo), (3, .int hi)], [.int lo, .int x, .ref 0])) (h' := zH v w t) rfl ?_
  refine zk_T.br (f1 := (11, [(0, .ref 0), (1, .int x), (2, .int lo), (3, .int hi)], [.ref 0])) (f2 := (6, [(0, .ref 0), (1, .int x), (2, .int lo), (3, .int hi)], [.ref 0])) rfl (fun c1 => absurd (of_decide_eq_true c1) h1) (fun c1 => ?_)
  refine zk_T.adv 2 (f' := (8, [(0, .ref 0), (1, .int x), (2, .int lo), (3, .int hi)], [.int hi, .int x, .ref 0])) (h' := zH v w t) rfl ?_
  refine zk_T.br (f1 := (15, [(0, .ref 0), (1, .int x), (2, .int lo), (3, .int hi)], [.ref 0])) (f2 := (11, [(0, .ref 0), (1, .int x), (2, .int lo), (3, .int hi)], [.ref 0])) rfl (fun c2 => ?_) (fun c2 => absurd h2 (of_decide_eq_false c2))
  refine zk_T.adv 2 (f' := (17, [(0, .ref 0), (1, .int x), (2, .int lo), (3, .int hi)], [.int 2, .int 0, .ref 0])) (h' := zH v w t) rfl ?_
  refine zk_T.cl (v := some (.int 0)) (h' := zH (zb v 0 (upd (v 0) 10 0)) w t) rfl (zs_ref0 2) ?_
  show zk_T zk_mt zk_ex Ls xs zm_80 (20, [(0, .ref 0), (1, .int x), (2, .int lo), (3, .int hi)], [.int 0]) (zH (zb v 0 (upd (v 0) 10 0)) w t) _
  exact zk_T.rt rfl rfl (by rfl)
/-- BasketKeep.noSuch -/
theorem zs_noSuch  : zk_Cr zk_mt zk_ex Ls xs 5 [.ref 0] (zH v w t) (some (.int (-1)), zH (zb v 0 (upd (v 0) 10 1)) w t) := by
  refine zk_Cr.of (K := zm_5) rfl rfl rfl ?_
  show zk_T zk_mt zk_ex Ls xs zm_5 (0, [(0, .ref 0)], []) (zH v w t) _
  refine zk_T.adv 4 (f' := (6, [(0, .ref 0)], [.int (-1)])) (h' := zH (zb v 0 (upd (v 0) 10 1)) w t) rfl ?_
  exact zk_T.rt rfl rfl (by rfl)
/-- BasketKeep.cannotForesee -/
theorem zs_cf_t (x : Int32) (ho : x < 0 ∨ 60 < x) : zk_Cr zk_mt zk_ex Ls xs 251 [.ref 0, .int x] (zH v w t) (some (.int 1), zH (zb v 0 (upd (v 0) 10 2)) w t) := by
  refine zk_Cr.of (K := zm_251) rfl rfl rfl ?_
  show zk_T zk_mt zk_ex Ls xs zm_251 (0, [(0, .ref 0), (1, .int x)], []) (zH v w t) _
  refine zk_T.adv 4 (f' := (5, [(0, .ref 0), (1, .int x)], [.int 60, .int 0, .int x, .ref 0])) (h' := zH v w t) rfl ?_
  refine zk_T.cl (v := some (.int 1)) (h' := zH (zb v 0 (upd (v 0) 10 2)) w t) rfl (zs_outside_t x 0 60 ho) ?_
  show zk_T zk_mt zk_ex Ls xs zm_251 (8, [(0, .ref 0), (1, .int x)], [.int 1]) (zH (zb v 0 (upd (v 0) 10 2)) w t) _
  refine zk_T.br (f1 := (13, [(0, .ref 0), (1, .int x)], [])) (f2 := (11, [(0, .ref 0), (1, .int x)], [])) rfl (fun c1 => absurd (of_decide_eq_true c1) (by decide)) (fun c1 => ?_)
  refine zk_T.adv 1 (f' := (12, [(0, .ref 0), (1, .int x)], [.int 1])) (h' := zH (zb v 0 (upd (v 0) 10 2)) w t) rfl ?_
  exact zk_T.rt rfl rfl (by rfl)
/-- BasketKeep.cannotForesee -/
theorem zs_cf_f (D : Nat) (hD : v 20 1 = nI D) (h8 : D ≤ 8) (Mn : Nat) (hM : v 20 4 = nI Mn) (h5 : Mn ≤ 5) (Gn : Nat) (hG : v 20 8 = nI Gn) (h4 : Gn ≤ 4) (hli : ∀ a, a < Gn → v 33 a < 0 ∨ ∃ e, e < 5 ∧ v 33 a = nI e) (hkd : ∀ e, e < 5 → v 23 e = 0 ∨ v 23 e = 1 ∨ v 23 e = 2) (sp : Nat) (hsp : sp ≤ 60) : zk_Cr zk_mt zk_ex Ls xs 251 [.ref 0, .int (nI sp)] (zH v w t) (some (.int 0), zH (zvR_now (zb v 0 (upd (v 0) 10 0)) D Mn Gn sp) w t) := by
  refine zk_Cr.of (K := zm_251) rfl rfl rfl ?_
  show zk_T zk_mt zk_ex Ls xs zm_251 (0, [(0, .ref 0), (1, .int (nI sp))], []) (zH v w t) _
  refine zk_T.adv 4 (f' := (5, [(0, .ref 0), (1, .int (nI sp))], [.int 60, .int 0, .int (nI sp), .ref 0])) (h' := zH v w t) rfl ?_
  refine zk_T.cl (v := some (.int 0)) (h' := zH (zb v 0 (upd (v 0) 10 0)) w t) rfl (zs_outside_f (nI sp) 0 60 (nI_pos (by omega)) (show nI sp ≤ nI 60 from nI_le (by omega) (by decide))) ?_
  show zk_T zk_mt zk_ex Ls xs zm_251 (8, [(0, .ref 0), (1, .int (nI sp))], [.int 0]) (zH (zb v 0 (upd (v 0) 10 0)) w t) _
  refine zk_T.br (f1 := (13, [(0, .ref 0), (1, .int (nI sp))], [])) (f2 := (11, [(0, .ref 0), (1, .int (nI sp))], [])) rfl (fun c1 => ?_) (fun c1 => absurd (by decide) (of_decide_eq_false c1))
  refine zk_T.adv 9 (f' := (30, [(0, .ref 0), (1, .int (nI sp))], [.ref 68, .int (nI sp), .ref 32, .ref 20, .ref 43])) (h' := zH (zb v 0 (upd (v 0) 10 0)) w t) rfl ?_
  refine zk_T.cl (v := none) (h' := zH (zvR_now (zb v 0 (upd (v 0) 10 0)) D Mn Gn sp) w t) rfl (zs_rsv_now (v := (zb v 0 (upd (v 0) 10 0))) D hD h8 Mn hM h5 Gn hG h4 hli hkd sp (by omega)) ?_
  show zk_T zk_mt zk_ex Ls xs zm_251 (33, [(0, .ref 0), (1, .int (nI sp))], []) (zH (zvR_now (zb v 0 (upd (v 0) 10 0)) D Mn Gn sp) w t) _
  refine zk_T.adv 1 (f' := (34, [(0, .ref 0), (1, .int (nI sp))], [.int 0])) (h' := zH (zvR_now (zb v 0 (upd (v 0) 10 0)) D Mn Gn sp) w t) rfl ?_
  exact zk_T.rt rfl rfl (by rfl)
end Z29
