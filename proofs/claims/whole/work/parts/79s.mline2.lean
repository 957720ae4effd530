/-! the reference's lines in and unsure -/
section Z64
variable {Ls : Nat} {xs : Nat → Int32} {v u : Nat → Nat → Int32} {w : Nat → Nat → Int64} {t : zk_H}
variable {tn : Nat → Nat} {ts : Nat → Int32} {tp : Nat → Nat} {tv : Nat → Int64} {E : Nat} {B : Nat → Int32}
theorem zm_inLine (hM : zk_MA Ls xs tn ts tp tv E B) (hT : zt_ok tn ts tv E) {k D Mn Gn Un : Nat} {l : Nat → Nat → Int32} {S : Nat → Int64} (hs : zMs tn ts tp tv E B k u) (hN : zRN S (u 72)) (hS : zSr D Mn Gn S) (hL : zL D Mn Gn Un 1 l (u 72) (u 74)) : ∃ u', zk_Cr zk_mt zk_ex Ls xs 300 [.ref 69] (zH u w t) (none, zH u' w t) ∧ zML tn ts tp tv E B (zp_inL tn ts tp tv k D Mn Gn Un l S) u u' := by
  have main : ∃ q, zk_Cr zk_mt zk_ex Ls xs 300 [.ref 69] (zH u w t) q ∧ ∃ u', q = (none, zH u' w t) ∧ zML tn ts tp tv E B (zp_inL tn ts tp tv k D Mn Gn Un l S) u u' := by
    have hD8 : D ≤ 8 := hL.1.1.1
    have hM5' : Mn ≤ 5 := hL.1.1.2.1
    have hG4' : Gn ≤ 4 := hL.1.1.2.2.1
    have hU4' : Un ≤ 4 := hL.1.1.2.2.2
    have h721 : u 72 1 = nI D := hL.1.2.1.2.1
    have h722 : u 72 2 = nI Mn := hL.1.2.1.2.2.2.1
    have h723 : u 72 3 = nI Gn := hL.1.2.1.2.2.2.2.2.1
    have h724 : u 72 4 = nI Un := hL.1.2.1.2.2.2.2.2.2.2
    refine zx.of (K := zm_300) rfl rfl rfl ?_
    show zx zk_mt zk_ex Ls xs zm_300 (0, [(0, .ref 69)], []) (zH u w t) _
    refine zx.adv 1 (f' := (1, [(0, .ref 69)], [.ref 69])) (h' := zH u w t) rfl ?_
    rcases hz1 : zp_see tn ts tp tv 13 17 S k with x1 | ⟨f1, p1⟩
    · obtain ⟨u1, q1, g1, r1⟩ := zm_goodHere (Ls := Ls) (xs := xs) (w := w) (t := t) (u := u) hs hN
      rw [hz1] at q1 r1
      rw [show u1 = u from r1] at q1
      have hx1 : x1 < Gn := by have := zSr_see hS hT hs.1.1 hz1; omega
      refine zx.cl (v := some (.int (nI x1))) (h' := zH u w t) rfl q1 ?_
      show zx zk_mt zk_ex Ls xs zm_300 (4, [(0, .ref 69)], [.int (nI x1)]) (zH u w t) _
      refine zx.adv 3 (f' := (9, [(0, .ref 69), (1, .int (nI x1))], [.int (u 68 13)])) (h' := zH u w t) rfl ?_
      rw [show (u 68 13) = 0 from hs.2.2]
      refine zx.br (f1 := (12, [(0, .ref 69), (1, .int (nI x1))], [])) (f2 := (33, [(0, .ref 69), (1, .int (nI x1))], [])) rfl (fun c1 => ?_) (fun c1 => absurd (by decide) (of_decide_eq_false c1))
      refine zx.adv 5 (f' := (20, [(0, .ref 69), (1, .int (nI x1))], [.int (10 + (nI x1)), .ref 75])) (h' := zH u w t) rfl ?_
      rw [show 10 + (nI x1) = nI (10 + x1) from nI_add 10 x1]
      refine zx.ob (f' := (21, [(0, .ref 69), (1, .int (nI x1))], [.int (u 74 (nI (10 + x1)).toNatClampNeg)])) (h' := zH u w t) rfl (by first | exact zk_inN (by omega) (by decide) | decide) ?_
      rw [nI_clamp (show (10 + x1) < 2 ^ 31 by omega)]
      refine zx.br (f1 := (33, [(0, .ref 69), (1, .int (nI x1))], [])) (f2 := (24, [(0, .ref 69), (1, .int (nI x1))], [])) rfl (fun c2 => ?_) (fun c2 => ?_)
      · have c2 : (u 74 (10 + x1)) ≤ 0 := of_decide_eq_true c2
        refine zx.adv 1 (f' := (34, [(0, .ref 69), (1, .int (nI x1))], [.ref 69])) (h' := zH u w t) rfl ?_
        skip
        · obtain ⟨u2, q2, g2, s2⟩ := zm_pass (w := w) (t := t) (u := u) hM hs
          refine zx.cl (v := none) (h' := zH u2 w t) rfl q2 ?_
          show zx zk_mt zk_ex Ls xs zm_300 (37, [(0, .ref 69), (1, .int (nI x1))], []) (zH u2 w t) _
          refine zx.adv 1 (f' := (38, [(0, .ref 69), (1, .int (nI x1))], [.ref 69])) (h' := zH u2 w t) rfl ?_
          rcases hz3 : zp_see tn ts tp tv 8 13 S (tn k) with x3 | ⟨f3, p3⟩
          · obtain ⟨u3, q3, g3, r3⟩ := zm_makerHere (Ls := Ls) (xs := xs) (w := w) (t := t) (u := u2) s2 (show zRN S (u2 72) by rw [g2.1 72 (by decide) (by decide)]; exact hN)
            rw [hz3] at q3 r3
            rw [show u3 = u2 from r3] at q3
            have hx3 : x3 < Mn := by have := zSr_see hS hT s2.1.1 hz3; omega
            refine zx.cl (v := some (.int (nI x3))) (h' := zH u2 w t) rfl q3 ?_
            show zx zk_mt zk_ex Ls xs zm_300 (41, [(0, .ref 69), (1, .int (nI x1))], [.int (nI x3)]) (zH u2 w t) _
            refine zx.adv 5 (f' := (46, [(0, .ref 69), (1, .int (nI x1)), (2, .int (nI x3)), (3, .int 0)], [.int 4, .int 0])) (h' := zH u2 w t) rfl ?_
            refine zx.br (f1 := (86, [(0, .ref 69), (1, .int (nI x1)), (2, .int (nI x3)), (3, .int 0)], [])) (f2 := (49, [(0, .ref 69), (1, .int (nI x1)), (2, .int (nI x3)), (3, .int 0)], [])) rfl (fun c3 => absurd (of_decide_eq_true c3) (by decide)) (fun c3 => ?_)
            refine zx.adv 2 (f' := (53, [(0, .ref 69), (1, .int (nI x1)), (2, .int (nI x3)), (3, .int 0)], [.int (u2 68 13)])) (h' := zH u2 w t) rfl ?_
            rw [show (u2 68 13) = 0 from s2.2.2]
            refine zx.br (f1 := (56, [(0, .ref 69), (1, .int (nI x1)), (2, .int (nI x3)), (3, .int 0)], [])) (f2 := (80, [(0, .ref 69), (1, .int (nI x1)), (2, .int (nI x3)), (3, .int 0)], [])) rfl (fun c4 => ?_) (fun c4 => absurd (by decide) (of_decide_eq_false c4))
            refine zx.adv 5 (f' := (64, [(0, .ref 69), (1, .int (nI x1)), (2, .int (nI x3)), (3, .int 0)], [.int 10, .ref 75])) (h' := zH u2 w t) rfl ?_
            refine zx.ob (f' := (65, [(0, .ref 69), (1, .int (nI x1)), (2, .int (nI x3)), (3, .int 0)], [.int (u2 74 (10 : Int32).toNatClampNeg)])) (h' := zH u2 w t) rfl rfl ?_
            show zx zk_mt zk_ex Ls xs zm_300 (65, [(0, .ref 69), (1, .int (nI x1)), (2, .int (nI x3)), (3, .int 0)], [.int (u2 74 10)]) (zH u2 w t) _
            refine zx.adv 3 (f' := (68, [(0, .ref 69), (1, .int (nI x1)), (2, .int (nI x3)), (3, .int 0)], [.int ((nI x3) + 1), .int (u2 74 10)])) (h' := zH u2 w t) rfl ?_
            rw [show (nI x3) + 1 = nI (x3 + 1) from nI_add x3 1]
            refine zx.br (f1 := (71, [(0, .ref 69), (1, .int (nI x1)), (2, .int (nI x3)), (3, .int 0)], [])) (f2 := (80, [(0, .ref 69), (1, .int (nI x1)), (2, .int (nI x3)), (3, .int 0)], [])) rfl (fun c5 => ?_) (fun c5 => ?_)
            · have c5 : (u2 74 10) = (nI (x3 + 1)) := of_decide_eq_true c5
              refine zx.adv 4 (f' := (77, [(0, .ref 69), (1, .int (nI x1)), (2, .int (nI x3)), (3, .int 0)], [.int (u2 68 4), .int 3, .ref 69])) (h' := zH u2 w t) rfl ?_
              refine zx.cl (v := none) (h' := zH (zb u2 68 (upd (upd (upd (u2 68) 9 3) 10 (u2 68 4)) 13 1)) w t) rfl (zs_mwrong_0 (v := u2) (w := w) s2.2.2 3 (u2 68 4)) ?_
              show zx zk_mt zk_ex Ls xs zm_300 (80, [(0, .ref 69), (1, .int (nI x1)), (2, .int (nI x3)), (3, .int 0)], []) (zH (zb u2 68 (upd (upd (upd (u2 68) 9 3) 10 (u2 68 4)) 13 1)) w t) _
              refine zx.adv 4 (f' := (46, [(0, .ref 69), (1, .int (nI x1)), (2, .int (nI x3)), (3, .int 1)], [.int 4, .int 1])) (h' := zH (zb u2 68 (upd (upd (upd (u2 68) 9 3) 10 (u2 68 4)) 13 1)) w t) rfl ?_
              refine zx.br (f1 := (86, [(0, .ref 69), (1, .int (nI x1)), (2, .int (nI x3)), (3, .int 1)], [])) (f2 := (49, [(0, .ref 69), (1, .int (nI x1)), (2, .int (nI x3)), (3, .int 1)], [])) rfl (fun c6 => absurd (of_decide_eq_true c6) (by decide)) (fun c6 => ?_)
              refine zx.adv 2 (f' := (53, [(0, .ref 69), (1, .int (nI x1)), (2, .int (nI x3)), (3, .int 1)], [.int 1])) (h' := zH (zb u2 68 (upd (upd (upd (u2 68) 9 3) 10 (u2 68 4)) 13 1)) w t) rfl ?_
              refine zx.br (f1 := (56, [(0, .ref 69), (1, .int (nI x1)), (2, .int (nI x3)), (3, .int 1)], [])) (f2 := (80, [(0, .ref 69), (1, .int (nI x1)), (2, .int (nI x3)), (3, .int 1)], [])) rfl (fun c7 => absurd (of_decide_eq_true c7) (by decide)) (fun c7 => ?_)
              refine zx.adv 4 (f' := (46, [(0, .ref 69), (1, .int (nI x1)), (2, .int (nI x3)), (3, .int 2)], [.int 4, .int 2])) (h' := zH (zb u2 68 (upd (upd (upd (u2 68) 9 3) 10 (u2 68 4)) 13 1)) w t) rfl ?_
              refine zx.br (f1 := (86, [(0, .ref 69), (1, .int (nI x1)), (2, .int (nI x3)), (3, .int 2)], [])) (f2 := (49, [(0, .ref 69), (1, .int (nI x1)), (2, .int (nI x3)), (3, .int 2)], [])) rfl (fun c8 => absurd (of_decide_eq_true c8) (by decide)) (fun c8 => ?_)
              refine zx.adv 2 (f' := (53, [(0, .ref 69), (1, .int (nI x1)), (2, .int (nI x3)), (3, .int 2)], [.int 1])) (h' := zH (zb u2 68 (upd (upd (upd (u2 68) 9 3) 10 (u2 68 4)) 13 1)) w t) rfl ?_
              refine zx.br (f1 := (56, [(0, .ref 69), (1, .int (nI x1)), (2, .int (nI x3)), (3, .int 2)], [])) (f2 := (80, [(0, .ref 69), (1, .int (nI x1)), (2, .int (nI x3)), (3, .int 2)], [])) rfl (fun c9 => absurd (of_decide_eq_true c9) (by decide)) (fun c9 => ?_)
              refine zx.adv 4 (f' := (46, [(0, .ref 69), (1, .int (nI x1)), (2, .int (nI x3)), (3, .int 3)], [.int 4, .int 3])) (h' := zH (zb u2 68 (upd (upd (upd (u2 68) 9 3) 10 (u2 68 4)) 13 1)) w t) rfl ?_
              refine zx.br (f1 := (86, [(0, .ref 69), (1, .int (nI x1)), (2, .int (nI x3)), (3, .int 3)], [])) (f2 := (49, [(0, .ref 69), (1, .int (nI x1)), (2, .int (nI x3)), (3, .int 3)], [])) rfl (fun c10 => absurd (of_decide_eq_true c10) (by decide)) (fun c10 => ?_)
              refine zx.adv 2 (f' := (53, [(0, .ref 69), (1, .int (nI x1)), (2, .int (nI x3)), (3, .int 3)], [.int 1])) (h' := zH (zb u2 68 (upd (upd (upd (u2 68) 9 3) 10 (u2 68 4)) 13 1)) w t) rfl ?_
              refine zx.br (f1 := (56, [(0, .ref 69), (1, .int (nI x1)), (2, .int (nI x3)), (3, .int 3)], [])) (f2 := (80, [(0, .ref 69), (1, .int (nI x1)), (2, .int (nI x3)), (3, .int 3)], [])) rfl (fun c11 => absurd (of_decide_eq_true c11) (by decide)) (fun c11 => ?_)
              refine zx.adv 4 (f' := (46, [(0, .ref 69), (1, .int (nI x1)), (2, .int (nI x3)), (3, .int 4)], [.int 4, .int 4])) (h' := zH (zb u2 68 (upd (upd (upd (u2 68) 9 3) 10 (u2 68 4)) 13 1)) w t) rfl ?_
              refine zx.br (f1 := (86, [(0, .ref 69), (1, .int (nI x1)), (2, .int (nI x3)), (3, .int 4)], [])) (f2 := (49, [(0, .ref 69), (1, .int (nI x1)), (2, .int (nI x3)), (3, .int 4)], [])) rfl (fun c12 => ?_) (fun c12 => absurd (by decide) (of_decide_eq_false c12))
              refine zx.adv 1 (f' := (87, [(0, .ref 69), (1, .int (nI x1)), (2, .int (nI x3)), (3, .int 4)], [.ref 69])) (h' := zH (zb u2 68 (upd (upd (upd (u2 68) 9 3) 10 (u2 68 4)) 13 1)) w t) rfl ?_
              refine zx.cl (v := none) (h' := zH (zb u2 68 (upd (upd (upd (u2 68) 9 3) 10 (u2 68 4)) 13 1)) w t) rfl (zm_pass_x (u := (zb u2 68 (upd (upd (upd (u2 68) 9 3) 10 (u2 68 4)) 13 1))) rfl) ?_
              show zx zk_mt zk_ex Ls xs zm_300 (90, [(0, .ref 69), (1, .int (nI x1)), (2, .int (nI x3)), (3, .int 4)], []) (zH (zb u2 68 (upd (upd (upd (u2 68) 9 3) 10 (u2 68 4)) 13 1)) w t) _
              refine zx.adv 2 (f' := (94, [(0, .ref 69), (1, .int (nI x1)), (2, .int (nI x3)), (3, .int 4)], [.int 1])) (h' := zH (zb u2 68 (upd (upd (upd (u2 68) 9 3) 10 (u2 68 4)) 13 1)) w t) rfl ?_
              refine zx.br (f1 := (97, [(0, .ref 69), (1, .int (nI x1)), (2, .int (nI x3)), (3, .int 4)], [])) (f2 := (109, [(0, .ref 69), (1, .int (nI x1)), (2, .int (nI x3)), (3, .int 4)], [])) rfl (fun c13 => absurd (of_decide_eq_true c13) (by decide)) (fun c13 => ?_)
              exact zx.rt rfl rfl ⟨(zb u2 68 (upd (upd (upd (u2 68) 9 3) 10 (u2 68 4)) 13 1)), rfl, ((zMk.refl.step g2).step zMg.wrong), by rw [show zp_inL tn ts tp tv k D Mn Gn Un l S = .inr (3, (tp (tn k))) by simp only [zp_inL, zp_kind, zbd, hz1, hz3, if_pos ((hL.li hx1).mpr c2), if_neg (fun z => (hL.bt hx3).mp z 0 (by decide) ((congrFun ((g2.1 74 (by decide) (by decide)).trans rfl) 10).symm.trans c5))]]; exact (zMx.wrong s2)⟩
            · have c5 : ¬ ((u2 74 10) = (nI (x3 + 1))) := of_decide_eq_false c5
              refine zx.adv 4 (f' := (46, [(0, .ref 69), (1, .int (nI x1)), (2, .int (nI x3)), (3, .int 1)], [.int 4, .int 1])) (h' := zH u2 w t) rfl ?_
              refine zx.br (f1 := (86, [(0, .ref 69), (1, .int (nI x1)), (2, .int (nI x3)), (3, .int 1)], [])) (f2 := (49, [(0, .ref 69), (1, .int (nI x1)), (2, .int (nI x3)), (3, .int 1)], [])) rfl (fun c14 => absurd (of_decide_eq_true c14) (by decide)) (fun c14 => ?_)
              refine zx.adv 2 (f' := (53, [(0, .ref 69), (1, .int (nI x1)), (2, .int (nI x3)), (3, .int 1)], [.int (u2 68 13)])) (h' := zH u2 w t) rfl ?_
              rw [show (u2 68 13) = 0 from s2.2.2]
              refine zx.br (f1 := (56, [(0, .ref 69), (1, .int (nI x1)), (2, .int (nI x3)), (3, .int 1)], [])) (f2 := (80, [(0, .ref 69), (1, .int (nI x1)), (2, .int (nI x3)), (3, .int 1)], [])) rfl (fun c15 => ?_) (fun c15 => absurd (by decide) (of_decide_eq_false c15))
              refine zx.adv 5 (f' := (64, [(0, .ref 69), (1, .int (nI x1)), (2, .int (nI x3)), (3, .int 1)], [.int 11, .ref 75])) (h' := zH u2 w t) rfl ?_
              refine zx.ob (f' := (65, [(0, .ref 69), (1, .int (nI x1)), (2, .int (nI x3)), (3, .int 1)], [.int (u2 74 (11 : Int32).toNatClampNeg)])) (h' := zH u2 w t) rfl rfl ?_
              show zx zk_mt zk_ex Ls xs zm_300 (65, [(0, .ref 69), (1, .int (nI x1)), (2, .int (nI x3)), (3, .int 1)], [.int (u2 74 11)]) (zH u2 w t) _
              refine zx.adv 3 (f' := (68, [(0, .ref 69), (1, .int (nI x1)), (2, .int (nI x3)), (3, .int 1)], [.int ((nI x3) + 1), .int (u2 74 11)])) (h' := zH u2 w t) rfl ?_
              rw [show (nI x3) + 1 = nI (x3 + 1) from nI_add x3 1]
              refine zx.br (f1 := (71, [(0, .ref 69), (1, .int (nI x1)), (2, .int (nI x3)), (3, .int 1)], [])) (f2 := (80, [(0, .ref 69), (1, .int (nI x1)), (2, .int (nI x3)), (3, .int 1)], [])) rfl (fun c16 => ?_) (fun c16 => ?_)
              · have c16 : (u2 74 11) = (nI (x3 + 1)) := of_decide_eq_true c16
                refine zx.adv 4 (f' := (77, [(0, .ref 69), (1, .int (nI x1)), (2, .int (nI x3)), (3, .int 1)], [.int (u2 68 4), .int 3, .ref 69])) (h' := zH u2 w t) rfl ?_
                refine zx.cl (v := none) (h' := zH (zb u2 68 (upd (upd (upd (u2 68) 9 3) 10 (u2 68 4)) 13 1)) w t) rfl (zs_mwrong_0 (v := u2) (w := w) s2.2.2 3 (u2 68 4)) ?_
                show zx zk_mt zk_ex Ls xs zm_300 (80, [(0, .ref 69), (1, .int (nI x1)), (2, .int (nI x3)), (3, .int 1)], []) (zH (zb u2 68 (upd (upd (upd (u2 68) 9 3) 10 (u2 68 4)) 13 1)) w t) _
                refine zx.adv 4 (f' := (46, [(0, .ref 69), (1, .int (nI x1)), (2, .int (nI x3)), (3, .int 2)], [.int 4, .int 2])) (h' := zH (zb u2 68 (upd (upd (upd (u2 68) 9 3) 10 (u2 68 4)) 13 1)) w t) rfl ?_
                refine zx.br (f1 := (86, [(0, .ref 69), (1, .int (nI x1)), (2, .int (nI x3)), (3, .int 2)], [])) (f2 := (49, [(0, .ref 69), (1, .int (nI x1)), (2, .int (nI x3)), (3, .int 2)], [])) rfl (fun c17 => absurd (of_decide_eq_true c17) (by decide)) (fun c17 => ?_)
                refine zx.adv 2 (f' := (53, [(0, .ref 69), (1, .int (nI x1)), (2, .int (nI x3)), (3, .int 2)], [.int 1])) (h' := zH (zb u2 68 (upd (upd (upd (u2 68) 9 3) 10 (u2 68 4)) 13 1)) w t) rfl ?_
                refine zx.br (f1 := (56, [(0, .ref 69), (1, .int (nI x1)), (2, .int (nI x3)), (3, .int 2)], [])) (f2 := (80, [(0, .ref 69), (1, .int (nI x1)), (2, .int (nI x3)), (3, .int 2)], [])) rfl (fun c18 => absurd (of_decide_eq_true c18) (by decide)) (fun c18 => ?_)
                refine zx.adv 4 (f' := (46, [(0, .ref 69), (1, .int (nI x1)), (2, .int (nI x3)), (3, .int 3)], [.int 4, .int 3])) (h' := zH (zb u2 68 (upd (upd (upd (u2 68) 9 3) 10 (u2 68 4)) 13 1)) w t) rfl ?_
                refine zx.br (f1 := (86, [(0, .ref 69), (1, .int (nI x1)), (2, .int (nI x3)), (3, .int 3)], [])) (f2 := (49, [(0, .ref 69), (1, .int (nI x1)), (2, .int (nI x3)), (3, .int 3)], [])) rfl (fun c19 => absurd (of_decide_eq_true c19) (by decide)) (fun c19 => ?_)
                refine zx.adv 2 (f' := (53, [(0, .ref 69), (1, .int (nI x1)), (2, .int (nI x3)), (3, .int 3)], [.int 1])) (h' := zH (zb u2 68 (upd (upd (upd (u2 68) 9 3) 10 (u2 68 4)) 13 1)) w t) rfl ?_
                refine zx.br (f1 := (56, [(0, .ref 69), (1, .int (nI x1)), (2, .int (nI x3)), (3, .int 3)], [])) (f2 := (80, [(0, .ref 69), (1, .int (nI x1)), (2, .int (nI x3)), (3, .int 3)], [])) rfl (fun c20 => absurd (of_decide_eq_true c20) (by decide)) (fun c20 => ?_)
                refine zx.adv 4 (f' := (46, [(0, .ref 69), (1, .int (nI x1)), (2, .int (nI x3)), (3, .int 4)], [.int 4, .int 4])) (h' := zH (zb u2 68 (upd (upd (upd (u2 68) 9 3) 10 (u2 68 4)) 13 1)) w t) rfl ?_
                refine zx.br (f1 := (86, [(0, .ref 69), (1, .int (nI x1)), (2, .int (nI x3)), (3, .int 4)], [])) (f2 := (49, [(0, .ref 69), (1, .int (nI x1)), (2, .int (nI x3)), (3, .int 4)], [])) rfl (fun c21 => ?_) (fun c21 => absurd (by decide) (of_decide_eq_false c21))
                refine zx.adv 1 (f' := (87, [(0, .ref 69), (1, .int (nI x1)), (2, .int (nI x3)), (3, .int 4)], [.ref 69])) (h' := zH (zb u2 68 (upd (upd (upd (u2 68) 9 3) 10 (u2 68 4)) 13 1)) w t) rfl ?_
                refine zx.cl (v := none) (h' := zH (zb u2 68 (upd (upd (upd (u2 68) 9 3) 10 (u2 68 4)) 13 1)) w t) rfl (zm_pass_x (u := (zb u2 68 (upd (upd (upd (u2 68) 9 3) 10 (u2 68 4)) 13 1))) rfl) ?_
                show zx zk_mt zk_ex Ls xs zm_300 (90, [(0, .ref 69), (1, .int (nI x1)), (2, .int (nI x3)), (3, .int 4)], []) (zH (zb u2 68 (upd (upd (upd (u2 68) 9 3) 10 (u2 68 4)) 13 1)) w t) _
                refine zx.adv 2 (f' := (94, [(0, .ref 69), (1, .int (nI x1)), (2, .int (nI x3)), (3, .int 4)], [.int 1])) (h' := zH (zb u2 68 (upd (upd (upd (u2 68) 9 3) 10 (u2 68 4)) 13 1)) w t) rfl ?_
                refine zx.br (f1 := (97, [(0, .ref 69), (1, .int (nI x1)), (2, .int (nI x3)), (3, .int 4)], [])) (f2 := (109, [(0, .ref 69), (1, .int (nI x1)), (2, .int (nI x3)), (3, .int 4)], [])) rfl (fun c22 => absurd (of_decide_eq_true c22) (by decide)) (fun c22 => ?_)
                exact zx.rt rfl rfl ⟨(zb u2 68 (upd (upd (upd (u2 68) 9 3) 10 (u2 68 4)) 13 1)), rfl, ((zMk.refl.step g2).step zMg.wrong), by rw [show zp_inL tn ts tp tv k D Mn Gn Un l S = .inr (3, (tp (tn k))) by simp only [zp_inL, zp_kind, zbd, hz1, hz3, if_pos ((hL.li hx1).mpr c2), if_neg (fun z => (hL.bt hx3).mp z 1 (by decide) ((congrFun ((g2.1 74 (by decide) (by decide)).trans rfl) 11).symm.trans c16))]]; exact (zMx.wrong s2)⟩
              · have c16 : ¬ ((u2 74 11) = (nI (x3 + 1))) := of_decide_eq_false c16
                refine zx.adv 4 (f' := (46, [(0, .ref 69), (1, .int (nI x1)), (2, .int (nI x3)), (3, .int 2)], [.int 4, .int 2])) (h' := zH u2 w t) rfl ?_
                refine zx.br (f1 := (86, [(0, .ref 69), (1, .int (nI x1)), (2, .int (nI x3)), (3, .int 2)], [])) (f2 := (49, [(0, .ref 69), (1, .int (nI x1)), (2, .int (nI x3)), (3, .int 2)], [])) rfl (fun c23 => absurd (of_decide_eq_true c23) (by decide)) (fun c23 => ?_)
                refine zx.adv 2 (f' := (53, [(0, .ref 69), (1, .int (nI x1)), (2, .int (nI x3)), (3, .int 2)], [.int (u2 68 13)])) (h' := zH u2 w t) rfl ?_
                rw [show (u2 68 13) = 0 from s2.2.2]
                refine zx.br (f1 := (56, [(0, .ref 69), (1, .int (nI x1)), (2, .int (nI x3)), (3, .int 2)], [])) (f2 := (80, [(0, .ref 69), (1, .int (nI x1)), (2, .int (nI x3)), (3, .int 2)], [])) rfl (fun c24 => ?_) (fun c24 => absurd (by decide) (of_decide_eq_false c24))
                refine zx.adv 5 (f' := (64, [(0, .ref 69), (1, .int (nI x1)), (2, .int (nI x3)), (3, .int 2)], [.int 12, .ref 75])) (h' := zH u2 w t) rfl ?_
                refine zx.ob (f' := (65, [(0, .ref 69), (1, .int (nI x1)), (2, .int (nI x3)), (3, .int 2)], [.int (u2 74 (12 : Int32).toNatClampNeg)])) (h' := zH u2 w t) rfl rfl ?_
                show zx zk_mt zk_ex Ls xs zm_300 (65, [(0, .ref 69), (1, .int (nI x1)), (2, .int (nI x3)), (3, .int 2)], [.int (u2 74 12)]) (zH u2 w t) _
                refine zx.adv 3 (f' := (68, [(0, .ref 69), (1, .int (nI x1)), (2, .int (nI x3)), (3, .int 2)], [.int ((nI x3) + 1), .int (u2 74 12)])) (h' := zH u2 w t) rfl ?_
                rw [show (nI x3) + 1 = nI (x3 + 1) from nI_add x3 1]
                refine zx.br (f1 := (71, [(0, .ref 69), (1, .int (nI x1)), (2, .int (nI x3)), (3, .int 2)], [])) (f2 := (80, [(0, .ref 69), (1, .int (nI x1)), (2, .int (nI x3)), (3, .int 2)], [])) rfl (fun c25 => ?_) (fun c25 => ?_)
                · have c25 : (u2 74 12) = (nI (x3 + 1)) := of_decide_eq_true c25
                  refine zx.adv 4 (f' := (77, [(0, .ref 69), (1, .int (nI x1)), (2, .int (nI x3)), (3, .int 2)], [.int (u2 68 4), .int 3, .ref 69])) (h' := zH u2 w t) rfl ?_
                  refine zx.cl (v := none) (h' := zH (zb u2 68 (upd (upd (upd (u2 68) 9 3) 10 (u2 68 4)) 13 1)) w t) rfl (zs_mwrong_0 (v := u2) (w := w) s2.2.2 3 (u2 68 4)) ?_
                  show zx zk_mt zk_ex Ls xs zm_300 (80, [(0, .ref 69), (1, .int (nI x1)), (2, .int (nI x3)), (3, .int 2)], []) (zH (zb u2 68 (upd (upd (upd (u2 68) 9 3) 10 (u2 68 4)) 13 1)) w t) _
                  refine zx.adv 4 (f' := (46, [(0, .ref 69), (1, .int (nI x1)), (2, .int (nI x3)), (3, .int 3)], [.int 4, .int 3])) (h' := zH (zb u2 68 (upd (upd (upd (u2 68) 9 3) 10 (u2 68 4)) 13 1)) w t) rfl ?_
                  refine zx.br (f1 := (86, [(0, .ref 69), (1, .int (nI x1)), (2, .int (nI x3)), (3, .int 3)], [])) (f2 := (49, [(0, .ref 69), (1, .int (nI x1)), (2, .int (nI x3)), (3, .int 3)], [])) rfl (fun c26 => absurd (of_decide_eq_true c26) (by decide)) (fun c26 => ?_)
                  refine zx.adv 2 (f' := (53, [(0, .ref 69), (1, .int (nI x1)), (2, .int (nI x3)), (3, .int 3)], [.int 1])) (h' := zH (zb u2 68 (upd (upd (upd (u2 68) 9 3) 10 (u2 68 4)) 13 1)) w t) rfl ?_
                  refine zx.br (f1 := (56, [(0, .ref 69), (1, .int (nI x1)), (2, .int (nI x3)), (3, .int 3)], [])) (f2 := (80, [(0, .ref 69), (1, .int (nI x1)), (2, .int (nI x3)), (3, .int 3)], [])) rfl (fun c27 => absurd (of_decide_eq_true c27) (by decide)) (fun c27 => ?_)
                  refine zx.adv 4 (f' := (46, [(0, .ref 69), (1, .int (nI x1)), (2, .int (nI x3)), (3, .int 4)], [.int 4, .int 4])) (h' := zH (zb u2 68 (upd (upd (upd (u2 68) 9 3) 10 (u2 68 4)) 13 1)) w t) rfl ?_
                  refine zx.br (f1 := (86, [(0, .ref 69), (1, .int (nI x1)), (2, .int (nI x3)), (3, .int 4)], [])) (f2 := (49, [(0, .ref 69), (1, .int (nI x1)), (2, .int (nI x3)), (3, .int 4)], [])) rfl (fun c28 => ?_) (fun c28 => absurd (by decide) (of_decide_eq_false c28))
                  refine zx.adv 1 (f' := (87, [(0, .ref 69), (1, .int (nI x1)), (2, .int (nI x3)), (3, .int 4)], [.ref 69])) (h' := zH (zb u2 68 (upd (upd (upd (u2 68) 9 3) 10 (u2 68 4)) 13 1)) w t) rfl ?_
                  refine zx.cl (v := none) (h' := zH (zb u2 68 (upd (upd (upd (u2 68) 9 3) 10 (u2 68 4)) 13 1)) w t) rfl (zm_pass_x (u := (zb u2 68 (upd (upd (upd (u2 68) 9 3) 10 (u2 68 4)) 13 1))) rfl) ?_
                  show zx zk_mt zk_ex Ls xs zm_300 (90, [(0, .ref 69), (1, .int (nI x1)), (2, .int (nI x3)), (3, .int 4)], []) (zH (zb u2 68 (upd (upd (upd (u2 68) 9 3) 10 (u2 68 4)) 13 1)) w t) _
                  refine zx.adv 2 (f' := (94, [(0, .ref 69), (1, .int (nI x1)), (2, .int (nI x3)), (3, .int 4)], [.int 1])) (h' := zH (zb u2 68 (upd (upd (upd (u2 68) 9 3) 10 (u2 68 4)) 13 1)) w t) rfl ?_
                  refine zx.br (f1 := (97, [(0, .ref 69), (1, .int (nI x1)), (2, .int (nI x3)), (3, .int 4)], [])) (f2 := (109, [(0, .ref 69), (1, .int (nI x1)), (2, .int (nI x3)), (3, .int 4)], [])) rfl (fun c29 => absurd (of_decide_eq_true c29) (by decide)) (fun c29 => ?_)
                  exact zx.rt rfl rfl ⟨(zb u2 68 (upd (upd (upd (u2 68) 9 3) 10 (u2 68 4)) 13 1)), rfl, ((zMk.refl.step g2).step zMg.wrong), by rw [show zp_inL tn ts tp tv k D Mn Gn Un l S = .inr (3, (tp (tn k))) by simp only [zp_inL, zp_kind, zbd, hz1, hz3, if_pos ((hL.li hx1).mpr c2), if_neg (fun z => (hL.bt hx3).mp z 2 (by decide) ((congrFun ((g2.1 74 (by decide) (by decide)).trans rfl) 12).symm.trans c25))]]; exact (zMx.wrong s2)⟩
                · have c25 : ¬ ((u2 74 12) = (nI (x3 + 1))) := of_decide_eq_false c25
                  refine zx.adv 4 (f' := (46, [(0, .ref 69), (1, .int (nI x1)), (2, .int (nI x3)), (3, .int 3)], [.int 4, .int 3])) (h' := zH u2 w t) rfl ?_
                  refine zx.br (f1 := (86, [(0, .ref 69), (1, .int (nI x1)), (2, .int (nI x3)), (3, .int 3)], [])) (f2 := (49, [(0, .ref 69), (1, .int (nI x1)), (2, .int (nI x3)), (3, .int 3)], [])) rfl (fun c30 => absurd (of_decide_eq_true c30) (by decide)) (fun c30 => ?_)
                  refine zx.adv 2 (f' := (53, [(0, .ref 69), (1, .int (nI x1)), (2, .int (nI x3)), (3, .int 3)], [.int (u2 68 13)])) (h' := zH u2 w t) rfl ?_
                  rw [show (u2 68 13) = 0 from s2.2.2]
                  refine zx.br (f1 := (56, [(0, .ref 69), (1, .int (nI x1)), (2, .int (nI x3)), (3, .int 3)], [])) (f2 := (80, [(0, .ref 69), (1, .int (nI x1)), (2, .int (nI x3)), (3, .int 3)], [])) rfl (fun c31 => ?_) (fun c31 => absurd (by decide) (of_decide_eq_false c31))
                  refine zx.adv 5 (f' := (64, [(0, .ref 69), (1, .int (nI x1)), (2, .int (nI x3)), (3, .int 3)], [.int 13, .ref 75])) (h' := zH u2 w t) rfl ?_
                  refine zx.ob (f' := (65, [(0, .ref 69), (1, .int (nI x1)), (2, .int (nI x3)), (3, .int 3)], [.int (u2 74 (13 : Int32).toNatClampNeg)])) (h' := zH u2 w t) rfl rfl ?_
                  show zx zk_mt zk_ex Ls xs zm_300 (65, [(0, .ref 69), (1, .int (nI x1)), (2, .int (nI x3)), (3, .int 3)], [.int (u2 74 13)]) (zH u2 w t) _
                  refine zx.adv 3 (f' := (68, [(0, .ref 69), (1, .int (nI x1)), (2, .int (nI x3)), (3, .int 3)], [.int ((nI x3) + 1), .int (u2 74 13)])) (h' := zH u2 w t) rfl ?_
                  rw [show (nI x3) + 1 = nI (x3 + 1) from nI_add x3 1]
                  refine zx.br (f1 := (71, [(0, .ref 69), (1, .int (nI x1)), (2, .int (nI x3)), (3, .int 3)], [])) (f2 := (80, [(0, .ref 69), (1, .int (nI x1)), (2, .int (nI x3)), (3, .int 3)], [])) rfl (fun c32 => ?_) (fun c32 => ?_)
                  · have c32 : (u2 74 13) = (nI (x3 + 1)) := of_decide_eq_true c32
                    refine zx.adv 4 (f' := (77, [(0, .ref 69), (1, .int (nI x1)), (2, .int (nI x3)), (3, .int 3)], [.int (u2 68 4), .int 3, .ref 69])) (h' := zH u2 w t) rfl ?_
                    refine zx.cl (v := none) (h' := zH (zb u2 68 (upd (upd (upd (u2 68) 9 3) 10 (u2 68 4)) 13 1)) w t) rfl (zs_mwrong_0 (v := u2) (w := w) s2.2.2 3 (u2 68 4)) ?_
                    show zx zk_mt zk_ex Ls xs zm_300 (80, [(0, .ref 69), (1, .int (nI x1)), (2, .int (nI x3)), (3, .int 3)], []) (zH (zb u2 68 (upd (upd (upd (u2 68) 9 3) 10 (u2 68 4)) 13 1)) w t) _
                    refine zx.adv 4 (f' := (46, [(0, .ref 69), (1, .int (nI x1)), (2, .int (nI x3)), (3, .int 4)], [.int 4, .int 4])) (h' := zH (zb u2 68 (upd (upd (upd (u2 68) 9 3) 10 (u2 68 4)) 13 1)) w t) rfl ?_
                    refine zx.br (f1 := (86, [(0, .ref 69), (1, .int (nI x1)), (2, .int (nI x3)), (3, .int 4)], [])) (f2 := (49, [(0, .ref 69), (1, .int (nI x1)), (2, .int (nI x3)), (3, .int 4)], [])) rfl (fun c33 => ?_) (fun c33 => absurd (by decide) (of_decide_eq_false c33))
                    refine zx.adv 1 (f' := (87, [(0, .ref 69), (1, .int (nI x1)), (2, .int (nI x3)), (3, .int 4)], [.ref 69])) (h' := zH (zb u2 68 (upd (upd (upd (u2 68) 9 3) 10 (u2 68 4)) 13 1)) w t) rfl ?_
                    refine zx.cl (v := none) (h' := zH (zb u2 68 (upd (upd (upd (u2 68) 9 3) 10 (u2 68 4)) 13 1)) w t) rfl (zm_pass_x (u := (zb u2 68 (upd (upd (upd (u2 68) 9 3) 10 (u2 68 4)) 13 1))) rfl) ?_
                    show zx zk_mt zk_ex Ls xs zm_300 (90, [(0, .ref 69), (1, .int (nI x1)), (2, .int (nI x3)), (3, .int 4)], []) (zH (zb u2 68 (upd (upd (upd (u2 68) 9 3) 10 (u2 68 4)) 13 1)) w t) _
                    refine zx.adv 2 (f' := (94, [(0, .ref 69), (1, .int (nI x1)), (2, .int (nI x3)), (3, .int 4)], [.int 1])) (h' := zH (zb u2 68 (upd (upd (upd (u2 68) 9 3) 10 (u2 68 4)) 13 1)) w t) rfl ?_
                    refine zx.br (f1 := (97, [(0, .ref 69), (1, .int (nI x1)), (2, .int (nI x3)), (3, .int 4)], [])) (f2 := (109, [(0, .ref 69), (1, .int (nI x1)), (2, .int (nI x3)), (3, .int 4)], [])) rfl (fun c34 => absurd (of_decide_eq_true c34) (by decide)) (fun c34 => ?_)
                    exact zx.rt rfl rfl ⟨(zb u2 68 (upd (upd (upd (u2 68) 9 3) 10 (u2 68 4)) 13 1)), rfl, ((zMk.refl.step g2).step zMg.wrong), by rw [show zp_inL tn ts tp tv k D Mn Gn Un l S = .inr (3, (tp (tn k))) by simp only [zp_inL, zp_kind, zbd, hz1, hz3, if_pos ((hL.li hx1).mpr c2), if_neg (fun z => (hL.bt hx3).mp z 3 (by decide) ((congrFun ((g2.1 74 (by decide) (by decide)).trans rfl) 13).symm.trans c32))]]; exact (zMx.wrong s2)⟩
                  · have c32 : ¬ ((u2 74 13) = (nI (x3 + 1))) := of_decide_eq_false c32
                    refine zx.adv 4 (f' := (46, [(0, .ref 69), (1, .int (nI x1)), (2, .int (nI x3)), (3, .int 4)], [.int 4, .int 4])) (h' := zH u2 w t) rfl ?_
                    refine zx.br (f1 := (86, [(0, .ref 69), (1, .int (nI x1)), (2, .int (nI x3)), (3, .int 4)], [])) (f2 := (49, [(0, .ref 69), (1, .int (nI x1)), (2, .int (nI x3)), (3, .int 4)], [])) rfl (fun c35 => ?_) (fun c35 => absurd (by decide) (of_decide_eq_false c35))
                    refine zx.adv 1 (f' := (87, [(0, .ref 69), (1, .int (nI x1)), (2, .int (nI x3)), (3, .int 4)], [.ref 69])) (h' := zH u2 w t) rfl ?_
                    skip
                    · obtain ⟨u8, q8, g8, s8⟩ := zm_pass (w := w) (t := t) (u := u2) hM s2
                      refine zx.cl (v := none) (h' := zH u8 w t) rfl q8 ?_
                      show zx zk_mt zk_ex Ls xs zm_300 (90, [(0, .ref 69), (1, .int (nI x1)), (2, .int (nI x3)), (3, .int 4)], []) (zH u8 w t) _
                      refine zx.adv 2 (f' := (94, [(0, .ref 69), (1, .int (nI x1)), (2, .int (nI x3)), (3, .int 4)], [.int (u8 68 13)])) (h' := zH u8 w t) rfl ?_
                      rw [show (u8 68 13) = 0 from s8.2.2]
                      refine zx.br (f1 := (97, [(0, .ref 69), (1, .int (nI x1)), (2, .int (nI x3)), (3, .int 4)], [])) (f2 := (109, [(0, .ref 69), (1, .int (nI x1)), (2, .int (nI x3)), (3, .int 4)], [])) rfl (fun c36 => ?_) (fun c36 => absurd (by decide) (of_decide_eq_false c36))
                      refine zx.adv 5 (f' := (105, [(0, .ref 69), (1, .int (nI x1)), (2, .int (nI x3)), (3, .int 4)], [.int (10 + (nI x1)), .ref 75])) (h' := zH u8 w t) rfl ?_
                      rw [show 10 + (nI x1) = nI (10 + x1) from nI_add 10 x1]
                      refine zx.adv 3 (f' := (108, [(0, .ref 69), (1, .int (nI x1)), (2, .int (nI x3)), (3, .int 4)], [.int ((nI x3) + 1), .int (nI (10 + x1)), .ref 75])) (h' := zH u8 w t) rfl ?_
                      rw [show (nI x3) + 1 = nI (x3 + 1) from nI_add x3 1]
                      refine zx.ob (f' := (109, [(0, .ref 69), (1, .int (nI x1)), (2, .int (nI x3)), (3, .int 4)], [])) (h' := zH (zb u8 74 (upd (u8 74) (nI (10 + x1)).toNatClampNeg (nI (x3 + 1)))) w t) rfl (by first | exact zk_inN (by omega) (by decide) | decide) ?_
                      rw [nI_clamp (show (10 + x1) < 2 ^ 31 by omega)]
                      exact zx.rt rfl rfl ⟨(zb u8 74 (upd (u8 74) (10 + x1) (nI (x3 + 1)))), rfl, ((zMk.refl.step g2).step g8).b74, by rw [show zp_inL tn ts tp tv k D Mn Gn Un l S = .inl ((tn (tn k)), (D, Mn, Gn, Un, 1), (zb l 12 (upd (l 12) x1 (nI x3))), S) by simp only [zp_inL, zp_kind, zbd, hz1, hz3, if_pos ((hL.li hx1).mpr c2), if_pos ((hL.bt hx3).mpr (fun g hg => by rcases (show g = 0 ∨ g = 1 ∨ g = 2 ∨ g = 3 by omega) with rfl | rfl | rfl | rfl; exact fun z => c5 ((congrFun ((g2.1 74 (by decide) (by decide)).trans rfl) 10).trans z); exact fun z => c16 ((congrFun ((g2.1 74 (by decide) (by decide)).trans rfl) 11).trans z); exact fun z => c25 ((congrFun ((g2.1 74 (by decide) (by decide)).trans rfl) 12).trans z); exact fun z => c32 ((congrFun ((g2.1 74 (by decide) (by decide)).trans rfl) 13).trans z)))]]; exact ⟨s8, (show zRN S (u8 72) by rw [g8.1 72 (by decide) (by decide)]; exact (show zRN S (u2 72) by rw [g2.1 72 (by decide) (by decide)]; exact hN)), (zL_in hL rfl hx1 hx3 (fun g hg => (show ∀ g, g < 4 → u 74 (10 + g) ≠ nI (x3 + 1) from (fun g hg => by rcases (show g = 0 ∨ g = 1 ∨ g = 2 ∨ g = 3 by omega) with rfl | rfl | rfl | rfl; exact fun z => c5 ((congrFun ((g2.1 74 (by decide) (by decide)).trans rfl) 10).trans z); exact fun z => c16 ((congrFun ((g2.1 74 (by decide) (by decide)).trans rfl) 11).trans z); exact fun z => c25 ((congrFun ((g2.1 74 (by decide) (by decide)).trans rfl) 12).trans z); exact fun z => c32 ((congrFun ((g2.1 74 (by decide) (by decide)).trans rfl) 13).trans z))) g (by omega)) (zE.g (g8.1 72 (by decide) (by decide)) (zE.g (g2.1 72 (by decide) (by decide)) zE.refl)) (fun i h1 n0 => (pk_un n0).trans (congrFun ((g8.1 74 (by decide) (by decide)).trans ((g2.1 74 (by decide) (by decide)).trans rfl)) i)) pk_us)⟩⟩
          · obtain ⟨u3, q3, g3, r3⟩ := zm_makerHere (Ls := Ls) (xs := xs) (w := w) (t := t) (u := u2) s2 (show zRN S (u2 72) by rw [g2.1 72 (by decide) (by decide)]; exact hN)
            rw [hz3] at q3 r3
            have y3 : zMx f3 p3 u3 := r3
            refine zx.cl (v := some (.int 0)) (h' := zH u3 w t) rfl q3 ?_
            show zx zk_mt zk_ex Ls xs zm_300 (41, [(0, .ref 69), (1, .int (nI x1))], [.int 0]) (zH u3 w t) _
            refine zx.adv 5 (f' := (46, [(0, .ref 69), (1, .int (nI x1)), (2, .int 0), (3, .int 0)], [.int 4, .int 0])) (h' := zH u3 w t) rfl ?_
            refine zx.br (f1 := (86, [(0, .ref 69), (1, .int (nI x1)), (2, .int 0), (3, .int 0)], [])) (f2 := (49, [(0, .ref 69), (1, .int (nI x1)), (2, .int 0), (3, .int 0)], [])) rfl (fun c37 => absurd (of_decide_eq_true c37) (by decide)) (fun c37 => ?_)
            refine zx.adv 2 (f' := (53, [(0, .ref 69), (1, .int (nI x1)), (2, .int 0), (3, .int 0)], [.int (u3 68 13)])) (h' := zH u3 w t) rfl ?_
            rw [show (u3 68 13) = 1 from y3.1]
            refine zx.br (f1 := (56, [(0, .ref 69), (1, .int (nI x1)), (2, .int 0), (3, .int 0)], [])) (f2 := (80, [(0, .ref 69), (1, .int (nI x1)), (2, .int 0), (3, .int 0)], [])) rfl (fun c38 => absurd (of_decide_eq_true c38) (by decide)) (fun c38 => ?_)
            refine zx.adv 4 (f' := (46, [(0, .ref 69), (1, .int (nI x1)), (2, .int 0), (3, .int 1)], [.int 4, .int 1])) (h' := zH u3 w t) rfl ?_
            refine zx.br (f1 := (86, [(0, .ref 69), (1, .int (nI x1)), (2, .int 0), (3, .int 1)], [])) (f2 := (49, [(0, .ref 69), (1, .int (nI x1)), (2, .int 0), (3, .int 1)], [])) rfl (fun c39 => absurd (of_decide_eq_true c39) (by decide)) (fun c39 => ?_)
            refine zx.adv 2 (f' := (53, [(0, .ref 69), (1, .int (nI x1)), (2, .int 0), (3, .int 1)], [.int (u3 68 13)])) (h' := zH u3 w t) rfl ?_
            rw [show (u3 68 13) = 1 from y3.1]
            refine zx.br (f1 := (56, [(0, .ref 69), (1, .int (nI x1)), (2, .int 0), (3, .int 1)], [])) (f2 := (80, [(0, .ref 69), (1, .int (nI x1)), (2, .int 0), (3, .int 1)], [])) rfl (fun c40 => absurd (of_decide_eq_true c40) (by decide)) (fun c40 => ?_)
            refine zx.adv 4 (f' := (46, [(0, .ref 69), (1, .int (nI x1)), (2, .int 0), (3, .int 2)], [.int 4, .int 2])) (h' := zH u3 w t) rfl ?_
            refine zx.br (f1 := (86, [(0, .ref 69), (1, .int (nI x1)), (2, .int 0), (3, .int 2)], [])) (f2 := (49, [(0, .ref 69), (1, .int (nI x1)), (2, .int 0), (3, .int 2)], [])) rfl (fun c41 => absurd (of_decide_eq_true c41) (by decide)) (fun c41 => ?_)
            refine zx.adv 2 (f' := (53, [(0, .ref 69), (1, .int (nI x1)), (2, .int 0), (3, .int 2)], [.int (u3 68 13)])) (h' := zH u3 w t) rfl ?_
            rw [show (u3 68 13) = 1 from y3.1]
            refine zx.br (f1 := (56, [(0, .ref 69), (1, .int (nI x1)), (2, .int 0), (3, .int 2)], [])) (f2 := (80, [(0, .ref 69), (1, .int (nI x1)), (2, .int 0), (3, .int 2)], [])) rfl (fun c42 => absurd (of_decide_eq_true c42) (by decide)) (fun c42 => ?_)
            refine zx.adv 4 (f' := (46, [(0, .ref 69), (1, .int (nI x1)), (2, .int 0), (3, .int 3)], [.int 4, .int 3])) (h' := zH u3 w t) rfl ?_
            refine zx.br (f1 := (86, [(0, .ref 69), (1, .int (nI x1)), (2, .int 0), (3, .int 3)], [])) (f2 := (49, [(0, .ref 69), (1, .int (nI x1)), (2, .int 0), (3, .int 3)], [])) rfl (fun c43 => absurd (of_decide_eq_true c43) (by decide)) (fun c43 => ?_)
            refine zx.adv 2 (f' := (53, [(0, .ref 69), (1, .int (nI x1)), (2, .int 0), (3, .int 3)], [.int (u3 68 13)])) (h' := zH u3 w t) rfl ?_
            rw [show (u3 68 13) = 1 from y3.1]
            refine zx.br (f1 := (56, [(0, .ref 69), (1, .int (nI x1)), (2, .int 0), (3, .int 3)], [])) (f2 := (80, [(0, .ref 69), (1, .int (nI x1)), (2, .int 0), (3, .int 3)], [])) rfl (fun c44 => absurd (of_decide_eq_true c44) (by decide)) (fun c44 => ?_)
            refine zx.adv 4 (f' := (46, [(0, .ref 69), (1, .int (nI x1)), (2, .int 0), (3, .int 4)], [.int 4, .int 4])) (h' := zH u3 w t) rfl ?_
            refine zx.br (f1 := (86, [(0, .ref 69), (1, .int (nI x1)), (2, .int 0), (3, .int 4)], [])) (f2 := (49, [(0, .ref 69), (1, .int (nI x1)), (2, .int 0), (3, .int 4)], [])) rfl (fun c45 => ?_) (fun c45 => absurd (by decide) (of_decide_eq_false c45))
            refine zx.adv 1 (f' := (87, [(0, .ref 69), (1, .int (nI x1)), (2, .int 0), (3, .int 4)], [.ref 69])) (h' := zH u3 w t) rfl ?_
            refine zx.cl (v := none) (h' := zH u3 w t) rfl (zm_pass_x (u := u3) y3.1) ?_
            show zx zk_mt zk_ex Ls xs zm_300 (90, [(0, .ref 69), (1, .int (nI x1)), (2, .int 0), (3, .int 4)], []) (zH u3 w t) _
            refine zx.adv 2 (f' := (94, [(0, .ref 69), (1, .int (nI x1)), (2, .int 0), (3, .int 4)], [.int (u3 68 13)])) (h' := zH u3 w t) rfl ?_
            rw [show (u3 68 13) = 1 from y3.1]
            refine zx.br (f1 := (97, [(0, .ref 69), (1, .int (nI x1)), (2, .int 0), (3, .int 4)], [])) (f2 := (109, [(0, .ref 69), (1, .int (nI x1)), (2, .int 0), (3, .int 4)], [])) rfl (fun c46 => absurd (of_decide_eq_true c46) (by decide)) (fun c46 => ?_)
            exact zx.rt rfl rfl ⟨u3, rfl, ((zMk.refl.step g2).step g3), by rw [show zp_inL tn ts tp tv k D Mn Gn Un l S = .inr (f3, p3) by simp only [zp_inL, zp_kind, zbd, hz1, hz3, if_pos ((hL.li hx1).mpr c2)]]; exact y3⟩
      · have c2 : ¬ ((u 74 (10 + x1)) ≤ 0) := of_decide_eq_false c2
        refine zx.adv 4 (f' := (30, [(0, .ref 69), (1, .int (nI x1))], [.int (u 68 4), .int 3, .ref 69])) (h' := zH u w t) rfl ?_
        refine zx.cl (v := none) (h' := zH (zb u 68 (upd (upd (upd (u 68) 9 3) 10 (u 68 4)) 13 1)) w t) rfl (zs_mwrong_0 (v := u) (w := w) hs.2.2 3 (u 68 4)) ?_
        show zx zk_mt zk_ex Ls xs zm_300 (33, [(0, .ref 69), (1, .int (nI x1))], []) (zH (zb u 68 (upd (upd (upd (u 68) 9 3) 10 (u 68 4)) 13 1)) w t) _
        refine zx.adv 1 (f' := (34, [(0, .ref 69), (1, .int (nI x1))], [.ref 69])) (h' := zH (zb u 68 (upd (upd (upd (u 68) 9 3) 10 (u 68 4)) 13 1)) w t) rfl ?_
        refine zx.cl (v := none) (h' := zH (zb u 68 (upd (upd (upd (u 68) 9 3) 10 (u 68 4)) 13 1)) w t) rfl (zm_pass_x (u := (zb u 68 (upd (upd (upd (u 68) 9 3) 10 (u 68 4)) 13 1))) rfl) ?_
        show zx zk_mt zk_ex Ls xs zm_300 (37, [(0, .ref 69), (1, .int (nI x1))], []) (zH (zb u 68 (upd (upd (upd (u 68) 9 3) 10 (u 68 4)) 13 1)) w t) _
        refine zx.adv 1 (f' := (38, [(0, .ref 69), (1, .int (nI x1))], [.ref 69])) (h' := zH (zb u 68 (upd (upd (upd (u 68) 9 3) 10 (u 68 4)) 13 1)) w t) rfl ?_
        refine zx.cl (v := some (.int 0)) (h' := zH (zb u 68 (upd (upd (upd (u 68) 9 3) 10 (u 68 4)) 13 1)) w t) rfl (zm_makerHere_x (u := (zb u 68 (upd (upd (upd (u 68) 9 3) 10 (u 68 4)) 13 1))) rfl) ?_
        show zx zk_mt zk_ex Ls xs zm_300 (41, [(0, .ref 69), (1, .int (nI x1))], [.int 0]) (zH (zb u 68 (upd (upd (upd (u 68) 9 3) 10 (u 68 4)) 13 1)) w t) _
        refine zx.adv 5 (f' := (46, [(0, .ref 69), (1, .int (nI x1)), (2, .int 0), (3, .int 0)], [.int 4, .int 0])) (h' := zH (zb u 68 (upd (upd (upd (u 68) 9 3) 10 (u 68 4)) 13 1)) w t) rfl ?_
        refine zx.br (f1 := (86, [(0, .ref 69), (1, .int (nI x1)), (2, .int 0), (3, .int 0)], [])) (f2 := (49, [(0, .ref 69), (1, .int (nI x1)), (2, .int 0), (3, .int 0)], [])) rfl (fun c47 => absurd (of_decide_eq_true c47) (by decide)) (fun c47 => ?_)
        refine zx.adv 2 (f' := (53, [(0, .ref 69), (1, .int (nI x1)), (2, .int 0), (3, .int 0)], [.int 1])) (h' := zH (zb u 68 (upd (upd (upd (u 68) 9 3) 10 (u 68 4)) 13 1)) w t) rfl ?_
        refine zx.br (f1 := (56, [(0, .ref 69), (1, .int (nI x1)), (2, .int 0), (3, .int 0)], [])) (f2 := (80, [(0, .ref 69), (1, .int (nI x1)), (2, .int 0), (3, .int 0)], [])) rfl (fun c48 => absurd (of_decide_eq_true c48) (by decide)) (fun c48 => ?_)
        refine zx.adv 4 (f' := (46, [(0, .ref 69), (1, .int (nI x1)), (2, .int 0), (3, .int 1)], [.int 4, .int 1])) (h' := zH (zb u 68 (upd (upd (upd (u 68) 9 3) 10 (u 68 4)) 13 1)) w t) rfl ?_
        refine zx.br (f1 := (86, [(0, .ref 69), (1, .int (nI x1)), (2, .int 0), (3, .int 1)], [])) (f2 := (49, [(0, .ref 69), (1, .int (nI x1)), (2, .int 0), (3, .int 1)], [])) rfl (fun c49 => absurd (of_decide_eq_true c49) (by decide)) (fun c49 => ?_)
        refine zx.adv 2 (f' := (53, [(0, .ref 69), (1, .int (nI x1)), (2, .int 0), (3, .int 1)], [.int 1])) (h' := zH (zb u 68 (upd (upd (upd (u 68) 9 3) 10 (u 68 4)) 13 1)) w t) rfl ?_
        refine zx.br (f1 := (56, [(0, .ref 69), (1, .int (nI x1)), (2, .int 0), (3, .int 1)], [])) (f2 := (80, [(0, .ref 69), (1, .int (nI x1)), (2, .int 0), (3, .int 1)], [])) rfl (fun c50 => absurd (of_decide_eq_true c50) (by decide)) (fun c50 => ?_)
        refine zx.adv 4 (f' := (46, [(0, .ref 69), (1, .int (nI x1)), (2, .int 0), (3, .int 2)], [.int 4, .int 2])) (h' := zH (zb u 68 (upd (upd (upd (u 68) 9 3) 10 (u 68 4)) 13 1)) w t) rfl ?_
        refine zx.br (f1 := (86, [(0, .ref 69), (1, .int (nI x1)), (2, .int 0), (3, .int 2)], [])) (f2 := (49, [(0, .ref 69), (1, .int (nI x1)), (2, .int 0), (3, .int 2)], [])) rfl (fun c51 => absurd (of_decide_eq_true c51) (by decide)) (fun c51 => ?_)
        refine zx.adv 2 (f' := (53, [(0, .ref 69), (1, .int (nI x1)), (2, .int 0), (3, .int 2)], [.int 1])) (h' := zH (zb u 68 (upd (upd (upd (u 68) 9 3) 10 (u 68 4)) 13 1)) w t) rfl ?_
        refine zx.br (f1 := (56, [(0, .ref 69), (1, .int (nI x1)), (2, .int 0), (3, .int 2)], [])) (f2 := (80, [(0, .ref 69), (1, .int (nI x1)), (2, .int 0), (3, .int 2)], [])) rfl (fun c52 => absurd (of_decide_eq_true c52) (by decide)) (fun c52 => ?_)
        refine zx.adv 4 (f' := (46, [(0, .ref 69), (1, .int (nI x1)), (2, .int 0), (3, .int 3)], [.int 4, .int 3])) (h' := zH (zb u 68 (upd (upd (upd (u 68) 9 3) 10 (u 68 4)) 13 1)) w t) rfl ?_
        refine zx.br (f1 := (86, [(0, .ref 69), (1, .int (nI x1)), (2, .int 0), (3, .int 3)], [])) (f2 := (49, [(0, .ref 69), (1, .int (nI x1)), (2, .int 0), (3, .int 3)], [])) rfl (fun c53 => absurd (of_decide_eq_true c53) (by decide)) (fun c53 => ?_)
        refine zx.adv 2 (f' := (53, [(0, .ref 69), (1, .int (nI x1)), (2, .int 0), (3, .int 3)], [.int 1])) (h' := zH (zb u 68 (upd (upd (upd (u 68) 9 3) 10 (u 68 4)) 13 1)) w t) rfl ?_
        refine zx.br (f1 := (56, [(0, .ref 69), (1, .int (nI x1)), (2, .int 0), (3, .int 3)], [])) (f2 := (80, [(0, .ref 69), (1, .int (nI x1)), (2, .int 0), (3, .int 3)], [])) rfl (fun c54 => absurd (of_decide_eq_true c54) (by decide)) (fun c54 => ?_)
        refine zx.adv 4 (f' := (46, [(0, .ref 69), (1, .int (nI x1)), (2, .int 0), (3, .int 4)], [.int 4, .int 4])) (h' := zH (zb u 68 (upd (upd (upd (u 68) 9 3) 10 (u 68 4)) 13 1)) w t) rfl ?_
        refine zx.br (f1 := (86, [(0, .ref 69), (1, .int (nI x1)), (2, .int 0), (3, .int 4)], [])) (f2 := (49, [(0, .ref 69), (1, .int (nI x1)), (2, .int 0), (3, .int 4)], [])) rfl (fun c55 => ?_) (fun c55 => absurd (by decide) (of_decide_eq_false c55))
        refine zx.adv 1 (f' := (87, [(0, .ref 69), (1, .int (nI x1)), (2, .int 0), (3, .int 4)], [.ref 69])) (h' := zH (zb u 68 (upd (upd (upd (u 68) 9 3) 10 (u 68 4)) 13 1)) w t) rfl ?_
        refine zx.cl (v := none) (h' := zH (zb u 68 (upd (upd (upd (u 68) 9 3) 10 (u 68 4)) 13 1)) w t) rfl (zm_pass_x (u := (zb u 68 (upd (upd (upd (u 68) 9 3) 10 (u 68 4)) 13 1))) rfl) ?_
        show zx zk_mt zk_ex Ls xs zm_300 (90, [(0, .ref 69), (1, .int (nI x1)), (2, .int 0), (3, .int 4)], []) (zH (zb u 68 (upd (upd (upd (u 68) 9 3) 10 (u 68 4)) 13 1)) w t) _
        refine zx.adv 2 (f' := (94, [(0, .ref 69), (1, .int (nI x1)), (2, .int 0), (3, .int 4)], [.int 1])) (h' := zH (zb u 68 (upd (upd (upd (u 68) 9 3) 10 (u 68 4)) 13 1)) w t) rfl ?_
        refine zx.br (f1 := (97, [(0, .ref 69), (1, .int (nI x1)), (2, .int 0), (3, .int 4)], [])) (f2 := (109, [(0, .ref 69), (1, .int (nI x1)), (2, .int 0), (3, .int 4)], [])) rfl (fun c56 => absurd (of_decide_eq_true c56) (by decide)) (fun c56 => ?_)
        exact zx.rt rfl rfl ⟨(zb u 68 (upd (upd (upd (u 68) 9 3) 10 (u 68 4)) 13 1)), rfl, (zMk.refl.step zMg.wrong), by rw [show zp_inL tn ts tp tv k D Mn Gn Un l S = .inr (3, (tp k)) by simp only [zp_inL, zp_kind, zbd, hz1, if_neg (fun z => c2 ((hL.li hx1).mp z))]]; exact (zMx.wrong hs)⟩
    · obtain ⟨u1, q1, g1, r1⟩ := zm_goodHere (Ls := Ls) (xs := xs) (w := w) (t := t) (u := u) hs hN
      rw [hz1] at q1 r1
      have y1 : zMx f1 p1 u1 := r1
      refine zx.cl (v := some (.int 0)) (h' := zH u1 w t) rfl q1 ?_
      show zx zk_mt zk_ex Ls xs zm_300 (4, [(0, .ref 69)], [.int 0]) (zH u1 w t) _
      refine zx.adv 3 (f' := (9, [(0, .ref 69), (1, .int 0)], [.int (u1 68 13)])) (h' := zH u1 w t) rfl ?_
      rw [show (u1 68 13) = 1 from y1.1]
      refine zx.br (f1 := (12, [(0, .ref 69), (1, .int 0)], [])) (f2 := (33, [(0, .ref 69), (1, .int 0)], [])) rfl (fun c57 => absurd (of_decide_eq_true c57) (by decide)) (fun c57 => ?_)
      refine zx.adv 1 (f' := (34, [(0, .ref 69), (1, .int 0)], [.ref 69])) (h' := zH u1 w t) rfl ?_
      refine zx.cl (v := none) (h' := zH u1 w t) rfl (zm_pass_x (u := u1) y1.1) ?_
      show zx zk_mt zk_ex Ls xs zm_300 (37, [(0, .ref 69), (1, .int 0)], []) (zH u1 w t) _
      refine zx.adv 1 (f' := (38, [(0, .ref 69), (1, .int 0)], [.ref 69])) (h' := zH u1 w t) rfl ?_
      refine zx.cl (v := some (.int 0)) (h' := zH u1 w t) rfl (zm_makerHere_x (u := u1) y1.1) ?_
      show zx zk_mt zk_ex Ls xs zm_300 (41, [(0, .ref 69), (1, .int 0)], [.int 0]) (zH u1 w t) _
      refine zx.adv 5 (f' := (46, [(0, .ref 69), (1, .int 0), (2, .int 0), (3, .int 0)], [.int 4, .int 0])) (h' := zH u1 w t) rfl ?_
      refine zx.br (f1 := (86, [(0, .ref 69), (1, .int 0), (2, .int 0), (3, .int 0)], [])) (f2 := (49, [(0, .ref 69), (1, .int 0), (2, .int 0), (3, .int 0)], [])) rfl (fun c58 => absurd (of_decide_eq_true c58) (by decide)) (fun c58 => ?_)
      refine zx.adv 2 (f' := (53, [(0, .ref 69), (1, .int 0), (2, .int 0), (3, .int 0)], [.int (u1 68 13)])) (h' := zH u1 w t) rfl ?_
      rw [show (u1 68 13) = 1 from y1.1]
      refine zx.br (f1 := (56, [(0, .ref 69), (1, .int 0), (2, .int 0), (3, .int 0)], [])) (f2 := (80, [(0, .ref 69), (1, .int 0), (2, .int 0), (3, .int 0)], [])) rfl (fun c59 => absurd (of_decide_eq_true c59) (by decide)) (fun c59 => ?_)
      refine zx.adv 4 (f' := (46, [(0, .ref 69), (1, .int 0), (2, .int 0), (3, .int 1)], [.int 4, .int 1])) (h' := zH u1 w t) rfl ?_
      refine zx.br (f1 := (86, [(0, .ref 69), (1, .int 0), (2, .int 0), (3, .int 1)], [])) (f2 := (49, [(0, .ref 69), (1, .int 0), (2, .int 0), (3, .int 1)], [])) rfl (fun c60 => absurd (of_decide_eq_true c60) (by decide)) (fun c60 => ?_)
      refine zx.adv 2 (f' := (53, [(0, .ref 69), (1, .int 0), (2, .int 0), (3, .int 1)], [.int (u1 68 13)])) (h' := zH u1 w t) rfl ?_
      rw [show (u1 68 13) = 1 from y1.1]
      refine zx.br (f1 := (56, [(0, .ref 69), (1, .int 0), (2, .int 0), (3, .int 1)], [])) (f2 := (80, [(0, .ref 69), (1, .int 0), (2, .int 0), (3, .int 1)], [])) rfl (fun c61 => absurd (of_decide_eq_true c61) (by decide)) (fun c61 => ?_)
      refine zx.adv 4 (f' := (46, [(0, .ref 69), (1, .int 0), (2, .int 0), (3, .int 2)], [.int 4, .int 2])) (h' := zH u1 w t) rfl ?_
      refine zx.br (f1 := (86, [(0, .ref 69), (1, .int 0), (2, .int 0), (3, .int 2)], [])) (f2 := (49, [(0, .ref 69), (1, .int 0), (2, .int 0), (3, .int 2)], [])) rfl (fun c62 => absurd (of_decide_eq_true c62) (by decide)) (fun c62 => ?_)
      refine zx.adv 2 (f' := (53, [(0, .ref 69), (1, .int 0), (2, .int 0), (3, .int 2)], [.int (u1 68 13)])) (h' := zH u1 w t) rfl ?_
      rw [show (u1 68 13) = 1 from y1.1]
      refine zx.br (f1 := (56, [(0, .ref 69), (1, .int 0), (2, .int 0), (3, .int 2)], [])) (f2 := (80, [(0, .ref 69), (1, .int 0), (2, .int 0), (3, .int 2)], [])) rfl (fun c63 => absurd (of_decide_eq_true c63) (by decide)) (fun c63 => ?_)
      refine zx.adv 4 (f' := (46, [(0, .ref 69), (1, .int 0), (2, .int 0), (3, .int 3)], [.int 4, .int 3])) (h' := zH u1 w t) rfl ?_
      refine zx.br (f1 := (86, [(0, .ref 69), (1, .int 0), (2, .int 0), (3, .int 3)], [])) (f2 := (49, [(0, .ref 69), (1, .int 0), (2, .int 0), (3, .int 3)], [])) rfl (fun c64 => absurd (of_decide_eq_true c64) (by decide)) (fun c64 => ?_)
      refine zx.adv 2 (f' := (53, [(0, .ref 69), (1, .int 0), (2, .int 0), (3, .int 3)], [.int (u1 68 13)])) (h' := zH u1 w t) rfl ?_
      rw [show (u1 68 13) = 1 from y1.1]
      refine zx.br (f1 := (56, [(0, .ref 69), (1, .int 0), (2, .int 0), (3, .int 3)], [])) (f2 := (80, [(0, .ref 69), (1, .int 0), (2, .int 0), (3, .int 3)], [])) rfl (fun c65 => absurd (of_decide_eq_true c65) (by decide)) (fun c65 => ?_)
      refine zx.adv 4 (f' := (46, [(0, .ref 69), (1, .int 0), (2, .int 0), (3, .int 4)], [.int 4, .int 4])) (h' := zH u1 w t) rfl ?_
      refine zx.br (f1 := (86, [(0, .ref 69), (1, .int 0), (2, .int 0), (3, .int 4)], [])) (f2 := (49, [(0, .ref 69), (1, .int 0), (2, .int 0), (3, .int 4)], [])) rfl (fun c66 => ?_) (fun c66 => absurd (by decide) (of_decide_eq_false c66))
      refine zx.adv 1 (f' := (87, [(0, .ref 69), (1, .int 0), (2, .int 0), (3, .int 4)], [.ref 69])) (h' := zH u1 w t) rfl ?_
      refine zx.cl (v := none) (h' := zH u1 w t) rfl (zm_pass_x (u := u1) y1.1) ?_
      show zx zk_mt zk_ex Ls xs zm_300 (90, [(0, .ref 69), (1, .int 0), (2, .int 0), (3, .int 4)], []) (zH u1 w t) _
      refine zx.adv 2 (f' := (94, [(0, .ref 69), (1, .int 0), (2, .int 0), (3, .int 4)], [.int (u1 68 13)])) (h' := zH u1 w t) rfl ?_
      rw [show (u1 68 13) = 1 from y1.1]
      refine zx.br (f1 := (97, [(0, .ref 69), (1, .int 0), (2, .int 0), (3, .int 4)], [])) (f2 := (109, [(0, .ref 69), (1, .int 0), (2, .int 0), (3, .int 4)], [])) rfl (fun c67 => absurd (of_decide_eq_true c67) (by decide)) (fun c67 => ?_)
      exact zx.rt rfl rfl ⟨u1, rfl, (zMk.refl.step g1), by rw [show zp_inL tn ts tp tv k D Mn Gn Un l S = .inr (f1, p1) by simp only [zp_inL, zp_kind, zbd, hz1]]; exact y1⟩
  obtain ⟨q, h1, u', rfl, h2⟩ := main
  exact ⟨u', h1, h2⟩
theorem zn_ux {Un x y : Nat} {y1 : Int32} (hU : Un ≤ 4) (hf : u 68 13 = 1) (h4 : u 72 4 = nI Un) : ∀ (m j : Nat), j + m = Un → ∀ Q : Option Value × zk_H → Prop, zx zk_mt zk_ex Ls xs zm_302 (104, [(0, .ref 69), (1, .int y1), (2, .int (nI x)), (3, .int (nI y)), (4, .int (nI Un))], []) (zH u w t) Q → zx zk_mt zk_ex Ls xs zm_302 (37, [(0, .ref 69), (1, .int y1), (2, .int (nI x)), (3, .int (nI y)), (4, .int (nI j))], []) (zH u w t) Q := by
  intro m
  induction m with
  | zero =>
    intro j hj Q hq
    have hjU : j = Un := by omega
    subst hjU
    refine zx.adv 4 (f' := (44, [(0, .ref 69), (1, .int y1), (2, .int (nI x)), (3, .int (nI y)), (4, .int (nI j))], [.int 4, .ref 73, .int (nI j)])) (h' := zH u w t) rfl ?_
    refine zx.ob (f' := (45, [(0, .ref 69), (1, .int y1), (2, .int (nI x)), (3, .int (nI y)), (4, .int (nI j))], [.int (u 72 (4 : Int32).toNatClampNeg), .int (nI j)])) (h' := zH u w t) rfl rfl ?_
    show zx zk_mt zk_ex Ls xs zm_302 (45, [(0, .ref 69), (1, .int y1), (2, .int (nI x)), (3, .int (nI y)), (4, .int (nI j))], [.int (u 72 4), .int (nI j)]) (zH u w t) _
    rw [h4]
    refine zx.br (f1 := (104, [(0, .ref 69), (1, .int y1), (2, .int (nI x)), (3, .int (nI y)), (4, .int (nI j))], [])) (f2 := (48, [(0, .ref 69), (1, .int y1), (2, .int (nI x)), (3, .int (nI y)), (4, .int (nI j))], [])) rfl (fun c1 => ?_) (fun c1 => absurd (nI_le (by omega) (by omega)) (of_decide_eq_false c1))
    exact hq
  | succ m ih =>
    intro j hj Q hq
    refine zx.adv 4 (f' := (44, [(0, .ref 69), (1, .int y1), (2, .int (nI x)), (3, .int (nI y)), (4, .int (nI j))], [.int 4, .ref 73, .int (nI j)])) (h' := zH u w t) rfl ?_
    refine zx.ob (f' := (45, [(0, .ref 69), (1, .int y1), (2, .int (nI x)), (3, .int (nI y)), (4, .int (nI j))], [.int (u 72 (4 : Int32).toNatClampNeg), .int (nI j)])) (h' := zH u w t) rfl rfl ?_
    show zx zk_mt zk_ex Ls xs zm_302 (45, [(0, .ref 69), (1, .int y1), (2, .int (nI x)), (3, .int (nI y)), (4, .int (nI j))], [.int (u 72 4), .int (nI j)]) (zH u w t) _
    rw [h4]
    refine zx.br (f1 := (104, [(0, .ref 69), (1, .int y1), (2, .int (nI x)), (3, .int (nI y)), (4, .int (nI j))], [])) (f2 := (48, [(0, .ref 69), (1, .int y1), (2, .int (nI x)), (3, .int (nI y)), (4, .int (nI j))], [])) rfl (fun c1 => absurd (of_decide_eq_true c1) (nI_ge (by omega) (by omega))) (fun c1 => ?_)
    refine zx.adv 2 (f' := (52, [(0, .ref 69), (1, .int y1), (2, .int (nI x)), (3, .int (nI y)), (4, .int (nI j))], [.int (u 68 13)])) (h' := zH u w t) rfl ?_
    rw [show (u 68 13) = 1 from hf]
    refine zx.br (f1 := (55, [(0, .ref 69), (1, .int y1), (2, .int (nI x)), (3, .int (nI y)), (4, .int (nI j))], [])) (f2 := (98, [(0, .ref 69), (1, .int y1), (2, .int (nI x)), (3, .int (nI y)), (4, .int (nI j))], [])) rfl (fun c2 => absurd (of_decide_eq_true c2) (by decide)) (fun c2 => ?_)
    refine zx.adv 1 (f' := (101, [(0, .ref 69), (1, .int y1), (2, .int (nI x)), (3, .int (nI y)), (4, .int ((nI j) + 1))], [])) (h' := zH u w t) rfl ?_
    rw [show (nI j) + 1 = nI (j + 1) from nI_add j 1]
    refine zx.adv 1 (f' := (37, [(0, .ref 69), (1, .int y1), (2, .int (nI x)), (3, .int (nI y)), (4, .int (nI (j + 1)))], [])) (h' := zH u w t) rfl ?_
    exact ih (j + 1) (by omega) Q hq
theorem zn_uo {Un x y : Nat} {y1 : Int32} (hU : Un ≤ 4) (hf : u 68 13 = 0) (h4 : u 72 4 = nI Un) : ∀ (m j : Nat), j + m = Un → ∃ u', ((u' = u ∧ ∀ g, j ≤ g → g < Un → ¬ (u 72 (41 + 2 * g) = nI x ∧ u 72 (41 + 2 * g + 1) = nI y)) ∨ (u' = (zb u 68 (upd (upd (upd (u 68) 9 3) 10 (u 68 4)) 13 1)) ∧ ∃ g, g < Un ∧ u 72 (41 + 2 * g) = nI x ∧ u 72 (41 + 2 * g + 1) = nI y)) ∧ ∀ Q : Option Value × zk_H → Prop, zx zk_mt zk_ex Ls xs zm_302 (104, [(0, .ref 69), (1, .int y1), (2, .int (nI x)), (3, .int (nI y)), (4, .int (nI Un))], []) (zH u' w t) Q → zx zk_mt zk_ex Ls xs zm_302 (37, [(0, .ref 69), (1, .int y1), (2, .int (nI x)), (3, .int (nI y)), (4, .int (nI j))], []) (zH u w t) Q := by
  intro m
  induction m with
  | zero =>
    intro j hj
    refine ⟨u, Or.inl ⟨rfl, fun g h1 h2 => by omega⟩, fun Q hq => ?_⟩
    have hjU : j = Un := by omega
    subst hjU
    refine zx.adv 4 (f' := (44, [(0, .ref 69), (1, .int y1), (2, .int (nI x)), (3, .int (nI y)), (4, .int (nI j))], [.int 4, .ref 73, .int (nI j)])) (h' := zH u w t) rfl ?_
    refine zx.ob (f' := (45, [(0, .ref 69), (1, .int y1), (2, .int (nI x)), (3, .int (nI y)), (4, .int (nI j))], [.int (u 72 (4 : Int32).toNatClampNeg), .int (nI j)])) (h' := zH u w t) rfl rfl ?_
    show zx zk_mt zk_ex Ls xs zm_302 (45, [(0, .ref 69), (1, .int y1), (2, .int (nI x)), (3, .int (nI y)), (4, .int (nI j))], [.int (u 72 4), .int (nI j)]) (zH u w t) _
    rw [h4]
    refine zx.br (f1 := (104, [(0, .ref 69), (1, .int y1), (2, .int (nI x)), (3, .int (nI y)), (4, .int (nI j))], [])) (f2 := (48, [(0, .ref 69), (1, .int y1), (2, .int (nI x)), (3, .int (nI y)), (4, .int (nI j))], [])) rfl (fun c1 => ?_) (fun c1 => absurd (nI_le (by omega) (by omega)) (of_decide_eq_false c1))
    exact hq
  | succ m ih =>
    intro j hj
    by_cases c : u 72 (41 + (2 * j)) = nI x ∧ u 72 ((41 + (2 * j)) + 1) = nI y
    · refine ⟨_, Or.inr ⟨rfl, j, by omega, c⟩, fun Q hq => ?_⟩
      refine zx.adv 4 (f' := (44, [(0, .ref 69), (1, .int y1), (2, .int (nI x)), (3, .int (nI y)), (4, .int (nI j))], [.int 4, .ref 73, .int (nI j)])) (h' := zH u w t) rfl ?_
      refine zx.ob (f' := (45, [(0, .ref 69), (1, .int y1), (2, .int (nI x)), (3, .int (nI y)), (4, .int (nI j))], [.int (u 72 (4 : Int32).toNatClampNeg), .int (nI j)])) (h' := zH u w t) rfl rfl ?_
      show zx zk_mt zk_ex Ls xs zm_302 (45, [(0, .ref 69), (1, .int y1), (2, .int (nI x)), (3, .int (nI y)), (4, .int (nI j))], [.int (u 72 4), .int (nI j)]) (zH u w t) _
      rw [h4]
      refine zx.br (f1 := (104, [(0, .ref 69), (1, .int y1), (2, .int (nI x)), (3, .int (nI y)), (4, .int (nI j))], [])) (f2 := (48, [(0, .ref 69), (1, .int y1), (2, .int (nI x)), (3, .int (nI y)), (4, .int (nI j))], [])) rfl (fun c1 => absurd (of_decide_eq_true c1) (nI_ge (by omega) (by omega))) (fun c1 => ?_)
      refine zx.adv 2 (f' := (52, [(0, .ref 69), (1, .int y1), (2, .int (nI x)), (3, .int (nI y)), (4, .int (nI j))], [.int (u 68 13)])) (h' := zH u w t) rfl ?_
      rw [show (u 68 13) = 0 from hf]
      refine zx.br (f1 := (55, [(0, .ref 69), (1, .int y1), (2, .int (nI x)), (3, .int (nI y)), (4, .int (nI j))], [])) (f2 := (98, [(0, .ref 69), (1, .int y1), (2, .int (nI x)), (3, .int (nI y)), (4, .int (nI j))], [])) rfl (fun c2 => ?_) (fun c2 => absurd (by decide) (of_decide_eq_false c2))
      refine zx.adv 6 (f' := (65, [(0, .ref 69), (1, .int y1), (2, .int (nI x)), (3, .int (nI y)), (4, .int (nI j))], [.int (2 * (nI j)), .int 41, .ref 73])) (h' := zH u w t) rfl ?_
      rw [show 2 * (nI j) = nI (2 * j) from pk_mul 2 j]
      refine zx.adv 1 (f' := (66, [(0, .ref 69), (1, .int y1), (2, .int (nI x)), (3, .int (nI y)), (4, .int (nI j))], [.int (41 + (nI (2 * j))), .ref 73])) (h' := zH u w t) rfl ?_
      rw [show 41 + (nI (2 * j)) = nI (41 + (2 * j)) from nI_add 41 (2 * j)]
      refine zx.ob (f' := (67, [(0, .ref 69), (1, .int y1), (2, .int (nI x)), (3, .int (nI y)), (4, .int (nI j))], [.int (u 72 (nI (41 + (2 * j))).toNatClampNeg)])) (h' := zH u w t) rfl (by first | exact zk_inN (by omega) (by decide) | decide) ?_
      rw [nI_clamp (show (41 + (2 * j)) < 2 ^ 31 by omega)]
      refine zx.adv 1 (f' := (68, [(0, .ref 69), (1, .int y1), (2, .int (nI x)), (3, .int (nI y)), (4, .int (nI j))], [.int (nI x), .int (u 72 (41 + (2 * j)))])) (h' := zH u w t) rfl ?_
      refine zx.br (f1 := (71, [(0, .ref 69), (1, .int y1), (2, .int (nI x)), (3, .int (nI y)), (4, .int (nI j))], [])) (f2 := (98, [(0, .ref 69), (1, .int y1), (2, .int (nI x)), (3, .int (nI y)), (4, .int (nI j))], [])) rfl (fun c3 => ?_) (fun c3 => absurd c.1 (of_decide_eq_false c3))
      refine zx.adv 6 (f' := (81, [(0, .ref 69), (1, .int y1), (2, .int (nI x)), (3, .int (nI y)), (4, .int (nI j))], [.int (2 * (nI j)), .int 41, .ref 73])) (h' := zH u w t) rfl ?_
      rw [show 2 * (nI j) = nI (2 * j) from pk_mul 2 j]
      refine zx.adv 1 (f' := (82, [(0, .ref 69), (1, .int y1), (2, .int (nI x)), (3, .int (nI y)), (4, .int (nI j))], [.int (41 + (nI (2 * j))), .ref 73])) (h' := zH u w t) rfl ?_
      rw [show 41 + (nI (2 * j)) = nI (41 + (2 * j)) from nI_add 41 (2 * j)]
      refine zx.adv 2 (f' := (84, [(0, .ref 69), (1, .int y1), (2, .int (nI x)), (3, .int (nI y)), (4, .int (nI j))], [.int ((nI (41 + (2 * j))) + 1), .ref 73])) (h' := zH u w t) rfl ?_
      rw [show (nI (41 + (2 * j))) + 1 = nI ((41 + (2 * j)) + 1) from nI_add (41 + (2 * j)) 1]
      refine zx.ob (f' := (85, [(0, .ref 69), (1, .int y1), (2, .int (nI x)), (3, .int (nI y)), (4, .int (nI j))], [.int (u 72 (nI ((41 + (2 * j)) + 1)).toNatClampNeg)])) (h' := zH u w t) rfl (by first | exact zk_inN (by omega) (by decide) | decide) ?_
      rw [nI_clamp (show ((41 + (2 * j)) + 1) < 2 ^ 31 by omega)]
      refine zx.adv 1 (f' := (86, [(0, .ref 69), (1, .int y1), (2, .int (nI x)), (3, .int (nI y)), (4, .int (nI j))], [.int (nI y), .int (u 72 ((41 + (2 * j)) + 1))])) (h' := zH u w t) rfl ?_
      refine zx.br (f1 := (89, [(0, .ref 69), (1, .int y1), (2, .int (nI x)), (3, .int (nI y)), (4, .int (nI j))], [])) (f2 := (98, [(0, .ref 69), (1, .int y1), (2, .int (nI x)), (3, .int (nI y)), (4, .int (nI j))], [])) rfl (fun c4 => ?_) (fun c4 => absurd c.2 (of_decide_eq_false c4))
      refine zx.adv 4 (f' := (95, [(0, .ref 69), (1, .int y1), (2, .int (nI x)), (3, .int (nI y)), (4, .int (nI j))], [.int (u 68 4), .int 3, .ref 69])) (h' := zH u w t) rfl ?_
      refine zx.cl (v := none) (h' := zH (zb u 68 (upd (upd (upd (u 68) 9 3) 10 (u 68 4)) 13 1)) w t) rfl (zs_mwrong_0 (v := u) (w := w) hf 3 (u 68 4)) ?_
      show zx zk_mt zk_ex Ls xs zm_302 (98, [(0, .ref 69), (1, .int y1), (2, .int (nI x)), (3, .int (nI y)), (4, .int (nI j))], []) (zH (zb u 68 (upd (upd (upd (u 68) 9 3) 10 (u 68 4)) 13 1)) w t) _
      refine zx.adv 1 (f' := (101, [(0, .ref 69), (1, .int y1), (2, .int (nI x)), (3, .int (nI y)), (4, .int ((nI j) + 1))], [])) (h' := zH (zb u 68 (upd (upd (upd (u 68) 9 3) 10 (u 68 4)) 13 1)) w t) rfl ?_
      rw [show (nI j) + 1 = nI (j + 1) from nI_add j 1]
      refine zx.adv 1 (f' := (37, [(0, .ref 69), (1, .int y1), (2, .int (nI x)), (3, .int (nI y)), (4, .int (nI (j + 1)))], [])) (h' := zH (zb u 68 (upd (upd (upd (u 68) 9 3) 10 (u 68 4)) 13 1)) w t) rfl ?_
      exact zn_ux (u := (zb u 68 (upd (upd (upd (u 68) 9 3) 10 (u 68 4)) 13 1))) hU rfl h4 m (j + 1) (by omega) Q hq
    · obtain ⟨u', hr, hQ⟩ := ih (j + 1) (by omega)
      refine ⟨u', ?_, fun Q hq => ?_⟩
      · rcases hr with ⟨h1, h2⟩ | h1
        · refine Or.inl ⟨h1, fun g q1 q2 => ?_⟩
          by_cases hg : g = j
          · subst hg; exact c
          · exact h2 g (by omega) q2
        · exact Or.inr h1
      · by_cases ax : u 72 (41 + (2 * j)) = nI x
        · have ay : ¬ u 72 ((41 + (2 * j)) + 1) = nI y := fun z => c ⟨ax, z⟩
          refine zx.adv 4 (f' := (44, [(0, .ref 69), (1, .int y1), (2, .int (nI x)), (3, .int (nI y)), (4, .int (nI j))], [.int 4, .ref 73, .int (nI j)])) (h' := zH u w t) rfl ?_
          refine zx.ob (f' := (45, [(0, .ref 69), (1, .int y1), (2, .int (nI x)), (3, .int (nI y)), (4, .int (nI j))], [.int (u 72 (4 : Int32).toNatClampNeg), .int (nI j)])) (h' := zH u w t) rfl rfl ?_
          show zx zk_mt zk_ex Ls xs zm_302 (45, [(0, .ref 69), (1, .int y1), (2, .int (nI x)), (3, .int (nI y)), (4, .int (nI j))], [.int (u 72 4), .int (nI j)]) (zH u w t) _
          rw [h4]
          refine zx.br (f1 := (104, [(0, .ref 69), (1, .int y1), (2, .int (nI x)), (3, .int (nI y)), (4, .int (nI j))], [])) (f2 := (48, [(0, .ref 69), (1, .int y1), (2, .int (nI x)), (3, .int (nI y)), (4, .int (nI j))], [])) rfl (fun c1 => absurd (of_decide_eq_true c1) (nI_ge (by omega) (by omega))) (fun c1 => ?_)
          refine zx.adv 2 (f' := (52, [(0, .ref 69), (1, .int y1), (2, .int (nI x)), (3, .int (nI y)), (4, .int (nI j))], [.int (u 68 13)])) (h' := zH u w t) rfl ?_
          rw [show (u 68 13) = 0 from hf]
          refine zx.br (f1 := (55, [(0, .ref 69), (1, .int y1), (2, .int (nI x)), (3, .int (nI y)), (4, .int (nI j))], [])) (f2 := (98, [(0, .ref 69), (1, .int y1), (2, .int (nI x)), (3, .int (nI y)), (4, .int (nI j))], [])) rfl (fun c2 => ?_) (fun c2 => absurd (by decide) (of_decide_eq_false c2))
          refine zx.adv 6 (f' := (65, [(0, .ref 69), (1, .int y1), (2, .int (nI x)), (3, .int (nI y)), (4, .int (nI j))], [.int (2 * (nI j)), .int 41, .ref 73])) (h' := zH u w t) rfl ?_
          rw [show 2 * (nI j) = nI (2 * j) from pk_mul 2 j]
          refine zx.adv 1 (f' := (66, [(0, .ref 69), (1, .int y1), (2, .int (nI x)), (3, .int (nI y)), (4, .int (nI j))], [.int (41 + (nI (2 * j))), .ref 73])) (h' := zH u w t) rfl ?_
          rw [show 41 + (nI (2 * j)) = nI (41 + (2 * j)) from nI_add 41 (2 * j)]
          refine zx.ob (f' := (67, [(0, .ref 69), (1, .int y1), (2, .int (nI x)), (3, .int (nI y)), (4, .int (nI j))], [.int (u 72 (nI (41 + (2 * j))).toNatClampNeg)])) (h' := zH u w t) rfl (by first | exact zk_inN (by omega) (by decide) | decide) ?_
          rw [nI_clamp (show (41 + (2 * j)) < 2 ^ 31 by omega)]
          refine zx.adv 1 (f' := (68, [(0, .ref 69), (1, .int y1), (2, .int (nI x)), (3, .int (nI y)), (4, .int (nI j))], [.int (nI x), .int (u 72 (41 + (2 * j)))])) (h' := zH u w t) rfl ?_
          refine zx.br (f1 := (71, [(0, .ref 69), (1, .int y1), (2, .int (nI x)), (3, .int (nI y)), (4, .int (nI j))], [])) (f2 := (98, [(0, .ref 69), (1, .int y1), (2, .int (nI x)), (3, .int (nI y)), (4, .int (nI j))], [])) rfl (fun c3 => ?_) (fun c3 => absurd ax (of_decide_eq_false c3))
          refine zx.adv 6 (f' := (81, [(0, .ref 69), (1, .int y1), (2, .int (nI x)), (3, .int (nI y)), (4, .int (nI j))], [.int (2 * (nI j)), .int 41, .ref 73])) (h' := zH u w t) rfl ?_
          rw [show 2 * (nI j) = nI (2 * j) from pk_mul 2 j]
          refine zx.adv 1 (f' := (82, [(0, .ref 69), (1, .int y1), (2, .int (nI x)), (3, .int (nI y)), (4, .int (nI j))], [.int (41 + (nI (2 * j))), .ref 73])) (h' := zH u w t) rfl ?_
          rw [show 41 + (nI (2 * j)) = nI (41 + (2 * j)) from nI_add 41 (2 * j)]
          refine zx.adv 2 (f' := (84, [(0, .ref 69), (1, .int y1), (2, .int (nI x)), (3, .int (nI y)), (4, .int (nI j))], [.int ((nI (41 + (2 * j))) + 1), .ref 73])) (h' := zH u w t) rfl ?_
          rw [show (nI (41 + (2 * j))) + 1 = nI ((41 + (2 * j)) + 1) from nI_add (41 + (2 * j)) 1]
          refine zx.ob (f' := (85, [(0, .ref 69), (1, .int y1), (2, .int (nI x)), (3, .int (nI y)), (4, .int (nI j))], [.int (u 72 (nI ((41 + (2 * j)) + 1)).toNatClampNeg)])) (h' := zH u w t) rfl (by first | exact zk_inN (by omega) (by decide) | decide) ?_
          rw [nI_clamp (show ((41 + (2 * j)) + 1) < 2 ^ 31 by omega)]
          refine zx.adv 1 (f' := (86, [(0, .ref 69), (1, .int y1), (2, .int (nI x)), (3, .int (nI y)), (4, .int (nI j))], [.int (nI y), .int (u 72 ((41 + (2 * j)) + 1))])) (h' := zH u w t) rfl ?_
          refine zx.br (f1 := (89, [(0, .ref 69), (1, .int y1), (2, .int (nI x)), (3, .int (nI y)), (4, .int (nI j))], [])) (f2 := (98, [(0, .ref 69), (1, .int y1), (2, .int (nI x)), (3, .int (nI y)), (4, .int (nI j))], [])) rfl (fun c4 => absurd (of_decide_eq_true c4) ay) (fun c4 => ?_)
          refine zx.adv 1 (f' := (101, [(0, .ref 69), (1, .int y1), (2, .int (nI x)), (3, .int (nI y)), (4, .int ((nI j) + 1))], [])) (h' := zH u w t) rfl ?_
          rw [show (nI j) + 1 = nI (j + 1) from nI_add j 1]
          refine zx.adv 1 (f' := (37, [(0, .ref 69), (1, .int y1), (2, .int (nI x)), (3, .int (nI y)), (4, .int (nI (j + 1)))], [])) (h' := zH u w t) rfl ?_
          exact hQ Q hq
        ·
          refine zx.adv 4 (f' := (44, [(0, .ref 69), (1, .int y1), (2, .int (nI x)), (3, .int (nI y)), (4, .int (nI j))], [.int 4, .ref 73, .int (nI j)])) (h' := zH u w t) rfl ?_
          refine zx.ob (f' := (45, [(0, .ref 69), (1, .int y1), (2, .int (nI x)), (3, .int (nI y)), (4, .int (nI j))], [.int (u 72 (4 : Int32).toNatClampNeg), .int (nI j)])) (h' := zH u w t) rfl rfl ?_
          show zx zk_mt zk_ex Ls xs zm_302 (45, [(0, .ref 69), (1, .int y1), (2, .int (nI x)), (3, .int (nI y)), (4, .int (nI j))], [.int (u 72 4), .int (nI j)]) (zH u w t) _
          rw [h4]
          refine zx.br (f1 := (104, [(0, .ref 69), (1, .int y1), (2, .int (nI x)), (3, .int (nI y)), (4, .int (nI j))], [])) (f2 := (48, [(0, .ref 69), (1, .int y1), (2, .int (nI x)), (3, .int (nI y)), (4, .int (nI j))], [])) rfl (fun c1 => absurd (of_decide_eq_true c1) (nI_ge (by omega) (by omega))) (fun c1 => ?_)
          refine zx.adv 2 (f' := (52, [(0, .ref 69), (1, .int y1), (2, .int (nI x)), (3, .int (nI y)), (4, .int (nI j))], [.int (u 68 13)])) (h' := zH u w t) rfl ?_
          rw [show (u 68 13) = 0 from hf]
          refine zx.br (f1 := (55, [(0, .ref 69), (1, .int y1), (2, .int (nI x)), (3, .int (nI y)), (4, .int (nI j))], [])) (f2 := (98, [(0, .ref 69), (1, .int y1), (2, .int (nI x)), (3, .int (nI y)), (4, .int (nI j))], [])) rfl (fun c2 => ?_) (fun c2 => absurd (by decide) (of_decide_eq_false c2))
          refine zx.adv 6 (f' := (65, [(0, .ref 69), (1, .int y1), (2, .int (nI x)), (3, .int (nI y)), (4, .int (nI j))], [.int (2 * (nI j)), .int 41, .ref 73])) (h' := zH u w t) rfl ?_
          rw [show 2 * (nI j) = nI (2 * j) from pk_mul 2 j]
          refine zx.adv 1 (f' := (66, [(0, .ref 69), (1, .int y1), (2, .int (nI x)), (3, .int (nI y)), (4, .int (nI j))], [.int (41 + (nI (2 * j))), .ref 73])) (h' := zH u w t) rfl ?_
          rw [show 41 + (nI (2 * j)) = nI (41 + (2 * j)) from nI_add 41 (2 * j)]
          refine zx.ob (f' := (67, [(0, .ref 69), (1, .int y1), (2, .int (nI x)), (3, .int (nI y)), (4, .int (nI j))], [.int (u 72 (nI (41 + (2 * j))).toNatClampNeg)])) (h' := zH u w t) rfl (by first | exact zk_inN (by omega) (by decide) | decide) ?_
          rw [nI_clamp (show (41 + (2 * j)) < 2 ^ 31 by omega)]
          refine zx.adv 1 (f' := (68, [(0, .ref 69), (1, .int y1), (2, .int (nI x)), (3, .int (nI y)), (4, .int (nI j))], [.int (nI x), .int (u 72 (41 + (2 * j)))])) (h' := zH u w t) rfl ?_
          refine zx.br (f1 := (71, [(0, .ref 69), (1, .int y1), (2, .int (nI x)), (3, .int (nI y)), (4, .int (nI j))], [])) (f2 := (98, [(0, .ref 69), (1, .int y1), (2, .int (nI x)), (3, .int (nI y)), (4, .int (nI j))], [])) rfl (fun c3 => absurd (of_decide_eq_true c3) ax) (fun c3 => ?_)
          refine zx.adv 1 (f' := (101, [(0, .ref 69), (1, .int y1), (2, .int (nI x)), (3, .int (nI y)), (4, .int ((nI j) + 1))], [])) (h' := zH u w t) rfl ?_
          rw [show (nI j) + 1 = nI (j + 1) from nI_add j 1]
          refine zx.adv 1 (f' := (37, [(0, .ref 69), (1, .int y1), (2, .int (nI x)), (3, .int (nI y)), (4, .int (nI (j + 1)))], [])) (h' := zH u w t) rfl ?_
          exact hQ Q hq
theorem zm_unsureLine (hM : zk_MA Ls xs tn ts tp tv E B) (hT : zt_ok tn ts tv E) {k D Mn Gn Un : Nat} {l : Nat → Nat → Int32} {S : Nat → Int64} (hs : zMs tn ts tp tv E B k u) (hN : zRN S (u 72)) (hS : zSr D Mn Gn S) (hL : zL D Mn Gn Un 1 l (u 72) (u 74)) (hcap : Un < 4) : ∃ u', zk_Cr zk_mt zk_ex Ls xs 302 [.ref 69] (zH u w t) (none, zH u' w t) ∧ zML tn ts tp tv E B (zp_unsureL tn ts tp tv k D Mn Gn Un l S) u u' := by
  have main : ∃ q, zk_Cr zk_mt zk_ex Ls xs 302 [.ref 69] (zH u w t) q ∧ ∃ u', q = (none, zH u' w t) ∧ zML tn ts tp tv E B (zp_unsureL tn ts tp tv k D Mn Gn Un l S) u u' := by
    have hD8 : D ≤ 8 := hL.1.1.1
    have hM5' : Mn ≤ 5 := hL.1.1.2.1
    have hG4' : Gn ≤ 4 := hL.1.1.2.2.1
    have hU4' : Un ≤ 4 := hL.1.1.2.2.2
    have h721 : u 72 1 = nI D := hL.1.2.1.2.1
    have h722 : u 72 2 = nI Mn := hL.1.2.1.2.2.2.1
    have h723 : u 72 3 = nI Gn := hL.1.2.1.2.2.2.2.2.1
    have h724 : u 72 4 = nI Un := hL.1.2.1.2.2.2.2.2.2.2
    refine zx.of (K := zm_302) rfl rfl rfl ?_
    show zx zk_mt zk_ex Ls xs zm_302 (0, [(0, .ref 69)], []) (zH u w t) _
    refine zx.adv 2 (f' := (4, [(0, .ref 69)], [.int (u 68 13)])) (h' := zH u w t) rfl ?_
    rw [show (u 68 13) = 0 from hs.2.2]
    refine zx.br (f1 := (8, [(0, .ref 69)], [])) (f2 := (7, [(0, .ref 69)], [])) rfl (fun c1 => ?_) (fun c1 => absurd (by decide) (of_decide_eq_false c1))
    refine zx.adv 5 (f' := (16, [(0, .ref 69)], [.int 4, .ref 73, .int 2, .int 41])) (h' := zH u w t) rfl ?_
    refine zx.ob (f' := (17, [(0, .ref 69)], [.int (u 72 (4 : Int32).toNatClampNeg), .int 2, .int 41])) (h' := zH u w t) rfl rfl ?_
    show zx zk_mt zk_ex Ls xs zm_302 (17, [(0, .ref 69)], [.int (u 72 4), .int 2, .int 41]) (zH u w t) _
    rw [h724]
    refine zx.adv 1 (f' := (18, [(0, .ref 69)], [.int (2 * (nI Un)), .int 41])) (h' := zH u w t) rfl ?_
    rw [show 2 * (nI Un) = nI (2 * Un) from pk_mul 2 Un]
    refine zx.adv 1 (f' := (19, [(0, .ref 69)], [.int (41 + (nI (2 * Un)))])) (h' := zH u w t) rfl ?_
    rw [show 41 + (nI (2 * Un)) = nI (41 + (2 * Un)) from nI_add 41 (2 * Un)]
    refine zx.adv 2 (f' := (21, [(0, .ref 69), (1, .int (nI (41 + (2 * Un))))], [.ref 69])) (h' := zH u w t) rfl ?_
    rcases hz1 : zp_see tn ts tp tv 8 13 S k with x1 | ⟨f1, p1⟩
    · obtain ⟨u1, q1, g1, r1⟩ := zm_makerHere (Ls := Ls) (xs := xs) (w := w) (t := t) (u := u) hs hN
      rw [hz1] at q1 r1
      rw [show u1 = u from r1] at q1
      have hx1 : x1 < Mn := by have := zSr_see hS hT hs.1.1 hz1; omega
      refine zx.cl (v := some (.int (nI x1))) (h' := zH u w t) rfl q1 ?_
      show zx zk_mt zk_ex Ls xs zm_302 (24, [(0, .ref 69), (1, .int (nI (41 + (2 * Un))))], [.int (nI x1)]) (zH u w t) _
      refine zx.adv 2 (f' := (26, [(0, .ref 69), (1, .int (nI (41 + (2 * Un)))), (2, .int (nI x1))], [.ref 69])) (h' := zH u w t) rfl ?_
      skip
      · obtain ⟨u2, q2, g2, s2⟩ := zm_pass (w := w) (t := t) (u := u) hM hs
        refine zx.cl (v := none) (h' := zH u2 w t) rfl q2 ?_
        show zx zk_mt zk_ex Ls xs zm_302 (29, [(0, .ref 69), (1, .int (nI (41 + (2 * Un)))), (2, .int (nI x1))], []) (zH u2 w t) _
        refine zx.adv 1 (f' := (30, [(0, .ref 69), (1, .int (nI (41 + (2 * Un)))), (2, .int (nI x1))], [.ref 69])) (h' := zH u2 w t) rfl ?_
        rcases hz3 : zp_see tn ts tp tv 0 8 S (tn k) with x3 | ⟨f3, p3⟩
        · obtain ⟨u3, q3, g3, r3⟩ := zm_dangerHere (Ls := Ls) (xs := xs) (w := w) (t := t) (u := u2) s2 (show zRN S (u2 72) by rw [g2.1 72 (by decide) (by decide)]; exact hN)
          rw [hz3] at q3 r3
          rw [show u3 = u2 from r3] at q3
          have hx3 : x3 < D := by have := zSr_see hS hT s2.1.1 hz3; omega
          refine zx.cl (v := some (.int (nI x3))) (h' := zH u2 w t) rfl q3 ?_
          show zx zk_mt zk_ex Ls xs zm_302 (33, [(0, .ref 69), (1, .int (nI (41 + (2 * Un)))), (2, .int (nI x1))], [.int (nI x3)]) (zH u2 w t) _
          refine zx.adv 3 (f' := (37, [(0, .ref 69), (1, .int (nI (41 + (2 * Un)))), (2, .int (nI x1)), (3, .int (nI x3)), (4, .int 0)], [])) (h' := zH u2 w t) rfl ?_
          obtain ⟨uL, hr, hQ⟩ := zn_uo (w := w) (t := t) (Ls := Ls) (xs := xs) (u := u2) (x := x1) (y := x3) (y1 := nI (41 + (2 * Un))) hU4' s2.2.2 ((show zE (u2 72) (u 72) from (zE.g (g2.1 72 (by decide) (by decide)) zE.refl)) 4 (by decide) |>.trans h724) Un 0 (by omega)
          rcases hr with ⟨hr1, hr2⟩ | ⟨hr1, g0, hr2, hr3, hr4⟩
          · have hiu : zr_iu Un (l 14) (l 15) (nI x1) (nI x3) = 0 := hL.iu.mpr (fun g hg => by rw [← (show zE (u2 72) (u 72) from (zE.g (g2.1 72 (by decide) (by decide)) zE.refl)) (41 + 2 * g) (by omega), ← (show zE (u2 72) (u 72) from (zE.g (g2.1 72 (by decide) (by decide)) zE.refl)) (41 + 2 * g + 1) (by omega)]; exact hr2 g (by omega) hg)
            refine hQ _ ?_
            rw [hr1]
            show zx zk_mt zk_ex Ls xs zm_302 (104, [(0, .ref 69), (1, .int (nI (41 + (2 * Un)))), (2, .int (nI x1)), (3, .int (nI x3)), (4, .int (nI Un))], []) (zH u2 w t) _
            refine zx.adv 1 (f' := (105, [(0, .ref 69), (1, .int (nI (41 + (2 * Un)))), (2, .int (nI x1)), (3, .int (nI x3)), (4, .int (nI Un))], [.ref 69])) (h' := zH u2 w t) rfl ?_
            skip
            · obtain ⟨u4, q4, g4, s4⟩ := zm_pass (w := w) (t := t) (u := u2) hM s2
              refine zx.cl (v := none) (h' := zH u4 w t) rfl q4 ?_
              show zx zk_mt zk_ex Ls xs zm_302 (108, [(0, .ref 69), (1, .int (nI (41 + (2 * Un)))), (2, .int (nI x1)), (3, .int (nI x3)), (4, .int (nI Un))], []) (zH u4 w t) _
              refine zx.adv 2 (f' := (112, [(0, .ref 69), (1, .int (nI (41 + (2 * Un)))), (2, .int (nI x1)), (3, .int (nI x3)), (4, .int (nI Un))], [.int (u4 68 13)])) (h' := zH u4 w t) rfl ?_
              rw [show (u4 68 13) = 0 from s4.2.2]
              refine zx.br (f1 := (116, [(0, .ref 69), (1, .int (nI (41 + (2 * Un)))), (2, .int (nI x1)), (3, .int (nI x3)), (4, .int (nI Un))], [])) (f2 := (115, [(0, .ref 69), (1, .int (nI (41 + (2 * Un)))), (2, .int (nI x1)), (3, .int (nI x3)), (4, .int (nI Un))], [])) rfl (fun c2 => ?_) (fun c2 => absurd (by decide) (of_decide_eq_false c2))
              refine zx.adv 4 (f' := (122, [(0, .ref 69), (1, .int (nI (41 + (2 * Un)))), (2, .int (nI x1)), (3, .int (nI x3)), (4, .int (nI Un))], [.int (nI x1), .int (nI (41 + (2 * Un))), .ref 73])) (h' := zH u4 w t) rfl ?_
              refine zx.ob (f' := (123, [(0, .ref 69), (1, .int (nI (41 + (2 * Un)))), (2, .int (nI x1)), (3, .int (nI x3)), (4, .int (nI Un))], [])) (h' := zH (zb u4 72 (upd (u4 72) (nI (41 + (2 * Un))).toNatClampNeg (nI x1))) w t) rfl (by first | exact zk_inN (by omega) (by decide) | decide) ?_
              rw [nI_clamp (show (41 + (2 * Un)) < 2 ^ 31 by omega)]
              refine zx.adv 5 (f' := (130, [(0, .ref 69), (1, .int (nI (41 + (2 * Un)))), (2, .int (nI x1)), (3, .int (nI x3)), (4, .int (nI Un))], [.int ((nI (41 + (2 * Un))) + 1), .ref 73])) (h' := zH (zb u4 72 (upd (u4 72) (41 + (2 * Un)) (nI x1))) w t) rfl ?_
              rw [show (nI (41 + (2 * Un))) + 1 = nI ((41 + (2 * Un)) + 1) from nI_add (41 + (2 * Un)) 1]
              refine zx.adv 1 (f' := (131, [(0, .ref 69), (1, .int (nI (41 + (2 * Un)))), (2, .int (nI x1)), (3, .int (nI x3)), (4, .int (nI Un))], [.int (nI x3), .int (nI ((41 + (2 * Un)) + 1)), .ref 73])) (h' := zH (zb u4 72 (upd (u4 72) (41 + (2 * Un)) (nI x1))) w t) rfl ?_
              refine zx.ob (f' := (132, [(0, .ref 69), (1, .int (nI (41 + (2 * Un)))), (2, .int (nI x1)), (3, .int (nI x3)), (4, .int (nI Un))], [])) (h' := zH (zb u4 72 (upd (upd (u4 72) (41 + (2 * Un)) (nI x1)) (nI ((41 + (2 * Un)) + 1)).toNatClampNeg (nI x3))) w t) rfl (by first | exact zk_inN (by omega) (by decide) | decide) ?_
              rw [nI_clamp (show ((41 + (2 * Un)) + 1) < 2 ^ 31 by omega)]
              refine zx.adv 4 (f' := (138, [(0, .ref 69), (1, .int (nI (41 + (2 * Un)))), (2, .int (nI x1)), (3, .int (nI x3)), (4, .int (nI Un))], [.int 4, .ref 73, .int 4, .ref 73])) (h' := zH (zb u4 72 (upd (upd (u4 72) (41 + (2 * Un)) (nI x1)) ((41 + (2 * Un)) + 1) (nI x3))) w t) rfl ?_
              refine zx.ob (f' := (139, [(0, .ref 69), (1, .int (nI (41 + (2 * Un)))), (2, .int (nI x1)), (3, .int (nI x3)), (4, .int (nI Un))], [.int ((upd (upd (u4 72) (41 + (2 * Un)) (nI x1)) ((41 + (2 * Un)) + 1) (nI x3)) (4 : Int32).toNatClampNeg), .int 4, .ref 73])) (h' := zH (zb u4 72 (upd (upd (u4 72) (41 + (2 * Un)) (nI x1)) ((41 + (2 * Un)) + 1) (nI x3))) w t) rfl rfl ?_
              show zx zk_mt zk_ex Ls xs zm_302 (139, [(0, .ref 69), (1, .int (nI (41 + (2 * Un)))), (2, .int (nI x1)), (3, .int (nI x3)), (4, .int (nI Un))], [.int ((upd (upd (u4 72) (41 + (2 * Un)) (nI x1)) ((41 + (2 * Un)) + 1) (nI x3)) 4), .int 4, .ref 73]) (zH (zb u4 72 (upd (upd (u4 72) (41 + (2 * Un)) (nI x1)) ((41 + (2 * Un)) + 1) (nI x3))) w t) _
              rw [show (upd (upd (u4 72) (41 + (2 * Un)) (nI x1)) ((41 + (2 * Un)) + 1) (nI x3)) 4 = nI Un from (((zE.g (g4.1 72 (by decide) (by decide)) (zE.g (g2.1 72 (by decide) (by decide)) zE.refl)).u.u) 4 (by decide)).trans ((pk_un (show 4 ≠ ((41 + (2 * Un)) + 1) by omega)).trans ((pk_un (show 4 ≠ (41 + (2 * Un)) by omega)).trans h724))]
              refine zx.adv 2 (f' := (141, [(0, .ref 69), (1, .int (nI (41 + (2 * Un)))), (2, .int (nI x1)), (3, .int (nI x3)), (4, .int (nI Un))], [.int ((nI Un) + 1), .int 4, .ref 73])) (h' := zH (zb u4 72 (upd (upd (u4 72) (41 + (2 * Un)) (nI x1)) ((41 + (2 * Un)) + 1) (nI x3))) w t) rfl ?_
              rw [show (nI Un) + 1 = nI (Un + 1) from nI_add Un 1]
              refine zx.ob (f' := (142, [(0, .ref 69), (1, .int (nI (41 + (2 * Un)))), (2, .int (nI x1)), (3, .int (nI x3)), (4, .int (nI Un))], [])) (h' := zH (zb u4 72 (upd (upd (upd (u4 72) (41 + (2 * Un)) (nI x1)) ((41 + (2 * Un)) + 1) (nI x3)) (4 : Int32).toNatClampNeg (nI (Un + 1)))) w t) rfl rfl ?_
              show zx zk_mt zk_ex Ls xs zm_302 (142, [(0, .ref 69), (1, .int (nI (41 + (2 * Un)))), (2, .int (nI x1)), (3, .int (nI x3)), (4, .int (nI Un))], []) (zH (zb u4 72 (upd (upd (upd (u4 72) (41 + (2 * Un)) (nI x1)) ((41 + (2 * Un)) + 1) (nI x3)) 4 (nI (Un + 1)))) w t) _
              exact zx.rt rfl rfl ⟨(zb u4 72 (upd (upd (upd (u4 72) (41 + (2 * Un)) (nI x1)) ((41 + (2 * Un)) + 1) (nI x3)) 4 (nI (Un + 1)))), rfl, ((zMk.refl.step g2).step g4).b72, by rw [show zp_unsureL tn ts tp tv k D Mn Gn Un l S = .inl ((tn (tn k)), (D, Mn, Gn, Un + 1, 1), (zb (zb (zb l 4 (upd (l 4) 14 (nI (Un + 1)))) 14 (upd (l 14) Un (nI x1))) 15 (upd (l 15) Un (nI x3))), S) by simp only [zp_unsureL, zp_kind, zbd, hz1, hz3, if_pos hiu]]; exact ⟨s4, (zRN.u (by omega) (zRN.u (by omega) (zRN.u (by omega) (show zRN S (u4 72) by rw [g4.1 72 (by decide) (by decide)]; exact (show zRN S (u2 72) by rw [g2.1 72 (by decide) (by decide)]; exact hN))))), (by rw [show (zb u4 72 (upd (upd (upd (u4 72) (41 + (2 * Un)) (nI x1)) ((41 + (2 * Un)) + 1) (nI x3)) 4 (nI (Un + 1)))) 74 = u 74 from ((g4.1 74 (by decide) (by decide)).trans ((g2.1 74 (by decide) (by decide)).trans rfl))]; exact zL_unsure hcap hx1 hx3 hL rfl (fun i h1 n0 n1 n2 => ((show zE (upd (upd (upd (u4 72) (41 + (2 * Un)) (nI x1)) ((41 + (2 * Un)) + 1) (nI x3)) 4 (nI (Un + 1))) (upd (upd (upd (u 72) (41 + (2 * Un)) (nI x1)) ((41 + (2 * Un)) + 1) (nI x3)) 4 (nI (Un + 1))) from (zE.g (g4.1 72 (by decide) (by decide)) (zE.g (g2.1 72 (by decide) (by decide)) zE.refl)).u.u.u) i h1).trans ((pk_un n0).trans ((pk_un n2).trans (pk_un n1)))) (((show zE (upd (upd (upd (u4 72) (41 + (2 * Un)) (nI x1)) ((41 + (2 * Un)) + 1) (nI x3)) 4 (nI (Un + 1))) (upd (upd (upd (u 72) (41 + (2 * Un)) (nI x1)) ((41 + (2 * Un)) + 1) (nI x3)) 4 (nI (Un + 1))) from (zE.g (g4.1 72 (by decide) (by decide)) (zE.g (g2.1 72 (by decide) (by decide)) zE.refl)).u.u.u) (4) (by omega)).trans pk_us) (((show zE (upd (upd (upd (u4 72) (41 + (2 * Un)) (nI x1)) ((41 + (2 * Un)) + 1) (nI x3)) 4 (nI (Un + 1))) (upd (upd (upd (u 72) (41 + (2 * Un)) (nI x1)) ((41 + (2 * Un)) + 1) (nI x3)) 4 (nI (Un + 1))) from (zE.g (g4.1 72 (by decide) (by decide)) (zE.g (g2.1 72 (by decide) (by decide)) zE.refl)).u.u.u) (41 + 2 * Un) (by omega)).trans ((pk_un (show 41 + 2 * Un ≠ 4 by omega)).trans ((pk_un (show 41 + 2 * Un ≠ ((41 + (2 * Un)) + 1) by omega)).trans pk_us))) (((show zE (upd (upd (upd (u4 72) (41 + (2 * Un)) (nI x1)) ((41 + (2 * Un)) + 1) (nI x3)) 4 (nI (Un + 1))) (upd (upd (upd (u 72) (41 + (2 * Un)) (nI x1)) ((41 + (2 * Un)) + 1) (nI x3)) 4 (nI (Un + 1))) from (zE.g (g4.1 72 (by decide) (by decide)) (zE.g (g2.1 72 (by decide) (by decide)) zE.refl)).u.u.u) (41 + 2 * Un + 1) (by omega)).trans ((pk_un (show 41 + 2 * Un + 1 ≠ 4 by omega)).trans pk_us)))⟩⟩
          · have hiu : ¬ zr_iu Un (l 14) (l 15) (nI x1) (nI x3) = 0 := fun z => hL.iu.mp z g0 hr2 ⟨by rw [← (show zE (u2 72) (u 72) from (zE.g (g2.1 72 (by decide) (by decide)) zE.refl)) (41 + 2 * g0) (by omega)]; exact hr3, by rw [← (show zE (u2 72) (u 72) from (zE.g (g2.1 72 (by decide) (by decide)) zE.refl)) (41 + 2 * g0 + 1) (by omega)]; exact hr4⟩
            refine hQ _ ?_
            rw [hr1]
            show zx zk_mt zk_ex Ls xs zm_302 (104, [(0, .ref 69), (1, .int (nI (41 + (2 * Un)))), (2, .int (nI x1)), (3, .int (nI x3)), (4, .int (nI Un))], []) (zH (zb u2 68 (upd (upd (upd (u2 68) 9 3) 10 (u2 68 4)) 13 1)) w t) _
            refine zx.adv 1 (f' := (105, [(0, .ref 69), (1, .int (nI (41 + (2 * Un)))), (2, .int (nI x1)), (3, .int (nI x3)), (4, .int (nI Un))], [.ref 69])) (h' := zH (zb u2 68 (upd (upd (upd (u2 68) 9 3) 10 (u2 68 4)) 13 1)) w t) rfl ?_
            refine zx.cl (v := none) (h' := zH (zb u2 68 (upd (upd (upd (u2 68) 9 3) 10 (u2 68 4)) 13 1)) w t) rfl (zm_pass_x (u := (zb u2 68 (upd (upd (upd (u2 68) 9 3) 10 (u2 68 4)) 13 1))) rfl) ?_
            show zx zk_mt zk_ex Ls xs zm_302 (108, [(0, .ref 69), (1, .int (nI (41 + (2 * Un)))), (2, .int (nI x1)), (3, .int (nI x3)), (4, .int (nI Un))], []) (zH (zb u2 68 (upd (upd (upd (u2 68) 9 3) 10 (u2 68 4)) 13 1)) w t) _
            refine zx.adv 2 (f' := (112, [(0, .ref 69), (1, .int (nI (41 + (2 * Un)))), (2, .int (nI x1)), (3, .int (nI x3)), (4, .int (nI Un))], [.int 1])) (h' := zH (zb u2 68 (upd (upd (upd (u2 68) 9 3) 10 (u2 68 4)) 13 1)) w t) rfl ?_
            refine zx.br (f1 := (116, [(0, .ref 69), (1, .int (nI (41 + (2 * Un)))), (2, .int (nI x1)), (3, .int (nI x3)), (4, .int (nI Un))], [])) (f2 := (115, [(0, .ref 69), (1, .int (nI (41 + (2 * Un)))), (2, .int (nI x1)), (3, .int (nI x3)), (4, .int (nI Un))], [])) rfl (fun c3 => absurd (of_decide_eq_true c3) (by decide)) (fun c3 => ?_)
            exact zx.rt rfl rfl ⟨(zb u2 68 (upd (upd (upd (u2 68) 9 3) 10 (u2 68 4)) 13 1)), rfl, ((zMk.refl.step g2).step zMg.wrong), by rw [show zp_unsureL tn ts tp tv k D Mn Gn Un l S = .inr (3, (tp (tn k))) by simp only [zp_unsureL, zp_kind, zbd, hz1, hz3, if_neg hiu]]; exact (zMx.wrong s2)⟩
        · obtain ⟨u3, q3, g3, r3⟩ := zm_dangerHere (Ls := Ls) (xs := xs) (w := w) (t := t) (u := u2) s2 (show zRN S (u2 72) by rw [g2.1 72 (by decide) (by decide)]; exact hN)
          rw [hz3] at q3 r3
          have y3 : zMx f3 p3 u3 := r3
          refine zx.cl (v := some (.int 0)) (h' := zH u3 w t) rfl q3 ?_
          show zx zk_mt zk_ex Ls xs zm_302 (33, [(0, .ref 69), (1, .int (nI (41 + (2 * Un)))), (2, .int (nI x1))], [.int 0]) (zH u3 w t) _
          refine zx.adv 3 (f' := (37, [(0, .ref 69), (1, .int (nI (41 + (2 * Un)))), (2, .int (nI x1)), (3, .int 0), (4, .int 0)], [])) (h' := zH u3 w t) rfl ?_
          refine zn_ux (x := x1) (y := 0) hU4' y3.1 ((show zE (u3 72) (u 72) from (zE.g (g3.1 72 (by decide) (by decide)) (zE.g (g2.1 72 (by decide) (by decide)) zE.refl))) 4 (by decide) |>.trans h724) Un 0 (by omega) _ ?_
          refine zx.adv 1 (f' := (105, [(0, .ref 69), (1, .int (nI (41 + (2 * Un)))), (2, .int (nI x1)), (3, .int 0), (4, .int (nI Un))], [.ref 69])) (h' := zH u3 w t) rfl ?_
          refine zx.cl (v := none) (h' := zH u3 w t) rfl (zm_pass_x (u := u3) y3.1) ?_
          show zx zk_mt zk_ex Ls xs zm_302 (108, [(0, .ref 69), (1, .int (nI (41 + (2 * Un)))), (2, .int (nI x1)), (3, .int 0), (4, .int (nI Un))], []) (zH u3 w t) _
          refine zx.adv 2 (f' := (112, [(0, .ref 69), (1, .int (nI (41 + (2 * Un)))), (2, .int (nI x1)), (3, .int 0), (4, .int (nI Un))], [.int (u3 68 13)])) (h' := zH u3 w t) rfl ?_
          rw [show (u3 68 13) = 1 from y3.1]
          refine zx.br (f1 := (116, [(0, .ref 69), (1, .int (nI (41 + (2 * Un)))), (2, .int (nI x1)), (3, .int 0), (4, .int (nI Un))], [])) (f2 := (115, [(0, .ref 69), (1, .int (nI (41 + (2 * Un)))), (2, .int (nI x1)), (3, .int 0), (4, .int (nI Un))], [])) rfl (fun c4 => absurd (of_decide_eq_true c4) (by decide)) (fun c4 => ?_)
          exact zx.rt rfl rfl ⟨u3, rfl, ((zMk.refl.step g2).step g3), by rw [show zp_unsureL tn ts tp tv k D Mn Gn Un l S = .inr (f3, p3) by simp only [zp_unsureL, zp_kind, zbd, hz1, hz3]]; exact y3⟩
    · obtain ⟨u1, q1, g1, r1⟩ := zm_makerHere (Ls := Ls) (xs := xs) (w := w) (t := t) (u := u) hs hN
      rw [hz1] at q1 r1
      have y1 : zMx f1 p1 u1 := r1
      refine zx.cl (v := some (.int 0)) (h' := zH u1 w t) rfl q1 ?_
      show zx zk_mt zk_ex Ls xs zm_302 (24, [(0, .ref 69), (1, .int (nI (41 + (2 * Un))))], [.int 0]) (zH u1 w t) _
      refine zx.adv 2 (f' := (26, [(0, .ref 69), (1, .int (nI (41 + (2 * Un)))), (2, .int 0)], [.ref 69])) (h' := zH u1 w t) rfl ?_
      refine zx.cl (v := none) (h' := zH u1 w t) rfl (zm_pass_x (u := u1) y1.1) ?_
      show zx zk_mt zk_ex Ls xs zm_302 (29, [(0, .ref 69), (1, .int (nI (41 + (2 * Un)))), (2, .int 0)], []) (zH u1 w t) _
      refine zx.adv 1 (f' := (30, [(0, .ref 69), (1, .int (nI (41 + (2 * Un)))), (2, .int 0)], [.ref 69])) (h' := zH u1 w t) rfl ?_
      refine zx.cl (v := some (.int 0)) (h' := zH u1 w t) rfl (zm_dangerHere_x (u := u1) y1.1) ?_
      show zx zk_mt zk_ex Ls xs zm_302 (33, [(0, .ref 69), (1, .int (nI (41 + (2 * Un)))), (2, .int 0)], [.int 0]) (zH u1 w t) _
      refine zx.adv 3 (f' := (37, [(0, .ref 69), (1, .int (nI (41 + (2 * Un)))), (2, .int 0), (3, .int 0), (4, .int 0)], [])) (h' := zH u1 w t) rfl ?_
      refine zn_ux (x := 0) (y := 0) hU4' y1.1 ((show zE (u1 72) (u 72) from (zE.g (g1.1 72 (by decide) (by decide)) zE.refl)) 4 (by decide) |>.trans h724) Un 0 (by omega) _ ?_
      refine zx.adv 1 (f' := (105, [(0, .ref 69), (1, .int (nI (41 + (2 * Un)))), (2, .int 0), (3, .int 0), (4, .int (nI Un))], [.ref 69])) (h' := zH u1 w t) rfl ?_
      refine zx.cl (v := none) (h' := zH u1 w t) rfl (zm_pass_x (u := u1) y1.1) ?_
      show zx zk_mt zk_ex Ls xs zm_302 (108, [(0, .ref 69), (1, .int (nI (41 + (2 * Un)))), (2, .int 0), (3, .int 0), (4, .int (nI Un))], []) (zH u1 w t) _
      refine zx.adv 2 (f' := (112, [(0, .ref 69), (1, .int (nI (41 + (2 * Un)))), (2, .int 0), (3, .int 0), (4, .int (nI Un))], [.int (u1 68 13)])) (h' := zH u1 w t) rfl ?_
      rw [show (u1 68 13) = 1 from y1.1]
      refine zx.br (f1 := (116, [(0, .ref 69), (1, .int (nI (41 + (2 * Un)))), (2, .int 0), (3, .int 0), (4, .int (nI Un))], [])) (f2 := (115, [(0, .ref 69), (1, .int (nI (41 + (2 * Un)))), (2, .int 0), (3, .int 0), (4, .int (nI Un))], [])) rfl (fun c5 => absurd (of_decide_eq_true c5) (by decide)) (fun c5 => ?_)
      exact zx.rt rfl rfl ⟨u1, rfl, (zMk.refl.step g1), by rw [show zp_unsureL tn ts tp tv k D Mn Gn Un l S = .inr (f1, p1) by simp only [zp_unsureL, zp_kind, zbd, hz1]]; exact y1⟩
  obtain ⟨q, h1, u', rfl, h2⟩ := main
  exact ⟨u', h1, h2⟩
end Z64
