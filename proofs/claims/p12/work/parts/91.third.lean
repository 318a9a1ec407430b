/-! ===== the reference: a third lot, printed by a program ===== -/
section YThird
variable {G : zW}
theorem a_sharesBy {hp : xH} (W : yWW G) (d : Nat) (hT : zTy G hp) (p1 p2 : Int) (h1l : 0 ≤ p1) (h1u : p1 ≤ 15) (h2l : 0 ≤ p2) (h2u : p2 ≤ 15) (q11l : 1 ≤ ys hp 2073 11) (q11u : ys hp 2073 11 ≤ 2147483647) : yC (xcall 89 xfts xpools xms (d + 6)) 507 [yR 2073, yI (p1), yI (p2)] hp (yQj G [] [2083] hp 0 2147483646) := by
  have A_hp : yAx G [] [2083] hp hp := yAx.rf hT
  have H : ∀ m : Nat, (∀ a3 a5 gg11 : Int, ∀ hq, yAx G [] [2083] hp hq → ys hq 2073 11 = gg11 → 0 ≤ a3 → (-2147483646) ≤ 0 - a3 → 0 ≤ a5 → (-6) ≤ 0 - a5 → 1 ≤ gg11 → (-2147483647) ≤ 0 - gg11 → 0 ≤ p1 → (-15) ≤ 0 - p1 → 0 ≤ p2 → (-15) ≤ 0 - p2 → 0 - 27 * a5 + 188 < (m : Int) → yG 89 xfts (xcall 89 xfts xpools xms (d + 5)) (xpool xp_RX13) [] xt_X13_sharesBy (yP 2 (yQj G [] [2083] hp 0 2147483646)) (86 * m) 22 [(0, yR 2073), (1, yI (p1)), (2, yI (p2)), (3, yJ (a3)), (5, yI (a5))] [] hq) ∧ (∀ a3 a5 gg11 : Int, ∀ hq, yAx G [] [2083] hp hq → ys hq 2073 11 = gg11 → 0 ≤ a3 → (-2147483646) ≤ 0 - a3 → 0 ≤ a5 → (-12) ≤ 0 - a5 → 1 ≤ gg11 → (-2147483647) ≤ 0 - gg11 → 0 ≤ p1 → (-15) ≤ 0 - p1 → 0 ≤ p2 → (-15) ≤ 0 - p2 → 0 - 2 * a5 + 25 < (m : Int) → yG 89 xfts (xcall 89 xfts xpools xms (d + 5)) (xpool xp_RX13) [] xt_X13_sharesBy (yP 2 (yQj G [] [2083] hp 0 2147483646)) (86 * m) 87 [(0, yR 2073), (1, yI (p1)), (2, yI (p2)), (3, yJ (a3)), (5, yI (a5))] [] hq) := by
    intro m
    induction m with
    | zero =>
      refine ⟨?_, ?_⟩ <;> (intros; exfalso; omega)
    | succ m ih =>
      obtain ⟨i_22, i_87⟩ := ih
      refine ⟨?_, ?_⟩
      · intro a3 a5 gg11 hq A_hq E_11 f0 f1 f2 f3 f4 f5 f6 f7 f8 f9 hm
        refine yG.mono (N := 86 * m + 86) ?_ (by omega)
        refine yG.load xik rfl (fun _ _ => rfl) (v := yI (a5)) rfl rfl ?_
        refine yG.load xak rfl (fun _ _ => rfl) (v := yR 2073) rfl rfl ?_
        refine yG.getI A_hq.1 (w_machines W) rfl rfl (fun z1 e_z1 i_z1 l_z1 u_z1 => ?_)
        refine yG.icmp rfl (t := 84) rfl ⟨by omega, by omega⟩ ⟨by omega, by omega⟩ (fun c2 => ?_) (fun c2 => ?_)
        · have c2 : (a5 : Int) ≥ z1 := c2
          refine yG.num (c := 0) rfl (fun _ _ => rfl) (by decide) ?_
          refine yG.store1 xik (L' := [(5, yI (0)), (0, yR 2073), (1, yI (p1)), (2, yI (p2)), (3, yJ (a3))]) rfl (fun _ _ => rfl) rfl rfl ?_
          exact yG.mono (yG.sub (i_87 (a3) (0) (ys hq 2073 11) hq A_hq rfl (by omega) (by omega) (by omega) (by omega) (by omega) (by omega) (by omega) (by omega) (by omega) (by omega) (by omega)) (ySub.cons rfl (ySub.cons rfl (ySub.cons rfl (ySub.cons rfl (ySub.cons rfl (ySub.nil))))))) (by omega)
        · have c2 : (a5 : Int) < z1 := c2
          refine yG.load xak rfl (fun _ _ => rfl) (v := yR 2073) rfl rfl ?_
          refine yG.getR A_hq.1 (r_placeOf W) rfl rfl ?_
          refine yG.load xak rfl (fun _ _ => rfl) (v := yR 2073) rfl rfl ?_
          refine yG.getR A_hq.1 (r_node W) rfl rfl ?_
          refine yG.load xak rfl (fun _ _ => rfl) (v := yR 2073) rfl rfl ?_
          refine yG.num (c := 3) rfl (fun _ _ => rfl) (by decide) ?_
          refine yG.load xak rfl (fun _ _ => rfl) (v := yR 2073) rfl rfl ?_
          refine yG.getR A_hq.1 (r_machineAt W) rfl rfl ?_
          refine yG.load xik rfl (fun _ _ => rfl) (v := yI (a5)) rfl rfl ?_
          refine yG.iald A_hq.1 (v_machineAt W) rfl (by omega) (by omega) (fun z3 e_z3 i_z3 l_z3 u_z3 => ?_)
          refine yG.num (c := 10) rfl (fun _ _ => rfl) (by decide) ?_
          refine yG.invV (rest := [yR 2100, yR 2104]) A_hq.1 W.m.1 rfl rfl rfl rfl (a_of_3_10 W (d + 3) A_hq.1 (z3) (by omega) (by omega)) (fun rv hp9 q9 => ?_)
          obtain ⟨⟨z4, rfl, l_z4, u_z4⟩, e9⟩ := q9
          rw [e9]
          show yG _ _ _ _ _ _ _ _ _ _ (yI z4 :: [yR 2100, yR 2104]) _
          refine yG.iald A_hq.1 (v_node W) rfl (by omega) (by omega) (fun z5 e_z5 i_z5 l_z5 u_z5 => ?_)
          refine yG.iald A_hq.1 (v_placeOf W) rfl (by omega) (by omega) (fun z6 e_z6 i_z6 l_z6 u_z6 => ?_)
          refine yG.store1 xik (L' := [(6, yI (z6)), (0, yR 2073), (1, yI (p1)), (2, yI (p2)), (3, yJ (a3)), (5, yI (a5))]) rfl (fun _ _ => rfl) rfl rfl ?_
          refine yG.load xik rfl (fun _ _ => rfl) (v := yI (z6)) rfl rfl ?_
          refine yG.ifz rfl (t := 78) rfl ⟨by omega, by omega⟩ (fun c7 => ?_) (fun c7 => ?_)
          · have c7 : (z6 : Int) < 0 := c7
            refine yG.iinc rfl (a := a5) rfl (L' := [(5, yI (a5 + 1)), (6, yI (z6)), (0, yR 2073), (1, yI (p1)), (2, yI (p2)), (3, yJ (a3))]) rfl ?_
            refine yG.goto rfl (t := 22) rfl ?_
            exact yG.mono (yG.sub (i_22 (a3) (a5 + 1) (ys hq 2073 11) hq A_hq rfl (by omega) (by omega) (by omega) (by omega) (by omega) (by omega) (by omega) (by omega) (by omega) (by omega) (by omega)) (ySub.cons rfl (ySub.cons rfl (ySub.cons rfl (ySub.cons rfl (ySub.cons rfl (ySub.nil))))))) (by omega)
          · have c7 : (z6 : Int) ≥ 0 := c7
            refine yG.load xak rfl (fun _ _ => rfl) (v := yR 2073) rfl rfl ?_
            refine yG.getR A_hq.1 (r_matrix W) rfl rfl ?_
            refine yG.num (c := 48) rfl (fun _ _ => rfl) (by decide) ?_
            refine yG.load xik rfl (fun _ _ => rfl) (v := yI (z6)) rfl rfl ?_
            refine yG.imul rfl ?_
            refine yG.load xik rfl (fun _ _ => rfl) (v := yI (p2)) rfl rfl ?_
            refine yG.iadd rfl ?_
            refine yG.load xik rfl (fun _ _ => rfl) (v := yI (a5)) rfl rfl ?_
            refine yG.iadd rfl ?_
            refine yG.numl (c := 1) rfl (fun _ _ => rfl) (by decide) ?_
            refine yG.last A_hq.1 (v_matrix W) (by decide) rfl (by omega) (by omega) ⟨by omega, by omega⟩ (by omega) (by omega) (fun h8 T_h8 b_h8 f_h8 y_h8 => ?_)
            have A_h8 := A_hq.putA T_h8 b_h8 f_h8 (by decide)
            have g11_h8 : ys h8 2073 11 = ys hq 2073 11 := (y_h8 2073 11).trans (if_neg (by omega))
            have g102_h8 : ys h8 2073 102 = ys hq 2073 102 := (y_h8 2073 102).trans (if_neg (by omega))
            refine yG.iinc rfl (a := a5) rfl (L' := [(5, yI (a5 + 1)), (6, yI (z6)), (0, yR 2073), (1, yI (p1)), (2, yI (p2)), (3, yJ (a3))]) rfl ?_
            refine yG.goto rfl (t := 22) rfl ?_
            exact yG.mono (yG.sub (i_22 (a3) (a5 + 1) (ys h8 2073 11) h8 A_h8 rfl (by omega) (by omega) (by omega) (by omega) (by omega) (by omega) (by omega) (by omega) (by omega) (by omega) (by omega)) (ySub.cons rfl (ySub.cons rfl (ySub.cons rfl (ySub.cons rfl (ySub.cons rfl (ySub.nil))))))) (by omega)
      · intro a3 a5 gg11 hq A_hq E_11 f0 f1 f2 f3 f4 f5 f6 f7 f8 f9 hm
        refine yG.mono (N := 86 * m + 86) ?_ (by omega)
        refine yG.load xik rfl (fun _ _ => rfl) (v := yI (a5)) rfl rfl ?_
        refine yG.load xak rfl (fun _ _ => rfl) (v := yR 2073) rfl rfl ?_
        refine yG.getR A_hq.1 (r_count W) rfl rfl ?_
        refine yG.num (c := 4) rfl (fun _ _ => rfl) (by decide) ?_
        refine yG.ialdF A_hq.1 (p_count W) rfl rfl (by omega) (by omega) (fun z1 e_z1 i_z1 l_z1 u_z1 => ?_)
        refine yG.icmp rfl (t := 196) rfl ⟨by omega, by omega⟩ ⟨by omega, by omega⟩ (fun c2 => ?_) (fun c2 => ?_)
        · have c2 : (a5 : Int) ≥ z1 := c2
          refine yG.load xak rfl (fun _ _ => rfl) (v := yR 2073) rfl rfl ?_
          refine yG.getR A_hq.1 (r_island W) rfl rfl ?_
          refine yG.load xak rfl (fun _ _ => rfl) (v := yR 2073) rfl rfl ?_
          refine yG.getI A_hq.1 (w_moreAt W) rfl rfl (fun z3 e_z3 i_z3 l_z3 u_z3 => ?_)
          refine yG.iald A_hq.1 (v_island W) rfl (by omega) (by omega) (fun z4 e_z4 i_z4 l_z4 u_z4 => ?_)
          refine yG.load xik rfl (fun _ _ => rfl) (v := yI (p1)) rfl rfl ?_
          refine yG.icmp rfl (t := 241) rfl ⟨by omega, by omega⟩ ⟨by omega, by omega⟩ (fun c5 => ?_) (fun c5 => ?_)
          · have c5 : (z4 : Int) ≠ p1 := c5
            refine yG.numl (c := 0) rfl (fun _ _ => rfl) (by decide) ?_
            refine yG.store2 xlk2 (L' := [(5, yJ (0)), (0, yR 2073), (1, yI (p1)), (2, yI (p2)), (3, yJ (a3))]) rfl (fun _ _ => rfl) rfl rfl ?_
            refine yG.load xlk2 rfl (fun _ _ => rfl) (v := yJ (0)) rfl rfl ?_
            refine yG.numl (c := 0) rfl (fun _ _ => rfl) (by decide) ?_
            refine yG.lcmp rfl ⟨by omega, by omega⟩ ⟨by omega, by omega⟩ (fun z6 e_z6 => ?_)
            refine yG.ifz rfl (t := 308) rfl ⟨by omega, by omega⟩ (fun c7 => ?_) (fun c7 => ?_)
            · have c7 : (z6 : Int) ≤ 0 := c7
              refine yG.load xak rfl (fun _ _ => rfl) (v := yR 2073) rfl rfl ?_
              refine yG.load xik rfl (fun _ _ => rfl) (v := yI (p2)) rfl rfl ?_
              refine yG.load xik rfl (fun _ _ => rfl) (v := yI (p2)) rfl rfl ?_
              refine yG.load xak rfl (fun _ _ => rfl) (v := yR 2073) rfl rfl ?_
              refine yG.getI A_hq.1 (w_machines W) rfl rfl (fun z8 e_z8 i_z8 l_z8 u_z8 => ?_)
              refine yG.iadd rfl ?_
              refine yG.num (c := 1) rfl (fun _ _ => rfl) (by decide) ?_
              refine yG.iadd rfl ?_
              refine yG.invV (rest := []) A_hq.1 W.m.1 rfl rfl rfl rfl (a_solve W (d + 1) A_hq.1 (p2) ((p2 + z8) + 1) (by omega) (by omega) (by omega) (by omega) (by omega) (by omega)) (fun rv h10 q9 => ?_)
              obtain ⟨⟨z9, rfl, l_z9, u_z9⟩, B_h10⟩ := q9
              have A_h10 := A_hq.tr (B_h10.sub (by decide) (by decide))
              have g11_h10 : ys h10 2073 11 = ys hq 2073 11 := B_h10.ys (by decide) (by decide)
              have g112_h10 : ys h10 2073 112 = ys hq 2073 112 := B_h10.ys (by decide) (by decide)
              have g102_h10 : ys h10 2073 102 = ys hq 2073 102 := B_h10.ys (by decide) (by decide)
              show yG _ _ _ _ _ _ _ _ _ _ (yJ z9 :: []) _
              refine yG.load xlk2 rfl (fun _ _ => rfl) (v := yJ (a3)) rfl rfl ?_
              refine yG.lmul rfl ?_
              obtain ⟨z11, e_z11⟩ : ∃ z : Int, z = z9 * a3 := ⟨_, rfl⟩
              rw [← e_z11]
              have b_z11 : 0 ≤ z11 ∧ z11 ≤ 4611686009837453316 := e_z11 ▸ ymulb (A := 2147483646) (B := 2147483646) (by omega) (by omega) (by omega) (by omega) (by decide)
              refine yG.load xak rfl (fun _ _ => rfl) (v := yR 2073) rfl rfl ?_
              refine yG.getJ A_h10.1 (w_p W) rfl rfl (fun z12 e_z12 i_z12 l_z12 u_z12 => ?_)
              rw [show z12 = gg11 by omega]
              refine yG.lrem rfl ⟨by omega, by omega⟩ ⟨by omega, by omega⟩ (by omega) (by omega) ?_
              obtain ⟨z13, e_z13⟩ : ∃ z : Int, z = (z11) % (gg11) := ⟨_, rfl⟩
              rw [← e_z13]
              have b_z13 : 0 ≤ z13 ∧ z13 < gg11 := e_z13 ▸ ⟨Int.emod_nonneg _ (by omega), Int.emod_lt_of_pos _ (by omega)⟩
              refine yG.ret rfl (fun _ _ => rfl) ?_
              exact yP.long ⟨by omega, by omega⟩ ⟨⟨z13, rfl, by omega, by omega⟩, A_h10⟩
            · have c7 : (z6 : Int) > 0 := c7
              exfalso; omega
          · have c5 : (z4 : Int) = p1 := c5
            refine yG.load xak rfl (fun _ _ => rfl) (v := yR 2073) rfl rfl ?_
            refine yG.getI A_hq.1 (w_moreBy W) rfl rfl (fun z14 e_z14 i_z14 l_z14 u_z14 => ?_)
            refine yG.ifz rfl (t := 241) rfl ⟨by omega, by omega⟩ (fun c15 => ?_) (fun c15 => ?_)
            · have c15 : (z14 : Int) ≤ 0 := c15
              refine yG.numl (c := 0) rfl (fun _ _ => rfl) (by decide) ?_
              refine yG.store2 xlk2 (L' := [(5, yJ (0)), (0, yR 2073), (1, yI (p1)), (2, yI (p2)), (3, yJ (a3))]) rfl (fun _ _ => rfl) rfl rfl ?_
              refine yG.load xlk2 rfl (fun _ _ => rfl) (v := yJ (0)) rfl rfl ?_
              refine yG.numl (c := 0) rfl (fun _ _ => rfl) (by decide) ?_
              refine yG.lcmp rfl ⟨by omega, by omega⟩ ⟨by omega, by omega⟩ (fun z16 e_z16 => ?_)
              refine yG.ifz rfl (t := 308) rfl ⟨by omega, by omega⟩ (fun c17 => ?_) (fun c17 => ?_)
              · have c17 : (z16 : Int) ≤ 0 := c17
                refine yG.load xak rfl (fun _ _ => rfl) (v := yR 2073) rfl rfl ?_
                refine yG.load xik rfl (fun _ _ => rfl) (v := yI (p2)) rfl rfl ?_
                refine yG.load xik rfl (fun _ _ => rfl) (v := yI (p2)) rfl rfl ?_
                refine yG.load xak rfl (fun _ _ => rfl) (v := yR 2073) rfl rfl ?_
                refine yG.getI A_hq.1 (w_machines W) rfl rfl (fun z18 e_z18 i_z18 l_z18 u_z18 => ?_)
                refine yG.iadd rfl ?_
                refine yG.num (c := 1) rfl (fun _ _ => rfl) (by decide) ?_
                refine yG.iadd rfl ?_
                refine yG.invV (rest := []) A_hq.1 W.m.1 rfl rfl rfl rfl (a_solve W (d + 1) A_hq.1 (p2) ((p2 + z18) + 1) (by omega) (by omega) (by omega) (by omega) (by omega) (by omega)) (fun rv h20 q9 => ?_)
                obtain ⟨⟨z19, rfl, l_z19, u_z19⟩, B_h20⟩ := q9
                have A_h20 := A_hq.tr (B_h20.sub (by decide) (by decide))
                have g11_h20 : ys h20 2073 11 = ys hq 2073 11 := B_h20.ys (by decide) (by decide)
                have g112_h20 : ys h20 2073 112 = ys hq 2073 112 := B_h20.ys (by decide) (by decide)
                have g113_h20 : ys h20 2073 113 = ys hq 2073 113 := B_h20.ys (by decide) (by decide)
                have g102_h20 : ys h20 2073 102 = ys hq 2073 102 := B_h20.ys (by decide) (by decide)
                show yG _ _ _ _ _ _ _ _ _ _ (yJ z19 :: []) _
                refine yG.load xlk2 rfl (fun _ _ => rfl) (v := yJ (a3)) rfl rfl ?_
                refine yG.lmul rfl ?_
                obtain ⟨z21, e_z21⟩ : ∃ z : Int, z = z19 * a3 := ⟨_, rfl⟩
                rw [← e_z21]
                have b_z21 : 0 ≤ z21 ∧ z21 ≤ 4611686009837453316 := e_z21 ▸ ymulb (A := 2147483646) (B := 2147483646) (by omega) (by omega) (by omega) (by omega) (by decide)
                refine yG.load xak rfl (fun _ _ => rfl) (v := yR 2073) rfl rfl ?_
                refine yG.getJ A_h20.1 (w_p W) rfl rfl (fun z22 e_z22 i_z22 l_z22 u_z22 => ?_)
                rw [show z22 = gg11 by omega]
                refine yG.lrem rfl ⟨by omega, by omega⟩ ⟨by omega, by omega⟩ (by omega) (by omega) ?_
                obtain ⟨z23, e_z23⟩ : ∃ z : Int, z = (z21) % (gg11) := ⟨_, rfl⟩
                rw [← e_z23]
                have b_z23 : 0 ≤ z23 ∧ z23 < gg11 := e_z23 ▸ ⟨Int.emod_nonneg _ (by omega), Int.emod_lt_of_pos _ (by omega)⟩
                refine yG.ret rfl (fun _ _ => rfl) ?_
                exact yP.long ⟨by omega, by omega⟩ ⟨⟨z23, rfl, by omega, by omega⟩, A_h20⟩
              · have c17 : (z16 : Int) > 0 := c17
                exfalso; omega
            · have c15 : (z14 : Int) > 0 := c15
              refine yG.load xak rfl (fun _ _ => rfl) (v := yR 2073) rfl rfl ?_
              refine yG.getR A_hq.1 (r_placeOf W) rfl rfl ?_
              refine yG.load xak rfl (fun _ _ => rfl) (v := yR 2073) rfl rfl ?_
              refine yG.getR A_hq.1 (r_node W) rfl rfl ?_
              refine yG.load xak rfl (fun _ _ => rfl) (v := yR 2073) rfl rfl ?_
              refine yG.getI A_hq.1 (w_moreAt W) rfl rfl (fun z24 e_z24 i_z24 l_z24 u_z24 => ?_)
              rw [show z24 = z3 by omega]
              refine yG.iald A_hq.1 (v_node W) rfl (by omega) (by omega) (fun z25 e_z25 i_z25 l_z25 u_z25 => ?_)
              refine yG.iald A_hq.1 (v_placeOf W) rfl (by omega) (by omega) (fun z26 e_z26 i_z26 l_z26 u_z26 => ?_)
              refine yG.ifz rfl (t := 241) rfl ⟨by omega, by omega⟩ (fun c27 => ?_) (fun c27 => ?_)
              · have c27 : (z26 : Int) < 0 := c27
                refine yG.numl (c := 0) rfl (fun _ _ => rfl) (by decide) ?_
                refine yG.store2 xlk2 (L' := [(5, yJ (0)), (0, yR 2073), (1, yI (p1)), (2, yI (p2)), (3, yJ (a3))]) rfl (fun _ _ => rfl) rfl rfl ?_
                refine yG.load xlk2 rfl (fun _ _ => rfl) (v := yJ (0)) rfl rfl ?_
                refine yG.numl (c := 0) rfl (fun _ _ => rfl) (by decide) ?_
                refine yG.lcmp rfl ⟨by omega, by omega⟩ ⟨by omega, by omega⟩ (fun z28 e_z28 => ?_)
                refine yG.ifz rfl (t := 308) rfl ⟨by omega, by omega⟩ (fun c29 => ?_) (fun c29 => ?_)
                · have c29 : (z28 : Int) ≤ 0 := c29
                  refine yG.load xak rfl (fun _ _ => rfl) (v := yR 2073) rfl rfl ?_
                  refine yG.load xik rfl (fun _ _ => rfl) (v := yI (p2)) rfl rfl ?_
                  refine yG.load xik rfl (fun _ _ => rfl) (v := yI (p2)) rfl rfl ?_
                  refine yG.load xak rfl (fun _ _ => rfl) (v := yR 2073) rfl rfl ?_
                  refine yG.getI A_hq.1 (w_machines W) rfl rfl (fun z30 e_z30 i_z30 l_z30 u_z30 => ?_)
                  refine yG.iadd rfl ?_
                  refine yG.num (c := 1) rfl (fun _ _ => rfl) (by decide) ?_
                  refine yG.iadd rfl ?_
                  refine yG.invV (rest := []) A_hq.1 W.m.1 rfl rfl rfl rfl (a_solve W (d + 1) A_hq.1 (p2) ((p2 + z30) + 1) (by omega) (by omega) (by omega) (by omega) (by omega) (by omega)) (fun rv h32 q9 => ?_)
                  obtain ⟨⟨z31, rfl, l_z31, u_z31⟩, B_h32⟩ := q9
                  have A_h32 := A_hq.tr (B_h32.sub (by decide) (by decide))
                  have g11_h32 : ys h32 2073 11 = ys hq 2073 11 := B_h32.ys (by decide) (by decide)
                  have g112_h32 : ys h32 2073 112 = ys hq 2073 112 := B_h32.ys (by decide) (by decide)
                  have g113_h32 : ys h32 2073 113 = ys hq 2073 113 := B_h32.ys (by decide) (by decide)
                  have g102_h32 : ys h32 2073 102 = ys hq 2073 102 := B_h32.ys (by decide) (by decide)
                  show yG _ _ _ _ _ _ _ _ _ _ (yJ z31 :: []) _
                  refine yG.load xlk2 rfl (fun _ _ => rfl) (v := yJ (a3)) rfl rfl ?_
                  refine yG.lmul rfl ?_
                  obtain ⟨z33, e_z33⟩ : ∃ z : Int, z = z31 * a3 := ⟨_, rfl⟩
                  rw [← e_z33]
                  have b_z33 : 0 ≤ z33 ∧ z33 ≤ 4611686009837453316 := e_z33 ▸ ymulb (A := 2147483646) (B := 2147483646) (by omega) (by omega) (by omega) (by omega) (by decide)
                  refine yG.load xak rfl (fun _ _ => rfl) (v := yR 2073) rfl rfl ?_
                  refine yG.getJ A_h32.1 (w_p W) rfl rfl (fun z34 e_z34 i_z34 l_z34 u_z34 => ?_)
                  rw [show z34 = gg11 by omega]
                  refine yG.lrem rfl ⟨by omega, by omega⟩ ⟨by omega, by omega⟩ (by omega) (by omega) ?_
                  obtain ⟨z35, e_z35⟩ : ∃ z : Int, z = (z33) % (gg11) := ⟨_, rfl⟩
                  rw [← e_z35]
                  have b_z35 : 0 ≤ z35 ∧ z35 < gg11 := e_z35 ▸ ⟨Int.emod_nonneg _ (by omega), Int.emod_lt_of_pos _ (by omega)⟩
                  refine yG.ret rfl (fun _ _ => rfl) ?_
                  exact yP.long ⟨by omega, by omega⟩ ⟨⟨z35, rfl, by omega, by omega⟩, A_h32⟩
                · have c29 : (z28 : Int) > 0 := c29
                  exfalso; omega
              · have c27 : (z26 : Int) ≥ 0 := c27
                refine yG.load xak rfl (fun _ _ => rfl) (v := yR 2073) rfl rfl ?_
                refine yG.getI A_hq.1 (w_moreBy W) rfl rfl (fun z36 e_z36 i_z36 l_z36 u_z36 => ?_)
                rw [show z36 = z14 by omega]
                refine yG.i2l rfl ⟨by omega, by omega⟩ ?_
                refine yG.goto rfl (t := 242) rfl ?_
                refine yG.store2 xlk2 (L' := [(5, yJ (z14)), (0, yR 2073), (1, yI (p1)), (2, yI (p2)), (3, yJ (a3))]) rfl (fun _ _ => rfl) rfl rfl ?_
                refine yG.load xlk2 rfl (fun _ _ => rfl) (v := yJ (z14)) rfl rfl ?_
                refine yG.numl (c := 0) rfl (fun _ _ => rfl) (by decide) ?_
                refine yG.lcmp rfl ⟨by omega, by omega⟩ ⟨by omega, by omega⟩ (fun z37 e_z37 => ?_)
                refine yG.ifz rfl (t := 308) rfl ⟨by omega, by omega⟩ (fun c38 => ?_) (fun c38 => ?_)
                · have c38 : (z37 : Int) ≤ 0 := c38
                  exfalso; omega
                · have c38 : (z37 : Int) > 0 := c38
                  refine yG.load xak rfl (fun _ _ => rfl) (v := yR 2073) rfl rfl ?_
                  refine yG.getR A_hq.1 (r_placeOf W) rfl rfl ?_
                  refine yG.load xak rfl (fun _ _ => rfl) (v := yR 2073) rfl rfl ?_
                  refine yG.getR A_hq.1 (r_node W) rfl rfl ?_
                  refine yG.load xak rfl (fun _ _ => rfl) (v := yR 2073) rfl rfl ?_
                  refine yG.getI A_hq.1 (w_moreAt W) rfl rfl (fun z39 e_z39 i_z39 l_z39 u_z39 => ?_)
                  rw [show z39 = z3 by omega]
                  refine yG.iald A_hq.1 (v_node W) rfl (by omega) (by omega) (fun z40 e_z40 i_z40 l_z40 u_z40 => ?_)
                  rw [show z40 = z25 by omega]
                  refine yG.iald A_hq.1 (v_placeOf W) rfl (by omega) (by omega) (fun z41 e_z41 i_z41 l_z41 u_z41 => ?_)
                  rw [show z41 = z26 by omega]
                  refine yG.store1 xik (L' := [(7, yI (z26)), (5, yJ (z14)), (0, yR 2073), (1, yI (p1)), (2, yI (p2)), (3, yJ (a3))]) rfl (fun _ _ => rfl) rfl rfl ?_
                  refine yG.load xak rfl (fun _ _ => rfl) (v := yR 2073) rfl rfl ?_
                  refine yG.getR A_hq.1 (r_matrix W) rfl rfl ?_
                  refine yG.num (c := 48) rfl (fun _ _ => rfl) (by decide) ?_
                  refine yG.load xik rfl (fun _ _ => rfl) (v := yI (z26)) rfl rfl ?_
                  refine yG.imul rfl ?_
                  refine yG.load xik rfl (fun _ _ => rfl) (v := yI (p2)) rfl rfl ?_
                  refine yG.iadd rfl ?_
                  refine yG.load xak rfl (fun _ _ => rfl) (v := yR 2073) rfl rfl ?_
                  refine yG.getI A_hq.1 (w_machines W) rfl rfl (fun z42 e_z42 i_z42 l_z42 u_z42 => ?_)
                  refine yG.iadd rfl ?_
                  refine yG.load xak rfl (fun _ _ => rfl) (v := yR 2073) rfl rfl ?_
                  refine yG.load xak rfl (fun _ _ => rfl) (v := yR 2073) rfl rfl ?_
                  refine yG.getR A_hq.1 (r_matrix W) rfl rfl ?_
                  refine yG.num (c := 48) rfl (fun _ _ => rfl) (by decide) ?_
                  refine yG.load xik rfl (fun _ _ => rfl) (v := yI (z26)) rfl rfl ?_
                  refine yG.imul rfl ?_
                  refine yG.load xik rfl (fun _ _ => rfl) (v := yI (p2)) rfl rfl ?_
                  refine yG.iadd rfl ?_
                  refine yG.load xak rfl (fun _ _ => rfl) (v := yR 2073) rfl rfl ?_
                  refine yG.getI A_hq.1 (w_machines W) rfl rfl (fun z43 e_z43 i_z43 l_z43 u_z43 => ?_)
                  rw [show z43 = z42 by omega]
                  refine yG.iadd rfl ?_
                  refine yG.lald A_hq.1 (v_matrix W) rfl (by omega) (by omega) (fun z44 e_z44 i_z44 l_z44 u_z44 => ?_)
                  refine yG.load xlk2 rfl (fun _ _ => rfl) (v := yJ (z14)) rfl rfl ?_
                  refine yG.lsub rfl ?_
                  refine yG.invV (rest := [yI (((48 * z26) + p2) + z42), yR 2083]) A_hq.1 W.m.1 rfl rfl rfl rfl (a_mod W (d + 4) A_hq.1 (z44 - z14) (by omega) (by omega) (by omega) (by omega)) (fun rv hp9 q9 => ?_)
                  obtain ⟨⟨z45, rfl, l_z45, u_z45⟩, e9⟩ := q9
                  rw [e9]
                  show yG _ _ _ _ _ _ _ _ _ _ (yJ z45 :: [yI (((48 * z26) + p2) + z42), yR 2083]) _
                  refine yG.last A_hq.1 (v_matrix W) (by decide) rfl (by omega) (by omega) ⟨by omega, by omega⟩ (by omega) (by omega) (fun h46 T_h46 b_h46 f_h46 y_h46 => ?_)
                  have A_h46 := A_hq.putA T_h46 b_h46 f_h46 (by decide)
                  have g11_h46 : ys h46 2073 11 = ys hq 2073 11 := (y_h46 2073 11).trans (if_neg (by omega))
                  have g112_h46 : ys h46 2073 112 = ys hq 2073 112 := (y_h46 2073 112).trans (if_neg (by omega))
                  have g113_h46 : ys h46 2073 113 = ys hq 2073 113 := (y_h46 2073 113).trans (if_neg (by omega))
                  have g102_h46 : ys h46 2073 102 = ys hq 2073 102 := (y_h46 2073 102).trans (if_neg (by omega))
                  refine yG.load xak rfl (fun _ _ => rfl) (v := yR 2073) rfl rfl ?_
                  refine yG.load xik rfl (fun _ _ => rfl) (v := yI (p2)) rfl rfl ?_
                  refine yG.load xik rfl (fun _ _ => rfl) (v := yI (p2)) rfl rfl ?_
                  refine yG.load xak rfl (fun _ _ => rfl) (v := yR 2073) rfl rfl ?_
                  refine yG.getI A_h46.1 (w_machines W) rfl rfl (fun z47 e_z47 i_z47 l_z47 u_z47 => ?_)
                  rw [show z47 = z42 by omega]
                  refine yG.iadd rfl ?_
                  refine yG.num (c := 1) rfl (fun _ _ => rfl) (by decide) ?_
                  refine yG.iadd rfl ?_
                  refine yG.invV (rest := []) A_h46.1 W.m.1 rfl rfl rfl rfl (a_solve W (d + 1) A_h46.1 (p2) ((p2 + z42) + 1) (by omega) (by omega) (by omega) (by omega) (by omega) (by omega)) (fun rv h49 q9 => ?_)
                  obtain ⟨⟨z48, rfl, l_z48, u_z48⟩, B_h49⟩ := q9
                  have A_h49 := A_h46.tr (B_h49.sub (by decide) (by decide))
                  have g11_h49 : ys h49 2073 11 = ys h46 2073 11 := B_h49.ys (by decide) (by decide)
                  have g112_h49 : ys h49 2073 112 = ys h46 2073 112 := B_h49.ys (by decide) (by decide)
                  have g113_h49 : ys h49 2073 113 = ys h46 2073 113 := B_h49.ys (by decide) (by decide)
                  have g102_h49 : ys h49 2073 102 = ys h46 2073 102 := B_h49.ys (by decide) (by decide)
                  show yG _ _ _ _ _ _ _ _ _ _ (yJ z48 :: []) _
                  refine yG.load xlk2 rfl (fun _ _ => rfl) (v := yJ (a3)) rfl rfl ?_
                  refine yG.lmul rfl ?_
                  obtain ⟨z50, e_z50⟩ : ∃ z : Int, z = z48 * a3 := ⟨_, rfl⟩
                  rw [← e_z50]
                  have b_z50 : 0 ≤ z50 ∧ z50 ≤ 4611686009837453316 := e_z50 ▸ ymulb (A := 2147483646) (B := 2147483646) (by omega) (by omega) (by omega) (by omega) (by decide)
                  refine yG.load xak rfl (fun _ _ => rfl) (v := yR 2073) rfl rfl ?_
                  refine yG.getJ A_h49.1 (w_p W) rfl rfl (fun z51 e_z51 i_z51 l_z51 u_z51 => ?_)
                  rw [show z51 = gg11 by omega]
                  refine yG.lrem rfl ⟨by omega, by omega⟩ ⟨by omega, by omega⟩ (by omega) (by omega) ?_
                  obtain ⟨z52, e_z52⟩ : ∃ z : Int, z = (z50) % (gg11) := ⟨_, rfl⟩
                  rw [← e_z52]
                  have b_z52 : 0 ≤ z52 ∧ z52 < gg11 := e_z52 ▸ ⟨Int.emod_nonneg _ (by omega), Int.emod_lt_of_pos _ (by omega)⟩
                  refine yG.ret rfl (fun _ _ => rfl) ?_
                  exact yP.long ⟨by omega, by omega⟩ ⟨⟨z52, rfl, by omega, by omega⟩, A_h49⟩
        · have c2 : (a5 : Int) < z1 := c2
          refine yG.load xak rfl (fun _ _ => rfl) (v := yR 2073) rfl rfl ?_
          refine yG.num (c := 4) rfl (fun _ _ => rfl) (by decide) ?_
          refine yG.load xik rfl (fun _ _ => rfl) (v := yI (a5)) rfl rfl ?_
          refine yG.num (c := 1) rfl (fun _ _ => rfl) (by decide) ?_
          refine yG.invV (rest := []) A_hq.1 W.m.1 rfl rfl rfl rfl (a_of_4_1 W (d + 3) A_hq.1 (a5) (by omega) (by omega)) (fun rv hp9 q9 => ?_)
          obtain ⟨⟨z53, rfl, l_z53, u_z53⟩, e9⟩ := q9
          rw [e9]
          show yG _ _ _ _ _ _ _ _ _ _ (yI z53 :: []) _
          refine yG.store1 xik (L' := [(6, yI (z53)), (0, yR 2073), (1, yI (p1)), (2, yI (p2)), (3, yJ (a3)), (5, yI (a5))]) rfl (fun _ _ => rfl) rfl rfl ?_
          refine yG.load xak rfl (fun _ _ => rfl) (v := yR 2073) rfl rfl ?_
          refine yG.getR A_hq.1 (r_island W) rfl rfl ?_
          refine yG.load xik rfl (fun _ _ => rfl) (v := yI (z53)) rfl rfl ?_
          refine yG.iald A_hq.1 (v_island W) rfl (by omega) (by omega) (fun z54 e_z54 i_z54 l_z54 u_z54 => ?_)
          refine yG.load xik rfl (fun _ _ => rfl) (v := yI (p1)) rfl rfl ?_
          refine yG.icmp rfl (t := 134) rfl ⟨by omega, by omega⟩ ⟨by omega, by omega⟩ (fun c55 => ?_) (fun c55 => ?_)
          · have c55 : (z54 : Int) ≠ p1 := c55
            refine yG.num (c := -1) rfl (fun _ _ => rfl) (by decide) ?_
            refine yG.store1 xik (L' := [(7, yI ((-1))), (6, yI (z53)), (0, yR 2073), (1, yI (p1)), (2, yI (p2)), (3, yJ (a3)), (5, yI (a5))]) rfl (fun _ _ => rfl) rfl rfl ?_
            refine yG.load xik rfl (fun _ _ => rfl) (v := yI ((-1))) rfl rfl ?_
            refine yG.ifz rfl (t := 190) rfl ⟨by omega, by omega⟩ (fun c56 => ?_) (fun c56 => ?_)
            · have c56 : ((-1) : Int) < 0 := c56
              refine yG.iinc rfl (a := a5) rfl (L' := [(5, yI (a5 + 1)), (7, yI ((-1))), (6, yI (z53)), (0, yR 2073), (1, yI (p1)), (2, yI (p2)), (3, yJ (a3))]) rfl ?_
              refine yG.goto rfl (t := 87) rfl ?_
              exact yG.mono (yG.sub (i_87 (a3) (a5 + 1) (ys hq 2073 11) hq A_hq rfl (by omega) (by omega) (by omega) (by omega) (by omega) (by omega) (by omega) (by omega) (by omega) (by omega) (by omega)) (ySub.cons rfl (ySub.cons rfl (ySub.cons rfl (ySub.cons rfl (ySub.cons rfl (ySub.nil))))))) (by omega)
            · have c56 : ((-1) : Int) ≥ 0 := c56
              exfalso; omega
          · have c55 : (z54 : Int) = p1 := c55
            refine yG.load xak rfl (fun _ _ => rfl) (v := yR 2073) rfl rfl ?_
            refine yG.getR A_hq.1 (r_placeOf W) rfl rfl ?_
            refine yG.load xak rfl (fun _ _ => rfl) (v := yR 2073) rfl rfl ?_
            refine yG.getR A_hq.1 (r_node W) rfl rfl ?_
            refine yG.load xik rfl (fun _ _ => rfl) (v := yI (z53)) rfl rfl ?_
            refine yG.iald A_hq.1 (v_node W) rfl (by omega) (by omega) (fun z57 e_z57 i_z57 l_z57 u_z57 => ?_)
            refine yG.iald A_hq.1 (v_placeOf W) rfl (by omega) (by omega) (fun z58 e_z58 i_z58 l_z58 u_z58 => ?_)
            refine yG.goto rfl (t := 135) rfl ?_
            refine yG.store1 xik (L' := [(7, yI (z58)), (6, yI (z53)), (0, yR 2073), (1, yI (p1)), (2, yI (p2)), (3, yJ (a3)), (5, yI (a5))]) rfl (fun _ _ => rfl) rfl rfl ?_
            refine yG.load xik rfl (fun _ _ => rfl) (v := yI (z58)) rfl rfl ?_
            refine yG.ifz rfl (t := 190) rfl ⟨by omega, by omega⟩ (fun c59 => ?_) (fun c59 => ?_)
            · have c59 : (z58 : Int) < 0 := c59
              refine yG.iinc rfl (a := a5) rfl (L' := [(5, yI (a5 + 1)), (7, yI (z58)), (6, yI (z53)), (0, yR 2073), (1, yI (p1)), (2, yI (p2)), (3, yJ (a3))]) rfl ?_
              refine yG.goto rfl (t := 87) rfl ?_
              exact yG.mono (yG.sub (i_87 (a3) (a5 + 1) (ys hq 2073 11) hq A_hq rfl (by omega) (by omega) (by omega) (by omega) (by omega) (by omega) (by omega) (by omega) (by omega) (by omega) (by omega)) (ySub.cons rfl (ySub.cons rfl (ySub.cons rfl (ySub.cons rfl (ySub.cons rfl (ySub.nil))))))) (by omega)
            · have c59 : (z58 : Int) ≥ 0 := c59
              refine yG.load xak rfl (fun _ _ => rfl) (v := yR 2073) rfl rfl ?_
              refine yG.getR A_hq.1 (r_matrix W) rfl rfl ?_
              refine yG.num (c := 48) rfl (fun _ _ => rfl) (by decide) ?_
              refine yG.load xik rfl (fun _ _ => rfl) (v := yI (z58)) rfl rfl ?_
              refine yG.imul rfl ?_
              refine yG.load xik rfl (fun _ _ => rfl) (v := yI (p2)) rfl rfl ?_
              refine yG.iadd rfl ?_
              refine yG.load xak rfl (fun _ _ => rfl) (v := yR 2073) rfl rfl ?_
              refine yG.getI A_hq.1 (w_machines W) rfl rfl (fun z60 e_z60 i_z60 l_z60 u_z60 => ?_)
              refine yG.iadd rfl ?_
              refine yG.load xak rfl (fun _ _ => rfl) (v := yR 2073) rfl rfl ?_
              refine yG.load xak rfl (fun _ _ => rfl) (v := yR 2073) rfl rfl ?_
              refine yG.getR A_hq.1 (r_matrix W) rfl rfl ?_
              refine yG.num (c := 48) rfl (fun _ _ => rfl) (by decide) ?_
              refine yG.load xik rfl (fun _ _ => rfl) (v := yI (z58)) rfl rfl ?_
              refine yG.imul rfl ?_
              refine yG.load xik rfl (fun _ _ => rfl) (v := yI (p2)) rfl rfl ?_
              refine yG.iadd rfl ?_
              refine yG.load xak rfl (fun _ _ => rfl) (v := yR 2073) rfl rfl ?_
              refine yG.getI A_hq.1 (w_machines W) rfl rfl (fun z61 e_z61 i_z61 l_z61 u_z61 => ?_)
              rw [show z61 = z60 by omega]
              refine yG.iadd rfl ?_
              refine yG.lald A_hq.1 (v_matrix W) rfl (by omega) (by omega) (fun z62 e_z62 i_z62 l_z62 u_z62 => ?_)
              refine yG.load xak rfl (fun _ _ => rfl) (v := yR 2073) rfl rfl ?_
              refine yG.num (c := 4) rfl (fun _ _ => rfl) (by decide) ?_
              refine yG.load xik rfl (fun _ _ => rfl) (v := yI (a5)) rfl rfl ?_
              refine yG.num (c := 0) rfl (fun _ _ => rfl) (by decide) ?_
              refine yG.invV (rest := [yJ (z62), yR 2073, yI (((48 * z58) + p2) + z60), yR 2083]) A_hq.1 W.m.1 rfl rfl rfl rfl (a_of_4_0 W (d + 3) A_hq.1 (a5) (by omega) (by omega)) (fun rv hp9 q9 => ?_)
              obtain ⟨⟨z63, rfl, l_z63, u_z63⟩, e9⟩ := q9
              rw [e9]
              show yG _ _ _ _ _ _ _ _ _ _ (yI z63 :: [yJ (z62), yR 2073, yI (((48 * z58) + p2) + z60), yR 2083]) _
              refine yG.i2l rfl ⟨by omega, by omega⟩ ?_
              refine yG.lsub rfl ?_
              refine yG.invV (rest := [yI (((48 * z58) + p2) + z60), yR 2083]) A_hq.1 W.m.1 rfl rfl rfl rfl (a_mod W (d + 4) A_hq.1 (z62 - z63) (by omega) (by omega) (by omega) (by omega)) (fun rv hp9 q9 => ?_)
              obtain ⟨⟨z64, rfl, l_z64, u_z64⟩, e9⟩ := q9
              rw [e9]
              show yG _ _ _ _ _ _ _ _ _ _ (yJ z64 :: [yI (((48 * z58) + p2) + z60), yR 2083]) _
              refine yG.last A_hq.1 (v_matrix W) (by decide) rfl (by omega) (by omega) ⟨by omega, by omega⟩ (by omega) (by omega) (fun h65 T_h65 b_h65 f_h65 y_h65 => ?_)
              have A_h65 := A_hq.putA T_h65 b_h65 f_h65 (by decide)
              have g11_h65 : ys h65 2073 11 = ys hq 2073 11 := (y_h65 2073 11).trans (if_neg (by omega))
              have g102_h65 : ys h65 2073 102 = ys hq 2073 102 := (y_h65 2073 102).trans (if_neg (by omega))
              refine yG.iinc rfl (a := a5) rfl (L' := [(5, yI (a5 + 1)), (7, yI (z58)), (6, yI (z53)), (0, yR 2073), (1, yI (p1)), (2, yI (p2)), (3, yJ (a3))]) rfl ?_
              refine yG.goto rfl (t := 87) rfl ?_
              exact yG.mono (yG.sub (i_87 (a3) (a5 + 1) (ys h65 2073 11) h65 A_h65 rfl (by omega) (by omega) (by omega) (by omega) (by omega) (by omega) (by omega) (by omega) (by omega) (by omega) (by omega)) (ySub.cons rfl (ySub.cons rfl (ySub.cons rfl (ySub.cons rfl (ySub.cons rfl (ySub.nil))))))) (by omega)
  refine yC.of (M := (xt_X13_sharesBy, (8, (2, (14, []))))) rfl rfl (N := 16426) (yfuel (by decide)) ?_
  show yG 89 xfts (xcall 89 xfts xpools xms (d + 5)) (xpool xp_RX13) [] xt_X13_sharesBy (yP 2 (yQj G [] [2083] hp 0 2147483646)) 16426 0 [(0, yR 2073), (1, yI (p1)), (2, yI (p2))] [] hp
  obtain ⟨i_22, i_87⟩ := H 190
  obtain ⟨gg11, E_11⟩ : ∃ z : Int, ys hp 2073 11 = z := ⟨_, rfl⟩
  obtain ⟨-, -, r_11l, r_11u⟩ := (w_p W).long hT
  refine yG.load xak rfl (fun _ _ => rfl) (v := yR 2073) rfl rfl ?_
  refine yG.load xik rfl (fun _ _ => rfl) (v := yI (p2)) rfl rfl ?_
  refine yG.load xik rfl (fun _ _ => rfl) (v := yI (p2)) rfl rfl ?_
  refine yG.load xak rfl (fun _ _ => rfl) (v := yR 2073) rfl rfl ?_
  refine yG.getI A_hp.1 (w_machines W) rfl rfl (fun z1 e_z1 i_z1 l_z1 u_z1 => ?_)
  refine yG.iadd rfl ?_
  refine yG.num (c := 1) rfl (fun _ _ => rfl) (by decide) ?_
  refine yG.iadd rfl ?_
  refine yG.invV (rest := []) A_hp.1 W.m.1 rfl rfl rfl rfl (a_clearMatrix W (d + 4) A_hp.1 (p2) ((p2 + z1) + 1) (by omega) (by omega) (by omega) (by omega)) (fun rv h3 q9 => ?_)
  obtain ⟨rfl, B_h3⟩ := q9
  have A_h3 := A_hp.tr (B_h3.sub (by decide) (by decide))
  have g11_h3 : ys h3 2073 11 = ys hp 2073 11 := B_h3.ys (by decide) (by decide)
  have g102_h3 : ys h3 2073 102 = ys hp 2073 102 := B_h3.ys (by decide) (by decide)
  show yG _ _ _ _ _ _ _ _ _ _ [] _
  refine yG.load xak rfl (fun _ _ => rfl) (v := yR 2073) rfl rfl ?_
  refine yG.load xik rfl (fun _ _ => rfl) (v := yI (p1)) rfl rfl ?_
  refine yG.invV (rest := []) A_h3.1 W.m.1 rfl rfl rfl rfl (a_joinLines W d A_h3.1 (p1) (by omega) (by omega) (by omega) (by omega)) (fun rv h5 q9 => ?_)
  obtain ⟨⟨z4, rfl, l_z4, u_z4⟩, B_h5⟩ := q9
  have A_h5 := A_h3.tr (B_h5.sub (by decide) (by decide))
  have g11_h5 : ys h5 2073 11 = ys h3 2073 11 := B_h5.ys (by decide) (by decide)
  have g102_h5 : ys h5 2073 102 = ys h3 2073 102 := B_h5.ys (by decide) (by decide)
  show yG _ _ _ _ _ _ _ _ _ _ (yJ z4 :: []) _
  refine yG.store2 xlk2 (L' := [(3, yJ (z4)), (0, yR 2073), (1, yI (p1)), (2, yI (p2))]) rfl (fun _ _ => rfl) rfl rfl ?_
  refine yG.num (c := 0) rfl (fun _ _ => rfl) (by decide) ?_
  refine yG.store1 xik (L' := [(5, yI (0)), (3, yJ (z4)), (0, yR 2073), (1, yI (p1)), (2, yI (p2))]) rfl (fun _ _ => rfl) rfl rfl ?_
  exact yG.mono (yG.sub (i_22 (z4) (0) (ys h5 2073 11) h5 A_h5 rfl (by omega) (by omega) (by omega) (by omega) (by omega) (by omega) (by omega) (by omega) (by omega) (by omega) (by omega)) (ySub.cons rfl (ySub.cons rfl (ySub.cons rfl (ySub.cons rfl (ySub.cons rfl (ySub.nil))))))) (by omega)
theorem a_joinParts {hp : xH} (W : yWW G) (d : Nat) (hT : zTy G hp) (p1 p2 : Int) (h1l : 0 ≤ p1) (h1u : p1 ≤ 19) (h2l : 1 ≤ p2) (h2u : p2 ≤ 2) (q11l : 1 ≤ ys hp 2073 11) (q11u : ys hp 2073 11 ≤ 2147483647) : yC (xcall 89 xfts xpools xms (d + 4)) 441 [yR 2073, yI (p1), yI (p2)] hp (yQj G [] [2083] hp 0 2147483646) := by
  have A_hp : yAx G [] [2083] hp hp := yAx.rf hT
  refine yC.of (M := (xt_X13_joinParts, (11, (2, (14, []))))) rfl rfl (N := 249) (yfuel (by decide)) ?_
  show yG 89 xfts (xcall 89 xfts xpools xms (d + 3)) (xpool xp_RX13) [] xt_X13_joinParts (yP 2 (yQj G [] [2083] hp 0 2147483646)) 249 0 [(0, yR 2073), (1, yI (p1)), (2, yI (p2))] [] hp
  obtain ⟨gg11, E_11⟩ : ∃ z : Int, ys hp 2073 11 = z := ⟨_, rfl⟩
  obtain ⟨-, -, r_11l, r_11u⟩ := (w_p W).long hT
  refine yG.load xak rfl (fun _ _ => rfl) (v := yR 2073) rfl rfl ?_
  refine yG.getR A_hp.1 (r_placeOf W) rfl rfl ?_
  refine yG.load xak rfl (fun _ _ => rfl) (v := yR 2073) rfl rfl ?_
  refine yG.load xik rfl (fun _ _ => rfl) (v := yI (p1)) rfl rfl ?_
  refine yG.num (c := 0) rfl (fun _ _ => rfl) (by decide) ?_
  refine yG.invV (rest := [yR 2104]) A_hp.1 W.m.1 rfl rfl rfl rfl (a_nodeOfLine W d A_hp.1 (p1) (0) (by omega) (by omega) (by omega) (by omega)) (fun rv hp9 q9 => ?_)
  obtain ⟨⟨z1, rfl, l_z1, u_z1⟩, e9⟩ := q9
  rw [e9]
  show yG _ _ _ _ _ _ _ _ _ _ (yI z1 :: [yR 2104]) _
  refine yG.iald A_hp.1 (v_placeOf W) rfl (by omega) (by omega) (fun z2 e_z2 i_z2 l_z2 u_z2 => ?_)
  refine yG.num (c := 1) rfl (fun _ _ => rfl) (by decide) ?_
  refine yG.iadd rfl ?_
  obtain ⟨z3, e_z3⟩ : ∃ z : Int, z = z2 + 1 := ⟨_, rfl⟩
  rw [← e_z3]
  refine yG.store1 xik (L' := [(3, yI (z3)), (0, yR 2073), (1, yI (p1)), (2, yI (p2))]) rfl (fun _ _ => rfl) rfl rfl ?_
  refine yG.load xak rfl (fun _ _ => rfl) (v := yR 2073) rfl rfl ?_
  refine yG.getR A_hp.1 (r_placeOf W) rfl rfl ?_
  refine yG.load xak rfl (fun _ _ => rfl) (v := yR 2073) rfl rfl ?_
  refine yG.load xik rfl (fun _ _ => rfl) (v := yI (p1)) rfl rfl ?_
  refine yG.num (c := 1) rfl (fun _ _ => rfl) (by decide) ?_
  refine yG.invV (rest := [yR 2104]) A_hp.1 W.m.1 rfl rfl rfl rfl (a_nodeOfLine W d A_hp.1 (p1) (1) (by omega) (by omega) (by omega) (by omega)) (fun rv hp9 q9 => ?_)
  obtain ⟨⟨z4, rfl, l_z4, u_z4⟩, e9⟩ := q9
  rw [e9]
  show yG _ _ _ _ _ _ _ _ _ _ (yI z4 :: [yR 2104]) _
  refine yG.iald A_hp.1 (v_placeOf W) rfl (by omega) (by omega) (fun z5 e_z5 i_z5 l_z5 u_z5 => ?_)
  refine yG.num (c := 1) rfl (fun _ _ => rfl) (by decide) ?_
  refine yG.iadd rfl ?_
  obtain ⟨z6, e_z6⟩ : ∃ z : Int, z = z5 + 1 := ⟨_, rfl⟩
  rw [← e_z6]
  refine yG.store1 xik (L' := [(4, yI (z6)), (3, yI (z3)), (0, yR 2073), (1, yI (p1)), (2, yI (p2))]) rfl (fun _ _ => rfl) rfl rfl ?_
  refine yG.load xak rfl (fun _ _ => rfl) (v := yR 2073) rfl rfl ?_
  refine yG.num (c := 2) rfl (fun _ _ => rfl) (by decide) ?_
  refine yG.load xik rfl (fun _ _ => rfl) (v := yI (p1)) rfl rfl ?_
  refine yG.load xik rfl (fun _ _ => rfl) (v := yI (p2)) rfl rfl ?_
  refine yG.invV (rest := []) A_hp.1 W.m.1 rfl rfl rfl rfl (a_of_any W (d + 1) A_hp.1 (2) (p1) (p2) (by omega) (by omega) (by omega) (by omega) (by omega) (by omega)) (fun rv hp9 q9 => ?_)
  obtain ⟨⟨z7, rfl, l_z7, u_z7⟩, e9⟩ := q9
  rw [e9]
  show yG _ _ _ _ _ _ _ _ _ _ (yI z7 :: []) _
  refine yG.i2l rfl ⟨by omega, by omega⟩ ?_
  refine yG.store2 xlk2 (L' := [(5, yJ (z7)), (4, yI (z6)), (3, yI (z3)), (0, yR 2073), (1, yI (p1)), (2, yI (p2))]) rfl (fun _ _ => rfl) rfl rfl ?_
  refine yG.load xak rfl (fun _ _ => rfl) (v := yR 2073) rfl rfl ?_
  refine yG.getI A_hp.1 (w_isOnLine W) rfl rfl (fun z8 e_z8 i_z8 l_z8 u_z8 => ?_)
  refine yG.ifz rfl (t := 137) rfl ⟨by omega, by omega⟩ (fun c9 => ?_) (fun c9 => ?_)
  · have c9 : (z8 : Int) = 0 := c9
    refine yG.load xik rfl (fun _ _ => rfl) (v := yI (z3)) rfl rfl ?_
    refine yG.load xik rfl (fun _ _ => rfl) (v := yI (z6)) rfl rfl ?_
    refine yG.icmp rfl (t := 159) rfl ⟨by omega, by omega⟩ ⟨by omega, by omega⟩ (fun c10 => ?_) (fun c10 => ?_)
    · have c10 : (z3 : Int) = z6 := c10
      refine yG.numl (c := 1) rfl (fun _ _ => rfl) (by decide) ?_
      refine yG.ret rfl (fun _ _ => rfl) ?_
      exact yP.long ⟨by omega, by omega⟩ ⟨⟨1, rfl, by omega, by omega⟩, A_hp⟩
    · have c10 : (z3 : Int) ≠ z6 := c10
      refine yG.load xak rfl (fun _ _ => rfl) (v := yR 2073) rfl rfl ?_
      refine yG.load xik rfl (fun _ _ => rfl) (v := yI (z3)) rfl rfl ?_
      refine yG.load xik rfl (fun _ _ => rfl) (v := yI (z6)) rfl rfl ?_
      refine yG.load xak rfl (fun _ _ => rfl) (v := yR 2073) rfl rfl ?_
      refine yG.load xlk2 rfl (fun _ _ => rfl) (v := yJ (z7)) rfl rfl ?_
      refine yG.invV (rest := [yI (z6), yI (z3), yR 2073]) A_hp.1 W.m.1 rfl rfl rfl rfl (a_inverse_ W (d + 1) A_hp.1 (z7) (by omega) (by omega) (by omega) (by omega)) (fun rv hp9 q9 => ?_)
      obtain ⟨⟨z11, rfl, l_z11, u_z11⟩, e9⟩ := q9
      rw [e9]
      show yG _ _ _ _ _ _ _ _ _ _ (yJ z11 :: [yI (z6), yI (z3), yR 2073]) _
      refine yG.invV (rest := []) A_hp.1 W.m.1 rfl rfl rfl rfl (a_join W (d + 1) A_hp.1 (z3) (z6) (z11) (by omega) (by omega) (by omega) (by omega) (by omega) (by omega) (by omega) (by omega)) (fun rv h13 q9 => ?_)
      obtain ⟨rfl, B_h13⟩ := q9
      have A_h13 := A_hp.tr (B_h13.sub (by decide) (by decide))
      have g11_h13 : ys h13 2073 11 = ys hp 2073 11 := B_h13.ys (by decide) (by decide)
      have g70_h13 : ys h13 2073 70 = ys hp 2073 70 := B_h13.ys (by decide) (by decide)
      show yG _ _ _ _ _ _ _ _ _ _ [] _
      refine yG.load xlk2 rfl (fun _ _ => rfl) (v := yJ (z7)) rfl rfl ?_
      refine yG.ret rfl (fun _ _ => rfl) ?_
      exact yP.long ⟨by omega, by omega⟩ ⟨⟨z7, rfl, by omega, by omega⟩, A_h13⟩
  · have c9 : (z8 : Int) ≠ 0 := c9
    refine yG.load xik rfl (fun _ _ => rfl) (v := yI (p1)) rfl rfl ?_
    refine yG.load xak rfl (fun _ _ => rfl) (v := yR 2073) rfl rfl ?_
    refine yG.getI A_hp.1 (w_shortPlace W) rfl rfl (fun z14 e_z14 i_z14 l_z14 u_z14 => ?_)
    refine yG.icmp rfl (t := 137) rfl ⟨by omega, by omega⟩ ⟨by omega, by omega⟩ (fun c15 => ?_) (fun c15 => ?_)
    · have c15 : (p1 : Int) ≠ z14 := c15
      refine yG.load xik rfl (fun _ _ => rfl) (v := yI (z3)) rfl rfl ?_
      refine yG.load xik rfl (fun _ _ => rfl) (v := yI (z6)) rfl rfl ?_
      refine yG.icmp rfl (t := 159) rfl ⟨by omega, by omega⟩ ⟨by omega, by omega⟩ (fun c16 => ?_) (fun c16 => ?_)
      · have c16 : (z3 : Int) = z6 := c16
        refine yG.numl (c := 1) rfl (fun _ _ => rfl) (by decide) ?_
        refine yG.ret rfl (fun _ _ => rfl) ?_
        exact yP.long ⟨by omega, by omega⟩ ⟨⟨1, rfl, by omega, by omega⟩, A_hp⟩
      · have c16 : (z3 : Int) ≠ z6 := c16
        refine yG.load xak rfl (fun _ _ => rfl) (v := yR 2073) rfl rfl ?_
        refine yG.load xik rfl (fun _ _ => rfl) (v := yI (z3)) rfl rfl ?_
        refine yG.load xik rfl (fun _ _ => rfl) (v := yI (z6)) rfl rfl ?_
        refine yG.load xak rfl (fun _ _ => rfl) (v := yR 2073) rfl rfl ?_
        refine yG.load xlk2 rfl (fun _ _ => rfl) (v := yJ (z7)) rfl rfl ?_
        refine yG.invV (rest := [yI (z6), yI (z3), yR 2073]) A_hp.1 W.m.1 rfl rfl rfl rfl (a_inverse_ W (d + 1) A_hp.1 (z7) (by omega) (by omega) (by omega) (by omega)) (fun rv hp9 q9 => ?_)
        obtain ⟨⟨z17, rfl, l_z17, u_z17⟩, e9⟩ := q9
        rw [e9]
        show yG _ _ _ _ _ _ _ _ _ _ (yJ z17 :: [yI (z6), yI (z3), yR 2073]) _
        refine yG.invV (rest := []) A_hp.1 W.m.1 rfl rfl rfl rfl (a_join W (d + 1) A_hp.1 (z3) (z6) (z17) (by omega) (by omega) (by omega) (by omega) (by omega) (by omega) (by omega) (by omega)) (fun rv h19 q9 => ?_)
        obtain ⟨rfl, B_h19⟩ := q9
        have A_h19 := A_hp.tr (B_h19.sub (by decide) (by decide))
        have g11_h19 : ys h19 2073 11 = ys hp 2073 11 := B_h19.ys (by decide) (by decide)
        have g70_h19 : ys h19 2073 70 = ys hp 2073 70 := B_h19.ys (by decide) (by decide)
        have g71_h19 : ys h19 2073 71 = ys hp 2073 71 := B_h19.ys (by decide) (by decide)
        show yG _ _ _ _ _ _ _ _ _ _ [] _
        refine yG.load xlk2 rfl (fun _ _ => rfl) (v := yJ (z7)) rfl rfl ?_
        refine yG.ret rfl (fun _ _ => rfl) ?_
        exact yP.long ⟨by omega, by omega⟩ ⟨⟨z7, rfl, by omega, by omega⟩, A_h19⟩
    · have c15 : (p1 : Int) = z14 := c15
      refine yG.load xlk2 rfl (fun _ _ => rfl) (v := yJ (z7)) rfl rfl ?_
      refine yG.load xak rfl (fun _ _ => rfl) (v := yR 2073) rfl rfl ?_
      refine yG.getI A_hp.1 (w_shortK W) rfl rfl (fun z20 e_z20 i_z20 l_z20 u_z20 => ?_)
      refine yG.i2l rfl ⟨by omega, by omega⟩ ?_
      refine yG.lmul rfl ?_
      obtain ⟨z21, e_z21⟩ : ∃ z : Int, z = z7 * z20 := ⟨_, rfl⟩
      rw [← e_z21]
      have b_z21 : 0 ≤ z21 ∧ z21 ≤ 14999985 := e_z21 ▸ ymulb (A := 999999) (B := 15) (by omega) (by omega) (by omega) (by omega) (by decide)
      refine yG.store2 xlk2 (L' := [(7, yJ (z21)), (5, yJ (z7)), (4, yI (z6)), (3, yI (z3)), (0, yR 2073), (1, yI (p1)), (2, yI (p2))]) rfl (fun _ _ => rfl) rfl rfl ?_
      refine yG.load xlk2 rfl (fun _ _ => rfl) (v := yJ (z7)) rfl rfl ?_
      refine yG.num (c := 16) rfl (fun _ _ => rfl) (by decide) ?_
      refine yG.load xak rfl (fun _ _ => rfl) (v := yR 2073) rfl rfl ?_
      refine yG.getI A_hp.1 (w_shortK W) rfl rfl (fun z22 e_z22 i_z22 l_z22 u_z22 => ?_)
      refine yG.isub rfl ?_
      refine yG.i2l rfl ⟨by omega, by omega⟩ ?_
      refine yG.lmul rfl ?_
      obtain ⟨z23, e_z23⟩ : ∃ z : Int, z = z7 * (16 - z22) := ⟨_, rfl⟩
      rw [← e_z23]
      have b_z23 : 0 ≤ z23 ∧ z23 ≤ 15999984 := e_z23 ▸ ymulb (A := 999999) (B := 16) (by omega) (by omega) (by omega) (by omega) (by decide)
      refine yG.store2 xlk2 (L' := [(9, yJ (z23)), (7, yJ (z21)), (5, yJ (z7)), (4, yI (z6)), (3, yI (z3)), (0, yR 2073), (1, yI (p1)), (2, yI (p2))]) rfl (fun _ _ => rfl) rfl rfl ?_
      refine yG.load xak rfl (fun _ _ => rfl) (v := yR 2073) rfl rfl ?_
      refine yG.load xik rfl (fun _ _ => rfl) (v := yI (z3)) rfl rfl ?_
      refine yG.load xak rfl (fun _ _ => rfl) (v := yR 2073) rfl rfl ?_
      refine yG.getI A_hp.1 (w_nodes W) rfl rfl (fun z24 e_z24 i_z24 l_z24 u_z24 => ?_)
      refine yG.numl (c := 16) rfl (fun _ _ => rfl) (by decide) ?_
      refine yG.load xak rfl (fun _ _ => rfl) (v := yR 2073) rfl rfl ?_
      refine yG.load xlk2 rfl (fun _ _ => rfl) (v := yJ (z21)) rfl rfl ?_
      refine yG.invV (rest := [yJ (16), yI (z24), yI (z3), yR 2073]) A_hp.1 W.m.1 rfl rfl rfl rfl (a_inverse_ W (d + 1) A_hp.1 (z21) (by omega) (by omega) (by omega) (by omega)) (fun rv hp9 q9 => ?_)
      obtain ⟨⟨z25, rfl, l_z25, u_z25⟩, e9⟩ := q9
      rw [e9]
      show yG _ _ _ _ _ _ _ _ _ _ (yJ z25 :: [yJ (16), yI (z24), yI (z3), yR 2073]) _
      refine yG.lmul rfl ?_
      refine yG.load xak rfl (fun _ _ => rfl) (v := yR 2073) rfl rfl ?_
      refine yG.getJ A_hp.1 (w_p W) rfl rfl (fun z26 e_z26 i_z26 l_z26 u_z26 => ?_)
      refine yG.lrem rfl ⟨by omega, by omega⟩ ⟨by omega, by omega⟩ (by omega) (by omega) ?_
      obtain ⟨z27, e_z27⟩ : ∃ z : Int, z = (16 * z25) % (z26) := ⟨_, rfl⟩
      rw [← e_z27]
      have b_z27 : 0 ≤ z27 ∧ z27 < z26 := e_z27 ▸ ⟨Int.emod_nonneg _ (by omega), Int.emod_lt_of_pos _ (by omega)⟩
      refine yG.invV (rest := []) A_hp.1 W.m.1 rfl rfl rfl rfl (a_join W (d + 1) A_hp.1 (z3) (z24) (z27) (by omega) (by omega) (by omega) (by omega) (by omega) (by omega) (by omega) (by omega)) (fun rv h29 q9 => ?_)
      obtain ⟨rfl, B_h29⟩ := q9
      have A_h29 := A_hp.tr (B_h29.sub (by decide) (by decide))
      have g11_h29 : ys h29 2073 11 = ys hp 2073 11 := B_h29.ys (by decide) (by decide)
      have g70_h29 : ys h29 2073 70 = ys hp 2073 70 := B_h29.ys (by decide) (by decide)
      have g71_h29 : ys h29 2073 71 = ys hp 2073 71 := B_h29.ys (by decide) (by decide)
      have g72_h29 : ys h29 2073 72 = ys hp 2073 72 := B_h29.ys (by decide) (by decide)
      have g38_h29 : ys h29 2073 38 = ys hp 2073 38 := B_h29.ys (by decide) (by decide)
      show yG _ _ _ _ _ _ _ _ _ _ [] _
      refine yG.load xak rfl (fun _ _ => rfl) (v := yR 2073) rfl rfl ?_
      refine yG.load xik rfl (fun _ _ => rfl) (v := yI (z6)) rfl rfl ?_
      refine yG.load xak rfl (fun _ _ => rfl) (v := yR 2073) rfl rfl ?_
      refine yG.getI A_h29.1 (w_nodes W) rfl rfl (fun z30 e_z30 i_z30 l_z30 u_z30 => ?_)
      refine yG.numl (c := 16) rfl (fun _ _ => rfl) (by decide) ?_
      refine yG.load xak rfl (fun _ _ => rfl) (v := yR 2073) rfl rfl ?_
      refine yG.load xlk2 rfl (fun _ _ => rfl) (v := yJ (z23)) rfl rfl ?_
      refine yG.invV (rest := [yJ (16), yI (z30), yI (z6), yR 2073]) A_h29.1 W.m.1 rfl rfl rfl rfl (a_inverse_ W (d + 1) A_h29.1 (z23) (by omega) (by omega) (by omega) (by omega)) (fun rv hp9 q9 => ?_)
      obtain ⟨⟨z31, rfl, l_z31, u_z31⟩, e9⟩ := q9
      rw [e9]
      show yG _ _ _ _ _ _ _ _ _ _ (yJ z31 :: [yJ (16), yI (z30), yI (z6), yR 2073]) _
      refine yG.lmul rfl ?_
      refine yG.load xak rfl (fun _ _ => rfl) (v := yR 2073) rfl rfl ?_
      refine yG.getJ A_h29.1 (w_p W) rfl rfl (fun z32 e_z32 i_z32 l_z32 u_z32 => ?_)
      refine yG.lrem rfl ⟨by omega, by omega⟩ ⟨by omega, by omega⟩ (by omega) (by omega) ?_
      obtain ⟨z33, e_z33⟩ : ∃ z : Int, z = (16 * z31) % (z32) := ⟨_, rfl⟩
      rw [← e_z33]
      have b_z33 : 0 ≤ z33 ∧ z33 < z32 := e_z33 ▸ ⟨Int.emod_nonneg _ (by omega), Int.emod_lt_of_pos _ (by omega)⟩
      refine yG.invV (rest := []) A_h29.1 W.m.1 rfl rfl rfl rfl (a_join W (d + 1) A_h29.1 (z6) (z30) (z33) (by omega) (by omega) (by omega) (by omega) (by omega) (by omega) (by omega) (by omega)) (fun rv h35 q9 => ?_)
      obtain ⟨rfl, B_h35⟩ := q9
      have A_h35 := A_h29.tr (B_h35.sub (by decide) (by decide))
      have g11_h35 : ys h35 2073 11 = ys h29 2073 11 := B_h35.ys (by decide) (by decide)
      have g70_h35 : ys h35 2073 70 = ys h29 2073 70 := B_h35.ys (by decide) (by decide)
      have g71_h35 : ys h35 2073 71 = ys h29 2073 71 := B_h35.ys (by decide) (by decide)
      have g72_h35 : ys h35 2073 72 = ys h29 2073 72 := B_h35.ys (by decide) (by decide)
      have g38_h35 : ys h35 2073 38 = ys h29 2073 38 := B_h35.ys (by decide) (by decide)
      show yG _ _ _ _ _ _ _ _ _ _ [] _
      refine yG.load xlk2 rfl (fun _ _ => rfl) (v := yJ (z21)) rfl rfl ?_
      refine yG.load xlk2 rfl (fun _ _ => rfl) (v := yJ (z23)) rfl rfl ?_
      refine yG.lmul rfl ?_
      obtain ⟨z36, e_z36⟩ : ∃ z : Int, z = z21 * z23 := ⟨_, rfl⟩
      rw [← e_z36]
      have b_z36 : 0 ≤ z36 ∧ z36 ≤ 239999520000240 := e_z36 ▸ ymulb (A := 14999985) (B := 15999984) (by omega) (by omega) (by omega) (by omega) (by decide)
      refine yG.load xak rfl (fun _ _ => rfl) (v := yR 2073) rfl rfl ?_
      refine yG.getJ A_h35.1 (w_p W) rfl rfl (fun z37 e_z37 i_z37 l_z37 u_z37 => ?_)
      refine yG.lrem rfl ⟨by omega, by omega⟩ ⟨by omega, by omega⟩ (by omega) (by omega) ?_
      obtain ⟨z38, e_z38⟩ : ∃ z : Int, z = (z36) % (z37) := ⟨_, rfl⟩
      rw [← e_z38]
      have b_z38 : 0 ≤ z38 ∧ z38 < z37 := e_z38 ▸ ⟨Int.emod_nonneg _ (by omega), Int.emod_lt_of_pos _ (by omega)⟩
      refine yG.ret rfl (fun _ _ => rfl) ?_
      exact yP.long ⟨by omega, by omega⟩ ⟨⟨z38, rfl, by omega, by omega⟩, A_h35⟩
end YThird
