/-! ===== the reference: methods on registers, printed by a program ===== -/
section MOnRegs
variable {G : zW}
theorem c_GModel_make {hp : xH} (W : mW G) (d : Nat) (hT : zTy G hp) (M_bRg : bRg G hp) (H_2073 : bRo G 116 2073) (p1 p2 : Int) (h1l : 0 ≤ p1) (h1u : p1 ≤ 3411) (h2l : 0 ≤ p2) (h2u : p2 ≤ 3411) : yC (xcall 89 xfts xpools xms (d + 6)) 450 [yR 2073, yI (p1), yI (p2)] hp (fun rv hp' => (bQi G [(10467670466806212499117480599707713536, 256)] hp (-1) 1 (fun _ => True)) rv hp' ∧ bRg G hp') := by
  have A_hp : bAx G [(10467670466806212499117480599707713536, 256)] hp hp := bAx.rf hT
  have M_bRg_hp := M_bRg
  refine yC.of (M := (xt_X13_make, (3, (1, (14, []))))) rfl rfl (N := 57) (yfuel (by decide)) ?_
  show yG 89 xfts (xcall 89 xfts xpools xms (d + 5)) (xpool xp_RX13) [] xt_X13_make (yP 1 (fun rv hp' => (bQi G [(10467670466806212499117480599707713536, 256)] hp (-1) 1 (fun _ => True)) rv hp' ∧ bRg G hp')) 57 0 [(0, yR 2073), (1, yI (p1)), (2, yI (p2))] [] hp
  refine yG.load xak rfl (fun _ _ => rfl) (v := yR 2073) rfl rfl ?_
  refine yG.num (c := 188) rfl (fun _ _ => rfl) (by decide) ?_
  refine yG.load xik rfl (fun _ _ => rfl) (v := yI (p1)) rfl rfl ?_
  refine yG.invV (rest := []) A_hp.1 (bOb (d_M W) H_2073) rfl rfl rfl rfl (r_copy W (d + 4) A_hp.1 M_bRg_hp H_2073 (r := (188)) (p := (p1)) ⟨by omega, by omega⟩ ⟨by omega, by omega⟩ (M_bRg_hp.at (x := 7654) (a := 0) (b := 3412) (by decide) (by omega) (by omega) (by decide)) (bTb_ge (a := 188) (b := 189) (by decide) (by omega) (by omega))) (fun rv h1 q9 => ?_)
  obtain ⟨rfl, B_h1, M_bRg_h1, Y_h1, V_h1, S_h1⟩ := q9
  have A_h1 := A_hp.tr B_h1 (by decide)
  show yG _ _ _ _ _ _ _ _ _ _ [] _
  refine yG.load xak rfl (fun _ _ => rfl) (v := yR 2073) rfl rfl ?_
  refine yG.num (c := 189) rfl (fun _ _ => rfl) (by decide) ?_
  refine yG.load xik rfl (fun _ _ => rfl) (v := yI (p2)) rfl rfl ?_
  refine yG.invV (rest := []) A_h1.1 (bOb (d_M W) H_2073) rfl rfl rfl rfl (r_copy W (d + 4) A_h1.1 M_bRg_h1 H_2073 (r := (189)) (p := (p2)) ⟨by omega, by omega⟩ ⟨by omega, by omega⟩ (M_bRg_h1.at (x := 7654) (a := 0) (b := 3412) (by decide) (by omega) (by omega) (by decide)) (bTb_ge (a := 189) (b := 190) (by decide) (by omega) (by omega))) (fun rv h2 q9 => ?_)
  obtain ⟨rfl, B_h2, M_bRg_h2, Y_h2, V_h2, S_h2⟩ := q9
  have A_h2 := A_h1.tr B_h2 (by decide)
  show yG _ _ _ _ _ _ _ _ _ _ [] _
  refine yG.load xak rfl (fun _ _ => rfl) (v := yR 2073) rfl rfl ?_
  refine yG.num (c := 188) rfl (fun _ _ => rfl) (by decide) ?_
  refine yG.num (c := 189) rfl (fun _ _ => rfl) (by decide) ?_
  refine yG.invV (rest := []) A_h2.1 (bOb (d_M W) H_2073) rfl rfl rfl rfl (r_lowest W d A_h2.1 M_bRg_h2 H_2073 (n := (188)) (e := (189)) ⟨by omega, by omega⟩ ⟨by omega, by omega⟩ (by omega) (by omega) (by omega) (Y_h1.same W.y A_h1.1 (by decide) (S_h2 188 (by omega) trivial)) (y := 7654) (Y_h2.mono (by decide)) (by decide) (bTb_ge (a := 188) (b := 189) (by decide) (by omega) (by omega)) (bTb_ge (a := 189) (b := 190) (by decide) (by omega) (by omega))) (fun rv h3 q9 => ?_)
  obtain ⟨rfl, B_h3, M_bRg_h3, Y_h3, Z_h3, S_h3⟩ := q9
  have A_h3 := A_h2.tr B_h3 (by decide)
  show yG _ _ _ _ _ _ _ _ _ _ [] _
  refine yG.load xak rfl (fun _ _ => rfl) (v := yR 2073) rfl rfl ?_
  refine yG.getO A_h3.1 (w_M_sign W H_2073) rfl rfl (fun r4 H_r4 O_r4 q_r4 => ?_)
  obtain rfl := u_M_sign W H_r4
  refine yG.num (c := 188) rfl (fun _ _ => rfl) (by decide) ?_
  refine yG.iald A_h3.1 (v_M_sign W H_r4) rfl (by omega) (by omega) (fun z5 e_z5 i_z5 l_z5 u_z5 => ?_)
  refine yG.ret rfl (fun _ _ => rfl) ?_
  exact (yP.int ⟨by omega, by omega⟩ ⟨⟨⟨z5, rfl, by omega, by omega, trivial⟩, A_h3⟩, M_bRg_h3⟩)
theorem c_GModel_makeWhole {hp : xH} (W : mW G) (d : Nat) (hT : zTy G hp) (M_bRg : bRg G hp) (H_2073 : bRo G 116 2073) (p1 p3 : Int) (h1l : (-4611686018427387904) ≤ p1) (h1u : p1 ≤ 4611686018427387904) (h3l : (-4611686018427387904) ≤ p3) (h3u : p3 ≤ 4611686018427387904) : yC (xcall 89 xfts xpools xms (d + 7)) 452 [yR 2073, yJ (p1), yJ (p3)] hp (fun rv hp' => (bQi G [(10467670466806212499117480599707713536, 256)] hp (-1) 1 (fun _ => True)) rv hp' ∧ bRg G hp') := by
  have A_hp : bAx G [(10467670466806212499117480599707713536, 256)] hp hp := bAx.rf hT
  have M_bRg_hp := M_bRg
  refine yC.of (M := (xt_X13_makeWhole, (5, (1, (14, []))))) rfl rfl (N := 45) (yfuel (by decide)) ?_
  show yG 89 xfts (xcall 89 xfts xpools xms (d + 6)) (xpool xp_RX13) [] xt_X13_makeWhole (yP 1 (fun rv hp' => (bQi G [(10467670466806212499117480599707713536, 256)] hp (-1) 1 (fun _ => True)) rv hp' ∧ bRg G hp')) 45 0 [(0, yR 2073), (1, yJ (p1)), (3, yJ (p3))] [] hp
  refine yG.load xak rfl (fun _ _ => rfl) (v := yR 2073) rfl rfl ?_
  refine yG.num (c := 212) rfl (fun _ _ => rfl) (by decide) ?_
  refine yG.load xlk2 rfl (fun _ _ => rfl) (v := yJ (p1)) rfl rfl ?_
  refine yG.invV (rest := []) A_hp.1 (bOb (d_M W) H_2073) rfl rfl rfl rfl (r_put W (d + 5) A_hp.1 M_bRg_hp H_2073 (r := (212)) (v := (p1)) (x := 63) ⟨by omega, by omega⟩ (yEb (c := 9223372036854775808) (by decide) (by omega) (by omega)) (by decide) (bTb_ge (a := 212) (b := 213) (by decide) (by omega) (by omega))) (fun rv h1 q9 => ?_)
  obtain ⟨rfl, B_h1, M_bRg_h1, Y_h1, V_h1, S_h1⟩ := q9
  have A_h1 := A_hp.tr B_h1 (by decide)
  show yG _ _ _ _ _ _ _ _ _ _ [] _
  refine yG.load xak rfl (fun _ _ => rfl) (v := yR 2073) rfl rfl ?_
  refine yG.num (c := 213) rfl (fun _ _ => rfl) (by decide) ?_
  refine yG.load xlk2 rfl (fun _ _ => rfl) (v := yJ (p3)) rfl rfl ?_
  refine yG.invV (rest := []) A_h1.1 (bOb (d_M W) H_2073) rfl rfl rfl rfl (r_put W (d + 5) A_h1.1 M_bRg_h1 H_2073 (r := (213)) (v := (p3)) (x := 63) ⟨by omega, by omega⟩ (yEb (c := 9223372036854775808) (by decide) (by omega) (by omega)) (by decide) (bTb_ge (a := 213) (b := 214) (by decide) (by omega) (by omega))) (fun rv h2 q9 => ?_)
  obtain ⟨rfl, B_h2, M_bRg_h2, Y_h2, V_h2, S_h2⟩ := q9
  have A_h2 := A_h1.tr B_h2 (by decide)
  show yG _ _ _ _ _ _ _ _ _ _ [] _
  refine yG.load xak rfl (fun _ _ => rfl) (v := yR 2073) rfl rfl ?_
  refine yG.num (c := 212) rfl (fun _ _ => rfl) (by decide) ?_
  refine yG.num (c := 213) rfl (fun _ _ => rfl) (by decide) ?_
  refine yG.invV (rest := []) A_h2.1 (bOb (d_M W) H_2073) rfl rfl rfl rfl (c_GModel_make W d A_h2.1 M_bRg_h2 H_2073 (212) (213) (by omega) (by omega) (by omega) (by omega)) (fun rv h3 q9 => ?_)
  obtain ⟨q9, M_bRg_h3⟩ := q9
  obtain ⟨⟨z4, rfl, l_z4, u_z4, R_z4⟩, B_h3⟩ := q9
  have A_h3 := A_h2.tr B_h3 (by decide)
  show yG _ _ _ _ _ _ _ _ _ _ (yI z4 :: []) _
  refine yG.ret rfl (fun _ _ => rfl) ?_
  exact (yP.int ⟨by omega, by omega⟩ ⟨⟨⟨z4, rfl, by omega, by omega, trivial⟩, A_h3⟩, M_bRg_h3⟩)
theorem c_GModel_figures_0 {hp : xH} (W : mW G) (d : Nat) (hT : zTy G hp) {k0 : Nat} (H_k0 : bRo G 116 k0) (p1 : Int) (h1l : 0 ≤ p1) (h1u : p1 ≤ 1) : yC (xcall 89 xfts xpools xms (d + 2)) 401 [yR k0, yI (p1)] hp (fun rv hp' => (bQi G [(83076749736557242056487941267521536, 0)] hp 0 2304 (fun _ => True)) rv hp' ∧ (0 ≤ ys hp' k0 0 ∧ ys hp' k0 0 ≤ 0)) := by
  have A_hp : bAx G [(83076749736557242056487941267521536, 0)] hp hp := bAx.rf hT
  refine yC.of (M := (xt_X13_figures, (5, (1, (14, []))))) rfl rfl (N := 369) (yfuel (by decide)) ?_
  show yG 89 xfts (xcall 89 xfts xpools xms (d + 1)) (xpool xp_RX13) [] xt_X13_figures (yP 1 (fun rv hp' => (bQi G [(83076749736557242056487941267521536, 0)] hp 0 2304 (fun _ => True)) rv hp' ∧ (0 ≤ ys hp' k0 0 ∧ ys hp' k0 0 ≤ 0))) 369 0 [(0, yR k0), (1, yI (p1))] [] hp
  obtain ⟨gg0, E_0⟩ : ∃ z : Int, ys hp k0 0 = z := ⟨_, rfl⟩
  obtain ⟨-, -, g_0l, g_0u⟩ := (w_M_thrown W H_k0).int hT
  refine yG.load xak rfl (fun _ _ => rfl) (v := yR k0) rfl rfl ?_
  refine yG.load xik rfl (fun _ _ => rfl) (v := yI (p1)) rfl rfl ?_
  refine yG.i2l rfl ⟨by omega, by omega⟩ ?_
  refine yG.numl (c := 0) rfl (fun _ _ => rfl) (by decide) ?_
  refine yG.numl (c := 1) rfl (fun _ _ => rfl) (by decide) ?_
  refine yG.invS (rest := [yR k0]) rfl rfl rfl rfl (c_GModel_in_y W d A_hp.1 (p1) (0) (1) (by omega) (by omega) (by omega) (by omega) (by omega) (by omega) (by omega) (by omega)) (fun rv hp9 q9 => ?_)
  obtain ⟨⟨z1, rfl, l_z1, u_z1, R_z1⟩, e9⟩ := q9
  rw [e9]
  show yG _ _ _ _ _ _ _ _ _ _ (yI z1 :: [yR k0]) _
  refine yG.ifz rfl (t := 15) rfl ⟨by omega, by omega⟩ (fun c2 => ?_) (fun c2 => ?_)
  · have c2 : (z1 : Int) = 0 := c2
    exfalso; omega
  · have c2 : (z1 : Int) ≠ 0 := c2
    refine yG.num (c := 0) rfl (fun _ _ => rfl) (by decide) ?_
    refine yG.goto rfl (t := 16) rfl ?_
    refine yG.putI A_hp.1 (w_M_thrown W H_k0) (W.2.1 _ _ H_k0 (by decide) (by decide)) rfl rfl (.inl rfl) ⟨by omega, by omega⟩ (by omega) (by omega) (fun h3 T_h3 b_h3 f_h3 y_h3 => ?_)
    have A_h3 := A_hp.put T_h3 b_h3 f_h3 H_k0 (by decide)
    have : ys h3 k0 0 = 0 := (y_h3 k0 0).trans (if_pos ⟨rfl, rfl⟩)
    refine yG.load xak rfl (fun _ _ => rfl) (v := yR k0) rfl rfl ?_
    refine yG.getI A_h3.1 (w_M_thrown W H_k0) rfl rfl (fun z4 e_z4 i_z4 l_z4 u_z4 => ?_)
    refine yG.ifz rfl (t := 28) rfl ⟨by omega, by omega⟩ (fun c5 => ?_) (fun c5 => ?_)
    · have c5 : (z4 : Int) ≤ 0 := c5
      refine yG.num (c := 188) rfl (fun _ _ => rfl) (by decide) ?_
      refine yG.load xik rfl (fun _ _ => rfl) (v := yI (p1)) rfl rfl ?_
      refine yG.iadd rfl ?_
      obtain ⟨z6, e_z6⟩ : ∃ z : Int, z = 188 + p1 := ⟨_, rfl⟩
      rw [← e_z6]
      refine yG.store1 xik (L' := [(2, yI (z6)), (0, yR k0), (1, yI (p1))]) rfl (fun _ _ => rfl) rfl rfl ?_
      refine yG.load xak rfl (fun _ _ => rfl) (v := yR k0) rfl rfl ?_
      refine yG.getO A_h3.1 (w_M_length W H_k0) rfl rfl (fun r7 H_r7 O_r7 q_r7 => ?_)
      refine yG.load xik rfl (fun _ _ => rfl) (v := yI (z6)) rfl rfl ?_
      refine yG.iald A_h3.1 (v_M_length W H_r7) rfl (by omega) (by omega) (fun z8 e_z8 i_z8 l_z8 u_z8 => ?_)
      refine yG.ifz rfl (t := 45) rfl ⟨by omega, by omega⟩ (fun c9 => ?_) (fun c9 => ?_)
      · have c9 : (z8 : Int) ≠ 0 := c9
        refine yG.num (c := 9) rfl (fun _ _ => rfl) (by decide) ?_
        refine yG.load xak rfl (fun _ _ => rfl) (v := yR k0) rfl rfl ?_
        refine yG.getS9 A_h3.1 (w_M_length W H_k0) q_r7 rfl rfl ?_
        refine yG.load xik rfl (fun _ _ => rfl) (v := yI (z6)) rfl rfl ?_
        refine yG.iald A_h3.1 (v_M_length W H_r7) rfl (by omega) (by omega) (fun z10 e_z10 i_z10 l_z10 u_z10 => ?_)
        rw [show (z10 : Int) = z8 by omega]
        refine yG.num (c := 1) rfl (fun _ _ => rfl) (by decide) ?_
        refine yG.isub rfl ?_
        refine yG.imul rfl ?_
        obtain ⟨z11, e_z11⟩ : ∃ z : Int, z = 9 * (z8 - 1) := ⟨_, rfl⟩
        rw [← e_z11]
        refine yG.store1 xik (L' := [(3, yI (z11)), (2, yI (z6)), (0, yR k0), (1, yI (p1))]) rfl (fun _ _ => rfl) rfl rfl ?_
        refine yG.load xak rfl (fun _ _ => rfl) (v := yR k0) rfl rfl ?_
        refine yG.getO A_h3.1 (w_M_big W H_k0) rfl rfl (fun r12 H_r12 O_r12 q_r12 => ?_)
        refine yG.num (c := 256) rfl (fun _ _ => rfl) (by decide) ?_
        refine yG.load xik rfl (fun _ _ => rfl) (v := yI (z6)) rfl rfl ?_
        refine yG.imul rfl ?_
        refine yG.load xak rfl (fun _ _ => rfl) (v := yR k0) rfl rfl ?_
        refine yG.getS9 A_h3.1 (w_M_length W H_k0) q_r7 rfl rfl ?_
        refine yG.load xik rfl (fun _ _ => rfl) (v := yI (z6)) rfl rfl ?_
        refine yG.iald A_h3.1 (v_M_length W H_r7) rfl (by omega) (by omega) (fun z13 e_z13 i_z13 l_z13 u_z13 => ?_)
        rw [show (z13 : Int) = z8 by omega]
        refine yG.iadd rfl ?_
        refine yG.num (c := 1) rfl (fun _ _ => rfl) (by decide) ?_
        refine yG.isub rfl ?_
        refine yG.iald A_h3.1 (v_M_big W H_r12) rfl (by omega) (by omega) (fun z14 e_z14 i_z14 l_z14 u_z14 => ?_)
        refine yG.store1 xik (L' := [(4, yI (z14)), (3, yI (z11)), (2, yI (z6)), (0, yR k0), (1, yI (p1))]) rfl (fun _ _ => rfl) rfl rfl ?_
        refine yG.load xik rfl (fun _ _ => rfl) (v := yI (z14)) rfl rfl ?_
        refine yG.ifz rfl (t := 96) rfl ⟨by omega, by omega⟩ (fun c15 => ?_) (fun c15 => ?_)
        · have c15 : (z14 : Int) ≤ 0 := c15
          refine yG.load xik rfl (fun _ _ => rfl) (v := yI (z11)) rfl rfl ?_
          refine yG.ret rfl (fun _ _ => rfl) ?_
          exact (yP.int ⟨by omega, by omega⟩ ⟨⟨⟨z11, rfl, by omega, by omega, trivial⟩, A_h3⟩, by omega, by omega⟩)
        · have c15 : (z14 : Int) > 0 := c15
          refine yG.iinc rfl (a := z11) rfl (L' := [(3, yI (z11 + 1)), (4, yI (z14)), (2, yI (z6)), (0, yR k0), (1, yI (p1))]) rfl ?_
          refine yG.load xik rfl (fun _ _ => rfl) (v := yI (z14)) rfl rfl ?_
          refine yG.num (c := 10) rfl (fun _ _ => rfl) (by decide) ?_
          refine yG.idiv rfl ⟨by omega, by omega⟩ ⟨by omega, by omega⟩ (by omega) (by omega) ?_
          obtain ⟨z16, e_z16⟩ : ∃ z : Int, z = (z14) / (10) := ⟨_, rfl⟩
          rw [← e_z16]
          refine yG.store1 xik (L' := [(4, yI (z16)), (3, yI (z11 + 1)), (2, yI (z6)), (0, yR k0), (1, yI (p1))]) rfl (fun _ _ => rfl) rfl rfl ?_
          refine yG.goto rfl (t := 78) rfl ?_
          refine yG.load xik rfl (fun _ _ => rfl) (v := yI (z16)) rfl rfl ?_
          refine yG.ifz rfl (t := 96) rfl ⟨by omega, by omega⟩ (fun c17 => ?_) (fun c17 => ?_)
          · have c17 : (z16 : Int) ≤ 0 := c17
            refine yG.load xik rfl (fun _ _ => rfl) (v := yI (z11 + 1)) rfl rfl ?_
            refine yG.ret rfl (fun _ _ => rfl) ?_
            exact (yP.int ⟨by omega, by omega⟩ ⟨⟨⟨z11 + 1, rfl, by omega, by omega, trivial⟩, A_h3⟩, by omega, by omega⟩)
          · have c17 : (z16 : Int) > 0 := c17
            refine yG.iinc rfl (a := z11 + 1) rfl (L' := [(3, yI ((z11 + 1) + 1)), (4, yI (z16)), (2, yI (z6)), (0, yR k0), (1, yI (p1))]) rfl ?_
            refine yG.load xik rfl (fun _ _ => rfl) (v := yI (z16)) rfl rfl ?_
            refine yG.num (c := 10) rfl (fun _ _ => rfl) (by decide) ?_
            refine yG.idiv rfl ⟨by omega, by omega⟩ ⟨by omega, by omega⟩ (by omega) (by omega) ?_
            obtain ⟨z18, e_z18⟩ : ∃ z : Int, z = (z16) / (10) := ⟨_, rfl⟩
            rw [← e_z18]
            refine yG.store1 xik (L' := [(4, yI (z18)), (3, yI ((z11 + 1) + 1)), (2, yI (z6)), (0, yR k0), (1, yI (p1))]) rfl (fun _ _ => rfl) rfl rfl ?_
            refine yG.goto rfl (t := 78) rfl ?_
            refine yG.load xik rfl (fun _ _ => rfl) (v := yI (z18)) rfl rfl ?_
            refine yG.ifz rfl (t := 96) rfl ⟨by omega, by omega⟩ (fun c19 => ?_) (fun c19 => ?_)
            · have c19 : (z18 : Int) ≤ 0 := c19
              refine yG.load xik rfl (fun _ _ => rfl) (v := yI ((z11 + 1) + 1)) rfl rfl ?_
              refine yG.ret rfl (fun _ _ => rfl) ?_
              exact (yP.int ⟨by omega, by omega⟩ ⟨⟨⟨(z11 + 1) + 1, rfl, by omega, by omega, trivial⟩, A_h3⟩, by omega, by omega⟩)
            · have c19 : (z18 : Int) > 0 := c19
              refine yG.iinc rfl (a := (z11 + 1) + 1) rfl (L' := [(3, yI (((z11 + 1) + 1) + 1)), (4, yI (z18)), (2, yI (z6)), (0, yR k0), (1, yI (p1))]) rfl ?_
              refine yG.load xik rfl (fun _ _ => rfl) (v := yI (z18)) rfl rfl ?_
              refine yG.num (c := 10) rfl (fun _ _ => rfl) (by decide) ?_
              refine yG.idiv rfl ⟨by omega, by omega⟩ ⟨by omega, by omega⟩ (by omega) (by omega) ?_
              obtain ⟨z20, e_z20⟩ : ∃ z : Int, z = (z18) / (10) := ⟨_, rfl⟩
              rw [← e_z20]
              refine yG.store1 xik (L' := [(4, yI (z20)), (3, yI (((z11 + 1) + 1) + 1)), (2, yI (z6)), (0, yR k0), (1, yI (p1))]) rfl (fun _ _ => rfl) rfl rfl ?_
              refine yG.goto rfl (t := 78) rfl ?_
              refine yG.load xik rfl (fun _ _ => rfl) (v := yI (z20)) rfl rfl ?_
              refine yG.ifz rfl (t := 96) rfl ⟨by omega, by omega⟩ (fun c21 => ?_) (fun c21 => ?_)
              · have c21 : (z20 : Int) ≤ 0 := c21
                refine yG.load xik rfl (fun _ _ => rfl) (v := yI (((z11 + 1) + 1) + 1)) rfl rfl ?_
                refine yG.ret rfl (fun _ _ => rfl) ?_
                exact (yP.int ⟨by omega, by omega⟩ ⟨⟨⟨((z11 + 1) + 1) + 1, rfl, by omega, by omega, trivial⟩, A_h3⟩, by omega, by omega⟩)
              · have c21 : (z20 : Int) > 0 := c21
                refine yG.iinc rfl (a := ((z11 + 1) + 1) + 1) rfl (L' := [(3, yI ((((z11 + 1) + 1) + 1) + 1)), (4, yI (z20)), (2, yI (z6)), (0, yR k0), (1, yI (p1))]) rfl ?_
                refine yG.load xik rfl (fun _ _ => rfl) (v := yI (z20)) rfl rfl ?_
                refine yG.num (c := 10) rfl (fun _ _ => rfl) (by decide) ?_
                refine yG.idiv rfl ⟨by omega, by omega⟩ ⟨by omega, by omega⟩ (by omega) (by omega) ?_
                obtain ⟨z22, e_z22⟩ : ∃ z : Int, z = (z20) / (10) := ⟨_, rfl⟩
                rw [← e_z22]
                refine yG.store1 xik (L' := [(4, yI (z22)), (3, yI ((((z11 + 1) + 1) + 1) + 1)), (2, yI (z6)), (0, yR k0), (1, yI (p1))]) rfl (fun _ _ => rfl) rfl rfl ?_
                refine yG.goto rfl (t := 78) rfl ?_
                refine yG.load xik rfl (fun _ _ => rfl) (v := yI (z22)) rfl rfl ?_
                refine yG.ifz rfl (t := 96) rfl ⟨by omega, by omega⟩ (fun c23 => ?_) (fun c23 => ?_)
                · have c23 : (z22 : Int) ≤ 0 := c23
                  refine yG.load xik rfl (fun _ _ => rfl) (v := yI ((((z11 + 1) + 1) + 1) + 1)) rfl rfl ?_
                  refine yG.ret rfl (fun _ _ => rfl) ?_
                  exact (yP.int ⟨by omega, by omega⟩ ⟨⟨⟨(((z11 + 1) + 1) + 1) + 1, rfl, by omega, by omega, trivial⟩, A_h3⟩, by omega, by omega⟩)
                · have c23 : (z22 : Int) > 0 := c23
                  refine yG.iinc rfl (a := (((z11 + 1) + 1) + 1) + 1) rfl (L' := [(3, yI (((((z11 + 1) + 1) + 1) + 1) + 1)), (4, yI (z22)), (2, yI (z6)), (0, yR k0), (1, yI (p1))]) rfl ?_
                  refine yG.load xik rfl (fun _ _ => rfl) (v := yI (z22)) rfl rfl ?_
                  refine yG.num (c := 10) rfl (fun _ _ => rfl) (by decide) ?_
                  refine yG.idiv rfl ⟨by omega, by omega⟩ ⟨by omega, by omega⟩ (by omega) (by omega) ?_
                  obtain ⟨z24, e_z24⟩ : ∃ z : Int, z = (z22) / (10) := ⟨_, rfl⟩
                  rw [← e_z24]
                  refine yG.store1 xik (L' := [(4, yI (z24)), (3, yI (((((z11 + 1) + 1) + 1) + 1) + 1)), (2, yI (z6)), (0, yR k0), (1, yI (p1))]) rfl (fun _ _ => rfl) rfl rfl ?_
                  refine yG.goto rfl (t := 78) rfl ?_
                  refine yG.load xik rfl (fun _ _ => rfl) (v := yI (z24)) rfl rfl ?_
                  refine yG.ifz rfl (t := 96) rfl ⟨by omega, by omega⟩ (fun c25 => ?_) (fun c25 => ?_)
                  · have c25 : (z24 : Int) ≤ 0 := c25
                    refine yG.load xik rfl (fun _ _ => rfl) (v := yI (((((z11 + 1) + 1) + 1) + 1) + 1)) rfl rfl ?_
                    refine yG.ret rfl (fun _ _ => rfl) ?_
                    exact (yP.int ⟨by omega, by omega⟩ ⟨⟨⟨((((z11 + 1) + 1) + 1) + 1) + 1, rfl, by omega, by omega, trivial⟩, A_h3⟩, by omega, by omega⟩)
                  · have c25 : (z24 : Int) > 0 := c25
                    refine yG.iinc rfl (a := ((((z11 + 1) + 1) + 1) + 1) + 1) rfl (L' := [(3, yI ((((((z11 + 1) + 1) + 1) + 1) + 1) + 1)), (4, yI (z24)), (2, yI (z6)), (0, yR k0), (1, yI (p1))]) rfl ?_
                    refine yG.load xik rfl (fun _ _ => rfl) (v := yI (z24)) rfl rfl ?_
                    refine yG.num (c := 10) rfl (fun _ _ => rfl) (by decide) ?_
                    refine yG.idiv rfl ⟨by omega, by omega⟩ ⟨by omega, by omega⟩ (by omega) (by omega) ?_
                    obtain ⟨z26, e_z26⟩ : ∃ z : Int, z = (z24) / (10) := ⟨_, rfl⟩
                    rw [← e_z26]
                    refine yG.store1 xik (L' := [(4, yI (z26)), (3, yI ((((((z11 + 1) + 1) + 1) + 1) + 1) + 1)), (2, yI (z6)), (0, yR k0), (1, yI (p1))]) rfl (fun _ _ => rfl) rfl rfl ?_
                    refine yG.goto rfl (t := 78) rfl ?_
                    refine yG.load xik rfl (fun _ _ => rfl) (v := yI (z26)) rfl rfl ?_
                    refine yG.ifz rfl (t := 96) rfl ⟨by omega, by omega⟩ (fun c27 => ?_) (fun c27 => ?_)
                    · have c27 : (z26 : Int) ≤ 0 := c27
                      refine yG.load xik rfl (fun _ _ => rfl) (v := yI ((((((z11 + 1) + 1) + 1) + 1) + 1) + 1)) rfl rfl ?_
                      refine yG.ret rfl (fun _ _ => rfl) ?_
                      exact (yP.int ⟨by omega, by omega⟩ ⟨⟨⟨(((((z11 + 1) + 1) + 1) + 1) + 1) + 1, rfl, by omega, by omega, trivial⟩, A_h3⟩, by omega, by omega⟩)
                    · have c27 : (z26 : Int) > 0 := c27
                      refine yG.iinc rfl (a := (((((z11 + 1) + 1) + 1) + 1) + 1) + 1) rfl (L' := [(3, yI (((((((z11 + 1) + 1) + 1) + 1) + 1) + 1) + 1)), (4, yI (z26)), (2, yI (z6)), (0, yR k0), (1, yI (p1))]) rfl ?_
                      refine yG.load xik rfl (fun _ _ => rfl) (v := yI (z26)) rfl rfl ?_
                      refine yG.num (c := 10) rfl (fun _ _ => rfl) (by decide) ?_
                      refine yG.idiv rfl ⟨by omega, by omega⟩ ⟨by omega, by omega⟩ (by omega) (by omega) ?_
                      obtain ⟨z28, e_z28⟩ : ∃ z : Int, z = (z26) / (10) := ⟨_, rfl⟩
                      rw [← e_z28]
                      refine yG.store1 xik (L' := [(4, yI (z28)), (3, yI (((((((z11 + 1) + 1) + 1) + 1) + 1) + 1) + 1)), (2, yI (z6)), (0, yR k0), (1, yI (p1))]) rfl (fun _ _ => rfl) rfl rfl ?_
                      refine yG.goto rfl (t := 78) rfl ?_
                      refine yG.load xik rfl (fun _ _ => rfl) (v := yI (z28)) rfl rfl ?_
                      refine yG.ifz rfl (t := 96) rfl ⟨by omega, by omega⟩ (fun c29 => ?_) (fun c29 => ?_)
                      · have c29 : (z28 : Int) ≤ 0 := c29
                        refine yG.load xik rfl (fun _ _ => rfl) (v := yI (((((((z11 + 1) + 1) + 1) + 1) + 1) + 1) + 1)) rfl rfl ?_
                        refine yG.ret rfl (fun _ _ => rfl) ?_
                        exact (yP.int ⟨by omega, by omega⟩ ⟨⟨⟨((((((z11 + 1) + 1) + 1) + 1) + 1) + 1) + 1, rfl, by omega, by omega, trivial⟩, A_h3⟩, by omega, by omega⟩)
                      · have c29 : (z28 : Int) > 0 := c29
                        refine yG.iinc rfl (a := ((((((z11 + 1) + 1) + 1) + 1) + 1) + 1) + 1) rfl (L' := [(3, yI ((((((((z11 + 1) + 1) + 1) + 1) + 1) + 1) + 1) + 1)), (4, yI (z28)), (2, yI (z6)), (0, yR k0), (1, yI (p1))]) rfl ?_
                        refine yG.load xik rfl (fun _ _ => rfl) (v := yI (z28)) rfl rfl ?_
                        refine yG.num (c := 10) rfl (fun _ _ => rfl) (by decide) ?_
                        refine yG.idiv rfl ⟨by omega, by omega⟩ ⟨by omega, by omega⟩ (by omega) (by omega) ?_
                        obtain ⟨z30, e_z30⟩ : ∃ z : Int, z = (z28) / (10) := ⟨_, rfl⟩
                        rw [← e_z30]
                        refine yG.store1 xik (L' := [(4, yI (z30)), (3, yI ((((((((z11 + 1) + 1) + 1) + 1) + 1) + 1) + 1) + 1)), (2, yI (z6)), (0, yR k0), (1, yI (p1))]) rfl (fun _ _ => rfl) rfl rfl ?_
                        refine yG.goto rfl (t := 78) rfl ?_
                        refine yG.load xik rfl (fun _ _ => rfl) (v := yI (z30)) rfl rfl ?_
                        refine yG.ifz rfl (t := 96) rfl ⟨by omega, by omega⟩ (fun c31 => ?_) (fun c31 => ?_)
                        · have c31 : (z30 : Int) ≤ 0 := c31
                          refine yG.load xik rfl (fun _ _ => rfl) (v := yI ((((((((z11 + 1) + 1) + 1) + 1) + 1) + 1) + 1) + 1)) rfl rfl ?_
                          refine yG.ret rfl (fun _ _ => rfl) ?_
                          exact (yP.int ⟨by omega, by omega⟩ ⟨⟨⟨(((((((z11 + 1) + 1) + 1) + 1) + 1) + 1) + 1) + 1, rfl, by omega, by omega, trivial⟩, A_h3⟩, by omega, by omega⟩)
                        · have c31 : (z30 : Int) > 0 := c31
                          refine yG.iinc rfl (a := (((((((z11 + 1) + 1) + 1) + 1) + 1) + 1) + 1) + 1) rfl (L' := [(3, yI (((((((((z11 + 1) + 1) + 1) + 1) + 1) + 1) + 1) + 1) + 1)), (4, yI (z30)), (2, yI (z6)), (0, yR k0), (1, yI (p1))]) rfl ?_
                          refine yG.load xik rfl (fun _ _ => rfl) (v := yI (z30)) rfl rfl ?_
                          refine yG.num (c := 10) rfl (fun _ _ => rfl) (by decide) ?_
                          refine yG.idiv rfl ⟨by omega, by omega⟩ ⟨by omega, by omega⟩ (by omega) (by omega) ?_
                          obtain ⟨z32, e_z32⟩ : ∃ z : Int, z = (z30) / (10) := ⟨_, rfl⟩
                          rw [← e_z32]
                          refine yG.store1 xik (L' := [(4, yI (z32)), (3, yI (((((((((z11 + 1) + 1) + 1) + 1) + 1) + 1) + 1) + 1) + 1)), (2, yI (z6)), (0, yR k0), (1, yI (p1))]) rfl (fun _ _ => rfl) rfl rfl ?_
                          refine yG.goto rfl (t := 78) rfl ?_
                          refine yG.load xik rfl (fun _ _ => rfl) (v := yI (z32)) rfl rfl ?_
                          refine yG.ifz rfl (t := 96) rfl ⟨by omega, by omega⟩ (fun c33 => ?_) (fun c33 => ?_)
                          · have c33 : (z32 : Int) ≤ 0 := c33
                            refine yG.load xik rfl (fun _ _ => rfl) (v := yI (((((((((z11 + 1) + 1) + 1) + 1) + 1) + 1) + 1) + 1) + 1)) rfl rfl ?_
                            refine yG.ret rfl (fun _ _ => rfl) ?_
                            exact (yP.int ⟨by omega, by omega⟩ ⟨⟨⟨((((((((z11 + 1) + 1) + 1) + 1) + 1) + 1) + 1) + 1) + 1, rfl, by omega, by omega, trivial⟩, A_h3⟩, by omega, by omega⟩)
                          · have c33 : (z32 : Int) > 0 := c33
                            exfalso; omega
      · have c9 : (z8 : Int) = 0 := c9
        refine yG.num (c := 1) rfl (fun _ _ => rfl) (by decide) ?_
        refine yG.ret rfl (fun _ _ => rfl) ?_
        exact (yP.int ⟨by omega, by omega⟩ ⟨⟨⟨1, rfl, by omega, by omega, trivial⟩, A_h3⟩, by omega, by omega⟩)
    · have c5 : (z4 : Int) > 0 := c5
      exfalso; omega
theorem c_GModel_figures_l {hp : xH} (W : mW G) (d : Nat) (hT : zTy G hp) {k0 : Nat} (H_k0 : bRo G 116 k0) (p1 : Int) (h1l : (-2147483648) ≤ p1) (h1u : p1 ≤ (-1)) : yC (xcall 89 xfts xpools xms (d + 2)) 401 [yR k0, yI (p1)] hp (fun rv hp' => (bQi G [(83076749736557242056487941267521536, 0)] hp 0 0 (fun _ => True)) rv hp' ∧ (1 ≤ ys hp' k0 0 ∧ ys hp' k0 0 ≤ 1)) := by
  have A_hp : bAx G [(83076749736557242056487941267521536, 0)] hp hp := bAx.rf hT
  refine yC.of (M := (xt_X13_figures, (5, (1, (14, []))))) rfl rfl (N := 48) (yfuel (by decide)) ?_
  show yG 89 xfts (xcall 89 xfts xpools xms (d + 1)) (xpool xp_RX13) [] xt_X13_figures (yP 1 (fun rv hp' => (bQi G [(83076749736557242056487941267521536, 0)] hp 0 0 (fun _ => True)) rv hp' ∧ (1 ≤ ys hp' k0 0 ∧ ys hp' k0 0 ≤ 1))) 48 0 [(0, yR k0), (1, yI (p1))] [] hp
  refine yG.load xak rfl (fun _ _ => rfl) (v := yR k0) rfl rfl ?_
  refine yG.load xik rfl (fun _ _ => rfl) (v := yI (p1)) rfl rfl ?_
  refine yG.i2l rfl ⟨by omega, by omega⟩ ?_
  refine yG.numl (c := 0) rfl (fun _ _ => rfl) (by decide) ?_
  refine yG.numl (c := 1) rfl (fun _ _ => rfl) (by decide) ?_
  refine yG.invS (rest := [yR k0]) rfl rfl rfl rfl (c_GModel_in_l W d A_hp.1 (p1) (0) (1) (by omega) (by omega) (by omega) (by omega) (by omega) (by omega) (by omega)) (fun rv hp9 q9 => ?_)
  obtain ⟨⟨z1, rfl, l_z1, u_z1, R_z1⟩, e9⟩ := q9
  rw [e9]
  show yG _ _ _ _ _ _ _ _ _ _ (yI z1 :: [yR k0]) _
  refine yG.ifz rfl (t := 15) rfl ⟨by omega, by omega⟩ (fun c2 => ?_) (fun c2 => ?_)
  · have c2 : (z1 : Int) = 0 := c2
    refine yG.num (c := 1) rfl (fun _ _ => rfl) (by decide) ?_
    refine yG.putI A_hp.1 (w_M_thrown W H_k0) (W.2.1 _ _ H_k0 (by decide) (by decide)) rfl rfl (.inl rfl) ⟨by omega, by omega⟩ (by omega) (by omega) (fun h3 T_h3 b_h3 f_h3 y_h3 => ?_)
    have A_h3 := A_hp.put T_h3 b_h3 f_h3 H_k0 (by decide)
    have : ys h3 k0 0 = 1 := (y_h3 k0 0).trans (if_pos ⟨rfl, rfl⟩)
    refine yG.load xak rfl (fun _ _ => rfl) (v := yR k0) rfl rfl ?_
    refine yG.getI A_h3.1 (w_M_thrown W H_k0) rfl rfl (fun z4 e_z4 i_z4 l_z4 u_z4 => ?_)
    refine yG.ifz rfl (t := 28) rfl ⟨by omega, by omega⟩ (fun c5 => ?_) (fun c5 => ?_)
    · have c5 : (z4 : Int) ≤ 0 := c5
      exfalso; omega
    · have c5 : (z4 : Int) > 0 := c5
      refine yG.num (c := 0) rfl (fun _ _ => rfl) (by decide) ?_
      refine yG.ret rfl (fun _ _ => rfl) ?_
      exact (yP.int ⟨by omega, by omega⟩ ⟨⟨⟨0, rfl, by omega, by omega, trivial⟩, A_h3⟩, by omega, by omega⟩)
  · have c2 : (z1 : Int) ≠ 0 := c2
    exfalso; omega
theorem c_GModel_figures_h {hp : xH} (W : mW G) (d : Nat) (hT : zTy G hp) {k0 : Nat} (H_k0 : bRo G 116 k0) (p1 : Int) (h1l : 2 ≤ p1) (h1u : p1 ≤ 2147483647) : yC (xcall 89 xfts xpools xms (d + 2)) 401 [yR k0, yI (p1)] hp (fun rv hp' => (bQi G [(83076749736557242056487941267521536, 0)] hp 0 0 (fun _ => True)) rv hp' ∧ (1 ≤ ys hp' k0 0 ∧ ys hp' k0 0 ≤ 1)) := by
  have A_hp : bAx G [(83076749736557242056487941267521536, 0)] hp hp := bAx.rf hT
  refine yC.of (M := (xt_X13_figures, (5, (1, (14, []))))) rfl rfl (N := 48) (yfuel (by decide)) ?_
  show yG 89 xfts (xcall 89 xfts xpools xms (d + 1)) (xpool xp_RX13) [] xt_X13_figures (yP 1 (fun rv hp' => (bQi G [(83076749736557242056487941267521536, 0)] hp 0 0 (fun _ => True)) rv hp' ∧ (1 ≤ ys hp' k0 0 ∧ ys hp' k0 0 ≤ 1))) 48 0 [(0, yR k0), (1, yI (p1))] [] hp
  refine yG.load xak rfl (fun _ _ => rfl) (v := yR k0) rfl rfl ?_
  refine yG.load xik rfl (fun _ _ => rfl) (v := yI (p1)) rfl rfl ?_
  refine yG.i2l rfl ⟨by omega, by omega⟩ ?_
  refine yG.numl (c := 0) rfl (fun _ _ => rfl) (by decide) ?_
  refine yG.numl (c := 1) rfl (fun _ _ => rfl) (by decide) ?_
  refine yG.invS (rest := [yR k0]) rfl rfl rfl rfl (c_GModel_in_h W d A_hp.1 (p1) (0) (1) (by omega) (by omega) (by omega) (by omega) (by omega) (by omega) (by omega)) (fun rv hp9 q9 => ?_)
  obtain ⟨⟨z1, rfl, l_z1, u_z1, R_z1⟩, e9⟩ := q9
  rw [e9]
  show yG _ _ _ _ _ _ _ _ _ _ (yI z1 :: [yR k0]) _
  refine yG.ifz rfl (t := 15) rfl ⟨by omega, by omega⟩ (fun c2 => ?_) (fun c2 => ?_)
  · have c2 : (z1 : Int) = 0 := c2
    refine yG.num (c := 1) rfl (fun _ _ => rfl) (by decide) ?_
    refine yG.putI A_hp.1 (w_M_thrown W H_k0) (W.2.1 _ _ H_k0 (by decide) (by decide)) rfl rfl (.inl rfl) ⟨by omega, by omega⟩ (by omega) (by omega) (fun h3 T_h3 b_h3 f_h3 y_h3 => ?_)
    have A_h3 := A_hp.put T_h3 b_h3 f_h3 H_k0 (by decide)
    have : ys h3 k0 0 = 1 := (y_h3 k0 0).trans (if_pos ⟨rfl, rfl⟩)
    refine yG.load xak rfl (fun _ _ => rfl) (v := yR k0) rfl rfl ?_
    refine yG.getI A_h3.1 (w_M_thrown W H_k0) rfl rfl (fun z4 e_z4 i_z4 l_z4 u_z4 => ?_)
    refine yG.ifz rfl (t := 28) rfl ⟨by omega, by omega⟩ (fun c5 => ?_) (fun c5 => ?_)
    · have c5 : (z4 : Int) ≤ 0 := c5
      exfalso; omega
    · have c5 : (z4 : Int) > 0 := c5
      refine yG.num (c := 0) rfl (fun _ _ => rfl) (by decide) ?_
      refine yG.ret rfl (fun _ _ => rfl) ?_
      exact (yP.int ⟨by omega, by omega⟩ ⟨⟨⟨0, rfl, by omega, by omega, trivial⟩, A_h3⟩, by omega, by omega⟩)
  · have c2 : (z1 : Int) ≠ 0 := c2
    exfalso; omega
theorem c_GModel_figure {hp : xH} (W : mW G) (d : Nat) (hT : zTy G hp) {k0 : Nat} (H_k0 : bRo G 116 k0) (p1 p2 : Int) (h1l : (-2147483648) ≤ p1) (h1u : p1 ≤ 2147483647) (h2l : (-2147483648) ≤ p2) (h2u : p2 ≤ 2147483647) : yC (xcall 89 xfts xpools xms (d + 3)) 400 [yR k0, yI (p1), yI (p2)] hp (bQi G [(83076749736557242056487941267521536, 0)] hp (-1) 9 (fun z => 0 ≤ 0 - p1 + z + 2147483647 ∧ 0 ≤ p1 - z + 2147483648 ∧ 0 ≤ p2 - z + 2147483648)) := by
  have A_hp : bAx G [(83076749736557242056487941267521536, 0)] hp hp := bAx.rf hT
  have H : ∀ m : Nat, (∀ a5 : Int, ∀ a6 : Int, ∀ hq, bAx G [(83076749736557242056487941267521536, 0)] hp hq → 0 ≤ a5 → (-999999999) ≤ 0 - a5 → 0 ≤ a6 → (-8) ≤ 0 - a6 → 0 ≤ p1 → (-1) ≤ 0 - p1 → 0 ≤ p2 → (-2303) ≤ 0 - p2 → 0 ≤ 0 - a6 + p2 → 2 * a6 + 1 < (m : Int) → yG 89 xfts (xcall 89 xfts xpools xms (d + 2)) (xpool xp_RX13) [] xt_X13_figure (yP 1 (bQi G [(83076749736557242056487941267521536, 0)] hp (-1) 9 (fun z => 0 ≤ 0 - p1 + z + 2147483647 ∧ 0 ≤ p1 - z + 2147483648 ∧ 0 ≤ p2 - z + 2147483648))) (42 * m) 75 [(5, yI (a5)), (6, yI (a6))] [] hq) := by
    intro m
    induction m with
    | zero =>
      intros; exfalso; omega
    | succ m ih =>
      have i_75 := ih
      clear ih
      intro a5 a6 hq A_hq f0 f1 f2 f3 f4 f5 f6 f7 f8 hm
      refine yG.mono (N := 42 * m + 42) ?_ (by omega)
      refine yG.load xik rfl (fun _ _ => rfl) (v := yI (a6)) rfl rfl ?_
      refine yG.ifz rfl (t := 93) rfl ⟨by omega, by omega⟩ (fun c1 => ?_) (fun c1 => ?_)
      · have c1 : (a6 : Int) ≤ 0 := c1
        refine yG.load xik rfl (fun _ _ => rfl) (v := yI (a5)) rfl rfl ?_
        refine yG.num (c := 10) rfl (fun _ _ => rfl) (by decide) ?_
        refine yG.irem rfl ⟨by omega, by omega⟩ ⟨by omega, by omega⟩ (by omega) (by omega) ?_
        obtain ⟨z2, e_z2⟩ : ∃ z : Int, z = (a5) % (10) := ⟨_, rfl⟩
        rw [← e_z2]
        refine yG.ret rfl (fun _ _ => rfl) ?_
        exact (yP.int ⟨by omega, by omega⟩ ⟨⟨z2, rfl, by omega, by omega, by omega⟩, A_hq⟩)
      · have c1 : (a6 : Int) > 0 := c1
        refine yG.load xik rfl (fun _ _ => rfl) (v := yI (a5)) rfl rfl ?_
        refine yG.num (c := 10) rfl (fun _ _ => rfl) (by decide) ?_
        refine yG.idiv rfl ⟨by omega, by omega⟩ ⟨by omega, by omega⟩ (by omega) (by omega) ?_
        obtain ⟨z3, e_z3⟩ : ∃ z : Int, z = (a5) / (10) := ⟨_, rfl⟩
        rw [← e_z3]
        refine yG.store1 xik (L' := [(5, yI (z3)), (6, yI (a6))]) rfl (fun _ _ => rfl) rfl rfl ?_
        refine yG.iinc rfl (a := a6) rfl (L' := [(6, yI (a6 + (-1))), (5, yI (z3))]) rfl ?_
        refine yG.goto rfl (t := 75) rfl ?_
        exact yG.mono (yG.sub (i_75 (z3) (a6 + (-1))  hq A_hq   (by omega) (by omega) (by omega) (by omega) (by omega) (by omega) (by omega) (by omega) (by omega) (by omega)) (ySub.cons rfl (ySub.cons rfl (ySub.nil)))) (by omega)
  refine yC.of (M := (xt_X13_figure, (7, (1, (14, []))))) rfl rfl (N := 840) (yfuel (by decide)) ?_
  show yG 89 xfts (xcall 89 xfts xpools xms (d + 2)) (xpool xp_RX13) [] xt_X13_figure (yP 1 (bQi G [(83076749736557242056487941267521536, 0)] hp (-1) 9 (fun z => 0 ≤ 0 - p1 + z + 2147483647 ∧ 0 ≤ p1 - z + 2147483648 ∧ 0 ≤ p2 - z + 2147483648))) 840 0 [(0, yR k0), (1, yI (p1)), (2, yI (p2))] [] hp
  have i_75 := H 19
  rcases (show p1 ≤ (-1) ∨ p1 ≥ 2 ∨ p1 = 0 ∨ p1 = 1 by omega) with c1 | c1 | c1 | c1
  · skip
    refine yG.load xak rfl (fun _ _ => rfl) (v := yR k0) rfl rfl ?_
    refine yG.load xik rfl (fun _ _ => rfl) (v := yI (p1)) rfl rfl ?_
    refine yG.invV (rest := []) A_hp.1 (bOb (d_M W) H_k0) rfl rfl rfl rfl (c_GModel_figures_l W d A_hp.1 H_k0 (p1) (by omega) (by omega)) (fun rv h2 q9 => ?_)
    obtain ⟨q9, t0_z3, t1_z3⟩ := q9
    obtain ⟨⟨z3, rfl, l_z3, u_z3, R_z3⟩, B_h2⟩ := q9
    have A_h2 := A_hp.tr B_h2 (by decide)
    obtain ⟨g4, e_g4⟩ : ∃ z : Int, z = ys h2 k0 0 := ⟨_, rfl⟩
    show yG _ _ _ _ _ _ _ _ _ _ (yI z3 :: []) _
    refine yG.store1 xik (L' := [(3, yI (z3)), (0, yR k0), (1, yI (p1)), (2, yI (p2))]) rfl (fun _ _ => rfl) rfl rfl ?_
    refine yG.load xak rfl (fun _ _ => rfl) (v := yR k0) rfl rfl ?_
    refine yG.getI A_h2.1 (w_M_thrown W H_k0) rfl rfl (fun z5 e_z5 i_z5 l_z5 u_z5 => ?_)
    rw [show (z5 : Int) = g4 by omega]
    refine yG.ifz rfl (t := 15) rfl ⟨by omega, by omega⟩ (fun c6 => ?_) (fun c6 => ?_)
    · have c6 : (g4 : Int) ≤ 0 := c6
      exfalso; omega
    · have c6 : (g4 : Int) > 0 := c6
      refine yG.num (c := 0) rfl (fun _ _ => rfl) (by decide) ?_
      refine yG.ret rfl (fun _ _ => rfl) ?_
      exact (yP.int ⟨by omega, by omega⟩ ⟨⟨0, rfl, by omega, by omega, by omega⟩, A_h2⟩)
  · skip
    refine yG.load xak rfl (fun _ _ => rfl) (v := yR k0) rfl rfl ?_
    refine yG.load xik rfl (fun _ _ => rfl) (v := yI (p1)) rfl rfl ?_
    refine yG.invV (rest := []) A_hp.1 (bOb (d_M W) H_k0) rfl rfl rfl rfl (c_GModel_figures_h W d A_hp.1 H_k0 (p1) (by omega) (by omega)) (fun rv h7 q9 => ?_)
    obtain ⟨q9, t0_z8, t1_z8⟩ := q9
    obtain ⟨⟨z8, rfl, l_z8, u_z8, R_z8⟩, B_h7⟩ := q9
    have A_h7 := A_hp.tr B_h7 (by decide)
    obtain ⟨g9, e_g9⟩ : ∃ z : Int, z = ys h7 k0 0 := ⟨_, rfl⟩
    show yG _ _ _ _ _ _ _ _ _ _ (yI z8 :: []) _
    refine yG.store1 xik (L' := [(3, yI (z8)), (0, yR k0), (1, yI (p1)), (2, yI (p2))]) rfl (fun _ _ => rfl) rfl rfl ?_
    refine yG.load xak rfl (fun _ _ => rfl) (v := yR k0) rfl rfl ?_
    refine yG.getI A_h7.1 (w_M_thrown W H_k0) rfl rfl (fun z10 e_z10 i_z10 l_z10 u_z10 => ?_)
    rw [show (z10 : Int) = g9 by omega]
    refine yG.ifz rfl (t := 15) rfl ⟨by omega, by omega⟩ (fun c11 => ?_) (fun c11 => ?_)
    · have c11 : (g9 : Int) ≤ 0 := c11
      exfalso; omega
    · have c11 : (g9 : Int) > 0 := c11
      refine yG.num (c := 0) rfl (fun _ _ => rfl) (by decide) ?_
      refine yG.ret rfl (fun _ _ => rfl) ?_
      exact (yP.int ⟨by omega, by omega⟩ ⟨⟨0, rfl, by omega, by omega, by omega⟩, A_h7⟩)
  · subst c1
    refine yG.load xak rfl (fun _ _ => rfl) (v := yR k0) rfl rfl ?_
    refine yG.load xik rfl (fun _ _ => rfl) (v := yI (0)) rfl rfl ?_
    refine yG.invV (rest := []) A_hp.1 (bOb (d_M W) H_k0) rfl rfl rfl rfl (c_GModel_figures_0 W d A_hp.1 H_k0 (0) (by omega) (by omega)) (fun rv h12 q9 => ?_)
    obtain ⟨q9, t0_z13, t1_z13⟩ := q9
    obtain ⟨⟨z13, rfl, l_z13, u_z13, R_z13⟩, B_h12⟩ := q9
    have A_h12 := A_hp.tr B_h12 (by decide)
    obtain ⟨g14, e_g14⟩ : ∃ z : Int, z = ys h12 k0 0 := ⟨_, rfl⟩
    show yG _ _ _ _ _ _ _ _ _ _ (yI z13 :: []) _
    refine yG.store1 xik (L' := [(3, yI (z13)), (0, yR k0), (1, yI (0)), (2, yI (p2))]) rfl (fun _ _ => rfl) rfl rfl ?_
    refine yG.load xak rfl (fun _ _ => rfl) (v := yR k0) rfl rfl ?_
    refine yG.getI A_h12.1 (w_M_thrown W H_k0) rfl rfl (fun z15 e_z15 i_z15 l_z15 u_z15 => ?_)
    rw [show (z15 : Int) = g14 by omega]
    refine yG.ifz rfl (t := 15) rfl ⟨by omega, by omega⟩ (fun c16 => ?_) (fun c16 => ?_)
    · have c16 : (g14 : Int) ≤ 0 := c16
      refine yG.load xik rfl (fun _ _ => rfl) (v := yI (p2)) rfl rfl ?_
      refine yG.i2l rfl ⟨by omega, by omega⟩ ?_
      refine yG.numl (c := 0) rfl (fun _ _ => rfl) (by decide) ?_
      refine yG.load xik rfl (fun _ _ => rfl) (v := yI (z13)) rfl rfl ?_
      refine yG.num (c := 1) rfl (fun _ _ => rfl) (by decide) ?_
      refine yG.isub rfl ?_
      refine yG.i2l rfl ⟨by omega, by omega⟩ ?_
      refine yG.invS (rest := []) rfl rfl rfl rfl (c_GModel_in W (d + 1) A_h12.1 (p2) (0) (z13 - 1) (by omega) (by omega) (by omega) (by omega) (by omega) (by omega)) (fun rv hp9 q9 => ?_)
      obtain ⟨⟨z17, rfl, l_z17, u_z17, R_z17⟩, e9⟩ := q9
      rw [e9]
      show yG _ _ _ _ _ _ _ _ _ _ (yI z17 :: []) _
      refine yG.ifz rfl (t := 30) rfl ⟨by omega, by omega⟩ (fun c18 => ?_) (fun c18 => ?_)
      · have c18 : (z17 : Int) ≠ 0 := c18
        replace R_z17 := R_z17 (by omega)
        refine yG.num (c := 188) rfl (fun _ _ => rfl) (by decide) ?_
        refine yG.load xik rfl (fun _ _ => rfl) (v := yI (0)) rfl rfl ?_
        refine yG.iadd rfl ?_
        rw [show (188 + 0 : Int) = 188 by omega]
        refine yG.store1 xik (L' := [(4, yI (188)), (3, yI (z13)), (0, yR k0), (1, yI (0)), (2, yI (p2))]) rfl (fun _ _ => rfl) rfl rfl ?_
        refine yG.load xak rfl (fun _ _ => rfl) (v := yR k0) rfl rfl ?_
        refine yG.getO A_h12.1 (w_M_length W H_k0) rfl rfl (fun r19 H_r19 O_r19 q_r19 => ?_)
        refine yG.load xik rfl (fun _ _ => rfl) (v := yI (188)) rfl rfl ?_
        refine yG.iald A_h12.1 (v_M_length W H_r19) rfl (by omega) (by omega) (fun z20 e_z20 i_z20 l_z20 u_z20 => ?_)
        refine yG.ifz rfl (t := 51) rfl ⟨by omega, by omega⟩ (fun c21 => ?_) (fun c21 => ?_)
        · have c21 : (z20 : Int) ≠ 0 := c21
          refine yG.load xak rfl (fun _ _ => rfl) (v := yR k0) rfl rfl ?_
          refine yG.getO A_h12.1 (w_M_big W H_k0) rfl rfl (fun r22 H_r22 O_r22 q_r22 => ?_)
          refine yG.num (c := 256) rfl (fun _ _ => rfl) (by decide) ?_
          refine yG.load xik rfl (fun _ _ => rfl) (v := yI (188)) rfl rfl ?_
          refine yG.imul rfl ?_
          refine yG.load xik rfl (fun _ _ => rfl) (v := yI (p2)) rfl rfl ?_
          refine yG.num (c := 9) rfl (fun _ _ => rfl) (by decide) ?_
          refine yG.idiv rfl ⟨by omega, by omega⟩ ⟨by omega, by omega⟩ (by omega) (by omega) ?_
          obtain ⟨z23, e_z23⟩ : ∃ z : Int, z = (p2) / (9) := ⟨_, rfl⟩
          rw [← e_z23]
          refine yG.iadd rfl ?_
          refine yG.iald A_h12.1 (v_M_big W H_r22) rfl (by omega) (by omega) (fun z24 e_z24 i_z24 l_z24 u_z24 => ?_)
          refine yG.store1 xik (L' := [(5, yI (z24)), (4, yI (188)), (3, yI (z13)), (0, yR k0), (1, yI (0)), (2, yI (p2))]) rfl (fun _ _ => rfl) rfl rfl ?_
          refine yG.load xik rfl (fun _ _ => rfl) (v := yI (p2)) rfl rfl ?_
          refine yG.num (c := 9) rfl (fun _ _ => rfl) (by decide) ?_
          refine yG.irem rfl ⟨by omega, by omega⟩ ⟨by omega, by omega⟩ (by omega) (by omega) ?_
          obtain ⟨z25, e_z25⟩ : ∃ z : Int, z = (p2) % (9) := ⟨_, rfl⟩
          rw [← e_z25]
          refine yG.store1 xik (L' := [(6, yI (z25)), (5, yI (z24)), (4, yI (188)), (3, yI (z13)), (0, yR k0), (1, yI (0)), (2, yI (p2))]) rfl (fun _ _ => rfl) rfl rfl ?_
          exact yG.mono (yG.sub (i_75 (z24) (z25)  h12 A_h12   (by omega) (by omega) (by omega) (by omega) (by omega) (by omega) (by omega) (by omega) (by omega) (by omega)) (ySub.cons rfl (ySub.cons rfl (ySub.nil)))) (by omega)
        · have c21 : (z20 : Int) = 0 := c21
          refine yG.num (c := 0) rfl (fun _ _ => rfl) (by decide) ?_
          refine yG.goto rfl (t := 67) rfl ?_
          refine yG.store1 xik (L' := [(5, yI (0)), (4, yI (188)), (3, yI (z13)), (0, yR k0), (1, yI (0)), (2, yI (p2))]) rfl (fun _ _ => rfl) rfl rfl ?_
          refine yG.load xik rfl (fun _ _ => rfl) (v := yI (p2)) rfl rfl ?_
          refine yG.num (c := 9) rfl (fun _ _ => rfl) (by decide) ?_
          refine yG.irem rfl ⟨by omega, by omega⟩ ⟨by omega, by omega⟩ (by omega) (by omega) ?_
          obtain ⟨z26, e_z26⟩ : ∃ z : Int, z = (p2) % (9) := ⟨_, rfl⟩
          rw [← e_z26]
          refine yG.store1 xik (L' := [(6, yI (z26)), (5, yI (0)), (4, yI (188)), (3, yI (z13)), (0, yR k0), (1, yI (0)), (2, yI (p2))]) rfl (fun _ _ => rfl) rfl rfl ?_
          exact yG.mono (yG.sub (i_75 (0) (z26)  h12 A_h12   (by omega) (by omega) (by omega) (by omega) (by omega) (by omega) (by omega) (by omega) (by omega) (by omega)) (ySub.cons rfl (ySub.cons rfl (ySub.nil)))) (by omega)
      · have c18 : (z17 : Int) = 0 := c18
        clear R_z17
        refine yG.num (c := -1) rfl (fun _ _ => rfl) (by decide) ?_
        refine yG.ret rfl (fun _ _ => rfl) ?_
        exact (yP.int ⟨by omega, by omega⟩ ⟨⟨(-1), rfl, by omega, by omega, by omega⟩, A_h12⟩)
    · have c16 : (g14 : Int) > 0 := c16
      exfalso; omega
  · subst c1
    refine yG.load xak rfl (fun _ _ => rfl) (v := yR k0) rfl rfl ?_
    refine yG.load xik rfl (fun _ _ => rfl) (v := yI (1)) rfl rfl ?_
    refine yG.invV (rest := []) A_hp.1 (bOb (d_M W) H_k0) rfl rfl rfl rfl (c_GModel_figures_0 W d A_hp.1 H_k0 (1) (by omega) (by omega)) (fun rv h27 q9 => ?_)
    obtain ⟨q9, t0_z28, t1_z28⟩ := q9
    obtain ⟨⟨z28, rfl, l_z28, u_z28, R_z28⟩, B_h27⟩ := q9
    have A_h27 := A_hp.tr B_h27 (by decide)
    obtain ⟨g29, e_g29⟩ : ∃ z : Int, z = ys h27 k0 0 := ⟨_, rfl⟩
    show yG _ _ _ _ _ _ _ _ _ _ (yI z28 :: []) _
    refine yG.store1 xik (L' := [(3, yI (z28)), (0, yR k0), (1, yI (1)), (2, yI (p2))]) rfl (fun _ _ => rfl) rfl rfl ?_
    refine yG.load xak rfl (fun _ _ => rfl) (v := yR k0) rfl rfl ?_
    refine yG.getI A_h27.1 (w_M_thrown W H_k0) rfl rfl (fun z30 e_z30 i_z30 l_z30 u_z30 => ?_)
    rw [show (z30 : Int) = g29 by omega]
    refine yG.ifz rfl (t := 15) rfl ⟨by omega, by omega⟩ (fun c31 => ?_) (fun c31 => ?_)
    · have c31 : (g29 : Int) ≤ 0 := c31
      refine yG.load xik rfl (fun _ _ => rfl) (v := yI (p2)) rfl rfl ?_
      refine yG.i2l rfl ⟨by omega, by omega⟩ ?_
      refine yG.numl (c := 0) rfl (fun _ _ => rfl) (by decide) ?_
      refine yG.load xik rfl (fun _ _ => rfl) (v := yI (z28)) rfl rfl ?_
      refine yG.num (c := 1) rfl (fun _ _ => rfl) (by decide) ?_
      refine yG.isub rfl ?_
      refine yG.i2l rfl ⟨by omega, by omega⟩ ?_
      refine yG.invS (rest := []) rfl rfl rfl rfl (c_GModel_in W (d + 1) A_h27.1 (p2) (0) (z28 - 1) (by omega) (by omega) (by omega) (by omega) (by omega) (by omega)) (fun rv hp9 q9 => ?_)
      obtain ⟨⟨z32, rfl, l_z32, u_z32, R_z32⟩, e9⟩ := q9
      rw [e9]
      show yG _ _ _ _ _ _ _ _ _ _ (yI z32 :: []) _
      refine yG.ifz rfl (t := 30) rfl ⟨by omega, by omega⟩ (fun c33 => ?_) (fun c33 => ?_)
      · have c33 : (z32 : Int) ≠ 0 := c33
        replace R_z32 := R_z32 (by omega)
        refine yG.num (c := 188) rfl (fun _ _ => rfl) (by decide) ?_
        refine yG.load xik rfl (fun _ _ => rfl) (v := yI (1)) rfl rfl ?_
        refine yG.iadd rfl ?_
        rw [show (188 + 1 : Int) = 189 by omega]
        refine yG.store1 xik (L' := [(4, yI (189)), (3, yI (z28)), (0, yR k0), (1, yI (1)), (2, yI (p2))]) rfl (fun _ _ => rfl) rfl rfl ?_
        refine yG.load xak rfl (fun _ _ => rfl) (v := yR k0) rfl rfl ?_
        refine yG.getO A_h27.1 (w_M_length W H_k0) rfl rfl (fun r34 H_r34 O_r34 q_r34 => ?_)
        refine yG.load xik rfl (fun _ _ => rfl) (v := yI (189)) rfl rfl ?_
        refine yG.iald A_h27.1 (v_M_length W H_r34) rfl (by omega) (by omega) (fun z35 e_z35 i_z35 l_z35 u_z35 => ?_)
        refine yG.ifz rfl (t := 51) rfl ⟨by omega, by omega⟩ (fun c36 => ?_) (fun c36 => ?_)
        · have c36 : (z35 : Int) ≠ 0 := c36
          refine yG.load xak rfl (fun _ _ => rfl) (v := yR k0) rfl rfl ?_
          refine yG.getO A_h27.1 (w_M_big W H_k0) rfl rfl (fun r37 H_r37 O_r37 q_r37 => ?_)
          refine yG.num (c := 256) rfl (fun _ _ => rfl) (by decide) ?_
          refine yG.load xik rfl (fun _ _ => rfl) (v := yI (189)) rfl rfl ?_
          refine yG.imul rfl ?_
          refine yG.load xik rfl (fun _ _ => rfl) (v := yI (p2)) rfl rfl ?_
          refine yG.num (c := 9) rfl (fun _ _ => rfl) (by decide) ?_
          refine yG.idiv rfl ⟨by omega, by omega⟩ ⟨by omega, by omega⟩ (by omega) (by omega) ?_
          obtain ⟨z38, e_z38⟩ : ∃ z : Int, z = (p2) / (9) := ⟨_, rfl⟩
          rw [← e_z38]
          refine yG.iadd rfl ?_
          refine yG.iald A_h27.1 (v_M_big W H_r37) rfl (by omega) (by omega) (fun z39 e_z39 i_z39 l_z39 u_z39 => ?_)
          refine yG.store1 xik (L' := [(5, yI (z39)), (4, yI (189)), (3, yI (z28)), (0, yR k0), (1, yI (1)), (2, yI (p2))]) rfl (fun _ _ => rfl) rfl rfl ?_
          refine yG.load xik rfl (fun _ _ => rfl) (v := yI (p2)) rfl rfl ?_
          refine yG.num (c := 9) rfl (fun _ _ => rfl) (by decide) ?_
          refine yG.irem rfl ⟨by omega, by omega⟩ ⟨by omega, by omega⟩ (by omega) (by omega) ?_
          obtain ⟨z40, e_z40⟩ : ∃ z : Int, z = (p2) % (9) := ⟨_, rfl⟩
          rw [← e_z40]
          refine yG.store1 xik (L' := [(6, yI (z40)), (5, yI (z39)), (4, yI (189)), (3, yI (z28)), (0, yR k0), (1, yI (1)), (2, yI (p2))]) rfl (fun _ _ => rfl) rfl rfl ?_
          exact yG.mono (yG.sub (i_75 (z39) (z40)  h27 A_h27   (by omega) (by omega) (by omega) (by omega) (by omega) (by omega) (by omega) (by omega) (by omega) (by omega)) (ySub.cons rfl (ySub.cons rfl (ySub.nil)))) (by omega)
        · have c36 : (z35 : Int) = 0 := c36
          refine yG.num (c := 0) rfl (fun _ _ => rfl) (by decide) ?_
          refine yG.goto rfl (t := 67) rfl ?_
          refine yG.store1 xik (L' := [(5, yI (0)), (4, yI (189)), (3, yI (z28)), (0, yR k0), (1, yI (1)), (2, yI (p2))]) rfl (fun _ _ => rfl) rfl rfl ?_
          refine yG.load xik rfl (fun _ _ => rfl) (v := yI (p2)) rfl rfl ?_
          refine yG.num (c := 9) rfl (fun _ _ => rfl) (by decide) ?_
          refine yG.irem rfl ⟨by omega, by omega⟩ ⟨by omega, by omega⟩ (by omega) (by omega) ?_
          obtain ⟨z41, e_z41⟩ : ∃ z : Int, z = (p2) % (9) := ⟨_, rfl⟩
          rw [← e_z41]
          refine yG.store1 xik (L' := [(6, yI (z41)), (5, yI (0)), (4, yI (189)), (3, yI (z28)), (0, yR k0), (1, yI (1)), (2, yI (p2))]) rfl (fun _ _ => rfl) rfl rfl ?_
          exact yG.mono (yG.sub (i_75 (0) (z41)  h27 A_h27   (by omega) (by omega) (by omega) (by omega) (by omega) (by omega) (by omega) (by omega) (by omega) (by omega)) (ySub.cons rfl (ySub.cons rfl (ySub.nil)))) (by omega)
      · have c33 : (z32 : Int) = 0 := c33
        clear R_z32
        refine yG.num (c := -1) rfl (fun _ _ => rfl) (by decide) ?_
        refine yG.ret rfl (fun _ _ => rfl) ?_
        exact (yP.int ⟨by omega, by omega⟩ ⟨⟨(-1), rfl, by omega, by omega, by omega⟩, A_h27⟩)
    · have c31 : (g29 : Int) > 0 := c31
      exfalso; omega
theorem c_GModel_flows {hp : xH} (W : mW G) (d : Nat) (hT : zTy G hp) (M_bRg : bRg G hp) (M_bWf : bWf G hp) (M_bPr : bPr G hp) (H_2073 : bRo G 116 2073) : yC (xcall 89 xfts xpools xms (d + 7)) 405 [yR 2073] hp (fun rv hp' => (fun rv hp' => (fun rv hp' => (rv = none ∧ True) ∧ bAx G [(83076749736557242056487941267521536, 10), (83076749736557242056487941267521536, 11), (83076749736557242056487941267521536, 38), (83076749736557242056487941267521536, 40), (83076749736557242056487941267521536, 45), (83076749736557242056487941267521536, 46), (83076749736557242056487941267521536, 47), (11406831509164627158360868875721268459542151168, 256)] hp hp') rv hp' ∧ bTq G hp') rv hp' ∧ bRg G hp') := by
  have A_hp : bAx G [(83076749736557242056487941267521536, 10), (83076749736557242056487941267521536, 11), (83076749736557242056487941267521536, 38), (83076749736557242056487941267521536, 40), (83076749736557242056487941267521536, 45), (83076749736557242056487941267521536, 46), (83076749736557242056487941267521536, 47), (11406831509164627158360868875721268459542151168, 256)] hp hp := bAx.rf hT
  have M_bRg_hp := M_bRg
  have H : ∀ m : Nat, (∀ a1 : Int, ∀ gg0 : Int, ∀ hq, bAx G [(83076749736557242056487941267521536, 10), (83076749736557242056487941267521536, 11), (83076749736557242056487941267521536, 38), (83076749736557242056487941267521536, 40), (83076749736557242056487941267521536, 45), (83076749736557242056487941267521536, 46), (83076749736557242056487941267521536, 47), (11406831509164627158360868875721268459542151168, 256)] hp hq → bRg G hq → bTq G hq → ys hq 2088 (0 : Int).toNat = gg0 → 0 ≤ a1 → (-16) ≤ 0 - a1 → 0 ≤ gg0 → (-16) ≤ 0 - gg0 → 0 ≤ 0 - a1 + gg0 → (∀ j : Nat, (j : Int) < a1 → 0 ≤ ys hq 2106 j ∧ ys hq 2106 j ≤ 0) → (∀ j : Nat, (j : Int) < a1 → 0 ≤ ys hq 2107 j ∧ ys hq 2107 j ≤ 0) → 0 - 1398957 * a1 + 23782268 < (m : Int) → yG 89 xfts (xcall 89 xfts xpools xms (d + 6)) (xpool xp_RX13) [] xt_X13_flows (yP 0 (fun rv hp' => (fun rv hp' => (fun rv hp' => (rv = none ∧ True) ∧ bAx G [(83076749736557242056487941267521536, 10), (83076749736557242056487941267521536, 11), (83076749736557242056487941267521536, 38), (83076749736557242056487941267521536, 40), (83076749736557242056487941267521536, 45), (83076749736557242056487941267521536, 46), (83076749736557242056487941267521536, 47), (11406831509164627158360868875721268459542151168, 256)] hp hp') rv hp' ∧ bTq G hp') rv hp' ∧ bRg G hp')) (62 * m) 11 [(0, yR 2073), (1, yI (a1))] [] hq) ∧ (∀ a1 : Int, ∀ gg0 : Int, ∀ hq, bAx G [(83076749736557242056487941267521536, 10), (83076749736557242056487941267521536, 11), (83076749736557242056487941267521536, 38), (83076749736557242056487941267521536, 40), (83076749736557242056487941267521536, 45), (83076749736557242056487941267521536, 46), (83076749736557242056487941267521536, 47), (11406831509164627158360868875721268459542151168, 256)] hp hq → bRg G hq → bTq G hq → ys hq 2088 (0 : Int).toNat = gg0 → 0 ≤ a1 → (-12) ≤ 0 - a1 → 0 ≤ gg0 → (-16) ≤ 0 - gg0 → (-11) ≤ 0 - a1 + gg0 → (∀ j : Nat, (j : Int) < gg0 → 0 ≤ ys hq 2106 j ∧ ys hq 2106 j ≤ 9999 * a1) → (∀ j : Nat, (j : Int) < gg0 → 0 ≤ ys hq 2107 j ∧ ys hq 2107 j ≤ 0) → 0 - 107612 * a1 + 1398955 < (m : Int) → yG 89 xfts (xcall 89 xfts xpools xms (d + 6)) (xpool xp_RX13) [] xt_X13_flows (yP 0 (fun rv hp' => (fun rv hp' => (fun rv hp' => (rv = none ∧ True) ∧ bAx G [(83076749736557242056487941267521536, 10), (83076749736557242056487941267521536, 11), (83076749736557242056487941267521536, 38), (83076749736557242056487941267521536, 40), (83076749736557242056487941267521536, 45), (83076749736557242056487941267521536, 46), (83076749736557242056487941267521536, 47), (11406831509164627158360868875721268459542151168, 256)] hp hp') rv hp' ∧ bTq G hp') rv hp' ∧ bRg G hp')) (62 * m) 82 [(0, yR 2073), (1, yI (a1))] [] hq) ∧ (∀ a1 : Int, ∀ gg0 : Int, ∀ hq, bAx G [(83076749736557242056487941267521536, 10), (83076749736557242056487941267521536, 11), (83076749736557242056487941267521536, 38), (83076749736557242056487941267521536, 40), (83076749736557242056487941267521536, 45), (83076749736557242056487941267521536, 46), (83076749736557242056487941267521536, 47), (11406831509164627158360868875721268459542151168, 256)] hp hq → bRg G hq → bTq G hq → ys hq 2088 (0 : Int).toNat = gg0 → 0 ≤ a1 → (-6) ≤ 0 - a1 → 0 ≤ gg0 → (-16) ≤ 0 - gg0 → (-5) ≤ 0 - a1 + gg0 → (∀ j : Nat, (j : Int) < gg0 → 0 - 9999 * a1 ≤ ys hq 2106 j ∧ ys hq 2106 j ≤ 119988) → (∀ j : Nat, (j : Int) < gg0 → 0 ≤ ys hq 2107 j ∧ ys hq 2107 j ≤ 9 * a1) → 0 - 15373 * a1 + 107610 < (m : Int) → yG 89 xfts (xcall 89 xfts xpools xms (d + 6)) (xpool xp_RX13) [] xt_X13_flows (yP 0 (fun rv hp' => (fun rv hp' => (fun rv hp' => (rv = none ∧ True) ∧ bAx G [(83076749736557242056487941267521536, 10), (83076749736557242056487941267521536, 11), (83076749736557242056487941267521536, 38), (83076749736557242056487941267521536, 40), (83076749736557242056487941267521536, 45), (83076749736557242056487941267521536, 46), (83076749736557242056487941267521536, 47), (11406831509164627158360868875721268459542151168, 256)] hp hp') rv hp' ∧ bTq G hp') rv hp' ∧ bRg G hp')) (62 * m) 159 [(0, yR 2073), (1, yI (a1))] [] hq) ∧ (∀ a1 : Int, ∀ gg0 : Int, ∀ hq, bAx G [(83076749736557242056487941267521536, 10), (83076749736557242056487941267521536, 11), (83076749736557242056487941267521536, 38), (83076749736557242056487941267521536, 40), (83076749736557242056487941267521536, 45), (83076749736557242056487941267521536, 46), (83076749736557242056487941267521536, 47), (11406831509164627158360868875721268459542151168, 256)] hp hq → bRg G hq → bTq G hq → ys hq 2088 (0 : Int).toNat = gg0 → 0 ≤ a1 → (-20) ≤ 0 - a1 → 0 ≤ gg0 → (-16) ≤ 0 - gg0 → 0 - 732 * a1 + 15371 < (m : Int) → yG 89 xfts (xcall 89 xfts xpools xms (d + 6)) (xpool xp_RX13) [] xt_X13_flows (yP 0 (fun rv hp' => (fun rv hp' => (fun rv hp' => (rv = none ∧ True) ∧ bAx G [(83076749736557242056487941267521536, 10), (83076749736557242056487941267521536, 11), (83076749736557242056487941267521536, 38), (83076749736557242056487941267521536, 40), (83076749736557242056487941267521536, 45), (83076749736557242056487941267521536, 46), (83076749736557242056487941267521536, 47), (11406831509164627158360868875721268459542151168, 256)] hp hp') rv hp' ∧ bTq G hp') rv hp' ∧ bRg G hp')) (62 * m) 256 [(0, yR 2073), (1, yI (a1))] [] hq) ∧ (∀ a1 : Int, ∀ gg0 : Int, ∀ hq, bAx G [(83076749736557242056487941267521536, 10), (83076749736557242056487941267521536, 11), (83076749736557242056487941267521536, 38), (83076749736557242056487941267521536, 40), (83076749736557242056487941267521536, 45), (83076749736557242056487941267521536, 46), (83076749736557242056487941267521536, 47), (11406831509164627158360868875721268459542151168, 256)] hp hq → bRg G hq → bTq G hq → ys hq 2088 (0 : Int).toNat = gg0 → 0 ≤ a1 → (-16) ≤ 0 - a1 → 0 ≤ gg0 → (-16) ≤ 0 - gg0 → 0 ≤ 0 - a1 + gg0 → 0 - 43 * a1 + 730 < (m : Int) → yG 89 xfts (xcall 89 xfts xpools xms (d + 6)) (xpool xp_RX13) [] xt_X13_flows (yP 0 (fun rv hp' => (fun rv hp' => (fun rv hp' => (rv = none ∧ True) ∧ bAx G [(83076749736557242056487941267521536, 10), (83076749736557242056487941267521536, 11), (83076749736557242056487941267521536, 38), (83076749736557242056487941267521536, 40), (83076749736557242056487941267521536, 45), (83076749736557242056487941267521536, 46), (83076749736557242056487941267521536, 47), (11406831509164627158360868875721268459542151168, 256)] hp hp') rv hp' ∧ bTq G hp') rv hp' ∧ bRg G hp')) (62 * m) 290 [(0, yR 2073), (1, yI (a1))] [] hq) ∧ (∀ a1 : Int, ∀ gg0 : Int, ∀ hq, bAx G [(83076749736557242056487941267521536, 10), (83076749736557242056487941267521536, 11), (83076749736557242056487941267521536, 38), (83076749736557242056487941267521536, 40), (83076749736557242056487941267521536, 45), (83076749736557242056487941267521536, 46), (83076749736557242056487941267521536, 47), (11406831509164627158360868875721268459542151168, 256)] hp hq → bRg G hq → bTq G hq → ys hq 2088 (0 : Int).toNat = gg0 → 0 ≤ a1 → (-20) ≤ 0 - a1 → 0 ≤ gg0 → (-16) ≤ 0 - gg0 → 0 - 2 * a1 + 41 < (m : Int) → yG 89 xfts (xcall 89 xfts xpools xms (d + 6)) (xpool xp_RX13) [] xt_X13_flows (yP 0 (fun rv hp' => (fun rv hp' => (fun rv hp' => (rv = none ∧ True) ∧ bAx G [(83076749736557242056487941267521536, 10), (83076749736557242056487941267521536, 11), (83076749736557242056487941267521536, 38), (83076749736557242056487941267521536, 40), (83076749736557242056487941267521536, 45), (83076749736557242056487941267521536, 46), (83076749736557242056487941267521536, 47), (11406831509164627158360868875721268459542151168, 256)] hp hp') rv hp' ∧ bTq G hp') rv hp' ∧ bRg G hp')) (62 * m) 397 [(0, yR 2073), (1, yI (a1))] [] hq) := by
    intro m
    induction m with
    | zero =>
      refine ⟨?_, ?_, ?_, ?_, ?_, ?_⟩ <;> (intros; exfalso; omega)
    | succ m ih =>
      obtain ⟨i_11, i_82, i_159, i_256, i_290, i_397⟩ := ih
      refine ⟨?_, ?_, ?_, ?_, ?_, ?_⟩
      · intro a1 gg0 hq A_hq M_bRg_hq M_bTq_hq E_0 f0 f1 f2 f3 f4 va_M_lack_11 va_M_share_11 hm
        refine yG.mono (N := 62 * m + 62) ?_ (by omega)
        obtain ⟨-, -, g_0l, g_0u⟩ := (v_M_count W (s_M_count W)).int A_hq.1 (j := (0 : Int).toNat) (by decide) rfl
        refine yG.load xik rfl (fun _ _ => rfl) (v := yI (a1)) rfl rfl ?_
        refine yG.load xak rfl (fun _ _ => rfl) (v := yR 2073) rfl rfl ?_
        refine yG.getO A_hq.1 (w_M_count W H_2073) rfl rfl (fun r1 H_r1 O_r1 q_r1 => ?_)
        obtain rfl := u_M_count W H_r1
        refine yG.num (c := 0) rfl (fun _ _ => rfl) (by decide) ?_
        refine yG.ialdF A_hq.1 (v_M_count W H_r1) rfl rfl (by omega) (by omega) (fun z2 e_z2 i_z2 l_z2 u_z2 => ?_)
        rw [show (z2 : Int) = gg0 by omega]
        refine yG.icmp rfl (t := 65) rfl ⟨by omega, by omega⟩ ⟨by omega, by omega⟩ (fun c3 => ?_) (fun c3 => ?_)
        · have c3 : (a1 : Int) ≥ gg0 := c3
          refine yG.load xak rfl (fun _ _ => rfl) (v := yR 2073) rfl rfl ?_
          refine yG.num (c := 0) rfl (fun _ _ => rfl) (by decide) ?_
          refine yG.putI A_hq.1 (w_M_lost W H_2073) (W.2.1 _ _ H_2073 (by decide) (by decide)) rfl rfl (.inl rfl) ⟨by omega, by omega⟩ (by omega) (by omega) (fun h4 T_h4 b_h4 f_h4 y_h4 => ?_)
          have M_bRg_h4 := M_bRg_hq.fr (bAx.put (Wl := [(83076749736557242056487941267521536, 47)]) (bAx.rf A_hq.1) T_h4 b_h4 f_h4 H_2073 (by decide)) (by decide)
          have M_bTq_h4 := M_bTq_hq.fr (bAx.put (Wl := [(83076749736557242056487941267521536, 47)]) (bAx.rf A_hq.1) T_h4 b_h4 f_h4 H_2073 (by decide)) (by decide)
          have A_h4 := A_hq.put T_h4 b_h4 f_h4 H_2073 (by decide)
          have : ys h4 2088 (0 : Int).toNat = ys hq 2088 (0 : Int).toNat := (y_h4 2088 (0 : Int).toNat).trans (if_neg (fun e => (bRo.ne H_r1 H_2073 (by decide)) e.1))
          have va_M_lack_h4 : ∀ j : Nat, (j : Int) < a1 → 0 ≤ ys h4 2106 j ∧ ys h4 2106 j ≤ 0 := fun j hj => by
            rw [(y_h4 2106 j).trans (if_neg (fun e => (bRo.ne (s_M_lack W) H_2073 (by decide)) e.1))]; exact va_M_lack_11 j hj
          have va_M_share_h4 : ∀ j : Nat, (j : Int) < a1 → 0 ≤ ys h4 2107 j ∧ ys h4 2107 j ≤ 0 := fun j hj => by
            rw [(y_h4 2107 j).trans (if_neg (fun e => (bRo.ne (s_M_share W) H_2073 (by decide)) e.1))]; exact va_M_share_11 j hj
          refine yG.load xak rfl (fun _ _ => rfl) (v := yR 2073) rfl rfl ?_
          refine yG.num (c := 0) rfl (fun _ _ => rfl) (by decide) ?_
          refine yG.putI A_h4.1 (w_M_stuckCount W H_2073) (W.2.1 _ _ H_2073 (by decide) (by decide)) rfl rfl (.inl rfl) ⟨by omega, by omega⟩ (by omega) (by omega) (fun h5 T_h5 b_h5 f_h5 y_h5 => ?_)
          have M_bRg_h5 := M_bRg_h4.fr (bAx.put (Wl := [(83076749736557242056487941267521536, 46)]) (bAx.rf A_h4.1) T_h5 b_h5 f_h5 H_2073 (by decide)) (by decide)
          have M_bTq_h5 := M_bTq_h4.fr (bAx.put (Wl := [(83076749736557242056487941267521536, 46)]) (bAx.rf A_h4.1) T_h5 b_h5 f_h5 H_2073 (by decide)) (by decide)
          have A_h5 := A_h4.put T_h5 b_h5 f_h5 H_2073 (by decide)
          have : ys h5 2088 (0 : Int).toNat = ys h4 2088 (0 : Int).toNat := (y_h5 2088 (0 : Int).toNat).trans (if_neg (fun e => (bRo.ne H_r1 H_2073 (by decide)) e.1))
          have va_M_lack_h5 : ∀ j : Nat, (j : Int) < a1 → 0 ≤ ys h5 2106 j ∧ ys h5 2106 j ≤ 0 := fun j hj => by
            rw [(y_h5 2106 j).trans (if_neg (fun e => (bRo.ne (s_M_lack W) H_2073 (by decide)) e.1))]; exact va_M_lack_h4 j hj
          have va_M_share_h5 : ∀ j : Nat, (j : Int) < a1 → 0 ≤ ys h5 2107 j ∧ ys h5 2107 j ≤ 0 := fun j hj => by
            rw [(y_h5 2107 j).trans (if_neg (fun e => (bRo.ne (s_M_share W) H_2073 (by decide)) e.1))]; exact va_M_share_h4 j hj
          refine yG.load xak rfl (fun _ _ => rfl) (v := yR 2073) rfl rfl ?_
          refine yG.num (c := 0) rfl (fun _ _ => rfl) (by decide) ?_
          refine yG.putI A_h5.1 (w_M_overCount W H_2073) (W.2.1 _ _ H_2073 (by decide) (by decide)) rfl rfl (.inl rfl) ⟨by omega, by omega⟩ (by omega) (by omega) (fun h6 T_h6 b_h6 f_h6 y_h6 => ?_)
          have M_bRg_h6 := M_bRg_h5.fr (bAx.put (Wl := [(83076749736557242056487941267521536, 45)]) (bAx.rf A_h5.1) T_h6 b_h6 f_h6 H_2073 (by decide)) (by decide)
          have M_bTq_h6 := M_bTq_h5.fr (bAx.put (Wl := [(83076749736557242056487941267521536, 45)]) (bAx.rf A_h5.1) T_h6 b_h6 f_h6 H_2073 (by decide)) (by decide)
          have A_h6 := A_h5.put T_h6 b_h6 f_h6 H_2073 (by decide)
          have : ys h6 2088 (0 : Int).toNat = ys h5 2088 (0 : Int).toNat := (y_h6 2088 (0 : Int).toNat).trans (if_neg (fun e => (bRo.ne H_r1 H_2073 (by decide)) e.1))
          have va_M_lack_h6 : ∀ j : Nat, (j : Int) < a1 → 0 ≤ ys h6 2106 j ∧ ys h6 2106 j ≤ 0 := fun j hj => by
            rw [(y_h6 2106 j).trans (if_neg (fun e => (bRo.ne (s_M_lack W) H_2073 (by decide)) e.1))]; exact va_M_lack_h5 j hj
          have va_M_share_h6 : ∀ j : Nat, (j : Int) < a1 → 0 ≤ ys h6 2107 j ∧ ys h6 2107 j ≤ 0 := fun j hj => by
            rw [(y_h6 2107 j).trans (if_neg (fun e => (bRo.ne (s_M_share W) H_2073 (by decide)) e.1))]; exact va_M_share_h5 j hj
          refine yG.num (c := 0) rfl (fun _ _ => rfl) (by decide) ?_
          refine yG.store1 xik (L' := [(1, yI (0)), (0, yR 2073)]) rfl (fun _ _ => rfl) rfl rfl ?_
          exact yG.mono (yG.sub (i_82 (0) (ys h6 2088 (0 : Int).toNat) h6 A_h6 M_bRg_h6 M_bTq_h6  rfl (by omega) (by omega) (by omega) (by omega) (by omega) (fun j hj => by have := va_M_lack_h6 j (by omega); omega) (fun j hj => by have := va_M_share_h6 j (by omega); omega) (by omega)) (ySub.cons rfl (ySub.cons rfl (ySub.nil)))) (by omega)
        · have c3 : (a1 : Int) < gg0 := c3
          refine yG.load xak rfl (fun _ _ => rfl) (v := yR 2073) rfl rfl ?_
          refine yG.getO A_hq.1 (w_M_lack W H_2073) rfl rfl (fun r7 H_r7 O_r7 q_r7 => ?_)
          obtain rfl := u_M_lack W H_r7
          refine yG.load xik rfl (fun _ _ => rfl) (v := yI (a1)) rfl rfl ?_
          refine yG.numl (c := 0) rfl (fun _ _ => rfl) (by decide) ?_
          refine yG.last A_hq.1 (v_M_lack W H_r7) (W.2.1 _ _ H_r7 (by decide) (by decide)) rfl (by omega) (by omega) ⟨by omega, by omega⟩ (by omega) (by omega) (fun h8 T_h8 b_h8 f_h8 y_h8 => ?_)
          have M_bRg_h8 := M_bRg_hq.fr (bAx.put (Wl := [(713623846352979940529142984724747568191373312, 256)]) (bAx.rf A_hq.1) T_h8 b_h8 f_h8 H_r7 (bAll_ok (by decide) _)) (by decide)
          have M_bTq_h8 := M_bTq_hq.fr (bAx.put (Wl := [(713623846352979940529142984724747568191373312, 256)]) (bAx.rf A_hq.1) T_h8 b_h8 f_h8 H_r7 (bAll_ok (by decide) _)) (by decide)
          have A_h8 := A_hq.put T_h8 b_h8 f_h8 H_r7 (bAll_ok (by decide) _)
          have : ys h8 2088 (0 : Int).toNat = ys hq 2088 (0 : Int).toNat := (y_h8 2088 (0 : Int).toNat).trans (if_neg (fun e => (bRo.ne H_r1 H_r7 (by decide)) e.1))
          have va_M_lack_h8 : ∀ j : Nat, (j : Int) < a1 + 1 → 0 ≤ ys h8 2106 j ∧ ys h8 2106 j ≤ 0 := fun j hj => by
            have e9 := y_h8 2106 j
            by_cases e8 : (2106 : Nat) = 2106 ∧ j = (a1 : Int).toNat
            · rw [if_pos e8] at e9; omega
            · rw [if_neg e8] at e9; have := va_M_lack_11 j (by omega); omega
          have va_M_share_h8 : ∀ j : Nat, (j : Int) < a1 → 0 ≤ ys h8 2107 j ∧ ys h8 2107 j ≤ 0 := fun j hj => by
            rw [(y_h8 2107 j).trans (if_neg (fun e => (bRo.ne (s_M_share W) H_r7 (by decide)) e.1))]; exact va_M_share_11 j hj
          refine yG.load xak rfl (fun _ _ => rfl) (v := yR 2073) rfl rfl ?_
          refine yG.getO A_h8.1 (w_M_share W H_2073) rfl rfl (fun r9 H_r9 O_r9 q_r9 => ?_)
          obtain rfl := u_M_share W H_r9
          refine yG.load xik rfl (fun _ _ => rfl) (v := yI (a1)) rfl rfl ?_
          refine yG.numl (c := 0) rfl (fun _ _ => rfl) (by decide) ?_
          refine yG.last A_h8.1 (v_M_share W H_r9) (W.2.1 _ _ H_r9 (by decide) (by decide)) rfl (by omega) (by omega) ⟨by omega, by omega⟩ (by omega) (by omega) (fun h10 T_h10 b_h10 f_h10 y_h10 => ?_)
          have M_bRg_h10 := M_bRg_h8.fr (bAx.put (Wl := [(1427247692705959881058285969449495136382746624, 256)]) (bAx.rf A_h8.1) T_h10 b_h10 f_h10 H_r9 (bAll_ok (by decide) _)) (by decide)
          have M_bTq_h10 := M_bTq_h8.fr (bAx.put (Wl := [(1427247692705959881058285969449495136382746624, 256)]) (bAx.rf A_h8.1) T_h10 b_h10 f_h10 H_r9 (bAll_ok (by decide) _)) (by decide)
          have A_h10 := A_h8.put T_h10 b_h10 f_h10 H_r9 (bAll_ok (by decide) _)
          have : ys h10 2088 (0 : Int).toNat = ys h8 2088 (0 : Int).toNat := (y_h10 2088 (0 : Int).toNat).trans (if_neg (fun e => (bRo.ne H_r1 H_r9 (by decide)) e.1))
          have va_M_lack_h10 : ∀ j : Nat, (j : Int) < a1 + 1 → 0 ≤ ys h10 2106 j ∧ ys h10 2106 j ≤ 0 := fun j hj => by
            rw [(y_h10 2106 j).trans (if_neg (fun e => (bRo.ne (s_M_lack W) H_r9 (by decide)) e.1))]; exact va_M_lack_h8 j hj
          have va_M_share_h10 : ∀ j : Nat, (j : Int) < a1 + 1 → 0 ≤ ys h10 2107 j ∧ ys h10 2107 j ≤ 0 := fun j hj => by
            have e9 := y_h10 2107 j
            by_cases e8 : (2107 : Nat) = 2107 ∧ j = (a1 : Int).toNat
            · rw [if_pos e8] at e9; omega
            · rw [if_neg e8] at e9; have := va_M_share_h8 j (by omega); omega
          refine yG.load xak rfl (fun _ _ => rfl) (v := yR 2073) rfl rfl ?_
          refine yG.getO A_h10.1 (w_M_isStuck W H_2073) rfl rfl (fun r11 H_r11 O_r11 q_r11 => ?_)
          obtain rfl := u_M_isStuck W H_r11
          refine yG.load xik rfl (fun _ _ => rfl) (v := yI (a1)) rfl rfl ?_
          refine yG.num (c := 0) rfl (fun _ _ => rfl) (by decide) ?_
          refine yG.bast A_h10.1 (v_M_isStuck W H_r11) (W.2.1 _ _ H_r11 (by decide) (by decide)) rfl (by omega) (by omega) ⟨by omega, by omega⟩ (by omega) (by omega) (fun h12 T_h12 b_h12 f_h12 y_h12 => ?_)
          have M_bRg_h12 := M_bRg_h10.fr (bAx.put (Wl := [(356811923176489970264571492362373784095686656, 256)]) (bAx.rf A_h10.1) T_h12 b_h12 f_h12 H_r11 (bAll_ok (by decide) _)) (by decide)
          have M_bTq_h12 := M_bTq_h10.fr (bAx.put (Wl := [(356811923176489970264571492362373784095686656, 256)]) (bAx.rf A_h10.1) T_h12 b_h12 f_h12 H_r11 (bAll_ok (by decide) _)) (by decide)
          have A_h12 := A_h10.put T_h12 b_h12 f_h12 H_r11 (bAll_ok (by decide) _)
          have : ys h12 2088 (0 : Int).toNat = ys h10 2088 (0 : Int).toNat := (y_h12 2088 (0 : Int).toNat).trans (if_neg (fun e => (bRo.ne H_r1 H_r11 (by decide)) e.1))
          have va_M_lack_h12 : ∀ j : Nat, (j : Int) < a1 + 1 → 0 ≤ ys h12 2106 j ∧ ys h12 2106 j ≤ 0 := fun j hj => by
            rw [(y_h12 2106 j).trans (if_neg (fun e => (bRo.ne (s_M_lack W) H_r11 (by decide)) e.1))]; exact va_M_lack_h10 j hj
          have va_M_share_h12 : ∀ j : Nat, (j : Int) < a1 + 1 → 0 ≤ ys h12 2107 j ∧ ys h12 2107 j ≤ 0 := fun j hj => by
            rw [(y_h12 2107 j).trans (if_neg (fun e => (bRo.ne (s_M_share W) H_r11 (by decide)) e.1))]; exact va_M_share_h10 j hj
          refine yG.load xak rfl (fun _ _ => rfl) (v := yR 2073) rfl rfl ?_
          refine yG.num (c := 16) rfl (fun _ _ => rfl) (by decide) ?_
          refine yG.load xik rfl (fun _ _ => rfl) (v := yI (a1)) rfl rfl ?_
          refine yG.iadd rfl ?_
          refine yG.numl (c := 0) rfl (fun _ _ => rfl) (by decide) ?_
          refine yG.invV (rest := []) A_h12.1 (bOb (d_M W) H_2073) rfl rfl rfl rfl (r_put W (d + 5) A_h12.1 M_bRg_h12 H_2073 (r := (16 + a1)) (v := (0)) (x := 0) ⟨by omega, by omega⟩ (yEb (c := 1) (by decide) (by omega) (by omega)) (by decide) (bTb_ge (a := 16) (b := 32) (by decide) (by omega) (by omega))) (fun rv h13 q9 => ?_)
          obtain ⟨rfl, B_h13, M_bRg_h13, Y_h13, V_h13, S_h13⟩ := q9
          have P_h13 : 0 ≤ yval h13 (16 + a1 : Int).toNat := by rw [V_h13]; omega
          have A_h13 := A_h12.tr B_h13 (by decide)
          have M_bTq_h13 := M_bTq_h12.fr B_h13 (by decide)
          have va_M_lack_h13 : ∀ j : Nat, (j : Int) < a1 + 1 → 0 ≤ ys h13 2106 j ∧ ys h13 2106 j ≤ 0 := fun j hj => by rw [B_h13.ys (s_M_lack W) (bNo_ok (by decide) _)]; exact va_M_lack_h12 j hj
          have va_M_share_h13 : ∀ j : Nat, (j : Int) < a1 + 1 → 0 ≤ ys h13 2107 j ∧ ys h13 2107 j ≤ 0 := fun j hj => by rw [B_h13.ys (s_M_share W) (bNo_ok (by decide) _)]; exact va_M_share_h12 j hj
          have : ys h13 2088 (0 : Int).toNat = ys h12 2088 (0 : Int).toNat := B_h13.ys H_r1 (bNo_ok (by decide) _)
          show yG _ _ _ _ _ _ _ _ _ _ [] _
          refine yG.load xak rfl (fun _ _ => rfl) (v := yR 2073) rfl rfl ?_
          refine yG.num (c := 0) rfl (fun _ _ => rfl) (by decide) ?_
          refine yG.load xik rfl (fun _ _ => rfl) (v := yI (a1)) rfl rfl ?_
          refine yG.iadd rfl ?_
          refine yG.numl (c := 1) rfl (fun _ _ => rfl) (by decide) ?_
          refine yG.invV (rest := []) A_h13.1 (bOb (d_M W) H_2073) rfl rfl rfl rfl (r_put W (d + 5) A_h13.1 M_bRg_h13 H_2073 (r := (0 + a1)) (v := (1)) (x := 1) ⟨by omega, by omega⟩ (yEb (c := 2) (by decide) (by omega) (by omega)) (by decide) (bTb_ge (a := 0) (b := 16) (by decide) (by omega) (by omega))) (fun rv h14 q9 => ?_)
          obtain ⟨rfl, B_h14, M_bRg_h14, Y_h14, V_h14, S_h14⟩ := q9
          have P_h14 : 0 ≤ yval h14 (0 + a1 : Int).toNat := by rw [V_h14]; omega
          have A_h14 := A_h13.tr B_h14 (by decide)
          have M_bTq_h14 := M_bTq_h13.fr B_h14 (by decide)
          have va_M_lack_h14 : ∀ j : Nat, (j : Int) < a1 + 1 → 0 ≤ ys h14 2106 j ∧ ys h14 2106 j ≤ 0 := fun j hj => by rw [B_h14.ys (s_M_lack W) (bNo_ok (by decide) _)]; exact va_M_lack_h13 j hj
          have va_M_share_h14 : ∀ j : Nat, (j : Int) < a1 + 1 → 0 ≤ ys h14 2107 j ∧ ys h14 2107 j ≤ 0 := fun j hj => by rw [B_h14.ys (s_M_share W) (bNo_ok (by decide) _)]; exact va_M_share_h13 j hj
          have : ys h14 2088 (0 : Int).toNat = ys h13 2088 (0 : Int).toNat := B_h14.ys H_r1 (bNo_ok (by decide) _)
          show yG _ _ _ _ _ _ _ _ _ _ [] _
          refine yG.iinc rfl (a := a1) rfl (L' := [(1, yI (a1 + 1)), (0, yR 2073)]) rfl ?_
          refine yG.goto rfl (t := 11) rfl ?_
          exact yG.mono (yG.sub (i_11 (a1 + 1) (ys h14 2088 (0 : Int).toNat) h14 A_h14 M_bRg_h14 M_bTq_h14  rfl (by omega) (by omega) (by omega) (by omega) (by omega) (fun j hj => by have := va_M_lack_h14 j (by omega); omega) (fun j hj => by have := va_M_share_h14 j (by omega); omega) (by omega)) (ySub.cons rfl (ySub.cons rfl (ySub.nil)))) (by omega)
      · intro a1 gg0 hq A_hq M_bRg_hq M_bTq_hq E_0 f0 f1 f2 f3 f4 va_M_lack_82 va_M_share_82 hm
        refine yG.mono (N := 62 * m + 62) ?_ (by omega)
        obtain ⟨-, -, g_0l, g_0u⟩ := (v_M_count W (s_M_count W)).int A_hq.1 (j := (0 : Int).toNat) (by decide) rfl
        refine yG.load xik rfl (fun _ _ => rfl) (v := yI (a1)) rfl rfl ?_
        refine yG.load xak rfl (fun _ _ => rfl) (v := yR 2073) rfl rfl ?_
        refine yG.getO A_hq.1 (w_M_count W H_2073) rfl rfl (fun r1 H_r1 O_r1 q_r1 => ?_)
        obtain rfl := u_M_count W H_r1
        refine yG.num (c := 4) rfl (fun _ _ => rfl) (by decide) ?_
        refine yG.ialdF A_hq.1 (v_M_count W H_r1) rfl rfl (by omega) (by omega) (fun z2 e_z2 i_z2 l_z2 u_z2 => ?_)
        refine yG.icmp rfl (t := 157) rfl ⟨by omega, by omega⟩ ⟨by omega, by omega⟩ (fun c3 => ?_) (fun c3 => ?_)
        · have c3 : (a1 : Int) ≥ z2 := c3
          refine yG.num (c := 0) rfl (fun _ _ => rfl) (by decide) ?_
          refine yG.store1 xik (L' := [(1, yI (0)), (0, yR 2073)]) rfl (fun _ _ => rfl) rfl rfl ?_
          exact yG.mono (yG.sub (i_159 (0) (ys hq 2088 (0 : Int).toNat) hq A_hq M_bRg_hq M_bTq_hq  rfl (by omega) (by omega) (by omega) (by omega) (by omega) (fun j hj => by have := va_M_lack_82 j (by omega); omega) (fun j hj => by have := va_M_share_82 j (by omega); omega) (by omega)) (ySub.cons rfl (ySub.cons rfl (ySub.nil)))) (by omega)
        · have c3 : (a1 : Int) < z2 := c3
          refine yG.load xak rfl (fun _ _ => rfl) (v := yR 2073) rfl rfl ?_
          refine yG.getO A_hq.1 (w_M_island W H_2073) rfl rfl (fun r4 H_r4 O_r4 q_r4 => ?_)
          obtain rfl := u_M_island W H_r4
          refine yG.load xak rfl (fun _ _ => rfl) (v := yR 2073) rfl rfl ?_
          refine yG.num (c := 4) rfl (fun _ _ => rfl) (by decide) ?_
          refine yG.load xik rfl (fun _ _ => rfl) (v := yI (a1)) rfl rfl ?_
          refine yG.num (c := 1) rfl (fun _ _ => rfl) (by decide) ?_
          refine yG.invV (rest := [yR 2101]) A_hq.1 (bOb (d_M W) H_2073) rfl rfl rfl rfl (c_GModel_of_v4_1 W (d + 4) A_hq.1 H_2073 (a1) (by omega) (by omega)) (fun rv hp9 q9 => ?_)
          obtain ⟨⟨z5, rfl, l_z5, u_z5, R_z5⟩, e9⟩ := q9
          rw [e9]
          show yG _ _ _ _ _ _ _ _ _ _ (yI z5 :: [yR 2101]) _
          have wf_z5 := bWf.bar (s := 4) (k := 1) (i := a1) (M_bWf.fr A_hq (by decide)) (by decide) (by omega) (by omega) (show a1 < ys hq 2088 (4 : Int).toNat by omega) R_z5 (by omega)
          refine yG.ialdF A_hq.1 (v_M_island W H_r4) rfl rfl (by omega) (by omega) (fun z6 e_z6 i_z6 l_z6 u_z6 => ?_)
          refine yG.store1 xik (L' := [(2, yI (z6)), (0, yR 2073), (1, yI (a1))]) rfl (fun _ _ => rfl) rfl rfl ?_
          refine yG.load xak rfl (fun _ _ => rfl) (v := yR 2073) rfl rfl ?_
          refine yG.getO A_hq.1 (w_M_lack W H_2073) rfl rfl (fun r7 H_r7 O_r7 q_r7 => ?_)
          obtain rfl := u_M_lack W H_r7
          refine yG.load xik rfl (fun _ _ => rfl) (v := yI (z6)) rfl rfl ?_
          refine yG.step (pc' := 111) (stk' := [yI (z6), yR 2106, yI (z6), yR 2106]) rfl (fun _ _ => rfl) ?_
          refine yG.lald A_hq.1 (v_M_lack W H_r7) rfl (by omega) (by omega) (fun z8 e_z8 i_z8 l_z8 u_z8 => ?_)
          have vw_z8 := va_M_lack_82 (z6 : Int).toNat (by omega)
          refine yG.load xak rfl (fun _ _ => rfl) (v := yR 2073) rfl rfl ?_
          refine yG.num (c := 4) rfl (fun _ _ => rfl) (by decide) ?_
          refine yG.load xik rfl (fun _ _ => rfl) (v := yI (a1)) rfl rfl ?_
          refine yG.num (c := 0) rfl (fun _ _ => rfl) (by decide) ?_
          refine yG.invV (rest := [yJ (z8), yI (z6), yR 2106]) A_hq.1 (bOb (d_M W) H_2073) rfl rfl rfl rfl (c_GModel_of_4_0 W (d + 4) A_hq.1 H_2073 (a1) (by omega) (by omega)) (fun rv hp9 q9 => ?_)
          obtain ⟨⟨z9, rfl, l_z9, u_z9, R_z9⟩, e9⟩ := q9
          rw [e9]
          show yG _ _ _ _ _ _ _ _ _ _ (yI z9 :: [yJ (z8), yI (z6), yR 2106]) _
          refine yG.i2l rfl ⟨by omega, by omega⟩ ?_
          refine yG.ladd rfl ?_
          refine yG.last A_hq.1 (v_M_lack W H_r7) (W.2.1 _ _ H_r7 (by decide) (by decide)) rfl (by omega) (by omega) ⟨by omega, by omega⟩ (by omega) (by omega) (fun h10 T_h10 b_h10 f_h10 y_h10 => ?_)
          have M_bRg_h10 := M_bRg_hq.fr (bAx.put (Wl := [(713623846352979940529142984724747568191373312, 256)]) (bAx.rf A_hq.1) T_h10 b_h10 f_h10 H_r7 (bAll_ok (by decide) _)) (by decide)
          have M_bTq_h10 := M_bTq_hq.fr (bAx.put (Wl := [(713623846352979940529142984724747568191373312, 256)]) (bAx.rf A_hq.1) T_h10 b_h10 f_h10 H_r7 (bAll_ok (by decide) _)) (by decide)
          have A_h10 := A_hq.put T_h10 b_h10 f_h10 H_r7 (bAll_ok (by decide) _)
          have : ys h10 2088 (0 : Int).toNat = ys hq 2088 (0 : Int).toNat := (y_h10 2088 (0 : Int).toNat).trans (if_neg (fun e => (bRo.ne H_r1 H_r7 (by decide)) e.1))
          have : ys h10 2088 (4 : Int).toNat = ys hq 2088 (4 : Int).toNat := (y_h10 2088 (4 : Int).toNat).trans (if_neg (fun e => (bRo.ne H_r1 H_r7 (by decide)) e.1))
          have va_M_lack_h10 : ∀ j : Nat, (j : Int) < gg0 → 0 ≤ ys h10 2106 j ∧ ys h10 2106 j ≤ 9999 * a1 + 9999 := fun j hj => by
            have e9 := y_h10 2106 j
            by_cases e8 : (2106 : Nat) = 2106 ∧ j = (z6 : Int).toNat
            · rw [if_pos e8] at e9; omega
            · rw [if_neg e8] at e9; have := va_M_lack_82 j (by omega); omega
          have va_M_share_h10 : ∀ j : Nat, (j : Int) < gg0 → 0 ≤ ys h10 2107 j ∧ ys h10 2107 j ≤ 0 := fun j hj => by
            rw [(y_h10 2107 j).trans (if_neg (fun e => (bRo.ne (s_M_share W) H_r7 (by decide)) e.1))]; exact va_M_share_82 j hj
          refine yG.load xak rfl (fun _ _ => rfl) (v := yR 2073) rfl rfl ?_
          refine yG.step (pc' := 124) (stk' := [yR 2073, yR 2073]) rfl (fun _ _ => rfl) ?_
          refine yG.getI A_h10.1 (w_M_lost W H_2073) rfl rfl (fun z11 e_z11 i_z11 l_z11 u_z11 => ?_)
          refine yG.load xak rfl (fun _ _ => rfl) (v := yR 2073) rfl rfl ?_
          refine yG.getO A_h10.1 (w_M_isLive W H_2073) rfl rfl (fun r12 H_r12 O_r12 q_r12 => ?_)
          obtain rfl := u_M_isLive W H_r12
          refine yG.load xik rfl (fun _ _ => rfl) (v := yI (z6)) rfl rfl ?_
          refine yG.bald A_h10.1 (v_M_isLive W H_r12) rfl (by omega) (by omega) (fun z13 e_z13 i_z13 l_z13 u_z13 => ?_)
          refine yG.ifz rfl (t := 140) rfl ⟨by omega, by omega⟩ (fun c14 => ?_) (fun c14 => ?_)
          · have c14 : (z13 : Int) = 0 := c14
            refine yG.load xak rfl (fun _ _ => rfl) (v := yR 2073) rfl rfl ?_
            refine yG.num (c := 4) rfl (fun _ _ => rfl) (by decide) ?_
            refine yG.load xik rfl (fun _ _ => rfl) (v := yI (a1)) rfl rfl ?_
            refine yG.num (c := 0) rfl (fun _ _ => rfl) (by decide) ?_
            refine yG.invV (rest := [yI (z11), yR 2073]) A_h10.1 (bOb (d_M W) H_2073) rfl rfl rfl rfl (c_GModel_of_4_0 W (d + 4) A_h10.1 H_2073 (a1) (by omega) (by omega)) (fun rv hp9 q9 => ?_)
            obtain ⟨⟨z15, rfl, l_z15, u_z15, R_z15⟩, e9⟩ := q9
            rw [e9]
            show yG _ _ _ _ _ _ _ _ _ _ (yI z15 :: [yI (z11), yR 2073]) _
            refine yG.iadd rfl ?_
            obtain ⟨z17, e_z17, l_z17, u_z17⟩ := ywI (z11 + z15)
            rw [e_z17]
            refine yG.putI A_h10.1 (w_M_lost W H_2073) (W.2.1 _ _ H_2073 (by decide) (by decide)) rfl rfl (.inl rfl) ⟨by omega, by omega⟩ (by omega) (by omega) (fun h16 T_h16 b_h16 f_h16 y_h16 => ?_)
            have M_bRg_h16 := M_bRg_h10.fr (bAx.put (Wl := [(83076749736557242056487941267521536, 47)]) (bAx.rf A_h10.1) T_h16 b_h16 f_h16 H_2073 (by decide)) (by decide)
            have M_bTq_h16 := M_bTq_h10.fr (bAx.put (Wl := [(83076749736557242056487941267521536, 47)]) (bAx.rf A_h10.1) T_h16 b_h16 f_h16 H_2073 (by decide)) (by decide)
            have A_h16 := A_h10.put T_h16 b_h16 f_h16 H_2073 (by decide)
            have : ys h16 2088 (0 : Int).toNat = ys h10 2088 (0 : Int).toNat := (y_h16 2088 (0 : Int).toNat).trans (if_neg (fun e => (bRo.ne H_r1 H_2073 (by decide)) e.1))
            have : ys h16 2088 (4 : Int).toNat = ys h10 2088 (4 : Int).toNat := (y_h16 2088 (4 : Int).toNat).trans (if_neg (fun e => (bRo.ne H_r1 H_2073 (by decide)) e.1))
            have va_M_lack_h16 : ∀ j : Nat, (j : Int) < gg0 → 0 ≤ ys h16 2106 j ∧ ys h16 2106 j ≤ 9999 * a1 + 9999 := fun j hj => by
              rw [(y_h16 2106 j).trans (if_neg (fun e => (bRo.ne (s_M_lack W) H_2073 (by decide)) e.1))]; exact va_M_lack_h10 j hj
            have va_M_share_h16 : ∀ j : Nat, (j : Int) < gg0 → 0 ≤ ys h16 2107 j ∧ ys h16 2107 j ≤ 0 := fun j hj => by
              rw [(y_h16 2107 j).trans (if_neg (fun e => (bRo.ne (s_M_share W) H_2073 (by decide)) e.1))]; exact va_M_share_h10 j hj
            refine yG.iinc rfl (a := a1) rfl (L' := [(1, yI (a1 + 1)), (2, yI (z6)), (0, yR 2073)]) rfl ?_
            refine yG.goto rfl (t := 82) rfl ?_
            exact yG.mono (yG.sub (i_82 (a1 + 1) (ys h16 2088 (0 : Int).toNat) h16 A_h16 M_bRg_h16 M_bTq_h16  rfl (by omega) (by omega) (by omega) (by omega) (by omega) (fun j hj => by have := va_M_lack_h16 j (by omega); omega) (fun j hj => by have := va_M_share_h16 j (by omega); omega) (by omega)) (ySub.cons rfl (ySub.cons rfl (ySub.nil)))) (by omega)
          · have c14 : (z13 : Int) ≠ 0 := c14
            refine yG.num (c := 0) rfl (fun _ _ => rfl) (by decide) ?_
            refine yG.goto rfl (t := 147) rfl ?_
            refine yG.iadd rfl ?_
            refine yG.putI A_h10.1 (w_M_lost W H_2073) (W.2.1 _ _ H_2073 (by decide) (by decide)) rfl rfl (.inl rfl) ⟨by omega, by omega⟩ (by omega) (by omega) (fun h18 T_h18 b_h18 f_h18 y_h18 => ?_)
            have M_bRg_h18 := M_bRg_h10.fr (bAx.put (Wl := [(83076749736557242056487941267521536, 47)]) (bAx.rf A_h10.1) T_h18 b_h18 f_h18 H_2073 (by decide)) (by decide)
            have M_bTq_h18 := M_bTq_h10.fr (bAx.put (Wl := [(83076749736557242056487941267521536, 47)]) (bAx.rf A_h10.1) T_h18 b_h18 f_h18 H_2073 (by decide)) (by decide)
            have A_h18 := A_h10.put T_h18 b_h18 f_h18 H_2073 (by decide)
            have : ys h18 2088 (0 : Int).toNat = ys h10 2088 (0 : Int).toNat := (y_h18 2088 (0 : Int).toNat).trans (if_neg (fun e => (bRo.ne H_r1 H_2073 (by decide)) e.1))
            have : ys h18 2088 (4 : Int).toNat = ys h10 2088 (4 : Int).toNat := (y_h18 2088 (4 : Int).toNat).trans (if_neg (fun e => (bRo.ne H_r1 H_2073 (by decide)) e.1))
            have va_M_lack_h18 : ∀ j : Nat, (j : Int) < gg0 → 0 ≤ ys h18 2106 j ∧ ys h18 2106 j ≤ 9999 * a1 + 9999 := fun j hj => by
              rw [(y_h18 2106 j).trans (if_neg (fun e => (bRo.ne (s_M_lack W) H_2073 (by decide)) e.1))]; exact va_M_lack_h10 j hj
            have va_M_share_h18 : ∀ j : Nat, (j : Int) < gg0 → 0 ≤ ys h18 2107 j ∧ ys h18 2107 j ≤ 0 := fun j hj => by
              rw [(y_h18 2107 j).trans (if_neg (fun e => (bRo.ne (s_M_share W) H_2073 (by decide)) e.1))]; exact va_M_share_h10 j hj
            refine yG.iinc rfl (a := a1) rfl (L' := [(1, yI (a1 + 1)), (2, yI (z6)), (0, yR 2073)]) rfl ?_
            refine yG.goto rfl (t := 82) rfl ?_
            exact yG.mono (yG.sub (i_82 (a1 + 1) (ys h18 2088 (0 : Int).toNat) h18 A_h18 M_bRg_h18 M_bTq_h18  rfl (by omega) (by omega) (by omega) (by omega) (by omega) (fun j hj => by have := va_M_lack_h18 j (by omega); omega) (fun j hj => by have := va_M_share_h18 j (by omega); omega) (by omega)) (ySub.cons rfl (ySub.cons rfl (ySub.nil)))) (by omega)
      · intro a1 gg0 hq A_hq M_bRg_hq M_bTq_hq E_0 f0 f1 f2 f3 f4 va_M_lack_159 va_M_share_159 hm
        refine yG.mono (N := 62 * m + 62) ?_ (by omega)
        obtain ⟨-, -, g_0l, g_0u⟩ := (v_M_count W (s_M_count W)).int A_hq.1 (j := (0 : Int).toNat) (by decide) rfl
        refine yG.load xik rfl (fun _ _ => rfl) (v := yI (a1)) rfl rfl ?_
        refine yG.load xak rfl (fun _ _ => rfl) (v := yR 2073) rfl rfl ?_
        refine yG.getO A_hq.1 (w_M_count W H_2073) rfl rfl (fun r1 H_r1 O_r1 q_r1 => ?_)
        obtain rfl := u_M_count W H_r1
        refine yG.num (c := 3) rfl (fun _ _ => rfl) (by decide) ?_
        refine yG.ialdF A_hq.1 (v_M_count W H_r1) rfl rfl (by omega) (by omega) (fun z2 e_z2 i_z2 l_z2 u_z2 => ?_)
        refine yG.icmp rfl (t := 254) rfl ⟨by omega, by omega⟩ ⟨by omega, by omega⟩ (fun c3 => ?_) (fun c3 => ?_)
        · have c3 : (a1 : Int) ≥ z2 := c3
          refine yG.num (c := 0) rfl (fun _ _ => rfl) (by decide) ?_
          refine yG.store1 xik (L' := [(1, yI (0)), (0, yR 2073)]) rfl (fun _ _ => rfl) rfl rfl ?_
          exact yG.mono (yG.sub (i_256 (0) (ys hq 2088 (0 : Int).toNat) hq A_hq M_bRg_hq M_bTq_hq  rfl (by omega) (by omega) (by omega) (by omega) (by omega)) (ySub.cons rfl (ySub.cons rfl (ySub.nil)))) (by omega)
        · have c3 : (a1 : Int) < z2 := c3
          refine yG.load xak rfl (fun _ _ => rfl) (v := yR 2073) rfl rfl ?_
          refine yG.getO A_hq.1 (w_M_island W H_2073) rfl rfl (fun r4 H_r4 O_r4 q_r4 => ?_)
          obtain rfl := u_M_island W H_r4
          refine yG.load xak rfl (fun _ _ => rfl) (v := yR 2073) rfl rfl ?_
          refine yG.num (c := 3) rfl (fun _ _ => rfl) (by decide) ?_
          refine yG.load xik rfl (fun _ _ => rfl) (v := yI (a1)) rfl rfl ?_
          refine yG.num (c := 10) rfl (fun _ _ => rfl) (by decide) ?_
          refine yG.invV (rest := [yR 2101]) A_hq.1 (bOb (d_M W) H_2073) rfl rfl rfl rfl (c_GModel_of_v3_10 W (d + 4) A_hq.1 H_2073 (a1) (by omega) (by omega)) (fun rv hp9 q9 => ?_)
          obtain ⟨⟨z5, rfl, l_z5, u_z5, R_z5⟩, e9⟩ := q9
          rw [e9]
          show yG _ _ _ _ _ _ _ _ _ _ (yI z5 :: [yR 2101]) _
          have wf_z5 := bWf.bar (s := 3) (k := 10) (i := a1) (M_bWf.fr A_hq (by decide)) (by decide) (by omega) (by omega) (show a1 < ys hq 2088 (3 : Int).toNat by omega) R_z5 (by omega)
          refine yG.ialdF A_hq.1 (v_M_island W H_r4) rfl rfl (by omega) (by omega) (fun z6 e_z6 i_z6 l_z6 u_z6 => ?_)
          refine yG.store1 xik (L' := [(2, yI (z6)), (0, yR 2073), (1, yI (a1))]) rfl (fun _ _ => rfl) rfl rfl ?_
          refine yG.load xak rfl (fun _ _ => rfl) (v := yR 2073) rfl rfl ?_
          refine yG.getO A_hq.1 (w_M_lack W H_2073) rfl rfl (fun r7 H_r7 O_r7 q_r7 => ?_)
          obtain rfl := u_M_lack W H_r7
          refine yG.load xik rfl (fun _ _ => rfl) (v := yI (z6)) rfl rfl ?_
          refine yG.step (pc' := 189) (stk' := [yI (z6), yR 2106, yI (z6), yR 2106]) rfl (fun _ _ => rfl) ?_
          refine yG.lald A_hq.1 (v_M_lack W H_r7) rfl (by omega) (by omega) (fun z8 e_z8 i_z8 l_z8 u_z8 => ?_)
          have vw_z8 := va_M_lack_159 (z6 : Int).toNat (by omega)
          refine yG.load xak rfl (fun _ _ => rfl) (v := yR 2073) rfl rfl ?_
          refine yG.num (c := 3) rfl (fun _ _ => rfl) (by decide) ?_
          refine yG.load xik rfl (fun _ _ => rfl) (v := yI (a1)) rfl rfl ?_
          refine yG.num (c := 0) rfl (fun _ _ => rfl) (by decide) ?_
          refine yG.invV (rest := [yJ (z8), yI (z6), yR 2106]) A_hq.1 (bOb (d_M W) H_2073) rfl rfl rfl rfl (c_GModel_of_v3_0 W (d + 4) A_hq.1 H_2073 (a1) (by omega) (by omega)) (fun rv hp9 q9 => ?_)
          obtain ⟨⟨z9, rfl, l_z9, u_z9, R_z9⟩, e9⟩ := q9
          rw [e9]
          show yG _ _ _ _ _ _ _ _ _ _ (yI z9 :: [yJ (z8), yI (z6), yR 2106]) _
          refine yG.num (c := 1) rfl (fun _ _ => rfl) (by decide) ?_
          refine yG.icmp rfl (t := 212) rfl ⟨by omega, by omega⟩ ⟨by omega, by omega⟩ (fun c10 => ?_) (fun c10 => ?_)
          · have c10 : (z9 : Int) ≠ 1 := c10
            refine yG.numl (c := 0) rfl (fun _ _ => rfl) (by decide) ?_
            refine yG.lsub rfl ?_
            refine yG.last A_hq.1 (v_M_lack W H_r7) (W.2.1 _ _ H_r7 (by decide) (by decide)) rfl (by omega) (by omega) ⟨by omega, by omega⟩ (by omega) (by omega) (fun h11 T_h11 b_h11 f_h11 y_h11 => ?_)
            have M_bRg_h11 := M_bRg_hq.fr (bAx.put (Wl := [(713623846352979940529142984724747568191373312, 256)]) (bAx.rf A_hq.1) T_h11 b_h11 f_h11 H_r7 (bAll_ok (by decide) _)) (by decide)
            have M_bTq_h11 := M_bTq_hq.fr (bAx.put (Wl := [(713623846352979940529142984724747568191373312, 256)]) (bAx.rf A_hq.1) T_h11 b_h11 f_h11 H_r7 (bAll_ok (by decide) _)) (by decide)
            have A_h11 := A_hq.put T_h11 b_h11 f_h11 H_r7 (bAll_ok (by decide) _)
            have : ys h11 2088 (0 : Int).toNat = ys hq 2088 (0 : Int).toNat := (y_h11 2088 (0 : Int).toNat).trans (if_neg (fun e => (bRo.ne H_r1 H_r7 (by decide)) e.1))
            have : ys h11 2088 (3 : Int).toNat = ys hq 2088 (3 : Int).toNat := (y_h11 2088 (3 : Int).toNat).trans (if_neg (fun e => (bRo.ne H_r1 H_r7 (by decide)) e.1))
            have va_M_lack_h11 : ∀ j : Nat, (j : Int) < gg0 → 0 - 9999 * a1 - 9999 ≤ ys h11 2106 j ∧ ys h11 2106 j ≤ 119988 := fun j hj => by
              have e9 := y_h11 2106 j
              by_cases e8 : (2106 : Nat) = 2106 ∧ j = (z6 : Int).toNat
              · rw [if_pos e8] at e9; omega
              · rw [if_neg e8] at e9; have := va_M_lack_159 j (by omega); omega
            have va_M_share_h11 : ∀ j : Nat, (j : Int) < gg0 → 0 ≤ ys h11 2107 j ∧ ys h11 2107 j ≤ 9 * a1 := fun j hj => by
              rw [(y_h11 2107 j).trans (if_neg (fun e => (bRo.ne (s_M_share W) H_r7 (by decide)) e.1))]; exact va_M_share_159 j hj
            refine yG.load xak rfl (fun _ _ => rfl) (v := yR 2073) rfl rfl ?_
            refine yG.getO A_h11.1 (w_M_share W H_2073) rfl rfl (fun r12 H_r12 O_r12 q_r12 => ?_)
            obtain rfl := u_M_share W H_r12
            refine yG.load xik rfl (fun _ _ => rfl) (v := yI (z6)) rfl rfl ?_
            refine yG.step (pc' := 221) (stk' := [yI (z6), yR 2107, yI (z6), yR 2107]) rfl (fun _ _ => rfl) ?_
            refine yG.lald A_h11.1 (v_M_share W H_r12) rfl (by omega) (by omega) (fun z13 e_z13 i_z13 l_z13 u_z13 => ?_)
            have vw_z13 := va_M_share_h11 (z6 : Int).toNat (by omega)
            refine yG.load xak rfl (fun _ _ => rfl) (v := yR 2073) rfl rfl ?_
            refine yG.num (c := 3) rfl (fun _ _ => rfl) (by decide) ?_
            refine yG.load xik rfl (fun _ _ => rfl) (v := yI (a1)) rfl rfl ?_
            refine yG.num (c := 0) rfl (fun _ _ => rfl) (by decide) ?_
            refine yG.invV (rest := [yJ (z13), yI (z6), yR 2107]) A_h11.1 (bOb (d_M W) H_2073) rfl rfl rfl rfl (c_GModel_of_v3_0 W (d + 4) A_h11.1 H_2073 (a1) (by omega) (by omega)) (fun rv hp9 q9 => ?_)
            obtain ⟨⟨z14, rfl, l_z14, u_z14, R_z14⟩, e9⟩ := q9
            rw [e9]
            show yG _ _ _ _ _ _ _ _ _ _ (yI z14 :: [yJ (z13), yI (z6), yR 2107]) _
            refine yG.num (c := 1) rfl (fun _ _ => rfl) (by decide) ?_
            refine yG.icmp rfl (t := 245) rfl ⟨by omega, by omega⟩ ⟨by omega, by omega⟩ (fun c15 => ?_) (fun c15 => ?_)
            · have c15 : (z14 : Int) ≠ 1 := c15
              refine yG.numl (c := 0) rfl (fun _ _ => rfl) (by decide) ?_
              refine yG.ladd rfl ?_
              refine yG.last A_h11.1 (v_M_share W H_r12) (W.2.1 _ _ H_r12 (by decide) (by decide)) rfl (by omega) (by omega) ⟨by omega, by omega⟩ (by omega) (by omega) (fun h16 T_h16 b_h16 f_h16 y_h16 => ?_)
              have M_bRg_h16 := M_bRg_h11.fr (bAx.put (Wl := [(1427247692705959881058285969449495136382746624, 256)]) (bAx.rf A_h11.1) T_h16 b_h16 f_h16 H_r12 (bAll_ok (by decide) _)) (by decide)
              have M_bTq_h16 := M_bTq_h11.fr (bAx.put (Wl := [(1427247692705959881058285969449495136382746624, 256)]) (bAx.rf A_h11.1) T_h16 b_h16 f_h16 H_r12 (bAll_ok (by decide) _)) (by decide)
              have A_h16 := A_h11.put T_h16 b_h16 f_h16 H_r12 (bAll_ok (by decide) _)
              have : ys h16 2088 (0 : Int).toNat = ys h11 2088 (0 : Int).toNat := (y_h16 2088 (0 : Int).toNat).trans (if_neg (fun e => (bRo.ne H_r1 H_r12 (by decide)) e.1))
              have : ys h16 2088 (3 : Int).toNat = ys h11 2088 (3 : Int).toNat := (y_h16 2088 (3 : Int).toNat).trans (if_neg (fun e => (bRo.ne H_r1 H_r12 (by decide)) e.1))
              have va_M_lack_h16 : ∀ j : Nat, (j : Int) < gg0 → 0 - 9999 * a1 - 9999 ≤ ys h16 2106 j ∧ ys h16 2106 j ≤ 119988 := fun j hj => by
                rw [(y_h16 2106 j).trans (if_neg (fun e => (bRo.ne (s_M_lack W) H_r12 (by decide)) e.1))]; exact va_M_lack_h11 j hj
              have va_M_share_h16 : ∀ j : Nat, (j : Int) < gg0 → 0 ≤ ys h16 2107 j ∧ ys h16 2107 j ≤ 9 * a1 + 9 := fun j hj => by
                have e9 := y_h16 2107 j
                by_cases e8 : (2107 : Nat) = 2107 ∧ j = (z6 : Int).toNat
                · rw [if_pos e8] at e9; omega
                · rw [if_neg e8] at e9; have := va_M_share_h11 j (by omega); omega
              refine yG.iinc rfl (a := a1) rfl (L' := [(1, yI (a1 + 1)), (2, yI (z6)), (0, yR 2073)]) rfl ?_
              refine yG.goto rfl (t := 159) rfl ?_
              exact yG.mono (yG.sub (i_159 (a1 + 1) (ys h16 2088 (0 : Int).toNat) h16 A_h16 M_bRg_h16 M_bTq_h16  rfl (by omega) (by omega) (by omega) (by omega) (by omega) (fun j hj => by have := va_M_lack_h16 j (by omega); omega) (fun j hj => by have := va_M_share_h16 j (by omega); omega) (by omega)) (ySub.cons rfl (ySub.cons rfl (ySub.nil)))) (by omega)
            · have c15 : (z14 : Int) = 1 := c15
              refine yG.load xak rfl (fun _ _ => rfl) (v := yR 2073) rfl rfl ?_
              refine yG.num (c := 3) rfl (fun _ _ => rfl) (by decide) ?_
              refine yG.load xik rfl (fun _ _ => rfl) (v := yI (a1)) rfl rfl ?_
              refine yG.num (c := 9) rfl (fun _ _ => rfl) (by decide) ?_
              refine yG.invV (rest := [yJ (z13), yI (z6), yR 2107]) A_h11.1 (bOb (d_M W) H_2073) rfl rfl rfl rfl (c_GModel_of_3_9 W (d + 4) A_h11.1 H_2073 (a1) (by omega) (by omega)) (fun rv hp9 q9 => ?_)
              obtain ⟨⟨z17, rfl, l_z17, u_z17, R_z17⟩, e9⟩ := q9
              rw [e9]
              show yG _ _ _ _ _ _ _ _ _ _ (yI z17 :: [yJ (z13), yI (z6), yR 2107]) _
              refine yG.i2l rfl ⟨by omega, by omega⟩ ?_
              refine yG.goto rfl (t := 246) rfl ?_
              refine yG.ladd rfl ?_
              refine yG.last A_h11.1 (v_M_share W H_r12) (W.2.1 _ _ H_r12 (by decide) (by decide)) rfl (by omega) (by omega) ⟨by omega, by omega⟩ (by omega) (by omega) (fun h18 T_h18 b_h18 f_h18 y_h18 => ?_)
              have M_bRg_h18 := M_bRg_h11.fr (bAx.put (Wl := [(1427247692705959881058285969449495136382746624, 256)]) (bAx.rf A_h11.1) T_h18 b_h18 f_h18 H_r12 (bAll_ok (by decide) _)) (by decide)
              have M_bTq_h18 := M_bTq_h11.fr (bAx.put (Wl := [(1427247692705959881058285969449495136382746624, 256)]) (bAx.rf A_h11.1) T_h18 b_h18 f_h18 H_r12 (bAll_ok (by decide) _)) (by decide)
              have A_h18 := A_h11.put T_h18 b_h18 f_h18 H_r12 (bAll_ok (by decide) _)
              have : ys h18 2088 (0 : Int).toNat = ys h11 2088 (0 : Int).toNat := (y_h18 2088 (0 : Int).toNat).trans (if_neg (fun e => (bRo.ne H_r1 H_r12 (by decide)) e.1))
              have : ys h18 2088 (3 : Int).toNat = ys h11 2088 (3 : Int).toNat := (y_h18 2088 (3 : Int).toNat).trans (if_neg (fun e => (bRo.ne H_r1 H_r12 (by decide)) e.1))
              have va_M_lack_h18 : ∀ j : Nat, (j : Int) < gg0 → 0 - 9999 * a1 - 9999 ≤ ys h18 2106 j ∧ ys h18 2106 j ≤ 119988 := fun j hj => by
                rw [(y_h18 2106 j).trans (if_neg (fun e => (bRo.ne (s_M_lack W) H_r12 (by decide)) e.1))]; exact va_M_lack_h11 j hj
              have va_M_share_h18 : ∀ j : Nat, (j : Int) < gg0 → 0 ≤ ys h18 2107 j ∧ ys h18 2107 j ≤ 9 * a1 + 9 := fun j hj => by
                have e9 := y_h18 2107 j
                by_cases e8 : (2107 : Nat) = 2107 ∧ j = (z6 : Int).toNat
                · rw [if_pos e8] at e9; omega
                · rw [if_neg e8] at e9; have := va_M_share_h11 j (by omega); omega
              refine yG.iinc rfl (a := a1) rfl (L' := [(1, yI (a1 + 1)), (2, yI (z6)), (0, yR 2073)]) rfl ?_
              refine yG.goto rfl (t := 159) rfl ?_
              exact yG.mono (yG.sub (i_159 (a1 + 1) (ys h18 2088 (0 : Int).toNat) h18 A_h18 M_bRg_h18 M_bTq_h18  rfl (by omega) (by omega) (by omega) (by omega) (by omega) (fun j hj => by have := va_M_lack_h18 j (by omega); omega) (fun j hj => by have := va_M_share_h18 j (by omega); omega) (by omega)) (ySub.cons rfl (ySub.cons rfl (ySub.nil)))) (by omega)
          · have c10 : (z9 : Int) = 1 := c10
            refine yG.load xak rfl (fun _ _ => rfl) (v := yR 2073) rfl rfl ?_
            refine yG.num (c := 3) rfl (fun _ _ => rfl) (by decide) ?_
            refine yG.load xik rfl (fun _ _ => rfl) (v := yI (a1)) rfl rfl ?_
            refine yG.num (c := 1) rfl (fun _ _ => rfl) (by decide) ?_
            refine yG.invV (rest := [yJ (z8), yI (z6), yR 2106]) A_hq.1 (bOb (d_M W) H_2073) rfl rfl rfl rfl (c_GModel_of_3_1 W (d + 4) A_hq.1 H_2073 (a1) (by omega) (by omega)) (fun rv hp9 q9 => ?_)
            obtain ⟨⟨z19, rfl, l_z19, u_z19, R_z19⟩, e9⟩ := q9
            rw [e9]
            show yG _ _ _ _ _ _ _ _ _ _ (yI z19 :: [yJ (z8), yI (z6), yR 2106]) _
            refine yG.i2l rfl ⟨by omega, by omega⟩ ?_
            refine yG.goto rfl (t := 213) rfl ?_
            refine yG.lsub rfl ?_
            refine yG.last A_hq.1 (v_M_lack W H_r7) (W.2.1 _ _ H_r7 (by decide) (by decide)) rfl (by omega) (by omega) ⟨by omega, by omega⟩ (by omega) (by omega) (fun h20 T_h20 b_h20 f_h20 y_h20 => ?_)
            have M_bRg_h20 := M_bRg_hq.fr (bAx.put (Wl := [(713623846352979940529142984724747568191373312, 256)]) (bAx.rf A_hq.1) T_h20 b_h20 f_h20 H_r7 (bAll_ok (by decide) _)) (by decide)
            have M_bTq_h20 := M_bTq_hq.fr (bAx.put (Wl := [(713623846352979940529142984724747568191373312, 256)]) (bAx.rf A_hq.1) T_h20 b_h20 f_h20 H_r7 (bAll_ok (by decide) _)) (by decide)
            have A_h20 := A_hq.put T_h20 b_h20 f_h20 H_r7 (bAll_ok (by decide) _)
            have : ys h20 2088 (0 : Int).toNat = ys hq 2088 (0 : Int).toNat := (y_h20 2088 (0 : Int).toNat).trans (if_neg (fun e => (bRo.ne H_r1 H_r7 (by decide)) e.1))
            have : ys h20 2088 (3 : Int).toNat = ys hq 2088 (3 : Int).toNat := (y_h20 2088 (3 : Int).toNat).trans (if_neg (fun e => (bRo.ne H_r1 H_r7 (by decide)) e.1))
            have va_M_lack_h20 : ∀ j : Nat, (j : Int) < gg0 → 0 - 9999 * a1 - 9999 ≤ ys h20 2106 j ∧ ys h20 2106 j ≤ 119988 := fun j hj => by
              have e9 := y_h20 2106 j
              by_cases e8 : (2106 : Nat) = 2106 ∧ j = (z6 : Int).toNat
              · rw [if_pos e8] at e9; omega
              · rw [if_neg e8] at e9; have := va_M_lack_159 j (by omega); omega
            have va_M_share_h20 : ∀ j : Nat, (j : Int) < gg0 → 0 ≤ ys h20 2107 j ∧ ys h20 2107 j ≤ 9 * a1 := fun j hj => by
              rw [(y_h20 2107 j).trans (if_neg (fun e => (bRo.ne (s_M_share W) H_r7 (by decide)) e.1))]; exact va_M_share_159 j hj
            refine yG.load xak rfl (fun _ _ => rfl) (v := yR 2073) rfl rfl ?_
            refine yG.getO A_h20.1 (w_M_share W H_2073) rfl rfl (fun r21 H_r21 O_r21 q_r21 => ?_)
            obtain rfl := u_M_share W H_r21
            refine yG.load xik rfl (fun _ _ => rfl) (v := yI (z6)) rfl rfl ?_
            refine yG.step (pc' := 221) (stk' := [yI (z6), yR 2107, yI (z6), yR 2107]) rfl (fun _ _ => rfl) ?_
            refine yG.lald A_h20.1 (v_M_share W H_r21) rfl (by omega) (by omega) (fun z22 e_z22 i_z22 l_z22 u_z22 => ?_)
            have vw_z22 := va_M_share_h20 (z6 : Int).toNat (by omega)
            refine yG.load xak rfl (fun _ _ => rfl) (v := yR 2073) rfl rfl ?_
            refine yG.num (c := 3) rfl (fun _ _ => rfl) (by decide) ?_
            refine yG.load xik rfl (fun _ _ => rfl) (v := yI (a1)) rfl rfl ?_
            refine yG.num (c := 0) rfl (fun _ _ => rfl) (by decide) ?_
            refine yG.invV (rest := [yJ (z22), yI (z6), yR 2107]) A_h20.1 (bOb (d_M W) H_2073) rfl rfl rfl rfl (c_GModel_of_v3_0 W (d + 4) A_h20.1 H_2073 (a1) (by omega) (by omega)) (fun rv hp9 q9 => ?_)
            obtain ⟨⟨z23, rfl, l_z23, u_z23, R_z23⟩, e9⟩ := q9
            rw [e9]
            show yG _ _ _ _ _ _ _ _ _ _ (yI z23 :: [yJ (z22), yI (z6), yR 2107]) _
            refine yG.num (c := 1) rfl (fun _ _ => rfl) (by decide) ?_
            refine yG.icmp rfl (t := 245) rfl ⟨by omega, by omega⟩ ⟨by omega, by omega⟩ (fun c24 => ?_) (fun c24 => ?_)
            · have c24 : (z23 : Int) ≠ 1 := c24
              refine yG.numl (c := 0) rfl (fun _ _ => rfl) (by decide) ?_
              refine yG.ladd rfl ?_
              refine yG.last A_h20.1 (v_M_share W H_r21) (W.2.1 _ _ H_r21 (by decide) (by decide)) rfl (by omega) (by omega) ⟨by omega, by omega⟩ (by omega) (by omega) (fun h25 T_h25 b_h25 f_h25 y_h25 => ?_)
              have M_bRg_h25 := M_bRg_h20.fr (bAx.put (Wl := [(1427247692705959881058285969449495136382746624, 256)]) (bAx.rf A_h20.1) T_h25 b_h25 f_h25 H_r21 (bAll_ok (by decide) _)) (by decide)
              have M_bTq_h25 := M_bTq_h20.fr (bAx.put (Wl := [(1427247692705959881058285969449495136382746624, 256)]) (bAx.rf A_h20.1) T_h25 b_h25 f_h25 H_r21 (bAll_ok (by decide) _)) (by decide)
              have A_h25 := A_h20.put T_h25 b_h25 f_h25 H_r21 (bAll_ok (by decide) _)
              have : ys h25 2088 (0 : Int).toNat = ys h20 2088 (0 : Int).toNat := (y_h25 2088 (0 : Int).toNat).trans (if_neg (fun e => (bRo.ne H_r1 H_r21 (by decide)) e.1))
              have : ys h25 2088 (3 : Int).toNat = ys h20 2088 (3 : Int).toNat := (y_h25 2088 (3 : Int).toNat).trans (if_neg (fun e => (bRo.ne H_r1 H_r21 (by decide)) e.1))
              have va_M_lack_h25 : ∀ j : Nat, (j : Int) < gg0 → 0 - 9999 * a1 - 9999 ≤ ys h25 2106 j ∧ ys h25 2106 j ≤ 119988 := fun j hj => by
                rw [(y_h25 2106 j).trans (if_neg (fun e => (bRo.ne (s_M_lack W) H_r21 (by decide)) e.1))]; exact va_M_lack_h20 j hj
              have va_M_share_h25 : ∀ j : Nat, (j : Int) < gg0 → 0 ≤ ys h25 2107 j ∧ ys h25 2107 j ≤ 9 * a1 + 9 := fun j hj => by
                have e9 := y_h25 2107 j
                by_cases e8 : (2107 : Nat) = 2107 ∧ j = (z6 : Int).toNat
                · rw [if_pos e8] at e9; omega
                · rw [if_neg e8] at e9; have := va_M_share_h20 j (by omega); omega
              refine yG.iinc rfl (a := a1) rfl (L' := [(1, yI (a1 + 1)), (2, yI (z6)), (0, yR 2073)]) rfl ?_
              refine yG.goto rfl (t := 159) rfl ?_
              exact yG.mono (yG.sub (i_159 (a1 + 1) (ys h25 2088 (0 : Int).toNat) h25 A_h25 M_bRg_h25 M_bTq_h25  rfl (by omega) (by omega) (by omega) (by omega) (by omega) (fun j hj => by have := va_M_lack_h25 j (by omega); omega) (fun j hj => by have := va_M_share_h25 j (by omega); omega) (by omega)) (ySub.cons rfl (ySub.cons rfl (ySub.nil)))) (by omega)
            · have c24 : (z23 : Int) = 1 := c24
              refine yG.load xak rfl (fun _ _ => rfl) (v := yR 2073) rfl rfl ?_
              refine yG.num (c := 3) rfl (fun _ _ => rfl) (by decide) ?_
              refine yG.load xik rfl (fun _ _ => rfl) (v := yI (a1)) rfl rfl ?_
              refine yG.num (c := 9) rfl (fun _ _ => rfl) (by decide) ?_
              refine yG.invV (rest := [yJ (z22), yI (z6), yR 2107]) A_h20.1 (bOb (d_M W) H_2073) rfl rfl rfl rfl (c_GModel_of_3_9 W (d + 4) A_h20.1 H_2073 (a1) (by omega) (by omega)) (fun rv hp9 q9 => ?_)
              obtain ⟨⟨z26, rfl, l_z26, u_z26, R_z26⟩, e9⟩ := q9
              rw [e9]
              show yG _ _ _ _ _ _ _ _ _ _ (yI z26 :: [yJ (z22), yI (z6), yR 2107]) _
              refine yG.i2l rfl ⟨by omega, by omega⟩ ?_
              refine yG.goto rfl (t := 246) rfl ?_
              refine yG.ladd rfl ?_
              refine yG.last A_h20.1 (v_M_share W H_r21) (W.2.1 _ _ H_r21 (by decide) (by decide)) rfl (by omega) (by omega) ⟨by omega, by omega⟩ (by omega) (by omega) (fun h27 T_h27 b_h27 f_h27 y_h27 => ?_)
              have M_bRg_h27 := M_bRg_h20.fr (bAx.put (Wl := [(1427247692705959881058285969449495136382746624, 256)]) (bAx.rf A_h20.1) T_h27 b_h27 f_h27 H_r21 (bAll_ok (by decide) _)) (by decide)
              have M_bTq_h27 := M_bTq_h20.fr (bAx.put (Wl := [(1427247692705959881058285969449495136382746624, 256)]) (bAx.rf A_h20.1) T_h27 b_h27 f_h27 H_r21 (bAll_ok (by decide) _)) (by decide)
              have A_h27 := A_h20.put T_h27 b_h27 f_h27 H_r21 (bAll_ok (by decide) _)
              have : ys h27 2088 (0 : Int).toNat = ys h20 2088 (0 : Int).toNat := (y_h27 2088 (0 : Int).toNat).trans (if_neg (fun e => (bRo.ne H_r1 H_r21 (by decide)) e.1))
              have : ys h27 2088 (3 : Int).toNat = ys h20 2088 (3 : Int).toNat := (y_h27 2088 (3 : Int).toNat).trans (if_neg (fun e => (bRo.ne H_r1 H_r21 (by decide)) e.1))
              have va_M_lack_h27 : ∀ j : Nat, (j : Int) < gg0 → 0 - 9999 * a1 - 9999 ≤ ys h27 2106 j ∧ ys h27 2106 j ≤ 119988 := fun j hj => by
                rw [(y_h27 2106 j).trans (if_neg (fun e => (bRo.ne (s_M_lack W) H_r21 (by decide)) e.1))]; exact va_M_lack_h20 j hj
              have va_M_share_h27 : ∀ j : Nat, (j : Int) < gg0 → 0 ≤ ys h27 2107 j ∧ ys h27 2107 j ≤ 9 * a1 + 9 := fun j hj => by
                have e9 := y_h27 2107 j
                by_cases e8 : (2107 : Nat) = 2107 ∧ j = (z6 : Int).toNat
                · rw [if_pos e8] at e9; omega
                · rw [if_neg e8] at e9; have := va_M_share_h20 j (by omega); omega
              refine yG.iinc rfl (a := a1) rfl (L' := [(1, yI (a1 + 1)), (2, yI (z6)), (0, yR 2073)]) rfl ?_
              refine yG.goto rfl (t := 159) rfl ?_
              exact yG.mono (yG.sub (i_159 (a1 + 1) (ys h27 2088 (0 : Int).toNat) h27 A_h27 M_bRg_h27 M_bTq_h27  rfl (by omega) (by omega) (by omega) (by omega) (by omega) (fun j hj => by have := va_M_lack_h27 j (by omega); omega) (fun j hj => by have := va_M_share_h27 j (by omega); omega) (by omega)) (ySub.cons rfl (ySub.cons rfl (ySub.nil)))) (by omega)
      · intro a1 gg0 hq A_hq M_bRg_hq M_bTq_hq E_0 f0 f1 f2 f3 hm
        refine yG.mono (N := 62 * m + 62) ?_ (by omega)
        obtain ⟨-, -, g_0l, g_0u⟩ := (v_M_count W (s_M_count W)).int A_hq.1 (j := (0 : Int).toNat) (by decide) rfl
        refine yG.load xik rfl (fun _ _ => rfl) (v := yI (a1)) rfl rfl ?_
        refine yG.load xak rfl (fun _ _ => rfl) (v := yR 2073) rfl rfl ?_
        refine yG.getO A_hq.1 (w_M_count W H_2073) rfl rfl (fun r1 H_r1 O_r1 q_r1 => ?_)
        obtain rfl := u_M_count W H_r1
        refine yG.num (c := 2) rfl (fun _ _ => rfl) (by decide) ?_
        refine yG.ialdF A_hq.1 (v_M_count W H_r1) rfl rfl (by omega) (by omega) (fun z2 e_z2 i_z2 l_z2 u_z2 => ?_)
        refine yG.icmp rfl (t := 288) rfl ⟨by omega, by omega⟩ ⟨by omega, by omega⟩ (fun c3 => ?_) (fun c3 => ?_)
        · have c3 : (a1 : Int) ≥ z2 := c3
          refine yG.num (c := 0) rfl (fun _ _ => rfl) (by decide) ?_
          refine yG.store1 xik (L' := [(1, yI (0)), (0, yR 2073)]) rfl (fun _ _ => rfl) rfl rfl ?_
          exact yG.mono (yG.sub (i_290 (0) (ys hq 2088 (0 : Int).toNat) hq A_hq M_bRg_hq M_bTq_hq  rfl (by omega) (by omega) (by omega) (by omega) (by omega) (by omega)) (ySub.cons rfl (ySub.cons rfl (ySub.nil)))) (by omega)
        · have c3 : (a1 : Int) < z2 := c3
          refine yG.load xak rfl (fun _ _ => rfl) (v := yR 2073) rfl rfl ?_
          refine yG.num (c := 32) rfl (fun _ _ => rfl) (by decide) ?_
          refine yG.load xik rfl (fun _ _ => rfl) (v := yI (a1)) rfl rfl ?_
          refine yG.iadd rfl ?_
          refine yG.numl (c := 0) rfl (fun _ _ => rfl) (by decide) ?_
          refine yG.invV (rest := []) A_hq.1 (bOb (d_M W) H_2073) rfl rfl rfl rfl (r_put W (d + 5) A_hq.1 M_bRg_hq H_2073 (r := (32 + a1)) (v := (0)) (x := 0) ⟨by omega, by omega⟩ (yEb (c := 1) (by decide) (by omega) (by omega)) (by decide) (bTb_ge (a := 32) (b := 52) (by decide) (by omega) (by omega))) (fun rv h4 q9 => ?_)
          obtain ⟨rfl, B_h4, M_bRg_h4, Y_h4, V_h4, S_h4⟩ := q9
          have P_h4 : 0 ≤ yval h4 (32 + a1 : Int).toNat := by rw [V_h4]; omega
          have A_h4 := A_hq.tr B_h4 (by decide)
          have M_bTq_h4 := M_bTq_hq.fr B_h4 (by decide)
          have : ys h4 2088 (0 : Int).toNat = ys hq 2088 (0 : Int).toNat := B_h4.ys H_r1 (bNo_ok (by decide) _)
          show yG _ _ _ _ _ _ _ _ _ _ [] _
          refine yG.load xak rfl (fun _ _ => rfl) (v := yR 2073) rfl rfl ?_
          refine yG.getO A_h4.1 (w_M_isOver W H_2073) rfl rfl (fun r5 H_r5 O_r5 q_r5 => ?_)
          obtain rfl := u_M_isOver W H_r5
          refine yG.load xik rfl (fun _ _ => rfl) (v := yI (a1)) rfl rfl ?_
          refine yG.num (c := 0) rfl (fun _ _ => rfl) (by decide) ?_
          refine yG.bast A_h4.1 (v_M_isOver W H_r5) (W.2.1 _ _ H_r5 (by decide) (by decide)) rfl (by omega) (by omega) ⟨by omega, by omega⟩ (by omega) (by omega) (fun h6 T_h6 b_h6 f_h6 y_h6 => ?_)
          have M_bRg_h6 := M_bRg_h4.fr (bAx.put (Wl := [(2854495385411919762116571938898990272765493248, 256)]) (bAx.rf A_h4.1) T_h6 b_h6 f_h6 H_r5 (bAll_ok (by decide) _)) (by decide)
          have M_bTq_h6 := M_bTq_h4.fr (bAx.put (Wl := [(2854495385411919762116571938898990272765493248, 256)]) (bAx.rf A_h4.1) T_h6 b_h6 f_h6 H_r5 (bAll_ok (by decide) _)) (by decide)
          have A_h6 := A_h4.put T_h6 b_h6 f_h6 H_r5 (bAll_ok (by decide) _)
          have : ys h6 2088 (0 : Int).toNat = ys h4 2088 (0 : Int).toNat := (y_h6 2088 (0 : Int).toNat).trans (if_neg (fun e => (bRo.ne H_r1 H_r5 (by decide)) e.1))
          refine yG.iinc rfl (a := a1) rfl (L' := [(1, yI (a1 + 1)), (0, yR 2073)]) rfl ?_
          refine yG.goto rfl (t := 256) rfl ?_
          exact yG.mono (yG.sub (i_256 (a1 + 1) (ys h6 2088 (0 : Int).toNat) h6 A_h6 M_bRg_h6 M_bTq_h6  rfl (by omega) (by omega) (by omega) (by omega) (by omega)) (ySub.cons rfl (ySub.cons rfl (ySub.nil)))) (by omega)
      · intro a1 gg0 hq A_hq M_bRg_hq M_bTq_hq E_0 f0 f1 f2 f3 f4 hm
        refine yG.mono (N := 62 * m + 62) ?_ (by omega)
        obtain ⟨-, -, g_0l, g_0u⟩ := (v_M_count W (s_M_count W)).int A_hq.1 (j := (0 : Int).toNat) (by decide) rfl
        refine yG.load xik rfl (fun _ _ => rfl) (v := yI (a1)) rfl rfl ?_
        refine yG.load xak rfl (fun _ _ => rfl) (v := yR 2073) rfl rfl ?_
        refine yG.getO A_hq.1 (w_M_count W H_2073) rfl rfl (fun r1 H_r1 O_r1 q_r1 => ?_)
        obtain rfl := u_M_count W H_r1
        refine yG.num (c := 0) rfl (fun _ _ => rfl) (by decide) ?_
        refine yG.ialdF A_hq.1 (v_M_count W H_r1) rfl rfl (by omega) (by omega) (fun z2 e_z2 i_z2 l_z2 u_z2 => ?_)
        rw [show (z2 : Int) = gg0 by omega]
        refine yG.icmp rfl (t := 395) rfl ⟨by omega, by omega⟩ ⟨by omega, by omega⟩ (fun c3 => ?_) (fun c3 => ?_)
        · have c3 : (a1 : Int) ≥ gg0 := c3
          refine yG.num (c := 0) rfl (fun _ _ => rfl) (by decide) ?_
          refine yG.store1 xik (L' := [(1, yI (0)), (0, yR 2073)]) rfl (fun _ _ => rfl) rfl rfl ?_
          exact yG.mono (yG.sub (i_397 (0) (ys hq 2088 (0 : Int).toNat) hq A_hq M_bRg_hq M_bTq_hq  rfl (by omega) (by omega) (by omega) (by omega) (by omega)) (ySub.cons rfl (ySub.cons rfl (ySub.nil)))) (by omega)
        · have c3 : (a1 : Int) < gg0 := c3
          refine yG.load xak rfl (fun _ _ => rfl) (v := yR 2073) rfl rfl ?_
          refine yG.getO A_hq.1 (w_M_island W H_2073) rfl rfl (fun r4 H_r4 O_r4 q_r4 => ?_)
          obtain rfl := u_M_island W H_r4
          refine yG.load xik rfl (fun _ _ => rfl) (v := yI (a1)) rfl rfl ?_
          refine yG.ialdF A_hq.1 (v_M_island W H_r4) rfl rfl (by omega) (by omega) (fun z5 e_z5 i_z5 l_z5 u_z5 => ?_)
          refine yG.load xik rfl (fun _ _ => rfl) (v := yI (a1)) rfl rfl ?_
          refine yG.icmp rfl (t := 389) rfl ⟨by omega, by omega⟩ ⟨by omega, by omega⟩ (fun c6 => ?_) (fun c6 => ?_)
          · have c6 : (z5 : Int) ≠ a1 := c6
            refine yG.iinc rfl (a := a1) rfl (L' := [(1, yI (a1 + 1)), (0, yR 2073)]) rfl ?_
            refine yG.goto rfl (t := 290) rfl ?_
            exact yG.mono (yG.sub (i_290 (a1 + 1) (ys hq 2088 (0 : Int).toNat) hq A_hq M_bRg_hq M_bTq_hq  rfl (by omega) (by omega) (by omega) (by omega) (by omega) (by omega)) (ySub.cons rfl (ySub.cons rfl (ySub.nil)))) (by omega)
          · have c6 : (z5 : Int) = a1 := c6
            refine yG.load xak rfl (fun _ _ => rfl) (v := yR 2073) rfl rfl ?_
            refine yG.getO A_hq.1 (w_M_isLive W H_2073) rfl rfl (fun r7 H_r7 O_r7 q_r7 => ?_)
            obtain rfl := u_M_isLive W H_r7
            refine yG.load xik rfl (fun _ _ => rfl) (v := yI (a1)) rfl rfl ?_
            refine yG.bald A_hq.1 (v_M_isLive W H_r7) rfl (by omega) (by omega) (fun z8 e_z8 i_z8 l_z8 u_z8 => ?_)
            refine yG.ifz rfl (t := 389) rfl ⟨by omega, by omega⟩ (fun c9 => ?_) (fun c9 => ?_)
            · have c9 : (z8 : Int) = 0 := c9
              refine yG.iinc rfl (a := a1) rfl (L' := [(1, yI (a1 + 1)), (0, yR 2073)]) rfl ?_
              refine yG.goto rfl (t := 290) rfl ?_
              exact yG.mono (yG.sub (i_290 (a1 + 1) (ys hq 2088 (0 : Int).toNat) hq A_hq M_bRg_hq M_bTq_hq  rfl (by omega) (by omega) (by omega) (by omega) (by omega) (by omega)) (ySub.cons rfl (ySub.cons rfl (ySub.nil)))) (by omega)
            · have c9 : (z8 : Int) ≠ 0 := c9
              refine yG.load xak rfl (fun _ _ => rfl) (v := yR 2073) rfl rfl ?_
              refine yG.getO A_hq.1 (w_M_isStuck W H_2073) rfl rfl (fun r10 H_r10 O_r10 q_r10 => ?_)
              obtain rfl := u_M_isStuck W H_r10
              refine yG.load xik rfl (fun _ _ => rfl) (v := yI (a1)) rfl rfl ?_
              refine yG.load xak rfl (fun _ _ => rfl) (v := yR 2073) rfl rfl ?_
              refine yG.getO A_hq.1 (w_M_share W H_2073) rfl rfl (fun r11 H_r11 O_r11 q_r11 => ?_)
              obtain rfl := u_M_share W H_r11
              refine yG.load xik rfl (fun _ _ => rfl) (v := yI (a1)) rfl rfl ?_
              refine yG.lald A_hq.1 (v_M_share W H_r11) rfl (by omega) (by omega) (fun z12 e_z12 i_z12 l_z12 u_z12 => ?_)
              refine yG.numl (c := 0) rfl (fun _ _ => rfl) (by decide) ?_
              refine yG.lcmp rfl ⟨by omega, by omega⟩ ⟨by omega, by omega⟩ (fun z13 e_z13 => ?_)
              refine yG.ifz rfl (t := 350) rfl ⟨by omega, by omega⟩ (fun c14 => ?_) (fun c14 => ?_)
              · have c14 : (z13 : Int) ≠ 0 := c14
                refine yG.num (c := 0) rfl (fun _ _ => rfl) (by decide) ?_
                refine yG.bast A_hq.1 (v_M_isStuck W H_r10) (W.2.1 _ _ H_r10 (by decide) (by decide)) rfl (by omega) (by omega) ⟨by omega, by omega⟩ (by omega) (by omega) (fun h15 T_h15 b_h15 f_h15 y_h15 => ?_)
                have M_bRg_h15 := M_bRg_hq.fr (bAx.put (Wl := [(356811923176489970264571492362373784095686656, 256)]) (bAx.rf A_hq.1) T_h15 b_h15 f_h15 H_r10 (bAll_ok (by decide) _)) (by decide)
                have M_bTq_h15 := M_bTq_hq.fr (bAx.put (Wl := [(356811923176489970264571492362373784095686656, 256)]) (bAx.rf A_hq.1) T_h15 b_h15 f_h15 H_r10 (bAll_ok (by decide) _)) (by decide)
                have A_h15 := A_hq.put T_h15 b_h15 f_h15 H_r10 (bAll_ok (by decide) _)
                have : ys h15 2088 (0 : Int).toNat = ys hq 2088 (0 : Int).toNat := (y_h15 2088 (0 : Int).toNat).trans (if_neg (fun e => (bRo.ne H_r1 H_r10 (by decide)) e.1))
                have qq1 : zsl h15 2073 41 = yR 2105 := ((f_h15 2073 41).trans (if_neg (fun e => (bRo.ne H_2073 H_r10 (by decide)) e.1))).trans q_r10
                have : ys h15 2105 (a1 : Int).toNat = 0 := (y_h15 2105 _).trans (if_pos ⟨rfl, rfl⟩)
                refine yG.load xak rfl (fun _ _ => rfl) (v := yR 2073) rfl rfl ?_
                refine yG.step (pc' := 354) (stk' := [yR 2073, yR 2073]) rfl (fun _ _ => rfl) ?_
                refine yG.getI A_h15.1 (w_M_stuckCount W H_2073) rfl rfl (fun z16 e_z16 i_z16 l_z16 u_z16 => ?_)
                refine yG.load xak rfl (fun _ _ => rfl) (v := yR 2073) rfl rfl ?_
                refine yG.getS9 A_h15.1 (w_M_isStuck W H_2073) qq1 rfl rfl ?_
                refine yG.load xik rfl (fun _ _ => rfl) (v := yI (a1)) rfl rfl ?_
                refine yG.bald A_h15.1 (v_M_isStuck W H_r10) rfl (by omega) (by omega) (fun z17 e_z17 i_z17 l_z17 u_z17 => ?_)
                refine yG.ifz rfl (t := 370) rfl ⟨by omega, by omega⟩ (fun c18 => ?_) (fun c18 => ?_)
                · have c18 : (z17 : Int) = 0 := c18
                  refine yG.num (c := 0) rfl (fun _ _ => rfl) (by decide) ?_
                  refine yG.iadd rfl ?_
                  refine yG.putI A_h15.1 (w_M_stuckCount W H_2073) (W.2.1 _ _ H_2073 (by decide) (by decide)) rfl rfl (.inl rfl) ⟨by omega, by omega⟩ (by omega) (by omega) (fun h19 T_h19 b_h19 f_h19 y_h19 => ?_)
                  have M_bRg_h19 := M_bRg_h15.fr (bAx.put (Wl := [(83076749736557242056487941267521536, 46)]) (bAx.rf A_h15.1) T_h19 b_h19 f_h19 H_2073 (by decide)) (by decide)
                  have M_bTq_h19 := M_bTq_h15.fr (bAx.put (Wl := [(83076749736557242056487941267521536, 46)]) (bAx.rf A_h15.1) T_h19 b_h19 f_h19 H_2073 (by decide)) (by decide)
                  have A_h19 := A_h15.put T_h19 b_h19 f_h19 H_2073 (by decide)
                  have : ys h19 2088 (0 : Int).toNat = ys h15 2088 (0 : Int).toNat := (y_h19 2088 (0 : Int).toNat).trans (if_neg (fun e => (bRo.ne H_r1 H_2073 (by decide)) e.1))
                  have qq2 : zsl h19 2073 41 = yR 2105 := ((f_h19 2073 41).trans (if_neg (fun e => absurd e.2 (by decide)))).trans qq1
                  have : ys h19 2105 (a1 : Int).toNat = ys h15 2105 (a1 : Int).toNat := (y_h19 2105 (a1 : Int).toNat).trans (if_neg (fun e => (bRo.ne H_r10 H_2073 (by decide)) e.1))
                  refine yG.load xak rfl (fun _ _ => rfl) (v := yR 2073) rfl rfl ?_
                  refine yG.getS9 A_h19.1 (w_M_isStuck W H_2073) qq2 rfl rfl ?_
                  refine yG.load xik rfl (fun _ _ => rfl) (v := yI (a1)) rfl rfl ?_
                  refine yG.bald A_h19.1 (v_M_isStuck W H_r10) rfl (by omega) (by omega) (fun z20 e_z20 i_z20 l_z20 u_z20 => ?_)
                  refine yG.ifz rfl (t := 389) rfl ⟨by omega, by omega⟩ (fun c21 => ?_) (fun c21 => ?_)
                  · have c21 : (z20 : Int) ≠ 0 := c21
                    exfalso; omega
                  · have c21 : (z20 : Int) = 0 := c21
                    refine yG.load xak rfl (fun _ _ => rfl) (v := yR 2073) rfl rfl ?_
                    refine yG.load xik rfl (fun _ _ => rfl) (v := yI (a1)) rfl rfl ?_
                    have fz9 : ys h19 2088 0 = ys h19 2088 (0 : Int).toNat := rfl
                    have ki9_h15 : gIl h15 (a1 : Int).toNat = gIl hq (a1 : Int).toNat := (y_h15 2101 _).trans (if_neg (fun e => absurd e.1 (by decide)))
                    have ki9_h19 : gIl h19 (a1 : Int).toNat = gIl h15 (a1 : Int).toNat := (y_h19 2101 _).trans (if_neg (fun e => absurd e.1 (by decide)))
                    have kq9 : gIl hq (a1 : Int).toNat = ys hq 2101 (a1 : Int).toNat := rfl
                    have fi9 : gIl h19 (a1 : Int).toNat = a1 := by omega
                    have fn9 := gTi.nd M_bTq_h19 (b := (a1 : Int).toNat) (by omega) (by omega)
                    refine yG.invV (rest := []) A_h19.1 (bOb (d_M W) H_2073) rfl rfl rfl rfl (c_GModel_flowsOf W d A_h19.1 M_bRg_h19 (M_bWf.fr A_h19 (by decide)) M_bTq_h19 (M_bPr.fr A_h19 (by decide)) H_2073 (a1) (by omega) (by omega) (by omega) (by omega) (by omega)) (fun rv h22 q9 => ?_)
                    obtain ⟨q9, M_bRg_h22⟩ := q9
                    obtain ⟨⟨rfl, R_z23⟩, B_h22⟩ := q9
                    have A_h22 := A_h19.tr B_h22 (by decide)
                    have M_bTq_h22 := M_bTq_h19.fr B_h22 (by decide)
                    have : ys h22 2088 (0 : Int).toNat = ys h19 2088 (0 : Int).toNat := B_h22.ys H_r1 (bNo_ok (by decide) _)
                    have qq3 : zsl h22 2073 41 = yR 2105 := (B_h22.sl H_2073 (by decide)).trans qq2
                    have : ys h22 2105 (a1 : Int).toNat = ys h19 2105 (a1 : Int).toNat := B_h22.ys H_r10 (bNo_ok (by decide) _)
                    show yG _ _ _ _ _ _ _ _ _ _ [] _
                    refine yG.iinc rfl (a := a1) rfl (L' := [(1, yI (a1 + 1)), (0, yR 2073)]) rfl ?_
                    refine yG.goto rfl (t := 290) rfl ?_
                    exact yG.mono (yG.sub (i_290 (a1 + 1) (ys h22 2088 (0 : Int).toNat) h22 A_h22 M_bRg_h22 M_bTq_h22  rfl (by omega) (by omega) (by omega) (by omega) (by omega) (by omega)) (ySub.cons rfl (ySub.cons rfl (ySub.nil)))) (by omega)
                · have c18 : (z17 : Int) ≠ 0 := c18
                  exfalso; omega
              · have c14 : (z13 : Int) = 0 := c14
                refine yG.load xak rfl (fun _ _ => rfl) (v := yR 2073) rfl rfl ?_
                refine yG.getO A_hq.1 (w_M_lack W H_2073) rfl rfl (fun r24 H_r24 O_r24 q_r24 => ?_)
                obtain rfl := u_M_lack W H_r24
                refine yG.load xik rfl (fun _ _ => rfl) (v := yI (a1)) rfl rfl ?_
                refine yG.lald A_hq.1 (v_M_lack W H_r24) rfl (by omega) (by omega) (fun z25 e_z25 i_z25 l_z25 u_z25 => ?_)
                refine yG.numl (c := 0) rfl (fun _ _ => rfl) (by decide) ?_
                refine yG.lcmp rfl ⟨by omega, by omega⟩ ⟨by omega, by omega⟩ (fun z26 e_z26 => ?_)
                refine yG.ifz rfl (t := 350) rfl ⟨by omega, by omega⟩ (fun c27 => ?_) (fun c27 => ?_)
                · have c27 : (z26 : Int) = 0 := c27
                  refine yG.num (c := 0) rfl (fun _ _ => rfl) (by decide) ?_
                  refine yG.bast A_hq.1 (v_M_isStuck W H_r10) (W.2.1 _ _ H_r10 (by decide) (by decide)) rfl (by omega) (by omega) ⟨by omega, by omega⟩ (by omega) (by omega) (fun h28 T_h28 b_h28 f_h28 y_h28 => ?_)
                  have M_bRg_h28 := M_bRg_hq.fr (bAx.put (Wl := [(356811923176489970264571492362373784095686656, 256)]) (bAx.rf A_hq.1) T_h28 b_h28 f_h28 H_r10 (bAll_ok (by decide) _)) (by decide)
                  have M_bTq_h28 := M_bTq_hq.fr (bAx.put (Wl := [(356811923176489970264571492362373784095686656, 256)]) (bAx.rf A_hq.1) T_h28 b_h28 f_h28 H_r10 (bAll_ok (by decide) _)) (by decide)
                  have A_h28 := A_hq.put T_h28 b_h28 f_h28 H_r10 (bAll_ok (by decide) _)
                  have : ys h28 2088 (0 : Int).toNat = ys hq 2088 (0 : Int).toNat := (y_h28 2088 (0 : Int).toNat).trans (if_neg (fun e => (bRo.ne H_r1 H_r10 (by decide)) e.1))
                  have qq4 : zsl h28 2073 41 = yR 2105 := ((f_h28 2073 41).trans (if_neg (fun e => (bRo.ne H_2073 H_r10 (by decide)) e.1))).trans q_r10
                  have : ys h28 2105 (a1 : Int).toNat = 0 := (y_h28 2105 _).trans (if_pos ⟨rfl, rfl⟩)
                  refine yG.load xak rfl (fun _ _ => rfl) (v := yR 2073) rfl rfl ?_
                  refine yG.step (pc' := 354) (stk' := [yR 2073, yR 2073]) rfl (fun _ _ => rfl) ?_
                  refine yG.getI A_h28.1 (w_M_stuckCount W H_2073) rfl rfl (fun z29 e_z29 i_z29 l_z29 u_z29 => ?_)
                  refine yG.load xak rfl (fun _ _ => rfl) (v := yR 2073) rfl rfl ?_
                  refine yG.getS9 A_h28.1 (w_M_isStuck W H_2073) qq4 rfl rfl ?_
                  refine yG.load xik rfl (fun _ _ => rfl) (v := yI (a1)) rfl rfl ?_
                  refine yG.bald A_h28.1 (v_M_isStuck W H_r10) rfl (by omega) (by omega) (fun z30 e_z30 i_z30 l_z30 u_z30 => ?_)
                  refine yG.ifz rfl (t := 370) rfl ⟨by omega, by omega⟩ (fun c31 => ?_) (fun c31 => ?_)
                  · have c31 : (z30 : Int) = 0 := c31
                    refine yG.num (c := 0) rfl (fun _ _ => rfl) (by decide) ?_
                    refine yG.iadd rfl ?_
                    refine yG.putI A_h28.1 (w_M_stuckCount W H_2073) (W.2.1 _ _ H_2073 (by decide) (by decide)) rfl rfl (.inl rfl) ⟨by omega, by omega⟩ (by omega) (by omega) (fun h32 T_h32 b_h32 f_h32 y_h32 => ?_)
                    have M_bRg_h32 := M_bRg_h28.fr (bAx.put (Wl := [(83076749736557242056487941267521536, 46)]) (bAx.rf A_h28.1) T_h32 b_h32 f_h32 H_2073 (by decide)) (by decide)
                    have M_bTq_h32 := M_bTq_h28.fr (bAx.put (Wl := [(83076749736557242056487941267521536, 46)]) (bAx.rf A_h28.1) T_h32 b_h32 f_h32 H_2073 (by decide)) (by decide)
                    have A_h32 := A_h28.put T_h32 b_h32 f_h32 H_2073 (by decide)
                    have : ys h32 2088 (0 : Int).toNat = ys h28 2088 (0 : Int).toNat := (y_h32 2088 (0 : Int).toNat).trans (if_neg (fun e => (bRo.ne H_r1 H_2073 (by decide)) e.1))
                    have qq5 : zsl h32 2073 41 = yR 2105 := ((f_h32 2073 41).trans (if_neg (fun e => absurd e.2 (by decide)))).trans qq4
                    have : ys h32 2105 (a1 : Int).toNat = ys h28 2105 (a1 : Int).toNat := (y_h32 2105 (a1 : Int).toNat).trans (if_neg (fun e => (bRo.ne H_r10 H_2073 (by decide)) e.1))
                    refine yG.load xak rfl (fun _ _ => rfl) (v := yR 2073) rfl rfl ?_
                    refine yG.getS9 A_h32.1 (w_M_isStuck W H_2073) qq5 rfl rfl ?_
                    refine yG.load xik rfl (fun _ _ => rfl) (v := yI (a1)) rfl rfl ?_
                    refine yG.bald A_h32.1 (v_M_isStuck W H_r10) rfl (by omega) (by omega) (fun z33 e_z33 i_z33 l_z33 u_z33 => ?_)
                    refine yG.ifz rfl (t := 389) rfl ⟨by omega, by omega⟩ (fun c34 => ?_) (fun c34 => ?_)
                    · have c34 : (z33 : Int) ≠ 0 := c34
                      exfalso; omega
                    · have c34 : (z33 : Int) = 0 := c34
                      refine yG.load xak rfl (fun _ _ => rfl) (v := yR 2073) rfl rfl ?_
                      refine yG.load xik rfl (fun _ _ => rfl) (v := yI (a1)) rfl rfl ?_
                      have fz9 : ys h32 2088 0 = ys h32 2088 (0 : Int).toNat := rfl
                      have ki9_h28 : gIl h28 (a1 : Int).toNat = gIl hq (a1 : Int).toNat := (y_h28 2101 _).trans (if_neg (fun e => absurd e.1 (by decide)))
                      have ki9_h32 : gIl h32 (a1 : Int).toNat = gIl h28 (a1 : Int).toNat := (y_h32 2101 _).trans (if_neg (fun e => absurd e.1 (by decide)))
                      have kq9 : gIl hq (a1 : Int).toNat = ys hq 2101 (a1 : Int).toNat := rfl
                      have fi9 : gIl h32 (a1 : Int).toNat = a1 := by omega
                      have fn9 := gTi.nd M_bTq_h32 (b := (a1 : Int).toNat) (by omega) (by omega)
                      refine yG.invV (rest := []) A_h32.1 (bOb (d_M W) H_2073) rfl rfl rfl rfl (c_GModel_flowsOf W d A_h32.1 M_bRg_h32 (M_bWf.fr A_h32 (by decide)) M_bTq_h32 (M_bPr.fr A_h32 (by decide)) H_2073 (a1) (by omega) (by omega) (by omega) (by omega) (by omega)) (fun rv h35 q9 => ?_)
                      obtain ⟨q9, M_bRg_h35⟩ := q9
                      obtain ⟨⟨rfl, R_z36⟩, B_h35⟩ := q9
                      have A_h35 := A_h32.tr B_h35 (by decide)
                      have M_bTq_h35 := M_bTq_h32.fr B_h35 (by decide)
                      have : ys h35 2088 (0 : Int).toNat = ys h32 2088 (0 : Int).toNat := B_h35.ys H_r1 (bNo_ok (by decide) _)
                      have qq6 : zsl h35 2073 41 = yR 2105 := (B_h35.sl H_2073 (by decide)).trans qq5
                      have : ys h35 2105 (a1 : Int).toNat = ys h32 2105 (a1 : Int).toNat := B_h35.ys H_r10 (bNo_ok (by decide) _)
                      show yG _ _ _ _ _ _ _ _ _ _ [] _
                      refine yG.iinc rfl (a := a1) rfl (L' := [(1, yI (a1 + 1)), (0, yR 2073)]) rfl ?_
                      refine yG.goto rfl (t := 290) rfl ?_
                      exact yG.mono (yG.sub (i_290 (a1 + 1) (ys h35 2088 (0 : Int).toNat) h35 A_h35 M_bRg_h35 M_bTq_h35  rfl (by omega) (by omega) (by omega) (by omega) (by omega) (by omega)) (ySub.cons rfl (ySub.cons rfl (ySub.nil)))) (by omega)
                  · have c31 : (z30 : Int) ≠ 0 := c31
                    exfalso; omega
                · have c27 : (z26 : Int) ≠ 0 := c27
                  refine yG.num (c := 1) rfl (fun _ _ => rfl) (by decide) ?_
                  refine yG.goto rfl (t := 351) rfl ?_
                  refine yG.bast A_hq.1 (v_M_isStuck W H_r10) (W.2.1 _ _ H_r10 (by decide) (by decide)) rfl (by omega) (by omega) ⟨by omega, by omega⟩ (by omega) (by omega) (fun h37 T_h37 b_h37 f_h37 y_h37 => ?_)
                  have M_bRg_h37 := M_bRg_hq.fr (bAx.put (Wl := [(356811923176489970264571492362373784095686656, 256)]) (bAx.rf A_hq.1) T_h37 b_h37 f_h37 H_r10 (bAll_ok (by decide) _)) (by decide)
                  have M_bTq_h37 := M_bTq_hq.fr (bAx.put (Wl := [(356811923176489970264571492362373784095686656, 256)]) (bAx.rf A_hq.1) T_h37 b_h37 f_h37 H_r10 (bAll_ok (by decide) _)) (by decide)
                  have A_h37 := A_hq.put T_h37 b_h37 f_h37 H_r10 (bAll_ok (by decide) _)
                  have : ys h37 2088 (0 : Int).toNat = ys hq 2088 (0 : Int).toNat := (y_h37 2088 (0 : Int).toNat).trans (if_neg (fun e => (bRo.ne H_r1 H_r10 (by decide)) e.1))
                  have qq7 : zsl h37 2073 41 = yR 2105 := ((f_h37 2073 41).trans (if_neg (fun e => (bRo.ne H_2073 H_r10 (by decide)) e.1))).trans q_r10
                  have : ys h37 2105 (a1 : Int).toNat = 1 := (y_h37 2105 _).trans (if_pos ⟨rfl, rfl⟩)
                  refine yG.load xak rfl (fun _ _ => rfl) (v := yR 2073) rfl rfl ?_
                  refine yG.step (pc' := 354) (stk' := [yR 2073, yR 2073]) rfl (fun _ _ => rfl) ?_
                  refine yG.getI A_h37.1 (w_M_stuckCount W H_2073) rfl rfl (fun z38 e_z38 i_z38 l_z38 u_z38 => ?_)
                  refine yG.load xak rfl (fun _ _ => rfl) (v := yR 2073) rfl rfl ?_
                  refine yG.getS9 A_h37.1 (w_M_isStuck W H_2073) qq7 rfl rfl ?_
                  refine yG.load xik rfl (fun _ _ => rfl) (v := yI (a1)) rfl rfl ?_
                  refine yG.bald A_h37.1 (v_M_isStuck W H_r10) rfl (by omega) (by omega) (fun z39 e_z39 i_z39 l_z39 u_z39 => ?_)
                  refine yG.ifz rfl (t := 370) rfl ⟨by omega, by omega⟩ (fun c40 => ?_) (fun c40 => ?_)
                  · have c40 : (z39 : Int) = 0 := c40
                    exfalso; omega
                  · have c40 : (z39 : Int) ≠ 0 := c40
                    refine yG.num (c := 1) rfl (fun _ _ => rfl) (by decide) ?_
                    refine yG.goto rfl (t := 371) rfl ?_
                    refine yG.iadd rfl ?_
                    obtain ⟨z42, e_z42, l_z42, u_z42⟩ := ywI (z38 + 1)
                    rw [e_z42]
                    refine yG.putI A_h37.1 (w_M_stuckCount W H_2073) (W.2.1 _ _ H_2073 (by decide) (by decide)) rfl rfl (.inl rfl) ⟨by omega, by omega⟩ (by omega) (by omega) (fun h41 T_h41 b_h41 f_h41 y_h41 => ?_)
                    have M_bRg_h41 := M_bRg_h37.fr (bAx.put (Wl := [(83076749736557242056487941267521536, 46)]) (bAx.rf A_h37.1) T_h41 b_h41 f_h41 H_2073 (by decide)) (by decide)
                    have M_bTq_h41 := M_bTq_h37.fr (bAx.put (Wl := [(83076749736557242056487941267521536, 46)]) (bAx.rf A_h37.1) T_h41 b_h41 f_h41 H_2073 (by decide)) (by decide)
                    have A_h41 := A_h37.put T_h41 b_h41 f_h41 H_2073 (by decide)
                    have : ys h41 2088 (0 : Int).toNat = ys h37 2088 (0 : Int).toNat := (y_h41 2088 (0 : Int).toNat).trans (if_neg (fun e => (bRo.ne H_r1 H_2073 (by decide)) e.1))
                    have qq8 : zsl h41 2073 41 = yR 2105 := ((f_h41 2073 41).trans (if_neg (fun e => absurd e.2 (by decide)))).trans qq7
                    have : ys h41 2105 (a1 : Int).toNat = ys h37 2105 (a1 : Int).toNat := (y_h41 2105 (a1 : Int).toNat).trans (if_neg (fun e => (bRo.ne H_r10 H_2073 (by decide)) e.1))
                    refine yG.load xak rfl (fun _ _ => rfl) (v := yR 2073) rfl rfl ?_
                    refine yG.getS9 A_h41.1 (w_M_isStuck W H_2073) qq8 rfl rfl ?_
                    refine yG.load xik rfl (fun _ _ => rfl) (v := yI (a1)) rfl rfl ?_
                    refine yG.bald A_h41.1 (v_M_isStuck W H_r10) rfl (by omega) (by omega) (fun z43 e_z43 i_z43 l_z43 u_z43 => ?_)
                    refine yG.ifz rfl (t := 389) rfl ⟨by omega, by omega⟩ (fun c44 => ?_) (fun c44 => ?_)
                    · have c44 : (z43 : Int) ≠ 0 := c44
                      refine yG.iinc rfl (a := a1) rfl (L' := [(1, yI (a1 + 1)), (0, yR 2073)]) rfl ?_
                      refine yG.goto rfl (t := 290) rfl ?_
                      exact yG.mono (yG.sub (i_290 (a1 + 1) (ys h41 2088 (0 : Int).toNat) h41 A_h41 M_bRg_h41 M_bTq_h41  rfl (by omega) (by omega) (by omega) (by omega) (by omega) (by omega)) (ySub.cons rfl (ySub.cons rfl (ySub.nil)))) (by omega)
                    · have c44 : (z43 : Int) = 0 := c44
                      exfalso; omega
      · intro a1 gg0 hq A_hq M_bRg_hq M_bTq_hq E_0 f0 f1 f2 f3 hm
        refine yG.mono (N := 62 * m + 62) ?_ (by omega)
        obtain ⟨-, -, g_0l, g_0u⟩ := (v_M_count W (s_M_count W)).int A_hq.1 (j := (0 : Int).toNat) (by decide) rfl
        refine yG.load xik rfl (fun _ _ => rfl) (v := yI (a1)) rfl rfl ?_
        refine yG.load xak rfl (fun _ _ => rfl) (v := yR 2073) rfl rfl ?_
        refine yG.getO A_hq.1 (w_M_count W H_2073) rfl rfl (fun r1 H_r1 O_r1 q_r1 => ?_)
        obtain rfl := u_M_count W H_r1
        refine yG.num (c := 2) rfl (fun _ _ => rfl) (by decide) ?_
        refine yG.ialdF A_hq.1 (v_M_count W H_r1) rfl rfl (by omega) (by omega) (fun z2 e_z2 i_z2 l_z2 u_z2 => ?_)
        refine yG.icmp rfl (t := 503) rfl ⟨by omega, by omega⟩ ⟨by omega, by omega⟩ (fun c3 => ?_) (fun c3 => ?_)
        · have c3 : (a1 : Int) ≥ z2 := c3
          refine yG.ret rfl (fun _ _ => rfl) ?_
          exact (yP.void ⟨⟨⟨⟨rfl, trivial⟩, A_hq⟩, M_bTq_hq⟩, M_bRg_hq⟩)
        · have c3 : (a1 : Int) < z2 := c3
          refine yG.load xak rfl (fun _ _ => rfl) (v := yR 2073) rfl rfl ?_
          refine yG.getO A_hq.1 (w_M_sign W H_2073) rfl rfl (fun r4 H_r4 O_r4 q_r4 => ?_)
          obtain rfl := u_M_sign W H_r4
          refine yG.num (c := 32) rfl (fun _ _ => rfl) (by decide) ?_
          refine yG.load xik rfl (fun _ _ => rfl) (v := yI (a1)) rfl rfl ?_
          refine yG.iadd rfl ?_
          refine yG.iald A_hq.1 (v_M_sign W H_r4) rfl (by omega) (by omega) (fun z5 e_z5 i_z5 l_z5 u_z5 => ?_)
          refine yG.ifz rfl (t := 497) rfl ⟨by omega, by omega⟩ (fun c6 => ?_) (fun c6 => ?_)
          · have c6 : (z5 : Int) = 0 := c6
            refine yG.iinc rfl (a := a1) rfl (L' := [(1, yI (a1 + 1)), (0, yR 2073)]) rfl ?_
            refine yG.goto rfl (t := 397) rfl ?_
            exact yG.mono (yG.sub (i_397 (a1 + 1) (ys hq 2088 (0 : Int).toNat) hq A_hq M_bRg_hq M_bTq_hq  rfl (by omega) (by omega) (by omega) (by omega) (by omega)) (ySub.cons rfl (ySub.cons rfl (ySub.nil)))) (by omega)
          · have c6 : (z5 : Int) ≠ 0 := c6
            refine yG.load xak rfl (fun _ _ => rfl) (v := yR 2073) rfl rfl ?_
            refine yG.load xik rfl (fun _ _ => rfl) (v := yI (a1)) rfl rfl ?_
            refine yG.invV (rest := []) A_hq.1 (bOb (d_M W) H_2073) rfl rfl rfl rfl (c_GModel_islandOfLine W (d + 3) A_hq.1 H_2073 (a1) (by omega) (by omega)) (fun rv hp9 q9 => ?_)
            obtain ⟨⟨z7, rfl, l_z7, u_z7, R_z7⟩, e9⟩ := q9
            rw [e9]
            show yG _ _ _ _ _ _ _ _ _ _ (yI z7 :: []) _
            refine yG.store1 xik (L' := [(2, yI (z7)), (0, yR 2073), (1, yI (a1))]) rfl (fun _ _ => rfl) rfl rfl ?_
            refine yG.load xak rfl (fun _ _ => rfl) (v := yR 2073) rfl rfl ?_
            refine yG.num (c := 212) rfl (fun _ _ => rfl) (by decide) ?_
            refine yG.num (c := 0) rfl (fun _ _ => rfl) (by decide) ?_
            refine yG.load xik rfl (fun _ _ => rfl) (v := yI (z7)) rfl rfl ?_
            refine yG.iadd rfl ?_
            refine yG.load xak rfl (fun _ _ => rfl) (v := yR 2073) rfl rfl ?_
            refine yG.num (c := 2) rfl (fun _ _ => rfl) (by decide) ?_
            refine yG.load xik rfl (fun _ _ => rfl) (v := yI (a1)) rfl rfl ?_
            refine yG.num (c := 3) rfl (fun _ _ => rfl) (by decide) ?_
            refine yG.invV (rest := [yI (0 + z7), yI (212), yR 2073]) A_hq.1 (bOb (d_M W) H_2073) rfl rfl rfl rfl (c_GModel_of_2_3 W (d + 4) A_hq.1 H_2073 (a1) (by omega) (by omega)) (fun rv hp9 q9 => ?_)
            obtain ⟨⟨z8, rfl, l_z8, u_z8, R_z8⟩, e9⟩ := q9
            rw [e9]
            show yG _ _ _ _ _ _ _ _ _ _ (yI z8 :: [yI (0 + z7), yI (212), yR 2073]) _
            refine yG.i2l rfl ⟨by omega, by omega⟩ ?_
            refine yG.load xak rfl (fun _ _ => rfl) (v := yR 2073) rfl rfl ?_
            refine yG.load xik rfl (fun _ _ => rfl) (v := yI (z7)) rfl rfl ?_
            refine yG.invV (rest := [yJ (z8), yI (0 + z7), yI (212), yR 2073]) A_hq.1 (bOb (d_M W) H_2073) rfl rfl rfl rfl (c_GModel_times_ W (d + 5) A_hq.1 H_2073 (z7) (by omega) (by omega)) (fun rv hp9 q9 => ?_)
            obtain ⟨⟨z9, rfl, l_z9, u_z9, R_z9⟩, e9⟩ := q9
            rw [e9]
            show yG _ _ _ _ _ _ _ _ _ _ (yJ z9 :: [yJ (z8), yI (0 + z7), yI (212), yR 2073]) _
            refine yG.lmul rfl ?_
            obtain ⟨z10, e_z10⟩ : ∃ z : Int, z = z8 * z9 := ⟨_, rfl⟩
            rw [← e_z10]
            have b_z10 : 0 ≤ z10 ∧ z10 ≤ 539946 := e_z10 ▸ ymulb (A := 9999) (B := 54) (by omega) (by omega) (by omega) (by omega) (by decide)
            have b2_z10 : z10 ≤ 9999 * z9 := e_z10 ▸ bmulx (by omega) (by omega)
            have b3_z10 : z10 ≤ 54 * z8 := e_z10 ▸ bmuly (by omega) (by omega)
            refine yG.invV (rest := []) A_hq.1 (bOb (d_M W) H_2073) rfl rfl rfl rfl (r_scale W (d + 4) A_hq.1 M_bRg_hq H_2073 (r := (212)) (p := (0 + z7)) (v := (z10)) (y := 20) ⟨by omega, by omega⟩ ⟨by omega, by omega⟩ (by omega) (M_bRg_hq.at (x := 217) (a := 0) (b := 16) (by decide) (by omega) (by omega) (by decide)) (yEb (c := 1048576) (by decide) (by omega) (by omega)) (by decide) (by decide) (bTb_ge (a := 212) (b := 213) (by decide) (by omega) (by omega))) (fun rv h11 q9 => ?_)
            obtain ⟨rfl, B_h11, M_bRg_h11, Y_h11, V_h11, S_h11⟩ := q9
            have A_h11 := A_hq.tr B_h11 (by decide)
            have M_bTq_h11 := M_bTq_hq.fr B_h11 (by decide)
            have : ys h11 2088 (0 : Int).toNat = ys hq 2088 (0 : Int).toNat := B_h11.ys H_r1 (bNo_ok (by decide) _)
            show yG _ _ _ _ _ _ _ _ _ _ [] _
            refine yG.load xak rfl (fun _ _ => rfl) (v := yR 2073) rfl rfl ?_
            refine yG.getO A_h11.1 (w_M_isOver W H_2073) rfl rfl (fun r12 H_r12 O_r12 q_r12 => ?_)
            obtain rfl := u_M_isOver W H_r12
            refine yG.load xik rfl (fun _ _ => rfl) (v := yI (a1)) rfl rfl ?_
            refine yG.load xak rfl (fun _ _ => rfl) (v := yR 2073) rfl rfl ?_
            refine yG.num (c := 32) rfl (fun _ _ => rfl) (by decide) ?_
            refine yG.load xik rfl (fun _ _ => rfl) (v := yI (a1)) rfl rfl ?_
            refine yG.iadd rfl ?_
            refine yG.num (c := 212) rfl (fun _ _ => rfl) (by decide) ?_
            refine yG.invV (rest := [yI (a1), yR 2108]) A_h11.1 (bOb (d_M W) H_2073) rfl rfl rfl rfl (r_compareSizes W (d + 5) A_h11.1 M_bRg_h11 H_2073 (p := (32 + a1)) (q := (212)) ⟨by omega, by omega⟩ ⟨by omega, by omega⟩) (fun rv hp9 q9 => ?_)
            obtain ⟨e9, z13, rfl, g_z13⟩ := q9
            rw [e9]
            have l_z13 : -1 ≤ z13 ∧ z13 ≤ 1 := by unfold ysgn at g_z13; omega
            show yG _ _ _ _ _ _ _ _ _ _ (yI z13 :: [yI (a1), yR 2108]) _
            refine yG.ifz rfl (t := 472) rfl ⟨by omega, by omega⟩ (fun c14 => ?_) (fun c14 => ?_)
            · have c14 : (z13 : Int) ≤ 0 := c14
              refine yG.num (c := 0) rfl (fun _ _ => rfl) (by decide) ?_
              refine yG.bast A_h11.1 (v_M_isOver W H_r12) (W.2.1 _ _ H_r12 (by decide) (by decide)) rfl (by omega) (by omega) ⟨by omega, by omega⟩ (by omega) (by omega) (fun h15 T_h15 b_h15 f_h15 y_h15 => ?_)
              have M_bRg_h15 := M_bRg_h11.fr (bAx.put (Wl := [(2854495385411919762116571938898990272765493248, 256)]) (bAx.rf A_h11.1) T_h15 b_h15 f_h15 H_r12 (bAll_ok (by decide) _)) (by decide)
              have M_bTq_h15 := M_bTq_h11.fr (bAx.put (Wl := [(2854495385411919762116571938898990272765493248, 256)]) (bAx.rf A_h11.1) T_h15 b_h15 f_h15 H_r12 (bAll_ok (by decide) _)) (by decide)
              have A_h15 := A_h11.put T_h15 b_h15 f_h15 H_r12 (bAll_ok (by decide) _)
              have : ys h15 2088 (0 : Int).toNat = ys h11 2088 (0 : Int).toNat := (y_h15 2088 (0 : Int).toNat).trans (if_neg (fun e => (bRo.ne H_r1 H_r12 (by decide)) e.1))
              have qq1 : zsl h15 2073 44 = yR 2108 := ((f_h15 2073 44).trans (if_neg (fun e => (bRo.ne H_2073 H_r12 (by decide)) e.1))).trans q_r12
              have : ys h15 2108 (a1 : Int).toNat = 0 := (y_h15 2108 _).trans (if_pos ⟨rfl, rfl⟩)
              refine yG.load xak rfl (fun _ _ => rfl) (v := yR 2073) rfl rfl ?_
              refine yG.step (pc' := 476) (stk' := [yR 2073, yR 2073]) rfl (fun _ _ => rfl) ?_
              refine yG.getI A_h15.1 (w_M_overCount W H_2073) rfl rfl (fun z16 e_z16 i_z16 l_z16 u_z16 => ?_)
              refine yG.load xak rfl (fun _ _ => rfl) (v := yR 2073) rfl rfl ?_
              refine yG.getS9 A_h15.1 (w_M_isOver W H_2073) qq1 rfl rfl ?_
              refine yG.load xik rfl (fun _ _ => rfl) (v := yI (a1)) rfl rfl ?_
              refine yG.bald A_h15.1 (v_M_isOver W H_r12) rfl (by omega) (by omega) (fun z17 e_z17 i_z17 l_z17 u_z17 => ?_)
              refine yG.ifz rfl (t := 492) rfl ⟨by omega, by omega⟩ (fun c18 => ?_) (fun c18 => ?_)
              · have c18 : (z17 : Int) = 0 := c18
                refine yG.num (c := 0) rfl (fun _ _ => rfl) (by decide) ?_
                refine yG.iadd rfl ?_
                refine yG.putI A_h15.1 (w_M_overCount W H_2073) (W.2.1 _ _ H_2073 (by decide) (by decide)) rfl rfl (.inl rfl) ⟨by omega, by omega⟩ (by omega) (by omega) (fun h19 T_h19 b_h19 f_h19 y_h19 => ?_)
                have M_bRg_h19 := M_bRg_h15.fr (bAx.put (Wl := [(83076749736557242056487941267521536, 45)]) (bAx.rf A_h15.1) T_h19 b_h19 f_h19 H_2073 (by decide)) (by decide)
                have M_bTq_h19 := M_bTq_h15.fr (bAx.put (Wl := [(83076749736557242056487941267521536, 45)]) (bAx.rf A_h15.1) T_h19 b_h19 f_h19 H_2073 (by decide)) (by decide)
                have A_h19 := A_h15.put T_h19 b_h19 f_h19 H_2073 (by decide)
                have : ys h19 2088 (0 : Int).toNat = ys h15 2088 (0 : Int).toNat := (y_h19 2088 (0 : Int).toNat).trans (if_neg (fun e => (bRo.ne H_r1 H_2073 (by decide)) e.1))
                have qq2 : zsl h19 2073 44 = yR 2108 := ((f_h19 2073 44).trans (if_neg (fun e => absurd e.2 (by decide)))).trans qq1
                have : ys h19 2108 (a1 : Int).toNat = ys h15 2108 (a1 : Int).toNat := (y_h19 2108 (a1 : Int).toNat).trans (if_neg (fun e => (bRo.ne H_r12 H_2073 (by decide)) e.1))
                refine yG.iinc rfl (a := a1) rfl (L' := [(1, yI (a1 + 1)), (2, yI (z7)), (0, yR 2073)]) rfl ?_
                refine yG.goto rfl (t := 397) rfl ?_
                exact yG.mono (yG.sub (i_397 (a1 + 1) (ys h19 2088 (0 : Int).toNat) h19 A_h19 M_bRg_h19 M_bTq_h19  rfl (by omega) (by omega) (by omega) (by omega) (by omega)) (ySub.cons rfl (ySub.cons rfl (ySub.nil)))) (by omega)
              · have c18 : (z17 : Int) ≠ 0 := c18
                exfalso; omega
            · have c14 : (z13 : Int) > 0 := c14
              refine yG.num (c := 1) rfl (fun _ _ => rfl) (by decide) ?_
              refine yG.goto rfl (t := 473) rfl ?_
              refine yG.bast A_h11.1 (v_M_isOver W H_r12) (W.2.1 _ _ H_r12 (by decide) (by decide)) rfl (by omega) (by omega) ⟨by omega, by omega⟩ (by omega) (by omega) (fun h20 T_h20 b_h20 f_h20 y_h20 => ?_)
              have M_bRg_h20 := M_bRg_h11.fr (bAx.put (Wl := [(2854495385411919762116571938898990272765493248, 256)]) (bAx.rf A_h11.1) T_h20 b_h20 f_h20 H_r12 (bAll_ok (by decide) _)) (by decide)
              have M_bTq_h20 := M_bTq_h11.fr (bAx.put (Wl := [(2854495385411919762116571938898990272765493248, 256)]) (bAx.rf A_h11.1) T_h20 b_h20 f_h20 H_r12 (bAll_ok (by decide) _)) (by decide)
              have A_h20 := A_h11.put T_h20 b_h20 f_h20 H_r12 (bAll_ok (by decide) _)
              have : ys h20 2088 (0 : Int).toNat = ys h11 2088 (0 : Int).toNat := (y_h20 2088 (0 : Int).toNat).trans (if_neg (fun e => (bRo.ne H_r1 H_r12 (by decide)) e.1))
              have qq3 : zsl h20 2073 44 = yR 2108 := ((f_h20 2073 44).trans (if_neg (fun e => (bRo.ne H_2073 H_r12 (by decide)) e.1))).trans q_r12
              have : ys h20 2108 (a1 : Int).toNat = 1 := (y_h20 2108 _).trans (if_pos ⟨rfl, rfl⟩)
              refine yG.load xak rfl (fun _ _ => rfl) (v := yR 2073) rfl rfl ?_
              refine yG.step (pc' := 476) (stk' := [yR 2073, yR 2073]) rfl (fun _ _ => rfl) ?_
              refine yG.getI A_h20.1 (w_M_overCount W H_2073) rfl rfl (fun z21 e_z21 i_z21 l_z21 u_z21 => ?_)
              refine yG.load xak rfl (fun _ _ => rfl) (v := yR 2073) rfl rfl ?_
              refine yG.getS9 A_h20.1 (w_M_isOver W H_2073) qq3 rfl rfl ?_
              refine yG.load xik rfl (fun _ _ => rfl) (v := yI (a1)) rfl rfl ?_
              refine yG.bald A_h20.1 (v_M_isOver W H_r12) rfl (by omega) (by omega) (fun z22 e_z22 i_z22 l_z22 u_z22 => ?_)
              refine yG.ifz rfl (t := 492) rfl ⟨by omega, by omega⟩ (fun c23 => ?_) (fun c23 => ?_)
              · have c23 : (z22 : Int) = 0 := c23
                exfalso; omega
              · have c23 : (z22 : Int) ≠ 0 := c23
                refine yG.num (c := 1) rfl (fun _ _ => rfl) (by decide) ?_
                refine yG.goto rfl (t := 493) rfl ?_
                refine yG.iadd rfl ?_
                obtain ⟨z25, e_z25, l_z25, u_z25⟩ := ywI (z21 + 1)
                rw [e_z25]
                refine yG.putI A_h20.1 (w_M_overCount W H_2073) (W.2.1 _ _ H_2073 (by decide) (by decide)) rfl rfl (.inl rfl) ⟨by omega, by omega⟩ (by omega) (by omega) (fun h24 T_h24 b_h24 f_h24 y_h24 => ?_)
                have M_bRg_h24 := M_bRg_h20.fr (bAx.put (Wl := [(83076749736557242056487941267521536, 45)]) (bAx.rf A_h20.1) T_h24 b_h24 f_h24 H_2073 (by decide)) (by decide)
                have M_bTq_h24 := M_bTq_h20.fr (bAx.put (Wl := [(83076749736557242056487941267521536, 45)]) (bAx.rf A_h20.1) T_h24 b_h24 f_h24 H_2073 (by decide)) (by decide)
                have A_h24 := A_h20.put T_h24 b_h24 f_h24 H_2073 (by decide)
                have : ys h24 2088 (0 : Int).toNat = ys h20 2088 (0 : Int).toNat := (y_h24 2088 (0 : Int).toNat).trans (if_neg (fun e => (bRo.ne H_r1 H_2073 (by decide)) e.1))
                have qq4 : zsl h24 2073 44 = yR 2108 := ((f_h24 2073 44).trans (if_neg (fun e => absurd e.2 (by decide)))).trans qq3
                have : ys h24 2108 (a1 : Int).toNat = ys h20 2108 (a1 : Int).toNat := (y_h24 2108 (a1 : Int).toNat).trans (if_neg (fun e => (bRo.ne H_r12 H_2073 (by decide)) e.1))
                refine yG.iinc rfl (a := a1) rfl (L' := [(1, yI (a1 + 1)), (2, yI (z7)), (0, yR 2073)]) rfl ?_
                refine yG.goto rfl (t := 397) rfl ?_
                exact yG.mono (yG.sub (i_397 (a1 + 1) (ys h24 2088 (0 : Int).toNat) h24 A_h24 M_bRg_h24 M_bTq_h24  rfl (by omega) (by omega) (by omega) (by omega) (by omega)) (ySub.cons rfl (ySub.cons rfl (ySub.nil)))) (by omega)
  refine yC.of (M := (xt_X13_flows, (3, (0, (14, []))))) rfl rfl (N := 1474500802) (yfuel (by decide)) ?_
  show yG 89 xfts (xcall 89 xfts xpools xms (d + 6)) (xpool xp_RX13) [] xt_X13_flows (yP 0 (fun rv hp' => (fun rv hp' => (fun rv hp' => (rv = none ∧ True) ∧ bAx G [(83076749736557242056487941267521536, 10), (83076749736557242056487941267521536, 11), (83076749736557242056487941267521536, 38), (83076749736557242056487941267521536, 40), (83076749736557242056487941267521536, 45), (83076749736557242056487941267521536, 46), (83076749736557242056487941267521536, 47), (11406831509164627158360868875721268459542151168, 256)] hp hp') rv hp' ∧ bTq G hp') rv hp' ∧ bRg G hp')) 1474500802 0 [(0, yR 2073)] [] hp
  obtain ⟨i_11, i_82, i_159, i_256, i_290, i_397⟩ := H 23782270
  obtain ⟨gg0, E_0⟩ : ∃ z : Int, ys hp 2088 (0 : Int).toNat = z := ⟨_, rfl⟩
  obtain ⟨-, -, g_0l, g_0u⟩ := (v_M_count W (s_M_count W)).int hT (j := (0 : Int).toNat) (by decide) rfl
  refine yG.load xak rfl (fun _ _ => rfl) (v := yR 2073) rfl rfl ?_
  refine yG.num (c := 0) rfl (fun _ _ => rfl) (by decide) ?_
  refine yG.putI A_hp.1 (w_M_hasFlows W H_2073) (W.2.1 _ _ H_2073 (by decide) (by decide)) rfl rfl (.inr ⟨rfl, rfl, rfl⟩) ⟨by omega, by omega⟩ (by omega) (by omega) (fun h1 T_h1 b_h1 f_h1 y_h1 => ?_)
  have M_bRg_h1 := M_bRg_hp.fr (bAx.put (Wl := [(83076749736557242056487941267521536, 40)]) (bAx.rf A_hp.1) T_h1 b_h1 f_h1 H_2073 (by decide)) (by decide)
  have A_h1 := A_hp.put T_h1 b_h1 f_h1 H_2073 (by decide)
  have : ys h1 2088 (0 : Int).toNat = ys hp 2088 (0 : Int).toNat := (y_h1 2088 (0 : Int).toNat).trans (if_neg (fun e => (bRo.ne (s_M_count W) H_2073 (by decide)) e.1))
  refine yG.load xak rfl (fun _ _ => rfl) (v := yR 2073) rfl rfl ?_
  refine yG.invV (rest := []) A_h1.1 (bOb (d_M W) H_2073) rfl rfl rfl rfl (c_GModel_topology_s W (d + 3) A_h1.1 (M_bWf.fr A_h1 (by decide)) H_2073) (fun rv h2 q9 => ?_)
  obtain ⟨q9, M_bTq_h2⟩ := q9
  obtain ⟨⟨rfl, R_z3⟩, B_h2⟩ := q9
  have A_h2 := A_h1.tr B_h2 (by decide)
  have M_bRg_h2 := M_bRg_h1.fr B_h2 (by decide)
  have : ys h2 2088 (0 : Int).toNat = ys h1 2088 (0 : Int).toNat := B_h2.ys (s_M_count W) (bNo_ok (by decide) _)
  show yG _ _ _ _ _ _ _ _ _ _ [] _
  refine yG.num (c := 0) rfl (fun _ _ => rfl) (by decide) ?_
  refine yG.store1 xik (L' := [(1, yI (0)), (0, yR 2073)]) rfl (fun _ _ => rfl) rfl rfl ?_
  exact yG.mono (yG.sub (i_11 (0) (ys h2 2088 (0 : Int).toNat) h2 A_h2 M_bRg_h2 M_bTq_h2  rfl (by omega) (by omega) (by omega) (by omega) (by omega) (fun j hj => by exfalso; omega) (fun j hj => by exfalso; omega) (by omega)) (ySub.cons rfl (ySub.cons rfl (ySub.nil)))) (by omega)
theorem c_GModel_netFlows {hp : xH} (W : mW G) (d : Nat) (hT : zTy G hp) (M_bRg : bRg G hp) (M_bWf : bWf G hp) (M_bPr : bPr G hp) (H_2073 : bRo G 116 2073) : yC (xcall 89 xfts xpools xms (d + 8)) 462 [yR 2073] hp (fun rv hp' => (fun rv hp' => (rv = none ∧ True) ∧ bAx G [(83076749736557242056487941267521536, 10), (83076749736557242056487941267521536, 11), (83076749736557242056487941267521536, 38), (83076749736557242056487941267521536, 40), (83076749736557242056487941267521536, 45), (83076749736557242056487941267521536, 46), (83076749736557242056487941267521536, 47), (11415194288614076142038944770073511595106893824, 256)] hp hp') rv hp' ∧ bRg G hp') := by
  have A_hp : bAx G [(83076749736557242056487941267521536, 10), (83076749736557242056487941267521536, 11), (83076749736557242056487941267521536, 38), (83076749736557242056487941267521536, 40), (83076749736557242056487941267521536, 45), (83076749736557242056487941267521536, 46), (83076749736557242056487941267521536, 47), (11415194288614076142038944770073511595106893824, 256)] hp hp := bAx.rf hT
  have M_bRg_hp := M_bRg
  refine yC.of (M := (xt_X13_netFlows, (1, (0, (14, []))))) rfl rfl (N := 39) (yfuel (by decide)) ?_
  show yG 89 xfts (xcall 89 xfts xpools xms (d + 7)) (xpool xp_RX13) [] xt_X13_netFlows (yP 0 (fun rv hp' => (fun rv hp' => (rv = none ∧ True) ∧ bAx G [(83076749736557242056487941267521536, 10), (83076749736557242056487941267521536, 11), (83076749736557242056487941267521536, 38), (83076749736557242056487941267521536, 40), (83076749736557242056487941267521536, 45), (83076749736557242056487941267521536, 46), (83076749736557242056487941267521536, 47), (11415194288614076142038944770073511595106893824, 256)] hp hp') rv hp' ∧ bRg G hp')) 39 0 [(0, yR 2073)] [] hp
  refine yG.load xak rfl (fun _ _ => rfl) (v := yR 2073) rfl rfl ?_
  refine yG.getI A_hp.1 (w_M_hasFlows W H_2073) rfl rfl (fun z1 e_z1 i_z1 l_z1 u_z1 => ?_)
  refine yG.ifz rfl (t := 20) rfl ⟨by omega, by omega⟩ (fun c2 => ?_) (fun c2 => ?_)
  · have c2 : (z1 : Int) ≠ 0 := c2
    refine yG.ret rfl (fun _ _ => rfl) ?_
    exact (yP.void ⟨⟨⟨rfl, trivial⟩, A_hp⟩, M_bRg_hp⟩)
  · have c2 : (z1 : Int) = 0 := c2
    refine yG.load xak rfl (fun _ _ => rfl) (v := yR 2073) rfl rfl ?_
    refine yG.invV (rest := []) A_hp.1 (bOb (d_M W) H_2073) rfl rfl rfl rfl (c_GModel_asItIs W (d + 4) A_hp.1 H_2073) (fun rv h3 q9 => ?_)
    obtain ⟨⟨rfl, R_z4⟩, B_h3⟩ := q9
    have A_h3 := A_hp.tr B_h3 (by decide)
    have M_bRg_h3 := M_bRg_hp.fr B_h3 (by decide)
    show yG _ _ _ _ _ _ _ _ _ _ [] _
    refine yG.load xak rfl (fun _ _ => rfl) (v := yR 2073) rfl rfl ?_
    refine yG.invV (rest := []) A_h3.1 (bOb (d_M W) H_2073) rfl rfl rfl rfl (c_GModel_flows W d A_h3.1 M_bRg_h3 (M_bWf.fr A_h3 (by decide)) (M_bPr.fr A_h3 (by decide)) H_2073) (fun rv h5 q9 => ?_)
    obtain ⟨q9, M_bRg_h5⟩ := q9
    obtain ⟨q9, M_bTq_h5⟩ := q9
    obtain ⟨⟨rfl, R_z6⟩, B_h5⟩ := q9
    have A_h5 := A_h3.tr B_h5 (by decide)
    show yG _ _ _ _ _ _ _ _ _ _ [] _
    refine yG.load xak rfl (fun _ _ => rfl) (v := yR 2073) rfl rfl ?_
    refine yG.num (c := 1) rfl (fun _ _ => rfl) (by decide) ?_
    refine yG.putI A_h5.1 (w_M_hasFlows W H_2073) (W.2.1 _ _ H_2073 (by decide) (by decide)) rfl rfl (.inr ⟨rfl, rfl, rfl⟩) ⟨by omega, by omega⟩ (by omega) (by omega) (fun h7 T_h7 b_h7 f_h7 y_h7 => ?_)
    have M_bRg_h7 := M_bRg_h5.fr (bAx.put (Wl := [(83076749736557242056487941267521536, 40)]) (bAx.rf A_h5.1) T_h7 b_h7 f_h7 H_2073 (by decide)) (by decide)
    have M_bTq_h7 := M_bTq_h5.fr (bAx.put (Wl := [(83076749736557242056487941267521536, 40)]) (bAx.rf A_h5.1) T_h7 b_h7 f_h7 H_2073 (by decide)) (by decide)
    have A_h7 := A_h5.put T_h7 b_h7 f_h7 H_2073 (by decide)
    refine yG.ret rfl (fun _ _ => rfl) ?_
    exact (yP.void ⟨⟨⟨rfl, trivial⟩, A_h7⟩, M_bRg_h7⟩)
theorem c_GModel_angle {hp : xH} (W : mW G) (d : Nat) (hT : zTy G hp) (M_bRg : bRg G hp) (M_bWf : bWf G hp) (M_bPr : bPr G hp) (H_2073 : bRo G 116 2073) (p1 : Int) (h1l : (-2147483648) ≤ p1) (h1u : p1 ≤ 2147483647) : yC (xcall 89 xfts xpools xms (d + 9)) 350 [yR 2073, yI (p1)] hp (fun rv hp' => (bQi G [(83076749736557242056487941267521536, 0), (83076749736557242056487941267521536, 10), (83076749736557242056487941267521536, 11), (83076749736557242056487941267521536, 38), (83076749736557242056487941267521536, 40), (83076749736557242056487941267521536, 45), (83076749736557242056487941267521536, 46), (83076749736557242056487941267521536, 47), (11415194288614076142038944770073511595106893824, 256)] hp (-1) 1 (fun z => 0 ≤ 0 - p1 + z + 2147483647 ∧ 0 ≤ p1 - z + 2147483648)) rv hp' ∧ bRg G hp') := by
  have A_hp : bAx G [(83076749736557242056487941267521536, 0), (83076749736557242056487941267521536, 10), (83076749736557242056487941267521536, 11), (83076749736557242056487941267521536, 38), (83076749736557242056487941267521536, 40), (83076749736557242056487941267521536, 45), (83076749736557242056487941267521536, 46), (83076749736557242056487941267521536, 47), (11415194288614076142038944770073511595106893824, 256)] hp hp := bAx.rf hT
  have M_bRg_hp := M_bRg
  refine yC.of (M := (xt_X13_angle, (3, (1, (14, []))))) rfl rfl (N := 141) (yfuel (by decide)) ?_
  show yG 89 xfts (xcall 89 xfts xpools xms (d + 8)) (xpool xp_RX13) [] xt_X13_angle (yP 1 (fun rv hp' => (bQi G [(83076749736557242056487941267521536, 0), (83076749736557242056487941267521536, 10), (83076749736557242056487941267521536, 11), (83076749736557242056487941267521536, 38), (83076749736557242056487941267521536, 40), (83076749736557242056487941267521536, 45), (83076749736557242056487941267521536, 46), (83076749736557242056487941267521536, 47), (11415194288614076142038944770073511595106893824, 256)] hp (-1) 1 (fun z => 0 ≤ 0 - p1 + z + 2147483647 ∧ 0 ≤ p1 - z + 2147483648)) rv hp' ∧ bRg G hp')) 141 0 [(0, yR 2073), (1, yI (p1))] [] hp
  refine yG.load xak rfl (fun _ _ => rfl) (v := yR 2073) rfl rfl ?_
  refine yG.load xik rfl (fun _ _ => rfl) (v := yI (p1)) rfl rfl ?_
  refine yG.i2l rfl ⟨by omega, by omega⟩ ?_
  refine yG.numl (c := 0) rfl (fun _ _ => rfl) (by decide) ?_
  refine yG.load xak rfl (fun _ _ => rfl) (v := yR 2073) rfl rfl ?_
  refine yG.getO A_hp.1 (w_M_count W H_2073) rfl rfl (fun r1 H_r1 O_r1 q_r1 => ?_)
  obtain rfl := u_M_count W H_r1
  refine yG.num (c := 0) rfl (fun _ _ => rfl) (by decide) ?_
  refine yG.ialdF A_hp.1 (v_M_count W H_r1) rfl rfl (by omega) (by omega) (fun z2 e_z2 i_z2 l_z2 u_z2 => ?_)
  refine yG.num (c := 1) rfl (fun _ _ => rfl) (by decide) ?_
  refine yG.isub rfl ?_
  refine yG.i2l rfl ⟨by omega, by omega⟩ ?_
  refine yG.invS (rest := [yR 2073]) rfl rfl rfl rfl (c_GModel_in W (d + 7) A_hp.1 (p1) (0) (z2 - 1) (by omega) (by omega) (by omega) (by omega) (by omega) (by omega)) (fun rv hp9 q9 => ?_)
  obtain ⟨⟨z3, rfl, l_z3, u_z3, R_z3⟩, e9⟩ := q9
  rw [e9]
  show yG _ _ _ _ _ _ _ _ _ _ (yI z3 :: [yR 2073]) _
  refine yG.ifz rfl (t := 23) rfl ⟨by omega, by omega⟩ (fun c4 => ?_) (fun c4 => ?_)
  · have c4 : (z3 : Int) = 0 := c4
    clear R_z3
    refine yG.num (c := 1) rfl (fun _ _ => rfl) (by decide) ?_
    refine yG.putI A_hp.1 (w_M_thrown W H_2073) (W.2.1 _ _ H_2073 (by decide) (by decide)) rfl rfl (.inl rfl) ⟨by omega, by omega⟩ (by omega) (by omega) (fun h5 T_h5 b_h5 f_h5 y_h5 => ?_)
    have M_bRg_h5 := M_bRg_hp.fr (bAx.put (Wl := [(83076749736557242056487941267521536, 0)]) (bAx.rf A_hp.1) T_h5 b_h5 f_h5 H_2073 (by decide)) (by decide)
    have A_h5 := A_hp.put T_h5 b_h5 f_h5 H_2073 (by decide)
    have : ys h5 2073 0 = 1 := (y_h5 2073 0).trans (if_pos ⟨rfl, rfl⟩)
    refine yG.load xak rfl (fun _ _ => rfl) (v := yR 2073) rfl rfl ?_
    refine yG.getI A_h5.1 (w_M_thrown W H_2073) rfl rfl (fun z6 e_z6 i_z6 l_z6 u_z6 => ?_)
    refine yG.ifz rfl (t := 36) rfl ⟨by omega, by omega⟩ (fun c7 => ?_) (fun c7 => ?_)
    · have c7 : (z6 : Int) ≤ 0 := c7
      exfalso; omega
    · have c7 : (z6 : Int) > 0 := c7
      refine yG.num (c := 0) rfl (fun _ _ => rfl) (by decide) ?_
      refine yG.ret rfl (fun _ _ => rfl) ?_
      exact (yP.int ⟨by omega, by omega⟩ ⟨⟨⟨0, rfl, by omega, by omega, by omega⟩, A_h5⟩, M_bRg_h5⟩)
  · have c4 : (z3 : Int) ≠ 0 := c4
    replace R_z3 := R_z3 (by omega)
    refine yG.num (c := 0) rfl (fun _ _ => rfl) (by decide) ?_
    refine yG.goto rfl (t := 24) rfl ?_
    refine yG.putI A_hp.1 (w_M_thrown W H_2073) (W.2.1 _ _ H_2073 (by decide) (by decide)) rfl rfl (.inl rfl) ⟨by omega, by omega⟩ (by omega) (by omega) (fun h8 T_h8 b_h8 f_h8 y_h8 => ?_)
    have M_bRg_h8 := M_bRg_hp.fr (bAx.put (Wl := [(83076749736557242056487941267521536, 0)]) (bAx.rf A_hp.1) T_h8 b_h8 f_h8 H_2073 (by decide)) (by decide)
    have A_h8 := A_hp.put T_h8 b_h8 f_h8 H_2073 (by decide)
    have : ys h8 2073 0 = 0 := (y_h8 2073 0).trans (if_pos ⟨rfl, rfl⟩)
    refine yG.load xak rfl (fun _ _ => rfl) (v := yR 2073) rfl rfl ?_
    refine yG.getI A_h8.1 (w_M_thrown W H_2073) rfl rfl (fun z9 e_z9 i_z9 l_z9 u_z9 => ?_)
    refine yG.ifz rfl (t := 36) rfl ⟨by omega, by omega⟩ (fun c10 => ?_) (fun c10 => ?_)
    · have c10 : (z9 : Int) ≤ 0 := c10
      refine yG.load xak rfl (fun _ _ => rfl) (v := yR 2073) rfl rfl ?_
      refine yG.invV (rest := []) A_h8.1 (bOb (d_M W) H_2073) rfl rfl rfl rfl (c_GModel_netFlows W d A_h8.1 M_bRg_h8 (M_bWf.fr A_h8 (by decide)) (M_bPr.fr A_h8 (by decide)) H_2073) (fun rv h11 q9 => ?_)
      obtain ⟨q9, M_bRg_h11⟩ := q9
      obtain ⟨⟨rfl, R_z12⟩, B_h11⟩ := q9
      have A_h11 := A_h8.tr B_h11 (by decide)
      have : ys h11 2073 0 = ys h8 2073 0 := B_h11.ys H_2073 (by decide)
      show yG _ _ _ _ _ _ _ _ _ _ [] _
      refine yG.load xak rfl (fun _ _ => rfl) (v := yR 2073) rfl rfl ?_
      refine yG.getO A_h11.1 (w_M_island W H_2073) rfl rfl (fun r13 H_r13 O_r13 q_r13 => ?_)
      obtain rfl := u_M_island W H_r13
      refine yG.load xik rfl (fun _ _ => rfl) (v := yI (p1)) rfl rfl ?_
      refine yG.ialdF A_h11.1 (v_M_island W H_r13) rfl rfl (by omega) (by omega) (fun z14 e_z14 i_z14 l_z14 u_z14 => ?_)
      refine yG.store1 xik (L' := [(2, yI (z14)), (0, yR 2073), (1, yI (p1))]) rfl (fun _ _ => rfl) rfl rfl ?_
      refine yG.load xak rfl (fun _ _ => rfl) (v := yR 2073) rfl rfl ?_
      refine yG.num (c := 212) rfl (fun _ _ => rfl) (by decide) ?_
      refine yG.num (c := 0) rfl (fun _ _ => rfl) (by decide) ?_
      refine yG.load xik rfl (fun _ _ => rfl) (v := yI (z14)) rfl rfl ?_
      refine yG.iadd rfl ?_
      refine yG.load xak rfl (fun _ _ => rfl) (v := yR 2073) rfl rfl ?_
      refine yG.load xik rfl (fun _ _ => rfl) (v := yI (z14)) rfl rfl ?_
      refine yG.invV (rest := [yI (0 + z14), yI (212), yR 2073]) A_h11.1 (bOb (d_M W) H_2073) rfl rfl rfl rfl (c_GModel_times_ W (d + 7) A_h11.1 H_2073 (z14) (by omega) (by omega)) (fun rv hp9 q9 => ?_)
      obtain ⟨⟨z15, rfl, l_z15, u_z15, R_z15⟩, e9⟩ := q9
      rw [e9]
      show yG _ _ _ _ _ _ _ _ _ _ (yJ z15 :: [yI (0 + z14), yI (212), yR 2073]) _
      refine yG.invV (rest := []) A_h11.1 (bOb (d_M W) H_2073) rfl rfl rfl rfl (r_scale W (d + 6) A_h11.1 M_bRg_h11 H_2073 (r := (212)) (p := (0 + z14)) (v := (z15)) (y := 6) ⟨by omega, by omega⟩ ⟨by omega, by omega⟩ (by omega) (M_bRg_h11.at (x := 217) (a := 0) (b := 16) (by decide) (by omega) (by omega) (by decide)) (yEb (c := 64) (by decide) (by omega) (by omega)) (by decide) (by decide) (bTb_ge (a := 212) (b := 213) (by decide) (by omega) (by omega))) (fun rv h16 q9 => ?_)
      obtain ⟨rfl, B_h16, M_bRg_h16, Y_h16, V_h16, S_h16⟩ := q9
      have A_h16 := A_h11.tr B_h16 (by decide)
      have : ys h16 2073 0 = ys h11 2073 0 := B_h16.ys H_2073 (by decide)
      show yG _ _ _ _ _ _ _ _ _ _ [] _
      refine yG.load xak rfl (fun _ _ => rfl) (v := yR 2073) rfl rfl ?_
      refine yG.num (c := 16) rfl (fun _ _ => rfl) (by decide) ?_
      refine yG.load xak rfl (fun _ _ => rfl) (v := yR 2073) rfl rfl ?_
      refine yG.getO A_h16.1 (w_M_node W H_2073) rfl rfl (fun r17 H_r17 O_r17 q_r17 => ?_)
      obtain rfl := u_M_node W H_r17
      refine yG.load xik rfl (fun _ _ => rfl) (v := yI (p1)) rfl rfl ?_
      refine yG.ialdF A_h16.1 (v_M_node W H_r17) rfl rfl (by omega) (by omega) (fun z18 e_z18 i_z18 l_z18 u_z18 => ?_)
      refine yG.iadd rfl ?_
      refine yG.num (c := 212) rfl (fun _ _ => rfl) (by decide) ?_
      refine yG.invV (rest := []) A_h16.1 (bOb (d_M W) H_2073) rfl rfl rfl rfl (c_GModel_make W (d + 2) A_h16.1 M_bRg_h16 H_2073 (16 + z18) (212) (by omega) (by omega) (by omega) (by omega)) (fun rv h19 q9 => ?_)
      obtain ⟨q9, M_bRg_h19⟩ := q9
      obtain ⟨⟨z20, rfl, l_z20, u_z20, R_z20⟩, B_h19⟩ := q9
      have A_h19 := A_h16.tr B_h19 (by decide)
      have : ys h19 2073 0 = ys h16 2073 0 := B_h19.ys H_2073 (by decide)
      show yG _ _ _ _ _ _ _ _ _ _ (yI z20 :: []) _
      refine yG.ret rfl (fun _ _ => rfl) ?_
      exact (yP.int ⟨by omega, by omega⟩ ⟨⟨⟨z20, rfl, by omega, by omega, by omega⟩, A_h19⟩, M_bRg_h19⟩)
    · have c10 : (z9 : Int) > 0 := c10
      exfalso; omega
theorem c_GModel_carries {hp : xH} (W : mW G) (d : Nat) (hT : zTy G hp) (M_bRg : bRg G hp) (M_bWf : bWf G hp) (M_bPr : bPr G hp) (H_2073 : bRo G 116 2073) (p1 : Int) (h1l : (-2147483648) ≤ p1) (h1u : p1 ≤ 2147483647) : yC (xcall 89 xfts xpools xms (d + 9)) 363 [yR 2073, yI (p1)] hp (fun rv hp' => (bQi G [(83076749736557242056487941267521536, 0), (83076749736557242056487941267521536, 10), (83076749736557242056487941267521536, 11), (83076749736557242056487941267521536, 38), (83076749736557242056487941267521536, 40), (83076749736557242056487941267521536, 45), (83076749736557242056487941267521536, 46), (83076749736557242056487941267521536, 47), (11415194288614076142038944770073511595106893824, 256)] hp (-1) 1 (fun z => 0 ≤ 0 - p1 + z + 2147483647 ∧ 0 ≤ p1 - z + 2147483648)) rv hp' ∧ bRg G hp') := by
  have A_hp : bAx G [(83076749736557242056487941267521536, 0), (83076749736557242056487941267521536, 10), (83076749736557242056487941267521536, 11), (83076749736557242056487941267521536, 38), (83076749736557242056487941267521536, 40), (83076749736557242056487941267521536, 45), (83076749736557242056487941267521536, 46), (83076749736557242056487941267521536, 47), (11415194288614076142038944770073511595106893824, 256)] hp hp := bAx.rf hT
  have M_bRg_hp := M_bRg
  refine yC.of (M := (xt_X13_carries, (3, (1, (14, []))))) rfl rfl (N := 129) (yfuel (by decide)) ?_
  show yG 89 xfts (xcall 89 xfts xpools xms (d + 8)) (xpool xp_RX13) [] xt_X13_carries (yP 1 (fun rv hp' => (bQi G [(83076749736557242056487941267521536, 0), (83076749736557242056487941267521536, 10), (83076749736557242056487941267521536, 11), (83076749736557242056487941267521536, 38), (83076749736557242056487941267521536, 40), (83076749736557242056487941267521536, 45), (83076749736557242056487941267521536, 46), (83076749736557242056487941267521536, 47), (11415194288614076142038944770073511595106893824, 256)] hp (-1) 1 (fun z => 0 ≤ 0 - p1 + z + 2147483647 ∧ 0 ≤ p1 - z + 2147483648)) rv hp' ∧ bRg G hp')) 129 0 [(0, yR 2073), (1, yI (p1))] [] hp
  refine yG.load xak rfl (fun _ _ => rfl) (v := yR 2073) rfl rfl ?_
  refine yG.load xik rfl (fun _ _ => rfl) (v := yI (p1)) rfl rfl ?_
  refine yG.i2l rfl ⟨by omega, by omega⟩ ?_
  refine yG.numl (c := 0) rfl (fun _ _ => rfl) (by decide) ?_
  refine yG.load xak rfl (fun _ _ => rfl) (v := yR 2073) rfl rfl ?_
  refine yG.getO A_hp.1 (w_M_count W H_2073) rfl rfl (fun r1 H_r1 O_r1 q_r1 => ?_)
  obtain rfl := u_M_count W H_r1
  refine yG.num (c := 2) rfl (fun _ _ => rfl) (by decide) ?_
  refine yG.ialdF A_hp.1 (v_M_count W H_r1) rfl rfl (by omega) (by omega) (fun z2 e_z2 i_z2 l_z2 u_z2 => ?_)
  refine yG.num (c := 1) rfl (fun _ _ => rfl) (by decide) ?_
  refine yG.isub rfl ?_
  refine yG.i2l rfl ⟨by omega, by omega⟩ ?_
  refine yG.invS (rest := [yR 2073]) rfl rfl rfl rfl (c_GModel_in W (d + 7) A_hp.1 (p1) (0) (z2 - 1) (by omega) (by omega) (by omega) (by omega) (by omega) (by omega)) (fun rv hp9 q9 => ?_)
  obtain ⟨⟨z3, rfl, l_z3, u_z3, R_z3⟩, e9⟩ := q9
  rw [e9]
  show yG _ _ _ _ _ _ _ _ _ _ (yI z3 :: [yR 2073]) _
  refine yG.ifz rfl (t := 23) rfl ⟨by omega, by omega⟩ (fun c4 => ?_) (fun c4 => ?_)
  · have c4 : (z3 : Int) = 0 := c4
    clear R_z3
    refine yG.num (c := 1) rfl (fun _ _ => rfl) (by decide) ?_
    refine yG.putI A_hp.1 (w_M_thrown W H_2073) (W.2.1 _ _ H_2073 (by decide) (by decide)) rfl rfl (.inl rfl) ⟨by omega, by omega⟩ (by omega) (by omega) (fun h5 T_h5 b_h5 f_h5 y_h5 => ?_)
    have M_bRg_h5 := M_bRg_hp.fr (bAx.put (Wl := [(83076749736557242056487941267521536, 0)]) (bAx.rf A_hp.1) T_h5 b_h5 f_h5 H_2073 (by decide)) (by decide)
    have A_h5 := A_hp.put T_h5 b_h5 f_h5 H_2073 (by decide)
    have : ys h5 2073 0 = 1 := (y_h5 2073 0).trans (if_pos ⟨rfl, rfl⟩)
    refine yG.load xak rfl (fun _ _ => rfl) (v := yR 2073) rfl rfl ?_
    refine yG.getI A_h5.1 (w_M_thrown W H_2073) rfl rfl (fun z6 e_z6 i_z6 l_z6 u_z6 => ?_)
    refine yG.ifz rfl (t := 36) rfl ⟨by omega, by omega⟩ (fun c7 => ?_) (fun c7 => ?_)
    · have c7 : (z6 : Int) ≤ 0 := c7
      exfalso; omega
    · have c7 : (z6 : Int) > 0 := c7
      refine yG.num (c := 0) rfl (fun _ _ => rfl) (by decide) ?_
      refine yG.ret rfl (fun _ _ => rfl) ?_
      exact (yP.int ⟨by omega, by omega⟩ ⟨⟨⟨0, rfl, by omega, by omega, by omega⟩, A_h5⟩, M_bRg_h5⟩)
  · have c4 : (z3 : Int) ≠ 0 := c4
    replace R_z3 := R_z3 (by omega)
    refine yG.num (c := 0) rfl (fun _ _ => rfl) (by decide) ?_
    refine yG.goto rfl (t := 24) rfl ?_
    refine yG.putI A_hp.1 (w_M_thrown W H_2073) (W.2.1 _ _ H_2073 (by decide) (by decide)) rfl rfl (.inl rfl) ⟨by omega, by omega⟩ (by omega) (by omega) (fun h8 T_h8 b_h8 f_h8 y_h8 => ?_)
    have M_bRg_h8 := M_bRg_hp.fr (bAx.put (Wl := [(83076749736557242056487941267521536, 0)]) (bAx.rf A_hp.1) T_h8 b_h8 f_h8 H_2073 (by decide)) (by decide)
    have A_h8 := A_hp.put T_h8 b_h8 f_h8 H_2073 (by decide)
    have : ys h8 2073 0 = 0 := (y_h8 2073 0).trans (if_pos ⟨rfl, rfl⟩)
    refine yG.load xak rfl (fun _ _ => rfl) (v := yR 2073) rfl rfl ?_
    refine yG.getI A_h8.1 (w_M_thrown W H_2073) rfl rfl (fun z9 e_z9 i_z9 l_z9 u_z9 => ?_)
    refine yG.ifz rfl (t := 36) rfl ⟨by omega, by omega⟩ (fun c10 => ?_) (fun c10 => ?_)
    · have c10 : (z9 : Int) ≤ 0 := c10
      refine yG.load xak rfl (fun _ _ => rfl) (v := yR 2073) rfl rfl ?_
      refine yG.invV (rest := []) A_h8.1 (bOb (d_M W) H_2073) rfl rfl rfl rfl (c_GModel_netFlows W d A_h8.1 M_bRg_h8 (M_bWf.fr A_h8 (by decide)) (M_bPr.fr A_h8 (by decide)) H_2073) (fun rv h11 q9 => ?_)
      obtain ⟨q9, M_bRg_h11⟩ := q9
      obtain ⟨⟨rfl, R_z12⟩, B_h11⟩ := q9
      have A_h11 := A_h8.tr B_h11 (by decide)
      have : ys h11 2073 0 = ys h8 2073 0 := B_h11.ys H_2073 (by decide)
      show yG _ _ _ _ _ _ _ _ _ _ [] _
      refine yG.load xak rfl (fun _ _ => rfl) (v := yR 2073) rfl rfl ?_
      refine yG.load xik rfl (fun _ _ => rfl) (v := yI (p1)) rfl rfl ?_
      refine yG.invV (rest := []) A_h11.1 (bOb (d_M W) H_2073) rfl rfl rfl rfl (c_GModel_islandOfLine W (d + 5) A_h11.1 H_2073 (p1) (by omega) (by omega)) (fun rv hp9 q9 => ?_)
      obtain ⟨⟨z13, rfl, l_z13, u_z13, R_z13⟩, e9⟩ := q9
      rw [e9]
      show yG _ _ _ _ _ _ _ _ _ _ (yI z13 :: []) _
      refine yG.store1 xik (L' := [(2, yI (z13)), (0, yR 2073), (1, yI (p1))]) rfl (fun _ _ => rfl) rfl rfl ?_
      refine yG.load xak rfl (fun _ _ => rfl) (v := yR 2073) rfl rfl ?_
      refine yG.num (c := 212) rfl (fun _ _ => rfl) (by decide) ?_
      refine yG.num (c := 0) rfl (fun _ _ => rfl) (by decide) ?_
      refine yG.load xik rfl (fun _ _ => rfl) (v := yI (z13)) rfl rfl ?_
      refine yG.iadd rfl ?_
      refine yG.load xak rfl (fun _ _ => rfl) (v := yR 2073) rfl rfl ?_
      refine yG.load xik rfl (fun _ _ => rfl) (v := yI (z13)) rfl rfl ?_
      refine yG.invV (rest := [yI (0 + z13), yI (212), yR 2073]) A_h11.1 (bOb (d_M W) H_2073) rfl rfl rfl rfl (c_GModel_times_ W (d + 7) A_h11.1 H_2073 (z13) (by omega) (by omega)) (fun rv hp9 q9 => ?_)
      obtain ⟨⟨z14, rfl, l_z14, u_z14, R_z14⟩, e9⟩ := q9
      rw [e9]
      show yG _ _ _ _ _ _ _ _ _ _ (yJ z14 :: [yI (0 + z13), yI (212), yR 2073]) _
      refine yG.invV (rest := []) A_h11.1 (bOb (d_M W) H_2073) rfl rfl rfl rfl (r_scale W (d + 6) A_h11.1 M_bRg_h11 H_2073 (r := (212)) (p := (0 + z13)) (v := (z14)) (y := 6) ⟨by omega, by omega⟩ ⟨by omega, by omega⟩ (by omega) (M_bRg_h11.at (x := 217) (a := 0) (b := 16) (by decide) (by omega) (by omega) (by decide)) (yEb (c := 64) (by decide) (by omega) (by omega)) (by decide) (by decide) (bTb_ge (a := 212) (b := 213) (by decide) (by omega) (by omega))) (fun rv h15 q9 => ?_)
      obtain ⟨rfl, B_h15, M_bRg_h15, Y_h15, V_h15, S_h15⟩ := q9
      have A_h15 := A_h11.tr B_h15 (by decide)
      have : ys h15 2073 0 = ys h11 2073 0 := B_h15.ys H_2073 (by decide)
      show yG _ _ _ _ _ _ _ _ _ _ [] _
      refine yG.load xak rfl (fun _ _ => rfl) (v := yR 2073) rfl rfl ?_
      refine yG.num (c := 32) rfl (fun _ _ => rfl) (by decide) ?_
      refine yG.load xik rfl (fun _ _ => rfl) (v := yI (p1)) rfl rfl ?_
      refine yG.iadd rfl ?_
      refine yG.num (c := 212) rfl (fun _ _ => rfl) (by decide) ?_
      refine yG.invV (rest := []) A_h15.1 (bOb (d_M W) H_2073) rfl rfl rfl rfl (c_GModel_make W (d + 2) A_h15.1 M_bRg_h15 H_2073 (32 + p1) (212) (by omega) (by omega) (by omega) (by omega)) (fun rv h16 q9 => ?_)
      obtain ⟨q9, M_bRg_h16⟩ := q9
      obtain ⟨⟨z17, rfl, l_z17, u_z17, R_z17⟩, B_h16⟩ := q9
      have A_h16 := A_h15.tr B_h16 (by decide)
      have : ys h16 2073 0 = ys h15 2073 0 := B_h16.ys H_2073 (by decide)
      show yG _ _ _ _ _ _ _ _ _ _ (yI z17 :: []) _
      refine yG.ret rfl (fun _ _ => rfl) ?_
      exact (yP.int ⟨by omega, by omega⟩ ⟨⟨⟨z17, rfl, by omega, by omega, by omega⟩, A_h16⟩, M_bRg_h16⟩)
    · have c10 : (z9 : Int) > 0 := c10
      exfalso; omega
theorem c_GModel_gives {hp : xH} (W : mW G) (d : Nat) (hT : zTy G hp) (M_bRg : bRg G hp) (M_bWf : bWf G hp) (M_bPr : bPr G hp) (H_2073 : bRo G 116 2073) (p1 : Int) (h1l : (-2147483648) ≤ p1) (h1u : p1 ≤ 2147483647) : yC (xcall 89 xfts xpools xms (d + 9)) 411 [yR 2073, yI (p1)] hp (fun rv hp' => (bQi G [(83076749736557242056487941267521536, 0), (83076749736557242056487941267521536, 10), (83076749736557242056487941267521536, 11), (83076749736557242056487941267521536, 38), (83076749736557242056487941267521536, 40), (83076749736557242056487941267521536, 45), (83076749736557242056487941267521536, 46), (83076749736557242056487941267521536, 47), (11415194288614076142038944770073511595106893824, 256)] hp (-1) 1 (fun z => 0 ≤ 0 - p1 + z + 2147483647 ∧ 0 ≤ p1 - z + 2147483648)) rv hp' ∧ bRg G hp') := by
  have A_hp : bAx G [(83076749736557242056487941267521536, 0), (83076749736557242056487941267521536, 10), (83076749736557242056487941267521536, 11), (83076749736557242056487941267521536, 38), (83076749736557242056487941267521536, 40), (83076749736557242056487941267521536, 45), (83076749736557242056487941267521536, 46), (83076749736557242056487941267521536, 47), (11415194288614076142038944770073511595106893824, 256)] hp hp := bAx.rf hT
  have M_bRg_hp := M_bRg
  refine yC.of (M := (xt_X13_gives, (5, (1, (14, []))))) rfl rfl (N := 240) (yfuel (by decide)) ?_
  show yG 89 xfts (xcall 89 xfts xpools xms (d + 8)) (xpool xp_RX13) [] xt_X13_gives (yP 1 (fun rv hp' => (bQi G [(83076749736557242056487941267521536, 0), (83076749736557242056487941267521536, 10), (83076749736557242056487941267521536, 11), (83076749736557242056487941267521536, 38), (83076749736557242056487941267521536, 40), (83076749736557242056487941267521536, 45), (83076749736557242056487941267521536, 46), (83076749736557242056487941267521536, 47), (11415194288614076142038944770073511595106893824, 256)] hp (-1) 1 (fun z => 0 ≤ 0 - p1 + z + 2147483647 ∧ 0 ≤ p1 - z + 2147483648)) rv hp' ∧ bRg G hp')) 240 0 [(0, yR 2073), (1, yI (p1))] [] hp
  refine yG.load xak rfl (fun _ _ => rfl) (v := yR 2073) rfl rfl ?_
  refine yG.load xik rfl (fun _ _ => rfl) (v := yI (p1)) rfl rfl ?_
  refine yG.i2l rfl ⟨by omega, by omega⟩ ?_
  refine yG.numl (c := 0) rfl (fun _ _ => rfl) (by decide) ?_
  refine yG.load xak rfl (fun _ _ => rfl) (v := yR 2073) rfl rfl ?_
  refine yG.getO A_hp.1 (w_M_count W H_2073) rfl rfl (fun r1 H_r1 O_r1 q_r1 => ?_)
  obtain rfl := u_M_count W H_r1
  refine yG.num (c := 3) rfl (fun _ _ => rfl) (by decide) ?_
  refine yG.ialdF A_hp.1 (v_M_count W H_r1) rfl rfl (by omega) (by omega) (fun z2 e_z2 i_z2 l_z2 u_z2 => ?_)
  refine yG.num (c := 1) rfl (fun _ _ => rfl) (by decide) ?_
  refine yG.isub rfl ?_
  refine yG.i2l rfl ⟨by omega, by omega⟩ ?_
  refine yG.invS (rest := [yR 2073]) rfl rfl rfl rfl (c_GModel_in W (d + 7) A_hp.1 (p1) (0) (z2 - 1) (by omega) (by omega) (by omega) (by omega) (by omega) (by omega)) (fun rv hp9 q9 => ?_)
  obtain ⟨⟨z3, rfl, l_z3, u_z3, R_z3⟩, e9⟩ := q9
  rw [e9]
  show yG _ _ _ _ _ _ _ _ _ _ (yI z3 :: [yR 2073]) _
  refine yG.ifz rfl (t := 23) rfl ⟨by omega, by omega⟩ (fun c4 => ?_) (fun c4 => ?_)
  · have c4 : (z3 : Int) = 0 := c4
    clear R_z3
    refine yG.num (c := 1) rfl (fun _ _ => rfl) (by decide) ?_
    refine yG.putI A_hp.1 (w_M_thrown W H_2073) (W.2.1 _ _ H_2073 (by decide) (by decide)) rfl rfl (.inl rfl) ⟨by omega, by omega⟩ (by omega) (by omega) (fun h5 T_h5 b_h5 f_h5 y_h5 => ?_)
    have M_bRg_h5 := M_bRg_hp.fr (bAx.put (Wl := [(83076749736557242056487941267521536, 0)]) (bAx.rf A_hp.1) T_h5 b_h5 f_h5 H_2073 (by decide)) (by decide)
    have A_h5 := A_hp.put T_h5 b_h5 f_h5 H_2073 (by decide)
    have : ys h5 2073 0 = 1 := (y_h5 2073 0).trans (if_pos ⟨rfl, rfl⟩)
    refine yG.load xak rfl (fun _ _ => rfl) (v := yR 2073) rfl rfl ?_
    refine yG.getI A_h5.1 (w_M_thrown W H_2073) rfl rfl (fun z6 e_z6 i_z6 l_z6 u_z6 => ?_)
    refine yG.ifz rfl (t := 36) rfl ⟨by omega, by omega⟩ (fun c7 => ?_) (fun c7 => ?_)
    · have c7 : (z6 : Int) ≤ 0 := c7
      exfalso; omega
    · have c7 : (z6 : Int) > 0 := c7
      refine yG.num (c := 0) rfl (fun _ _ => rfl) (by decide) ?_
      refine yG.ret rfl (fun _ _ => rfl) ?_
      exact (yP.int ⟨by omega, by omega⟩ ⟨⟨⟨0, rfl, by omega, by omega, by omega⟩, A_h5⟩, M_bRg_h5⟩)
  · have c4 : (z3 : Int) ≠ 0 := c4
    replace R_z3 := R_z3 (by omega)
    refine yG.num (c := 0) rfl (fun _ _ => rfl) (by decide) ?_
    refine yG.goto rfl (t := 24) rfl ?_
    refine yG.putI A_hp.1 (w_M_thrown W H_2073) (W.2.1 _ _ H_2073 (by decide) (by decide)) rfl rfl (.inl rfl) ⟨by omega, by omega⟩ (by omega) (by omega) (fun h8 T_h8 b_h8 f_h8 y_h8 => ?_)
    have M_bRg_h8 := M_bRg_hp.fr (bAx.put (Wl := [(83076749736557242056487941267521536, 0)]) (bAx.rf A_hp.1) T_h8 b_h8 f_h8 H_2073 (by decide)) (by decide)
    have A_h8 := A_hp.put T_h8 b_h8 f_h8 H_2073 (by decide)
    have : ys h8 2073 0 = 0 := (y_h8 2073 0).trans (if_pos ⟨rfl, rfl⟩)
    refine yG.load xak rfl (fun _ _ => rfl) (v := yR 2073) rfl rfl ?_
    refine yG.getI A_h8.1 (w_M_thrown W H_2073) rfl rfl (fun z9 e_z9 i_z9 l_z9 u_z9 => ?_)
    refine yG.ifz rfl (t := 36) rfl ⟨by omega, by omega⟩ (fun c10 => ?_) (fun c10 => ?_)
    · have c10 : (z9 : Int) ≤ 0 := c10
      refine yG.load xak rfl (fun _ _ => rfl) (v := yR 2073) rfl rfl ?_
      refine yG.invV (rest := []) A_h8.1 (bOb (d_M W) H_2073) rfl rfl rfl rfl (c_GModel_netFlows W d A_h8.1 M_bRg_h8 (M_bWf.fr A_h8 (by decide)) (M_bPr.fr A_h8 (by decide)) H_2073) (fun rv h11 q9 => ?_)
      obtain ⟨q9, M_bRg_h11⟩ := q9
      obtain ⟨⟨rfl, R_z12⟩, B_h11⟩ := q9
      have A_h11 := A_h8.tr B_h11 (by decide)
      have : ys h11 2073 0 = ys h8 2073 0 := B_h11.ys H_2073 (by decide)
      show yG _ _ _ _ _ _ _ _ _ _ [] _
      refine yG.load xak rfl (fun _ _ => rfl) (v := yR 2073) rfl rfl ?_
      refine yG.getO A_h11.1 (w_M_island W H_2073) rfl rfl (fun r13 H_r13 O_r13 q_r13 => ?_)
      obtain rfl := u_M_island W H_r13
      refine yG.load xak rfl (fun _ _ => rfl) (v := yR 2073) rfl rfl ?_
      refine yG.num (c := 3) rfl (fun _ _ => rfl) (by decide) ?_
      refine yG.load xik rfl (fun _ _ => rfl) (v := yI (p1)) rfl rfl ?_
      refine yG.num (c := 10) rfl (fun _ _ => rfl) (by decide) ?_
      refine yG.invV (rest := [yR 2101]) A_h11.1 (bOb (d_M W) H_2073) rfl rfl rfl rfl (c_GModel_of_v3_10 W (d + 6) A_h11.1 H_2073 (p1) (by omega) (by omega)) (fun rv hp9 q9 => ?_)
      obtain ⟨⟨z14, rfl, l_z14, u_z14, R_z14⟩, e9⟩ := q9
      rw [e9]
      show yG _ _ _ _ _ _ _ _ _ _ (yI z14 :: [yR 2101]) _
      refine yG.ialdF A_h11.1 (v_M_island W H_r13) rfl rfl (by omega) (by omega) (fun z15 e_z15 i_z15 l_z15 u_z15 => ?_)
      refine yG.store1 xik (L' := [(2, yI (z15)), (0, yR 2073), (1, yI (p1))]) rfl (fun _ _ => rfl) rfl rfl ?_
      refine yG.load xak rfl (fun _ _ => rfl) (v := yR 2073) rfl rfl ?_
      refine yG.num (c := 3) rfl (fun _ _ => rfl) (by decide) ?_
      refine yG.load xik rfl (fun _ _ => rfl) (v := yI (p1)) rfl rfl ?_
      refine yG.num (c := 0) rfl (fun _ _ => rfl) (by decide) ?_
      refine yG.invV (rest := []) A_h11.1 (bOb (d_M W) H_2073) rfl rfl rfl rfl (c_GModel_of_v3_0 W (d + 6) A_h11.1 H_2073 (p1) (by omega) (by omega)) (fun rv hp9 q9 => ?_)
      obtain ⟨⟨z16, rfl, l_z16, u_z16, R_z16⟩, e9⟩ := q9
      rw [e9]
      show yG _ _ _ _ _ _ _ _ _ _ (yI z16 :: []) _
      refine yG.ifz rfl (t := 73) rfl ⟨by omega, by omega⟩ (fun c17 => ?_) (fun c17 => ?_)
      · have c17 : (z16 : Int) = 0 := c17
        refine yG.load xak rfl (fun _ _ => rfl) (v := yR 2073) rfl rfl ?_
        refine yG.numl (c := 0) rfl (fun _ _ => rfl) (by decide) ?_
        refine yG.numl (c := 1) rfl (fun _ _ => rfl) (by decide) ?_
        refine yG.invV (rest := []) A_h11.1 (bOb (d_M W) H_2073) rfl rfl rfl rfl (c_GModel_makeWhole W (d + 1) A_h11.1 M_bRg_h11 H_2073 (0) (1) (by omega) (by omega) (by omega) (by omega)) (fun rv h18 q9 => ?_)
        obtain ⟨q9, M_bRg_h18⟩ := q9
        obtain ⟨⟨z19, rfl, l_z19, u_z19, R_z19⟩, B_h18⟩ := q9
        have A_h18 := A_h11.tr B_h18 (by decide)
        have : ys h18 2073 0 = ys h11 2073 0 := B_h18.ys H_2073 (by decide)
        show yG _ _ _ _ _ _ _ _ _ _ (yI z19 :: []) _
        refine yG.ret rfl (fun _ _ => rfl) ?_
        exact (yP.int ⟨by omega, by omega⟩ ⟨⟨⟨z19, rfl, by omega, by omega, by omega⟩, A_h18⟩, M_bRg_h18⟩)
      · have c17 : (z16 : Int) ≠ 0 := c17
        refine yG.load xak rfl (fun _ _ => rfl) (v := yR 2073) rfl rfl ?_
        refine yG.getO A_h11.1 (w_M_isStuck W H_2073) rfl rfl (fun r20 H_r20 O_r20 q_r20 => ?_)
        obtain rfl := u_M_isStuck W H_r20
        refine yG.load xik rfl (fun _ _ => rfl) (v := yI (z15)) rfl rfl ?_
        refine yG.bald A_h11.1 (v_M_isStuck W H_r20) rfl (by omega) (by omega) (fun z21 e_z21 i_z21 l_z21 u_z21 => ?_)
        refine yG.ifz rfl (t := 80) rfl ⟨by omega, by omega⟩ (fun c22 => ?_) (fun c22 => ?_)
        · have c22 : (z21 : Int) = 0 := c22
          refine yG.load xak rfl (fun _ _ => rfl) (v := yR 2073) rfl rfl ?_
          refine yG.getO A_h11.1 (w_M_share W H_2073) rfl rfl (fun r23 H_r23 O_r23 q_r23 => ?_)
          obtain rfl := u_M_share W H_r23
          refine yG.load xik rfl (fun _ _ => rfl) (v := yI (z15)) rfl rfl ?_
          refine yG.lald A_h11.1 (v_M_share W H_r23) rfl (by omega) (by omega) (fun z24 e_z24 i_z24 l_z24 u_z24 => ?_)
          refine yG.numl (c := 0) rfl (fun _ _ => rfl) (by decide) ?_
          refine yG.lcmp rfl ⟨by omega, by omega⟩ ⟨by omega, by omega⟩ (fun z25 e_z25 => ?_)
          refine yG.ifz rfl (t := 95) rfl ⟨by omega, by omega⟩ (fun c26 => ?_) (fun c26 => ?_)
          · have c26 : (z25 : Int) ≠ 0 := c26
            refine yG.load xak rfl (fun _ _ => rfl) (v := yR 2073) rfl rfl ?_
            refine yG.getO A_h11.1 (w_M_lack W H_2073) rfl rfl (fun r27 H_r27 O_r27 q_r27 => ?_)
            obtain rfl := u_M_lack W H_r27
            refine yG.load xik rfl (fun _ _ => rfl) (v := yI (z15)) rfl rfl ?_
            refine yG.lald A_h11.1 (v_M_lack W H_r27) rfl (by omega) (by omega) (fun z28 e_z28 i_z28 l_z28 u_z28 => ?_)
            refine yG.load xak rfl (fun _ _ => rfl) (v := yR 2073) rfl rfl ?_
            refine yG.num (c := 3) rfl (fun _ _ => rfl) (by decide) ?_
            refine yG.load xik rfl (fun _ _ => rfl) (v := yI (p1)) rfl rfl ?_
            refine yG.num (c := 9) rfl (fun _ _ => rfl) (by decide) ?_
            refine yG.invV (rest := [yJ (z28)]) A_h11.1 (bOb (d_M W) H_2073) rfl rfl rfl rfl (c_GModel_of_3_9 W (d + 6) A_h11.1 H_2073 (p1) (by omega) (by omega)) (fun rv hp9 q9 => ?_)
            obtain ⟨⟨z29, rfl, l_z29, u_z29, R_z29⟩, e9⟩ := q9
            rw [e9]
            show yG _ _ _ _ _ _ _ _ _ _ (yI z29 :: [yJ (z28)]) _
            refine yG.i2l rfl ⟨by omega, by omega⟩ ?_
            refine yG.lmul rfl ?_
            obtain ⟨z30, e_z30⟩ : ∃ z : Int, z = z28 * z29 := ⟨_, rfl⟩
            rw [← e_z30]
            have b_z30 : -1079892 ≤ z30 ∧ z30 ≤ 1079892 := e_z30 ▸ ymuls (A := 119988) (B := 9) (by omega) (by omega) (by omega) (by omega) (by decide)
            refine yG.store2 xlk2 (L' := [(3, yJ (z30)), (2, yI (z15)), (0, yR 2073), (1, yI (p1))]) rfl (fun _ _ => rfl) rfl rfl ?_
            refine yG.load xak rfl (fun _ _ => rfl) (v := yR 2073) rfl rfl ?_
            refine yG.load xak rfl (fun _ _ => rfl) (v := yR 2073) rfl rfl ?_
            refine yG.num (c := 3) rfl (fun _ _ => rfl) (by decide) ?_
            refine yG.load xik rfl (fun _ _ => rfl) (v := yI (p1)) rfl rfl ?_
            refine yG.num (c := 1) rfl (fun _ _ => rfl) (by decide) ?_
            refine yG.invV (rest := [yR 2073]) A_h11.1 (bOb (d_M W) H_2073) rfl rfl rfl rfl (c_GModel_of_3_1 W (d + 6) A_h11.1 H_2073 (p1) (by omega) (by omega)) (fun rv hp9 q9 => ?_)
            obtain ⟨⟨z31, rfl, l_z31, u_z31, R_z31⟩, e9⟩ := q9
            rw [e9]
            show yG _ _ _ _ _ _ _ _ _ _ (yI z31 :: [yR 2073]) _
            refine yG.i2l rfl ⟨by omega, by omega⟩ ?_
            refine yG.load xak rfl (fun _ _ => rfl) (v := yR 2073) rfl rfl ?_
            refine yG.load xik rfl (fun _ _ => rfl) (v := yI (z15)) rfl rfl ?_
            refine yG.invV (rest := [yJ (z31), yR 2073]) A_h11.1 (bOb (d_M W) H_2073) rfl rfl rfl rfl (c_GModel_times_ W (d + 7) A_h11.1 H_2073 (z15) (by omega) (by omega)) (fun rv hp9 q9 => ?_)
            obtain ⟨⟨z32, rfl, l_z32, u_z32, R_z32⟩, e9⟩ := q9
            rw [e9]
            show yG _ _ _ _ _ _ _ _ _ _ (yJ z32 :: [yJ (z31), yR 2073]) _
            refine yG.lmul rfl ?_
            obtain ⟨z33, e_z33⟩ : ∃ z : Int, z = z31 * z32 := ⟨_, rfl⟩
            rw [← e_z33]
            have b_z33 : 0 ≤ z33 ∧ z33 ≤ 539946 := e_z33 ▸ ymulb (A := 9999) (B := 54) (by omega) (by omega) (by omega) (by omega) (by decide)
            have b2_z33 : z33 ≤ 9999 * z32 := e_z33 ▸ bmulx (by omega) (by omega)
            have b3_z33 : z33 ≤ 54 * z31 := e_z33 ▸ bmuly (by omega) (by omega)
            refine yG.load xlk2 rfl (fun _ _ => rfl) (v := yJ (z30)) rfl rfl ?_
            refine yG.ladd rfl ?_
            refine yG.load xak rfl (fun _ _ => rfl) (v := yR 2073) rfl rfl ?_
            refine yG.load xik rfl (fun _ _ => rfl) (v := yI (z15)) rfl rfl ?_
            refine yG.invV (rest := [yJ (z33 + z30), yR 2073]) A_h11.1 (bOb (d_M W) H_2073) rfl rfl rfl rfl (c_GModel_times_ W (d + 7) A_h11.1 H_2073 (z15) (by omega) (by omega)) (fun rv hp9 q9 => ?_)
            obtain ⟨⟨z34, rfl, l_z34, u_z34, R_z34⟩, e9⟩ := q9
            rw [e9]
            show yG _ _ _ _ _ _ _ _ _ _ (yJ z34 :: [yJ (z33 + z30), yR 2073]) _
            refine yG.invV (rest := []) A_h11.1 (bOb (d_M W) H_2073) rfl rfl rfl rfl (c_GModel_makeWhole W (d + 1) A_h11.1 M_bRg_h11 H_2073 (z33 + z30) (z34) (by omega) (by omega) (by omega) (by omega)) (fun rv h35 q9 => ?_)
            obtain ⟨q9, M_bRg_h35⟩ := q9
            obtain ⟨⟨z36, rfl, l_z36, u_z36, R_z36⟩, B_h35⟩ := q9
            have A_h35 := A_h11.tr B_h35 (by decide)
            have : ys h35 2073 0 = ys h11 2073 0 := B_h35.ys H_2073 (by decide)
            show yG _ _ _ _ _ _ _ _ _ _ (yI z36 :: []) _
            refine yG.ret rfl (fun _ _ => rfl) ?_
            exact (yP.int ⟨by omega, by omega⟩ ⟨⟨⟨z36, rfl, by omega, by omega, by omega⟩, A_h35⟩, M_bRg_h35⟩)
          · have c26 : (z25 : Int) = 0 := c26
            refine yG.numl (c := 0) rfl (fun _ _ => rfl) (by decide) ?_
            refine yG.goto rfl (t := 111) rfl ?_
            refine yG.store2 xlk2 (L' := [(3, yJ (0)), (2, yI (z15)), (0, yR 2073), (1, yI (p1))]) rfl (fun _ _ => rfl) rfl rfl ?_
            refine yG.load xak rfl (fun _ _ => rfl) (v := yR 2073) rfl rfl ?_
            refine yG.load xak rfl (fun _ _ => rfl) (v := yR 2073) rfl rfl ?_
            refine yG.num (c := 3) rfl (fun _ _ => rfl) (by decide) ?_
            refine yG.load xik rfl (fun _ _ => rfl) (v := yI (p1)) rfl rfl ?_
            refine yG.num (c := 1) rfl (fun _ _ => rfl) (by decide) ?_
            refine yG.invV (rest := [yR 2073]) A_h11.1 (bOb (d_M W) H_2073) rfl rfl rfl rfl (c_GModel_of_3_1 W (d + 6) A_h11.1 H_2073 (p1) (by omega) (by omega)) (fun rv hp9 q9 => ?_)
            obtain ⟨⟨z37, rfl, l_z37, u_z37, R_z37⟩, e9⟩ := q9
            rw [e9]
            show yG _ _ _ _ _ _ _ _ _ _ (yI z37 :: [yR 2073]) _
            refine yG.i2l rfl ⟨by omega, by omega⟩ ?_
            refine yG.load xak rfl (fun _ _ => rfl) (v := yR 2073) rfl rfl ?_
            refine yG.load xik rfl (fun _ _ => rfl) (v := yI (z15)) rfl rfl ?_
            refine yG.invV (rest := [yJ (z37), yR 2073]) A_h11.1 (bOb (d_M W) H_2073) rfl rfl rfl rfl (c_GModel_times_ W (d + 7) A_h11.1 H_2073 (z15) (by omega) (by omega)) (fun rv hp9 q9 => ?_)
            obtain ⟨⟨z38, rfl, l_z38, u_z38, R_z38⟩, e9⟩ := q9
            rw [e9]
            show yG _ _ _ _ _ _ _ _ _ _ (yJ z38 :: [yJ (z37), yR 2073]) _
            refine yG.lmul rfl ?_
            obtain ⟨z39, e_z39⟩ : ∃ z : Int, z = z37 * z38 := ⟨_, rfl⟩
            rw [← e_z39]
            have b_z39 : 0 ≤ z39 ∧ z39 ≤ 539946 := e_z39 ▸ ymulb (A := 9999) (B := 54) (by omega) (by omega) (by omega) (by omega) (by decide)
            have b2_z39 : z39 ≤ 9999 * z38 := e_z39 ▸ bmulx (by omega) (by omega)
            have b3_z39 : z39 ≤ 54 * z37 := e_z39 ▸ bmuly (by omega) (by omega)
            refine yG.load xlk2 rfl (fun _ _ => rfl) (v := yJ (0)) rfl rfl ?_
            refine yG.ladd rfl ?_
            refine yG.load xak rfl (fun _ _ => rfl) (v := yR 2073) rfl rfl ?_
            refine yG.load xik rfl (fun _ _ => rfl) (v := yI (z15)) rfl rfl ?_
            refine yG.invV (rest := [yJ (z39 + 0), yR 2073]) A_h11.1 (bOb (d_M W) H_2073) rfl rfl rfl rfl (c_GModel_times_ W (d + 7) A_h11.1 H_2073 (z15) (by omega) (by omega)) (fun rv hp9 q9 => ?_)
            obtain ⟨⟨z40, rfl, l_z40, u_z40, R_z40⟩, e9⟩ := q9
            rw [e9]
            show yG _ _ _ _ _ _ _ _ _ _ (yJ z40 :: [yJ (z39 + 0), yR 2073]) _
            refine yG.invV (rest := []) A_h11.1 (bOb (d_M W) H_2073) rfl rfl rfl rfl (c_GModel_makeWhole W (d + 1) A_h11.1 M_bRg_h11 H_2073 (z39 + 0) (z40) (by omega) (by omega) (by omega) (by omega)) (fun rv h41 q9 => ?_)
            obtain ⟨q9, M_bRg_h41⟩ := q9
            obtain ⟨⟨z42, rfl, l_z42, u_z42, R_z42⟩, B_h41⟩ := q9
            have A_h41 := A_h11.tr B_h41 (by decide)
            have : ys h41 2073 0 = ys h11 2073 0 := B_h41.ys H_2073 (by decide)
            show yG _ _ _ _ _ _ _ _ _ _ (yI z42 :: []) _
            refine yG.ret rfl (fun _ _ => rfl) ?_
            exact (yP.int ⟨by omega, by omega⟩ ⟨⟨⟨z42, rfl, by omega, by omega, by omega⟩, A_h41⟩, M_bRg_h41⟩)
        · have c22 : (z21 : Int) ≠ 0 := c22
          refine yG.load xak rfl (fun _ _ => rfl) (v := yR 2073) rfl rfl ?_
          refine yG.numl (c := 0) rfl (fun _ _ => rfl) (by decide) ?_
          refine yG.numl (c := 1) rfl (fun _ _ => rfl) (by decide) ?_
          refine yG.invV (rest := []) A_h11.1 (bOb (d_M W) H_2073) rfl rfl rfl rfl (c_GModel_makeWhole W (d + 1) A_h11.1 M_bRg_h11 H_2073 (0) (1) (by omega) (by omega) (by omega) (by omega)) (fun rv h43 q9 => ?_)
          obtain ⟨q9, M_bRg_h43⟩ := q9
          obtain ⟨⟨z44, rfl, l_z44, u_z44, R_z44⟩, B_h43⟩ := q9
          have A_h43 := A_h11.tr B_h43 (by decide)
          have : ys h43 2073 0 = ys h11 2073 0 := B_h43.ys H_2073 (by decide)
          show yG _ _ _ _ _ _ _ _ _ _ (yI z44 :: []) _
          refine yG.ret rfl (fun _ _ => rfl) ?_
          exact (yP.int ⟨by omega, by omega⟩ ⟨⟨⟨z44, rfl, by omega, by omega, by omega⟩, A_h43⟩, M_bRg_h43⟩)
    · have c10 : (z9 : Int) > 0 := c10
      exfalso; omega
theorem c_GModel_bar {hp : xH} (W : mW G) (d : Nat) (hT : zTy G hp) (M_bRg : bRg G hp) (M_bWf : bWf G hp) (M_bPr : bPr G hp) (H_2073 : bRo G 116 2073) (p1 p2 : Int) (h1l : (-2147483648) ≤ p1) (h1u : p1 ≤ 2147483647) (h2l : (-2147483648) ≤ p2) (h2u : p2 ≤ 2147483647) : yC (xcall 89 xfts xpools xms (d + 9)) 357 [yR 2073, yI (p1), yI (p2)] hp (fun rv hp' => (bQi G [(83076749736557242056487941267521536, 0), (83076749736557242056487941267521536, 10), (83076749736557242056487941267521536, 11), (83076749736557242056487941267521536, 38), (83076749736557242056487941267521536, 40), (83076749736557242056487941267521536, 45), (83076749736557242056487941267521536, 46), (83076749736557242056487941267521536, 47), (11415194288614076142038944770073511595106893824, 256)] hp 0 15 (fun z => 0 ≤ p1 - z + 2147483648 ∧ 0 ≤ p2 - z + 2147483648)) rv hp' ∧ bRg G hp') := by
  have A_hp : bAx G [(83076749736557242056487941267521536, 0), (83076749736557242056487941267521536, 10), (83076749736557242056487941267521536, 11), (83076749736557242056487941267521536, 38), (83076749736557242056487941267521536, 40), (83076749736557242056487941267521536, 45), (83076749736557242056487941267521536, 46), (83076749736557242056487941267521536, 47), (11415194288614076142038944770073511595106893824, 256)] hp hp := bAx.rf hT
  have M_bRg_hp := M_bRg
  have H : ∀ m : Nat, (∀ a3 : Int, ∀ hq, bAx G [(83076749736557242056487941267521536, 0), (83076749736557242056487941267521536, 10), (83076749736557242056487941267521536, 11), (83076749736557242056487941267521536, 38), (83076749736557242056487941267521536, 40), (83076749736557242056487941267521536, 45), (83076749736557242056487941267521536, 46), (83076749736557242056487941267521536, 47), (11415194288614076142038944770073511595106893824, 256)] hp hq → bRg G hq → 0 ≤ a3 → (-24) ≤ 0 - a3 → 0 ≤ p1 → (-15) ≤ 0 - p1 → 3 ≤ p2 → (-4) ≤ 0 - p2 → 0 - 2 * a3 + 49 < (m : Int) → yG 89 xfts (xcall 89 xfts xpools xms (d + 8)) (xpool xp_RX13) [] xt_X13_bar (yP 1 (fun rv hp' => (bQi G [(83076749736557242056487941267521536, 0), (83076749736557242056487941267521536, 10), (83076749736557242056487941267521536, 11), (83076749736557242056487941267521536, 38), (83076749736557242056487941267521536, 40), (83076749736557242056487941267521536, 45), (83076749736557242056487941267521536, 46), (83076749736557242056487941267521536, 47), (11415194288614076142038944770073511595106893824, 256)] hp 0 15 (fun z => 0 ≤ p1 - z + 2147483648 ∧ 0 ≤ p2 - z + 2147483648)) rv hp' ∧ bRg G hp')) (56 * m) 156 [(0, yR 2073), (1, yI (p1)), (3, yI (a3))] [] hq) := by
    intro m
    induction m with
    | zero =>
      intros; exfalso; omega
    | succ m ih =>
      have i_156 := ih
      clear ih
      intro a3 hq A_hq M_bRg_hq f0 f1 f2 f3 f4 f5 hm
      refine yG.mono (N := 56 * m + 56) ?_ (by omega)
      refine yG.load xik rfl (fun _ _ => rfl) (v := yI (a3)) rfl rfl ?_
      refine yG.load xak rfl (fun _ _ => rfl) (v := yR 2073) rfl rfl ?_
      refine yG.getO A_hq.1 (w_M_count W H_2073) rfl rfl (fun r1 H_r1 O_r1 q_r1 => ?_)
      obtain rfl := u_M_count W H_r1
      refine yG.num (c := 1) rfl (fun _ _ => rfl) (by decide) ?_
      refine yG.ialdF A_hq.1 (v_M_count W H_r1) rfl rfl (by omega) (by omega) (fun z2 e_z2 i_z2 l_z2 u_z2 => ?_)
      refine yG.icmp rfl (t := 198) rfl ⟨by omega, by omega⟩ ⟨by omega, by omega⟩ (fun c3 => ?_) (fun c3 => ?_)
      · have c3 : (a3 : Int) ≥ z2 := c3
        refine yG.load xak rfl (fun _ _ => rfl) (v := yR 2073) rfl rfl ?_
        refine yG.invV (rest := []) A_hq.1 (bOb (d_M W) H_2073) rfl rfl rfl rfl (c_GModel_topology W (d + 5) A_hq.1 H_2073) (fun rv h4 q9 => ?_)
        obtain ⟨⟨rfl, R_z5⟩, B_h4⟩ := q9
        have A_h4 := A_hq.tr B_h4 (by decide)
        have M_bRg_h4 := M_bRg_hq.fr B_h4 (by decide)
        show yG _ _ _ _ _ _ _ _ _ _ [] _
        refine yG.load xak rfl (fun _ _ => rfl) (v := yR 2073) rfl rfl ?_
        refine yG.getO A_h4.1 (w_M_isLive W H_2073) rfl rfl (fun r6 H_r6 O_r6 q_r6 => ?_)
        obtain rfl := u_M_isLive W H_r6
        refine yG.load xak rfl (fun _ _ => rfl) (v := yR 2073) rfl rfl ?_
        refine yG.getO A_h4.1 (w_M_island W H_2073) rfl rfl (fun r7 H_r7 O_r7 q_r7 => ?_)
        obtain rfl := u_M_island W H_r7
        refine yG.load xik rfl (fun _ _ => rfl) (v := yI (p1)) rfl rfl ?_
        refine yG.ialdF A_h4.1 (v_M_island W H_r7) rfl rfl (by omega) (by omega) (fun z8 e_z8 i_z8 l_z8 u_z8 => ?_)
        refine yG.bald A_h4.1 (v_M_isLive W H_r6) rfl (by omega) (by omega) (fun z9 e_z9 i_z9 l_z9 u_z9 => ?_)
        refine yG.ifz rfl (t := 220) rfl ⟨by omega, by omega⟩ (fun c10 => ?_) (fun c10 => ?_)
        · have c10 : (z9 : Int) = 0 := c10
          refine yG.num (c := 0) rfl (fun _ _ => rfl) (by decide) ?_
          refine yG.ret rfl (fun _ _ => rfl) ?_
          exact (yP.int ⟨by omega, by omega⟩ ⟨⟨⟨0, rfl, by omega, by omega, by omega⟩, A_h4⟩, M_bRg_h4⟩)
        · have c10 : (z9 : Int) ≠ 0 := c10
          refine yG.num (c := 2) rfl (fun _ _ => rfl) (by decide) ?_
          refine yG.goto rfl (t := 221) rfl ?_
          refine yG.ret rfl (fun _ _ => rfl) ?_
          exact (yP.int ⟨by omega, by omega⟩ ⟨⟨⟨2, rfl, by omega, by omega, by omega⟩, A_h4⟩, M_bRg_h4⟩)
      · have c3 : (a3 : Int) < z2 := c3
        refine yG.load xak rfl (fun _ _ => rfl) (v := yR 2073) rfl rfl ?_
        refine yG.getO A_hq.1 (w_M_stateNow W H_2073) rfl rfl (fun r11 H_r11 O_r11 q_r11 => ?_)
        obtain rfl := u_M_stateNow W H_r11
        refine yG.load xik rfl (fun _ _ => rfl) (v := yI (a3)) rfl rfl ?_
        refine yG.load xak rfl (fun _ _ => rfl) (v := yR 2073) rfl rfl ?_
        refine yG.getS9 A_hq.1 (w_M_stateNow W H_2073) q_r11 rfl rfl ?_
        refine yG.load xik rfl (fun _ _ => rfl) (v := yI (a3)) rfl rfl ?_
        refine yG.iald A_hq.1 (v_M_stateNow W H_r11) rfl (by omega) (by omega) (fun z12 e_z12 i_z12 l_z12 u_z12 => ?_)
        refine yG.num (c := 2) rfl (fun _ _ => rfl) (by decide) ?_
        refine yG.icmp rfl (t := 185) rfl ⟨by omega, by omega⟩ ⟨by omega, by omega⟩ (fun c13 => ?_) (fun c13 => ?_)
        · have c13 : (z12 : Int) ≠ 2 := c13
          refine yG.load xak rfl (fun _ _ => rfl) (v := yR 2073) rfl rfl ?_
          refine yG.getS9 A_hq.1 (w_M_stateNow W H_2073) q_r11 rfl rfl ?_
          refine yG.load xik rfl (fun _ _ => rfl) (v := yI (a3)) rfl rfl ?_
          refine yG.iald A_hq.1 (v_M_stateNow W H_r11) rfl (by omega) (by omega) (fun z14 e_z14 i_z14 l_z14 u_z14 => ?_)
          rw [show (z14 : Int) = z12 by omega]
          refine yG.iast A_hq.1 (v_M_stateNow W H_r11) (W.2.1 _ _ H_r11 (by decide) (by decide)) rfl (by omega) (by omega) ⟨by omega, by omega⟩ (by omega) (by omega) (fun h15 T_h15 b_h15 f_h15 y_h15 => ?_)
          have M_bRg_h15 := M_bRg_hq.fr (bAx.put (Wl := [(2787593149816327892691964784081045188247552, 256)]) (bAx.rf A_hq.1) T_h15 b_h15 f_h15 H_r11 (bAll_ok (by decide) _)) (by decide)
          have A_h15 := A_hq.put T_h15 b_h15 f_h15 H_r11 (bAll_ok (by decide) _)
          have qq1 : zsl h15 2073 32 = yR 2098 := ((f_h15 2073 32).trans (if_neg (fun e => (bRo.ne H_2073 H_r11 (by decide)) e.1))).trans q_r11
          have : ys h15 2098 (a3 : Int).toNat = z12 := (y_h15 2098 _).trans (if_pos ⟨rfl, rfl⟩)
          refine yG.iinc rfl (a := a3) rfl (L' := [(3, yI (a3 + 1)), (0, yR 2073), (1, yI (p1))]) rfl ?_
          refine yG.goto rfl (t := 156) rfl ?_
          exact yG.mono (yG.sub (i_156 (a3 + 1)  h15 A_h15 M_bRg_h15   (by omega) (by omega) (by omega) (by omega) (by omega) (by omega) (by omega)) (ySub.cons rfl (ySub.cons rfl (ySub.cons rfl (ySub.nil))))) (by omega)
        · have c13 : (z12 : Int) = 2 := c13
          refine yG.num (c := 1) rfl (fun _ _ => rfl) (by decide) ?_
          refine yG.goto rfl (t := 191) rfl ?_
          refine yG.iast A_hq.1 (v_M_stateNow W H_r11) (W.2.1 _ _ H_r11 (by decide) (by decide)) rfl (by omega) (by omega) ⟨by omega, by omega⟩ (by omega) (by omega) (fun h16 T_h16 b_h16 f_h16 y_h16 => ?_)
          have M_bRg_h16 := M_bRg_hq.fr (bAx.put (Wl := [(2787593149816327892691964784081045188247552, 256)]) (bAx.rf A_hq.1) T_h16 b_h16 f_h16 H_r11 (bAll_ok (by decide) _)) (by decide)
          have A_h16 := A_hq.put T_h16 b_h16 f_h16 H_r11 (bAll_ok (by decide) _)
          have qq2 : zsl h16 2073 32 = yR 2098 := ((f_h16 2073 32).trans (if_neg (fun e => (bRo.ne H_2073 H_r11 (by decide)) e.1))).trans q_r11
          have : ys h16 2098 (a3 : Int).toNat = 1 := (y_h16 2098 _).trans (if_pos ⟨rfl, rfl⟩)
          refine yG.iinc rfl (a := a3) rfl (L' := [(3, yI (a3 + 1)), (0, yR 2073), (1, yI (p1))]) rfl ?_
          refine yG.goto rfl (t := 156) rfl ?_
          exact yG.mono (yG.sub (i_156 (a3 + 1)  h16 A_h16 M_bRg_h16   (by omega) (by omega) (by omega) (by omega) (by omega) (by omega) (by omega)) (ySub.cons rfl (ySub.cons rfl (ySub.cons rfl (ySub.nil))))) (by omega)
  refine yC.of (M := (xt_X13_bar, (4, (1, (14, []))))) rfl rfl (N := 2912) (yfuel (by decide)) ?_
  show yG 89 xfts (xcall 89 xfts xpools xms (d + 8)) (xpool xp_RX13) [] xt_X13_bar (yP 1 (fun rv hp' => (bQi G [(83076749736557242056487941267521536, 0), (83076749736557242056487941267521536, 10), (83076749736557242056487941267521536, 11), (83076749736557242056487941267521536, 38), (83076749736557242056487941267521536, 40), (83076749736557242056487941267521536, 45), (83076749736557242056487941267521536, 46), (83076749736557242056487941267521536, 47), (11415194288614076142038944770073511595106893824, 256)] hp 0 15 (fun z => 0 ≤ p1 - z + 2147483648 ∧ 0 ≤ p2 - z + 2147483648)) rv hp' ∧ bRg G hp')) 2912 0 [(0, yR 2073), (1, yI (p1)), (2, yI (p2))] [] hp
  have i_156 := H 51
  refine yG.load xak rfl (fun _ _ => rfl) (v := yR 2073) rfl rfl ?_
  refine yG.load xik rfl (fun _ _ => rfl) (v := yI (p1)) rfl rfl ?_
  refine yG.i2l rfl ⟨by omega, by omega⟩ ?_
  refine yG.numl (c := 0) rfl (fun _ _ => rfl) (by decide) ?_
  refine yG.load xak rfl (fun _ _ => rfl) (v := yR 2073) rfl rfl ?_
  refine yG.getO A_hp.1 (w_M_count W H_2073) rfl rfl (fun r1 H_r1 O_r1 q_r1 => ?_)
  obtain rfl := u_M_count W H_r1
  refine yG.num (c := 0) rfl (fun _ _ => rfl) (by decide) ?_
  refine yG.ialdF A_hp.1 (v_M_count W H_r1) rfl rfl (by omega) (by omega) (fun z2 e_z2 i_z2 l_z2 u_z2 => ?_)
  refine yG.num (c := 1) rfl (fun _ _ => rfl) (by decide) ?_
  refine yG.isub rfl ?_
  refine yG.i2l rfl ⟨by omega, by omega⟩ ?_
  refine yG.invS (rest := [yR 2073]) rfl rfl rfl rfl (c_GModel_in W (d + 7) A_hp.1 (p1) (0) (z2 - 1) (by omega) (by omega) (by omega) (by omega) (by omega) (by omega)) (fun rv hp9 q9 => ?_)
  obtain ⟨⟨z3, rfl, l_z3, u_z3, R_z3⟩, e9⟩ := q9
  rw [e9]
  show yG _ _ _ _ _ _ _ _ _ _ (yI z3 :: [yR 2073]) _
  refine yG.ifz rfl (t := 23) rfl ⟨by omega, by omega⟩ (fun c4 => ?_) (fun c4 => ?_)
  · have c4 : (z3 : Int) ≠ 0 := c4
    replace R_z3 := R_z3 (by omega)
    refine yG.load xik rfl (fun _ _ => rfl) (v := yI (p2)) rfl rfl ?_
    refine yG.i2l rfl ⟨by omega, by omega⟩ ?_
    refine yG.numl (c := 0) rfl (fun _ _ => rfl) (by decide) ?_
    refine yG.numl (c := 4) rfl (fun _ _ => rfl) (by decide) ?_
    refine yG.invS (rest := [yR 2073]) rfl rfl rfl rfl (c_GModel_in W (d + 7) A_hp.1 (p2) (0) (4) (by omega) (by omega) (by omega) (by omega) (by omega) (by omega)) (fun rv hp9 q9 => ?_)
    obtain ⟨⟨z5, rfl, l_z5, u_z5, R_z5⟩, e9⟩ := q9
    rw [e9]
    show yG _ _ _ _ _ _ _ _ _ _ (yI z5 :: [yR 2073]) _
    refine yG.ifz rfl (t := 39) rfl ⟨by omega, by omega⟩ (fun c6 => ?_) (fun c6 => ?_)
    · have c6 : (z5 : Int) ≠ 0 := c6
      replace R_z5 := R_z5 (by omega)
      refine yG.num (c := 0) rfl (fun _ _ => rfl) (by decide) ?_
      refine yG.putI A_hp.1 (w_M_thrown W H_2073) (W.2.1 _ _ H_2073 (by decide) (by decide)) rfl rfl (.inl rfl) ⟨by omega, by omega⟩ (by omega) (by omega) (fun h7 T_h7 b_h7 f_h7 y_h7 => ?_)
      have M_bRg_h7 := M_bRg_hp.fr (bAx.put (Wl := [(83076749736557242056487941267521536, 0)]) (bAx.rf A_hp.1) T_h7 b_h7 f_h7 H_2073 (by decide)) (by decide)
      have A_h7 := A_hp.put T_h7 b_h7 f_h7 H_2073 (by decide)
      have : ys h7 2073 0 = 0 := (y_h7 2073 0).trans (if_pos ⟨rfl, rfl⟩)
      refine yG.load xak rfl (fun _ _ => rfl) (v := yR 2073) rfl rfl ?_
      refine yG.getI A_h7.1 (w_M_thrown W H_2073) rfl rfl (fun z8 e_z8 i_z8 l_z8 u_z8 => ?_)
      refine yG.ifz rfl (t := 52) rfl ⟨by omega, by omega⟩ (fun c9 => ?_) (fun c9 => ?_)
      · have c9 : (z8 : Int) ≤ 0 := c9
        refine yG.load xik rfl (fun _ _ => rfl) (v := yI (p2)) rfl rfl ?_
        refine yG.num (c := 3) rfl (fun _ _ => rfl) (by decide) ?_
        refine yG.icmp rfl (t := 81) rfl ⟨by omega, by omega⟩ ⟨by omega, by omega⟩ (fun c10 => ?_) (fun c10 => ?_)
        · have c10 : (p2 : Int) ≠ 3 := c10
          refine yG.load xak rfl (fun _ _ => rfl) (v := yR 2073) rfl rfl ?_
          refine yG.invV (rest := []) A_h7.1 (bOb (d_M W) H_2073) rfl rfl rfl rfl (c_GModel_netTopology W (d + 4) A_h7.1 H_2073) (fun rv h11 q9 => ?_)
          obtain ⟨⟨rfl, R_z12⟩, B_h11⟩ := q9
          have A_h11 := A_h7.tr B_h11 (by decide)
          have M_bRg_h11 := M_bRg_h7.fr B_h11 (by decide)
          have : ys h11 2073 0 = ys h7 2073 0 := B_h11.ys H_2073 (by decide)
          show yG _ _ _ _ _ _ _ _ _ _ [] _
          refine yG.load xik rfl (fun _ _ => rfl) (v := yI (p2)) rfl rfl ?_
          refine yG.num (c := 2) rfl (fun _ _ => rfl) (by decide) ?_
          refine yG.icmp rfl (t := 110) rfl ⟨by omega, by omega⟩ ⟨by omega, by omega⟩ (fun c13 => ?_) (fun c13 => ?_)
          · have c13 : (p2 : Int) ≥ 2 := c13
            refine yG.load xik rfl (fun _ _ => rfl) (v := yI (p2)) rfl rfl ?_
            refine yG.num (c := 2) rfl (fun _ _ => rfl) (by decide) ?_
            refine yG.icmp rfl (t := 129) rfl ⟨by omega, by omega⟩ ⟨by omega, by omega⟩ (fun c14 => ?_) (fun c14 => ?_)
            · have c14 : (p2 : Int) = 2 := c14
              refine yG.load xak rfl (fun _ _ => rfl) (v := yR 2073) rfl rfl ?_
              refine yG.getO A_h11.1 (w_M_isLive W H_2073) rfl rfl (fun r15 H_r15 O_r15 q_r15 => ?_)
              obtain rfl := u_M_isLive W H_r15
              refine yG.load xak rfl (fun _ _ => rfl) (v := yR 2073) rfl rfl ?_
              refine yG.getO A_h11.1 (w_M_island W H_2073) rfl rfl (fun r16 H_r16 O_r16 q_r16 => ?_)
              obtain rfl := u_M_island W H_r16
              refine yG.load xik rfl (fun _ _ => rfl) (v := yI (p1)) rfl rfl ?_
              refine yG.ialdF A_h11.1 (v_M_island W H_r16) rfl rfl (by omega) (by omega) (fun z17 e_z17 i_z17 l_z17 u_z17 => ?_)
              refine yG.bald A_h11.1 (v_M_isLive W H_r15) rfl (by omega) (by omega) (fun z18 e_z18 i_z18 l_z18 u_z18 => ?_)
              refine yG.ifz rfl (t := 147) rfl ⟨by omega, by omega⟩ (fun c19 => ?_) (fun c19 => ?_)
              · have c19 : (z18 : Int) = 0 := c19
                refine yG.num (c := 0) rfl (fun _ _ => rfl) (by decide) ?_
                refine yG.ret rfl (fun _ _ => rfl) ?_
                exact (yP.int ⟨by omega, by omega⟩ ⟨⟨⟨0, rfl, by omega, by omega, by omega⟩, A_h11⟩, M_bRg_h11⟩)
              · have c19 : (z18 : Int) ≠ 0 := c19
                refine yG.num (c := 1) rfl (fun _ _ => rfl) (by decide) ?_
                refine yG.goto rfl (t := 148) rfl ?_
                refine yG.ret rfl (fun _ _ => rfl) ?_
                exact (yP.int ⟨by omega, by omega⟩ ⟨⟨⟨1, rfl, by omega, by omega, by omega⟩, A_h11⟩, M_bRg_h11⟩)
            · have c14 : (p2 : Int) ≠ 2 := c14
              refine yG.load xak rfl (fun _ _ => rfl) (v := yR 2073) rfl rfl ?_
              refine yG.getO A_h11.1 (w_M_isLive W H_2073) rfl rfl (fun r20 H_r20 O_r20 q_r20 => ?_)
              obtain rfl := u_M_isLive W H_r20
              refine yG.load xak rfl (fun _ _ => rfl) (v := yR 2073) rfl rfl ?_
              refine yG.getO A_h11.1 (w_M_island W H_2073) rfl rfl (fun r21 H_r21 O_r21 q_r21 => ?_)
              obtain rfl := u_M_island W H_r21
              refine yG.load xik rfl (fun _ _ => rfl) (v := yI (p1)) rfl rfl ?_
              refine yG.ialdF A_h11.1 (v_M_island W H_r21) rfl rfl (by omega) (by omega) (fun z22 e_z22 i_z22 l_z22 u_z22 => ?_)
              refine yG.bald A_h11.1 (v_M_isLive W H_r20) rfl (by omega) (by omega) (fun z23 e_z23 i_z23 l_z23 u_z23 => ?_)
              refine yG.ifz rfl (t := 149) rfl ⟨by omega, by omega⟩ (fun c24 => ?_) (fun c24 => ?_)
              · have c24 : (z23 : Int) = 0 := c24
                refine yG.load xak rfl (fun _ _ => rfl) (v := yR 2073) rfl rfl ?_
                refine yG.num (c := 0) rfl (fun _ _ => rfl) (by decide) ?_
                refine yG.putI A_h11.1 (w_M_hasFlows W H_2073) (W.2.1 _ _ H_2073 (by decide) (by decide)) rfl rfl (.inr ⟨rfl, rfl, rfl⟩) ⟨by omega, by omega⟩ (by omega) (by omega) (fun h25 T_h25 b_h25 f_h25 y_h25 => ?_)
                have M_bRg_h25 := M_bRg_h11.fr (bAx.put (Wl := [(83076749736557242056487941267521536, 40)]) (bAx.rf A_h11.1) T_h25 b_h25 f_h25 H_2073 (by decide)) (by decide)
                have A_h25 := A_h11.put T_h25 b_h25 f_h25 H_2073 (by decide)
                have : ys h25 2073 0 = ys h11 2073 0 := (y_h25 2073 0).trans (if_neg (fun e => absurd e.2 (by decide)))
                have qq1 : zsl h25 2073 36 = yR 2102 := ((f_h25 2073 36).trans (if_neg (fun e => absurd e.2 (by decide)))).trans q_r20
                have qq2 : zsl h25 2073 35 = yR 2101 := ((f_h25 2073 35).trans (if_neg (fun e => absurd e.2 (by decide)))).trans q_r21
                have : ys h25 2101 (p1 : Int).toNat = ys h11 2101 (p1 : Int).toNat := (y_h25 2101 (p1 : Int).toNat).trans (if_neg (fun e => (bRo.ne H_r21 H_2073 (by decide)) e.1))
                have : ys h25 2102 (z22 : Int).toNat = ys h11 2102 (z22 : Int).toNat := (y_h25 2102 (z22 : Int).toNat).trans (if_neg (fun e => (bRo.ne H_r20 H_2073 (by decide)) e.1))
                refine yG.num (c := 0) rfl (fun _ _ => rfl) (by decide) ?_
                refine yG.store1 xik (L' := [(3, yI (0)), (0, yR 2073), (1, yI (p1)), (2, yI (p2))]) rfl (fun _ _ => rfl) rfl rfl ?_
                exact yG.mono (yG.sub (i_156 (0)  h25 A_h25 M_bRg_h25   (by omega) (by omega) (by omega) (by omega) (by omega) (by omega) (by omega)) (ySub.cons rfl (ySub.cons rfl (ySub.cons rfl (ySub.nil))))) (by omega)
              · have c24 : (z23 : Int) ≠ 0 := c24
                refine yG.load xak rfl (fun _ _ => rfl) (v := yR 2073) rfl rfl ?_
                refine yG.getS9 A_h11.1 (w_M_isLive W H_2073) q_r20 rfl rfl ?_
                refine yG.load xak rfl (fun _ _ => rfl) (v := yR 2073) rfl rfl ?_
                refine yG.getS9 A_h11.1 (w_M_island W H_2073) q_r21 rfl rfl ?_
                refine yG.load xik rfl (fun _ _ => rfl) (v := yI (p1)) rfl rfl ?_
                refine yG.ialdF A_h11.1 (v_M_island W H_r21) rfl rfl (by omega) (by omega) (fun z26 e_z26 i_z26 l_z26 u_z26 => ?_)
                rw [show (z26 : Int) = z22 by omega]
                refine yG.bald A_h11.1 (v_M_isLive W H_r20) rfl (by omega) (by omega) (fun z27 e_z27 i_z27 l_z27 u_z27 => ?_)
                rw [show (z27 : Int) = z23 by omega]
                refine yG.ifz rfl (t := 147) rfl ⟨by omega, by omega⟩ (fun c28 => ?_) (fun c28 => ?_)
                · have c28 : (z23 : Int) = 0 := c28
                  exfalso; omega
                · have c28 : (z23 : Int) ≠ 0 := c28
                  refine yG.num (c := 1) rfl (fun _ _ => rfl) (by decide) ?_
                  refine yG.goto rfl (t := 148) rfl ?_
                  refine yG.ret rfl (fun _ _ => rfl) ?_
                  exact (yP.int ⟨by omega, by omega⟩ ⟨⟨⟨1, rfl, by omega, by omega, by omega⟩, A_h11⟩, M_bRg_h11⟩)
          · have c13 : (p2 : Int) < 2 := c13
            refine yG.load xik rfl (fun _ _ => rfl) (v := yI (p2)) rfl rfl ?_
            refine yG.ifz rfl (t := 103) rfl ⟨by omega, by omega⟩ (fun c29 => ?_) (fun c29 => ?_)
            · have c29 : (p2 : Int) ≠ 0 := c29
              refine yG.load xak rfl (fun _ _ => rfl) (v := yR 2073) rfl rfl ?_
              refine yG.getO A_h11.1 (w_M_island W H_2073) rfl rfl (fun r30 H_r30 O_r30 q_r30 => ?_)
              obtain rfl := u_M_island W H_r30
              refine yG.load xik rfl (fun _ _ => rfl) (v := yI (p1)) rfl rfl ?_
              refine yG.ialdF A_h11.1 (v_M_island W H_r30) rfl rfl (by omega) (by omega) (fun z31 e_z31 i_z31 l_z31 u_z31 => ?_)
              refine yG.ret rfl (fun _ _ => rfl) ?_
              exact (yP.int ⟨by omega, by omega⟩ ⟨⟨⟨z31, rfl, by omega, by omega, by omega⟩, A_h11⟩, M_bRg_h11⟩)
            · have c29 : (p2 : Int) = 0 := c29
              refine yG.load xak rfl (fun _ _ => rfl) (v := yR 2073) rfl rfl ?_
              refine yG.getO A_h11.1 (w_M_node W H_2073) rfl rfl (fun r32 H_r32 O_r32 q_r32 => ?_)
              obtain rfl := u_M_node W H_r32
              refine yG.load xik rfl (fun _ _ => rfl) (v := yI (p1)) rfl rfl ?_
              refine yG.ialdF A_h11.1 (v_M_node W H_r32) rfl rfl (by omega) (by omega) (fun z33 e_z33 i_z33 l_z33 u_z33 => ?_)
              refine yG.goto rfl (t := 109) rfl ?_
              refine yG.ret rfl (fun _ _ => rfl) ?_
              exact (yP.int ⟨by omega, by omega⟩ ⟨⟨⟨z33, rfl, by omega, by omega, by omega⟩, A_h11⟩, M_bRg_h11⟩)
        · have c10 : (p2 : Int) = 3 := c10
          refine yG.load xak rfl (fun _ _ => rfl) (v := yR 2073) rfl rfl ?_
          refine yG.invV (rest := []) A_h7.1 (bOb (d_M W) H_2073) rfl rfl rfl rfl (c_GModel_netFlows W d A_h7.1 M_bRg_h7 (M_bWf.fr A_h7 (by decide)) (M_bPr.fr A_h7 (by decide)) H_2073) (fun rv h34 q9 => ?_)
          obtain ⟨q9, M_bRg_h34⟩ := q9
          obtain ⟨⟨rfl, R_z35⟩, B_h34⟩ := q9
          have A_h34 := A_h7.tr B_h34 (by decide)
          have : ys h34 2073 0 = ys h7 2073 0 := B_h34.ys H_2073 (by decide)
          show yG _ _ _ _ _ _ _ _ _ _ [] _
          refine yG.load xak rfl (fun _ _ => rfl) (v := yR 2073) rfl rfl ?_
          refine yG.getO A_h34.1 (w_M_isStuck W H_2073) rfl rfl (fun r36 H_r36 O_r36 q_r36 => ?_)
          obtain rfl := u_M_isStuck W H_r36
          refine yG.load xak rfl (fun _ _ => rfl) (v := yR 2073) rfl rfl ?_
          refine yG.getO A_h34.1 (w_M_island W H_2073) rfl rfl (fun r37 H_r37 O_r37 q_r37 => ?_)
          obtain rfl := u_M_island W H_r37
          refine yG.load xik rfl (fun _ _ => rfl) (v := yI (p1)) rfl rfl ?_
          refine yG.ialdF A_h34.1 (v_M_island W H_r37) rfl rfl (by omega) (by omega) (fun z38 e_z38 i_z38 l_z38 u_z38 => ?_)
          refine yG.bald A_h34.1 (v_M_isStuck W H_r36) rfl (by omega) (by omega) (fun z39 e_z39 i_z39 l_z39 u_z39 => ?_)
          refine yG.ifz rfl (t := 79) rfl ⟨by omega, by omega⟩ (fun c40 => ?_) (fun c40 => ?_)
          · have c40 : (z39 : Int) = 0 := c40
            refine yG.num (c := 0) rfl (fun _ _ => rfl) (by decide) ?_
            refine yG.ret rfl (fun _ _ => rfl) ?_
            exact (yP.int ⟨by omega, by omega⟩ ⟨⟨⟨0, rfl, by omega, by omega, by omega⟩, A_h34⟩, M_bRg_h34⟩)
          · have c40 : (z39 : Int) ≠ 0 := c40
            refine yG.num (c := 1) rfl (fun _ _ => rfl) (by decide) ?_
            refine yG.goto rfl (t := 80) rfl ?_
            refine yG.ret rfl (fun _ _ => rfl) ?_
            exact (yP.int ⟨by omega, by omega⟩ ⟨⟨⟨1, rfl, by omega, by omega, by omega⟩, A_h34⟩, M_bRg_h34⟩)
      · have c9 : (z8 : Int) > 0 := c9
        exfalso; omega
    · have c6 : (z5 : Int) = 0 := c6
      clear R_z5
      refine yG.num (c := 2) rfl (fun _ _ => rfl) (by decide) ?_
      refine yG.goto rfl (t := 40) rfl ?_
      refine yG.putI A_hp.1 (w_M_thrown W H_2073) (W.2.1 _ _ H_2073 (by decide) (by decide)) rfl rfl (.inl rfl) ⟨by omega, by omega⟩ (by omega) (by omega) (fun h41 T_h41 b_h41 f_h41 y_h41 => ?_)
      have M_bRg_h41 := M_bRg_hp.fr (bAx.put (Wl := [(83076749736557242056487941267521536, 0)]) (bAx.rf A_hp.1) T_h41 b_h41 f_h41 H_2073 (by decide)) (by decide)
      have A_h41 := A_hp.put T_h41 b_h41 f_h41 H_2073 (by decide)
      have : ys h41 2073 0 = 2 := (y_h41 2073 0).trans (if_pos ⟨rfl, rfl⟩)
      refine yG.load xak rfl (fun _ _ => rfl) (v := yR 2073) rfl rfl ?_
      refine yG.getI A_h41.1 (w_M_thrown W H_2073) rfl rfl (fun z42 e_z42 i_z42 l_z42 u_z42 => ?_)
      refine yG.ifz rfl (t := 52) rfl ⟨by omega, by omega⟩ (fun c43 => ?_) (fun c43 => ?_)
      · have c43 : (z42 : Int) ≤ 0 := c43
        exfalso; omega
      · have c43 : (z42 : Int) > 0 := c43
        refine yG.num (c := 0) rfl (fun _ _ => rfl) (by decide) ?_
        refine yG.ret rfl (fun _ _ => rfl) ?_
        exact (yP.int ⟨by omega, by omega⟩ ⟨⟨⟨0, rfl, by omega, by omega, by omega⟩, A_h41⟩, M_bRg_h41⟩)
  · have c4 : (z3 : Int) = 0 := c4
    clear R_z3
    refine yG.num (c := 1) rfl (fun _ _ => rfl) (by decide) ?_
    refine yG.goto rfl (t := 40) rfl ?_
    refine yG.putI A_hp.1 (w_M_thrown W H_2073) (W.2.1 _ _ H_2073 (by decide) (by decide)) rfl rfl (.inl rfl) ⟨by omega, by omega⟩ (by omega) (by omega) (fun h44 T_h44 b_h44 f_h44 y_h44 => ?_)
    have M_bRg_h44 := M_bRg_hp.fr (bAx.put (Wl := [(83076749736557242056487941267521536, 0)]) (bAx.rf A_hp.1) T_h44 b_h44 f_h44 H_2073 (by decide)) (by decide)
    have A_h44 := A_hp.put T_h44 b_h44 f_h44 H_2073 (by decide)
    have : ys h44 2073 0 = 1 := (y_h44 2073 0).trans (if_pos ⟨rfl, rfl⟩)
    refine yG.load xak rfl (fun _ _ => rfl) (v := yR 2073) rfl rfl ?_
    refine yG.getI A_h44.1 (w_M_thrown W H_2073) rfl rfl (fun z45 e_z45 i_z45 l_z45 u_z45 => ?_)
    refine yG.ifz rfl (t := 52) rfl ⟨by omega, by omega⟩ (fun c46 => ?_) (fun c46 => ?_)
    · have c46 : (z45 : Int) ≤ 0 := c46
      exfalso; omega
    · have c46 : (z45 : Int) > 0 := c46
      refine yG.num (c := 0) rfl (fun _ _ => rfl) (by decide) ?_
      refine yG.ret rfl (fun _ _ => rfl) ?_
      exact (yP.int ⟨by omega, by omega⟩ ⟨⟨⟨0, rfl, by omega, by omega, by omega⟩, A_h44⟩, M_bRg_h44⟩)
theorem c_GModel_count {hp : xH} (W : mW G) (d : Nat) (hT : zTy G hp) (M_bRg : bRg G hp) (M_bWf : bWf G hp) (M_bPr : bPr G hp) (H_2073 : bRo G 116 2073) (p1 : Int) (h1l : (-2147483648) ≤ p1) (h1u : p1 ≤ 2147483647) : yC (xcall 89 xfts xpools xms (d + 9)) 379 [yR 2073, yI (p1)] hp (fun rv hp' => (bQi G [(83076749736557242056487941267521536, 0), (83076749736557242056487941267521536, 10), (83076749736557242056487941267521536, 11), (83076749736557242056487941267521536, 38), (83076749736557242056487941267521536, 40), (83076749736557242056487941267521536, 45), (83076749736557242056487941267521536, 46), (83076749736557242056487941267521536, 47), (11415194288614076142038944770073511595106893824, 256)] hp (-2147483648) 2147483647 (fun z => 0 ≤ 0 - p1 + z + 2147483663 ∧ 0 ≤ p1 - z + 2147483648)) rv hp' ∧ bRg G hp') := by
  have A_hp : bAx G [(83076749736557242056487941267521536, 0), (83076749736557242056487941267521536, 10), (83076749736557242056487941267521536, 11), (83076749736557242056487941267521536, 38), (83076749736557242056487941267521536, 40), (83076749736557242056487941267521536, 45), (83076749736557242056487941267521536, 46), (83076749736557242056487941267521536, 47), (11415194288614076142038944770073511595106893824, 256)] hp hp := bAx.rf hT
  have M_bRg_hp := M_bRg
  have H : ∀ m : Nat, (∀ a2 : Int, ∀ a3 : Int, ∀ hq, bAx G [(83076749736557242056487941267521536, 0), (83076749736557242056487941267521536, 10), (83076749736557242056487941267521536, 11), (83076749736557242056487941267521536, 38), (83076749736557242056487941267521536, 40), (83076749736557242056487941267521536, 45), (83076749736557242056487941267521536, 46), (83076749736557242056487941267521536, 47), (11415194288614076142038944770073511595106893824, 256)] hp hq → bRg G hq → 0 ≤ a2 → (-16) ≤ 0 - a2 → 0 ≤ a3 → (-16) ≤ 0 - a3 → 10 ≤ p1 → (-15) ≤ 0 - p1 → 0 ≤ 0 - a2 + a3 → 0 - 3 * a3 + 50 < (m : Int) → yG 89 xfts (xcall 89 xfts xpools xms (d + 8)) (xpool xp_RX13) [] xt_X13_count (yP 1 (fun rv hp' => (bQi G [(83076749736557242056487941267521536, 0), (83076749736557242056487941267521536, 10), (83076749736557242056487941267521536, 11), (83076749736557242056487941267521536, 38), (83076749736557242056487941267521536, 40), (83076749736557242056487941267521536, 45), (83076749736557242056487941267521536, 46), (83076749736557242056487941267521536, 47), (11415194288614076142038944770073511595106893824, 256)] hp (-2147483648) 2147483647 (fun z => 0 ≤ 0 - p1 + z + 2147483663 ∧ 0 ≤ p1 - z + 2147483648)) rv hp' ∧ bRg G hp')) (37 * m) 127 [(0, yR 2073), (1, yI (p1)), (2, yI (a2)), (3, yI (a3))] [] hq) ∧ (∀ a2 : Int, ∀ hq, bAx G [(83076749736557242056487941267521536, 0), (83076749736557242056487941267521536, 10), (83076749736557242056487941267521536, 11), (83076749736557242056487941267521536, 38), (83076749736557242056487941267521536, 40), (83076749736557242056487941267521536, 45), (83076749736557242056487941267521536, 46), (83076749736557242056487941267521536, 47), (11415194288614076142038944770073511595106893824, 256)] hp hq → bRg G hq → 0 ≤ a2 → (-16) ≤ 0 - a2 → 10 ≤ p1 → (-15) ≤ 0 - p1 → 1 < (m : Int) → yG 89 xfts (xcall 89 xfts xpools xms (d + 8)) (xpool xp_RX13) [] xt_X13_count (yP 1 (fun rv hp' => (bQi G [(83076749736557242056487941267521536, 0), (83076749736557242056487941267521536, 10), (83076749736557242056487941267521536, 11), (83076749736557242056487941267521536, 38), (83076749736557242056487941267521536, 40), (83076749736557242056487941267521536, 45), (83076749736557242056487941267521536, 46), (83076749736557242056487941267521536, 47), (11415194288614076142038944770073511595106893824, 256)] hp (-2147483648) 2147483647 (fun z => 0 ≤ 0 - p1 + z + 2147483663 ∧ 0 ≤ p1 - z + 2147483648)) rv hp' ∧ bRg G hp')) (37 * m) 206 [(0, yR 2073), (1, yI (p1)), (2, yI (a2))] [] hq) := by
    intro m
    induction m with
    | zero =>
      refine ⟨?_, ?_⟩ <;> (intros; exfalso; omega)
    | succ m ih =>
      obtain ⟨i_127, i_206⟩ := ih
      refine ⟨?_, ?_⟩
      · intro a2 a3 hq A_hq M_bRg_hq f0 f1 f2 f3 f4 f5 f6 hm
        refine yG.mono (N := 37 * m + 37) ?_ (by omega)
        refine yG.load xik rfl (fun _ _ => rfl) (v := yI (a3)) rfl rfl ?_
        refine yG.load xak rfl (fun _ _ => rfl) (v := yR 2073) rfl rfl ?_
        refine yG.getO A_hq.1 (w_M_count W H_2073) rfl rfl (fun r1 H_r1 O_r1 q_r1 => ?_)
        obtain rfl := u_M_count W H_r1
        refine yG.num (c := 0) rfl (fun _ _ => rfl) (by decide) ?_
        refine yG.ialdF A_hq.1 (v_M_count W H_r1) rfl rfl (by omega) (by omega) (fun z2 e_z2 i_z2 l_z2 u_z2 => ?_)
        refine yG.icmp rfl (t := 206) rfl ⟨by omega, by omega⟩ ⟨by omega, by omega⟩ (fun c3 => ?_) (fun c3 => ?_)
        · have c3 : (a3 : Int) ≥ z2 := c3
          exact yG.mono (yG.sub (i_206 (a2)  hq A_hq M_bRg_hq   (by omega) (by omega) (by omega) (by omega) (by omega)) (ySub.cons rfl (ySub.cons rfl (ySub.cons rfl (ySub.nil))))) (by omega)
        · have c3 : (a3 : Int) < z2 := c3
          refine yG.load xik rfl (fun _ _ => rfl) (v := yI (p1)) rfl rfl ?_
          refine yG.num (c := 13) rfl (fun _ _ => rfl) (by decide) ?_
          refine yG.icmp rfl (t := 206) rfl ⟨by omega, by omega⟩ ⟨by omega, by omega⟩ (fun c4 => ?_) (fun c4 => ?_)
          · have c4 : (p1 : Int) ≥ 13 := c4
            exact yG.mono (yG.sub (i_206 (a2)  hq A_hq M_bRg_hq   (by omega) (by omega) (by omega) (by omega) (by omega)) (ySub.cons rfl (ySub.cons rfl (ySub.cons rfl (ySub.nil))))) (by omega)
          · have c4 : (p1 : Int) < 13 := c4
            refine yG.load xik rfl (fun _ _ => rfl) (v := yI (a2)) rfl rfl ?_
            refine yG.load xik rfl (fun _ _ => rfl) (v := yI (p1)) rfl rfl ?_
            refine yG.num (c := 10) rfl (fun _ _ => rfl) (by decide) ?_
            refine yG.icmp rfl (t := 168) rfl ⟨by omega, by omega⟩ ⟨by omega, by omega⟩ (fun c5 => ?_) (fun c5 => ?_)
            · have c5 : (p1 : Int) ≠ 10 := c5
              refine yG.load xak rfl (fun _ _ => rfl) (v := yR 2073) rfl rfl ?_
              refine yG.getO A_hq.1 (w_M_island W H_2073) rfl rfl (fun r6 H_r6 O_r6 q_r6 => ?_)
              obtain rfl := u_M_island W H_r6
              refine yG.load xik rfl (fun _ _ => rfl) (v := yI (a3)) rfl rfl ?_
              refine yG.ialdF A_hq.1 (v_M_island W H_r6) rfl rfl (by omega) (by omega) (fun z7 e_z7 i_z7 l_z7 u_z7 => ?_)
              refine yG.load xik rfl (fun _ _ => rfl) (v := yI (a3)) rfl rfl ?_
              refine yG.icmp rfl (t := 197) rfl ⟨by omega, by omega⟩ ⟨by omega, by omega⟩ (fun c8 => ?_) (fun c8 => ?_)
              · have c8 : (z7 : Int) ≠ a3 := c8
                refine yG.num (c := 0) rfl (fun _ _ => rfl) (by decide) ?_
                refine yG.iadd rfl ?_
                obtain ⟨z9, e_z9⟩ : ∃ z : Int, z = a2 + 0 := ⟨_, rfl⟩
                rw [← e_z9]
                refine yG.store1 xik (L' := [(2, yI (z9)), (0, yR 2073), (1, yI (p1)), (3, yI (a3))]) rfl (fun _ _ => rfl) rfl rfl ?_
                refine yG.iinc rfl (a := a3) rfl (L' := [(3, yI (a3 + 1)), (2, yI (z9)), (0, yR 2073), (1, yI (p1))]) rfl ?_
                refine yG.goto rfl (t := 127) rfl ?_
                exact yG.mono (yG.sub (i_127 (z9) (a3 + 1)  hq A_hq M_bRg_hq   (by omega) (by omega) (by omega) (by omega) (by omega) (by omega) (by omega) (by omega)) (ySub.cons rfl (ySub.cons rfl (ySub.cons rfl (ySub.cons rfl (ySub.nil)))))) (by omega)
              · have c8 : (z7 : Int) = a3 := c8
                refine yG.load xik rfl (fun _ _ => rfl) (v := yI (p1)) rfl rfl ?_
                refine yG.num (c := 11) rfl (fun _ _ => rfl) (by decide) ?_
                refine yG.icmp rfl (t := 193) rfl ⟨by omega, by omega⟩ ⟨by omega, by omega⟩ (fun c10 => ?_) (fun c10 => ?_)
                · have c10 : (p1 : Int) = 11 := c10
                  refine yG.num (c := 1) rfl (fun _ _ => rfl) (by decide) ?_
                  refine yG.goto rfl (t := 198) rfl ?_
                  refine yG.iadd rfl ?_
                  obtain ⟨z11, e_z11⟩ : ∃ z : Int, z = a2 + 1 := ⟨_, rfl⟩
                  rw [← e_z11]
                  refine yG.store1 xik (L' := [(2, yI (z11)), (0, yR 2073), (1, yI (p1)), (3, yI (a3))]) rfl (fun _ _ => rfl) rfl rfl ?_
                  refine yG.iinc rfl (a := a3) rfl (L' := [(3, yI (a3 + 1)), (2, yI (z11)), (0, yR 2073), (1, yI (p1))]) rfl ?_
                  refine yG.goto rfl (t := 127) rfl ?_
                  exact yG.mono (yG.sub (i_127 (z11) (a3 + 1)  hq A_hq M_bRg_hq   (by omega) (by omega) (by omega) (by omega) (by omega) (by omega) (by omega) (by omega)) (ySub.cons rfl (ySub.cons rfl (ySub.cons rfl (ySub.cons rfl (ySub.nil)))))) (by omega)
                · have c10 : (p1 : Int) ≠ 11 := c10
                  refine yG.load xak rfl (fun _ _ => rfl) (v := yR 2073) rfl rfl ?_
                  refine yG.getO A_hq.1 (w_M_isLive W H_2073) rfl rfl (fun r12 H_r12 O_r12 q_r12 => ?_)
                  obtain rfl := u_M_isLive W H_r12
                  refine yG.load xik rfl (fun _ _ => rfl) (v := yI (a3)) rfl rfl ?_
                  refine yG.bald A_hq.1 (v_M_isLive W H_r12) rfl (by omega) (by omega) (fun z13 e_z13 i_z13 l_z13 u_z13 => ?_)
                  refine yG.ifz rfl (t := 197) rfl ⟨by omega, by omega⟩ (fun c14 => ?_) (fun c14 => ?_)
                  · have c14 : (z13 : Int) = 0 := c14
                    refine yG.num (c := 0) rfl (fun _ _ => rfl) (by decide) ?_
                    refine yG.iadd rfl ?_
                    obtain ⟨z15, e_z15⟩ : ∃ z : Int, z = a2 + 0 := ⟨_, rfl⟩
                    rw [← e_z15]
                    refine yG.store1 xik (L' := [(2, yI (z15)), (0, yR 2073), (1, yI (p1)), (3, yI (a3))]) rfl (fun _ _ => rfl) rfl rfl ?_
                    refine yG.iinc rfl (a := a3) rfl (L' := [(3, yI (a3 + 1)), (2, yI (z15)), (0, yR 2073), (1, yI (p1))]) rfl ?_
                    refine yG.goto rfl (t := 127) rfl ?_
                    exact yG.mono (yG.sub (i_127 (z15) (a3 + 1)  hq A_hq M_bRg_hq   (by omega) (by omega) (by omega) (by omega) (by omega) (by omega) (by omega) (by omega)) (ySub.cons rfl (ySub.cons rfl (ySub.cons rfl (ySub.cons rfl (ySub.nil)))))) (by omega)
                  · have c14 : (z13 : Int) ≠ 0 := c14
                    refine yG.num (c := 1) rfl (fun _ _ => rfl) (by decide) ?_
                    refine yG.goto rfl (t := 198) rfl ?_
                    refine yG.iadd rfl ?_
                    obtain ⟨z16, e_z16⟩ : ∃ z : Int, z = a2 + 1 := ⟨_, rfl⟩
                    rw [← e_z16]
                    refine yG.store1 xik (L' := [(2, yI (z16)), (0, yR 2073), (1, yI (p1)), (3, yI (a3))]) rfl (fun _ _ => rfl) rfl rfl ?_
                    refine yG.iinc rfl (a := a3) rfl (L' := [(3, yI (a3 + 1)), (2, yI (z16)), (0, yR 2073), (1, yI (p1))]) rfl ?_
                    refine yG.goto rfl (t := 127) rfl ?_
                    exact yG.mono (yG.sub (i_127 (z16) (a3 + 1)  hq A_hq M_bRg_hq   (by omega) (by omega) (by omega) (by omega) (by omega) (by omega) (by omega) (by omega)) (ySub.cons rfl (ySub.cons rfl (ySub.cons rfl (ySub.cons rfl (ySub.nil)))))) (by omega)
            · have c5 : (p1 : Int) = 10 := c5
              refine yG.load xak rfl (fun _ _ => rfl) (v := yR 2073) rfl rfl ?_
              refine yG.getO A_hq.1 (w_M_node W H_2073) rfl rfl (fun r17 H_r17 O_r17 q_r17 => ?_)
              obtain rfl := u_M_node W H_r17
              refine yG.load xik rfl (fun _ _ => rfl) (v := yI (a3)) rfl rfl ?_
              refine yG.ialdF A_hq.1 (v_M_node W H_r17) rfl rfl (by omega) (by omega) (fun z18 e_z18 i_z18 l_z18 u_z18 => ?_)
              refine yG.load xik rfl (fun _ _ => rfl) (v := yI (a3)) rfl rfl ?_
              refine yG.icmp rfl (t := 164) rfl ⟨by omega, by omega⟩ ⟨by omega, by omega⟩ (fun c19 => ?_) (fun c19 => ?_)
              · have c19 : (z18 : Int) ≠ a3 := c19
                refine yG.num (c := 0) rfl (fun _ _ => rfl) (by decide) ?_
                refine yG.goto rfl (t := 198) rfl ?_
                refine yG.iadd rfl ?_
                obtain ⟨z20, e_z20⟩ : ∃ z : Int, z = a2 + 0 := ⟨_, rfl⟩
                rw [← e_z20]
                refine yG.store1 xik (L' := [(2, yI (z20)), (0, yR 2073), (1, yI (p1)), (3, yI (a3))]) rfl (fun _ _ => rfl) rfl rfl ?_
                refine yG.iinc rfl (a := a3) rfl (L' := [(3, yI (a3 + 1)), (2, yI (z20)), (0, yR 2073), (1, yI (p1))]) rfl ?_
                refine yG.goto rfl (t := 127) rfl ?_
                exact yG.mono (yG.sub (i_127 (z20) (a3 + 1)  hq A_hq M_bRg_hq   (by omega) (by omega) (by omega) (by omega) (by omega) (by omega) (by omega) (by omega)) (ySub.cons rfl (ySub.cons rfl (ySub.cons rfl (ySub.cons rfl (ySub.nil)))))) (by omega)
              · have c19 : (z18 : Int) = a3 := c19
                refine yG.num (c := 1) rfl (fun _ _ => rfl) (by decide) ?_
                refine yG.goto rfl (t := 198) rfl ?_
                refine yG.iadd rfl ?_
                obtain ⟨z21, e_z21⟩ : ∃ z : Int, z = a2 + 1 := ⟨_, rfl⟩
                rw [← e_z21]
                refine yG.store1 xik (L' := [(2, yI (z21)), (0, yR 2073), (1, yI (p1)), (3, yI (a3))]) rfl (fun _ _ => rfl) rfl rfl ?_
                refine yG.iinc rfl (a := a3) rfl (L' := [(3, yI (a3 + 1)), (2, yI (z21)), (0, yR 2073), (1, yI (p1))]) rfl ?_
                refine yG.goto rfl (t := 127) rfl ?_
                exact yG.mono (yG.sub (i_127 (z21) (a3 + 1)  hq A_hq M_bRg_hq   (by omega) (by omega) (by omega) (by omega) (by omega) (by omega) (by omega) (by omega)) (ySub.cons rfl (ySub.cons rfl (ySub.cons rfl (ySub.cons rfl (ySub.nil)))))) (by omega)
      · intro a2 hq A_hq M_bRg_hq f0 f1 f2 f3 hm
        refine yG.mono (N := 37 * m + 37) ?_ (by omega)
        refine yG.load xik rfl (fun _ _ => rfl) (v := yI (p1)) rfl rfl ?_
        refine yG.num (c := 13) rfl (fun _ _ => rfl) (by decide) ?_
        refine yG.icmp rfl (t := 216) rfl ⟨by omega, by omega⟩ ⟨by omega, by omega⟩ (fun c1 => ?_) (fun c1 => ?_)
        · have c1 : (p1 : Int) ≥ 13 := c1
          refine yG.load xik rfl (fun _ _ => rfl) (v := yI (p1)) rfl rfl ?_
          refine yG.num (c := 13) rfl (fun _ _ => rfl) (by decide) ?_
          refine yG.icmp rfl (t := 229) rfl ⟨by omega, by omega⟩ ⟨by omega, by omega⟩ (fun c2 => ?_) (fun c2 => ?_)
          · have c2 : (p1 : Int) ≠ 13 := c2
            refine yG.load xik rfl (fun _ _ => rfl) (v := yI (p1)) rfl rfl ?_
            refine yG.num (c := 14) rfl (fun _ _ => rfl) (by decide) ?_
            refine yG.icmp rfl (t := 242) rfl ⟨by omega, by omega⟩ ⟨by omega, by omega⟩ (fun c3 => ?_) (fun c3 => ?_)
            · have c3 : (p1 : Int) ≠ 14 := c3
              refine yG.load xak rfl (fun _ _ => rfl) (v := yR 2073) rfl rfl ?_
              refine yG.getI A_hq.1 (w_M_lost W H_2073) rfl rfl (fun z4 e_z4 i_z4 l_z4 u_z4 => ?_)
              refine yG.ret rfl (fun _ _ => rfl) ?_
              exact (yP.int ⟨by omega, by omega⟩ ⟨⟨⟨z4, rfl, by omega, by omega, by omega⟩, A_hq⟩, M_bRg_hq⟩)
            · have c3 : (p1 : Int) = 14 := c3
              refine yG.load xak rfl (fun _ _ => rfl) (v := yR 2073) rfl rfl ?_
              refine yG.getI A_hq.1 (w_M_overCount W H_2073) rfl rfl (fun z5 e_z5 i_z5 l_z5 u_z5 => ?_)
              refine yG.goto rfl (t := 246) rfl ?_
              refine yG.ret rfl (fun _ _ => rfl) ?_
              exact (yP.int ⟨by omega, by omega⟩ ⟨⟨⟨z5, rfl, by omega, by omega, by omega⟩, A_hq⟩, M_bRg_hq⟩)
          · have c2 : (p1 : Int) = 13 := c2
            refine yG.load xak rfl (fun _ _ => rfl) (v := yR 2073) rfl rfl ?_
            refine yG.getI A_hq.1 (w_M_stuckCount W H_2073) rfl rfl (fun z6 e_z6 i_z6 l_z6 u_z6 => ?_)
            refine yG.goto rfl (t := 246) rfl ?_
            refine yG.ret rfl (fun _ _ => rfl) ?_
            exact (yP.int ⟨by omega, by omega⟩ ⟨⟨⟨z6, rfl, by omega, by omega, by omega⟩, A_hq⟩, M_bRg_hq⟩)
        · have c1 : (p1 : Int) < 13 := c1
          refine yG.load xik rfl (fun _ _ => rfl) (v := yI (a2)) rfl rfl ?_
          refine yG.goto rfl (t := 246) rfl ?_
          refine yG.ret rfl (fun _ _ => rfl) ?_
          exact (yP.int ⟨by omega, by omega⟩ ⟨⟨⟨a2, rfl, by omega, by omega, by omega⟩, A_hq⟩, M_bRg_hq⟩)
  refine yC.of (M := (xt_X13_count, (4, (1, (14, []))))) rfl rfl (N := 1961) (yfuel (by decide)) ?_
  show yG 89 xfts (xcall 89 xfts xpools xms (d + 8)) (xpool xp_RX13) [] xt_X13_count (yP 1 (fun rv hp' => (bQi G [(83076749736557242056487941267521536, 0), (83076749736557242056487941267521536, 10), (83076749736557242056487941267521536, 11), (83076749736557242056487941267521536, 38), (83076749736557242056487941267521536, 40), (83076749736557242056487941267521536, 45), (83076749736557242056487941267521536, 46), (83076749736557242056487941267521536, 47), (11415194288614076142038944770073511595106893824, 256)] hp (-2147483648) 2147483647 (fun z => 0 ≤ 0 - p1 + z + 2147483663 ∧ 0 ≤ p1 - z + 2147483648)) rv hp' ∧ bRg G hp')) 1961 0 [(0, yR 2073), (1, yI (p1))] [] hp
  obtain ⟨i_127, i_206⟩ := H 52
  refine yG.load xak rfl (fun _ _ => rfl) (v := yR 2073) rfl rfl ?_
  refine yG.load xik rfl (fun _ _ => rfl) (v := yI (p1)) rfl rfl ?_
  refine yG.i2l rfl ⟨by omega, by omega⟩ ?_
  refine yG.numl (c := 0) rfl (fun _ _ => rfl) (by decide) ?_
  refine yG.numl (c := 15) rfl (fun _ _ => rfl) (by decide) ?_
  refine yG.invS (rest := [yR 2073]) rfl rfl rfl rfl (c_GModel_in W (d + 7) A_hp.1 (p1) (0) (15) (by omega) (by omega) (by omega) (by omega) (by omega) (by omega)) (fun rv hp9 q9 => ?_)
  obtain ⟨⟨z1, rfl, l_z1, u_z1, R_z1⟩, e9⟩ := q9
  rw [e9]
  show yG _ _ _ _ _ _ _ _ _ _ (yI z1 :: [yR 2073]) _
  refine yG.ifz rfl (t := 17) rfl ⟨by omega, by omega⟩ (fun c2 => ?_) (fun c2 => ?_)
  · have c2 : (z1 : Int) = 0 := c2
    clear R_z1
    refine yG.num (c := 1) rfl (fun _ _ => rfl) (by decide) ?_
    refine yG.putI A_hp.1 (w_M_thrown W H_2073) (W.2.1 _ _ H_2073 (by decide) (by decide)) rfl rfl (.inl rfl) ⟨by omega, by omega⟩ (by omega) (by omega) (fun h3 T_h3 b_h3 f_h3 y_h3 => ?_)
    have M_bRg_h3 := M_bRg_hp.fr (bAx.put (Wl := [(83076749736557242056487941267521536, 0)]) (bAx.rf A_hp.1) T_h3 b_h3 f_h3 H_2073 (by decide)) (by decide)
    have A_h3 := A_hp.put T_h3 b_h3 f_h3 H_2073 (by decide)
    have : ys h3 2073 0 = 1 := (y_h3 2073 0).trans (if_pos ⟨rfl, rfl⟩)
    refine yG.load xak rfl (fun _ _ => rfl) (v := yR 2073) rfl rfl ?_
    refine yG.getI A_h3.1 (w_M_thrown W H_2073) rfl rfl (fun z4 e_z4 i_z4 l_z4 u_z4 => ?_)
    refine yG.ifz rfl (t := 30) rfl ⟨by omega, by omega⟩ (fun c5 => ?_) (fun c5 => ?_)
    · have c5 : (z4 : Int) ≤ 0 := c5
      exfalso; omega
    · have c5 : (z4 : Int) > 0 := c5
      refine yG.num (c := 0) rfl (fun _ _ => rfl) (by decide) ?_
      refine yG.ret rfl (fun _ _ => rfl) ?_
      exact (yP.int ⟨by omega, by omega⟩ ⟨⟨⟨0, rfl, by omega, by omega, by omega⟩, A_h3⟩, M_bRg_h3⟩)
  · have c2 : (z1 : Int) ≠ 0 := c2
    replace R_z1 := R_z1 (by omega)
    refine yG.num (c := 0) rfl (fun _ _ => rfl) (by decide) ?_
    refine yG.goto rfl (t := 18) rfl ?_
    refine yG.putI A_hp.1 (w_M_thrown W H_2073) (W.2.1 _ _ H_2073 (by decide) (by decide)) rfl rfl (.inl rfl) ⟨by omega, by omega⟩ (by omega) (by omega) (fun h6 T_h6 b_h6 f_h6 y_h6 => ?_)
    have M_bRg_h6 := M_bRg_hp.fr (bAx.put (Wl := [(83076749736557242056487941267521536, 0)]) (bAx.rf A_hp.1) T_h6 b_h6 f_h6 H_2073 (by decide)) (by decide)
    have A_h6 := A_hp.put T_h6 b_h6 f_h6 H_2073 (by decide)
    have : ys h6 2073 0 = 0 := (y_h6 2073 0).trans (if_pos ⟨rfl, rfl⟩)
    refine yG.load xak rfl (fun _ _ => rfl) (v := yR 2073) rfl rfl ?_
    refine yG.getI A_h6.1 (w_M_thrown W H_2073) rfl rfl (fun z7 e_z7 i_z7 l_z7 u_z7 => ?_)
    refine yG.ifz rfl (t := 30) rfl ⟨by omega, by omega⟩ (fun c8 => ?_) (fun c8 => ?_)
    · have c8 : (z7 : Int) ≤ 0 := c8
      refine yG.load xik rfl (fun _ _ => rfl) (v := yI (p1)) rfl rfl ?_
      refine yG.num (c := 10) rfl (fun _ _ => rfl) (by decide) ?_
      refine yG.icmp rfl (t := 106) rfl ⟨by omega, by omega⟩ ⟨by omega, by omega⟩ (fun c9 => ?_) (fun c9 => ?_)
      · have c9 : (p1 : Int) ≥ 10 := c9
        refine yG.load xik rfl (fun _ _ => rfl) (v := yI (p1)) rfl rfl ?_
        refine yG.num (c := 13) rfl (fun _ _ => rfl) (by decide) ?_
        refine yG.icmp rfl (t := 119) rfl ⟨by omega, by omega⟩ ⟨by omega, by omega⟩ (fun c10 => ?_) (fun c10 => ?_)
        · have c10 : (p1 : Int) ≥ 13 := c10
          refine yG.load xak rfl (fun _ _ => rfl) (v := yR 2073) rfl rfl ?_
          refine yG.invV (rest := []) A_h6.1 (bOb (d_M W) H_2073) rfl rfl rfl rfl (c_GModel_netFlows W d A_h6.1 M_bRg_h6 (M_bWf.fr A_h6 (by decide)) (M_bPr.fr A_h6 (by decide)) H_2073) (fun rv h11 q9 => ?_)
          obtain ⟨q9, M_bRg_h11⟩ := q9
          obtain ⟨⟨rfl, R_z12⟩, B_h11⟩ := q9
          have A_h11 := A_h6.tr B_h11 (by decide)
          have : ys h11 2073 0 = ys h6 2073 0 := B_h11.ys H_2073 (by decide)
          show yG _ _ _ _ _ _ _ _ _ _ [] _
          refine yG.num (c := 0) rfl (fun _ _ => rfl) (by decide) ?_
          refine yG.store1 xik (L' := [(2, yI (0)), (0, yR 2073), (1, yI (p1))]) rfl (fun _ _ => rfl) rfl rfl ?_
          refine yG.num (c := 0) rfl (fun _ _ => rfl) (by decide) ?_
          refine yG.store1 xik (L' := [(3, yI (0)), (2, yI (0)), (0, yR 2073), (1, yI (p1))]) rfl (fun _ _ => rfl) rfl rfl ?_
          exact yG.mono (yG.sub (i_127 (0) (0)  h11 A_h11 M_bRg_h11   (by omega) (by omega) (by omega) (by omega) (by omega) (by omega) (by omega) (by omega)) (ySub.cons rfl (ySub.cons rfl (ySub.cons rfl (ySub.cons rfl (ySub.nil)))))) (by omega)
        · have c10 : (p1 : Int) < 13 := c10
          refine yG.load xak rfl (fun _ _ => rfl) (v := yR 2073) rfl rfl ?_
          refine yG.invV (rest := []) A_h6.1 (bOb (d_M W) H_2073) rfl rfl rfl rfl (c_GModel_netTopology W (d + 4) A_h6.1 H_2073) (fun rv h13 q9 => ?_)
          obtain ⟨⟨rfl, R_z14⟩, B_h13⟩ := q9
          have A_h13 := A_h6.tr B_h13 (by decide)
          have M_bRg_h13 := M_bRg_h6.fr B_h13 (by decide)
          have : ys h13 2073 0 = ys h6 2073 0 := B_h13.ys H_2073 (by decide)
          show yG _ _ _ _ _ _ _ _ _ _ [] _
          refine yG.goto rfl (t := 123) rfl ?_
          refine yG.num (c := 0) rfl (fun _ _ => rfl) (by decide) ?_
          refine yG.store1 xik (L' := [(2, yI (0)), (0, yR 2073), (1, yI (p1))]) rfl (fun _ _ => rfl) rfl rfl ?_
          refine yG.num (c := 0) rfl (fun _ _ => rfl) (by decide) ?_
          refine yG.store1 xik (L' := [(3, yI (0)), (2, yI (0)), (0, yR 2073), (1, yI (p1))]) rfl (fun _ _ => rfl) rfl rfl ?_
          exact yG.mono (yG.sub (i_127 (0) (0)  h13 A_h13 M_bRg_h13   (by omega) (by omega) (by omega) (by omega) (by omega) (by omega) (by omega) (by omega)) (ySub.cons rfl (ySub.cons rfl (ySub.cons rfl (ySub.cons rfl (ySub.nil)))))) (by omega)
      · have c9 : (p1 : Int) < 10 := c9
        refine yG.load xik rfl (fun _ _ => rfl) (v := yI (p1)) rfl rfl ?_
        refine yG.num (c := 5) rfl (fun _ _ => rfl) (by decide) ?_
        refine yG.icmp rfl (t := 50) rfl ⟨by omega, by omega⟩ ⟨by omega, by omega⟩ (fun c15 => ?_) (fun c15 => ?_)
        · have c15 : (p1 : Int) ≥ 5 := c15
          refine yG.load xik rfl (fun _ _ => rfl) (v := yI (p1)) rfl rfl ?_
          refine yG.num (c := 5) rfl (fun _ _ => rfl) (by decide) ?_
          refine yG.icmp rfl (t := 62) rfl ⟨by omega, by omega⟩ ⟨by omega, by omega⟩ (fun c16 => ?_) (fun c16 => ?_)
          · have c16 : (p1 : Int) ≠ 5 := c16
            refine yG.load xik rfl (fun _ _ => rfl) (v := yI (p1)) rfl rfl ?_
            refine yG.num (c := 6) rfl (fun _ _ => rfl) (by decide) ?_
            refine yG.icmp rfl (t := 75) rfl ⟨by omega, by omega⟩ ⟨by omega, by omega⟩ (fun c17 => ?_) (fun c17 => ?_)
            · have c17 : (p1 : Int) ≠ 6 := c17
              refine yG.load xik rfl (fun _ _ => rfl) (v := yI (p1)) rfl rfl ?_
              refine yG.num (c := 7) rfl (fun _ _ => rfl) (by decide) ?_
              refine yG.icmp rfl (t := 88) rfl ⟨by omega, by omega⟩ ⟨by omega, by omega⟩ (fun c18 => ?_) (fun c18 => ?_)
              · have c18 : (p1 : Int) ≠ 7 := c18
                refine yG.load xik rfl (fun _ _ => rfl) (v := yI (p1)) rfl rfl ?_
                refine yG.num (c := 8) rfl (fun _ _ => rfl) (by decide) ?_
                refine yG.icmp rfl (t := 101) rfl ⟨by omega, by omega⟩ ⟨by omega, by omega⟩ (fun c19 => ?_) (fun c19 => ?_)
                · have c19 : (p1 : Int) ≠ 8 := c19
                  refine yG.load xak rfl (fun _ _ => rfl) (v := yR 2073) rfl rfl ?_
                  refine yG.getI A_h6.1 (w_M_taped W H_2073) rfl rfl (fun z20 e_z20 i_z20 l_z20 u_z20 => ?_)
                  refine yG.ret rfl (fun _ _ => rfl) ?_
                  exact (yP.int ⟨by omega, by omega⟩ ⟨⟨⟨z20, rfl, by omega, by omega, by omega⟩, A_h6⟩, M_bRg_h6⟩)
                · have c19 : (p1 : Int) = 8 := c19
                  refine yG.load xak rfl (fun _ _ => rfl) (v := yR 2073) rfl rfl ?_
                  refine yG.getI A_h6.1 (w_M_steps W H_2073) rfl rfl (fun z21 e_z21 i_z21 l_z21 u_z21 => ?_)
                  refine yG.goto rfl (t := 105) rfl ?_
                  refine yG.ret rfl (fun _ _ => rfl) ?_
                  exact (yP.int ⟨by omega, by omega⟩ ⟨⟨⟨z21, rfl, by omega, by omega, by omega⟩, A_h6⟩, M_bRg_h6⟩)
              · have c18 : (p1 : Int) = 7 := c18
                refine yG.load xak rfl (fun _ _ => rfl) (v := yR 2073) rfl rfl ?_
                refine yG.getI A_h6.1 (w_M_ruleCount W H_2073) rfl rfl (fun z22 e_z22 i_z22 l_z22 u_z22 => ?_)
                refine yG.goto rfl (t := 105) rfl ?_
                refine yG.ret rfl (fun _ _ => rfl) ?_
                exact (yP.int ⟨by omega, by omega⟩ ⟨⟨⟨z22, rfl, by omega, by omega, by omega⟩, A_h6⟩, M_bRg_h6⟩)
            · have c17 : (p1 : Int) = 6 := c17
              refine yG.load xak rfl (fun _ _ => rfl) (v := yR 2073) rfl rfl ?_
              refine yG.getI A_h6.1 (w_M_relays W H_2073) rfl rfl (fun z23 e_z23 i_z23 l_z23 u_z23 => ?_)
              refine yG.goto rfl (t := 105) rfl ?_
              refine yG.ret rfl (fun _ _ => rfl) ?_
              exact (yP.int ⟨by omega, by omega⟩ ⟨⟨⟨z23, rfl, by omega, by omega, by omega⟩, A_h6⟩, M_bRg_h6⟩)
          · have c16 : (p1 : Int) = 5 := c16
            refine yG.load xak rfl (fun _ _ => rfl) (v := yR 2073) rfl rfl ?_
            refine yG.getI A_h6.1 (w_M_meters W H_2073) rfl rfl (fun z24 e_z24 i_z24 l_z24 u_z24 => ?_)
            refine yG.goto rfl (t := 105) rfl ?_
            refine yG.ret rfl (fun _ _ => rfl) ?_
            exact (yP.int ⟨by omega, by omega⟩ ⟨⟨⟨z24, rfl, by omega, by omega, by omega⟩, A_h6⟩, M_bRg_h6⟩)
        · have c15 : (p1 : Int) < 5 := c15
          refine yG.load xak rfl (fun _ _ => rfl) (v := yR 2073) rfl rfl ?_
          refine yG.getO A_h6.1 (w_M_count W H_2073) rfl rfl (fun r25 H_r25 O_r25 q_r25 => ?_)
          obtain rfl := u_M_count W H_r25
          refine yG.load xik rfl (fun _ _ => rfl) (v := yI (p1)) rfl rfl ?_
          refine yG.ialdT A_h6.1 (v_M_count W H_r25) (yhull2 (tf := bTf 5 t_M_count) (bTf_h (A := 0) (B := 24) (by decide) (by decide) (by decide) _)) rfl (by omega) (by omega) (fun z26 lo_z26 hi_z26 e_z26 i_z26 T_z26 l_z26 u_z26 => ?_)
          obtain ⟨L_z26, U_z26⟩ := yhull (tf := bTf 5 t_M_count) (bTf_h (A := 0) (B := 24) (by decide) (by decide) (by decide) _) T_z26
          refine yG.goto rfl (t := 105) rfl ?_
          refine yG.ret rfl (fun _ _ => rfl) ?_
          exact (yP.int ⟨by omega, by omega⟩ ⟨⟨⟨z26, rfl, by omega, by omega, by omega⟩, A_h6⟩, M_bRg_h6⟩)
    · have c8 : (z7 : Int) > 0 := c8
      exfalso; omega
theorem c_GModel_screenAll {hp : xH} (W : mW G) (d : Nat) (hT : zTy G hp) (M_bRg : bRg G hp) (M_bWf : bWf G hp) (M_bPr : bPr G hp) (H_2073 : bRo G 116 2073) : yC (xcall 89 xfts xpools xms (d + 9)) 501 [yR 2073] hp (fun rv hp' => (fun rv hp' => (rv = none ∧ True) ∧ bAx G [(83076749736557242056487941267521536, 10), (83076749736557242056487941267521536, 11), (83076749736557242056487941267521536, 38), (83076749736557242056487941267521536, 40), (83076749736557242056487941267521536, 45), (83076749736557242056487941267521536, 46), (83076749736557242056487941267521536, 47), (83076749736557242056487941267521536, 49), (83076749736557242056487941267521536, 50), (365372622079692126644493865193548305418028056576, 256)] hp hp') rv hp' ∧ bRg G hp') := by
  have A_hp : bAx G [(83076749736557242056487941267521536, 10), (83076749736557242056487941267521536, 11), (83076749736557242056487941267521536, 38), (83076749736557242056487941267521536, 40), (83076749736557242056487941267521536, 45), (83076749736557242056487941267521536, 46), (83076749736557242056487941267521536, 47), (83076749736557242056487941267521536, 49), (83076749736557242056487941267521536, 50), (365372622079692126644493865193548305418028056576, 256)] hp hp := bAx.rf hT
  have M_bRg_hp := M_bRg
  have H : ∀ m : Nat, (∀ a1 : Int, ∀ a2 : Int, ∀ a3 : Int, ∀ a4 : Int, ∀ gg0 : Int, ∀ hq, bAx G [(83076749736557242056487941267521536, 10), (83076749736557242056487941267521536, 11), (83076749736557242056487941267521536, 38), (83076749736557242056487941267521536, 40), (83076749736557242056487941267521536, 45), (83076749736557242056487941267521536, 46), (83076749736557242056487941267521536, 47), (83076749736557242056487941267521536, 49), (83076749736557242056487941267521536, 50), (365372622079692126644493865193548305418028056576, 256)] hp hq → bRg G hq → ys hq 2073 50 = gg0 → (-2147483648) ≤ a1 → (-2147483647) ≤ 0 - a1 → (-2147483648) ≤ a2 → (-2147483647) ≤ 0 - a2 → (-2147483648) ≤ a3 → (-2147483647) ≤ 0 - a3 → 0 ≤ a4 → (-20) ≤ 0 - a4 → 0 ≤ gg0 → 0 ≤ 0 - gg0 → 0 - 43 * a4 + 902 < (m : Int) → yG 89 xfts (xcall 89 xfts xpools xms (d + 8)) (xpool xp_RX13) [] xt_X13_screenAll (yP 0 (fun rv hp' => (fun rv hp' => (rv = none ∧ True) ∧ bAx G [(83076749736557242056487941267521536, 10), (83076749736557242056487941267521536, 11), (83076749736557242056487941267521536, 38), (83076749736557242056487941267521536, 40), (83076749736557242056487941267521536, 45), (83076749736557242056487941267521536, 46), (83076749736557242056487941267521536, 47), (83076749736557242056487941267521536, 49), (83076749736557242056487941267521536, 50), (365372622079692126644493865193548305418028056576, 256)] hp hp') rv hp' ∧ bRg G hp')) (79 * m) 40 [(0, yR 2073), (1, yI (a1)), (2, yI (a2)), (3, yI (a3)), (4, yI (a4))] [] hq) ∧ (∀ a1 : Int, ∀ a2 : Int, ∀ a3 : Int, ∀ a4 : Int, ∀ gg0 : Int, ∀ hq, bAx G [(83076749736557242056487941267521536, 10), (83076749736557242056487941267521536, 11), (83076749736557242056487941267521536, 38), (83076749736557242056487941267521536, 40), (83076749736557242056487941267521536, 45), (83076749736557242056487941267521536, 46), (83076749736557242056487941267521536, 47), (83076749736557242056487941267521536, 49), (83076749736557242056487941267521536, 50), (365372622079692126644493865193548305418028056576, 256)] hp hq → bRg G hq → ys hq 2073 50 = gg0 → (-2147483648) ≤ a1 → (-2147483647) ≤ 0 - a1 → (-2147483648) ≤ a2 → (-2147483647) ≤ 0 - a2 → (-2147483648) ≤ a3 → (-2147483647) ≤ 0 - a3 → 0 ≤ a4 → (-20) ≤ 0 - a4 → 0 ≤ gg0 → (-20) ≤ 0 - gg0 → 0 ≤ a4 - gg0 → 0 - 2 * a4 + 41 < (m : Int) → yG 89 xfts (xcall 89 xfts xpools xms (d + 8)) (xpool xp_RX13) [] xt_X13_screenAll (yP 0 (fun rv hp' => (fun rv hp' => (rv = none ∧ True) ∧ bAx G [(83076749736557242056487941267521536, 10), (83076749736557242056487941267521536, 11), (83076749736557242056487941267521536, 38), (83076749736557242056487941267521536, 40), (83076749736557242056487941267521536, 45), (83076749736557242056487941267521536, 46), (83076749736557242056487941267521536, 47), (83076749736557242056487941267521536, 49), (83076749736557242056487941267521536, 50), (365372622079692126644493865193548305418028056576, 256)] hp hp') rv hp' ∧ bRg G hp')) (79 * m) 98 [(0, yR 2073), (1, yI (a1)), (2, yI (a2)), (3, yI (a3)), (4, yI (a4))] [] hq) := by
    intro m
    induction m with
    | zero =>
      refine ⟨?_, ?_⟩ <;> (intros; exfalso; omega)
    | succ m ih =>
      obtain ⟨i_40, i_98⟩ := ih
      refine ⟨?_, ?_⟩
      · intro a1 a2 a3 a4 gg0 hq A_hq M_bRg_hq E_0 f0 f1 f2 f3 f4 f5 f6 f7 f8 f9 hm
        refine yG.mono (N := 79 * m + 79) ?_ (by omega)
        obtain ⟨-, -, g_0l, g_0u⟩ := (w_M_troubles W H_2073).int A_hq.1
        refine yG.load xik rfl (fun _ _ => rfl) (v := yI (a4)) rfl rfl ?_
        refine yG.load xak rfl (fun _ _ => rfl) (v := yR 2073) rfl rfl ?_
        refine yG.getO A_hq.1 (w_M_count W H_2073) rfl rfl (fun r1 H_r1 O_r1 q_r1 => ?_)
        obtain rfl := u_M_count W H_r1
        refine yG.num (c := 2) rfl (fun _ _ => rfl) (by decide) ?_
        refine yG.ialdF A_hq.1 (v_M_count W H_r1) rfl rfl (by omega) (by omega) (fun z2 e_z2 i_z2 l_z2 u_z2 => ?_)
        refine yG.icmp rfl (t := 95) rfl ⟨by omega, by omega⟩ ⟨by omega, by omega⟩ (fun c3 => ?_) (fun c3 => ?_)
        · have c3 : (a4 : Int) ≥ z2 := c3
          refine yG.num (c := 0) rfl (fun _ _ => rfl) (by decide) ?_
          refine yG.store1 xik (L' := [(4, yI (0)), (0, yR 2073), (1, yI (a1)), (2, yI (a2)), (3, yI (a3))]) rfl (fun _ _ => rfl) rfl rfl ?_
          exact yG.mono (yG.sub (i_98 (a1) (a2) (a3) (0) (ys hq 2073 50) hq A_hq M_bRg_hq  rfl (by omega) (by omega) (by omega) (by omega) (by omega) (by omega) (by omega) (by omega) (by omega) (by omega) (by omega) (by omega)) (ySub.cons rfl (ySub.cons rfl (ySub.cons rfl (ySub.cons rfl (ySub.cons rfl (ySub.nil))))))) (by omega)
        · have c3 : (a4 : Int) < z2 := c3
          refine yG.load xak rfl (fun _ _ => rfl) (v := yR 2073) rfl rfl ?_
          refine yG.getO A_hq.1 (w_M_isScreened W H_2073) rfl rfl (fun r4 H_r4 O_r4 q_r4 => ?_)
          obtain rfl := u_M_isScreened W H_r4
          refine yG.load xik rfl (fun _ _ => rfl) (v := yI (a4)) rfl rfl ?_
          refine yG.load xak rfl (fun _ _ => rfl) (v := yR 2073) rfl rfl ?_
          refine yG.num (c := 2) rfl (fun _ _ => rfl) (by decide) ?_
          refine yG.load xik rfl (fun _ _ => rfl) (v := yI (a4)) rfl rfl ?_
          refine yG.num (c := 0) rfl (fun _ _ => rfl) (by decide) ?_
          refine yG.invV (rest := [yI (a4), yR 2110]) A_hq.1 (bOb (d_M W) H_2073) rfl rfl rfl rfl (c_GModel_of_v2_0 W (d + 6) A_hq.1 H_2073 (a4) (by omega) (by omega)) (fun rv hp9 q9 => ?_)
          obtain ⟨⟨z5, rfl, l_z5, u_z5, R_z5⟩, e9⟩ := q9
          rw [e9]
          show yG _ _ _ _ _ _ _ _ _ _ (yI z5 :: [yI (a4), yR 2110]) _
          refine yG.num (c := 1) rfl (fun _ _ => rfl) (by decide) ?_
          refine yG.icmp rfl (t := 87) rfl ⟨by omega, by omega⟩ ⟨by omega, by omega⟩ (fun c6 => ?_) (fun c6 => ?_)
          · have c6 : (z5 : Int) ≠ 1 := c6
            refine yG.num (c := 0) rfl (fun _ _ => rfl) (by decide) ?_
            refine yG.bast A_hq.1 (v_M_isScreened W H_r4) (W.2.1 _ _ H_r4 (by decide) (by decide)) rfl (by omega) (by omega) ⟨by omega, by omega⟩ (by omega) (by omega) (fun h7 T_h7 b_h7 f_h7 y_h7 => ?_)
            have M_bRg_h7 := M_bRg_hq.fr (bAx.put (Wl := [(11417981541647679048466287755595961091061972992, 256)]) (bAx.rf A_hq.1) T_h7 b_h7 f_h7 H_r4 (bAll_ok (by decide) _)) (by decide)
            have A_h7 := A_hq.put T_h7 b_h7 f_h7 H_r4 (bAll_ok (by decide) _)
            have : ys h7 2073 50 = ys hq 2073 50 := (y_h7 2073 50).trans (if_neg (fun e => (bRo.ne H_2073 H_r4 (by decide)) e.1))
            refine yG.iinc rfl (a := a4) rfl (L' := [(4, yI (a4 + 1)), (0, yR 2073), (1, yI (a1)), (2, yI (a2)), (3, yI (a3))]) rfl ?_
            refine yG.goto rfl (t := 40) rfl ?_
            exact yG.mono (yG.sub (i_40 (a1) (a2) (a3) (a4 + 1) (ys h7 2073 50) h7 A_h7 M_bRg_h7  rfl (by omega) (by omega) (by omega) (by omega) (by omega) (by omega) (by omega) (by omega) (by omega) (by omega) (by omega)) (ySub.cons rfl (ySub.cons rfl (ySub.cons rfl (ySub.cons rfl (ySub.cons rfl (ySub.nil))))))) (by omega)
          · have c6 : (z5 : Int) = 1 := c6
            refine yG.load xak rfl (fun _ _ => rfl) (v := yR 2073) rfl rfl ?_
            refine yG.getO A_hq.1 (w_M_isLive W H_2073) rfl rfl (fun r8 H_r8 O_r8 q_r8 => ?_)
            obtain rfl := u_M_isLive W H_r8
            refine yG.load xak rfl (fun _ _ => rfl) (v := yR 2073) rfl rfl ?_
            refine yG.load xik rfl (fun _ _ => rfl) (v := yI (a4)) rfl rfl ?_
            refine yG.invV (rest := [yR 2102, yI (a4), yR 2110]) A_hq.1 (bOb (d_M W) H_2073) rfl rfl rfl rfl (c_GModel_islandOfLine W (d + 5) A_hq.1 H_2073 (a4) (by omega) (by omega)) (fun rv hp9 q9 => ?_)
            obtain ⟨⟨z9, rfl, l_z9, u_z9, R_z9⟩, e9⟩ := q9
            rw [e9]
            show yG _ _ _ _ _ _ _ _ _ _ (yI z9 :: [yR 2102, yI (a4), yR 2110]) _
            refine yG.bald A_hq.1 (v_M_isLive W H_r8) rfl (by omega) (by omega) (fun z10 e_z10 i_z10 l_z10 u_z10 => ?_)
            refine yG.ifz rfl (t := 87) rfl ⟨by omega, by omega⟩ (fun c11 => ?_) (fun c11 => ?_)
            · have c11 : (z10 : Int) = 0 := c11
              refine yG.num (c := 0) rfl (fun _ _ => rfl) (by decide) ?_
              refine yG.bast A_hq.1 (v_M_isScreened W H_r4) (W.2.1 _ _ H_r4 (by decide) (by decide)) rfl (by omega) (by omega) ⟨by omega, by omega⟩ (by omega) (by omega) (fun h12 T_h12 b_h12 f_h12 y_h12 => ?_)
              have M_bRg_h12 := M_bRg_hq.fr (bAx.put (Wl := [(11417981541647679048466287755595961091061972992, 256)]) (bAx.rf A_hq.1) T_h12 b_h12 f_h12 H_r4 (bAll_ok (by decide) _)) (by decide)
              have A_h12 := A_hq.put T_h12 b_h12 f_h12 H_r4 (bAll_ok (by decide) _)
              have : ys h12 2073 50 = ys hq 2073 50 := (y_h12 2073 50).trans (if_neg (fun e => (bRo.ne H_2073 H_r4 (by decide)) e.1))
              refine yG.iinc rfl (a := a4) rfl (L' := [(4, yI (a4 + 1)), (0, yR 2073), (1, yI (a1)), (2, yI (a2)), (3, yI (a3))]) rfl ?_
              refine yG.goto rfl (t := 40) rfl ?_
              exact yG.mono (yG.sub (i_40 (a1) (a2) (a3) (a4 + 1) (ys h12 2073 50) h12 A_h12 M_bRg_h12  rfl (by omega) (by omega) (by omega) (by omega) (by omega) (by omega) (by omega) (by omega) (by omega) (by omega) (by omega)) (ySub.cons rfl (ySub.cons rfl (ySub.cons rfl (ySub.cons rfl (ySub.cons rfl (ySub.nil))))))) (by omega)
            · have c11 : (z10 : Int) ≠ 0 := c11
              refine yG.num (c := 1) rfl (fun _ _ => rfl) (by decide) ?_
              refine yG.goto rfl (t := 88) rfl ?_
              refine yG.bast A_hq.1 (v_M_isScreened W H_r4) (W.2.1 _ _ H_r4 (by decide) (by decide)) rfl (by omega) (by omega) ⟨by omega, by omega⟩ (by omega) (by omega) (fun h13 T_h13 b_h13 f_h13 y_h13 => ?_)
              have M_bRg_h13 := M_bRg_hq.fr (bAx.put (Wl := [(11417981541647679048466287755595961091061972992, 256)]) (bAx.rf A_hq.1) T_h13 b_h13 f_h13 H_r4 (bAll_ok (by decide) _)) (by decide)
              have A_h13 := A_hq.put T_h13 b_h13 f_h13 H_r4 (bAll_ok (by decide) _)
              have : ys h13 2073 50 = ys hq 2073 50 := (y_h13 2073 50).trans (if_neg (fun e => (bRo.ne H_2073 H_r4 (by decide)) e.1))
              refine yG.iinc rfl (a := a4) rfl (L' := [(4, yI (a4 + 1)), (0, yR 2073), (1, yI (a1)), (2, yI (a2)), (3, yI (a3))]) rfl ?_
              refine yG.goto rfl (t := 40) rfl ?_
              exact yG.mono (yG.sub (i_40 (a1) (a2) (a3) (a4 + 1) (ys h13 2073 50) h13 A_h13 M_bRg_h13  rfl (by omega) (by omega) (by omega) (by omega) (by omega) (by omega) (by omega) (by omega) (by omega) (by omega) (by omega)) (ySub.cons rfl (ySub.cons rfl (ySub.cons rfl (ySub.cons rfl (ySub.cons rfl (ySub.nil))))))) (by omega)
      · intro a1 a2 a3 a4 gg0 hq A_hq M_bRg_hq E_0 f0 f1 f2 f3 f4 f5 f6 f7 f8 f9 f10 hm
        refine yG.mono (N := 79 * m + 79) ?_ (by omega)
        obtain ⟨-, -, g_0l, g_0u⟩ := (w_M_troubles W H_2073).int A_hq.1
        refine yG.load xik rfl (fun _ _ => rfl) (v := yI (a4)) rfl rfl ?_
        refine yG.load xak rfl (fun _ _ => rfl) (v := yR 2073) rfl rfl ?_
        refine yG.getO A_hq.1 (w_M_count W H_2073) rfl rfl (fun r1 H_r1 O_r1 q_r1 => ?_)
        obtain rfl := u_M_count W H_r1
        refine yG.num (c := 2) rfl (fun _ _ => rfl) (by decide) ?_
        refine yG.ialdF A_hq.1 (v_M_count W H_r1) rfl rfl (by omega) (by omega) (fun z2 e_z2 i_z2 l_z2 u_z2 => ?_)
        refine yG.icmp rfl (t := 256) rfl ⟨by omega, by omega⟩ ⟨by omega, by omega⟩ (fun c3 => ?_) (fun c3 => ?_)
        · have c3 : (a4 : Int) ≥ z2 := c3
          refine yG.ret rfl (fun _ _ => rfl) ?_
          exact (yP.void ⟨⟨⟨rfl, trivial⟩, A_hq⟩, M_bRg_hq⟩)
        · have c3 : (a4 : Int) < z2 := c3
          refine yG.load xak rfl (fun _ _ => rfl) (v := yR 2073) rfl rfl ?_
          refine yG.getO A_hq.1 (w_M_isScreened W H_2073) rfl rfl (fun r4 H_r4 O_r4 q_r4 => ?_)
          obtain rfl := u_M_isScreened W H_r4
          refine yG.load xik rfl (fun _ _ => rfl) (v := yI (a4)) rfl rfl ?_
          refine yG.bald A_hq.1 (v_M_isScreened W H_r4) rfl (by omega) (by omega) (fun z5 e_z5 i_z5 l_z5 u_z5 => ?_)
          refine yG.ifz rfl (t := 122) rfl ⟨by omega, by omega⟩ (fun c6 => ?_) (fun c6 => ?_)
          · have c6 : (z5 : Int) ≠ 0 := c6
            refine yG.load xak rfl (fun _ _ => rfl) (v := yR 2073) rfl rfl ?_
            refine yG.getO A_hq.1 (w_M_inNow W H_2073) rfl rfl (fun r7 H_r7 O_r7 q_r7 => ?_)
            obtain rfl := u_M_inNow W H_r7
            refine yG.load xik rfl (fun _ _ => rfl) (v := yI (a4)) rfl rfl ?_
            refine yG.num (c := 0) rfl (fun _ _ => rfl) (by decide) ?_
            refine yG.iast A_hq.1 (v_M_inNow W H_r7) (W.2.1 _ _ H_r7 (by decide) (by decide)) rfl (by omega) (by omega) ⟨by omega, by omega⟩ (by omega) (by omega) (fun h8 T_h8 b_h8 f_h8 y_h8 => ?_)
            have M_bRg_h8 := M_bRg_hq.fr (bAx.put (Wl := [(5575186299632655785383929568162090376495104, 256)]) (bAx.rf A_hq.1) T_h8 b_h8 f_h8 H_r7 (bAll_ok (by decide) _)) (by decide)
            have A_h8 := A_hq.put T_h8 b_h8 f_h8 H_r7 (bAll_ok (by decide) _)
            have : ys h8 2073 50 = ys hq 2073 50 := (y_h8 2073 50).trans (if_neg (fun e => (bRo.ne H_2073 H_r7 (by decide)) e.1))
            have qq1 : zsl h8 2073 33 = yR 2099 := ((f_h8 2073 33).trans (if_neg (fun e => (bRo.ne H_2073 H_r7 (by decide)) e.1))).trans q_r7
            refine yG.load xak rfl (fun _ _ => rfl) (v := yR 2073) rfl rfl ?_
            refine yG.invV (rest := []) A_h8.1 (bOb (d_M W) H_2073) rfl rfl rfl rfl (c_GModel_flows W (d + 1) A_h8.1 M_bRg_h8 (M_bWf.fr A_h8 (by decide)) (M_bPr.fr A_h8 (by decide)) H_2073) (fun rv h9 q9 => ?_)
            obtain ⟨q9, M_bRg_h9⟩ := q9
            obtain ⟨q9, M_bTq_h9⟩ := q9
            obtain ⟨⟨rfl, R_z10⟩, B_h9⟩ := q9
            have A_h9 := A_h8.tr B_h9 (by decide)
            have : ys h9 2073 50 = ys h8 2073 50 := B_h9.ys H_2073 (by decide)
            have qq2 : zsl h9 2073 33 = yR 2099 := (B_h9.sl H_2073 (by decide)).trans qq1
            show yG _ _ _ _ _ _ _ _ _ _ [] _
            refine yG.load xak rfl (fun _ _ => rfl) (v := yR 2073) rfl rfl ?_
            refine yG.getS9 A_h9.1 (w_M_inNow W H_2073) qq2 rfl rfl ?_
            refine yG.load xik rfl (fun _ _ => rfl) (v := yI (a4)) rfl rfl ?_
            refine yG.num (c := 1) rfl (fun _ _ => rfl) (by decide) ?_
            refine yG.iast A_h9.1 (v_M_inNow W H_r7) (W.2.1 _ _ H_r7 (by decide) (by decide)) rfl (by omega) (by omega) ⟨by omega, by omega⟩ (by omega) (by omega) (fun h11 T_h11 b_h11 f_h11 y_h11 => ?_)
            have M_bRg_h11 := M_bRg_h9.fr (bAx.put (Wl := [(5575186299632655785383929568162090376495104, 256)]) (bAx.rf A_h9.1) T_h11 b_h11 f_h11 H_r7 (bAll_ok (by decide) _)) (by decide)
            have A_h11 := A_h9.put T_h11 b_h11 f_h11 H_r7 (bAll_ok (by decide) _)
            have : ys h11 2073 50 = ys h9 2073 50 := (y_h11 2073 50).trans (if_neg (fun e => (bRo.ne H_2073 H_r7 (by decide)) e.1))
            have qq3 : zsl h11 2073 33 = yR 2099 := ((f_h11 2073 33).trans (if_neg (fun e => (bRo.ne H_2073 H_r7 (by decide)) e.1))).trans qq2
            refine yG.load xak rfl (fun _ _ => rfl) (v := yR 2073) rfl rfl ?_
            refine yG.getI A_h11.1 (w_M_stuckCount W H_2073) rfl rfl (fun z12 e_z12 i_z12 l_z12 u_z12 => ?_)
            refine yG.load xik rfl (fun _ _ => rfl) (v := yI (a1)) rfl rfl ?_
            refine yG.icmp rfl (t := 154) rfl ⟨by omega, by omega⟩ ⟨by omega, by omega⟩ (fun c13 => ?_) (fun c13 => ?_)
            · have c13 : (z12 : Int) ≤ a1 := c13
              refine yG.load xak rfl (fun _ _ => rfl) (v := yR 2073) rfl rfl ?_
              refine yG.getI A_h11.1 (w_M_lost W H_2073) rfl rfl (fun z14 e_z14 i_z14 l_z14 u_z14 => ?_)
              refine yG.load xik rfl (fun _ _ => rfl) (v := yI (a2)) rfl rfl ?_
              refine yG.icmp rfl (t := 166) rfl ⟨by omega, by omega⟩ ⟨by omega, by omega⟩ (fun c15 => ?_) (fun c15 => ?_)
              · have c15 : (z14 : Int) ≤ a2 := c15
                refine yG.load xak rfl (fun _ _ => rfl) (v := yR 2073) rfl rfl ?_
                refine yG.getI A_h11.1 (w_M_overCount W H_2073) rfl rfl (fun z16 e_z16 i_z16 l_z16 u_z16 => ?_)
                refine yG.load xik rfl (fun _ _ => rfl) (v := yI (a3)) rfl rfl ?_
                refine yG.icmp rfl (t := 178) rfl ⟨by omega, by omega⟩ ⟨by omega, by omega⟩ (fun c17 => ?_) (fun c17 => ?_)
                · have c17 : (z16 : Int) ≤ a3 := c17
                  refine yG.num (c := 0) rfl (fun _ _ => rfl) (by decide) ?_
                  refine yG.store1 xik (L' := [(5, yI (0)), (0, yR 2073), (1, yI (a1)), (2, yI (a2)), (3, yI (a3)), (4, yI (a4))]) rfl (fun _ _ => rfl) rfl rfl ?_
                  refine yG.load xak rfl (fun _ _ => rfl) (v := yR 2073) rfl rfl ?_
                  refine yG.getO A_h11.1 (w_M_troubleLine W H_2073) rfl rfl (fun r18 H_r18 O_r18 q_r18 => ?_)
                  obtain rfl := u_M_troubleLine W H_r18
                  refine yG.load xak rfl (fun _ _ => rfl) (v := yR 2073) rfl rfl ?_
                  refine yG.getI A_h11.1 (w_M_troubles W H_2073) rfl rfl (fun z19 e_z19 i_z19 l_z19 u_z19 => ?_)
                  rw [show (z19 : Int) = gg0 by omega]
                  refine yG.load xik rfl (fun _ _ => rfl) (v := yI (a4)) rfl rfl ?_
                  refine yG.iast A_h11.1 (v_M_troubleLine W H_r18) (W.2.1 _ _ H_r18 (by decide) (by decide)) rfl (by omega) (by omega) ⟨by omega, by omega⟩ (by omega) (by omega) (fun h20 T_h20 b_h20 f_h20 y_h20 => ?_)
                  have M_bRg_h20 := M_bRg_h11.fr (bAx.put (Wl := [(22835963083295358096932575511191922182123945984, 256)]) (bAx.rf A_h11.1) T_h20 b_h20 f_h20 H_r18 (bAll_ok (by decide) _)) (by decide)
                  have A_h20 := A_h11.put T_h20 b_h20 f_h20 H_r18 (bAll_ok (by decide) _)
                  have : ys h20 2073 50 = ys h11 2073 50 := (y_h20 2073 50).trans (if_neg (fun e => (bRo.ne H_2073 H_r18 (by decide)) e.1))
                  have qq4 : zsl h20 2073 33 = yR 2099 := ((f_h20 2073 33).trans (if_neg (fun e => (bRo.ne H_2073 H_r18 (by decide)) e.1))).trans qq3
                  have : ys h20 2073 47 = ys h11 2073 47 := (y_h20 2073 47).trans (if_neg (fun e => (bRo.ne H_2073 H_r18 (by decide)) e.1))
                  have : ys h20 2073 45 = ys h11 2073 45 := (y_h20 2073 45).trans (if_neg (fun e => (bRo.ne H_2073 H_r18 (by decide)) e.1))
                  refine yG.load xak rfl (fun _ _ => rfl) (v := yR 2073) rfl rfl ?_
                  refine yG.getO A_h20.1 (w_M_troubleSort W H_2073) rfl rfl (fun r21 H_r21 O_r21 q_r21 => ?_)
                  obtain rfl := u_M_troubleSort W H_r21
                  refine yG.load xak rfl (fun _ _ => rfl) (v := yR 2073) rfl rfl ?_
                  refine yG.getI A_h20.1 (w_M_troubles W H_2073) rfl rfl (fun z22 e_z22 i_z22 l_z22 u_z22 => ?_)
                  rw [show (z22 : Int) = gg0 by omega]
                  refine yG.load xik rfl (fun _ _ => rfl) (v := yI (0)) rfl rfl ?_
                  refine yG.iast A_h20.1 (v_M_troubleSort W H_r21) (W.2.1 _ _ H_r21 (by decide) (by decide)) rfl (by omega) (by omega) ⟨by omega, by omega⟩ (by omega) (by omega) (fun h23 T_h23 b_h23 f_h23 y_h23 => ?_)
                  have M_bRg_h23 := M_bRg_h20.fr (bAx.put (Wl := [(45671926166590716193865151022383844364247891968, 256)]) (bAx.rf A_h20.1) T_h23 b_h23 f_h23 H_r21 (bAll_ok (by decide) _)) (by decide)
                  have A_h23 := A_h20.put T_h23 b_h23 f_h23 H_r21 (bAll_ok (by decide) _)
                  have : ys h23 2073 50 = ys h20 2073 50 := (y_h23 2073 50).trans (if_neg (fun e => (bRo.ne H_2073 H_r21 (by decide)) e.1))
                  have qq5 : zsl h23 2073 33 = yR 2099 := ((f_h23 2073 33).trans (if_neg (fun e => (bRo.ne H_2073 H_r21 (by decide)) e.1))).trans qq4
                  have : ys h23 2073 47 = ys h20 2073 47 := (y_h23 2073 47).trans (if_neg (fun e => (bRo.ne H_2073 H_r21 (by decide)) e.1))
                  have : ys h23 2073 45 = ys h20 2073 45 := (y_h23 2073 45).trans (if_neg (fun e => (bRo.ne H_2073 H_r21 (by decide)) e.1))
                  refine yG.load xak rfl (fun _ _ => rfl) (v := yR 2073) rfl rfl ?_
                  refine yG.getO A_h23.1 (w_M_troubleLost W H_2073) rfl rfl (fun r24 H_r24 O_r24 q_r24 => ?_)
                  obtain rfl := u_M_troubleLost W H_r24
                  refine yG.load xak rfl (fun _ _ => rfl) (v := yR 2073) rfl rfl ?_
                  refine yG.getI A_h23.1 (w_M_troubles W H_2073) rfl rfl (fun z25 e_z25 i_z25 l_z25 u_z25 => ?_)
                  rw [show (z25 : Int) = gg0 by omega]
                  refine yG.load xak rfl (fun _ _ => rfl) (v := yR 2073) rfl rfl ?_
                  refine yG.getI A_h23.1 (w_M_lost W H_2073) rfl rfl (fun z26 e_z26 i_z26 l_z26 u_z26 => ?_)
                  rw [show (z26 : Int) = z14 by omega]
                  refine yG.load xik rfl (fun _ _ => rfl) (v := yI (a2)) rfl rfl ?_
                  refine yG.isub rfl ?_
                  obtain ⟨z27, e_z27, l_z27, u_z27⟩ := ywI (z14 - a2)
                  rw [e_z27]
                  refine yG.iast A_h23.1 (v_M_troubleLost W H_r24) (W.2.1 _ _ H_r24 (by decide) (by decide)) rfl (by omega) (by omega) ⟨by omega, by omega⟩ (by omega) (by omega) (fun h28 T_h28 b_h28 f_h28 y_h28 => ?_)
                  have M_bRg_h28 := M_bRg_h23.fr (bAx.put (Wl := [(91343852333181432387730302044767688728495783936, 256)]) (bAx.rf A_h23.1) T_h28 b_h28 f_h28 H_r24 (bAll_ok (by decide) _)) (by decide)
                  have A_h28 := A_h23.put T_h28 b_h28 f_h28 H_r24 (bAll_ok (by decide) _)
                  have : ys h28 2073 50 = ys h23 2073 50 := (y_h28 2073 50).trans (if_neg (fun e => (bRo.ne H_2073 H_r24 (by decide)) e.1))
                  have qq6 : zsl h28 2073 33 = yR 2099 := ((f_h28 2073 33).trans (if_neg (fun e => (bRo.ne H_2073 H_r24 (by decide)) e.1))).trans qq5
                  have : ys h28 2073 47 = ys h23 2073 47 := (y_h28 2073 47).trans (if_neg (fun e => (bRo.ne H_2073 H_r24 (by decide)) e.1))
                  have : ys h28 2073 45 = ys h23 2073 45 := (y_h28 2073 45).trans (if_neg (fun e => (bRo.ne H_2073 H_r24 (by decide)) e.1))
                  refine yG.load xak rfl (fun _ _ => rfl) (v := yR 2073) rfl rfl ?_
                  refine yG.getO A_h28.1 (w_M_troubleOver W H_2073) rfl rfl (fun r29 H_r29 O_r29 q_r29 => ?_)
                  obtain rfl := u_M_troubleOver W H_r29
                  refine yG.load xak rfl (fun _ _ => rfl) (v := yR 2073) rfl rfl ?_
                  refine yG.getI A_h28.1 (w_M_troubles W H_2073) rfl rfl (fun z30 e_z30 i_z30 l_z30 u_z30 => ?_)
                  rw [show (z30 : Int) = gg0 by omega]
                  refine yG.load xak rfl (fun _ _ => rfl) (v := yR 2073) rfl rfl ?_
                  refine yG.getI A_h28.1 (w_M_overCount W H_2073) rfl rfl (fun z31 e_z31 i_z31 l_z31 u_z31 => ?_)
                  rw [show (z31 : Int) = z16 by omega]
                  refine yG.iast A_h28.1 (v_M_troubleOver W H_r29) (W.2.1 _ _ H_r29 (by decide) (by decide)) rfl (by omega) (by omega) ⟨by omega, by omega⟩ (by omega) (by omega) (fun h32 T_h32 b_h32 f_h32 y_h32 => ?_)
                  have M_bRg_h32 := M_bRg_h28.fr (bAx.put (Wl := [(182687704666362864775460604089535377456991567872, 256)]) (bAx.rf A_h28.1) T_h32 b_h32 f_h32 H_r29 (bAll_ok (by decide) _)) (by decide)
                  have A_h32 := A_h28.put T_h32 b_h32 f_h32 H_r29 (bAll_ok (by decide) _)
                  have : ys h32 2073 50 = ys h28 2073 50 := (y_h32 2073 50).trans (if_neg (fun e => (bRo.ne H_2073 H_r29 (by decide)) e.1))
                  have qq7 : zsl h32 2073 33 = yR 2099 := ((f_h32 2073 33).trans (if_neg (fun e => (bRo.ne H_2073 H_r29 (by decide)) e.1))).trans qq6
                  have : ys h32 2073 47 = ys h28 2073 47 := (y_h32 2073 47).trans (if_neg (fun e => (bRo.ne H_2073 H_r29 (by decide)) e.1))
                  have : ys h32 2073 45 = ys h28 2073 45 := (y_h32 2073 45).trans (if_neg (fun e => (bRo.ne H_2073 H_r29 (by decide)) e.1))
                  refine yG.load xak rfl (fun _ _ => rfl) (v := yR 2073) rfl rfl ?_
                  refine yG.step (pc' := 233) (stk' := [yR 2073, yR 2073]) rfl (fun _ _ => rfl) ?_
                  refine yG.getI A_h32.1 (w_M_troubles W H_2073) rfl rfl (fun z33 e_z33 i_z33 l_z33 u_z33 => ?_)
                  rw [show (z33 : Int) = gg0 by omega]
                  refine yG.load xik rfl (fun _ _ => rfl) (v := yI (0)) rfl rfl ?_
                  refine yG.ifz rfl (t := 245) rfl ⟨by omega, by omega⟩ (fun c34 => ?_) (fun c34 => ?_)
                  · have c34 : (0 : Int) ≤ 0 := c34
                    refine yG.num (c := 0) rfl (fun _ _ => rfl) (by decide) ?_
                    refine yG.iadd rfl ?_
                    refine yG.putI A_h32.1 (w_M_troubles W H_2073) (W.2.1 _ _ H_2073 (by decide) (by decide)) rfl rfl (.inl rfl) ⟨by omega, by omega⟩ (by omega) (by omega) (fun h35 T_h35 b_h35 f_h35 y_h35 => ?_)
                    have M_bRg_h35 := M_bRg_h32.fr (bAx.put (Wl := [(83076749736557242056487941267521536, 50)]) (bAx.rf A_h32.1) T_h35 b_h35 f_h35 H_2073 (by decide)) (by decide)
                    have A_h35 := A_h32.put T_h35 b_h35 f_h35 H_2073 (by decide)
                    have qq8 : zsl h35 2073 33 = yR 2099 := ((f_h35 2073 33).trans (if_neg (fun e => absurd e.2 (by decide)))).trans qq7
                    have : ys h35 2073 47 = ys h32 2073 47 := (y_h35 2073 47).trans (if_neg (fun e => absurd e.2 (by decide)))
                    have : ys h35 2073 45 = ys h32 2073 45 := (y_h35 2073 45).trans (if_neg (fun e => absurd e.2 (by decide)))
                    have : ys h35 2073 50 = gg0 + 0 := (y_h35 2073 50).trans (if_pos ⟨rfl, rfl⟩)
                    refine yG.iinc rfl (a := a4) rfl (L' := [(4, yI (a4 + 1)), (5, yI (0)), (0, yR 2073), (1, yI (a1)), (2, yI (a2)), (3, yI (a3))]) rfl ?_
                    refine yG.goto rfl (t := 98) rfl ?_
                    exact yG.mono (yG.sub (i_98 (a1) (a2) (a3) (a4 + 1) (ys h35 2073 50) h35 A_h35 M_bRg_h35  rfl (by omega) (by omega) (by omega) (by omega) (by omega) (by omega) (by omega) (by omega) (by omega) (by omega) (by omega) (by omega)) (ySub.cons rfl (ySub.cons rfl (ySub.cons rfl (ySub.cons rfl (ySub.cons rfl (ySub.nil))))))) (by omega)
                  · have c34 : (0 : Int) > 0 := c34
                    exfalso; omega
                · have c17 : (z16 : Int) > a3 := c17
                  refine yG.num (c := 3) rfl (fun _ _ => rfl) (by decide) ?_
                  refine yG.goto rfl (t := 179) rfl ?_
                  refine yG.store1 xik (L' := [(5, yI (3)), (0, yR 2073), (1, yI (a1)), (2, yI (a2)), (3, yI (a3)), (4, yI (a4))]) rfl (fun _ _ => rfl) rfl rfl ?_
                  refine yG.load xak rfl (fun _ _ => rfl) (v := yR 2073) rfl rfl ?_
                  refine yG.getO A_h11.1 (w_M_troubleLine W H_2073) rfl rfl (fun r36 H_r36 O_r36 q_r36 => ?_)
                  obtain rfl := u_M_troubleLine W H_r36
                  refine yG.load xak rfl (fun _ _ => rfl) (v := yR 2073) rfl rfl ?_
                  refine yG.getI A_h11.1 (w_M_troubles W H_2073) rfl rfl (fun z37 e_z37 i_z37 l_z37 u_z37 => ?_)
                  rw [show (z37 : Int) = gg0 by omega]
                  refine yG.load xik rfl (fun _ _ => rfl) (v := yI (a4)) rfl rfl ?_
                  refine yG.iast A_h11.1 (v_M_troubleLine W H_r36) (W.2.1 _ _ H_r36 (by decide) (by decide)) rfl (by omega) (by omega) ⟨by omega, by omega⟩ (by omega) (by omega) (fun h38 T_h38 b_h38 f_h38 y_h38 => ?_)
                  have M_bRg_h38 := M_bRg_h11.fr (bAx.put (Wl := [(22835963083295358096932575511191922182123945984, 256)]) (bAx.rf A_h11.1) T_h38 b_h38 f_h38 H_r36 (bAll_ok (by decide) _)) (by decide)
                  have A_h38 := A_h11.put T_h38 b_h38 f_h38 H_r36 (bAll_ok (by decide) _)
                  have : ys h38 2073 50 = ys h11 2073 50 := (y_h38 2073 50).trans (if_neg (fun e => (bRo.ne H_2073 H_r36 (by decide)) e.1))
                  have qq9 : zsl h38 2073 33 = yR 2099 := ((f_h38 2073 33).trans (if_neg (fun e => (bRo.ne H_2073 H_r36 (by decide)) e.1))).trans qq3
                  have : ys h38 2073 47 = ys h11 2073 47 := (y_h38 2073 47).trans (if_neg (fun e => (bRo.ne H_2073 H_r36 (by decide)) e.1))
                  have : ys h38 2073 45 = ys h11 2073 45 := (y_h38 2073 45).trans (if_neg (fun e => (bRo.ne H_2073 H_r36 (by decide)) e.1))
                  refine yG.load xak rfl (fun _ _ => rfl) (v := yR 2073) rfl rfl ?_
                  refine yG.getO A_h38.1 (w_M_troubleSort W H_2073) rfl rfl (fun r39 H_r39 O_r39 q_r39 => ?_)
                  obtain rfl := u_M_troubleSort W H_r39
                  refine yG.load xak rfl (fun _ _ => rfl) (v := yR 2073) rfl rfl ?_
                  refine yG.getI A_h38.1 (w_M_troubles W H_2073) rfl rfl (fun z40 e_z40 i_z40 l_z40 u_z40 => ?_)
                  rw [show (z40 : Int) = gg0 by omega]
                  refine yG.load xik rfl (fun _ _ => rfl) (v := yI (3)) rfl rfl ?_
                  refine yG.iast A_h38.1 (v_M_troubleSort W H_r39) (W.2.1 _ _ H_r39 (by decide) (by decide)) rfl (by omega) (by omega) ⟨by omega, by omega⟩ (by omega) (by omega) (fun h41 T_h41 b_h41 f_h41 y_h41 => ?_)
                  have M_bRg_h41 := M_bRg_h38.fr (bAx.put (Wl := [(45671926166590716193865151022383844364247891968, 256)]) (bAx.rf A_h38.1) T_h41 b_h41 f_h41 H_r39 (bAll_ok (by decide) _)) (by decide)
                  have A_h41 := A_h38.put T_h41 b_h41 f_h41 H_r39 (bAll_ok (by decide) _)
                  have : ys h41 2073 50 = ys h38 2073 50 := (y_h41 2073 50).trans (if_neg (fun e => (bRo.ne H_2073 H_r39 (by decide)) e.1))
                  have qq10 : zsl h41 2073 33 = yR 2099 := ((f_h41 2073 33).trans (if_neg (fun e => (bRo.ne H_2073 H_r39 (by decide)) e.1))).trans qq9
                  have : ys h41 2073 47 = ys h38 2073 47 := (y_h41 2073 47).trans (if_neg (fun e => (bRo.ne H_2073 H_r39 (by decide)) e.1))
                  have : ys h41 2073 45 = ys h38 2073 45 := (y_h41 2073 45).trans (if_neg (fun e => (bRo.ne H_2073 H_r39 (by decide)) e.1))
                  refine yG.load xak rfl (fun _ _ => rfl) (v := yR 2073) rfl rfl ?_
                  refine yG.getO A_h41.1 (w_M_troubleLost W H_2073) rfl rfl (fun r42 H_r42 O_r42 q_r42 => ?_)
                  obtain rfl := u_M_troubleLost W H_r42
                  refine yG.load xak rfl (fun _ _ => rfl) (v := yR 2073) rfl rfl ?_
                  refine yG.getI A_h41.1 (w_M_troubles W H_2073) rfl rfl (fun z43 e_z43 i_z43 l_z43 u_z43 => ?_)
                  rw [show (z43 : Int) = gg0 by omega]
                  refine yG.load xak rfl (fun _ _ => rfl) (v := yR 2073) rfl rfl ?_
                  refine yG.getI A_h41.1 (w_M_lost W H_2073) rfl rfl (fun z44 e_z44 i_z44 l_z44 u_z44 => ?_)
                  rw [show (z44 : Int) = z14 by omega]
                  refine yG.load xik rfl (fun _ _ => rfl) (v := yI (a2)) rfl rfl ?_
                  refine yG.isub rfl ?_
                  obtain ⟨z45, e_z45, l_z45, u_z45⟩ := ywI (z14 - a2)
                  rw [e_z45]
                  refine yG.iast A_h41.1 (v_M_troubleLost W H_r42) (W.2.1 _ _ H_r42 (by decide) (by decide)) rfl (by omega) (by omega) ⟨by omega, by omega⟩ (by omega) (by omega) (fun h46 T_h46 b_h46 f_h46 y_h46 => ?_)
                  have M_bRg_h46 := M_bRg_h41.fr (bAx.put (Wl := [(91343852333181432387730302044767688728495783936, 256)]) (bAx.rf A_h41.1) T_h46 b_h46 f_h46 H_r42 (bAll_ok (by decide) _)) (by decide)
                  have A_h46 := A_h41.put T_h46 b_h46 f_h46 H_r42 (bAll_ok (by decide) _)
                  have : ys h46 2073 50 = ys h41 2073 50 := (y_h46 2073 50).trans (if_neg (fun e => (bRo.ne H_2073 H_r42 (by decide)) e.1))
                  have qq11 : zsl h46 2073 33 = yR 2099 := ((f_h46 2073 33).trans (if_neg (fun e => (bRo.ne H_2073 H_r42 (by decide)) e.1))).trans qq10
                  have : ys h46 2073 47 = ys h41 2073 47 := (y_h46 2073 47).trans (if_neg (fun e => (bRo.ne H_2073 H_r42 (by decide)) e.1))
                  have : ys h46 2073 45 = ys h41 2073 45 := (y_h46 2073 45).trans (if_neg (fun e => (bRo.ne H_2073 H_r42 (by decide)) e.1))
                  refine yG.load xak rfl (fun _ _ => rfl) (v := yR 2073) rfl rfl ?_
                  refine yG.getO A_h46.1 (w_M_troubleOver W H_2073) rfl rfl (fun r47 H_r47 O_r47 q_r47 => ?_)
                  obtain rfl := u_M_troubleOver W H_r47
                  refine yG.load xak rfl (fun _ _ => rfl) (v := yR 2073) rfl rfl ?_
                  refine yG.getI A_h46.1 (w_M_troubles W H_2073) rfl rfl (fun z48 e_z48 i_z48 l_z48 u_z48 => ?_)
                  rw [show (z48 : Int) = gg0 by omega]
                  refine yG.load xak rfl (fun _ _ => rfl) (v := yR 2073) rfl rfl ?_
                  refine yG.getI A_h46.1 (w_M_overCount W H_2073) rfl rfl (fun z49 e_z49 i_z49 l_z49 u_z49 => ?_)
                  rw [show (z49 : Int) = z16 by omega]
                  refine yG.iast A_h46.1 (v_M_troubleOver W H_r47) (W.2.1 _ _ H_r47 (by decide) (by decide)) rfl (by omega) (by omega) ⟨by omega, by omega⟩ (by omega) (by omega) (fun h50 T_h50 b_h50 f_h50 y_h50 => ?_)
                  have M_bRg_h50 := M_bRg_h46.fr (bAx.put (Wl := [(182687704666362864775460604089535377456991567872, 256)]) (bAx.rf A_h46.1) T_h50 b_h50 f_h50 H_r47 (bAll_ok (by decide) _)) (by decide)
                  have A_h50 := A_h46.put T_h50 b_h50 f_h50 H_r47 (bAll_ok (by decide) _)
                  have : ys h50 2073 50 = ys h46 2073 50 := (y_h50 2073 50).trans (if_neg (fun e => (bRo.ne H_2073 H_r47 (by decide)) e.1))
                  have qq12 : zsl h50 2073 33 = yR 2099 := ((f_h50 2073 33).trans (if_neg (fun e => (bRo.ne H_2073 H_r47 (by decide)) e.1))).trans qq11
                  have : ys h50 2073 47 = ys h46 2073 47 := (y_h50 2073 47).trans (if_neg (fun e => (bRo.ne H_2073 H_r47 (by decide)) e.1))
                  have : ys h50 2073 45 = ys h46 2073 45 := (y_h50 2073 45).trans (if_neg (fun e => (bRo.ne H_2073 H_r47 (by decide)) e.1))
                  refine yG.load xak rfl (fun _ _ => rfl) (v := yR 2073) rfl rfl ?_
                  refine yG.step (pc' := 233) (stk' := [yR 2073, yR 2073]) rfl (fun _ _ => rfl) ?_
                  refine yG.getI A_h50.1 (w_M_troubles W H_2073) rfl rfl (fun z51 e_z51 i_z51 l_z51 u_z51 => ?_)
                  rw [show (z51 : Int) = gg0 by omega]
                  refine yG.load xik rfl (fun _ _ => rfl) (v := yI (3)) rfl rfl ?_
                  refine yG.ifz rfl (t := 245) rfl ⟨by omega, by omega⟩ (fun c52 => ?_) (fun c52 => ?_)
                  · have c52 : (3 : Int) ≤ 0 := c52
                    exfalso; omega
                  · have c52 : (3 : Int) > 0 := c52
                    refine yG.num (c := 1) rfl (fun _ _ => rfl) (by decide) ?_
                    refine yG.goto rfl (t := 246) rfl ?_
                    refine yG.iadd rfl ?_
                    refine yG.putI A_h50.1 (w_M_troubles W H_2073) (W.2.1 _ _ H_2073 (by decide) (by decide)) rfl rfl (.inl rfl) ⟨by omega, by omega⟩ (by omega) (by omega) (fun h53 T_h53 b_h53 f_h53 y_h53 => ?_)
                    have M_bRg_h53 := M_bRg_h50.fr (bAx.put (Wl := [(83076749736557242056487941267521536, 50)]) (bAx.rf A_h50.1) T_h53 b_h53 f_h53 H_2073 (by decide)) (by decide)
                    have A_h53 := A_h50.put T_h53 b_h53 f_h53 H_2073 (by decide)
                    have qq13 : zsl h53 2073 33 = yR 2099 := ((f_h53 2073 33).trans (if_neg (fun e => absurd e.2 (by decide)))).trans qq12
                    have : ys h53 2073 47 = ys h50 2073 47 := (y_h53 2073 47).trans (if_neg (fun e => absurd e.2 (by decide)))
                    have : ys h53 2073 45 = ys h50 2073 45 := (y_h53 2073 45).trans (if_neg (fun e => absurd e.2 (by decide)))
                    have : ys h53 2073 50 = gg0 + 1 := (y_h53 2073 50).trans (if_pos ⟨rfl, rfl⟩)
                    refine yG.iinc rfl (a := a4) rfl (L' := [(4, yI (a4 + 1)), (5, yI (3)), (0, yR 2073), (1, yI (a1)), (2, yI (a2)), (3, yI (a3))]) rfl ?_
                    refine yG.goto rfl (t := 98) rfl ?_
                    exact yG.mono (yG.sub (i_98 (a1) (a2) (a3) (a4 + 1) (ys h53 2073 50) h53 A_h53 M_bRg_h53  rfl (by omega) (by omega) (by omega) (by omega) (by omega) (by omega) (by omega) (by omega) (by omega) (by omega) (by omega) (by omega)) (ySub.cons rfl (ySub.cons rfl (ySub.cons rfl (ySub.cons rfl (ySub.cons rfl (ySub.nil))))))) (by omega)
              · have c15 : (z14 : Int) > a2 := c15
                refine yG.num (c := 2) rfl (fun _ _ => rfl) (by decide) ?_
                refine yG.goto rfl (t := 179) rfl ?_
                refine yG.store1 xik (L' := [(5, yI (2)), (0, yR 2073), (1, yI (a1)), (2, yI (a2)), (3, yI (a3)), (4, yI (a4))]) rfl (fun _ _ => rfl) rfl rfl ?_
                refine yG.load xak rfl (fun _ _ => rfl) (v := yR 2073) rfl rfl ?_
                refine yG.getO A_h11.1 (w_M_troubleLine W H_2073) rfl rfl (fun r54 H_r54 O_r54 q_r54 => ?_)
                obtain rfl := u_M_troubleLine W H_r54
                refine yG.load xak rfl (fun _ _ => rfl) (v := yR 2073) rfl rfl ?_
                refine yG.getI A_h11.1 (w_M_troubles W H_2073) rfl rfl (fun z55 e_z55 i_z55 l_z55 u_z55 => ?_)
                rw [show (z55 : Int) = gg0 by omega]
                refine yG.load xik rfl (fun _ _ => rfl) (v := yI (a4)) rfl rfl ?_
                refine yG.iast A_h11.1 (v_M_troubleLine W H_r54) (W.2.1 _ _ H_r54 (by decide) (by decide)) rfl (by omega) (by omega) ⟨by omega, by omega⟩ (by omega) (by omega) (fun h56 T_h56 b_h56 f_h56 y_h56 => ?_)
                have M_bRg_h56 := M_bRg_h11.fr (bAx.put (Wl := [(22835963083295358096932575511191922182123945984, 256)]) (bAx.rf A_h11.1) T_h56 b_h56 f_h56 H_r54 (bAll_ok (by decide) _)) (by decide)
                have A_h56 := A_h11.put T_h56 b_h56 f_h56 H_r54 (bAll_ok (by decide) _)
                have : ys h56 2073 50 = ys h11 2073 50 := (y_h56 2073 50).trans (if_neg (fun e => (bRo.ne H_2073 H_r54 (by decide)) e.1))
                have qq14 : zsl h56 2073 33 = yR 2099 := ((f_h56 2073 33).trans (if_neg (fun e => (bRo.ne H_2073 H_r54 (by decide)) e.1))).trans qq3
                have : ys h56 2073 47 = ys h11 2073 47 := (y_h56 2073 47).trans (if_neg (fun e => (bRo.ne H_2073 H_r54 (by decide)) e.1))
                refine yG.load xak rfl (fun _ _ => rfl) (v := yR 2073) rfl rfl ?_
                refine yG.getO A_h56.1 (w_M_troubleSort W H_2073) rfl rfl (fun r57 H_r57 O_r57 q_r57 => ?_)
                obtain rfl := u_M_troubleSort W H_r57
                refine yG.load xak rfl (fun _ _ => rfl) (v := yR 2073) rfl rfl ?_
                refine yG.getI A_h56.1 (w_M_troubles W H_2073) rfl rfl (fun z58 e_z58 i_z58 l_z58 u_z58 => ?_)
                rw [show (z58 : Int) = gg0 by omega]
                refine yG.load xik rfl (fun _ _ => rfl) (v := yI (2)) rfl rfl ?_
                refine yG.iast A_h56.1 (v_M_troubleSort W H_r57) (W.2.1 _ _ H_r57 (by decide) (by decide)) rfl (by omega) (by omega) ⟨by omega, by omega⟩ (by omega) (by omega) (fun h59 T_h59 b_h59 f_h59 y_h59 => ?_)
                have M_bRg_h59 := M_bRg_h56.fr (bAx.put (Wl := [(45671926166590716193865151022383844364247891968, 256)]) (bAx.rf A_h56.1) T_h59 b_h59 f_h59 H_r57 (bAll_ok (by decide) _)) (by decide)
                have A_h59 := A_h56.put T_h59 b_h59 f_h59 H_r57 (bAll_ok (by decide) _)
                have : ys h59 2073 50 = ys h56 2073 50 := (y_h59 2073 50).trans (if_neg (fun e => (bRo.ne H_2073 H_r57 (by decide)) e.1))
                have qq15 : zsl h59 2073 33 = yR 2099 := ((f_h59 2073 33).trans (if_neg (fun e => (bRo.ne H_2073 H_r57 (by decide)) e.1))).trans qq14
                have : ys h59 2073 47 = ys h56 2073 47 := (y_h59 2073 47).trans (if_neg (fun e => (bRo.ne H_2073 H_r57 (by decide)) e.1))
                refine yG.load xak rfl (fun _ _ => rfl) (v := yR 2073) rfl rfl ?_
                refine yG.getO A_h59.1 (w_M_troubleLost W H_2073) rfl rfl (fun r60 H_r60 O_r60 q_r60 => ?_)
                obtain rfl := u_M_troubleLost W H_r60
                refine yG.load xak rfl (fun _ _ => rfl) (v := yR 2073) rfl rfl ?_
                refine yG.getI A_h59.1 (w_M_troubles W H_2073) rfl rfl (fun z61 e_z61 i_z61 l_z61 u_z61 => ?_)
                rw [show (z61 : Int) = gg0 by omega]
                refine yG.load xak rfl (fun _ _ => rfl) (v := yR 2073) rfl rfl ?_
                refine yG.getI A_h59.1 (w_M_lost W H_2073) rfl rfl (fun z62 e_z62 i_z62 l_z62 u_z62 => ?_)
                rw [show (z62 : Int) = z14 by omega]
                refine yG.load xik rfl (fun _ _ => rfl) (v := yI (a2)) rfl rfl ?_
                refine yG.isub rfl ?_
                obtain ⟨z63, e_z63, l_z63, u_z63⟩ := ywI (z14 - a2)
                rw [e_z63]
                refine yG.iast A_h59.1 (v_M_troubleLost W H_r60) (W.2.1 _ _ H_r60 (by decide) (by decide)) rfl (by omega) (by omega) ⟨by omega, by omega⟩ (by omega) (by omega) (fun h64 T_h64 b_h64 f_h64 y_h64 => ?_)
                have M_bRg_h64 := M_bRg_h59.fr (bAx.put (Wl := [(91343852333181432387730302044767688728495783936, 256)]) (bAx.rf A_h59.1) T_h64 b_h64 f_h64 H_r60 (bAll_ok (by decide) _)) (by decide)
                have A_h64 := A_h59.put T_h64 b_h64 f_h64 H_r60 (bAll_ok (by decide) _)
                have : ys h64 2073 50 = ys h59 2073 50 := (y_h64 2073 50).trans (if_neg (fun e => (bRo.ne H_2073 H_r60 (by decide)) e.1))
                have qq16 : zsl h64 2073 33 = yR 2099 := ((f_h64 2073 33).trans (if_neg (fun e => (bRo.ne H_2073 H_r60 (by decide)) e.1))).trans qq15
                have : ys h64 2073 47 = ys h59 2073 47 := (y_h64 2073 47).trans (if_neg (fun e => (bRo.ne H_2073 H_r60 (by decide)) e.1))
                refine yG.load xak rfl (fun _ _ => rfl) (v := yR 2073) rfl rfl ?_
                refine yG.getO A_h64.1 (w_M_troubleOver W H_2073) rfl rfl (fun r65 H_r65 O_r65 q_r65 => ?_)
                obtain rfl := u_M_troubleOver W H_r65
                refine yG.load xak rfl (fun _ _ => rfl) (v := yR 2073) rfl rfl ?_
                refine yG.getI A_h64.1 (w_M_troubles W H_2073) rfl rfl (fun z66 e_z66 i_z66 l_z66 u_z66 => ?_)
                rw [show (z66 : Int) = gg0 by omega]
                refine yG.load xak rfl (fun _ _ => rfl) (v := yR 2073) rfl rfl ?_
                refine yG.getI A_h64.1 (w_M_overCount W H_2073) rfl rfl (fun z67 e_z67 i_z67 l_z67 u_z67 => ?_)
                refine yG.iast A_h64.1 (v_M_troubleOver W H_r65) (W.2.1 _ _ H_r65 (by decide) (by decide)) rfl (by omega) (by omega) ⟨by omega, by omega⟩ (by omega) (by omega) (fun h68 T_h68 b_h68 f_h68 y_h68 => ?_)
                have M_bRg_h68 := M_bRg_h64.fr (bAx.put (Wl := [(182687704666362864775460604089535377456991567872, 256)]) (bAx.rf A_h64.1) T_h68 b_h68 f_h68 H_r65 (bAll_ok (by decide) _)) (by decide)
                have A_h68 := A_h64.put T_h68 b_h68 f_h68 H_r65 (bAll_ok (by decide) _)
                have : ys h68 2073 50 = ys h64 2073 50 := (y_h68 2073 50).trans (if_neg (fun e => (bRo.ne H_2073 H_r65 (by decide)) e.1))
                have qq17 : zsl h68 2073 33 = yR 2099 := ((f_h68 2073 33).trans (if_neg (fun e => (bRo.ne H_2073 H_r65 (by decide)) e.1))).trans qq16
                have : ys h68 2073 47 = ys h64 2073 47 := (y_h68 2073 47).trans (if_neg (fun e => (bRo.ne H_2073 H_r65 (by decide)) e.1))
                have : ys h68 2073 45 = ys h64 2073 45 := (y_h68 2073 45).trans (if_neg (fun e => (bRo.ne H_2073 H_r65 (by decide)) e.1))
                refine yG.load xak rfl (fun _ _ => rfl) (v := yR 2073) rfl rfl ?_
                refine yG.step (pc' := 233) (stk' := [yR 2073, yR 2073]) rfl (fun _ _ => rfl) ?_
                refine yG.getI A_h68.1 (w_M_troubles W H_2073) rfl rfl (fun z69 e_z69 i_z69 l_z69 u_z69 => ?_)
                rw [show (z69 : Int) = gg0 by omega]
                refine yG.load xik rfl (fun _ _ => rfl) (v := yI (2)) rfl rfl ?_
                refine yG.ifz rfl (t := 245) rfl ⟨by omega, by omega⟩ (fun c70 => ?_) (fun c70 => ?_)
                · have c70 : (2 : Int) ≤ 0 := c70
                  exfalso; omega
                · have c70 : (2 : Int) > 0 := c70
                  refine yG.num (c := 1) rfl (fun _ _ => rfl) (by decide) ?_
                  refine yG.goto rfl (t := 246) rfl ?_
                  refine yG.iadd rfl ?_
                  refine yG.putI A_h68.1 (w_M_troubles W H_2073) (W.2.1 _ _ H_2073 (by decide) (by decide)) rfl rfl (.inl rfl) ⟨by omega, by omega⟩ (by omega) (by omega) (fun h71 T_h71 b_h71 f_h71 y_h71 => ?_)
                  have M_bRg_h71 := M_bRg_h68.fr (bAx.put (Wl := [(83076749736557242056487941267521536, 50)]) (bAx.rf A_h68.1) T_h71 b_h71 f_h71 H_2073 (by decide)) (by decide)
                  have A_h71 := A_h68.put T_h71 b_h71 f_h71 H_2073 (by decide)
                  have qq18 : zsl h71 2073 33 = yR 2099 := ((f_h71 2073 33).trans (if_neg (fun e => absurd e.2 (by decide)))).trans qq17
                  have : ys h71 2073 47 = ys h68 2073 47 := (y_h71 2073 47).trans (if_neg (fun e => absurd e.2 (by decide)))
                  have : ys h71 2073 45 = ys h68 2073 45 := (y_h71 2073 45).trans (if_neg (fun e => absurd e.2 (by decide)))
                  have : ys h71 2073 50 = gg0 + 1 := (y_h71 2073 50).trans (if_pos ⟨rfl, rfl⟩)
                  refine yG.iinc rfl (a := a4) rfl (L' := [(4, yI (a4 + 1)), (5, yI (2)), (0, yR 2073), (1, yI (a1)), (2, yI (a2)), (3, yI (a3))]) rfl ?_
                  refine yG.goto rfl (t := 98) rfl ?_
                  exact yG.mono (yG.sub (i_98 (a1) (a2) (a3) (a4 + 1) (ys h71 2073 50) h71 A_h71 M_bRg_h71  rfl (by omega) (by omega) (by omega) (by omega) (by omega) (by omega) (by omega) (by omega) (by omega) (by omega) (by omega) (by omega)) (ySub.cons rfl (ySub.cons rfl (ySub.cons rfl (ySub.cons rfl (ySub.cons rfl (ySub.nil))))))) (by omega)
            · have c13 : (z12 : Int) > a1 := c13
              refine yG.num (c := 1) rfl (fun _ _ => rfl) (by decide) ?_
              refine yG.goto rfl (t := 179) rfl ?_
              refine yG.store1 xik (L' := [(5, yI (1)), (0, yR 2073), (1, yI (a1)), (2, yI (a2)), (3, yI (a3)), (4, yI (a4))]) rfl (fun _ _ => rfl) rfl rfl ?_
              refine yG.load xak rfl (fun _ _ => rfl) (v := yR 2073) rfl rfl ?_
              refine yG.getO A_h11.1 (w_M_troubleLine W H_2073) rfl rfl (fun r72 H_r72 O_r72 q_r72 => ?_)
              obtain rfl := u_M_troubleLine W H_r72
              refine yG.load xak rfl (fun _ _ => rfl) (v := yR 2073) rfl rfl ?_
              refine yG.getI A_h11.1 (w_M_troubles W H_2073) rfl rfl (fun z73 e_z73 i_z73 l_z73 u_z73 => ?_)
              rw [show (z73 : Int) = gg0 by omega]
              refine yG.load xik rfl (fun _ _ => rfl) (v := yI (a4)) rfl rfl ?_
              refine yG.iast A_h11.1 (v_M_troubleLine W H_r72) (W.2.1 _ _ H_r72 (by decide) (by decide)) rfl (by omega) (by omega) ⟨by omega, by omega⟩ (by omega) (by omega) (fun h74 T_h74 b_h74 f_h74 y_h74 => ?_)
              have M_bRg_h74 := M_bRg_h11.fr (bAx.put (Wl := [(22835963083295358096932575511191922182123945984, 256)]) (bAx.rf A_h11.1) T_h74 b_h74 f_h74 H_r72 (bAll_ok (by decide) _)) (by decide)
              have A_h74 := A_h11.put T_h74 b_h74 f_h74 H_r72 (bAll_ok (by decide) _)
              have : ys h74 2073 50 = ys h11 2073 50 := (y_h74 2073 50).trans (if_neg (fun e => (bRo.ne H_2073 H_r72 (by decide)) e.1))
              have qq19 : zsl h74 2073 33 = yR 2099 := ((f_h74 2073 33).trans (if_neg (fun e => (bRo.ne H_2073 H_r72 (by decide)) e.1))).trans qq3
              refine yG.load xak rfl (fun _ _ => rfl) (v := yR 2073) rfl rfl ?_
              refine yG.getO A_h74.1 (w_M_troubleSort W H_2073) rfl rfl (fun r75 H_r75 O_r75 q_r75 => ?_)
              obtain rfl := u_M_troubleSort W H_r75
              refine yG.load xak rfl (fun _ _ => rfl) (v := yR 2073) rfl rfl ?_
              refine yG.getI A_h74.1 (w_M_troubles W H_2073) rfl rfl (fun z76 e_z76 i_z76 l_z76 u_z76 => ?_)
              rw [show (z76 : Int) = gg0 by omega]
              refine yG.load xik rfl (fun _ _ => rfl) (v := yI (1)) rfl rfl ?_
              refine yG.iast A_h74.1 (v_M_troubleSort W H_r75) (W.2.1 _ _ H_r75 (by decide) (by decide)) rfl (by omega) (by omega) ⟨by omega, by omega⟩ (by omega) (by omega) (fun h77 T_h77 b_h77 f_h77 y_h77 => ?_)
              have M_bRg_h77 := M_bRg_h74.fr (bAx.put (Wl := [(45671926166590716193865151022383844364247891968, 256)]) (bAx.rf A_h74.1) T_h77 b_h77 f_h77 H_r75 (bAll_ok (by decide) _)) (by decide)
              have A_h77 := A_h74.put T_h77 b_h77 f_h77 H_r75 (bAll_ok (by decide) _)
              have : ys h77 2073 50 = ys h74 2073 50 := (y_h77 2073 50).trans (if_neg (fun e => (bRo.ne H_2073 H_r75 (by decide)) e.1))
              have qq20 : zsl h77 2073 33 = yR 2099 := ((f_h77 2073 33).trans (if_neg (fun e => (bRo.ne H_2073 H_r75 (by decide)) e.1))).trans qq19
              refine yG.load xak rfl (fun _ _ => rfl) (v := yR 2073) rfl rfl ?_
              refine yG.getO A_h77.1 (w_M_troubleLost W H_2073) rfl rfl (fun r78 H_r78 O_r78 q_r78 => ?_)
              obtain rfl := u_M_troubleLost W H_r78
              refine yG.load xak rfl (fun _ _ => rfl) (v := yR 2073) rfl rfl ?_
              refine yG.getI A_h77.1 (w_M_troubles W H_2073) rfl rfl (fun z79 e_z79 i_z79 l_z79 u_z79 => ?_)
              rw [show (z79 : Int) = gg0 by omega]
              refine yG.load xak rfl (fun _ _ => rfl) (v := yR 2073) rfl rfl ?_
              refine yG.getI A_h77.1 (w_M_lost W H_2073) rfl rfl (fun z80 e_z80 i_z80 l_z80 u_z80 => ?_)
              refine yG.load xik rfl (fun _ _ => rfl) (v := yI (a2)) rfl rfl ?_
              refine yG.isub rfl ?_
              obtain ⟨z81, e_z81, l_z81, u_z81⟩ := ywI (z80 - a2)
              rw [e_z81]
              refine yG.iast A_h77.1 (v_M_troubleLost W H_r78) (W.2.1 _ _ H_r78 (by decide) (by decide)) rfl (by omega) (by omega) ⟨by omega, by omega⟩ (by omega) (by omega) (fun h82 T_h82 b_h82 f_h82 y_h82 => ?_)
              have M_bRg_h82 := M_bRg_h77.fr (bAx.put (Wl := [(91343852333181432387730302044767688728495783936, 256)]) (bAx.rf A_h77.1) T_h82 b_h82 f_h82 H_r78 (bAll_ok (by decide) _)) (by decide)
              have A_h82 := A_h77.put T_h82 b_h82 f_h82 H_r78 (bAll_ok (by decide) _)
              have : ys h82 2073 50 = ys h77 2073 50 := (y_h82 2073 50).trans (if_neg (fun e => (bRo.ne H_2073 H_r78 (by decide)) e.1))
              have qq21 : zsl h82 2073 33 = yR 2099 := ((f_h82 2073 33).trans (if_neg (fun e => (bRo.ne H_2073 H_r78 (by decide)) e.1))).trans qq20
              have : ys h82 2073 47 = ys h77 2073 47 := (y_h82 2073 47).trans (if_neg (fun e => (bRo.ne H_2073 H_r78 (by decide)) e.1))
              refine yG.load xak rfl (fun _ _ => rfl) (v := yR 2073) rfl rfl ?_
              refine yG.getO A_h82.1 (w_M_troubleOver W H_2073) rfl rfl (fun r83 H_r83 O_r83 q_r83 => ?_)
              obtain rfl := u_M_troubleOver W H_r83
              refine yG.load xak rfl (fun _ _ => rfl) (v := yR 2073) rfl rfl ?_
              refine yG.getI A_h82.1 (w_M_troubles W H_2073) rfl rfl (fun z84 e_z84 i_z84 l_z84 u_z84 => ?_)
              rw [show (z84 : Int) = gg0 by omega]
              refine yG.load xak rfl (fun _ _ => rfl) (v := yR 2073) rfl rfl ?_
              refine yG.getI A_h82.1 (w_M_overCount W H_2073) rfl rfl (fun z85 e_z85 i_z85 l_z85 u_z85 => ?_)
              refine yG.iast A_h82.1 (v_M_troubleOver W H_r83) (W.2.1 _ _ H_r83 (by decide) (by decide)) rfl (by omega) (by omega) ⟨by omega, by omega⟩ (by omega) (by omega) (fun h86 T_h86 b_h86 f_h86 y_h86 => ?_)
              have M_bRg_h86 := M_bRg_h82.fr (bAx.put (Wl := [(182687704666362864775460604089535377456991567872, 256)]) (bAx.rf A_h82.1) T_h86 b_h86 f_h86 H_r83 (bAll_ok (by decide) _)) (by decide)
              have A_h86 := A_h82.put T_h86 b_h86 f_h86 H_r83 (bAll_ok (by decide) _)
              have : ys h86 2073 50 = ys h82 2073 50 := (y_h86 2073 50).trans (if_neg (fun e => (bRo.ne H_2073 H_r83 (by decide)) e.1))
              have qq22 : zsl h86 2073 33 = yR 2099 := ((f_h86 2073 33).trans (if_neg (fun e => (bRo.ne H_2073 H_r83 (by decide)) e.1))).trans qq21
              have : ys h86 2073 47 = ys h82 2073 47 := (y_h86 2073 47).trans (if_neg (fun e => (bRo.ne H_2073 H_r83 (by decide)) e.1))
              have : ys h86 2073 45 = ys h82 2073 45 := (y_h86 2073 45).trans (if_neg (fun e => (bRo.ne H_2073 H_r83 (by decide)) e.1))
              refine yG.load xak rfl (fun _ _ => rfl) (v := yR 2073) rfl rfl ?_
              refine yG.step (pc' := 233) (stk' := [yR 2073, yR 2073]) rfl (fun _ _ => rfl) ?_
              refine yG.getI A_h86.1 (w_M_troubles W H_2073) rfl rfl (fun z87 e_z87 i_z87 l_z87 u_z87 => ?_)
              rw [show (z87 : Int) = gg0 by omega]
              refine yG.load xik rfl (fun _ _ => rfl) (v := yI (1)) rfl rfl ?_
              refine yG.ifz rfl (t := 245) rfl ⟨by omega, by omega⟩ (fun c88 => ?_) (fun c88 => ?_)
              · have c88 : (1 : Int) ≤ 0 := c88
                exfalso; omega
              · have c88 : (1 : Int) > 0 := c88
                refine yG.num (c := 1) rfl (fun _ _ => rfl) (by decide) ?_
                refine yG.goto rfl (t := 246) rfl ?_
                refine yG.iadd rfl ?_
                refine yG.putI A_h86.1 (w_M_troubles W H_2073) (W.2.1 _ _ H_2073 (by decide) (by decide)) rfl rfl (.inl rfl) ⟨by omega, by omega⟩ (by omega) (by omega) (fun h89 T_h89 b_h89 f_h89 y_h89 => ?_)
                have M_bRg_h89 := M_bRg_h86.fr (bAx.put (Wl := [(83076749736557242056487941267521536, 50)]) (bAx.rf A_h86.1) T_h89 b_h89 f_h89 H_2073 (by decide)) (by decide)
                have A_h89 := A_h86.put T_h89 b_h89 f_h89 H_2073 (by decide)
                have qq23 : zsl h89 2073 33 = yR 2099 := ((f_h89 2073 33).trans (if_neg (fun e => absurd e.2 (by decide)))).trans qq22
                have : ys h89 2073 47 = ys h86 2073 47 := (y_h89 2073 47).trans (if_neg (fun e => absurd e.2 (by decide)))
                have : ys h89 2073 45 = ys h86 2073 45 := (y_h89 2073 45).trans (if_neg (fun e => absurd e.2 (by decide)))
                have : ys h89 2073 50 = gg0 + 1 := (y_h89 2073 50).trans (if_pos ⟨rfl, rfl⟩)
                refine yG.iinc rfl (a := a4) rfl (L' := [(4, yI (a4 + 1)), (5, yI (1)), (0, yR 2073), (1, yI (a1)), (2, yI (a2)), (3, yI (a3))]) rfl ?_
                refine yG.goto rfl (t := 98) rfl ?_
                exact yG.mono (yG.sub (i_98 (a1) (a2) (a3) (a4 + 1) (ys h89 2073 50) h89 A_h89 M_bRg_h89  rfl (by omega) (by omega) (by omega) (by omega) (by omega) (by omega) (by omega) (by omega) (by omega) (by omega) (by omega) (by omega)) (ySub.cons rfl (ySub.cons rfl (ySub.cons rfl (ySub.cons rfl (ySub.cons rfl (ySub.nil))))))) (by omega)
          · have c6 : (z5 : Int) = 0 := c6
            refine yG.goto rfl (t := 250) rfl ?_
            refine yG.iinc rfl (a := a4) rfl (L' := [(4, yI (a4 + 1)), (0, yR 2073), (1, yI (a1)), (2, yI (a2)), (3, yI (a3))]) rfl ?_
            refine yG.goto rfl (t := 98) rfl ?_
            exact yG.mono (yG.sub (i_98 (a1) (a2) (a3) (a4 + 1) (ys hq 2073 50) hq A_hq M_bRg_hq  rfl (by omega) (by omega) (by omega) (by omega) (by omega) (by omega) (by omega) (by omega) (by omega) (by omega) (by omega) (by omega)) (ySub.cons rfl (ySub.cons rfl (ySub.cons rfl (ySub.cons rfl (ySub.cons rfl (ySub.nil))))))) (by omega)
  refine yC.of (M := (xt_X13_screenAll, (6, (0, (14, []))))) rfl rfl (N := 71495) (yfuel (by decide)) ?_
  show yG 89 xfts (xcall 89 xfts xpools xms (d + 8)) (xpool xp_RX13) [] xt_X13_screenAll (yP 0 (fun rv hp' => (fun rv hp' => (rv = none ∧ True) ∧ bAx G [(83076749736557242056487941267521536, 10), (83076749736557242056487941267521536, 11), (83076749736557242056487941267521536, 38), (83076749736557242056487941267521536, 40), (83076749736557242056487941267521536, 45), (83076749736557242056487941267521536, 46), (83076749736557242056487941267521536, 47), (83076749736557242056487941267521536, 49), (83076749736557242056487941267521536, 50), (365372622079692126644493865193548305418028056576, 256)] hp hp') rv hp' ∧ bRg G hp')) 71495 0 [(0, yR 2073)] [] hp
  obtain ⟨i_40, i_98⟩ := H 904
  obtain ⟨gg0, E_0⟩ : ∃ z : Int, ys hp 2073 50 = z := ⟨_, rfl⟩
  obtain ⟨-, -, g_0l, g_0u⟩ := (w_M_troubles W H_2073).int hT
  refine yG.load xak rfl (fun _ _ => rfl) (v := yR 2073) rfl rfl ?_
  refine yG.getI A_hp.1 (w_M_hasTroubles W H_2073) rfl rfl (fun z1 e_z1 i_z1 l_z1 u_z1 => ?_)
  refine yG.ifz rfl (t := 8) rfl ⟨by omega, by omega⟩ (fun c2 => ?_) (fun c2 => ?_)
  · have c2 : (z1 : Int) = 0 := c2
    refine yG.load xak rfl (fun _ _ => rfl) (v := yR 2073) rfl rfl ?_
    refine yG.num (c := 1) rfl (fun _ _ => rfl) (by decide) ?_
    refine yG.putI A_hp.1 (w_M_hasTroubles W H_2073) (W.2.1 _ _ H_2073 (by decide) (by decide)) rfl rfl (.inr ⟨rfl, rfl, rfl⟩) ⟨by omega, by omega⟩ (by omega) (by omega) (fun h3 T_h3 b_h3 f_h3 y_h3 => ?_)
    have M_bRg_h3 := M_bRg_hp.fr (bAx.put (Wl := [(83076749736557242056487941267521536, 49)]) (bAx.rf A_hp.1) T_h3 b_h3 f_h3 H_2073 (by decide)) (by decide)
    have A_h3 := A_hp.put T_h3 b_h3 f_h3 H_2073 (by decide)
    have : ys h3 2073 50 = ys hp 2073 50 := (y_h3 2073 50).trans (if_neg (fun e => absurd e.2 (by decide)))
    refine yG.load xak rfl (fun _ _ => rfl) (v := yR 2073) rfl rfl ?_
    refine yG.invV (rest := []) A_h3.1 (bOb (d_M W) H_2073) rfl rfl rfl rfl (c_GModel_netFlows W d A_h3.1 M_bRg_h3 (M_bWf.fr A_h3 (by decide)) (M_bPr.fr A_h3 (by decide)) H_2073) (fun rv h4 q9 => ?_)
    obtain ⟨q9, M_bRg_h4⟩ := q9
    obtain ⟨⟨rfl, R_z5⟩, B_h4⟩ := q9
    have A_h4 := A_h3.tr B_h4 (by decide)
    have : ys h4 2073 50 = ys h3 2073 50 := B_h4.ys H_2073 (by decide)
    show yG _ _ _ _ _ _ _ _ _ _ [] _
    refine yG.load xak rfl (fun _ _ => rfl) (v := yR 2073) rfl rfl ?_
    refine yG.getI A_h4.1 (w_M_stuckCount W H_2073) rfl rfl (fun z6 e_z6 i_z6 l_z6 u_z6 => ?_)
    refine yG.store1 xik (L' := [(1, yI (z6)), (0, yR 2073)]) rfl (fun _ _ => rfl) rfl rfl ?_
    refine yG.load xak rfl (fun _ _ => rfl) (v := yR 2073) rfl rfl ?_
    refine yG.getI A_h4.1 (w_M_lost W H_2073) rfl rfl (fun z7 e_z7 i_z7 l_z7 u_z7 => ?_)
    refine yG.store1 xik (L' := [(2, yI (z7)), (1, yI (z6)), (0, yR 2073)]) rfl (fun _ _ => rfl) rfl rfl ?_
    refine yG.load xak rfl (fun _ _ => rfl) (v := yR 2073) rfl rfl ?_
    refine yG.getI A_h4.1 (w_M_overCount W H_2073) rfl rfl (fun z8 e_z8 i_z8 l_z8 u_z8 => ?_)
    refine yG.store1 xik (L' := [(3, yI (z8)), (2, yI (z7)), (1, yI (z6)), (0, yR 2073)]) rfl (fun _ _ => rfl) rfl rfl ?_
    refine yG.load xak rfl (fun _ _ => rfl) (v := yR 2073) rfl rfl ?_
    refine yG.num (c := 0) rfl (fun _ _ => rfl) (by decide) ?_
    refine yG.putI A_h4.1 (w_M_troubles W H_2073) (W.2.1 _ _ H_2073 (by decide) (by decide)) rfl rfl (.inl rfl) ⟨by omega, by omega⟩ (by omega) (by omega) (fun h9 T_h9 b_h9 f_h9 y_h9 => ?_)
    have M_bRg_h9 := M_bRg_h4.fr (bAx.put (Wl := [(83076749736557242056487941267521536, 50)]) (bAx.rf A_h4.1) T_h9 b_h9 f_h9 H_2073 (by decide)) (by decide)
    have A_h9 := A_h4.put T_h9 b_h9 f_h9 H_2073 (by decide)
    have : ys h9 2073 50 = 0 := (y_h9 2073 50).trans (if_pos ⟨rfl, rfl⟩)
    refine yG.num (c := 0) rfl (fun _ _ => rfl) (by decide) ?_
    refine yG.store1 xik (L' := [(4, yI (0)), (3, yI (z8)), (2, yI (z7)), (1, yI (z6)), (0, yR 2073)]) rfl (fun _ _ => rfl) rfl rfl ?_
    exact yG.mono (yG.sub (i_40 (z6) (z7) (z8) (0) (ys h9 2073 50) h9 A_h9 M_bRg_h9  rfl (by omega) (by omega) (by omega) (by omega) (by omega) (by omega) (by omega) (by omega) (by omega) (by omega) (by omega)) (ySub.cons rfl (ySub.cons rfl (ySub.cons rfl (ySub.cons rfl (ySub.cons rfl (ySub.nil))))))) (by omega)
  · have c2 : (z1 : Int) ≠ 0 := c2
    refine yG.ret rfl (fun _ _ => rfl) ?_
    exact (yP.void ⟨⟨⟨rfl, trivial⟩, A_hp⟩, M_bRg_hp⟩)
theorem c_GModel_screen {hp : xH} (W : mW G) (d : Nat) (hT : zTy G hp) (M_bRg : bRg G hp) (M_bWf : bWf G hp) (M_bPr : bPr G hp) (H_2073 : bRo G 116 2073) : yC (xcall 89 xfts xpools xms (d + 10)) 500 [yR 2073] hp (fun rv hp' => (bQi G [(83076749736557242056487941267521536, 0), (83076749736557242056487941267521536, 10), (83076749736557242056487941267521536, 11), (83076749736557242056487941267521536, 38), (83076749736557242056487941267521536, 40), (83076749736557242056487941267521536, 45), (83076749736557242056487941267521536, 46), (83076749736557242056487941267521536, 47), (83076749736557242056487941267521536, 49), (83076749736557242056487941267521536, 50), (365372622079692126644493865193548305418028056576, 256)] hp 0 20 (fun _ => True)) rv hp' ∧ bRg G hp') := by
  have A_hp : bAx G [(83076749736557242056487941267521536, 0), (83076749736557242056487941267521536, 10), (83076749736557242056487941267521536, 11), (83076749736557242056487941267521536, 38), (83076749736557242056487941267521536, 40), (83076749736557242056487941267521536, 45), (83076749736557242056487941267521536, 46), (83076749736557242056487941267521536, 47), (83076749736557242056487941267521536, 49), (83076749736557242056487941267521536, 50), (365372622079692126644493865193548305418028056576, 256)] hp hp := bAx.rf hT
  have M_bRg_hp := M_bRg
  refine yC.of (M := (xt_X13_screen, (1, (1, (14, []))))) rfl rfl (N := 30) (yfuel (by decide)) ?_
  show yG 89 xfts (xcall 89 xfts xpools xms (d + 9)) (xpool xp_RX13) [] xt_X13_screen (yP 1 (fun rv hp' => (bQi G [(83076749736557242056487941267521536, 0), (83076749736557242056487941267521536, 10), (83076749736557242056487941267521536, 11), (83076749736557242056487941267521536, 38), (83076749736557242056487941267521536, 40), (83076749736557242056487941267521536, 45), (83076749736557242056487941267521536, 46), (83076749736557242056487941267521536, 47), (83076749736557242056487941267521536, 49), (83076749736557242056487941267521536, 50), (365372622079692126644493865193548305418028056576, 256)] hp 0 20 (fun _ => True)) rv hp' ∧ bRg G hp')) 30 0 [(0, yR 2073)] [] hp
  refine yG.load xak rfl (fun _ _ => rfl) (v := yR 2073) rfl rfl ?_
  refine yG.num (c := 0) rfl (fun _ _ => rfl) (by decide) ?_
  refine yG.putI A_hp.1 (w_M_thrown W H_2073) (W.2.1 _ _ H_2073 (by decide) (by decide)) rfl rfl (.inl rfl) ⟨by omega, by omega⟩ (by omega) (by omega) (fun h1 T_h1 b_h1 f_h1 y_h1 => ?_)
  have M_bRg_h1 := M_bRg_hp.fr (bAx.put (Wl := [(83076749736557242056487941267521536, 0)]) (bAx.rf A_hp.1) T_h1 b_h1 f_h1 H_2073 (by decide)) (by decide)
  have A_h1 := A_hp.put T_h1 b_h1 f_h1 H_2073 (by decide)
  refine yG.load xak rfl (fun _ _ => rfl) (v := yR 2073) rfl rfl ?_
  refine yG.invV (rest := []) A_h1.1 (bOb (d_M W) H_2073) rfl rfl rfl rfl (c_GModel_screenAll W d A_h1.1 M_bRg_h1 (M_bWf.fr A_h1 (by decide)) (M_bPr.fr A_h1 (by decide)) H_2073) (fun rv h2 q9 => ?_)
  obtain ⟨q9, M_bRg_h2⟩ := q9
  obtain ⟨⟨rfl, R_z3⟩, B_h2⟩ := q9
  have A_h2 := A_h1.tr B_h2 (by decide)
  show yG _ _ _ _ _ _ _ _ _ _ [] _
  refine yG.load xak rfl (fun _ _ => rfl) (v := yR 2073) rfl rfl ?_
  refine yG.getI A_h2.1 (w_M_troubles W H_2073) rfl rfl (fun z4 e_z4 i_z4 l_z4 u_z4 => ?_)
  refine yG.ret rfl (fun _ _ => rfl) ?_
  exact (yP.int ⟨by omega, by omega⟩ ⟨⟨⟨z4, rfl, by omega, by omega, trivial⟩, A_h2⟩, M_bRg_h2⟩)
theorem c_GModel_trouble {hp : xH} (W : mW G) (d : Nat) (hT : zTy G hp) (M_bRg : bRg G hp) (M_bWf : bWf G hp) (M_bPr : bPr G hp) (H_2073 : bRo G 116 2073) (p1 p2 : Int) (h1l : (-2147483648) ≤ p1) (h1u : p1 ≤ 2147483647) (h2l : (-2147483648) ≤ p2) (h2u : p2 ≤ 2147483647) : yC (xcall 89 xfts xpools xms (d + 10)) 535 [yR 2073, yI (p1), yI (p2)] hp (fun rv hp' => (bQi G [(83076749736557242056487941267521536, 0), (83076749736557242056487941267521536, 10), (83076749736557242056487941267521536, 11), (83076749736557242056487941267521536, 38), (83076749736557242056487941267521536, 40), (83076749736557242056487941267521536, 45), (83076749736557242056487941267521536, 46), (83076749736557242056487941267521536, 47), (83076749736557242056487941267521536, 49), (83076749736557242056487941267521536, 50), (365372622079692126644493865193548305418028056576, 256)] hp (-2147483648) 2147483647 (fun z => 0 ≤ 0 - p1 + z + 2147483667 ∧ 0 ≤ p1 - z + 2147483648 ∧ 0 ≤ 0 - p2 + z + 2147483651 ∧ 0 ≤ p2 - z + 2147483648)) rv hp' ∧ bRg G hp') := by
  have A_hp : bAx G [(83076749736557242056487941267521536, 0), (83076749736557242056487941267521536, 10), (83076749736557242056487941267521536, 11), (83076749736557242056487941267521536, 38), (83076749736557242056487941267521536, 40), (83076749736557242056487941267521536, 45), (83076749736557242056487941267521536, 46), (83076749736557242056487941267521536, 47), (83076749736557242056487941267521536, 49), (83076749736557242056487941267521536, 50), (365372622079692126644493865193548305418028056576, 256)] hp hp := bAx.rf hT
  have M_bRg_hp := M_bRg
  refine yC.of (M := (xt_X13_trouble, (3, (1, (14, []))))) rfl rfl (N := 120) (yfuel (by decide)) ?_
  show yG 89 xfts (xcall 89 xfts xpools xms (d + 9)) (xpool xp_RX13) [] xt_X13_trouble (yP 1 (fun rv hp' => (bQi G [(83076749736557242056487941267521536, 0), (83076749736557242056487941267521536, 10), (83076749736557242056487941267521536, 11), (83076749736557242056487941267521536, 38), (83076749736557242056487941267521536, 40), (83076749736557242056487941267521536, 45), (83076749736557242056487941267521536, 46), (83076749736557242056487941267521536, 47), (83076749736557242056487941267521536, 49), (83076749736557242056487941267521536, 50), (365372622079692126644493865193548305418028056576, 256)] hp (-2147483648) 2147483647 (fun z => 0 ≤ 0 - p1 + z + 2147483667 ∧ 0 ≤ p1 - z + 2147483648 ∧ 0 ≤ 0 - p2 + z + 2147483651 ∧ 0 ≤ p2 - z + 2147483648)) rv hp' ∧ bRg G hp')) 120 0 [(0, yR 2073), (1, yI (p1)), (2, yI (p2))] [] hp
  refine yG.load xak rfl (fun _ _ => rfl) (v := yR 2073) rfl rfl ?_
  refine yG.invV (rest := []) A_hp.1 (bOb (d_M W) H_2073) rfl rfl rfl rfl (c_GModel_screenAll W d A_hp.1 M_bRg_hp M_bWf M_bPr H_2073) (fun rv h1 q9 => ?_)
  obtain ⟨q9, M_bRg_h1⟩ := q9
  obtain ⟨⟨rfl, R_z2⟩, B_h1⟩ := q9
  have A_h1 := A_hp.tr B_h1 (by decide)
  show yG _ _ _ _ _ _ _ _ _ _ [] _
  refine yG.load xak rfl (fun _ _ => rfl) (v := yR 2073) rfl rfl ?_
  refine yG.load xik rfl (fun _ _ => rfl) (v := yI (p1)) rfl rfl ?_
  refine yG.i2l rfl ⟨by omega, by omega⟩ ?_
  refine yG.numl (c := 0) rfl (fun _ _ => rfl) (by decide) ?_
  refine yG.load xak rfl (fun _ _ => rfl) (v := yR 2073) rfl rfl ?_
  refine yG.getI A_h1.1 (w_M_troubles W H_2073) rfl rfl (fun z3 e_z3 i_z3 l_z3 u_z3 => ?_)
  refine yG.num (c := 1) rfl (fun _ _ => rfl) (by decide) ?_
  refine yG.isub rfl ?_
  refine yG.i2l rfl ⟨by omega, by omega⟩ ?_
  refine yG.invS (rest := [yR 2073]) rfl rfl rfl rfl (c_GModel_in W (d + 8) A_h1.1 (p1) (0) (z3 - 1) (by omega) (by omega) (by omega) (by omega) (by omega) (by omega)) (fun rv hp9 q9 => ?_)
  obtain ⟨⟨z4, rfl, l_z4, u_z4, R_z4⟩, e9⟩ := q9
  rw [e9]
  show yG _ _ _ _ _ _ _ _ _ _ (yI z4 :: [yR 2073]) _
  refine yG.ifz rfl (t := 25) rfl ⟨by omega, by omega⟩ (fun c5 => ?_) (fun c5 => ?_)
  · have c5 : (z4 : Int) ≠ 0 := c5
    replace R_z4 := R_z4 (by omega)
    refine yG.load xik rfl (fun _ _ => rfl) (v := yI (p2)) rfl rfl ?_
    refine yG.i2l rfl ⟨by omega, by omega⟩ ?_
    refine yG.numl (c := 0) rfl (fun _ _ => rfl) (by decide) ?_
    refine yG.numl (c := 3) rfl (fun _ _ => rfl) (by decide) ?_
    refine yG.invS (rest := [yR 2073]) rfl rfl rfl rfl (c_GModel_in W (d + 8) A_h1.1 (p2) (0) (3) (by omega) (by omega) (by omega) (by omega) (by omega) (by omega)) (fun rv hp9 q9 => ?_)
    obtain ⟨⟨z6, rfl, l_z6, u_z6, R_z6⟩, e9⟩ := q9
    rw [e9]
    show yG _ _ _ _ _ _ _ _ _ _ (yI z6 :: [yR 2073]) _
    refine yG.ifz rfl (t := 41) rfl ⟨by omega, by omega⟩ (fun c7 => ?_) (fun c7 => ?_)
    · have c7 : (z6 : Int) ≠ 0 := c7
      replace R_z6 := R_z6 (by omega)
      refine yG.num (c := 0) rfl (fun _ _ => rfl) (by decide) ?_
      refine yG.putI A_h1.1 (w_M_thrown W H_2073) (W.2.1 _ _ H_2073 (by decide) (by decide)) rfl rfl (.inl rfl) ⟨by omega, by omega⟩ (by omega) (by omega) (fun h8 T_h8 b_h8 f_h8 y_h8 => ?_)
      have M_bRg_h8 := M_bRg_h1.fr (bAx.put (Wl := [(83076749736557242056487941267521536, 0)]) (bAx.rf A_h1.1) T_h8 b_h8 f_h8 H_2073 (by decide)) (by decide)
      have A_h8 := A_h1.put T_h8 b_h8 f_h8 H_2073 (by decide)
      have : ys h8 2073 0 = 0 := (y_h8 2073 0).trans (if_pos ⟨rfl, rfl⟩)
      refine yG.load xak rfl (fun _ _ => rfl) (v := yR 2073) rfl rfl ?_
      refine yG.getI A_h8.1 (w_M_thrown W H_2073) rfl rfl (fun z9 e_z9 i_z9 l_z9 u_z9 => ?_)
      refine yG.ifz rfl (t := 54) rfl ⟨by omega, by omega⟩ (fun c10 => ?_) (fun c10 => ?_)
      · have c10 : (z9 : Int) ≤ 0 := c10
        refine yG.load xik rfl (fun _ _ => rfl) (v := yI (p2)) rfl rfl ?_
        refine yG.ifz rfl (t := 67) rfl ⟨by omega, by omega⟩ (fun c11 => ?_) (fun c11 => ?_)
        · have c11 : (p2 : Int) ≠ 0 := c11
          refine yG.load xik rfl (fun _ _ => rfl) (v := yI (p2)) rfl rfl ?_
          refine yG.num (c := 1) rfl (fun _ _ => rfl) (by decide) ?_
          refine yG.icmp rfl (t := 81) rfl ⟨by omega, by omega⟩ ⟨by omega, by omega⟩ (fun c12 => ?_) (fun c12 => ?_)
          · have c12 : (p2 : Int) ≠ 1 := c12
            refine yG.load xik rfl (fun _ _ => rfl) (v := yI (p2)) rfl rfl ?_
            refine yG.num (c := 2) rfl (fun _ _ => rfl) (by decide) ?_
            refine yG.icmp rfl (t := 95) rfl ⟨by omega, by omega⟩ ⟨by omega, by omega⟩ (fun c13 => ?_) (fun c13 => ?_)
            · have c13 : (p2 : Int) ≠ 2 := c13
              refine yG.load xak rfl (fun _ _ => rfl) (v := yR 2073) rfl rfl ?_
              refine yG.getO A_h8.1 (w_M_troubleOver W H_2073) rfl rfl (fun r14 H_r14 O_r14 q_r14 => ?_)
              obtain rfl := u_M_troubleOver W H_r14
              refine yG.load xik rfl (fun _ _ => rfl) (v := yI (p1)) rfl rfl ?_
              refine yG.iald A_h8.1 (v_M_troubleOver W H_r14) rfl (by omega) (by omega) (fun z15 e_z15 i_z15 l_z15 u_z15 => ?_)
              refine yG.ret rfl (fun _ _ => rfl) ?_
              exact (yP.int ⟨by omega, by omega⟩ ⟨⟨⟨z15, rfl, by omega, by omega, by omega⟩, A_h8⟩, M_bRg_h8⟩)
            · have c13 : (p2 : Int) = 2 := c13
              refine yG.load xak rfl (fun _ _ => rfl) (v := yR 2073) rfl rfl ?_
              refine yG.getO A_h8.1 (w_M_troubleLost W H_2073) rfl rfl (fun r16 H_r16 O_r16 q_r16 => ?_)
              obtain rfl := u_M_troubleLost W H_r16
              refine yG.load xik rfl (fun _ _ => rfl) (v := yI (p1)) rfl rfl ?_
              refine yG.iald A_h8.1 (v_M_troubleLost W H_r16) rfl (by omega) (by omega) (fun z17 e_z17 i_z17 l_z17 u_z17 => ?_)
              refine yG.goto rfl (t := 101) rfl ?_
              refine yG.ret rfl (fun _ _ => rfl) ?_
              exact (yP.int ⟨by omega, by omega⟩ ⟨⟨⟨z17, rfl, by omega, by omega, by omega⟩, A_h8⟩, M_bRg_h8⟩)
          · have c12 : (p2 : Int) = 1 := c12
            refine yG.load xak rfl (fun _ _ => rfl) (v := yR 2073) rfl rfl ?_
            refine yG.getO A_h8.1 (w_M_troubleSort W H_2073) rfl rfl (fun r18 H_r18 O_r18 q_r18 => ?_)
            obtain rfl := u_M_troubleSort W H_r18
            refine yG.load xik rfl (fun _ _ => rfl) (v := yI (p1)) rfl rfl ?_
            refine yG.iald A_h8.1 (v_M_troubleSort W H_r18) rfl (by omega) (by omega) (fun z19 e_z19 i_z19 l_z19 u_z19 => ?_)
            refine yG.goto rfl (t := 101) rfl ?_
            refine yG.ret rfl (fun _ _ => rfl) ?_
            exact (yP.int ⟨by omega, by omega⟩ ⟨⟨⟨z19, rfl, by omega, by omega, by omega⟩, A_h8⟩, M_bRg_h8⟩)
        · have c11 : (p2 : Int) = 0 := c11
          refine yG.load xak rfl (fun _ _ => rfl) (v := yR 2073) rfl rfl ?_
          refine yG.getO A_h8.1 (w_M_troubleLine W H_2073) rfl rfl (fun r20 H_r20 O_r20 q_r20 => ?_)
          obtain rfl := u_M_troubleLine W H_r20
          refine yG.load xik rfl (fun _ _ => rfl) (v := yI (p1)) rfl rfl ?_
          refine yG.iald A_h8.1 (v_M_troubleLine W H_r20) rfl (by omega) (by omega) (fun z21 e_z21 i_z21 l_z21 u_z21 => ?_)
          refine yG.goto rfl (t := 101) rfl ?_
          refine yG.ret rfl (fun _ _ => rfl) ?_
          exact (yP.int ⟨by omega, by omega⟩ ⟨⟨⟨z21, rfl, by omega, by omega, by omega⟩, A_h8⟩, M_bRg_h8⟩)
      · have c10 : (z9 : Int) > 0 := c10
        exfalso; omega
    · have c7 : (z6 : Int) = 0 := c7
      clear R_z6
      refine yG.num (c := 2) rfl (fun _ _ => rfl) (by decide) ?_
      refine yG.goto rfl (t := 42) rfl ?_
      refine yG.putI A_h1.1 (w_M_thrown W H_2073) (W.2.1 _ _ H_2073 (by decide) (by decide)) rfl rfl (.inl rfl) ⟨by omega, by omega⟩ (by omega) (by omega) (fun h22 T_h22 b_h22 f_h22 y_h22 => ?_)
      have M_bRg_h22 := M_bRg_h1.fr (bAx.put (Wl := [(83076749736557242056487941267521536, 0)]) (bAx.rf A_h1.1) T_h22 b_h22 f_h22 H_2073 (by decide)) (by decide)
      have A_h22 := A_h1.put T_h22 b_h22 f_h22 H_2073 (by decide)
      have : ys h22 2073 0 = 2 := (y_h22 2073 0).trans (if_pos ⟨rfl, rfl⟩)
      refine yG.load xak rfl (fun _ _ => rfl) (v := yR 2073) rfl rfl ?_
      refine yG.getI A_h22.1 (w_M_thrown W H_2073) rfl rfl (fun z23 e_z23 i_z23 l_z23 u_z23 => ?_)
      refine yG.ifz rfl (t := 54) rfl ⟨by omega, by omega⟩ (fun c24 => ?_) (fun c24 => ?_)
      · have c24 : (z23 : Int) ≤ 0 := c24
        exfalso; omega
      · have c24 : (z23 : Int) > 0 := c24
        refine yG.num (c := 0) rfl (fun _ _ => rfl) (by decide) ?_
        refine yG.ret rfl (fun _ _ => rfl) ?_
        exact (yP.int ⟨by omega, by omega⟩ ⟨⟨⟨0, rfl, by omega, by omega, by omega⟩, A_h22⟩, M_bRg_h22⟩)
  · have c5 : (z4 : Int) = 0 := c5
    clear R_z4
    refine yG.num (c := 1) rfl (fun _ _ => rfl) (by decide) ?_
    refine yG.goto rfl (t := 42) rfl ?_
    refine yG.putI A_h1.1 (w_M_thrown W H_2073) (W.2.1 _ _ H_2073 (by decide) (by decide)) rfl rfl (.inl rfl) ⟨by omega, by omega⟩ (by omega) (by omega) (fun h25 T_h25 b_h25 f_h25 y_h25 => ?_)
    have M_bRg_h25 := M_bRg_h1.fr (bAx.put (Wl := [(83076749736557242056487941267521536, 0)]) (bAx.rf A_h1.1) T_h25 b_h25 f_h25 H_2073 (by decide)) (by decide)
    have A_h25 := A_h1.put T_h25 b_h25 f_h25 H_2073 (by decide)
    have : ys h25 2073 0 = 1 := (y_h25 2073 0).trans (if_pos ⟨rfl, rfl⟩)
    refine yG.load xak rfl (fun _ _ => rfl) (v := yR 2073) rfl rfl ?_
    refine yG.getI A_h25.1 (w_M_thrown W H_2073) rfl rfl (fun z26 e_z26 i_z26 l_z26 u_z26 => ?_)
    refine yG.ifz rfl (t := 54) rfl ⟨by omega, by omega⟩ (fun c27 => ?_) (fun c27 => ?_)
    · have c27 : (z26 : Int) ≤ 0 := c27
      exfalso; omega
    · have c27 : (z26 : Int) > 0 := c27
      refine yG.num (c := 0) rfl (fun _ _ => rfl) (by decide) ?_
      refine yG.ret rfl (fun _ _ => rfl) ?_
      exact (yP.int ⟨by omega, by omega⟩ ⟨⟨⟨0, rfl, by omega, by omega, by omega⟩, A_h25⟩, M_bRg_h25⟩)
theorem c_GModel_estimateOf {hp : xH} (W : mW G) (d : Nat) (hT : zTy G hp) (M_bRg : bRg G hp) (M_bMm : bMm G hp) (H_2073 : bRo G 116 2073) (p1 p2 : Int) (h1l : 0 ≤ p1) (h1u : p1 ≤ 15) (h2l : (-1) ≤ p2) (h2u : p2 ≤ 15) : yC (xcall 89 xfts xpools xms (d + 7)) 393 [yR 2073, yI (p1), yI (p2)] hp (fun rv hp' => (fun rv hp' => (rv = none ∧ True) ∧ bAx G [(83076749736557242056487941267521536, 10), (83076749736557242056487941267521536, 11), (151996170282754019706604687951472695675766217637888, 256)] hp hp') rv hp' ∧ bRg G hp') := by
  have A_hp : bAx G [(83076749736557242056487941267521536, 10), (83076749736557242056487941267521536, 11), (151996170282754019706604687951472695675766217637888, 256)] hp hp := bAx.rf hT
  have M_bRg_hp := M_bRg
  have H : ∀ m : Nat, (∀ a3 : Int, ∀ a4 : Int, ∀ gg0 : Int, ∀ hq, bAx G [(83076749736557242056487941267521536, 10), (83076749736557242056487941267521536, 11), (151996170282754019706604687951472695675766217637888, 256)] hp hq → bRg G hq → ys hq 2073 10 = gg0 → 0 ≤ a3 → (-16) ≤ 0 - a3 → 0 ≤ a4 → (-33) ≤ 0 - a4 → 0 ≤ gg0 → (-18) ≤ 0 - gg0 → 0 ≤ p1 → (-15) ≤ 0 - p1 → (-1) ≤ p2 → (-15) ≤ 0 - p2 → 0 ≤ a3 - a4 + gg0 → 0 ≤ 0 - a3 + a4 - gg0 → 0 - 1073 * a4 + 36481 < (m : Int) → yG 89 xfts (xcall 89 xfts xpools xms (d + 6)) (xpool xp_RX13) [] xt_X13_estimateOf (yP 0 (fun rv hp' => (fun rv hp' => (rv = none ∧ True) ∧ bAx G [(83076749736557242056487941267521536, 10), (83076749736557242056487941267521536, 11), (151996170282754019706604687951472695675766217637888, 256)] hp hp') rv hp' ∧ bRg G hp')) (59 * m) 10 [(0, yR 2073), (1, yI (p1)), (2, yI (p2)), (3, yI (a3)), (4, yI (a4))] [] hq) ∧ (∀ a4 : Int, ∀ gg0 : Int, ∀ hq, bAx G [(83076749736557242056487941267521536, 10), (83076749736557242056487941267521536, 11), (151996170282754019706604687951472695675766217637888, 256)] hp hq → bRg G hq → ys hq 2073 10 = gg0 → 0 ≤ a4 → (-15) ≤ 0 - a4 → 18 ≤ gg0 → (-18) ≤ 0 - gg0 → 0 ≤ p1 → (-15) ≤ 0 - p1 → (-1) ≤ p2 → (-15) ≤ 0 - p2 → (-1) ≤ 0 - a4 + p2 → 0 - 67 * a4 + 1071 < (m : Int) → yG 89 xfts (xcall 89 xfts xpools xms (d + 6)) (xpool xp_RX13) [] xt_X13_estimateOf (yP 0 (fun rv hp' => (fun rv hp' => (rv = none ∧ True) ∧ bAx G [(83076749736557242056487941267521536, 10), (83076749736557242056487941267521536, 11), (151996170282754019706604687951472695675766217637888, 256)] hp hp') rv hp' ∧ bRg G hp')) (59 * m) 165 [(0, yR 2073), (1, yI (p1)), (2, yI (p2)), (4, yI (a4))] [] hq) ∧ (∀ a4 : Int, ∀ gg0 : Int, ∀ hq, bAx G [(83076749736557242056487941267521536, 10), (83076749736557242056487941267521536, 11), (151996170282754019706604687951472695675766217637888, 256)] hp hq → bRg G hq → ys hq 2073 10 = gg0 → 0 ≤ a4 → (-32) ≤ 0 - a4 → 18 ≤ gg0 → (-18) ≤ 0 - gg0 → 0 ≤ p1 → (-15) ≤ 0 - p1 → (-1) ≤ p2 → (-15) ≤ 0 - p2 → 0 - 2 * a4 + 65 < (m : Int) → yG 89 xfts (xcall 89 xfts xpools xms (d + 6)) (xpool xp_RX13) [] xt_X13_estimateOf (yP 0 (fun rv hp' => (fun rv hp' => (rv = none ∧ True) ∧ bAx G [(83076749736557242056487941267521536, 10), (83076749736557242056487941267521536, 11), (151996170282754019706604687951472695675766217637888, 256)] hp hp') rv hp' ∧ bRg G hp')) (59 * m) 200 [(0, yR 2073), (1, yI (p1)), (4, yI (a4))] [] hq) := by
    intro m
    induction m with
    | zero =>
      refine ⟨?_, ?_, ?_⟩ <;> (intros; exfalso; omega)
    | succ m ih =>
      obtain ⟨i_10, i_165, i_200⟩ := ih
      refine ⟨?_, ?_, ?_⟩
      · intro a3 a4 gg0 hq A_hq M_bRg_hq E_0 f0 f1 f2 f3 f4 f5 f6 f7 f8 f9 f10 f11 hm
        refine yG.mono (N := 59 * m + 59) ?_ (by omega)
        obtain ⟨-, -, g_0l, g_0u⟩ := (w_M_usedCount W H_2073).int A_hq.1
        refine yG.load xik rfl (fun _ _ => rfl) (v := yI (a4)) rfl rfl ?_
        refine yG.num (c := 40) rfl (fun _ _ => rfl) (by decide) ?_
        refine yG.icmp rfl (t := 117) rfl ⟨by omega, by omega⟩ ⟨by omega, by omega⟩ (fun c1 => ?_) (fun c1 => ?_)
        · have c1 : (a4 : Int) ≥ 40 := c1
          exfalso; omega
        · have c1 : (a4 : Int) < 40 := c1
          refine yG.load xak rfl (fun _ _ => rfl) (v := yR 2073) rfl rfl ?_
          refine yG.getI A_hq.1 (w_M_usedCount W H_2073) rfl rfl (fun z2 e_z2 i_z2 l_z2 u_z2 => ?_)
          rw [show (z2 : Int) = gg0 by omega]
          refine yG.num (c := 18) rfl (fun _ _ => rfl) (by decide) ?_
          refine yG.icmp rfl (t := 117) rfl ⟨by omega, by omega⟩ ⟨by omega, by omega⟩ (fun c3 => ?_) (fun c3 => ?_)
          · have c3 : (gg0 : Int) ≥ 18 := c3
            refine yG.load xak rfl (fun _ _ => rfl) (v := yR 2073) rfl rfl ?_
            refine yG.getO A_hq.1 (w_M_isWhole W H_2073) rfl rfl (fun r4 H_r4 O_r4 q_r4 => ?_)
            obtain rfl := u_M_isWhole W H_r4
            refine yG.load xik rfl (fun _ _ => rfl) (v := yI (p1)) rfl rfl ?_
            refine yG.load xik rfl (fun _ _ => rfl) (v := yI (a3)) rfl rfl ?_
            refine yG.num (c := 16) rfl (fun _ _ => rfl) (by decide) ?_
            refine yG.icmp rfl (t := 132) rfl ⟨by omega, by omega⟩ ⟨by omega, by omega⟩ (fun c5 => ?_) (fun c5 => ?_)
            · have c5 : (a3 : Int) ≥ 16 := c5
              exfalso; omega
            · have c5 : (a3 : Int) < 16 := c5
              refine yG.num (c := 1) rfl (fun _ _ => rfl) (by decide) ?_
              refine yG.goto rfl (t := 133) rfl ?_
              refine yG.bast A_hq.1 (v_M_isWhole W H_r4) (W.2.1 _ _ H_r4 (by decide) (by decide)) rfl (by omega) (by omega) ⟨by omega, by omega⟩ (by omega) (by omega) (fun h6 T_h6 b_h6 f_h6 y_h6 => ?_)
              have M_bRg_h6 := M_bRg_hq.fr (bAx.put (Wl := [(11692013098647223345629478661730264157247460343808, 256)]) (bAx.rf A_hq.1) T_h6 b_h6 f_h6 H_r4 (bAll_ok (by decide) _)) (by decide)
              have A_h6 := A_hq.put T_h6 b_h6 f_h6 H_r4 (bAll_ok (by decide) _)
              have : ys h6 2073 10 = ys hq 2073 10 := (y_h6 2073 10).trans (if_neg (fun e => (bRo.ne H_2073 H_r4 (by decide)) e.1))
              have qq1 : zsl h6 2073 63 = yR 2120 := ((f_h6 2073 63).trans (if_neg (fun e => (bRo.ne H_2073 H_r4 (by decide)) e.1))).trans q_r4
              have : ys h6 2120 (p1 : Int).toNat = 1 := (y_h6 2120 _).trans (if_pos ⟨rfl, rfl⟩)
              refine yG.load xak rfl (fun _ _ => rfl) (v := yR 2073) rfl rfl ?_
              refine yG.getS9 A_h6.1 (w_M_isWhole W H_2073) qq1 rfl rfl ?_
              refine yG.load xik rfl (fun _ _ => rfl) (v := yI (p1)) rfl rfl ?_
              refine yG.bald A_h6.1 (v_M_isWhole W H_r4) rfl (by omega) (by omega) (fun z7 e_z7 i_z7 l_z7 u_z7 => ?_)
              refine yG.ifz rfl (t := 144) rfl ⟨by omega, by omega⟩ (fun c8 => ?_) (fun c8 => ?_)
              · have c8 : (z7 : Int) ≠ 0 := c8
                refine yG.load xak rfl (fun _ _ => rfl) (v := yR 2073) rfl rfl ?_
                refine yG.num (c := 52) rfl (fun _ _ => rfl) (by decide) ?_
                refine yG.load xik rfl (fun _ _ => rfl) (v := yI (p1)) rfl rfl ?_
                refine yG.iadd rfl ?_
                refine yG.num (c := 0) rfl (fun _ _ => rfl) (by decide) ?_
                refine yG.invV (rest := []) A_h6.1 (bOb (d_M W) H_2073) rfl rfl rfl rfl (c_GModel_fromResidues_E W (d + 3) A_h6.1 M_bRg_h6 H_2073 (52 + p1) (0) (by omega) (by omega) (by omega) (by omega) (by omega) (by omega)) (fun rv h9 q9 => ?_)
                obtain ⟨q9, M_bRg_h9⟩ := q9
                obtain ⟨⟨rfl, R_z10⟩, B_h9⟩ := q9
                have A_h9 := A_h6.tr B_h9 (by decide)
                have : ys h9 2073 10 = ys h6 2073 10 := B_h9.ys H_2073 (by decide)
                have qq2 : zsl h9 2073 63 = yR 2120 := (B_h9.sl H_2073 (by decide)).trans qq1
                have : ys h9 2120 (p1 : Int).toNat = ys h6 2120 (p1 : Int).toNat := B_h9.ys H_r4 (bNo_ok (by decide) _)
                show yG _ _ _ _ _ _ _ _ _ _ [] _
                refine yG.load xak rfl (fun _ _ => rfl) (v := yR 2073) rfl rfl ?_
                refine yG.num (c := 68) rfl (fun _ _ => rfl) (by decide) ?_
                refine yG.load xik rfl (fun _ _ => rfl) (v := yI (p1)) rfl rfl ?_
                refine yG.iadd rfl ?_
                refine yG.numl (c := 0) rfl (fun _ _ => rfl) (by decide) ?_
                refine yG.invV (rest := []) A_h9.1 (bOb (d_M W) H_2073) rfl rfl rfl rfl (r_put W (d + 5) A_h9.1 M_bRg_h9 H_2073 (r := (68 + p1)) (v := (0)) (x := 0) ⟨by omega, by omega⟩ (yEb (c := 1) (by decide) (by omega) (by omega)) (by decide) (bTb_ge (a := 68) (b := 84) (by decide) (by omega) (by omega))) (fun rv h11 q9 => ?_)
                obtain ⟨rfl, B_h11, M_bRg_h11, Y_h11, V_h11, S_h11⟩ := q9
                have P_h11 : 0 ≤ yval h11 (68 + p1 : Int).toNat := by rw [V_h11]; omega
                have A_h11 := A_h9.tr B_h11 (by decide)
                have : ys h11 2073 10 = ys h9 2073 10 := B_h11.ys H_2073 (by decide)
                have qq3 : zsl h11 2073 63 = yR 2120 := (B_h11.sl H_2073 (by decide)).trans qq2
                have : ys h11 2120 (p1 : Int).toNat = ys h9 2120 (p1 : Int).toNat := B_h11.ys H_r4 (bNo_ok (by decide) _)
                show yG _ _ _ _ _ _ _ _ _ _ [] _
                refine yG.num (c := 0) rfl (fun _ _ => rfl) (by decide) ?_
                refine yG.store1 xik (L' := [(4, yI (0)), (0, yR 2073), (1, yI (p1)), (2, yI (p2)), (3, yI (a3))]) rfl (fun _ _ => rfl) rfl rfl ?_
                exact yG.mono (yG.sub (i_165 (0) (ys h11 2073 10) h11 A_h11 M_bRg_h11  rfl (by omega) (by omega) (by omega) (by omega) (by omega) (by omega) (by omega) (by omega) (by omega) (by omega)) (ySub.cons rfl (ySub.cons rfl (ySub.cons rfl (ySub.cons rfl (ySub.nil)))))) (by omega)
              · have c8 : (z7 : Int) = 0 := c8
                exfalso; omega
          · have c3 : (gg0 : Int) < 18 := c3
            refine yG.load xik rfl (fun _ _ => rfl) (v := yI (a3)) rfl rfl ?_
            refine yG.num (c := 16) rfl (fun _ _ => rfl) (by decide) ?_
            refine yG.icmp rfl (t := 117) rfl ⟨by omega, by omega⟩ ⟨by omega, by omega⟩ (fun c12 => ?_) (fun c12 => ?_)
            · have c12 : (a3 : Int) ≥ 16 := c12
              refine yG.load xak rfl (fun _ _ => rfl) (v := yR 2073) rfl rfl ?_
              refine yG.getO A_hq.1 (w_M_isWhole W H_2073) rfl rfl (fun r13 H_r13 O_r13 q_r13 => ?_)
              obtain rfl := u_M_isWhole W H_r13
              refine yG.load xik rfl (fun _ _ => rfl) (v := yI (p1)) rfl rfl ?_
              refine yG.load xik rfl (fun _ _ => rfl) (v := yI (a3)) rfl rfl ?_
              refine yG.num (c := 16) rfl (fun _ _ => rfl) (by decide) ?_
              refine yG.icmp rfl (t := 132) rfl ⟨by omega, by omega⟩ ⟨by omega, by omega⟩ (fun c14 => ?_) (fun c14 => ?_)
              · have c14 : (a3 : Int) ≥ 16 := c14
                refine yG.num (c := 0) rfl (fun _ _ => rfl) (by decide) ?_
                refine yG.bast A_hq.1 (v_M_isWhole W H_r13) (W.2.1 _ _ H_r13 (by decide) (by decide)) rfl (by omega) (by omega) ⟨by omega, by omega⟩ (by omega) (by omega) (fun h15 T_h15 b_h15 f_h15 y_h15 => ?_)
                have M_bRg_h15 := M_bRg_hq.fr (bAx.put (Wl := [(11692013098647223345629478661730264157247460343808, 256)]) (bAx.rf A_hq.1) T_h15 b_h15 f_h15 H_r13 (bAll_ok (by decide) _)) (by decide)
                have A_h15 := A_hq.put T_h15 b_h15 f_h15 H_r13 (bAll_ok (by decide) _)
                have : ys h15 2073 10 = ys hq 2073 10 := (y_h15 2073 10).trans (if_neg (fun e => (bRo.ne H_2073 H_r13 (by decide)) e.1))
                have qq4 : zsl h15 2073 63 = yR 2120 := ((f_h15 2073 63).trans (if_neg (fun e => (bRo.ne H_2073 H_r13 (by decide)) e.1))).trans q_r13
                have : ys h15 2120 (p1 : Int).toNat = 0 := (y_h15 2120 _).trans (if_pos ⟨rfl, rfl⟩)
                refine yG.load xak rfl (fun _ _ => rfl) (v := yR 2073) rfl rfl ?_
                refine yG.getS9 A_h15.1 (w_M_isWhole W H_2073) qq4 rfl rfl ?_
                refine yG.load xik rfl (fun _ _ => rfl) (v := yI (p1)) rfl rfl ?_
                refine yG.bald A_h15.1 (v_M_isWhole W H_r13) rfl (by omega) (by omega) (fun z16 e_z16 i_z16 l_z16 u_z16 => ?_)
                refine yG.ifz rfl (t := 144) rfl ⟨by omega, by omega⟩ (fun c17 => ?_) (fun c17 => ?_)
                · have c17 : (z16 : Int) ≠ 0 := c17
                  exfalso; omega
                · have c17 : (z16 : Int) = 0 := c17
                  refine yG.ret rfl (fun _ _ => rfl) ?_
                  exact (yP.void ⟨⟨⟨rfl, trivial⟩, A_h15⟩, M_bRg_h15⟩)
              · have c14 : (a3 : Int) < 16 := c14
                exfalso; omega
            · have c12 : (a3 : Int) < 16 := c12
              refine yG.load xak rfl (fun _ _ => rfl) (v := yR 2073) rfl rfl ?_
              refine yG.getS (c := 14) rfl rfl ?_
              refine yG.load xik rfl (fun _ _ => rfl) (v := yI (a4)) rfl rfl ?_
              refine yG.iald A_hq.1 (v_M_PRIME W (s_M_PRIME W)) rfl (by omega) (by omega) (fun z18 e_z18 i_z18 l_z18 u_z18 => ?_)
              refine yG.i2l rfl ⟨by omega, by omega⟩ ?_
              refine yG.putJ A_hq.1 (w_M_p W H_2073) (W.2.1 _ _ H_2073 (by decide) (by decide)) rfl rfl rfl ⟨by omega, by omega⟩ (by omega) (by omega) (fun h19 T_h19 b_h19 f_h19 y_h19 => ?_)
              have M_bRg_h19 := M_bRg_hq.fr (bAx.put (Wl := [(83076749736557242056487941267521536, 11)]) (bAx.rf A_hq.1) T_h19 b_h19 f_h19 H_2073 (by decide)) (by decide)
              have A_h19 := A_hq.put T_h19 b_h19 f_h19 H_2073 (by decide)
              have : ys h19 2073 10 = ys hq 2073 10 := (y_h19 2073 10).trans (if_neg (fun e => absurd e.2 (by decide)))
              have : ys h19 2073 11 = z18 := (y_h19 2073 11).trans (if_pos ⟨rfl, rfl⟩)
              refine yG.load xak rfl (fun _ _ => rfl) (v := yR 2073) rfl rfl ?_
              refine yG.load xik rfl (fun _ _ => rfl) (v := yI (p1)) rfl rfl ?_
              refine yG.invV (rest := []) A_h19.1 (bOb (d_M W) H_2073) rfl rfl rfl rfl (c_GModel_showAll W (d + 1) A_h19.1 (M_bMm.fr A_h19 (by decide)) H_2073 (p1) (by omega) (by omega) (by omega) (by omega)) (fun rv h20 q9 => ?_)
              obtain ⟨⟨rfl, R_z21⟩, B_h20⟩ := q9
              have A_h20 := A_h19.tr B_h20 (by decide)
              have M_bRg_h20 := M_bRg_h19.fr B_h20 (by decide)
              have : ys h20 2073 10 = ys h19 2073 10 := B_h20.ys H_2073 (by decide)
              have : ys h20 2073 11 = ys h19 2073 11 := B_h20.ys H_2073 (by decide)
              show yG _ _ _ _ _ _ _ _ _ _ [] _
              refine yG.load xak rfl (fun _ _ => rfl) (v := yR 2073) rfl rfl ?_
              refine yG.load xik rfl (fun _ _ => rfl) (v := yI (p1)) rfl rfl ?_
              refine yG.load xik rfl (fun _ _ => rfl) (v := yI (p2)) rfl rfl ?_
              refine yG.invV (rest := []) A_h20.1 (bOb (d_M W) H_2073) rfl rfl rfl rfl (c_GModel_equations W d A_h20.1 (M_bMm.fr A_h20 (by decide)) H_2073 (p1) (p2) (by omega) (by omega) (by omega) (by omega) (by omega) (by omega)) (fun rv h22 q9 => ?_)
              obtain ⟨⟨z23, rfl, l_z23, u_z23, R_z23⟩, B_h22⟩ := q9
              have A_h22 := A_h20.tr B_h22 (by decide)
              have M_bRg_h22 := M_bRg_h20.fr B_h22 (by decide)
              have : ys h22 2073 10 = ys h20 2073 10 := B_h22.ys H_2073 (by decide)
              have : ys h22 2073 11 = ys h20 2073 11 := B_h22.ys H_2073 (by decide)
              show yG _ _ _ _ _ _ _ _ _ _ (yJ z23 :: []) _
              refine yG.store2 xlk2 (L' := [(5, yJ (z23)), (0, yR 2073), (1, yI (p1)), (2, yI (p2)), (3, yI (a3)), (4, yI (a4))]) rfl (fun _ _ => rfl) rfl rfl ?_
              refine yG.load xak rfl (fun _ _ => rfl) (v := yR 2073) rfl rfl ?_
              refine yG.load xik rfl (fun _ _ => rfl) (v := yI (p2)) rfl rfl ?_
              refine yG.num (c := 2) rfl (fun _ _ => rfl) (by decide) ?_
              refine yG.load xik rfl (fun _ _ => rfl) (v := yI (p2)) rfl rfl ?_
              refine yG.imul rfl ?_
              refine yG.num (c := 1) rfl (fun _ _ => rfl) (by decide) ?_
              refine yG.iadd rfl ?_
              refine yG.invV (rest := []) A_h22.1 (bOb (d_M W) H_2073) rfl rfl rfl rfl (c_GModel_solve W (d + 2) A_h22.1 H_2073 (p2) ((2 * p2) + 1) (by omega) (by omega) (by omega) (by omega) (by omega) (by omega)) (fun rv h24 q9 => ?_)
              obtain ⟨⟨z25, rfl, l_z25, u_z25, R_z25⟩, B_h24⟩ := q9
              have A_h24 := A_h22.tr B_h24 (by decide)
              have M_bRg_h24 := M_bRg_h22.fr B_h24 (by decide)
              have : ys h24 2073 10 = ys h22 2073 10 := B_h24.ys H_2073 (by decide)
              have : ys h24 2073 11 = ys h22 2073 11 := B_h24.ys H_2073 (by decide)
              show yG _ _ _ _ _ _ _ _ _ _ (yJ z25 :: []) _
              refine yG.load xlk2 rfl (fun _ _ => rfl) (v := yJ (z23)) rfl rfl ?_
              refine yG.lmul rfl ?_
              obtain ⟨z26, e_z26⟩ : ∃ z : Int, z = z25 * z23 := ⟨_, rfl⟩
              rw [← e_z26]
              have b_z26 : 0 ≤ z26 ∧ z26 ≤ 4611686009837453316 := e_z26 ▸ ymulb (A := 2147483646) (B := 2147483646) (by omega) (by omega) (by omega) (by omega) (by decide)
              have b2_z26 : z26 ≤ 2147483646 * z23 := e_z26 ▸ bmulx (by omega) (by omega)
              have b3_z26 : z26 ≤ 2147483646 * z25 := e_z26 ▸ bmuly (by omega) (by omega)
              refine yG.load xak rfl (fun _ _ => rfl) (v := yR 2073) rfl rfl ?_
              refine yG.getJ A_h24.1 (w_M_p W H_2073) rfl rfl (fun z27 e_z27 i_z27 l_z27 u_z27 => ?_)
              rw [show (z27 : Int) = z18 by omega]
              refine yG.lrem rfl ⟨by omega, by omega⟩ ⟨by omega, by omega⟩ (by omega) (by omega) ?_
              obtain ⟨z28, e_z28⟩ : ∃ z : Int, z = (z26) % (z18) := ⟨_, rfl⟩
              rw [← e_z28]
              have b_z28 : 0 ≤ z28 ∧ z28 < z18 := e_z28 ▸ ⟨Int.emod_nonneg _ (by omega), Int.emod_lt_of_pos _ (by omega)⟩
              refine yG.load xlk2 rfl (fun _ _ => rfl) (v := yJ (z23)) rfl rfl ?_
              refine yG.lmul rfl ?_
              obtain ⟨z29, e_z29⟩ : ∃ z : Int, z = z28 * z23 := ⟨_, rfl⟩
              rw [← e_z29]
              have b_z29 : 0 ≤ z29 ∧ z29 ≤ 4611686009837453316 := e_z29 ▸ ymulb (A := 2147483646) (B := 2147483646) (by omega) (by omega) (by omega) (by omega) (by decide)
              have b2_z29 : z29 ≤ 2147483646 * z23 := e_z29 ▸ bmulx (by omega) (by omega)
              have b3_z29 : z29 ≤ 2147483646 * z28 := e_z29 ▸ bmuly (by omega) (by omega)
              refine yG.load xak rfl (fun _ _ => rfl) (v := yR 2073) rfl rfl ?_
              refine yG.getJ A_h24.1 (w_M_p W H_2073) rfl rfl (fun z30 e_z30 i_z30 l_z30 u_z30 => ?_)
              rw [show (z30 : Int) = z18 by omega]
              refine yG.lrem rfl ⟨by omega, by omega⟩ ⟨by omega, by omega⟩ (by omega) (by omega) ?_
              obtain ⟨z31, e_z31⟩ : ∃ z : Int, z = (z29) % (z18) := ⟨_, rfl⟩
              rw [← e_z31]
              have b_z31 : 0 ≤ z31 ∧ z31 < z18 := e_z31 ▸ ⟨Int.emod_nonneg _ (by omega), Int.emod_lt_of_pos _ (by omega)⟩
              refine yG.store2 xlk2 (L' := [(7, yJ (z31)), (5, yJ (z23)), (0, yR 2073), (1, yI (p1)), (2, yI (p2)), (3, yI (a3)), (4, yI (a4))]) rfl (fun _ _ => rfl) rfl rfl ?_
              refine yG.load xlk2 rfl (fun _ _ => rfl) (v := yJ (z31)) rfl rfl ?_
              refine yG.numl (c := 0) rfl (fun _ _ => rfl) (by decide) ?_
              refine yG.lcmp rfl ⟨by omega, by omega⟩ ⟨by omega, by omega⟩ (fun z32 e_z32 => ?_)
              refine yG.ifz rfl (t := 97) rfl ⟨by omega, by omega⟩ (fun c33 => ?_) (fun c33 => ?_)
              · have c33 : (z32 : Int) ≠ 0 := c33
                refine yG.load xak rfl (fun _ _ => rfl) (v := yR 2073) rfl rfl ?_
                refine yG.load xik rfl (fun _ _ => rfl) (v := yI (p1)) rfl rfl ?_
                refine yG.load xik rfl (fun _ _ => rfl) (v := yI (p2)) rfl rfl ?_
                refine yG.load xlk2 rfl (fun _ _ => rfl) (v := yJ (z31)) rfl rfl ?_
                refine yG.invV (rest := []) A_h24.1 (bOb (d_M W) H_2073) rfl rfl rfl rfl (c_GModel_tellEstimate W (d + 1) A_h24.1 (M_bMm.fr A_h24 (by decide)) H_2073 (p1) (p2) (z31) (by omega) (by omega) (by omega) (by omega) (by omega) (by omega) (by omega) (by omega) (by omega) (by omega)) (fun rv h34 q9 => ?_)
                obtain ⟨⟨rfl, R_z35⟩, B_h34⟩ := q9
                have A_h34 := A_h24.tr B_h34 (by decide)
                have M_bRg_h34 := M_bRg_h24.fr B_h34 (by decide)
                have : ys h34 2073 10 = ys h24 2073 10 := B_h34.ys H_2073 (by decide)
                have : ys h34 2073 11 = ys h24 2073 11 := B_h34.ys H_2073 (by decide)
                show yG _ _ _ _ _ _ _ _ _ _ [] _
                refine yG.load xak rfl (fun _ _ => rfl) (v := yR 2073) rfl rfl ?_
                refine yG.load xik rfl (fun _ _ => rfl) (v := yI (a4)) rfl rfl ?_
                refine yG.invV (rest := []) A_h34.1 (bOb (d_M W) H_2073) rfl rfl rfl rfl (c_GModel_usePrime_r W (d + 5) A_h34.1 H_2073 (a4) (by omega) (by omega) (by omega) (by omega)) (fun rv h36 q9 => ?_)
                obtain ⟨q9, pr0_z37⟩ := q9
                obtain ⟨⟨rfl, R_z37⟩, B_h36⟩ := q9
                have A_h36 := A_h34.tr B_h36 (by decide)
                have M_bRg_h36 := M_bRg_h34.fr B_h36 (by decide)
                have : ys h36 2073 11 = ys h34 2073 11 := B_h36.ys H_2073 (by decide)
                show yG _ _ _ _ _ _ _ _ _ _ [] _
                refine yG.iinc rfl (a := a4) rfl (L' := [(4, yI (a4 + 1)), (7, yJ (z31)), (5, yJ (z23)), (0, yR 2073), (1, yI (p1)), (2, yI (p2)), (3, yI (a3))]) rfl ?_
                refine yG.goto rfl (t := 10) rfl ?_
                exact yG.mono (yG.sub (i_10 (a3) (a4 + 1) (ys h36 2073 10) h36 A_h36 M_bRg_h36  rfl (by omega) (by omega) (by omega) (by omega) (by omega) (by omega) (by omega) (by omega) (by omega) (by omega) (by omega) (by omega) (by omega)) (ySub.cons rfl (ySub.cons rfl (ySub.cons rfl (ySub.cons rfl (ySub.cons rfl (ySub.nil))))))) (by omega)
              · have c33 : (z32 : Int) = 0 := c33
                refine yG.iinc rfl (a := a3) rfl (L' := [(3, yI (a3 + 1)), (7, yJ (z31)), (5, yJ (z23)), (0, yR 2073), (1, yI (p1)), (2, yI (p2)), (4, yI (a4))]) rfl ?_
                refine yG.goto rfl (t := 111) rfl ?_
                refine yG.iinc rfl (a := a4) rfl (L' := [(4, yI (a4 + 1)), (3, yI (a3 + 1)), (7, yJ (z31)), (5, yJ (z23)), (0, yR 2073), (1, yI (p1)), (2, yI (p2))]) rfl ?_
                refine yG.goto rfl (t := 10) rfl ?_
                exact yG.mono (yG.sub (i_10 (a3 + 1) (a4 + 1) (ys h24 2073 10) h24 A_h24 M_bRg_h24  rfl (by omega) (by omega) (by omega) (by omega) (by omega) (by omega) (by omega) (by omega) (by omega) (by omega) (by omega) (by omega) (by omega)) (ySub.cons rfl (ySub.cons rfl (ySub.cons rfl (ySub.cons rfl (ySub.cons rfl (ySub.nil))))))) (by omega)
      · intro a4 gg0 hq A_hq M_bRg_hq E_0 f0 f1 f2 f3 f4 f5 f6 f7 f8 hm
        refine yG.mono (N := 59 * m + 59) ?_ (by omega)
        obtain ⟨-, -, g_0l, g_0u⟩ := (w_M_usedCount W H_2073).int A_hq.1
        refine yG.load xik rfl (fun _ _ => rfl) (v := yI (a4)) rfl rfl ?_
        refine yG.load xik rfl (fun _ _ => rfl) (v := yI (p2)) rfl rfl ?_
        refine yG.icmp rfl (t := 197) rfl ⟨by omega, by omega⟩ ⟨by omega, by omega⟩ (fun c1 => ?_) (fun c1 => ?_)
        · have c1 : (a4 : Int) ≥ p2 := c1
          refine yG.num (c := 0) rfl (fun _ _ => rfl) (by decide) ?_
          refine yG.store1 xik (L' := [(4, yI (0)), (0, yR 2073), (1, yI (p1)), (2, yI (p2))]) rfl (fun _ _ => rfl) rfl rfl ?_
          exact yG.mono (yG.sub (i_200 (0) (ys hq 2073 10) hq A_hq M_bRg_hq  rfl (by omega) (by omega) (by omega) (by omega) (by omega) (by omega) (by omega) (by omega) (by omega)) (ySub.cons rfl (ySub.cons rfl (ySub.cons rfl (ySub.nil))))) (by omega)
        · have c1 : (a4 : Int) < p2 := c1
          refine yG.load xak rfl (fun _ _ => rfl) (v := yR 2073) rfl rfl ?_
          refine yG.num (c := 68) rfl (fun _ _ => rfl) (by decide) ?_
          refine yG.load xak rfl (fun _ _ => rfl) (v := yR 2073) rfl rfl ?_
          refine yG.getO A_hq.1 (w_M_nodeAt W H_2073) rfl rfl (fun r2 H_r2 O_r2 q_r2 => ?_)
          obtain rfl := u_M_nodeAt W H_r2
          refine yG.load xik rfl (fun _ _ => rfl) (v := yI (a4)) rfl rfl ?_
          refine yG.num (c := 1) rfl (fun _ _ => rfl) (by decide) ?_
          refine yG.iadd rfl ?_
          refine yG.iald A_hq.1 (v_M_nodeAt W H_r2) rfl (by omega) (by omega) (fun z3 e_z3 i_z3 l_z3 u_z3 => ?_)
          refine yG.iadd rfl ?_
          refine yG.num (c := 1) rfl (fun _ _ => rfl) (by decide) ?_
          refine yG.load xik rfl (fun _ _ => rfl) (v := yI (a4)) rfl rfl ?_
          refine yG.iadd rfl ?_
          refine yG.invV (rest := []) A_hq.1 (bOb (d_M W) H_2073) rfl rfl rfl rfl (c_GModel_fromResidues_E W (d + 3) A_hq.1 M_bRg_hq H_2073 (68 + z3) (1 + a4) (by omega) (by omega) (by omega) (by omega) (by omega) (by omega)) (fun rv h4 q9 => ?_)
          obtain ⟨q9, M_bRg_h4⟩ := q9
          obtain ⟨⟨rfl, R_z5⟩, B_h4⟩ := q9
          have A_h4 := A_hq.tr B_h4 (by decide)
          have : ys h4 2073 10 = ys hq 2073 10 := B_h4.ys H_2073 (by decide)
          show yG _ _ _ _ _ _ _ _ _ _ [] _
          refine yG.iinc rfl (a := a4) rfl (L' := [(4, yI (a4 + 1)), (0, yR 2073), (1, yI (p1)), (2, yI (p2))]) rfl ?_
          refine yG.goto rfl (t := 165) rfl ?_
          exact yG.mono (yG.sub (i_165 (a4 + 1) (ys h4 2073 10) h4 A_h4 M_bRg_h4  rfl (by omega) (by omega) (by omega) (by omega) (by omega) (by omega) (by omega) (by omega) (by omega) (by omega)) (ySub.cons rfl (ySub.cons rfl (ySub.cons rfl (ySub.cons rfl (ySub.nil)))))) (by omega)
      · intro a4 gg0 hq A_hq M_bRg_hq E_0 f0 f1 f2 f3 f4 f5 f6 f7 hm
        refine yG.mono (N := 59 * m + 59) ?_ (by omega)
        obtain ⟨-, -, g_0l, g_0u⟩ := (w_M_usedCount W H_2073).int A_hq.1
        refine yG.load xik rfl (fun _ _ => rfl) (v := yI (a4)) rfl rfl ?_
        refine yG.load xak rfl (fun _ _ => rfl) (v := yR 2073) rfl rfl ?_
        refine yG.getI A_hq.1 (w_M_meters W H_2073) rfl rfl (fun z1 e_z1 i_z1 l_z1 u_z1 => ?_)
        refine yG.icmp rfl (t := 253) rfl ⟨by omega, by omega⟩ ⟨by omega, by omega⟩ (fun c2 => ?_) (fun c2 => ?_)
        · have c2 : (a4 : Int) ≥ z1 := c2
          refine yG.ret rfl (fun _ _ => rfl) ?_
          exact (yP.void ⟨⟨⟨rfl, trivial⟩, A_hq⟩, M_bRg_hq⟩)
        · have c2 : (a4 : Int) < z1 := c2
          refine yG.load xak rfl (fun _ _ => rfl) (v := yR 2073) rfl rfl ?_
          refine yG.load xik rfl (fun _ _ => rfl) (v := yI (a4)) rfl rfl ?_
          refine yG.invV (rest := []) A_hq.1 (bOb (d_M W) H_2073) rfl rfl rfl rfl (c_GModel_islandOfMeter W (d + 2) A_hq.1 (M_bMm.fr A_hq (by decide)) H_2073 (a4) (by omega) (by omega)) (fun rv hp9 q9 => ?_)
          obtain ⟨⟨z3, rfl, l_z3, u_z3, R_z3⟩, e9⟩ := q9
          rw [e9]
          show yG _ _ _ _ _ _ _ _ _ _ (yI z3 :: []) _
          refine yG.load xik rfl (fun _ _ => rfl) (v := yI (p1)) rfl rfl ?_
          refine yG.icmp rfl (t := 247) rfl ⟨by omega, by omega⟩ ⟨by omega, by omega⟩ (fun c4 => ?_) (fun c4 => ?_)
          · have c4 : (z3 : Int) ≠ p1 := c4
            refine yG.iinc rfl (a := a4) rfl (L' := [(4, yI (a4 + 1)), (0, yR 2073), (1, yI (p1))]) rfl ?_
            refine yG.goto rfl (t := 200) rfl ?_
            exact yG.mono (yG.sub (i_200 (a4 + 1) (ys hq 2073 10) hq A_hq M_bRg_hq  rfl (by omega) (by omega) (by omega) (by omega) (by omega) (by omega) (by omega) (by omega) (by omega)) (ySub.cons rfl (ySub.cons rfl (ySub.cons rfl (ySub.nil))))) (by omega)
          · have c4 : (z3 : Int) = p1 := c4
            refine yG.load xak rfl (fun _ _ => rfl) (v := yR 2073) rfl rfl ?_
            refine yG.num (c := 84) rfl (fun _ _ => rfl) (by decide) ?_
            refine yG.load xik rfl (fun _ _ => rfl) (v := yI (a4)) rfl rfl ?_
            refine yG.iadd rfl ?_
            refine yG.num (c := 20) rfl (fun _ _ => rfl) (by decide) ?_
            refine yG.load xik rfl (fun _ _ => rfl) (v := yI (a4)) rfl rfl ?_
            refine yG.iadd rfl ?_
            refine yG.invV (rest := []) A_hq.1 (bOb (d_M W) H_2073) rfl rfl rfl rfl (c_GModel_fromResidues_E W (d + 3) A_hq.1 M_bRg_hq H_2073 (84 + a4) (20 + a4) (by omega) (by omega) (by omega) (by omega) (by omega) (by omega)) (fun rv h5 q9 => ?_)
            obtain ⟨q9, M_bRg_h5⟩ := q9
            obtain ⟨⟨rfl, R_z6⟩, B_h5⟩ := q9
            have A_h5 := A_hq.tr B_h5 (by decide)
            have : ys h5 2073 10 = ys hq 2073 10 := B_h5.ys H_2073 (by decide)
            show yG _ _ _ _ _ _ _ _ _ _ [] _
            refine yG.load xak rfl (fun _ _ => rfl) (v := yR 2073) rfl rfl ?_
            refine yG.num (c := 116) rfl (fun _ _ => rfl) (by decide) ?_
            refine yG.load xik rfl (fun _ _ => rfl) (v := yI (a4)) rfl rfl ?_
            refine yG.iadd rfl ?_
            refine yG.num (c := 60) rfl (fun _ _ => rfl) (by decide) ?_
            refine yG.load xik rfl (fun _ _ => rfl) (v := yI (a4)) rfl rfl ?_
            refine yG.iadd rfl ?_
            refine yG.invV (rest := []) A_h5.1 (bOb (d_M W) H_2073) rfl rfl rfl rfl (c_GModel_fromResidues_E W (d + 3) A_h5.1 M_bRg_h5 H_2073 (116 + a4) (60 + a4) (by omega) (by omega) (by omega) (by omega) (by omega) (by omega)) (fun rv h7 q9 => ?_)
            obtain ⟨q9, M_bRg_h7⟩ := q9
            obtain ⟨⟨rfl, R_z8⟩, B_h7⟩ := q9
            have A_h7 := A_h5.tr B_h7 (by decide)
            have : ys h7 2073 10 = ys h5 2073 10 := B_h7.ys H_2073 (by decide)
            show yG _ _ _ _ _ _ _ _ _ _ [] _
            refine yG.iinc rfl (a := a4) rfl (L' := [(4, yI (a4 + 1)), (0, yR 2073), (1, yI (p1))]) rfl ?_
            refine yG.goto rfl (t := 200) rfl ?_
            exact yG.mono (yG.sub (i_200 (a4 + 1) (ys h7 2073 10) h7 A_h7 M_bRg_h7  rfl (by omega) (by omega) (by omega) (by omega) (by omega) (by omega) (by omega) (by omega) (by omega)) (ySub.cons rfl (ySub.cons rfl (ySub.cons rfl (ySub.nil))))) (by omega)
  refine yC.of (M := (xt_X13_estimateOf, (9, (0, (14, []))))) rfl rfl (N := 2152556) (yfuel (by decide)) ?_
  show yG 89 xfts (xcall 89 xfts xpools xms (d + 6)) (xpool xp_RX13) [] xt_X13_estimateOf (yP 0 (fun rv hp' => (fun rv hp' => (rv = none ∧ True) ∧ bAx G [(83076749736557242056487941267521536, 10), (83076749736557242056487941267521536, 11), (151996170282754019706604687951472695675766217637888, 256)] hp hp') rv hp' ∧ bRg G hp')) 2152556 0 [(0, yR 2073), (1, yI (p1)), (2, yI (p2))] [] hp
  obtain ⟨i_10, i_165, i_200⟩ := H 36483
  obtain ⟨gg0, E_0⟩ : ∃ z : Int, ys hp 2073 10 = z := ⟨_, rfl⟩
  obtain ⟨-, -, g_0l, g_0u⟩ := (w_M_usedCount W H_2073).int hT
  refine yG.load xak rfl (fun _ _ => rfl) (v := yR 2073) rfl rfl ?_
  refine yG.num (c := 0) rfl (fun _ _ => rfl) (by decide) ?_
  refine yG.putI A_hp.1 (w_M_usedCount W H_2073) (W.2.1 _ _ H_2073 (by decide) (by decide)) rfl rfl (.inl rfl) ⟨by omega, by omega⟩ (by omega) (by omega) (fun h1 T_h1 b_h1 f_h1 y_h1 => ?_)
  have M_bRg_h1 := M_bRg_hp.fr (bAx.put (Wl := [(83076749736557242056487941267521536, 10)]) (bAx.rf A_hp.1) T_h1 b_h1 f_h1 H_2073 (by decide)) (by decide)
  have A_h1 := A_hp.put T_h1 b_h1 f_h1 H_2073 (by decide)
  have : ys h1 2073 10 = 0 := (y_h1 2073 10).trans (if_pos ⟨rfl, rfl⟩)
  refine yG.num (c := 0) rfl (fun _ _ => rfl) (by decide) ?_
  refine yG.store1 xik (L' := [(3, yI (0)), (0, yR 2073), (1, yI (p1)), (2, yI (p2))]) rfl (fun _ _ => rfl) rfl rfl ?_
  refine yG.num (c := 0) rfl (fun _ _ => rfl) (by decide) ?_
  refine yG.store1 xik (L' := [(4, yI (0)), (3, yI (0)), (0, yR 2073), (1, yI (p1)), (2, yI (p2))]) rfl (fun _ _ => rfl) rfl rfl ?_
  exact yG.mono (yG.sub (i_10 (0) (0) (ys h1 2073 10) h1 A_h1 M_bRg_h1  rfl (by omega) (by omega) (by omega) (by omega) (by omega) (by omega) (by omega) (by omega) (by omega) (by omega) (by omega) (by omega) (by omega)) (ySub.cons rfl (ySub.cons rfl (ySub.cons rfl (ySub.cons rfl (ySub.cons rfl (ySub.nil))))))) (by omega)
theorem c_GModel_currentsOfShort {hp : xH} (W : mW G) (d : Nat) (hT : zTy G hp) (M_bRg : bRg G hp) (M_bSm : bSm G hp) (H_2073 : bRo G 116 2073) : yC (xcall 89 xfts xpools xms (d + 3)) 384 [yR 2073] hp (fun rv hp' => (fun rv hp' => (rv = none ∧ True) ∧ bAx G [(10467670466806212499117480599707713536, 256)] hp hp') rv hp' ∧ bRg G hp') := by
  have A_hp : bAx G [(10467670466806212499117480599707713536, 256)] hp hp := bAx.rf hT
  have M_bRg_hp := M_bRg
  refine yC.of (M := (xt_X13_currentsOfShort, (3, (0, (14, []))))) rfl rfl (N := 372) (yfuel (by decide)) ?_
  show yG 89 xfts (xcall 89 xfts xpools xms (d + 2)) (xpool xp_RX13) [] xt_X13_currentsOfShort (yP 0 (fun rv hp' => (fun rv hp' => (rv = none ∧ True) ∧ bAx G [(10467670466806212499117480599707713536, 256)] hp hp') rv hp' ∧ bRg G hp')) 372 0 [(0, yR 2073)] [] hp
  refine yG.num (c := 150) rfl (fun _ _ => rfl) (by decide) ?_
  refine yG.load xak rfl (fun _ _ => rfl) (v := yR 2073) rfl rfl ?_
  obtain ⟨g1, e_g1⟩ : ∃ z : Int, z = ys hp 2073 70 := ⟨_, rfl⟩
  obtain ⟨-, -, l_g1, u_g1⟩ := (w_M_isOnLine W H_2073).int A_hp.1
  obtain ⟨g2, e_g2⟩ : ∃ z : Int, z = ys hp 2073 71 := ⟨_, rfl⟩
  obtain ⟨-, -, l_g2, u_g2⟩ := (w_M_shortPlace W H_2073).int A_hp.1
  refine yG.invV (rest := [yI (150)]) A_hp.1 (bOb (d_M W) H_2073) rfl rfl rfl rfl (c_GModel_placeRow W (d + 1) A_hp.1 M_bSm H_2073) (fun rv hp9 q9 => ?_)
  obtain ⟨⟨z3, rfl, l_z3, u_z3, R_z3⟩, e9⟩ := q9
  rw [e9]
  show yG _ _ _ _ _ _ _ _ _ _ (yI z3 :: [yI (150)]) _
  refine yG.iadd rfl ?_
  obtain ⟨z4, e_z4⟩ : ∃ z : Int, z = 150 + z3 := ⟨_, rfl⟩
  rw [← e_z4]
  refine yG.store1 xik (L' := [(1, yI (z4)), (0, yR 2073)]) rfl (fun _ _ => rfl) rfl rfl ?_
  refine yG.num (c := 167) rfl (fun _ _ => rfl) (by decide) ?_
  refine yG.load xak rfl (fun _ _ => rfl) (v := yR 2073) rfl rfl ?_
  refine yG.invV (rest := [yI (167)]) A_hp.1 (bOb (d_M W) H_2073) rfl rfl rfl rfl (c_GModel_placeRow W (d + 1) A_hp.1 M_bSm H_2073) (fun rv hp9 q9 => ?_)
  obtain ⟨⟨z5, rfl, l_z5, u_z5, R_z5⟩, e9⟩ := q9
  rw [e9]
  show yG _ _ _ _ _ _ _ _ _ _ (yI z5 :: [yI (167)]) _
  refine yG.iadd rfl ?_
  obtain ⟨z6, e_z6⟩ : ∃ z : Int, z = 167 + z5 := ⟨_, rfl⟩
  rw [← e_z6]
  refine yG.store1 xik (L' := [(2, yI (z6)), (1, yI (z4)), (0, yR 2073)]) rfl (fun _ _ => rfl) rfl rfl ?_
  refine yG.load xak rfl (fun _ _ => rfl) (v := yR 2073) rfl rfl ?_
  refine yG.num (c := 212) rfl (fun _ _ => rfl) (by decide) ?_
  refine yG.num (c := 149) rfl (fun _ _ => rfl) (by decide) ?_
  refine yG.numl (c := 3) rfl (fun _ _ => rfl) (by decide) ?_
  refine yG.load xak rfl (fun _ _ => rfl) (v := yR 2073) rfl rfl ?_
  refine yG.getI A_hp.1 (w_M_shortZ W H_2073) rfl rfl (fun z7 e_z7 i_z7 l_z7 u_z7 => ?_)
  refine yG.i2l rfl ⟨by omega, by omega⟩ ?_
  refine yG.lmul rfl ?_
  refine yG.invV (rest := []) A_hp.1 (bOb (d_M W) H_2073) rfl rfl rfl rfl (r_scale W d A_hp.1 M_bRg_hp H_2073 (r := (212)) (p := (149)) (v := (3 * z7)) (y := 9) ⟨by omega, by omega⟩ ⟨by omega, by omega⟩ (by omega) (M_bRg_hp.at (x := 310) (a := 149) (b := 150) (by decide) (by omega) (by omega) (by decide)) (yEb (c := 512) (by decide) (by omega) (by omega)) (by decide) (by decide) (bTb_ge (a := 212) (b := 213) (by decide) (by omega) (by omega))) (fun rv h8 q9 => ?_)
  obtain ⟨rfl, B_h8, M_bRg_h8, Y_h8, V_h8, S_h8⟩ := q9
  have A_h8 := A_hp.tr B_h8 (by decide)
  have : ys h8 2073 70 = ys hp 2073 70 := B_h8.ys H_2073 (by decide)
  have : ys h8 2073 71 = ys hp 2073 71 := B_h8.ys H_2073 (by decide)
  have : ys h8 2073 73 = ys hp 2073 73 := B_h8.ys H_2073 (by decide)
  show yG _ _ _ _ _ _ _ _ _ _ [] _
  refine yG.load xak rfl (fun _ _ => rfl) (v := yR 2073) rfl rfl ?_
  refine yG.num (c := 212) rfl (fun _ _ => rfl) (by decide) ?_
  refine yG.num (c := 212) rfl (fun _ _ => rfl) (by decide) ?_
  refine yG.load xik rfl (fun _ _ => rfl) (v := yI (z6)) rfl rfl ?_
  refine yG.num (c := 1) rfl (fun _ _ => rfl) (by decide) ?_
  refine yG.invV (rest := []) A_h8.1 (bOb (d_M W) H_2073) rfl rfl rfl rfl (r_plus W d A_h8.1 M_bRg_h8 H_2073 (r := (212)) (p := (212)) (q := (z6)) (t := (1)) (x := 319) ⟨by omega, by omega⟩ ⟨by omega, by omega⟩ ⟨by omega, by omega⟩ (by omega) Y_h8 ((M_bRg_h8.at (x := 310) (a := 167) (b := 184) (by decide) (by omega) (by omega) (by decide)).mono (by decide)) (by decide) (bTb_ge (a := 212) (b := 213) (by decide) (by omega) (by omega))) (fun rv h9 q9 => ?_)
  obtain ⟨rfl, B_h9, M_bRg_h9, Y_h9, V_h9, S_h9⟩ := q9
  have A_h9 := A_h8.tr B_h9 (by decide)
  have : ys h9 2073 70 = ys h8 2073 70 := B_h9.ys H_2073 (by decide)
  have : ys h9 2073 71 = ys h8 2073 71 := B_h9.ys H_2073 (by decide)
  have : ys h9 2073 73 = ys h8 2073 73 := B_h9.ys H_2073 (by decide)
  show yG _ _ _ _ _ _ _ _ _ _ [] _
  refine yG.load xak rfl (fun _ _ => rfl) (v := yR 2073) rfl rfl ?_
  refine yG.num (c := 213) rfl (fun _ _ => rfl) (by decide) ?_
  refine yG.load xik rfl (fun _ _ => rfl) (v := yI (z4)) rfl rfl ?_
  refine yG.num (c := 149) rfl (fun _ _ => rfl) (by decide) ?_
  refine yG.invV (rest := []) A_h9.1 (bOb (d_M W) H_2073) rfl rfl rfl rfl (r_times W (d + 1) A_h9.1 M_bRg_h9 H_2073 (r := (213)) (p := (z4)) (q := (149)) ⟨by omega, by omega⟩ ⟨by omega, by omega⟩ ⟨by omega, by omega⟩ (M_bRg_h9.at (x := 310) (a := 150) (b := 167) (by decide) (by omega) (by omega) (by decide)) (M_bRg_h9.at (x := 310) (a := 149) (b := 150) (by decide) (by omega) (by omega) (by decide)) (by decide) (bTb_ge (a := 213) (b := 214) (by decide) (by omega) (by omega))) (fun rv h10 q9 => ?_)
  obtain ⟨rfl, B_h10, M_bRg_h10, Y_h10, V_h10, S_h10⟩ := q9
  have A_h10 := A_h9.tr B_h10 (by decide)
  have : ys h10 2073 70 = ys h9 2073 70 := B_h10.ys H_2073 (by decide)
  have : ys h10 2073 71 = ys h9 2073 71 := B_h10.ys H_2073 (by decide)
  have : ys h10 2073 73 = ys h9 2073 73 := B_h10.ys H_2073 (by decide)
  show yG _ _ _ _ _ _ _ _ _ _ [] _
  refine yG.load xak rfl (fun _ _ => rfl) (v := yR 2073) rfl rfl ?_
  refine yG.num (c := 214) rfl (fun _ _ => rfl) (by decide) ?_
  refine yG.num (c := 212) rfl (fun _ _ => rfl) (by decide) ?_
  refine yG.num (c := 148) rfl (fun _ _ => rfl) (by decide) ?_
  refine yG.invV (rest := []) A_h10.1 (bOb (d_M W) H_2073) rfl rfl rfl rfl (r_times W (d + 1) A_h10.1 M_bRg_h10 H_2073 (r := (214)) (p := (212)) (q := (148)) ⟨by omega, by omega⟩ ⟨by omega, by omega⟩ ⟨by omega, by omega⟩ (Y_h9.same W.y A_h9.1 (by decide) (S_h10 212 (by omega) trivial)) (M_bRg_h10.at (x := 310) (a := 148) (b := 149) (by decide) (by omega) (by omega) (by decide)) (by decide) (bTb_ge (a := 214) (b := 215) (by decide) (by omega) (by omega))) (fun rv h11 q9 => ?_)
  obtain ⟨rfl, B_h11, M_bRg_h11, Y_h11, V_h11, S_h11⟩ := q9
  have A_h11 := A_h10.tr B_h11 (by decide)
  have : ys h11 2073 70 = ys h10 2073 70 := B_h11.ys H_2073 (by decide)
  have : ys h11 2073 71 = ys h10 2073 71 := B_h11.ys H_2073 (by decide)
  have : ys h11 2073 73 = ys h10 2073 73 := B_h11.ys H_2073 (by decide)
  show yG _ _ _ _ _ _ _ _ _ _ [] _
  refine yG.load xak rfl (fun _ _ => rfl) (v := yR 2073) rfl rfl ?_
  refine yG.num (c := 215) rfl (fun _ _ => rfl) (by decide) ?_
  refine yG.num (c := 148) rfl (fun _ _ => rfl) (by decide) ?_
  refine yG.numl (c := 1000) rfl (fun _ _ => rfl) (by decide) ?_
  refine yG.invV (rest := []) A_h11.1 (bOb (d_M W) H_2073) rfl rfl rfl rfl (r_scale W d A_h11.1 M_bRg_h11 H_2073 (r := (215)) (p := (148)) (v := (1000)) (y := 10) ⟨by omega, by omega⟩ ⟨by omega, by omega⟩ (by omega) (M_bRg_h11.at (x := 310) (a := 148) (b := 149) (by decide) (by omega) (by omega) (by decide)) (yEb (c := 1024) (by decide) (by omega) (by omega)) (by decide) (by decide) (bTb_ge (a := 215) (b := 216) (by decide) (by omega) (by omega))) (fun rv h12 q9 => ?_)
  obtain ⟨rfl, B_h12, M_bRg_h12, Y_h12, V_h12, S_h12⟩ := q9
  have A_h12 := A_h11.tr B_h12 (by decide)
  have : ys h12 2073 70 = ys h11 2073 70 := B_h12.ys H_2073 (by decide)
  have : ys h12 2073 71 = ys h11 2073 71 := B_h12.ys H_2073 (by decide)
  have : ys h12 2073 73 = ys h11 2073 73 := B_h12.ys H_2073 (by decide)
  show yG _ _ _ _ _ _ _ _ _ _ [] _
  refine yG.load xak rfl (fun _ _ => rfl) (v := yR 2073) rfl rfl ?_
  refine yG.num (c := 184) rfl (fun _ _ => rfl) (by decide) ?_
  refine yG.numl (c := 0) rfl (fun _ _ => rfl) (by decide) ?_
  refine yG.invV (rest := []) A_h12.1 (bOb (d_M W) H_2073) rfl rfl rfl rfl (r_put W (d + 1) A_h12.1 M_bRg_h12 H_2073 (r := (184)) (v := (0)) (x := 0) ⟨by omega, by omega⟩ (yEb (c := 1) (by decide) (by omega) (by omega)) (by decide) (bTb_ge (a := 184) (b := 185) (by decide) (by omega) (by omega))) (fun rv h13 q9 => ?_)
  obtain ⟨rfl, B_h13, M_bRg_h13, Y_h13, V_h13, S_h13⟩ := q9
  have P_h13 : 0 ≤ yval h13 (184 : Int).toNat := by rw [V_h13]; omega
  have A_h13 := A_h12.tr B_h13 (by decide)
  have : ys h13 2073 70 = ys h12 2073 70 := B_h13.ys H_2073 (by decide)
  have : ys h13 2073 71 = ys h12 2073 71 := B_h13.ys H_2073 (by decide)
  have : ys h13 2073 73 = ys h12 2073 73 := B_h13.ys H_2073 (by decide)
  show yG _ _ _ _ _ _ _ _ _ _ [] _
  refine yG.load xak rfl (fun _ _ => rfl) (v := yR 2073) rfl rfl ?_
  refine yG.num (c := 185) rfl (fun _ _ => rfl) (by decide) ?_
  refine yG.numl (c := 0) rfl (fun _ _ => rfl) (by decide) ?_
  refine yG.invV (rest := []) A_h13.1 (bOb (d_M W) H_2073) rfl rfl rfl rfl (r_put W (d + 1) A_h13.1 M_bRg_h13 H_2073 (r := (185)) (v := (0)) (x := 0) ⟨by omega, by omega⟩ (yEb (c := 1) (by decide) (by omega) (by omega)) (by decide) (bTb_ge (a := 185) (b := 186) (by decide) (by omega) (by omega))) (fun rv h14 q9 => ?_)
  obtain ⟨rfl, B_h14, M_bRg_h14, Y_h14, V_h14, S_h14⟩ := q9
  have P_h14 : 0 ≤ yval h14 (185 : Int).toNat := by rw [V_h14]; omega
  have A_h14 := A_h13.tr B_h14 (by decide)
  have : ys h14 2073 70 = ys h13 2073 70 := B_h14.ys H_2073 (by decide)
  have : ys h14 2073 71 = ys h13 2073 71 := B_h14.ys H_2073 (by decide)
  have : ys h14 2073 73 = ys h13 2073 73 := B_h14.ys H_2073 (by decide)
  show yG _ _ _ _ _ _ _ _ _ _ [] _
  refine yG.load xak rfl (fun _ _ => rfl) (v := yR 2073) rfl rfl ?_
  refine yG.num (c := 186) rfl (fun _ _ => rfl) (by decide) ?_
  refine yG.numl (c := 0) rfl (fun _ _ => rfl) (by decide) ?_
  refine yG.invV (rest := []) A_h14.1 (bOb (d_M W) H_2073) rfl rfl rfl rfl (r_put W (d + 1) A_h14.1 M_bRg_h14 H_2073 (r := (186)) (v := (0)) (x := 0) ⟨by omega, by omega⟩ (yEb (c := 1) (by decide) (by omega) (by omega)) (by decide) (bTb_ge (a := 186) (b := 187) (by decide) (by omega) (by omega))) (fun rv h15 q9 => ?_)
  obtain ⟨rfl, B_h15, M_bRg_h15, Y_h15, V_h15, S_h15⟩ := q9
  have P_h15 : 0 ≤ yval h15 (186 : Int).toNat := by rw [V_h15]; omega
  have A_h15 := A_h14.tr B_h15 (by decide)
  have : ys h15 2073 70 = ys h14 2073 70 := B_h15.ys H_2073 (by decide)
  have : ys h15 2073 71 = ys h14 2073 71 := B_h15.ys H_2073 (by decide)
  have : ys h15 2073 73 = ys h14 2073 73 := B_h15.ys H_2073 (by decide)
  show yG _ _ _ _ _ _ _ _ _ _ [] _
  refine yG.load xak rfl (fun _ _ => rfl) (v := yR 2073) rfl rfl ?_
  refine yG.getI A_h15.1 (w_M_shortKind W H_2073) rfl rfl (fun z16 e_z16 i_z16 l_z16 u_z16 => ?_)
  refine yG.ifz rfl (t := 157) rfl ⟨by omega, by omega⟩ (fun c17 => ?_) (fun c17 => ?_)
  · have c17 : (z16 : Int) ≠ 0 := c17
    refine yG.load xak rfl (fun _ _ => rfl) (v := yR 2073) rfl rfl ?_
    refine yG.getI A_h15.1 (w_M_shortKind W H_2073) rfl rfl (fun z18 e_z18 i_z18 l_z18 u_z18 => ?_)
    rw [show (z18 : Int) = z16 by omega]
    refine yG.num (c := 1) rfl (fun _ _ => rfl) (by decide) ?_
    refine yG.icmp rfl (t := 236) rfl ⟨by omega, by omega⟩ ⟨by omega, by omega⟩ (fun c19 => ?_) (fun c19 => ?_)
    · have c19 : (z16 : Int) ≠ 1 := c19
      refine yG.load xak rfl (fun _ _ => rfl) (v := yR 2073) rfl rfl ?_
      refine yG.getI A_h15.1 (w_M_shortKind W H_2073) rfl rfl (fun z20 e_z20 i_z20 l_z20 u_z20 => ?_)
      rw [show (z20 : Int) = z16 by omega]
      refine yG.num (c := 1) rfl (fun _ _ => rfl) (by decide) ?_
      refine yG.icmp rfl (t := 255) rfl ⟨by omega, by omega⟩ ⟨by omega, by omega⟩ (fun c21 => ?_) (fun c21 => ?_)
      · have c21 : (z16 : Int) ≠ 1 := c21
        refine yG.load xak rfl (fun _ _ => rfl) (v := yR 2073) rfl rfl ?_
        refine yG.getI A_h15.1 (w_M_shortKind W H_2073) rfl rfl (fun z22 e_z22 i_z22 l_z22 u_z22 => ?_)
        rw [show (z22 : Int) = z16 by omega]
        refine yG.num (c := 3) rfl (fun _ _ => rfl) (by decide) ?_
        refine yG.icmp rfl (t := 385) rfl ⟨by omega, by omega⟩ ⟨by omega, by omega⟩ (fun c23 => ?_) (fun c23 => ?_)
        · have c23 : (z16 : Int) ≠ 3 := c23
          refine yG.load xak rfl (fun _ _ => rfl) (v := yR 2073) rfl rfl ?_
          refine yG.num (c := 185) rfl (fun _ _ => rfl) (by decide) ?_
          refine yG.num (c := 215) rfl (fun _ _ => rfl) (by decide) ?_
          refine yG.invV (rest := []) A_h15.1 (bOb (d_M W) H_2073) rfl rfl rfl rfl (r_copy W (d + 1) A_h15.1 M_bRg_h15 H_2073 (r := (185)) (p := (215)) ⟨by omega, by omega⟩ ⟨by omega, by omega⟩ (((Y_h12.same W.y A_h12.1 (by decide) (S_h13 215 (by omega) trivial)).same W.y A_h13.1 (by decide) (S_h14 215 (by omega) trivial)).same W.y A_h14.1 (by decide) (S_h15 215 (by omega) trivial)) (bTb_ge (a := 185) (b := 186) (by decide) (by omega) (by omega))) (fun rv h24 q9 => ?_)
          obtain ⟨rfl, B_h24, M_bRg_h24, Y_h24, V_h24, S_h24⟩ := q9
          have A_h24 := A_h15.tr B_h24 (by decide)
          have : ys h24 2073 70 = ys h15 2073 70 := B_h24.ys H_2073 (by decide)
          have : ys h24 2073 71 = ys h15 2073 71 := B_h24.ys H_2073 (by decide)
          have : ys h24 2073 73 = ys h15 2073 73 := B_h24.ys H_2073 (by decide)
          have : ys h24 2073 69 = ys h15 2073 69 := B_h24.ys H_2073 (by decide)
          show yG _ _ _ _ _ _ _ _ _ _ [] _
          refine yG.load xak rfl (fun _ _ => rfl) (v := yR 2073) rfl rfl ?_
          refine yG.num (c := 186) rfl (fun _ _ => rfl) (by decide) ?_
          refine yG.num (c := 215) rfl (fun _ _ => rfl) (by decide) ?_
          refine yG.invV (rest := []) A_h24.1 (bOb (d_M W) H_2073) rfl rfl rfl rfl (r_copy W (d + 1) A_h24.1 M_bRg_h24 H_2073 (r := (186)) (p := (215)) ⟨by omega, by omega⟩ ⟨by omega, by omega⟩ ((((Y_h12.same W.y A_h12.1 (by decide) (S_h13 215 (by omega) trivial)).same W.y A_h13.1 (by decide) (S_h14 215 (by omega) trivial)).same W.y A_h14.1 (by decide) (S_h15 215 (by omega) trivial)).same W.y A_h15.1 (by decide) (S_h24 215 (by omega) trivial)) (bTb_ge (a := 186) (b := 187) (by decide) (by omega) (by omega))) (fun rv h25 q9 => ?_)
          obtain ⟨rfl, B_h25, M_bRg_h25, Y_h25, V_h25, S_h25⟩ := q9
          have A_h25 := A_h24.tr B_h25 (by decide)
          have : ys h25 2073 70 = ys h24 2073 70 := B_h25.ys H_2073 (by decide)
          have : ys h25 2073 71 = ys h24 2073 71 := B_h25.ys H_2073 (by decide)
          have : ys h25 2073 73 = ys h24 2073 73 := B_h25.ys H_2073 (by decide)
          have : ys h25 2073 69 = ys h24 2073 69 := B_h25.ys H_2073 (by decide)
          show yG _ _ _ _ _ _ _ _ _ _ [] _
          refine yG.load xak rfl (fun _ _ => rfl) (v := yR 2073) rfl rfl ?_
          refine yG.getO A_h25.1 (w_M_sign W H_2073) rfl rfl (fun r26 H_r26 O_r26 q_r26 => ?_)
          obtain rfl := u_M_sign W H_r26
          refine yG.num (c := 186) rfl (fun _ _ => rfl) (by decide) ?_
          refine yG.load xak rfl (fun _ _ => rfl) (v := yR 2073) rfl rfl ?_
          refine yG.getS9 A_h25.1 (w_M_sign W H_2073) q_r26 rfl rfl ?_
          refine yG.num (c := 186) rfl (fun _ _ => rfl) (by decide) ?_
          refine yG.iald A_h25.1 (v_M_sign W H_r26) rfl (by omega) (by omega) (fun z27 e_z27 i_z27 l_z27 u_z27 => ?_)
          refine yG.ineg rfl ?_
          refine yG.iast A_h25.1 (v_M_sign W H_r26) (W.2.1 _ _ H_r26 (by decide) (by decide)) rfl (by omega) (by omega) ⟨by omega, by omega⟩ (by omega) (by omega) (fun h28 T_h28 b_h28 f_h28 y_h28 => ?_)
          obtain ⟨M_bRg_h28, S_h28, K_h28, V_h28⟩ := r_sgn W M_bRg_h25 T_h28 H_r26 (i := (186)) ⟨by omega, by omega⟩ y_h28 (by omega)
          have A_h28 := A_h25.put T_h28 b_h28 f_h28 H_r26 (bAll_ok (by decide) _)
          have : ys h28 2073 70 = ys h25 2073 70 := (y_h28 2073 70).trans (if_neg (fun e => (bRo.ne H_2073 H_r26 (by decide)) e.1))
          have : ys h28 2073 71 = ys h25 2073 71 := (y_h28 2073 71).trans (if_neg (fun e => (bRo.ne H_2073 H_r26 (by decide)) e.1))
          have : ys h28 2073 73 = ys h25 2073 73 := (y_h28 2073 73).trans (if_neg (fun e => (bRo.ne H_2073 H_r26 (by decide)) e.1))
          have : ys h28 2073 69 = ys h25 2073 69 := (y_h28 2073 69).trans (if_neg (fun e => (bRo.ne H_2073 H_r26 (by decide)) e.1))
          have qq1 : zsl h28 2073 3 = yR 2076 := ((f_h28 2073 3).trans (if_neg (fun e => (bRo.ne H_2073 H_r26 (by decide)) e.1))).trans q_r26
          refine yG.load xak rfl (fun _ _ => rfl) (v := yR 2073) rfl rfl ?_
          refine yG.num (c := 216) rfl (fun _ _ => rfl) (by decide) ?_
          refine yG.num (c := 148) rfl (fun _ _ => rfl) (by decide) ?_
          refine yG.load xak rfl (fun _ _ => rfl) (v := yR 2073) rfl rfl ?_
          refine yG.getI A_h28.1 (w_M_shortKind W H_2073) rfl rfl (fun z29 e_z29 i_z29 l_z29 u_z29 => ?_)
          rw [show (z29 : Int) = z16 by omega]
          refine yG.num (c := 3) rfl (fun _ _ => rfl) (by decide) ?_
          refine yG.icmp rfl (t := 441) rfl ⟨by omega, by omega⟩ ⟨by omega, by omega⟩ (fun c30 => ?_) (fun c30 => ?_)
          · have c30 : (z16 : Int) ≠ 3 := c30
            refine yG.load xak rfl (fun _ _ => rfl) (v := yR 2073) rfl rfl ?_
            refine yG.getI A_h28.1 (w_M_shortZ W H_2073) rfl rfl (fun z31 e_z31 i_z31 l_z31 u_z31 => ?_)
            rw [show (z31 : Int) = z7 by omega]
            refine yG.i2l rfl ⟨by omega, by omega⟩ ?_
            refine yG.invV (rest := []) A_h28.1 (bOb (d_M W) H_2073) rfl rfl rfl rfl (r_scale W d A_h28.1 M_bRg_h28 H_2073 (r := (216)) (p := (148)) (v := (z7)) (y := 7) ⟨by omega, by omega⟩ ⟨by omega, by omega⟩ (by omega) (M_bRg_h28.at (x := 310) (a := 148) (b := 149) (by decide) (by omega) (by omega) (by decide)) (yEb (c := 128) (by decide) (by omega) (by omega)) (by decide) (by decide) (bTb_ge (a := 216) (b := 217) (by decide) (by omega) (by omega))) (fun rv h32 q9 => ?_)
            obtain ⟨rfl, B_h32, M_bRg_h32, Y_h32, V_h32, S_h32⟩ := q9
            have A_h32 := A_h28.tr B_h32 (by decide)
            have : ys h32 2073 70 = ys h28 2073 70 := B_h32.ys H_2073 (by decide)
            have : ys h32 2073 71 = ys h28 2073 71 := B_h32.ys H_2073 (by decide)
            have : ys h32 2073 73 = ys h28 2073 73 := B_h32.ys H_2073 (by decide)
            have : ys h32 2073 69 = ys h28 2073 69 := B_h32.ys H_2073 (by decide)
            have qq2 : zsl h32 2073 3 = yR 2076 := (B_h32.sl H_2073 (by decide)).trans qq1
            show yG _ _ _ _ _ _ _ _ _ _ [] _
            refine yG.load xak rfl (fun _ _ => rfl) (v := yR 2073) rfl rfl ?_
            refine yG.num (c := 187) rfl (fun _ _ => rfl) (by decide) ?_
            refine yG.load xik rfl (fun _ _ => rfl) (v := yI (z4)) rfl rfl ?_
            refine yG.load xik rfl (fun _ _ => rfl) (v := yI (z4)) rfl rfl ?_
            refine yG.num (c := 1) rfl (fun _ _ => rfl) (by decide) ?_
            refine yG.invV (rest := []) A_h32.1 (bOb (d_M W) H_2073) rfl rfl rfl rfl (r_plus W d A_h32.1 M_bRg_h32 H_2073 (r := (187)) (p := (z4)) (q := (z4)) (t := (1)) (x := 310) ⟨by omega, by omega⟩ ⟨by omega, by omega⟩ ⟨by omega, by omega⟩ (by omega) (M_bRg_h32.at (x := 310) (a := 150) (b := 167) (by decide) (by omega) (by omega) (by decide)) (M_bRg_h32.at (x := 310) (a := 150) (b := 167) (by decide) (by omega) (by omega) (by decide)) (by decide) (bTb_ge (a := 187) (b := 188) (by decide) (by omega) (by omega))) (fun rv h33 q9 => ?_)
            obtain ⟨rfl, B_h33, M_bRg_h33, Y_h33, V_h33, S_h33⟩ := q9
            have A_h33 := A_h32.tr B_h33 (by decide)
            have : ys h33 2073 70 = ys h32 2073 70 := B_h33.ys H_2073 (by decide)
            have : ys h33 2073 71 = ys h32 2073 71 := B_h33.ys H_2073 (by decide)
            have : ys h33 2073 73 = ys h32 2073 73 := B_h33.ys H_2073 (by decide)
            have : ys h33 2073 69 = ys h32 2073 69 := B_h33.ys H_2073 (by decide)
            have qq3 : zsl h33 2073 3 = yR 2076 := (B_h33.sl H_2073 (by decide)).trans qq2
            show yG _ _ _ _ _ _ _ _ _ _ [] _
            refine yG.load xak rfl (fun _ _ => rfl) (v := yR 2073) rfl rfl ?_
            refine yG.num (c := 187) rfl (fun _ _ => rfl) (by decide) ?_
            refine yG.num (c := 187) rfl (fun _ _ => rfl) (by decide) ?_
            refine yG.num (c := 216) rfl (fun _ _ => rfl) (by decide) ?_
            refine yG.num (c := 1) rfl (fun _ _ => rfl) (by decide) ?_
            refine yG.invV (rest := []) A_h33.1 (bOb (d_M W) H_2073) rfl rfl rfl rfl (r_plus W d A_h33.1 M_bRg_h33 H_2073 (r := (187)) (p := (187)) (q := (216)) (t := (1)) (x := 317) ⟨by omega, by omega⟩ ⟨by omega, by omega⟩ ⟨by omega, by omega⟩ (by omega) (Y_h33.mono (by decide)) (Y_h32.same W.y A_h32.1 (by decide) (S_h33 216 (by omega) trivial)) (by decide) (bTb_ge (a := 187) (b := 188) (by decide) (by omega) (by omega))) (fun rv h34 q9 => ?_)
            obtain ⟨rfl, B_h34, M_bRg_h34, Y_h34, V_h34, S_h34⟩ := q9
            have A_h34 := A_h33.tr B_h34 (by decide)
            have : ys h34 2073 70 = ys h33 2073 70 := B_h34.ys H_2073 (by decide)
            have : ys h34 2073 71 = ys h33 2073 71 := B_h34.ys H_2073 (by decide)
            have : ys h34 2073 73 = ys h33 2073 73 := B_h34.ys H_2073 (by decide)
            have : ys h34 2073 69 = ys h33 2073 69 := B_h34.ys H_2073 (by decide)
            have qq4 : zsl h34 2073 3 = yR 2076 := (B_h34.sl H_2073 (by decide)).trans qq3
            show yG _ _ _ _ _ _ _ _ _ _ [] _
            refine yG.ret rfl (fun _ _ => rfl) ?_
            exact (yP.void ⟨⟨⟨rfl, trivial⟩, A_h34⟩, M_bRg_h34⟩)
          · have c30 : (z16 : Int) = 3 := c30
            exfalso; omega
        · have c23 : (z16 : Int) = 3 := c23
          refine yG.load xak rfl (fun _ _ => rfl) (v := yR 2073) rfl rfl ?_
          refine yG.getI A_h15.1 (w_M_hasZero W H_2073) rfl rfl (fun z35 e_z35 i_z35 l_z35 u_z35 => ?_)
          refine yG.ifz rfl (t := 385) rfl ⟨by omega, by omega⟩ (fun c36 => ?_) (fun c36 => ?_)
          · have c36 : (z35 : Int) = 0 := c36
            refine yG.load xak rfl (fun _ _ => rfl) (v := yR 2073) rfl rfl ?_
            refine yG.num (c := 185) rfl (fun _ _ => rfl) (by decide) ?_
            refine yG.num (c := 215) rfl (fun _ _ => rfl) (by decide) ?_
            refine yG.invV (rest := []) A_h15.1 (bOb (d_M W) H_2073) rfl rfl rfl rfl (r_copy W (d + 1) A_h15.1 M_bRg_h15 H_2073 (r := (185)) (p := (215)) ⟨by omega, by omega⟩ ⟨by omega, by omega⟩ (((Y_h12.same W.y A_h12.1 (by decide) (S_h13 215 (by omega) trivial)).same W.y A_h13.1 (by decide) (S_h14 215 (by omega) trivial)).same W.y A_h14.1 (by decide) (S_h15 215 (by omega) trivial)) (bTb_ge (a := 185) (b := 186) (by decide) (by omega) (by omega))) (fun rv h37 q9 => ?_)
            obtain ⟨rfl, B_h37, M_bRg_h37, Y_h37, V_h37, S_h37⟩ := q9
            have A_h37 := A_h15.tr B_h37 (by decide)
            have : ys h37 2073 70 = ys h15 2073 70 := B_h37.ys H_2073 (by decide)
            have : ys h37 2073 71 = ys h15 2073 71 := B_h37.ys H_2073 (by decide)
            have : ys h37 2073 73 = ys h15 2073 73 := B_h37.ys H_2073 (by decide)
            have : ys h37 2073 69 = ys h15 2073 69 := B_h37.ys H_2073 (by decide)
            show yG _ _ _ _ _ _ _ _ _ _ [] _
            refine yG.load xak rfl (fun _ _ => rfl) (v := yR 2073) rfl rfl ?_
            refine yG.num (c := 186) rfl (fun _ _ => rfl) (by decide) ?_
            refine yG.num (c := 215) rfl (fun _ _ => rfl) (by decide) ?_
            refine yG.invV (rest := []) A_h37.1 (bOb (d_M W) H_2073) rfl rfl rfl rfl (r_copy W (d + 1) A_h37.1 M_bRg_h37 H_2073 (r := (186)) (p := (215)) ⟨by omega, by omega⟩ ⟨by omega, by omega⟩ ((((Y_h12.same W.y A_h12.1 (by decide) (S_h13 215 (by omega) trivial)).same W.y A_h13.1 (by decide) (S_h14 215 (by omega) trivial)).same W.y A_h14.1 (by decide) (S_h15 215 (by omega) trivial)).same W.y A_h15.1 (by decide) (S_h37 215 (by omega) trivial)) (bTb_ge (a := 186) (b := 187) (by decide) (by omega) (by omega))) (fun rv h38 q9 => ?_)
            obtain ⟨rfl, B_h38, M_bRg_h38, Y_h38, V_h38, S_h38⟩ := q9
            have A_h38 := A_h37.tr B_h38 (by decide)
            have : ys h38 2073 70 = ys h37 2073 70 := B_h38.ys H_2073 (by decide)
            have : ys h38 2073 71 = ys h37 2073 71 := B_h38.ys H_2073 (by decide)
            have : ys h38 2073 73 = ys h37 2073 73 := B_h38.ys H_2073 (by decide)
            have : ys h38 2073 69 = ys h37 2073 69 := B_h38.ys H_2073 (by decide)
            show yG _ _ _ _ _ _ _ _ _ _ [] _
            refine yG.load xak rfl (fun _ _ => rfl) (v := yR 2073) rfl rfl ?_
            refine yG.getO A_h38.1 (w_M_sign W H_2073) rfl rfl (fun r39 H_r39 O_r39 q_r39 => ?_)
            obtain rfl := u_M_sign W H_r39
            refine yG.num (c := 186) rfl (fun _ _ => rfl) (by decide) ?_
            refine yG.load xak rfl (fun _ _ => rfl) (v := yR 2073) rfl rfl ?_
            refine yG.getS9 A_h38.1 (w_M_sign W H_2073) q_r39 rfl rfl ?_
            refine yG.num (c := 186) rfl (fun _ _ => rfl) (by decide) ?_
            refine yG.iald A_h38.1 (v_M_sign W H_r39) rfl (by omega) (by omega) (fun z40 e_z40 i_z40 l_z40 u_z40 => ?_)
            refine yG.ineg rfl ?_
            refine yG.iast A_h38.1 (v_M_sign W H_r39) (W.2.1 _ _ H_r39 (by decide) (by decide)) rfl (by omega) (by omega) ⟨by omega, by omega⟩ (by omega) (by omega) (fun h41 T_h41 b_h41 f_h41 y_h41 => ?_)
            obtain ⟨M_bRg_h41, S_h41, K_h41, V_h41⟩ := r_sgn W M_bRg_h38 T_h41 H_r39 (i := (186)) ⟨by omega, by omega⟩ y_h41 (by omega)
            have A_h41 := A_h38.put T_h41 b_h41 f_h41 H_r39 (bAll_ok (by decide) _)
            have : ys h41 2073 70 = ys h38 2073 70 := (y_h41 2073 70).trans (if_neg (fun e => (bRo.ne H_2073 H_r39 (by decide)) e.1))
            have : ys h41 2073 71 = ys h38 2073 71 := (y_h41 2073 71).trans (if_neg (fun e => (bRo.ne H_2073 H_r39 (by decide)) e.1))
            have : ys h41 2073 73 = ys h38 2073 73 := (y_h41 2073 73).trans (if_neg (fun e => (bRo.ne H_2073 H_r39 (by decide)) e.1))
            have : ys h41 2073 69 = ys h38 2073 69 := (y_h41 2073 69).trans (if_neg (fun e => (bRo.ne H_2073 H_r39 (by decide)) e.1))
            have qq5 : zsl h41 2073 3 = yR 2076 := ((f_h41 2073 3).trans (if_neg (fun e => (bRo.ne H_2073 H_r39 (by decide)) e.1))).trans q_r39
            refine yG.load xak rfl (fun _ _ => rfl) (v := yR 2073) rfl rfl ?_
            refine yG.num (c := 216) rfl (fun _ _ => rfl) (by decide) ?_
            refine yG.num (c := 148) rfl (fun _ _ => rfl) (by decide) ?_
            refine yG.load xak rfl (fun _ _ => rfl) (v := yR 2073) rfl rfl ?_
            refine yG.getI A_h41.1 (w_M_shortKind W H_2073) rfl rfl (fun z42 e_z42 i_z42 l_z42 u_z42 => ?_)
            rw [show (z42 : Int) = z16 by omega]
            refine yG.num (c := 3) rfl (fun _ _ => rfl) (by decide) ?_
            refine yG.icmp rfl (t := 441) rfl ⟨by omega, by omega⟩ ⟨by omega, by omega⟩ (fun c43 => ?_) (fun c43 => ?_)
            · have c43 : (z16 : Int) ≠ 3 := c43
              exfalso; omega
            · have c43 : (z16 : Int) = 3 := c43
              refine yG.numl (c := 0) rfl (fun _ _ => rfl) (by decide) ?_
              refine yG.goto rfl (t := 446) rfl ?_
              refine yG.invV (rest := []) A_h41.1 (bOb (d_M W) H_2073) rfl rfl rfl rfl (r_scale W d A_h41.1 M_bRg_h41 H_2073 (r := (216)) (p := (148)) (v := (0)) (y := 0) ⟨by omega, by omega⟩ ⟨by omega, by omega⟩ (by omega) (M_bRg_h41.at (x := 310) (a := 148) (b := 149) (by decide) (by omega) (by omega) (by decide)) (yEb (c := 1) (by decide) (by omega) (by omega)) (by decide) (by decide) (bTb_ge (a := 216) (b := 217) (by decide) (by omega) (by omega))) (fun rv h44 q9 => ?_)
              obtain ⟨rfl, B_h44, M_bRg_h44, Y_h44, V_h44, S_h44⟩ := q9
              have A_h44 := A_h41.tr B_h44 (by decide)
              have : ys h44 2073 70 = ys h41 2073 70 := B_h44.ys H_2073 (by decide)
              have : ys h44 2073 71 = ys h41 2073 71 := B_h44.ys H_2073 (by decide)
              have : ys h44 2073 73 = ys h41 2073 73 := B_h44.ys H_2073 (by decide)
              have : ys h44 2073 69 = ys h41 2073 69 := B_h44.ys H_2073 (by decide)
              have qq6 : zsl h44 2073 3 = yR 2076 := (B_h44.sl H_2073 (by decide)).trans qq5
              show yG _ _ _ _ _ _ _ _ _ _ [] _
              refine yG.load xak rfl (fun _ _ => rfl) (v := yR 2073) rfl rfl ?_
              refine yG.num (c := 187) rfl (fun _ _ => rfl) (by decide) ?_
              refine yG.load xik rfl (fun _ _ => rfl) (v := yI (z4)) rfl rfl ?_
              refine yG.load xik rfl (fun _ _ => rfl) (v := yI (z4)) rfl rfl ?_
              refine yG.num (c := 1) rfl (fun _ _ => rfl) (by decide) ?_
              refine yG.invV (rest := []) A_h44.1 (bOb (d_M W) H_2073) rfl rfl rfl rfl (r_plus W d A_h44.1 M_bRg_h44 H_2073 (r := (187)) (p := (z4)) (q := (z4)) (t := (1)) (x := 310) ⟨by omega, by omega⟩ ⟨by omega, by omega⟩ ⟨by omega, by omega⟩ (by omega) (M_bRg_h44.at (x := 310) (a := 150) (b := 167) (by decide) (by omega) (by omega) (by decide)) (M_bRg_h44.at (x := 310) (a := 150) (b := 167) (by decide) (by omega) (by omega) (by decide)) (by decide) (bTb_ge (a := 187) (b := 188) (by decide) (by omega) (by omega))) (fun rv h45 q9 => ?_)
              obtain ⟨rfl, B_h45, M_bRg_h45, Y_h45, V_h45, S_h45⟩ := q9
              have A_h45 := A_h44.tr B_h45 (by decide)
              have : ys h45 2073 70 = ys h44 2073 70 := B_h45.ys H_2073 (by decide)
              have : ys h45 2073 71 = ys h44 2073 71 := B_h45.ys H_2073 (by decide)
              have : ys h45 2073 73 = ys h44 2073 73 := B_h45.ys H_2073 (by decide)
              have : ys h45 2073 69 = ys h44 2073 69 := B_h45.ys H_2073 (by decide)
              have qq7 : zsl h45 2073 3 = yR 2076 := (B_h45.sl H_2073 (by decide)).trans qq6
              show yG _ _ _ _ _ _ _ _ _ _ [] _
              refine yG.load xak rfl (fun _ _ => rfl) (v := yR 2073) rfl rfl ?_
              refine yG.num (c := 187) rfl (fun _ _ => rfl) (by decide) ?_
              refine yG.num (c := 187) rfl (fun _ _ => rfl) (by decide) ?_
              refine yG.num (c := 216) rfl (fun _ _ => rfl) (by decide) ?_
              refine yG.num (c := 1) rfl (fun _ _ => rfl) (by decide) ?_
              refine yG.invV (rest := []) A_h45.1 (bOb (d_M W) H_2073) rfl rfl rfl rfl (r_plus W d A_h45.1 M_bRg_h45 H_2073 (r := (187)) (p := (187)) (q := (216)) (t := (1)) (x := 311) ⟨by omega, by omega⟩ ⟨by omega, by omega⟩ ⟨by omega, by omega⟩ (by omega) Y_h45 ((Y_h44.same W.y A_h44.1 (by decide) (S_h45 216 (by omega) trivial)).mono (by decide)) (by decide) (bTb_ge (a := 187) (b := 188) (by decide) (by omega) (by omega))) (fun rv h46 q9 => ?_)
              obtain ⟨rfl, B_h46, M_bRg_h46, Y_h46, V_h46, S_h46⟩ := q9
              have A_h46 := A_h45.tr B_h46 (by decide)
              have : ys h46 2073 70 = ys h45 2073 70 := B_h46.ys H_2073 (by decide)
              have : ys h46 2073 71 = ys h45 2073 71 := B_h46.ys H_2073 (by decide)
              have : ys h46 2073 73 = ys h45 2073 73 := B_h46.ys H_2073 (by decide)
              have : ys h46 2073 69 = ys h45 2073 69 := B_h46.ys H_2073 (by decide)
              have qq8 : zsl h46 2073 3 = yR 2076 := (B_h46.sl H_2073 (by decide)).trans qq7
              show yG _ _ _ _ _ _ _ _ _ _ [] _
              refine yG.ret rfl (fun _ _ => rfl) ?_
              exact (yP.void ⟨⟨⟨rfl, trivial⟩, A_h46⟩, M_bRg_h46⟩)
          · have c36 : (z35 : Int) ≠ 0 := c36
            refine yG.load xak rfl (fun _ _ => rfl) (v := yR 2073) rfl rfl ?_
            refine yG.num (c := 216) rfl (fun _ _ => rfl) (by decide) ?_
            refine yG.num (c := 213) rfl (fun _ _ => rfl) (by decide) ?_
            refine yG.num (c := 214) rfl (fun _ _ => rfl) (by decide) ?_
            refine yG.num (c := 1) rfl (fun _ _ => rfl) (by decide) ?_
            refine yG.invV (rest := []) A_h15.1 (bOb (d_M W) H_2073) rfl rfl rfl rfl (r_plus W d A_h15.1 M_bRg_h15 H_2073 (r := (216)) (p := (213)) (q := (214)) (t := (1)) (x := 630) ⟨by omega, by omega⟩ ⟨by omega, by omega⟩ ⟨by omega, by omega⟩ (by omega) ((((((Y_h10.same W.y A_h10.1 (by decide) (S_h11 213 (by omega) trivial)).same W.y A_h11.1 (by decide) (S_h12 213 (by omega) (by decide))).same W.y A_h12.1 (by decide) (S_h13 213 (by omega) trivial)).same W.y A_h13.1 (by decide) (S_h14 213 (by omega) trivial)).same W.y A_h14.1 (by decide) (S_h15 213 (by omega) trivial)).mono (by decide)) ((((Y_h11.same W.y A_h11.1 (by decide) (S_h12 214 (by omega) (by decide))).same W.y A_h12.1 (by decide) (S_h13 214 (by omega) trivial)).same W.y A_h13.1 (by decide) (S_h14 214 (by omega) trivial)).same W.y A_h14.1 (by decide) (S_h15 214 (by omega) trivial)) (by decide) (bTb_ge (a := 216) (b := 217) (by decide) (by omega) (by omega))) (fun rv h47 q9 => ?_)
            obtain ⟨rfl, B_h47, M_bRg_h47, Y_h47, V_h47, S_h47⟩ := q9
            have A_h47 := A_h15.tr B_h47 (by decide)
            have : ys h47 2073 70 = ys h15 2073 70 := B_h47.ys H_2073 (by decide)
            have : ys h47 2073 71 = ys h15 2073 71 := B_h47.ys H_2073 (by decide)
            have : ys h47 2073 73 = ys h15 2073 73 := B_h47.ys H_2073 (by decide)
            have : ys h47 2073 69 = ys h15 2073 69 := B_h47.ys H_2073 (by decide)
            show yG _ _ _ _ _ _ _ _ _ _ [] _
            refine yG.load xak rfl (fun _ _ => rfl) (v := yR 2073) rfl rfl ?_
            refine yG.num (c := 185) rfl (fun _ _ => rfl) (by decide) ?_
            refine yG.num (c := 215) rfl (fun _ _ => rfl) (by decide) ?_
            refine yG.num (c := 216) rfl (fun _ _ => rfl) (by decide) ?_
            refine yG.invV (rest := []) A_h47.1 (bOb (d_M W) H_2073) rfl rfl rfl rfl (r_times W (d + 1) A_h47.1 M_bRg_h47 H_2073 (r := (185)) (p := (215)) (q := (216)) ⟨by omega, by omega⟩ ⟨by omega, by omega⟩ ⟨by omega, by omega⟩ ((((Y_h12.same W.y A_h12.1 (by decide) (S_h13 215 (by omega) trivial)).same W.y A_h13.1 (by decide) (S_h14 215 (by omega) trivial)).same W.y A_h14.1 (by decide) (S_h15 215 (by omega) trivial)).same W.y A_h15.1 (by decide) (S_h47 215 (by omega) trivial)) Y_h47 (by decide) (bTb_ge (a := 185) (b := 186) (by decide) (by omega) (by omega))) (fun rv h48 q9 => ?_)
            obtain ⟨rfl, B_h48, M_bRg_h48, Y_h48, V_h48, S_h48⟩ := q9
            have A_h48 := A_h47.tr B_h48 (by decide)
            have : ys h48 2073 70 = ys h47 2073 70 := B_h48.ys H_2073 (by decide)
            have : ys h48 2073 71 = ys h47 2073 71 := B_h48.ys H_2073 (by decide)
            have : ys h48 2073 73 = ys h47 2073 73 := B_h48.ys H_2073 (by decide)
            have : ys h48 2073 69 = ys h47 2073 69 := B_h48.ys H_2073 (by decide)
            show yG _ _ _ _ _ _ _ _ _ _ [] _
            refine yG.load xak rfl (fun _ _ => rfl) (v := yR 2073) rfl rfl ?_
            refine yG.num (c := 186) rfl (fun _ _ => rfl) (by decide) ?_
            refine yG.num (c := 215) rfl (fun _ _ => rfl) (by decide) ?_
            refine yG.num (c := 214) rfl (fun _ _ => rfl) (by decide) ?_
            refine yG.invV (rest := []) A_h48.1 (bOb (d_M W) H_2073) rfl rfl rfl rfl (r_times W (d + 1) A_h48.1 M_bRg_h48 H_2073 (r := (186)) (p := (215)) (q := (214)) ⟨by omega, by omega⟩ ⟨by omega, by omega⟩ ⟨by omega, by omega⟩ (((((Y_h12.same W.y A_h12.1 (by decide) (S_h13 215 (by omega) trivial)).same W.y A_h13.1 (by decide) (S_h14 215 (by omega) trivial)).same W.y A_h14.1 (by decide) (S_h15 215 (by omega) trivial)).same W.y A_h15.1 (by decide) (S_h47 215 (by omega) trivial)).same W.y A_h47.1 (by decide) (S_h48 215 (by omega) trivial)) ((((((Y_h11.same W.y A_h11.1 (by decide) (S_h12 214 (by omega) (by decide))).same W.y A_h12.1 (by decide) (S_h13 214 (by omega) trivial)).same W.y A_h13.1 (by decide) (S_h14 214 (by omega) trivial)).same W.y A_h14.1 (by decide) (S_h15 214 (by omega) trivial)).same W.y A_h15.1 (by decide) (S_h47 214 (by omega) trivial)).same W.y A_h47.1 (by decide) (S_h48 214 (by omega) trivial)) (by decide) (bTb_ge (a := 186) (b := 187) (by decide) (by omega) (by omega))) (fun rv h49 q9 => ?_)
            obtain ⟨rfl, B_h49, M_bRg_h49, Y_h49, V_h49, S_h49⟩ := q9
            have A_h49 := A_h48.tr B_h49 (by decide)
            have : ys h49 2073 70 = ys h48 2073 70 := B_h49.ys H_2073 (by decide)
            have : ys h49 2073 71 = ys h48 2073 71 := B_h49.ys H_2073 (by decide)
            have : ys h49 2073 73 = ys h48 2073 73 := B_h49.ys H_2073 (by decide)
            have : ys h49 2073 69 = ys h48 2073 69 := B_h49.ys H_2073 (by decide)
            show yG _ _ _ _ _ _ _ _ _ _ [] _
            refine yG.load xak rfl (fun _ _ => rfl) (v := yR 2073) rfl rfl ?_
            refine yG.getO A_h49.1 (w_M_sign W H_2073) rfl rfl (fun r50 H_r50 O_r50 q_r50 => ?_)
            obtain rfl := u_M_sign W H_r50
            refine yG.num (c := 186) rfl (fun _ _ => rfl) (by decide) ?_
            refine yG.load xak rfl (fun _ _ => rfl) (v := yR 2073) rfl rfl ?_
            refine yG.getS9 A_h49.1 (w_M_sign W H_2073) q_r50 rfl rfl ?_
            refine yG.num (c := 186) rfl (fun _ _ => rfl) (by decide) ?_
            refine yG.iald A_h49.1 (v_M_sign W H_r50) rfl (by omega) (by omega) (fun z51 e_z51 i_z51 l_z51 u_z51 => ?_)
            refine yG.ineg rfl ?_
            refine yG.iast A_h49.1 (v_M_sign W H_r50) (W.2.1 _ _ H_r50 (by decide) (by decide)) rfl (by omega) (by omega) ⟨by omega, by omega⟩ (by omega) (by omega) (fun h52 T_h52 b_h52 f_h52 y_h52 => ?_)
            obtain ⟨M_bRg_h52, S_h52, K_h52, V_h52⟩ := r_sgn W M_bRg_h49 T_h52 H_r50 (i := (186)) ⟨by omega, by omega⟩ y_h52 (by omega)
            have A_h52 := A_h49.put T_h52 b_h52 f_h52 H_r50 (bAll_ok (by decide) _)
            have : ys h52 2073 70 = ys h49 2073 70 := (y_h52 2073 70).trans (if_neg (fun e => (bRo.ne H_2073 H_r50 (by decide)) e.1))
            have : ys h52 2073 71 = ys h49 2073 71 := (y_h52 2073 71).trans (if_neg (fun e => (bRo.ne H_2073 H_r50 (by decide)) e.1))
            have : ys h52 2073 73 = ys h49 2073 73 := (y_h52 2073 73).trans (if_neg (fun e => (bRo.ne H_2073 H_r50 (by decide)) e.1))
            have : ys h52 2073 69 = ys h49 2073 69 := (y_h52 2073 69).trans (if_neg (fun e => (bRo.ne H_2073 H_r50 (by decide)) e.1))
            have qq9 : zsl h52 2073 3 = yR 2076 := ((f_h52 2073 3).trans (if_neg (fun e => (bRo.ne H_2073 H_r50 (by decide)) e.1))).trans q_r50
            refine yG.load xak rfl (fun _ _ => rfl) (v := yR 2073) rfl rfl ?_
            refine yG.num (c := 184) rfl (fun _ _ => rfl) (by decide) ?_
            refine yG.num (c := 215) rfl (fun _ _ => rfl) (by decide) ?_
            refine yG.num (c := 213) rfl (fun _ _ => rfl) (by decide) ?_
            refine yG.invV (rest := []) A_h52.1 (bOb (d_M W) H_2073) rfl rfl rfl rfl (r_times W (d + 1) A_h52.1 M_bRg_h52 H_2073 (r := (184)) (p := (215)) (q := (213)) ⟨by omega, by omega⟩ ⟨by omega, by omega⟩ ⟨by omega, by omega⟩ (((((((Y_h12.same W.y A_h12.1 (by decide) (S_h13 215 (by omega) trivial)).same W.y A_h13.1 (by decide) (S_h14 215 (by omega) trivial)).same W.y A_h14.1 (by decide) (S_h15 215 (by omega) trivial)).same W.y A_h15.1 (by decide) (S_h47 215 (by omega) trivial)).same W.y A_h47.1 (by decide) (S_h48 215 (by omega) trivial)).same W.y A_h48.1 (by decide) (S_h49 215 (by omega) trivial)).same W.y A_h49.1 (by decide) (S_h52 215 (by omega))) (((((((((Y_h10.same W.y A_h10.1 (by decide) (S_h11 213 (by omega) trivial)).same W.y A_h11.1 (by decide) (S_h12 213 (by omega) (by decide))).same W.y A_h12.1 (by decide) (S_h13 213 (by omega) trivial)).same W.y A_h13.1 (by decide) (S_h14 213 (by omega) trivial)).same W.y A_h14.1 (by decide) (S_h15 213 (by omega) trivial)).same W.y A_h15.1 (by decide) (S_h47 213 (by omega) trivial)).same W.y A_h47.1 (by decide) (S_h48 213 (by omega) trivial)).same W.y A_h48.1 (by decide) (S_h49 213 (by omega) trivial)).same W.y A_h49.1 (by decide) (S_h52 213 (by omega))) (by decide) (bTb_ge (a := 184) (b := 185) (by decide) (by omega) (by omega))) (fun rv h53 q9 => ?_)
            obtain ⟨rfl, B_h53, M_bRg_h53, Y_h53, V_h53, S_h53⟩ := q9
            have A_h53 := A_h52.tr B_h53 (by decide)
            have : ys h53 2073 70 = ys h52 2073 70 := B_h53.ys H_2073 (by decide)
            have : ys h53 2073 71 = ys h52 2073 71 := B_h53.ys H_2073 (by decide)
            have : ys h53 2073 73 = ys h52 2073 73 := B_h53.ys H_2073 (by decide)
            have : ys h53 2073 69 = ys h52 2073 69 := B_h53.ys H_2073 (by decide)
            have qq10 : zsl h53 2073 3 = yR 2076 := (B_h53.sl H_2073 (by decide)).trans qq9
            show yG _ _ _ _ _ _ _ _ _ _ [] _
            refine yG.load xak rfl (fun _ _ => rfl) (v := yR 2073) rfl rfl ?_
            refine yG.getS9 A_h53.1 (w_M_sign W H_2073) qq10 rfl rfl ?_
            refine yG.num (c := 184) rfl (fun _ _ => rfl) (by decide) ?_
            refine yG.load xak rfl (fun _ _ => rfl) (v := yR 2073) rfl rfl ?_
            refine yG.getS9 A_h53.1 (w_M_sign W H_2073) qq10 rfl rfl ?_
            refine yG.num (c := 184) rfl (fun _ _ => rfl) (by decide) ?_
            refine yG.iald A_h53.1 (v_M_sign W H_r50) rfl (by omega) (by omega) (fun z54 e_z54 i_z54 l_z54 u_z54 => ?_)
            refine yG.ineg rfl ?_
            refine yG.iast A_h53.1 (v_M_sign W H_r50) (W.2.1 _ _ H_r50 (by decide) (by decide)) rfl (by omega) (by omega) ⟨by omega, by omega⟩ (by omega) (by omega) (fun h55 T_h55 b_h55 f_h55 y_h55 => ?_)
            obtain ⟨M_bRg_h55, S_h55, K_h55, V_h55⟩ := r_sgn W M_bRg_h53 T_h55 H_r50 (i := (184)) ⟨by omega, by omega⟩ y_h55 (by omega)
            have A_h55 := A_h53.put T_h55 b_h55 f_h55 H_r50 (bAll_ok (by decide) _)
            have : ys h55 2073 70 = ys h53 2073 70 := (y_h55 2073 70).trans (if_neg (fun e => (bRo.ne H_2073 H_r50 (by decide)) e.1))
            have : ys h55 2073 71 = ys h53 2073 71 := (y_h55 2073 71).trans (if_neg (fun e => (bRo.ne H_2073 H_r50 (by decide)) e.1))
            have : ys h55 2073 73 = ys h53 2073 73 := (y_h55 2073 73).trans (if_neg (fun e => (bRo.ne H_2073 H_r50 (by decide)) e.1))
            have : ys h55 2073 69 = ys h53 2073 69 := (y_h55 2073 69).trans (if_neg (fun e => (bRo.ne H_2073 H_r50 (by decide)) e.1))
            have qq11 : zsl h55 2073 3 = yR 2076 := ((f_h55 2073 3).trans (if_neg (fun e => (bRo.ne H_2073 H_r50 (by decide)) e.1))).trans qq10
            refine yG.load xak rfl (fun _ _ => rfl) (v := yR 2073) rfl rfl ?_
            refine yG.num (c := 216) rfl (fun _ _ => rfl) (by decide) ?_
            refine yG.num (c := 216) rfl (fun _ _ => rfl) (by decide) ?_
            refine yG.num (c := 214) rfl (fun _ _ => rfl) (by decide) ?_
            refine yG.num (c := 1) rfl (fun _ _ => rfl) (by decide) ?_
            refine yG.invV (rest := []) A_h55.1 (bOb (d_M W) H_2073) rfl rfl rfl rfl (r_plus W d A_h55.1 M_bRg_h55 H_2073 (r := (216)) (p := (216)) (q := (214)) (t := (1)) (x := 631) ⟨by omega, by omega⟩ ⟨by omega, by omega⟩ ⟨by omega, by omega⟩ (by omega) (((((Y_h47.same W.y A_h47.1 (by decide) (S_h48 216 (by omega) trivial)).same W.y A_h48.1 (by decide) (S_h49 216 (by omega) trivial)).same W.y A_h49.1 (by decide) (S_h52 216 (by omega))).same W.y A_h52.1 (by decide) (S_h53 216 (by omega) trivial)).same W.y A_h53.1 (by decide) (S_h55 216 (by omega))) (((((((((((Y_h11.same W.y A_h11.1 (by decide) (S_h12 214 (by omega) (by decide))).same W.y A_h12.1 (by decide) (S_h13 214 (by omega) trivial)).same W.y A_h13.1 (by decide) (S_h14 214 (by omega) trivial)).same W.y A_h14.1 (by decide) (S_h15 214 (by omega) trivial)).same W.y A_h15.1 (by decide) (S_h47 214 (by omega) trivial)).same W.y A_h47.1 (by decide) (S_h48 214 (by omega) trivial)).same W.y A_h48.1 (by decide) (S_h49 214 (by omega) trivial)).same W.y A_h49.1 (by decide) (S_h52 214 (by omega))).same W.y A_h52.1 (by decide) (S_h53 214 (by omega) trivial)).same W.y A_h53.1 (by decide) (S_h55 214 (by omega))).mono (by decide)) (by decide) (bTb_ge (a := 216) (b := 217) (by decide) (by omega) (by omega))) (fun rv h56 q9 => ?_)
            obtain ⟨rfl, B_h56, M_bRg_h56, Y_h56, V_h56, S_h56⟩ := q9
            have A_h56 := A_h55.tr B_h56 (by decide)
            have : ys h56 2073 70 = ys h55 2073 70 := B_h56.ys H_2073 (by decide)
            have : ys h56 2073 71 = ys h55 2073 71 := B_h56.ys H_2073 (by decide)
            have : ys h56 2073 73 = ys h55 2073 73 := B_h56.ys H_2073 (by decide)
            have : ys h56 2073 69 = ys h55 2073 69 := B_h56.ys H_2073 (by decide)
            have qq12 : zsl h56 2073 3 = yR 2076 := (B_h56.sl H_2073 (by decide)).trans qq11
            show yG _ _ _ _ _ _ _ _ _ _ [] _
            refine yG.load xak rfl (fun _ _ => rfl) (v := yR 2073) rfl rfl ?_
            refine yG.num (c := 187) rfl (fun _ _ => rfl) (by decide) ?_
            refine yG.load xik rfl (fun _ _ => rfl) (v := yI (z4)) rfl rfl ?_
            refine yG.num (c := 216) rfl (fun _ _ => rfl) (by decide) ?_
            refine yG.invV (rest := []) A_h56.1 (bOb (d_M W) H_2073) rfl rfl rfl rfl (r_times W (d + 1) A_h56.1 M_bRg_h56 H_2073 (r := (187)) (p := (z4)) (q := (216)) ⟨by omega, by omega⟩ ⟨by omega, by omega⟩ ⟨by omega, by omega⟩ (M_bRg_h56.at (x := 310) (a := 150) (b := 167) (by decide) (by omega) (by omega) (by decide)) Y_h56 (by decide) (bTb_ge (a := 187) (b := 188) (by decide) (by omega) (by omega))) (fun rv h57 q9 => ?_)
            obtain ⟨rfl, B_h57, M_bRg_h57, Y_h57, V_h57, S_h57⟩ := q9
            have A_h57 := A_h56.tr B_h57 (by decide)
            have : ys h57 2073 70 = ys h56 2073 70 := B_h57.ys H_2073 (by decide)
            have : ys h57 2073 71 = ys h56 2073 71 := B_h57.ys H_2073 (by decide)
            have : ys h57 2073 73 = ys h56 2073 73 := B_h57.ys H_2073 (by decide)
            have : ys h57 2073 69 = ys h56 2073 69 := B_h57.ys H_2073 (by decide)
            have qq13 : zsl h57 2073 3 = yR 2076 := (B_h57.sl H_2073 (by decide)).trans qq12
            show yG _ _ _ _ _ _ _ _ _ _ [] _
            refine yG.goto rfl (t := 473) rfl ?_
            refine yG.ret rfl (fun _ _ => rfl) ?_
            exact (yP.void ⟨⟨⟨rfl, trivial⟩, A_h57⟩, M_bRg_h57⟩)
      · have c21 : (z16 : Int) = 1 := c21
        exfalso; omega
    · have c19 : (z16 : Int) = 1 := c19
      refine yG.load xak rfl (fun _ _ => rfl) (v := yR 2073) rfl rfl ?_
      refine yG.getI A_h15.1 (w_M_hasZero W H_2073) rfl rfl (fun z58 e_z58 i_z58 l_z58 u_z58 => ?_)
      refine yG.ifz rfl (t := 236) rfl ⟨by omega, by omega⟩ (fun c59 => ?_) (fun c59 => ?_)
      · have c59 : (z58 : Int) = 0 := c59
        refine yG.load xak rfl (fun _ _ => rfl) (v := yR 2073) rfl rfl ?_
        refine yG.getI A_h15.1 (w_M_shortKind W H_2073) rfl rfl (fun z60 e_z60 i_z60 l_z60 u_z60 => ?_)
        rw [show (z60 : Int) = z16 by omega]
        refine yG.num (c := 1) rfl (fun _ _ => rfl) (by decide) ?_
        refine yG.icmp rfl (t := 255) rfl ⟨by omega, by omega⟩ ⟨by omega, by omega⟩ (fun c61 => ?_) (fun c61 => ?_)
        · have c61 : (z16 : Int) ≠ 1 := c61
          exfalso; omega
        · have c61 : (z16 : Int) = 1 := c61
          refine yG.load xak rfl (fun _ _ => rfl) (v := yR 2073) rfl rfl ?_
          refine yG.num (c := 187) rfl (fun _ _ => rfl) (by decide) ?_
          refine yG.numl (c := 1) rfl (fun _ _ => rfl) (by decide) ?_
          refine yG.invV (rest := []) A_h15.1 (bOb (d_M W) H_2073) rfl rfl rfl rfl (r_put W (d + 1) A_h15.1 M_bRg_h15 H_2073 (r := (187)) (v := (1)) (x := 1) ⟨by omega, by omega⟩ (yEb (c := 2) (by decide) (by omega) (by omega)) (by decide) (bTb_ge (a := 187) (b := 188) (by decide) (by omega) (by omega))) (fun rv h62 q9 => ?_)
          obtain ⟨rfl, B_h62, M_bRg_h62, Y_h62, V_h62, S_h62⟩ := q9
          have P_h62 : 0 ≤ yval h62 (187 : Int).toNat := by rw [V_h62]; omega
          have A_h62 := A_h15.tr B_h62 (by decide)
          have : ys h62 2073 70 = ys h15 2073 70 := B_h62.ys H_2073 (by decide)
          have : ys h62 2073 71 = ys h15 2073 71 := B_h62.ys H_2073 (by decide)
          have : ys h62 2073 73 = ys h15 2073 73 := B_h62.ys H_2073 (by decide)
          have : ys h62 2073 69 = ys h15 2073 69 := B_h62.ys H_2073 (by decide)
          show yG _ _ _ _ _ _ _ _ _ _ [] _
          refine yG.goto rfl (t := 473) rfl ?_
          refine yG.ret rfl (fun _ _ => rfl) ?_
          exact (yP.void ⟨⟨⟨rfl, trivial⟩, A_h62⟩, M_bRg_h62⟩)
      · have c59 : (z58 : Int) ≠ 0 := c59
        refine yG.load xak rfl (fun _ _ => rfl) (v := yR 2073) rfl rfl ?_
        refine yG.num (c := 184) rfl (fun _ _ => rfl) (by decide) ?_
        refine yG.num (c := 215) rfl (fun _ _ => rfl) (by decide) ?_
        refine yG.num (c := 149) rfl (fun _ _ => rfl) (by decide) ?_
        refine yG.invV (rest := []) A_h15.1 (bOb (d_M W) H_2073) rfl rfl rfl rfl (r_times W (d + 1) A_h15.1 M_bRg_h15 H_2073 (r := (184)) (p := (215)) (q := (149)) ⟨by omega, by omega⟩ ⟨by omega, by omega⟩ ⟨by omega, by omega⟩ (((Y_h12.same W.y A_h12.1 (by decide) (S_h13 215 (by omega) trivial)).same W.y A_h13.1 (by decide) (S_h14 215 (by omega) trivial)).same W.y A_h14.1 (by decide) (S_h15 215 (by omega) trivial)) (M_bRg_h15.at (x := 310) (a := 149) (b := 150) (by decide) (by omega) (by omega) (by decide)) (by decide) (bTb_ge (a := 184) (b := 185) (by decide) (by omega) (by omega))) (fun rv h63 q9 => ?_)
        obtain ⟨rfl, B_h63, M_bRg_h63, Y_h63, V_h63, S_h63⟩ := q9
        have A_h63 := A_h15.tr B_h63 (by decide)
        have : ys h63 2073 70 = ys h15 2073 70 := B_h63.ys H_2073 (by decide)
        have : ys h63 2073 71 = ys h15 2073 71 := B_h63.ys H_2073 (by decide)
        have : ys h63 2073 73 = ys h15 2073 73 := B_h63.ys H_2073 (by decide)
        have : ys h63 2073 69 = ys h15 2073 69 := B_h63.ys H_2073 (by decide)
        show yG _ _ _ _ _ _ _ _ _ _ [] _
        refine yG.load xak rfl (fun _ _ => rfl) (v := yR 2073) rfl rfl ?_
        refine yG.num (c := 185) rfl (fun _ _ => rfl) (by decide) ?_
        refine yG.num (c := 184) rfl (fun _ _ => rfl) (by decide) ?_
        refine yG.invV (rest := []) A_h63.1 (bOb (d_M W) H_2073) rfl rfl rfl rfl (r_copy W (d + 1) A_h63.1 M_bRg_h63 H_2073 (r := (185)) (p := (184)) ⟨by omega, by omega⟩ ⟨by omega, by omega⟩ Y_h63 (bTb_ge (a := 185) (b := 186) (by decide) (by omega) (by omega))) (fun rv h64 q9 => ?_)
        obtain ⟨rfl, B_h64, M_bRg_h64, Y_h64, V_h64, S_h64⟩ := q9
        have A_h64 := A_h63.tr B_h64 (by decide)
        have : ys h64 2073 70 = ys h63 2073 70 := B_h64.ys H_2073 (by decide)
        have : ys h64 2073 71 = ys h63 2073 71 := B_h64.ys H_2073 (by decide)
        have : ys h64 2073 73 = ys h63 2073 73 := B_h64.ys H_2073 (by decide)
        have : ys h64 2073 69 = ys h63 2073 69 := B_h64.ys H_2073 (by decide)
        show yG _ _ _ _ _ _ _ _ _ _ [] _
        refine yG.load xak rfl (fun _ _ => rfl) (v := yR 2073) rfl rfl ?_
        refine yG.num (c := 186) rfl (fun _ _ => rfl) (by decide) ?_
        refine yG.num (c := 184) rfl (fun _ _ => rfl) (by decide) ?_
        refine yG.invV (rest := []) A_h64.1 (bOb (d_M W) H_2073) rfl rfl rfl rfl (r_copy W (d + 1) A_h64.1 M_bRg_h64 H_2073 (r := (186)) (p := (184)) ⟨by omega, by omega⟩ ⟨by omega, by omega⟩ (Y_h63.same W.y A_h63.1 (by decide) (S_h64 184 (by omega) trivial)) (bTb_ge (a := 186) (b := 187) (by decide) (by omega) (by omega))) (fun rv h65 q9 => ?_)
        obtain ⟨rfl, B_h65, M_bRg_h65, Y_h65, V_h65, S_h65⟩ := q9
        have A_h65 := A_h64.tr B_h65 (by decide)
        have : ys h65 2073 70 = ys h64 2073 70 := B_h65.ys H_2073 (by decide)
        have : ys h65 2073 71 = ys h64 2073 71 := B_h65.ys H_2073 (by decide)
        have : ys h65 2073 73 = ys h64 2073 73 := B_h65.ys H_2073 (by decide)
        have : ys h65 2073 69 = ys h64 2073 69 := B_h65.ys H_2073 (by decide)
        show yG _ _ _ _ _ _ _ _ _ _ [] _
        refine yG.load xak rfl (fun _ _ => rfl) (v := yR 2073) rfl rfl ?_
        refine yG.num (c := 216) rfl (fun _ _ => rfl) (by decide) ?_
        refine yG.num (c := 213) rfl (fun _ _ => rfl) (by decide) ?_
        refine yG.num (c := 213) rfl (fun _ _ => rfl) (by decide) ?_
        refine yG.num (c := 1) rfl (fun _ _ => rfl) (by decide) ?_
        refine yG.invV (rest := []) A_h65.1 (bOb (d_M W) H_2073) rfl rfl rfl rfl (r_plus W d A_h65.1 M_bRg_h65 H_2073 (r := (216)) (p := (213)) (q := (213)) (t := (1)) (x := 620) ⟨by omega, by omega⟩ ⟨by omega, by omega⟩ ⟨by omega, by omega⟩ (by omega) ((((((((Y_h10.same W.y A_h10.1 (by decide) (S_h11 213 (by omega) trivial)).same W.y A_h11.1 (by decide) (S_h12 213 (by omega) (by decide))).same W.y A_h12.1 (by decide) (S_h13 213 (by omega) trivial)).same W.y A_h13.1 (by decide) (S_h14 213 (by omega) trivial)).same W.y A_h14.1 (by decide) (S_h15 213 (by omega) trivial)).same W.y A_h15.1 (by decide) (S_h63 213 (by omega) trivial)).same W.y A_h63.1 (by decide) (S_h64 213 (by omega) trivial)).same W.y A_h64.1 (by decide) (S_h65 213 (by omega) trivial)) ((((((((Y_h10.same W.y A_h10.1 (by decide) (S_h11 213 (by omega) trivial)).same W.y A_h11.1 (by decide) (S_h12 213 (by omega) (by decide))).same W.y A_h12.1 (by decide) (S_h13 213 (by omega) trivial)).same W.y A_h13.1 (by decide) (S_h14 213 (by omega) trivial)).same W.y A_h14.1 (by decide) (S_h15 213 (by omega) trivial)).same W.y A_h15.1 (by decide) (S_h63 213 (by omega) trivial)).same W.y A_h63.1 (by decide) (S_h64 213 (by omega) trivial)).same W.y A_h64.1 (by decide) (S_h65 213 (by omega) trivial)) (by decide) (bTb_ge (a := 216) (b := 217) (by decide) (by omega) (by omega))) (fun rv h66 q9 => ?_)
        obtain ⟨rfl, B_h66, M_bRg_h66, Y_h66, V_h66, S_h66⟩ := q9
        have A_h66 := A_h65.tr B_h66 (by decide)
        have : ys h66 2073 70 = ys h65 2073 70 := B_h66.ys H_2073 (by decide)
        have : ys h66 2073 71 = ys h65 2073 71 := B_h66.ys H_2073 (by decide)
        have : ys h66 2073 73 = ys h65 2073 73 := B_h66.ys H_2073 (by decide)
        have : ys h66 2073 69 = ys h65 2073 69 := B_h66.ys H_2073 (by decide)
        show yG _ _ _ _ _ _ _ _ _ _ [] _
        refine yG.load xak rfl (fun _ _ => rfl) (v := yR 2073) rfl rfl ?_
        refine yG.num (c := 187) rfl (fun _ _ => rfl) (by decide) ?_
        refine yG.num (c := 216) rfl (fun _ _ => rfl) (by decide) ?_
        refine yG.num (c := 214) rfl (fun _ _ => rfl) (by decide) ?_
        refine yG.num (c := 1) rfl (fun _ _ => rfl) (by decide) ?_
        refine yG.invV (rest := []) A_h66.1 (bOb (d_M W) H_2073) rfl rfl rfl rfl (r_plus W d A_h66.1 M_bRg_h66 H_2073 (r := (187)) (p := (216)) (q := (214)) (t := (1)) (x := 630) ⟨by omega, by omega⟩ ⟨by omega, by omega⟩ ⟨by omega, by omega⟩ (by omega) (Y_h66.mono (by decide)) ((((((((Y_h11.same W.y A_h11.1 (by decide) (S_h12 214 (by omega) (by decide))).same W.y A_h12.1 (by decide) (S_h13 214 (by omega) trivial)).same W.y A_h13.1 (by decide) (S_h14 214 (by omega) trivial)).same W.y A_h14.1 (by decide) (S_h15 214 (by omega) trivial)).same W.y A_h15.1 (by decide) (S_h63 214 (by omega) trivial)).same W.y A_h63.1 (by decide) (S_h64 214 (by omega) trivial)).same W.y A_h64.1 (by decide) (S_h65 214 (by omega) trivial)).same W.y A_h65.1 (by decide) (S_h66 214 (by omega) trivial)) (by decide) (bTb_ge (a := 187) (b := 188) (by decide) (by omega) (by omega))) (fun rv h67 q9 => ?_)
        obtain ⟨rfl, B_h67, M_bRg_h67, Y_h67, V_h67, S_h67⟩ := q9
        have A_h67 := A_h66.tr B_h67 (by decide)
        have : ys h67 2073 70 = ys h66 2073 70 := B_h67.ys H_2073 (by decide)
        have : ys h67 2073 71 = ys h66 2073 71 := B_h67.ys H_2073 (by decide)
        have : ys h67 2073 73 = ys h66 2073 73 := B_h67.ys H_2073 (by decide)
        have : ys h67 2073 69 = ys h66 2073 69 := B_h67.ys H_2073 (by decide)
        show yG _ _ _ _ _ _ _ _ _ _ [] _
        refine yG.goto rfl (t := 473) rfl ?_
        refine yG.ret rfl (fun _ _ => rfl) ?_
        exact (yP.void ⟨⟨⟨rfl, trivial⟩, A_h67⟩, M_bRg_h67⟩)
  · have c17 : (z16 : Int) = 0 := c17
    refine yG.load xak rfl (fun _ _ => rfl) (v := yR 2073) rfl rfl ?_
    refine yG.num (c := 185) rfl (fun _ _ => rfl) (by decide) ?_
    refine yG.num (c := 215) rfl (fun _ _ => rfl) (by decide) ?_
    refine yG.invV (rest := []) A_h15.1 (bOb (d_M W) H_2073) rfl rfl rfl rfl (r_copy W (d + 1) A_h15.1 M_bRg_h15 H_2073 (r := (185)) (p := (215)) ⟨by omega, by omega⟩ ⟨by omega, by omega⟩ (((Y_h12.same W.y A_h12.1 (by decide) (S_h13 215 (by omega) trivial)).same W.y A_h13.1 (by decide) (S_h14 215 (by omega) trivial)).same W.y A_h14.1 (by decide) (S_h15 215 (by omega) trivial)) (bTb_ge (a := 185) (b := 186) (by decide) (by omega) (by omega))) (fun rv h68 q9 => ?_)
    obtain ⟨rfl, B_h68, M_bRg_h68, Y_h68, V_h68, S_h68⟩ := q9
    have A_h68 := A_h15.tr B_h68 (by decide)
    have : ys h68 2073 70 = ys h15 2073 70 := B_h68.ys H_2073 (by decide)
    have : ys h68 2073 71 = ys h15 2073 71 := B_h68.ys H_2073 (by decide)
    have : ys h68 2073 73 = ys h15 2073 73 := B_h68.ys H_2073 (by decide)
    have : ys h68 2073 69 = ys h15 2073 69 := B_h68.ys H_2073 (by decide)
    show yG _ _ _ _ _ _ _ _ _ _ [] _
    refine yG.load xak rfl (fun _ _ => rfl) (v := yR 2073) rfl rfl ?_
    refine yG.num (c := 216) rfl (fun _ _ => rfl) (by decide) ?_
    refine yG.num (c := 148) rfl (fun _ _ => rfl) (by decide) ?_
    refine yG.load xak rfl (fun _ _ => rfl) (v := yR 2073) rfl rfl ?_
    refine yG.getI A_h68.1 (w_M_shortZ W H_2073) rfl rfl (fun z69 e_z69 i_z69 l_z69 u_z69 => ?_)
    rw [show (z69 : Int) = z7 by omega]
    refine yG.i2l rfl ⟨by omega, by omega⟩ ?_
    refine yG.invV (rest := []) A_h68.1 (bOb (d_M W) H_2073) rfl rfl rfl rfl (r_scale W d A_h68.1 M_bRg_h68 H_2073 (r := (216)) (p := (148)) (v := (z7)) (y := 7) ⟨by omega, by omega⟩ ⟨by omega, by omega⟩ (by omega) (M_bRg_h68.at (x := 310) (a := 148) (b := 149) (by decide) (by omega) (by omega) (by decide)) (yEb (c := 128) (by decide) (by omega) (by omega)) (by decide) (by decide) (bTb_ge (a := 216) (b := 217) (by decide) (by omega) (by omega))) (fun rv h70 q9 => ?_)
    obtain ⟨rfl, B_h70, M_bRg_h70, Y_h70, V_h70, S_h70⟩ := q9
    have A_h70 := A_h68.tr B_h70 (by decide)
    have : ys h70 2073 70 = ys h68 2073 70 := B_h70.ys H_2073 (by decide)
    have : ys h70 2073 71 = ys h68 2073 71 := B_h70.ys H_2073 (by decide)
    have : ys h70 2073 73 = ys h68 2073 73 := B_h70.ys H_2073 (by decide)
    have : ys h70 2073 69 = ys h68 2073 69 := B_h70.ys H_2073 (by decide)
    show yG _ _ _ _ _ _ _ _ _ _ [] _
    refine yG.load xak rfl (fun _ _ => rfl) (v := yR 2073) rfl rfl ?_
    refine yG.num (c := 187) rfl (fun _ _ => rfl) (by decide) ?_
    refine yG.load xik rfl (fun _ _ => rfl) (v := yI (z4)) rfl rfl ?_
    refine yG.num (c := 216) rfl (fun _ _ => rfl) (by decide) ?_
    refine yG.num (c := 1) rfl (fun _ _ => rfl) (by decide) ?_
    refine yG.invV (rest := []) A_h70.1 (bOb (d_M W) H_2073) rfl rfl rfl rfl (r_plus W d A_h70.1 M_bRg_h70 H_2073 (r := (187)) (p := (z4)) (q := (216)) (t := (1)) (x := 317) ⟨by omega, by omega⟩ ⟨by omega, by omega⟩ ⟨by omega, by omega⟩ (by omega) ((M_bRg_h70.at (x := 310) (a := 150) (b := 167) (by decide) (by omega) (by omega) (by decide)).mono (by decide)) Y_h70 (by decide) (bTb_ge (a := 187) (b := 188) (by decide) (by omega) (by omega))) (fun rv h71 q9 => ?_)
    obtain ⟨rfl, B_h71, M_bRg_h71, Y_h71, V_h71, S_h71⟩ := q9
    have A_h71 := A_h70.tr B_h71 (by decide)
    have : ys h71 2073 70 = ys h70 2073 70 := B_h71.ys H_2073 (by decide)
    have : ys h71 2073 71 = ys h70 2073 71 := B_h71.ys H_2073 (by decide)
    have : ys h71 2073 73 = ys h70 2073 73 := B_h71.ys H_2073 (by decide)
    have : ys h71 2073 69 = ys h70 2073 69 := B_h71.ys H_2073 (by decide)
    show yG _ _ _ _ _ _ _ _ _ _ [] _
    refine yG.goto rfl (t := 473) rfl ?_
    refine yG.ret rfl (fun _ _ => rfl) ?_
    exact (yP.void ⟨⟨⟨rfl, trivial⟩, A_h71⟩, M_bRg_h71⟩)
theorem c_GModel_shorts {hp : xH} (W : mW G) (d : Nat) (hT : zTy G hp) (M_bRg : bRg G hp) (M_bSm : bSm G hp) (H_2073 : bRo G 116 2073) : yC (xcall 89 xfts xpools xms (d + 11)) 513 [yR 2073] hp (fun rv hp' => (fun rv hp' => (rv = none ∧ True) ∧ bAx G [(83076749736557242056487941267521536, 10), (83076749736557242056487941267521536, 11), (83076749736557242056487941267521536, 38), (83076749736557242056487941267521536, 74), (83076749736557242056487941267521536, 75), (83076749736557242056487941267521536, 76), (345661890693438080159152612487681152575864832, 256)] hp hp') rv hp' ∧ bRg G hp') := by
  have A_hp : bAx G [(83076749736557242056487941267521536, 10), (83076749736557242056487941267521536, 11), (83076749736557242056487941267521536, 38), (83076749736557242056487941267521536, 74), (83076749736557242056487941267521536, 75), (83076749736557242056487941267521536, 76), (345661890693438080159152612487681152575864832, 256)] hp hp := bAx.rf hT
  have M_bRg_hp := M_bRg
  have H : ∀ m : Nat, (∀ a1 : Int, ∀ gg0 : Int, ∀ gg1 : Int, ∀ hq, bAx G [(83076749736557242056487941267521536, 10), (83076749736557242056487941267521536, 11), (83076749736557242056487941267521536, 38), (83076749736557242056487941267521536, 74), (83076749736557242056487941267521536, 75), (83076749736557242056487941267521536, 76), (345661890693438080159152612487681152575864832, 256)] hp hq → bRg G hq → ys hq 2073 70 = gg0 → ys hq 2073 71 = gg1 → 0 ≤ a1 → (-6) ≤ 0 - a1 → 0 ≤ gg0 → (-1) ≤ 0 - gg0 → 0 ≤ gg1 → (-19) ≤ 0 - gg1 → (-18) ≤ gg0 - gg1 → 0 - 37 * a1 + 258 < (m : Int) → yG 89 xfts (xcall 89 xfts xpools xms (d + 10)) (xpool xp_RX13) [] xt_X13_shorts (yP 0 (fun rv hp' => (fun rv hp' => (rv = none ∧ True) ∧ bAx G [(83076749736557242056487941267521536, 10), (83076749736557242056487941267521536, 11), (83076749736557242056487941267521536, 38), (83076749736557242056487941267521536, 74), (83076749736557242056487941267521536, 75), (83076749736557242056487941267521536, 76), (345661890693438080159152612487681152575864832, 256)] hp hp') rv hp' ∧ bRg G hp')) (50 * m) 111 [(0, yR 2073), (1, yI (a1))] [] hq) ∧ (∀ a1 : Int, ∀ gg0 : Int, ∀ gg1 : Int, ∀ hq, bAx G [(83076749736557242056487941267521536, 10), (83076749736557242056487941267521536, 11), (83076749736557242056487941267521536, 38), (83076749736557242056487941267521536, 74), (83076749736557242056487941267521536, 75), (83076749736557242056487941267521536, 76), (345661890693438080159152612487681152575864832, 256)] hp hq → bRg G hq → ys hq 2073 70 = gg0 → ys hq 2073 71 = gg1 → 0 ≤ a1 → (-17) ≤ 0 - a1 → 0 ≤ gg0 → (-1) ≤ 0 - gg0 → 0 ≤ gg1 → (-19) ≤ 0 - gg1 → (-18) ≤ gg0 - gg1 → 0 - 2 * a1 + 35 < (m : Int) → yG 89 xfts (xcall 89 xfts xpools xms (d + 10)) (xpool xp_RX13) [] xt_X13_shorts (yP 0 (fun rv hp' => (fun rv hp' => (rv = none ∧ True) ∧ bAx G [(83076749736557242056487941267521536, 10), (83076749736557242056487941267521536, 11), (83076749736557242056487941267521536, 38), (83076749736557242056487941267521536, 74), (83076749736557242056487941267521536, 75), (83076749736557242056487941267521536, 76), (345661890693438080159152612487681152575864832, 256)] hp hp') rv hp' ∧ bRg G hp')) (50 * m) 186 [(0, yR 2073), (1, yI (a1))] [] hq) := by
    intro m
    induction m with
    | zero =>
      refine ⟨?_, ?_⟩ <;> (intros; exfalso; omega)
    | succ m ih =>
      obtain ⟨i_111, i_186⟩ := ih
      refine ⟨?_, ?_⟩
      · intro a1 gg0 gg1 hq A_hq M_bRg_hq E_0 E_1 f0 f1 f2 f3 f4 f5 f6 hm
        refine yG.mono (N := 50 * m + 50) ?_ (by omega)
        obtain ⟨-, -, g_0l, g_0u⟩ := (w_M_isOnLine W H_2073).int A_hq.1
        obtain ⟨-, -, g_1l, g_1u⟩ := (w_M_shortPlace W H_2073).int A_hq.1
        refine yG.load xik rfl (fun _ _ => rfl) (v := yI (a1)) rfl rfl ?_
        refine yG.load xak rfl (fun _ _ => rfl) (v := yR 2073) rfl rfl ?_
        refine yG.getO A_hq.1 (w_M_count W H_2073) rfl rfl (fun r1 H_r1 O_r1 q_r1 => ?_)
        obtain rfl := u_M_count W H_r1
        refine yG.num (c := 3) rfl (fun _ _ => rfl) (by decide) ?_
        refine yG.ialdF A_hq.1 (v_M_count W H_r1) rfl rfl (by omega) (by omega) (fun z2 e_z2 i_z2 l_z2 u_z2 => ?_)
        refine yG.icmp rfl (t := 165) rfl ⟨by omega, by omega⟩ ⟨by omega, by omega⟩ (fun c3 => ?_) (fun c3 => ?_)
        · have c3 : (a1 : Int) ≥ z2 := c3
          refine yG.load xak rfl (fun _ _ => rfl) (v := yR 2073) rfl rfl ?_
          refine yG.num (c := 1) rfl (fun _ _ => rfl) (by decide) ?_
          refine yG.num (c := 148) rfl (fun _ _ => rfl) (by decide) ?_
          refine yG.num (c := 150) rfl (fun _ _ => rfl) (by decide) ?_
          refine yG.invV (rest := []) A_hq.1 (bOb (d_M W) H_2073) rfl rfl rfl rfl (c_GModel_potentials_1 W d A_hq.1 M_bRg_hq (M_bSm.fr A_hq (by decide)) H_2073) (fun rv h4 q9 => ?_)
          obtain ⟨q9, M_bRg_h4⟩ := q9
          obtain ⟨⟨rfl, R_z5⟩, B_h4⟩ := q9
          have A_h4 := A_hq.tr B_h4 (by decide)
          have : ys h4 2073 70 = ys hq 2073 70 := B_h4.ys H_2073 (by decide)
          have : ys h4 2073 71 = ys hq 2073 71 := B_h4.ys H_2073 (by decide)
          show yG _ _ _ _ _ _ _ _ _ _ [] _
          refine yG.load xak rfl (fun _ _ => rfl) (v := yR 2073) rfl rfl ?_
          refine yG.num (c := 149) rfl (fun _ _ => rfl) (by decide) ?_
          refine yG.numl (c := 1) rfl (fun _ _ => rfl) (by decide) ?_
          refine yG.invV (rest := []) A_h4.1 (bOb (d_M W) H_2073) rfl rfl rfl rfl (r_put W (d + 9) A_h4.1 M_bRg_h4 H_2073 (r := (149)) (v := (1)) (x := 1) ⟨by omega, by omega⟩ (yEb (c := 2) (by decide) (by omega) (by omega)) (by decide) (bTb_ge (a := 149) (b := 150) (by decide) (by omega) (by omega))) (fun rv h6 q9 => ?_)
          obtain ⟨rfl, B_h6, M_bRg_h6, Y_h6, V_h6, S_h6⟩ := q9
          have P_h6 : 0 ≤ yval h6 (149 : Int).toNat := by rw [V_h6]; omega
          have A_h6 := A_h4.tr B_h6 (by decide)
          have : ys h6 2073 70 = ys h4 2073 70 := B_h6.ys H_2073 (by decide)
          have : ys h6 2073 71 = ys h4 2073 71 := B_h6.ys H_2073 (by decide)
          show yG _ _ _ _ _ _ _ _ _ _ [] _
          refine yG.num (c := 0) rfl (fun _ _ => rfl) (by decide) ?_
          refine yG.store1 xik (L' := [(1, yI (0)), (0, yR 2073)]) rfl (fun _ _ => rfl) rfl rfl ?_
          exact yG.mono (yG.sub (i_186 (0) (ys h6 2073 70) (ys h6 2073 71) h6 A_h6 M_bRg_h6  rfl rfl (by omega) (by omega) (by omega) (by omega) (by omega) (by omega) (by omega) (by omega)) (ySub.cons rfl (ySub.cons rfl (ySub.nil)))) (by omega)
        · have c3 : (a1 : Int) < z2 := c3
          refine yG.load xak rfl (fun _ _ => rfl) (v := yR 2073) rfl rfl ?_
          refine yG.load xak rfl (fun _ _ => rfl) (v := yR 2073) rfl rfl ?_
          refine yG.getI A_hq.1 (w_M_hasZero W H_2073) rfl rfl (fun z7 e_z7 i_z7 l_z7 u_z7 => ?_)
          refine yG.ifz rfl (t := 151) rfl ⟨by omega, by omega⟩ (fun c8 => ?_) (fun c8 => ?_)
          · have c8 : (z7 : Int) ≠ 0 := c8
            refine yG.num (c := 1) rfl (fun _ _ => rfl) (by decide) ?_
            refine yG.goto rfl (t := 156) rfl ?_
            refine yG.putI A_hq.1 (w_M_hasZero W H_2073) (W.2.1 _ _ H_2073 (by decide) (by decide)) rfl rfl (.inr ⟨rfl, rfl, rfl⟩) ⟨by omega, by omega⟩ (by omega) (by omega) (fun h9 T_h9 b_h9 f_h9 y_h9 => ?_)
            have M_bRg_h9 := M_bRg_hq.fr (bAx.put (Wl := [(83076749736557242056487941267521536, 76)]) (bAx.rf A_hq.1) T_h9 b_h9 f_h9 H_2073 (by decide)) (by decide)
            have A_h9 := A_hq.put T_h9 b_h9 f_h9 H_2073 (by decide)
            have : ys h9 2073 70 = ys hq 2073 70 := (y_h9 2073 70).trans (if_neg (fun e => absurd e.2 (by decide)))
            have : ys h9 2073 71 = ys hq 2073 71 := (y_h9 2073 71).trans (if_neg (fun e => absurd e.2 (by decide)))
            refine yG.iinc rfl (a := a1) rfl (L' := [(1, yI (a1 + 1)), (0, yR 2073)]) rfl ?_
            refine yG.goto rfl (t := 111) rfl ?_
            exact yG.mono (yG.sub (i_111 (a1 + 1) (ys h9 2073 70) (ys h9 2073 71) h9 A_h9 M_bRg_h9  rfl rfl (by omega) (by omega) (by omega) (by omega) (by omega) (by omega) (by omega) (by omega)) (ySub.cons rfl (ySub.cons rfl (ySub.nil)))) (by omega)
          · have c8 : (z7 : Int) = 0 := c8
            refine yG.load xak rfl (fun _ _ => rfl) (v := yR 2073) rfl rfl ?_
            refine yG.load xik rfl (fun _ _ => rfl) (v := yI (a1)) rfl rfl ?_
            refine yG.load xak rfl (fun _ _ => rfl) (v := yR 2073) rfl rfl ?_
            refine yG.getI A_hq.1 (w_M_shortIsland W H_2073) rfl rfl (fun z10 e_z10 i_z10 l_z10 u_z10 => ?_)
            refine yG.invV (rest := [yR 2073]) A_hq.1 (bOb (d_M W) H_2073) rfl rfl rfl rfl (c_GModel_isOnIn W (d + 7) A_hq.1 H_2073 (a1) (z10) (by omega) (by omega) (by omega) (by omega)) (fun rv hp9 q9 => ?_)
            obtain ⟨⟨z11, rfl, l_z11, u_z11, R_z11⟩, e9⟩ := q9
            rw [e9]
            show yG _ _ _ _ _ _ _ _ _ _ (yI z11 :: [yR 2073]) _
            refine yG.ifz rfl (t := 155) rfl ⟨by omega, by omega⟩ (fun c12 => ?_) (fun c12 => ?_)
            · have c12 : (z11 : Int) = 0 := c12
              refine yG.num (c := 0) rfl (fun _ _ => rfl) (by decide) ?_
              refine yG.putI A_hq.1 (w_M_hasZero W H_2073) (W.2.1 _ _ H_2073 (by decide) (by decide)) rfl rfl (.inr ⟨rfl, rfl, rfl⟩) ⟨by omega, by omega⟩ (by omega) (by omega) (fun h13 T_h13 b_h13 f_h13 y_h13 => ?_)
              have M_bRg_h13 := M_bRg_hq.fr (bAx.put (Wl := [(83076749736557242056487941267521536, 76)]) (bAx.rf A_hq.1) T_h13 b_h13 f_h13 H_2073 (by decide)) (by decide)
              have A_h13 := A_hq.put T_h13 b_h13 f_h13 H_2073 (by decide)
              have : ys h13 2073 70 = ys hq 2073 70 := (y_h13 2073 70).trans (if_neg (fun e => absurd e.2 (by decide)))
              have : ys h13 2073 71 = ys hq 2073 71 := (y_h13 2073 71).trans (if_neg (fun e => absurd e.2 (by decide)))
              refine yG.iinc rfl (a := a1) rfl (L' := [(1, yI (a1 + 1)), (0, yR 2073)]) rfl ?_
              refine yG.goto rfl (t := 111) rfl ?_
              exact yG.mono (yG.sub (i_111 (a1 + 1) (ys h13 2073 70) (ys h13 2073 71) h13 A_h13 M_bRg_h13  rfl rfl (by omega) (by omega) (by omega) (by omega) (by omega) (by omega) (by omega) (by omega)) (ySub.cons rfl (ySub.cons rfl (ySub.nil)))) (by omega)
            · have c12 : (z11 : Int) ≠ 0 := c12
              refine yG.load xak rfl (fun _ _ => rfl) (v := yR 2073) rfl rfl ?_
              refine yG.num (c := 3) rfl (fun _ _ => rfl) (by decide) ?_
              refine yG.load xik rfl (fun _ _ => rfl) (v := yI (a1)) rfl rfl ?_
              refine yG.num (c := 3) rfl (fun _ _ => rfl) (by decide) ?_
              refine yG.invV (rest := [yR 2073]) A_hq.1 (bOb (d_M W) H_2073) rfl rfl rfl rfl (c_GModel_of_v3_3 W (d + 8) A_hq.1 H_2073 (a1) (by omega) (by omega)) (fun rv hp9 q9 => ?_)
              obtain ⟨⟨z14, rfl, l_z14, u_z14, R_z14⟩, e9⟩ := q9
              rw [e9]
              show yG _ _ _ _ _ _ _ _ _ _ (yI z14 :: [yR 2073]) _
              refine yG.ifz rfl (t := 155) rfl ⟨by omega, by omega⟩ (fun c15 => ?_) (fun c15 => ?_)
              · have c15 : (z14 : Int) ≤ 0 := c15
                refine yG.num (c := 0) rfl (fun _ _ => rfl) (by decide) ?_
                refine yG.putI A_hq.1 (w_M_hasZero W H_2073) (W.2.1 _ _ H_2073 (by decide) (by decide)) rfl rfl (.inr ⟨rfl, rfl, rfl⟩) ⟨by omega, by omega⟩ (by omega) (by omega) (fun h16 T_h16 b_h16 f_h16 y_h16 => ?_)
                have M_bRg_h16 := M_bRg_hq.fr (bAx.put (Wl := [(83076749736557242056487941267521536, 76)]) (bAx.rf A_hq.1) T_h16 b_h16 f_h16 H_2073 (by decide)) (by decide)
                have A_h16 := A_hq.put T_h16 b_h16 f_h16 H_2073 (by decide)
                have : ys h16 2073 70 = ys hq 2073 70 := (y_h16 2073 70).trans (if_neg (fun e => absurd e.2 (by decide)))
                have : ys h16 2073 71 = ys hq 2073 71 := (y_h16 2073 71).trans (if_neg (fun e => absurd e.2 (by decide)))
                refine yG.iinc rfl (a := a1) rfl (L' := [(1, yI (a1 + 1)), (0, yR 2073)]) rfl ?_
                refine yG.goto rfl (t := 111) rfl ?_
                exact yG.mono (yG.sub (i_111 (a1 + 1) (ys h16 2073 70) (ys h16 2073 71) h16 A_h16 M_bRg_h16  rfl rfl (by omega) (by omega) (by omega) (by omega) (by omega) (by omega) (by omega) (by omega)) (ySub.cons rfl (ySub.cons rfl (ySub.nil)))) (by omega)
              · have c15 : (z14 : Int) > 0 := c15
                refine yG.num (c := 1) rfl (fun _ _ => rfl) (by decide) ?_
                refine yG.goto rfl (t := 156) rfl ?_
                refine yG.putI A_hq.1 (w_M_hasZero W H_2073) (W.2.1 _ _ H_2073 (by decide) (by decide)) rfl rfl (.inr ⟨rfl, rfl, rfl⟩) ⟨by omega, by omega⟩ (by omega) (by omega) (fun h17 T_h17 b_h17 f_h17 y_h17 => ?_)
                have M_bRg_h17 := M_bRg_hq.fr (bAx.put (Wl := [(83076749736557242056487941267521536, 76)]) (bAx.rf A_hq.1) T_h17 b_h17 f_h17 H_2073 (by decide)) (by decide)
                have A_h17 := A_hq.put T_h17 b_h17 f_h17 H_2073 (by decide)
                have : ys h17 2073 70 = ys hq 2073 70 := (y_h17 2073 70).trans (if_neg (fun e => absurd e.2 (by decide)))
                have : ys h17 2073 71 = ys hq 2073 71 := (y_h17 2073 71).trans (if_neg (fun e => absurd e.2 (by decide)))
                refine yG.iinc rfl (a := a1) rfl (L' := [(1, yI (a1 + 1)), (0, yR 2073)]) rfl ?_
                refine yG.goto rfl (t := 111) rfl ?_
                exact yG.mono (yG.sub (i_111 (a1 + 1) (ys h17 2073 70) (ys h17 2073 71) h17 A_h17 M_bRg_h17  rfl rfl (by omega) (by omega) (by omega) (by omega) (by omega) (by omega) (by omega) (by omega)) (ySub.cons rfl (ySub.cons rfl (ySub.nil)))) (by omega)
      · intro a1 gg0 gg1 hq A_hq M_bRg_hq E_0 E_1 f0 f1 f2 f3 f4 f5 f6 hm
        refine yG.mono (N := 50 * m + 50) ?_ (by omega)
        obtain ⟨-, -, g_0l, g_0u⟩ := (w_M_isOnLine W H_2073).int A_hq.1
        obtain ⟨-, -, g_1l, g_1u⟩ := (w_M_shortPlace W H_2073).int A_hq.1
        refine yG.load xik rfl (fun _ _ => rfl) (v := yI (a1)) rfl rfl ?_
        refine yG.num (c := 16) rfl (fun _ _ => rfl) (by decide) ?_
        refine yG.icmp rfl (t := 208) rfl ⟨by omega, by omega⟩ ⟨by omega, by omega⟩ (fun c1 => ?_) (fun c1 => ?_)
        · have c1 : (a1 : Int) > 16 := c1
          refine yG.load xak rfl (fun _ _ => rfl) (v := yR 2073) rfl rfl ?_
          refine yG.getI A_hq.1 (w_M_hasZero W H_2073) rfl rfl (fun z2 e_z2 i_z2 l_z2 u_z2 => ?_)
          refine yG.ifz rfl (t := 226) rfl ⟨by omega, by omega⟩ (fun c3 => ?_) (fun c3 => ?_)
          · have c3 : (z2 : Int) = 0 := c3
            refine yG.load xak rfl (fun _ _ => rfl) (v := yR 2073) rfl rfl ?_
            refine yG.invV (rest := []) A_hq.1 (bOb (d_M W) H_2073) rfl rfl rfl rfl (c_GModel_currentsOfShort W (d + 7) A_hq.1 M_bRg_hq (M_bSm.fr A_hq (by decide)) H_2073) (fun rv h4 q9 => ?_)
            obtain ⟨q9, M_bRg_h4⟩ := q9
            obtain ⟨⟨rfl, R_z5⟩, B_h4⟩ := q9
            have A_h4 := A_hq.tr B_h4 (by decide)
            have : ys h4 2073 70 = ys hq 2073 70 := B_h4.ys H_2073 (by decide)
            have : ys h4 2073 71 = ys hq 2073 71 := B_h4.ys H_2073 (by decide)
            show yG _ _ _ _ _ _ _ _ _ _ [] _
            refine yG.ret rfl (fun _ _ => rfl) ?_
            exact (yP.void ⟨⟨⟨rfl, trivial⟩, A_h4⟩, M_bRg_h4⟩)
          · have c3 : (z2 : Int) ≠ 0 := c3
            refine yG.load xak rfl (fun _ _ => rfl) (v := yR 2073) rfl rfl ?_
            refine yG.num (c := 2) rfl (fun _ _ => rfl) (by decide) ?_
            refine yG.num (c := 149) rfl (fun _ _ => rfl) (by decide) ?_
            refine yG.num (c := 167) rfl (fun _ _ => rfl) (by decide) ?_
            refine yG.invV (rest := []) A_hq.1 (bOb (d_M W) H_2073) rfl rfl rfl rfl (c_GModel_potentials_2 W d A_hq.1 M_bRg_hq (M_bSm.fr A_hq (by decide)) H_2073) (fun rv h6 q9 => ?_)
            obtain ⟨q9, M_bRg_h6⟩ := q9
            obtain ⟨⟨rfl, R_z7⟩, B_h6⟩ := q9
            have A_h6 := A_hq.tr B_h6 (by decide)
            have : ys h6 2073 70 = ys hq 2073 70 := B_h6.ys H_2073 (by decide)
            have : ys h6 2073 71 = ys hq 2073 71 := B_h6.ys H_2073 (by decide)
            show yG _ _ _ _ _ _ _ _ _ _ [] _
            refine yG.load xak rfl (fun _ _ => rfl) (v := yR 2073) rfl rfl ?_
            refine yG.invV (rest := []) A_h6.1 (bOb (d_M W) H_2073) rfl rfl rfl rfl (c_GModel_currentsOfShort W (d + 7) A_h6.1 M_bRg_h6 (M_bSm.fr A_h6 (by decide)) H_2073) (fun rv h8 q9 => ?_)
            obtain ⟨q9, M_bRg_h8⟩ := q9
            obtain ⟨⟨rfl, R_z9⟩, B_h8⟩ := q9
            have A_h8 := A_h6.tr B_h8 (by decide)
            have : ys h8 2073 70 = ys h6 2073 70 := B_h8.ys H_2073 (by decide)
            have : ys h8 2073 71 = ys h6 2073 71 := B_h8.ys H_2073 (by decide)
            show yG _ _ _ _ _ _ _ _ _ _ [] _
            refine yG.ret rfl (fun _ _ => rfl) ?_
            exact (yP.void ⟨⟨⟨rfl, trivial⟩, A_h8⟩, M_bRg_h8⟩)
        · have c1 : (a1 : Int) ≤ 16 := c1
          refine yG.load xak rfl (fun _ _ => rfl) (v := yR 2073) rfl rfl ?_
          refine yG.num (c := 167) rfl (fun _ _ => rfl) (by decide) ?_
          refine yG.load xik rfl (fun _ _ => rfl) (v := yI (a1)) rfl rfl ?_
          refine yG.iadd rfl ?_
          refine yG.numl (c := 0) rfl (fun _ _ => rfl) (by decide) ?_
          refine yG.invV (rest := []) A_hq.1 (bOb (d_M W) H_2073) rfl rfl rfl rfl (r_put W (d + 9) A_hq.1 M_bRg_hq H_2073 (r := (167 + a1)) (v := (0)) (x := 0) ⟨by omega, by omega⟩ (yEb (c := 1) (by decide) (by omega) (by omega)) (by decide) (bTb_ge (a := 167) (b := 184) (by decide) (by omega) (by omega))) (fun rv h10 q9 => ?_)
          obtain ⟨rfl, B_h10, M_bRg_h10, Y_h10, V_h10, S_h10⟩ := q9
          have P_h10 : 0 ≤ yval h10 (167 + a1 : Int).toNat := by rw [V_h10]; omega
          have A_h10 := A_hq.tr B_h10 (by decide)
          have : ys h10 2073 70 = ys hq 2073 70 := B_h10.ys H_2073 (by decide)
          have : ys h10 2073 71 = ys hq 2073 71 := B_h10.ys H_2073 (by decide)
          show yG _ _ _ _ _ _ _ _ _ _ [] _
          refine yG.iinc rfl (a := a1) rfl (L' := [(1, yI (a1 + 1)), (0, yR 2073)]) rfl ?_
          refine yG.goto rfl (t := 186) rfl ?_
          exact yG.mono (yG.sub (i_186 (a1 + 1) (ys h10 2073 70) (ys h10 2073 71) h10 A_h10 M_bRg_h10  rfl rfl (by omega) (by omega) (by omega) (by omega) (by omega) (by omega) (by omega) (by omega)) (ySub.cons rfl (ySub.cons rfl (ySub.nil)))) (by omega)
  refine yC.of (M := (xt_X13_shorts, (2, (0, (14, []))))) rfl rfl (N := 13050) (yfuel (by decide)) ?_
  show yG 89 xfts (xcall 89 xfts xpools xms (d + 10)) (xpool xp_RX13) [] xt_X13_shorts (yP 0 (fun rv hp' => (fun rv hp' => (rv = none ∧ True) ∧ bAx G [(83076749736557242056487941267521536, 10), (83076749736557242056487941267521536, 11), (83076749736557242056487941267521536, 38), (83076749736557242056487941267521536, 74), (83076749736557242056487941267521536, 75), (83076749736557242056487941267521536, 76), (345661890693438080159152612487681152575864832, 256)] hp hp') rv hp' ∧ bRg G hp')) 13050 0 [(0, yR 2073)] [] hp
  obtain ⟨i_111, i_186⟩ := H 260
  obtain ⟨gg0, E_0⟩ : ∃ z : Int, ys hp 2073 70 = z := ⟨_, rfl⟩
  obtain ⟨-, -, g_0l, g_0u⟩ := (w_M_isOnLine W H_2073).int hT
  obtain ⟨gg1, E_1⟩ : ∃ z : Int, ys hp 2073 71 = z := ⟨_, rfl⟩
  obtain ⟨-, -, g_1l, g_1u⟩ := (w_M_shortPlace W H_2073).int hT
  refine yG.load xak rfl (fun _ _ => rfl) (v := yR 2073) rfl rfl ?_
  refine yG.invV (rest := []) A_hp.1 (bOb (d_M W) H_2073) rfl rfl rfl rfl (c_GModel_topology W (d + 7) A_hp.1 H_2073) (fun rv h1 q9 => ?_)
  obtain ⟨⟨rfl, R_z2⟩, B_h1⟩ := q9
  have A_h1 := A_hp.tr B_h1 (by decide)
  have M_bRg_h1 := M_bRg_hp.fr B_h1 (by decide)
  have : ys h1 2073 70 = ys hp 2073 70 := B_h1.ys H_2073 (by decide)
  have : ys h1 2073 71 = ys hp 2073 71 := B_h1.ys H_2073 (by decide)
  show yG _ _ _ _ _ _ _ _ _ _ [] _
  refine yG.load xak rfl (fun _ _ => rfl) (v := yR 2073) rfl rfl ?_
  refine yG.num (c := 1) rfl (fun _ _ => rfl) (by decide) ?_
  refine yG.putI A_h1.1 (w_M_isVoid W H_2073) (W.2.1 _ _ H_2073 (by decide) (by decide)) rfl rfl (.inr ⟨rfl, rfl, rfl⟩) ⟨by omega, by omega⟩ (by omega) (by omega) (fun h3 T_h3 b_h3 f_h3 y_h3 => ?_)
  have M_bRg_h3 := M_bRg_h1.fr (bAx.put (Wl := [(83076749736557242056487941267521536, 74)]) (bAx.rf A_h1.1) T_h3 b_h3 f_h3 H_2073 (by decide)) (by decide)
  have A_h3 := A_h1.put T_h3 b_h3 f_h3 H_2073 (by decide)
  have : ys h3 2073 70 = ys h1 2073 70 := (y_h3 2073 70).trans (if_neg (fun e => absurd e.2 (by decide)))
  have : ys h3 2073 71 = ys h1 2073 71 := (y_h3 2073 71).trans (if_neg (fun e => absurd e.2 (by decide)))
  have : ys h3 2073 74 = 1 := (y_h3 2073 74).trans (if_pos ⟨rfl, rfl⟩)
  refine yG.load xak rfl (fun _ _ => rfl) (v := yR 2073) rfl rfl ?_
  refine yG.num (c := 0) rfl (fun _ _ => rfl) (by decide) ?_
  refine yG.putI A_h3.1 (w_M_hasZero W H_2073) (W.2.1 _ _ H_2073 (by decide) (by decide)) rfl rfl (.inr ⟨rfl, rfl, rfl⟩) ⟨by omega, by omega⟩ (by omega) (by omega) (fun h4 T_h4 b_h4 f_h4 y_h4 => ?_)
  have M_bRg_h4 := M_bRg_h3.fr (bAx.put (Wl := [(83076749736557242056487941267521536, 76)]) (bAx.rf A_h3.1) T_h4 b_h4 f_h4 H_2073 (by decide)) (by decide)
  have A_h4 := A_h3.put T_h4 b_h4 f_h4 H_2073 (by decide)
  have : ys h4 2073 70 = ys h3 2073 70 := (y_h4 2073 70).trans (if_neg (fun e => absurd e.2 (by decide)))
  have : ys h4 2073 71 = ys h3 2073 71 := (y_h4 2073 71).trans (if_neg (fun e => absurd e.2 (by decide)))
  have : ys h4 2073 74 = ys h3 2073 74 := (y_h4 2073 74).trans (if_neg (fun e => absurd e.2 (by decide)))
  refine yG.load xak rfl (fun _ _ => rfl) (v := yR 2073) rfl rfl ?_
  refine yG.getI A_h4.1 (w_M_hasShort W H_2073) rfl rfl (fun z5 e_z5 i_z5 l_z5 u_z5 => ?_)
  refine yG.ifz rfl (t := 22) rfl ⟨by omega, by omega⟩ (fun c6 => ?_) (fun c6 => ?_)
  · have c6 : (z5 : Int) ≠ 0 := c6
    refine yG.load xak rfl (fun _ _ => rfl) (v := yR 2073) rfl rfl ?_
    refine yG.load xak rfl (fun _ _ => rfl) (v := yR 2073) rfl rfl ?_
    refine yG.getI A_h4.1 (w_M_isOnLine W H_2073) rfl rfl (fun z7 e_z7 i_z7 l_z7 u_z7 => ?_)
    rw [show (z7 : Int) = gg0 by omega]
    refine yG.ifz rfl (t := 41) rfl ⟨by omega, by omega⟩ (fun c8 => ?_) (fun c8 => ?_)
    · have c8 : (gg0 : Int) = 0 := c8
      refine yG.load xak rfl (fun _ _ => rfl) (v := yR 2073) rfl rfl ?_
      refine yG.getO A_h4.1 (w_M_island W H_2073) rfl rfl (fun r9 H_r9 O_r9 q_r9 => ?_)
      obtain rfl := u_M_island W H_r9
      refine yG.load xak rfl (fun _ _ => rfl) (v := yR 2073) rfl rfl ?_
      refine yG.getI A_h4.1 (w_M_shortPlace W H_2073) rfl rfl (fun z10 e_z10 i_z10 l_z10 u_z10 => ?_)
      rw [show (z10 : Int) = gg1 by omega]
      have v49 := (M_bSm.fr A_h4 (by decide)) 2073 H_2073
      refine yG.ialdF A_h4.1 (v_M_island W H_r9) rfl rfl (by omega) (by omega) (fun z11 e_z11 i_z11 l_z11 u_z11 => ?_)
      refine yG.putI A_h4.1 (w_M_shortIsland W H_2073) (W.2.1 _ _ H_2073 (by decide) (by decide)) rfl rfl (.inl rfl) ⟨by omega, by omega⟩ (by omega) (by omega) (fun h12 T_h12 b_h12 f_h12 y_h12 => ?_)
      have M_bRg_h12 := M_bRg_h4.fr (bAx.put (Wl := [(83076749736557242056487941267521536, 75)]) (bAx.rf A_h4.1) T_h12 b_h12 f_h12 H_2073 (by decide)) (by decide)
      have A_h12 := A_h4.put T_h12 b_h12 f_h12 H_2073 (by decide)
      have : ys h12 2073 70 = ys h4 2073 70 := (y_h12 2073 70).trans (if_neg (fun e => absurd e.2 (by decide)))
      have : ys h12 2073 71 = ys h4 2073 71 := (y_h12 2073 71).trans (if_neg (fun e => absurd e.2 (by decide)))
      have : ys h12 2073 74 = ys h4 2073 74 := (y_h12 2073 74).trans (if_neg (fun e => absurd e.2 (by decide)))
      have : ys h12 2073 75 = z11 := (y_h12 2073 75).trans (if_pos ⟨rfl, rfl⟩)
      refine yG.load xak rfl (fun _ _ => rfl) (v := yR 2073) rfl rfl ?_
      refine yG.load xak rfl (fun _ _ => rfl) (v := yR 2073) rfl rfl ?_
      refine yG.getI A_h12.1 (w_M_isOnLine W H_2073) rfl rfl (fun z13 e_z13 i_z13 l_z13 u_z13 => ?_)
      rw [show (z13 : Int) = gg0 by omega]
      refine yG.ifz rfl (t := 73) rfl ⟨by omega, by omega⟩ (fun c14 => ?_) (fun c14 => ?_)
      · have c14 : (gg0 : Int) = 0 := c14
        refine yG.load xak rfl (fun _ _ => rfl) (v := yR 2073) rfl rfl ?_
        refine yG.getO A_h12.1 (w_M_isLive W H_2073) rfl rfl (fun r15 H_r15 O_r15 q_r15 => ?_)
        obtain rfl := u_M_isLive W H_r15
        refine yG.load xak rfl (fun _ _ => rfl) (v := yR 2073) rfl rfl ?_
        refine yG.getI A_h12.1 (w_M_shortIsland W H_2073) rfl rfl (fun z16 e_z16 i_z16 l_z16 u_z16 => ?_)
        rw [show (z16 : Int) = z11 by omega]
        refine yG.bald A_h12.1 (v_M_isLive W H_r15) rfl (by omega) (by omega) (fun z17 e_z17 i_z17 l_z17 u_z17 => ?_)
        refine yG.ifz rfl (t := 89) rfl ⟨by omega, by omega⟩ (fun c18 => ?_) (fun c18 => ?_)
        · have c18 : (z17 : Int) ≠ 0 := c18
          refine yG.num (c := 0) rfl (fun _ _ => rfl) (by decide) ?_
          refine yG.putI A_h12.1 (w_M_isVoid W H_2073) (W.2.1 _ _ H_2073 (by decide) (by decide)) rfl rfl (.inr ⟨rfl, rfl, rfl⟩) ⟨by omega, by omega⟩ (by omega) (by omega) (fun h19 T_h19 b_h19 f_h19 y_h19 => ?_)
          have M_bRg_h19 := M_bRg_h12.fr (bAx.put (Wl := [(83076749736557242056487941267521536, 74)]) (bAx.rf A_h12.1) T_h19 b_h19 f_h19 H_2073 (by decide)) (by decide)
          have A_h19 := A_h12.put T_h19 b_h19 f_h19 H_2073 (by decide)
          have : ys h19 2073 70 = ys h12 2073 70 := (y_h19 2073 70).trans (if_neg (fun e => absurd e.2 (by decide)))
          have : ys h19 2073 71 = ys h12 2073 71 := (y_h19 2073 71).trans (if_neg (fun e => absurd e.2 (by decide)))
          have : ys h19 2073 75 = ys h12 2073 75 := (y_h19 2073 75).trans (if_neg (fun e => absurd e.2 (by decide)))
          have : ys h19 2073 74 = 0 := (y_h19 2073 74).trans (if_pos ⟨rfl, rfl⟩)
          refine yG.load xak rfl (fun _ _ => rfl) (v := yR 2073) rfl rfl ?_
          refine yG.getI A_h19.1 (w_M_isVoid W H_2073) rfl rfl (fun z20 e_z20 i_z20 l_z20 u_z20 => ?_)
          refine yG.ifz rfl (t := 101) rfl ⟨by omega, by omega⟩ (fun c21 => ?_) (fun c21 => ?_)
          · have c21 : (z20 : Int) = 0 := c21
            refine yG.load xak rfl (fun _ _ => rfl) (v := yR 2073) rfl rfl ?_
            refine yG.load xak rfl (fun _ _ => rfl) (v := yR 2073) rfl rfl ?_
            refine yG.getI A_h19.1 (w_M_shortIsland W H_2073) rfl rfl (fun z22 e_z22 i_z22 l_z22 u_z22 => ?_)
            rw [show (z22 : Int) = z11 by omega]
            refine yG.invV (rest := []) A_h19.1 (bOb (d_M W) H_2073) rfl rfl rfl rfl (c_GModel_listNodes W (d + 9) A_h19.1 H_2073 (z11) (by omega) (by omega)) (fun rv h23 q9 => ?_)
            obtain ⟨⟨rfl, R_z24⟩, B_h23⟩ := q9
            have A_h23 := A_h19.tr B_h23 (by decide)
            have M_bRg_h23 := M_bRg_h19.fr B_h23 (by decide)
            have : ys h23 2073 70 = ys h19 2073 70 := B_h23.ys H_2073 (by decide)
            have : ys h23 2073 71 = ys h19 2073 71 := B_h23.ys H_2073 (by decide)
            have : ys h23 2073 75 = ys h19 2073 75 := B_h23.ys H_2073 (by decide)
            have : ys h23 2073 74 = ys h19 2073 74 := B_h23.ys H_2073 (by decide)
            show yG _ _ _ _ _ _ _ _ _ _ [] _
            refine yG.num (c := 0) rfl (fun _ _ => rfl) (by decide) ?_
            refine yG.store1 xik (L' := [(1, yI (0)), (0, yR 2073)]) rfl (fun _ _ => rfl) rfl rfl ?_
            exact yG.mono (yG.sub (i_111 (0) (ys h23 2073 70) (ys h23 2073 71) h23 A_h23 M_bRg_h23  rfl rfl (by omega) (by omega) (by omega) (by omega) (by omega) (by omega) (by omega) (by omega)) (ySub.cons rfl (ySub.cons rfl (ySub.nil)))) (by omega)
          · have c21 : (z20 : Int) ≠ 0 := c21
            exfalso; omega
        · have c18 : (z17 : Int) = 0 := c18
          refine yG.num (c := 1) rfl (fun _ _ => rfl) (by decide) ?_
          refine yG.goto rfl (t := 90) rfl ?_
          refine yG.putI A_h12.1 (w_M_isVoid W H_2073) (W.2.1 _ _ H_2073 (by decide) (by decide)) rfl rfl (.inr ⟨rfl, rfl, rfl⟩) ⟨by omega, by omega⟩ (by omega) (by omega) (fun h25 T_h25 b_h25 f_h25 y_h25 => ?_)
          have M_bRg_h25 := M_bRg_h12.fr (bAx.put (Wl := [(83076749736557242056487941267521536, 74)]) (bAx.rf A_h12.1) T_h25 b_h25 f_h25 H_2073 (by decide)) (by decide)
          have A_h25 := A_h12.put T_h25 b_h25 f_h25 H_2073 (by decide)
          have : ys h25 2073 70 = ys h12 2073 70 := (y_h25 2073 70).trans (if_neg (fun e => absurd e.2 (by decide)))
          have : ys h25 2073 71 = ys h12 2073 71 := (y_h25 2073 71).trans (if_neg (fun e => absurd e.2 (by decide)))
          have : ys h25 2073 75 = ys h12 2073 75 := (y_h25 2073 75).trans (if_neg (fun e => absurd e.2 (by decide)))
          have : ys h25 2073 74 = 1 := (y_h25 2073 74).trans (if_pos ⟨rfl, rfl⟩)
          refine yG.load xak rfl (fun _ _ => rfl) (v := yR 2073) rfl rfl ?_
          refine yG.getI A_h25.1 (w_M_isVoid W H_2073) rfl rfl (fun z26 e_z26 i_z26 l_z26 u_z26 => ?_)
          refine yG.ifz rfl (t := 101) rfl ⟨by omega, by omega⟩ (fun c27 => ?_) (fun c27 => ?_)
          · have c27 : (z26 : Int) = 0 := c27
            exfalso; omega
          · have c27 : (z26 : Int) ≠ 0 := c27
            refine yG.ret rfl (fun _ _ => rfl) ?_
            exact (yP.void ⟨⟨⟨rfl, trivial⟩, A_h25⟩, M_bRg_h25⟩)
      · have c14 : (gg0 : Int) ≠ 0 := c14
        exfalso; omega
    · have c8 : (gg0 : Int) ≠ 0 := c8
      refine yG.load xak rfl (fun _ _ => rfl) (v := yR 2073) rfl rfl ?_
      refine yG.load xak rfl (fun _ _ => rfl) (v := yR 2073) rfl rfl ?_
      refine yG.getI A_h4.1 (w_M_shortPlace W H_2073) rfl rfl (fun z28 e_z28 i_z28 l_z28 u_z28 => ?_)
      rw [show (z28 : Int) = gg1 by omega]
      refine yG.invV (rest := [yR 2073]) A_h4.1 (bOb (d_M W) H_2073) rfl rfl rfl rfl (c_GModel_islandOfLine W (d + 7) A_h4.1 H_2073 (gg1) (by omega) (by omega)) (fun rv hp9 q9 => ?_)
      obtain ⟨⟨z29, rfl, l_z29, u_z29, R_z29⟩, e9⟩ := q9
      rw [e9]
      show yG _ _ _ _ _ _ _ _ _ _ (yI z29 :: [yR 2073]) _
      refine yG.goto rfl (t := 50) rfl ?_
      refine yG.putI A_h4.1 (w_M_shortIsland W H_2073) (W.2.1 _ _ H_2073 (by decide) (by decide)) rfl rfl (.inl rfl) ⟨by omega, by omega⟩ (by omega) (by omega) (fun h30 T_h30 b_h30 f_h30 y_h30 => ?_)
      have M_bRg_h30 := M_bRg_h4.fr (bAx.put (Wl := [(83076749736557242056487941267521536, 75)]) (bAx.rf A_h4.1) T_h30 b_h30 f_h30 H_2073 (by decide)) (by decide)
      have A_h30 := A_h4.put T_h30 b_h30 f_h30 H_2073 (by decide)
      have : ys h30 2073 70 = ys h4 2073 70 := (y_h30 2073 70).trans (if_neg (fun e => absurd e.2 (by decide)))
      have : ys h30 2073 71 = ys h4 2073 71 := (y_h30 2073 71).trans (if_neg (fun e => absurd e.2 (by decide)))
      have : ys h30 2073 74 = ys h4 2073 74 := (y_h30 2073 74).trans (if_neg (fun e => absurd e.2 (by decide)))
      have : ys h30 2073 75 = z29 := (y_h30 2073 75).trans (if_pos ⟨rfl, rfl⟩)
      refine yG.load xak rfl (fun _ _ => rfl) (v := yR 2073) rfl rfl ?_
      refine yG.load xak rfl (fun _ _ => rfl) (v := yR 2073) rfl rfl ?_
      refine yG.getI A_h30.1 (w_M_isOnLine W H_2073) rfl rfl (fun z31 e_z31 i_z31 l_z31 u_z31 => ?_)
      rw [show (z31 : Int) = gg0 by omega]
      refine yG.ifz rfl (t := 73) rfl ⟨by omega, by omega⟩ (fun c32 => ?_) (fun c32 => ?_)
      · have c32 : (gg0 : Int) = 0 := c32
        exfalso; omega
      · have c32 : (gg0 : Int) ≠ 0 := c32
        refine yG.load xak rfl (fun _ _ => rfl) (v := yR 2073) rfl rfl ?_
        refine yG.getO A_h30.1 (w_M_inNow W H_2073) rfl rfl (fun r33 H_r33 O_r33 q_r33 => ?_)
        obtain rfl := u_M_inNow W H_r33
        refine yG.load xak rfl (fun _ _ => rfl) (v := yR 2073) rfl rfl ?_
        refine yG.getI A_h30.1 (w_M_shortPlace W H_2073) rfl rfl (fun z34 e_z34 i_z34 l_z34 u_z34 => ?_)
        rw [show (z34 : Int) = gg1 by omega]
        refine yG.iald A_h30.1 (v_M_inNow W H_r33) rfl (by omega) (by omega) (fun z35 e_z35 i_z35 l_z35 u_z35 => ?_)
        refine yG.ifz rfl (t := 85) rfl ⟨by omega, by omega⟩ (fun c36 => ?_) (fun c36 => ?_)
        · have c36 : (z35 : Int) = 0 := c36
          refine yG.num (c := 1) rfl (fun _ _ => rfl) (by decide) ?_
          refine yG.goto rfl (t := 90) rfl ?_
          refine yG.putI A_h30.1 (w_M_isVoid W H_2073) (W.2.1 _ _ H_2073 (by decide) (by decide)) rfl rfl (.inr ⟨rfl, rfl, rfl⟩) ⟨by omega, by omega⟩ (by omega) (by omega) (fun h37 T_h37 b_h37 f_h37 y_h37 => ?_)
          have M_bRg_h37 := M_bRg_h30.fr (bAx.put (Wl := [(83076749736557242056487941267521536, 74)]) (bAx.rf A_h30.1) T_h37 b_h37 f_h37 H_2073 (by decide)) (by decide)
          have A_h37 := A_h30.put T_h37 b_h37 f_h37 H_2073 (by decide)
          have : ys h37 2073 70 = ys h30 2073 70 := (y_h37 2073 70).trans (if_neg (fun e => absurd e.2 (by decide)))
          have : ys h37 2073 71 = ys h30 2073 71 := (y_h37 2073 71).trans (if_neg (fun e => absurd e.2 (by decide)))
          have : ys h37 2073 75 = ys h30 2073 75 := (y_h37 2073 75).trans (if_neg (fun e => absurd e.2 (by decide)))
          have : ys h37 2073 74 = 1 := (y_h37 2073 74).trans (if_pos ⟨rfl, rfl⟩)
          refine yG.load xak rfl (fun _ _ => rfl) (v := yR 2073) rfl rfl ?_
          refine yG.getI A_h37.1 (w_M_isVoid W H_2073) rfl rfl (fun z38 e_z38 i_z38 l_z38 u_z38 => ?_)
          refine yG.ifz rfl (t := 101) rfl ⟨by omega, by omega⟩ (fun c39 => ?_) (fun c39 => ?_)
          · have c39 : (z38 : Int) = 0 := c39
            exfalso; omega
          · have c39 : (z38 : Int) ≠ 0 := c39
            refine yG.ret rfl (fun _ _ => rfl) ?_
            exact (yP.void ⟨⟨⟨rfl, trivial⟩, A_h37⟩, M_bRg_h37⟩)
        · have c36 : (z35 : Int) ≠ 0 := c36
          refine yG.load xak rfl (fun _ _ => rfl) (v := yR 2073) rfl rfl ?_
          refine yG.getO A_h30.1 (w_M_isLive W H_2073) rfl rfl (fun r40 H_r40 O_r40 q_r40 => ?_)
          obtain rfl := u_M_isLive W H_r40
          refine yG.load xak rfl (fun _ _ => rfl) (v := yR 2073) rfl rfl ?_
          refine yG.getI A_h30.1 (w_M_shortIsland W H_2073) rfl rfl (fun z41 e_z41 i_z41 l_z41 u_z41 => ?_)
          rw [show (z41 : Int) = z29 by omega]
          refine yG.bald A_h30.1 (v_M_isLive W H_r40) rfl (by omega) (by omega) (fun z42 e_z42 i_z42 l_z42 u_z42 => ?_)
          refine yG.ifz rfl (t := 89) rfl ⟨by omega, by omega⟩ (fun c43 => ?_) (fun c43 => ?_)
          · have c43 : (z42 : Int) ≠ 0 := c43
            refine yG.num (c := 0) rfl (fun _ _ => rfl) (by decide) ?_
            refine yG.putI A_h30.1 (w_M_isVoid W H_2073) (W.2.1 _ _ H_2073 (by decide) (by decide)) rfl rfl (.inr ⟨rfl, rfl, rfl⟩) ⟨by omega, by omega⟩ (by omega) (by omega) (fun h44 T_h44 b_h44 f_h44 y_h44 => ?_)
            have M_bRg_h44 := M_bRg_h30.fr (bAx.put (Wl := [(83076749736557242056487941267521536, 74)]) (bAx.rf A_h30.1) T_h44 b_h44 f_h44 H_2073 (by decide)) (by decide)
            have A_h44 := A_h30.put T_h44 b_h44 f_h44 H_2073 (by decide)
            have : ys h44 2073 70 = ys h30 2073 70 := (y_h44 2073 70).trans (if_neg (fun e => absurd e.2 (by decide)))
            have : ys h44 2073 71 = ys h30 2073 71 := (y_h44 2073 71).trans (if_neg (fun e => absurd e.2 (by decide)))
            have : ys h44 2073 75 = ys h30 2073 75 := (y_h44 2073 75).trans (if_neg (fun e => absurd e.2 (by decide)))
            have : ys h44 2073 74 = 0 := (y_h44 2073 74).trans (if_pos ⟨rfl, rfl⟩)
            refine yG.load xak rfl (fun _ _ => rfl) (v := yR 2073) rfl rfl ?_
            refine yG.getI A_h44.1 (w_M_isVoid W H_2073) rfl rfl (fun z45 e_z45 i_z45 l_z45 u_z45 => ?_)
            refine yG.ifz rfl (t := 101) rfl ⟨by omega, by omega⟩ (fun c46 => ?_) (fun c46 => ?_)
            · have c46 : (z45 : Int) = 0 := c46
              refine yG.load xak rfl (fun _ _ => rfl) (v := yR 2073) rfl rfl ?_
              refine yG.load xak rfl (fun _ _ => rfl) (v := yR 2073) rfl rfl ?_
              refine yG.getI A_h44.1 (w_M_shortIsland W H_2073) rfl rfl (fun z47 e_z47 i_z47 l_z47 u_z47 => ?_)
              rw [show (z47 : Int) = z29 by omega]
              refine yG.invV (rest := []) A_h44.1 (bOb (d_M W) H_2073) rfl rfl rfl rfl (c_GModel_listNodes W (d + 9) A_h44.1 H_2073 (z29) (by omega) (by omega)) (fun rv h48 q9 => ?_)
              obtain ⟨⟨rfl, R_z49⟩, B_h48⟩ := q9
              have A_h48 := A_h44.tr B_h48 (by decide)
              have M_bRg_h48 := M_bRg_h44.fr B_h48 (by decide)
              have : ys h48 2073 70 = ys h44 2073 70 := B_h48.ys H_2073 (by decide)
              have : ys h48 2073 71 = ys h44 2073 71 := B_h48.ys H_2073 (by decide)
              have : ys h48 2073 75 = ys h44 2073 75 := B_h48.ys H_2073 (by decide)
              have : ys h48 2073 74 = ys h44 2073 74 := B_h48.ys H_2073 (by decide)
              show yG _ _ _ _ _ _ _ _ _ _ [] _
              refine yG.num (c := 0) rfl (fun _ _ => rfl) (by decide) ?_
              refine yG.store1 xik (L' := [(1, yI (0)), (0, yR 2073)]) rfl (fun _ _ => rfl) rfl rfl ?_
              exact yG.mono (yG.sub (i_111 (0) (ys h48 2073 70) (ys h48 2073 71) h48 A_h48 M_bRg_h48  rfl rfl (by omega) (by omega) (by omega) (by omega) (by omega) (by omega) (by omega) (by omega)) (ySub.cons rfl (ySub.cons rfl (ySub.nil)))) (by omega)
            · have c46 : (z45 : Int) ≠ 0 := c46
              exfalso; omega
          · have c43 : (z42 : Int) = 0 := c43
            refine yG.num (c := 1) rfl (fun _ _ => rfl) (by decide) ?_
            refine yG.goto rfl (t := 90) rfl ?_
            refine yG.putI A_h30.1 (w_M_isVoid W H_2073) (W.2.1 _ _ H_2073 (by decide) (by decide)) rfl rfl (.inr ⟨rfl, rfl, rfl⟩) ⟨by omega, by omega⟩ (by omega) (by omega) (fun h50 T_h50 b_h50 f_h50 y_h50 => ?_)
            have M_bRg_h50 := M_bRg_h30.fr (bAx.put (Wl := [(83076749736557242056487941267521536, 74)]) (bAx.rf A_h30.1) T_h50 b_h50 f_h50 H_2073 (by decide)) (by decide)
            have A_h50 := A_h30.put T_h50 b_h50 f_h50 H_2073 (by decide)
            have : ys h50 2073 70 = ys h30 2073 70 := (y_h50 2073 70).trans (if_neg (fun e => absurd e.2 (by decide)))
            have : ys h50 2073 71 = ys h30 2073 71 := (y_h50 2073 71).trans (if_neg (fun e => absurd e.2 (by decide)))
            have : ys h50 2073 75 = ys h30 2073 75 := (y_h50 2073 75).trans (if_neg (fun e => absurd e.2 (by decide)))
            have : ys h50 2073 74 = 1 := (y_h50 2073 74).trans (if_pos ⟨rfl, rfl⟩)
            refine yG.load xak rfl (fun _ _ => rfl) (v := yR 2073) rfl rfl ?_
            refine yG.getI A_h50.1 (w_M_isVoid W H_2073) rfl rfl (fun z51 e_z51 i_z51 l_z51 u_z51 => ?_)
            refine yG.ifz rfl (t := 101) rfl ⟨by omega, by omega⟩ (fun c52 => ?_) (fun c52 => ?_)
            · have c52 : (z51 : Int) = 0 := c52
              exfalso; omega
            · have c52 : (z51 : Int) ≠ 0 := c52
              refine yG.ret rfl (fun _ _ => rfl) ?_
              exact (yP.void ⟨⟨⟨rfl, trivial⟩, A_h50⟩, M_bRg_h50⟩)
  · have c6 : (z5 : Int) = 0 := c6
    refine yG.ret rfl (fun _ _ => rfl) ?_
    exact (yP.void ⟨⟨⟨rfl, trivial⟩, A_h4⟩, M_bRg_h4⟩)
theorem c_GModel_netShort {hp : xH} (W : mW G) (d : Nat) (hT : zTy G hp) (M_bRg : bRg G hp) (M_bSm : bSm G hp) (H_2073 : bRo G 116 2073) : yC (xcall 89 xfts xpools xms (d + 12)) 463 [yR 2073] hp (fun rv hp' => (fun rv hp' => (rv = none ∧ True) ∧ bAx G [(83076749736557242056487941267521536, 10), (83076749736557242056487941267521536, 11), (83076749736557242056487941267521536, 38), (83076749736557242056487941267521536, 40), (83076749736557242056487941267521536, 74), (83076749736557242056487941267521536, 75), (83076749736557242056487941267521536, 76), (83076749736557242056487941267521536, 77), (354024670142887063837228506839924288140607488, 256)] hp hp') rv hp' ∧ bRg G hp') := by
  have A_hp : bAx G [(83076749736557242056487941267521536, 10), (83076749736557242056487941267521536, 11), (83076749736557242056487941267521536, 38), (83076749736557242056487941267521536, 40), (83076749736557242056487941267521536, 74), (83076749736557242056487941267521536, 75), (83076749736557242056487941267521536, 76), (83076749736557242056487941267521536, 77), (354024670142887063837228506839924288140607488, 256)] hp hp := bAx.rf hT
  have M_bRg_hp := M_bRg
  refine yC.of (M := (xt_X13_netShort, (1, (0, (14, []))))) rfl rfl (N := 51) (yfuel (by decide)) ?_
  show yG 89 xfts (xcall 89 xfts xpools xms (d + 11)) (xpool xp_RX13) [] xt_X13_netShort (yP 0 (fun rv hp' => (fun rv hp' => (rv = none ∧ True) ∧ bAx G [(83076749736557242056487941267521536, 10), (83076749736557242056487941267521536, 11), (83076749736557242056487941267521536, 38), (83076749736557242056487941267521536, 40), (83076749736557242056487941267521536, 74), (83076749736557242056487941267521536, 75), (83076749736557242056487941267521536, 76), (83076749736557242056487941267521536, 77), (354024670142887063837228506839924288140607488, 256)] hp hp') rv hp' ∧ bRg G hp')) 51 0 [(0, yR 2073)] [] hp
  refine yG.load xak rfl (fun _ _ => rfl) (v := yR 2073) rfl rfl ?_
  refine yG.getI A_hp.1 (w_M_hasNetShort W H_2073) rfl rfl (fun z1 e_z1 i_z1 l_z1 u_z1 => ?_)
  refine yG.ifz rfl (t := 28) rfl ⟨by omega, by omega⟩ (fun c2 => ?_) (fun c2 => ?_)
  · have c2 : (z1 : Int) ≠ 0 := c2
    refine yG.load xak rfl (fun _ _ => rfl) (v := yR 2073) rfl rfl ?_
    refine yG.invV (rest := []) A_hp.1 (bOb (d_M W) H_2073) rfl rfl rfl rfl (c_GModel_netTopology W (d + 7) A_hp.1 H_2073) (fun rv h3 q9 => ?_)
    obtain ⟨⟨rfl, R_z4⟩, B_h3⟩ := q9
    have A_h3 := A_hp.tr B_h3 (by decide)
    have M_bRg_h3 := M_bRg_hp.fr B_h3 (by decide)
    show yG _ _ _ _ _ _ _ _ _ _ [] _
    refine yG.ret rfl (fun _ _ => rfl) ?_
    exact (yP.void ⟨⟨⟨rfl, trivial⟩, A_h3⟩, M_bRg_h3⟩)
  · have c2 : (z1 : Int) = 0 := c2
    refine yG.load xak rfl (fun _ _ => rfl) (v := yR 2073) rfl rfl ?_
    refine yG.num (c := 0) rfl (fun _ _ => rfl) (by decide) ?_
    refine yG.putI A_hp.1 (w_M_hasFlows W H_2073) (W.2.1 _ _ H_2073 (by decide) (by decide)) rfl rfl (.inr ⟨rfl, rfl, rfl⟩) ⟨by omega, by omega⟩ (by omega) (by omega) (fun h5 T_h5 b_h5 f_h5 y_h5 => ?_)
    have M_bRg_h5 := M_bRg_hp.fr (bAx.put (Wl := [(83076749736557242056487941267521536, 40)]) (bAx.rf A_hp.1) T_h5 b_h5 f_h5 H_2073 (by decide)) (by decide)
    have A_h5 := A_hp.put T_h5 b_h5 f_h5 H_2073 (by decide)
    refine yG.load xak rfl (fun _ _ => rfl) (v := yR 2073) rfl rfl ?_
    refine yG.invV (rest := []) A_h5.1 (bOb (d_M W) H_2073) rfl rfl rfl rfl (c_GModel_asItIs W (d + 8) A_h5.1 H_2073) (fun rv h6 q9 => ?_)
    obtain ⟨⟨rfl, R_z7⟩, B_h6⟩ := q9
    have A_h6 := A_h5.tr B_h6 (by decide)
    have M_bRg_h6 := M_bRg_h5.fr B_h6 (by decide)
    show yG _ _ _ _ _ _ _ _ _ _ [] _
    refine yG.load xak rfl (fun _ _ => rfl) (v := yR 2073) rfl rfl ?_
    refine yG.invV (rest := []) A_h6.1 (bOb (d_M W) H_2073) rfl rfl rfl rfl (c_GModel_shorts W d A_h6.1 M_bRg_h6 (M_bSm.fr A_h6 (by decide)) H_2073) (fun rv h8 q9 => ?_)
    obtain ⟨q9, M_bRg_h8⟩ := q9
    obtain ⟨⟨rfl, R_z9⟩, B_h8⟩ := q9
    have A_h8 := A_h6.tr B_h8 (by decide)
    show yG _ _ _ _ _ _ _ _ _ _ [] _
    refine yG.load xak rfl (fun _ _ => rfl) (v := yR 2073) rfl rfl ?_
    refine yG.num (c := 1) rfl (fun _ _ => rfl) (by decide) ?_
    refine yG.putI A_h8.1 (w_M_hasNetShort W H_2073) (W.2.1 _ _ H_2073 (by decide) (by decide)) rfl rfl (.inr ⟨rfl, rfl, rfl⟩) ⟨by omega, by omega⟩ (by omega) (by omega) (fun h10 T_h10 b_h10 f_h10 y_h10 => ?_)
    have M_bRg_h10 := M_bRg_h8.fr (bAx.put (Wl := [(83076749736557242056487941267521536, 77)]) (bAx.rf A_h8.1) T_h10 b_h10 f_h10 H_2073 (by decide)) (by decide)
    have A_h10 := A_h8.put T_h10 b_h10 f_h10 H_2073 (by decide)
    refine yG.goto rfl (t := 32) rfl ?_
    refine yG.ret rfl (fun _ _ => rfl) ?_
    exact (yP.void ⟨⟨⟨rfl, trivial⟩, A_h10⟩, M_bRg_h10⟩)
theorem c_GModel_into {hp : xH} (W : mW G) (d : Nat) (hT : zTy G hp) (M_bRg : bRg G hp) (M_bSm : bSm G hp) (H_2073 : bRo G 116 2073) (p1 : Int) (h1l : (-2147483648) ≤ p1) (h1u : p1 ≤ 2147483647) : yC (xcall 89 xfts xpools xms (d + 13)) 418 [yR 2073, yI (p1)] hp (fun rv hp' => (bQi G [(83076749736557242056487941267521536, 0), (83076749736557242056487941267521536, 10), (83076749736557242056487941267521536, 11), (83076749736557242056487941267521536, 38), (83076749736557242056487941267521536, 40), (83076749736557242056487941267521536, 74), (83076749736557242056487941267521536, 75), (83076749736557242056487941267521536, 76), (83076749736557242056487941267521536, 77), (354024670142887063837228506839924288140607488, 256)] hp (-1) 1 (fun z => 0 ≤ 0 - p1 + z + 2147483647 ∧ 0 ≤ p1 - z + 2147483648)) rv hp' ∧ bRg G hp') := by
  have A_hp : bAx G [(83076749736557242056487941267521536, 0), (83076749736557242056487941267521536, 10), (83076749736557242056487941267521536, 11), (83076749736557242056487941267521536, 38), (83076749736557242056487941267521536, 40), (83076749736557242056487941267521536, 74), (83076749736557242056487941267521536, 75), (83076749736557242056487941267521536, 76), (83076749736557242056487941267521536, 77), (354024670142887063837228506839924288140607488, 256)] hp hp := bAx.rf hT
  have M_bRg_hp := M_bRg
  refine yC.of (M := (xt_X13_into, (2, (1, (14, []))))) rfl rfl (N := 81) (yfuel (by decide)) ?_
  show yG 89 xfts (xcall 89 xfts xpools xms (d + 12)) (xpool xp_RX13) [] xt_X13_into (yP 1 (fun rv hp' => (bQi G [(83076749736557242056487941267521536, 0), (83076749736557242056487941267521536, 10), (83076749736557242056487941267521536, 11), (83076749736557242056487941267521536, 38), (83076749736557242056487941267521536, 40), (83076749736557242056487941267521536, 74), (83076749736557242056487941267521536, 75), (83076749736557242056487941267521536, 76), (83076749736557242056487941267521536, 77), (354024670142887063837228506839924288140607488, 256)] hp (-1) 1 (fun z => 0 ≤ 0 - p1 + z + 2147483647 ∧ 0 ≤ p1 - z + 2147483648)) rv hp' ∧ bRg G hp')) 81 0 [(0, yR 2073), (1, yI (p1))] [] hp
  refine yG.load xak rfl (fun _ _ => rfl) (v := yR 2073) rfl rfl ?_
  refine yG.load xik rfl (fun _ _ => rfl) (v := yI (p1)) rfl rfl ?_
  refine yG.i2l rfl ⟨by omega, by omega⟩ ?_
  refine yG.numl (c := 0) rfl (fun _ _ => rfl) (by decide) ?_
  refine yG.numl (c := 2) rfl (fun _ _ => rfl) (by decide) ?_
  refine yG.invS (rest := [yR 2073]) rfl rfl rfl rfl (c_GModel_in W (d + 11) A_hp.1 (p1) (0) (2) (by omega) (by omega) (by omega) (by omega) (by omega) (by omega)) (fun rv hp9 q9 => ?_)
  obtain ⟨⟨z1, rfl, l_z1, u_z1, R_z1⟩, e9⟩ := q9
  rw [e9]
  show yG _ _ _ _ _ _ _ _ _ _ (yI z1 :: [yR 2073]) _
  refine yG.ifz rfl (t := 17) rfl ⟨by omega, by omega⟩ (fun c2 => ?_) (fun c2 => ?_)
  · have c2 : (z1 : Int) = 0 := c2
    clear R_z1
    refine yG.num (c := 1) rfl (fun _ _ => rfl) (by decide) ?_
    refine yG.putI A_hp.1 (w_M_thrown W H_2073) (W.2.1 _ _ H_2073 (by decide) (by decide)) rfl rfl (.inl rfl) ⟨by omega, by omega⟩ (by omega) (by omega) (fun h3 T_h3 b_h3 f_h3 y_h3 => ?_)
    have M_bRg_h3 := M_bRg_hp.fr (bAx.put (Wl := [(83076749736557242056487941267521536, 0)]) (bAx.rf A_hp.1) T_h3 b_h3 f_h3 H_2073 (by decide)) (by decide)
    have A_h3 := A_hp.put T_h3 b_h3 f_h3 H_2073 (by decide)
    have : ys h3 2073 0 = 1 := (y_h3 2073 0).trans (if_pos ⟨rfl, rfl⟩)
    refine yG.load xak rfl (fun _ _ => rfl) (v := yR 2073) rfl rfl ?_
    refine yG.getI A_h3.1 (w_M_thrown W H_2073) rfl rfl (fun z4 e_z4 i_z4 l_z4 u_z4 => ?_)
    refine yG.ifz rfl (t := 30) rfl ⟨by omega, by omega⟩ (fun c5 => ?_) (fun c5 => ?_)
    · have c5 : (z4 : Int) ≤ 0 := c5
      exfalso; omega
    · have c5 : (z4 : Int) > 0 := c5
      refine yG.num (c := 0) rfl (fun _ _ => rfl) (by decide) ?_
      refine yG.ret rfl (fun _ _ => rfl) ?_
      exact (yP.int ⟨by omega, by omega⟩ ⟨⟨⟨0, rfl, by omega, by omega, by omega⟩, A_h3⟩, M_bRg_h3⟩)
  · have c2 : (z1 : Int) ≠ 0 := c2
    replace R_z1 := R_z1 (by omega)
    refine yG.num (c := 0) rfl (fun _ _ => rfl) (by decide) ?_
    refine yG.goto rfl (t := 18) rfl ?_
    refine yG.putI A_hp.1 (w_M_thrown W H_2073) (W.2.1 _ _ H_2073 (by decide) (by decide)) rfl rfl (.inl rfl) ⟨by omega, by omega⟩ (by omega) (by omega) (fun h6 T_h6 b_h6 f_h6 y_h6 => ?_)
    have M_bRg_h6 := M_bRg_hp.fr (bAx.put (Wl := [(83076749736557242056487941267521536, 0)]) (bAx.rf A_hp.1) T_h6 b_h6 f_h6 H_2073 (by decide)) (by decide)
    have A_h6 := A_hp.put T_h6 b_h6 f_h6 H_2073 (by decide)
    have : ys h6 2073 0 = 0 := (y_h6 2073 0).trans (if_pos ⟨rfl, rfl⟩)
    refine yG.load xak rfl (fun _ _ => rfl) (v := yR 2073) rfl rfl ?_
    refine yG.getI A_h6.1 (w_M_thrown W H_2073) rfl rfl (fun z7 e_z7 i_z7 l_z7 u_z7 => ?_)
    refine yG.ifz rfl (t := 30) rfl ⟨by omega, by omega⟩ (fun c8 => ?_) (fun c8 => ?_)
    · have c8 : (z7 : Int) ≤ 0 := c8
      refine yG.load xak rfl (fun _ _ => rfl) (v := yR 2073) rfl rfl ?_
      refine yG.invV (rest := []) A_h6.1 (bOb (d_M W) H_2073) rfl rfl rfl rfl (c_GModel_netShort W d A_h6.1 M_bRg_h6 (M_bSm.fr A_h6 (by decide)) H_2073) (fun rv h9 q9 => ?_)
      obtain ⟨q9, M_bRg_h9⟩ := q9
      obtain ⟨⟨rfl, R_z10⟩, B_h9⟩ := q9
      have A_h9 := A_h6.tr B_h9 (by decide)
      have : ys h9 2073 0 = ys h6 2073 0 := B_h9.ys H_2073 (by decide)
      show yG _ _ _ _ _ _ _ _ _ _ [] _
      refine yG.load xak rfl (fun _ _ => rfl) (v := yR 2073) rfl rfl ?_
      refine yG.getI A_h9.1 (w_M_isVoid W H_2073) rfl rfl (fun z11 e_z11 i_z11 l_z11 u_z11 => ?_)
      refine yG.ifz rfl (t := 50) rfl ⟨by omega, by omega⟩ (fun c12 => ?_) (fun c12 => ?_)
      · have c12 : (z11 : Int) = 0 := c12
        refine yG.load xak rfl (fun _ _ => rfl) (v := yR 2073) rfl rfl ?_
        refine yG.num (c := 184) rfl (fun _ _ => rfl) (by decide) ?_
        refine yG.load xik rfl (fun _ _ => rfl) (v := yI (p1)) rfl rfl ?_
        refine yG.iadd rfl ?_
        refine yG.num (c := 187) rfl (fun _ _ => rfl) (by decide) ?_
        refine yG.invV (rest := []) A_h9.1 (bOb (d_M W) H_2073) rfl rfl rfl rfl (c_GModel_make W (d + 6) A_h9.1 M_bRg_h9 H_2073 (184 + p1) (187) (by omega) (by omega) (by omega) (by omega)) (fun rv h13 q9 => ?_)
        obtain ⟨q9, M_bRg_h13⟩ := q9
        obtain ⟨⟨z14, rfl, l_z14, u_z14, R_z14⟩, B_h13⟩ := q9
        have A_h13 := A_h9.tr B_h13 (by decide)
        have : ys h13 2073 0 = ys h9 2073 0 := B_h13.ys H_2073 (by decide)
        show yG _ _ _ _ _ _ _ _ _ _ (yI z14 :: []) _
        refine yG.ret rfl (fun _ _ => rfl) ?_
        exact (yP.int ⟨by omega, by omega⟩ ⟨⟨⟨z14, rfl, by omega, by omega, by omega⟩, A_h13⟩, M_bRg_h13⟩)
      · have c12 : (z11 : Int) ≠ 0 := c12
        refine yG.load xak rfl (fun _ _ => rfl) (v := yR 2073) rfl rfl ?_
        refine yG.numl (c := 0) rfl (fun _ _ => rfl) (by decide) ?_
        refine yG.numl (c := 1) rfl (fun _ _ => rfl) (by decide) ?_
        refine yG.invV (rest := []) A_h9.1 (bOb (d_M W) H_2073) rfl rfl rfl rfl (c_GModel_makeWhole W (d + 5) A_h9.1 M_bRg_h9 H_2073 (0) (1) (by omega) (by omega) (by omega) (by omega)) (fun rv h15 q9 => ?_)
        obtain ⟨q9, M_bRg_h15⟩ := q9
        obtain ⟨⟨z16, rfl, l_z16, u_z16, R_z16⟩, B_h15⟩ := q9
        have A_h15 := A_h9.tr B_h15 (by decide)
        have : ys h15 2073 0 = ys h9 2073 0 := B_h15.ys H_2073 (by decide)
        show yG _ _ _ _ _ _ _ _ _ _ (yI z16 :: []) _
        refine yG.goto rfl (t := 62) rfl ?_
        refine yG.ret rfl (fun _ _ => rfl) ?_
        exact (yP.int ⟨by omega, by omega⟩ ⟨⟨⟨z16, rfl, by omega, by omega, by omega⟩, A_h15⟩, M_bRg_h15⟩)
    · have c8 : (z7 : Int) > 0 := c8
      exfalso; omega
theorem c_GModel_voltagesOf {hp : xH} (W : mW G) (d : Nat) (hT : zTy G hp) (M_bRg : bRg G hp) (H_2073 : bRo G 116 2073) (p1 : Int) (h1l : 0 ≤ p1) (h1u : p1 ≤ 15) : yC (xcall 89 xfts xpools xms (d + 3)) 540 [yR 2073, yI (p1)] hp (fun rv hp' => (fun rv hp' => (rv = none ∧ True) ∧ bAx G [(10467670466806212499117480599707713536, 256)] hp hp') rv hp' ∧ bRg G hp') := by
  have A_hp : bAx G [(10467670466806212499117480599707713536, 256)] hp hp := bAx.rf hT
  have M_bRg_hp := M_bRg
  have H : ∀ m : Nat, (∀ a2 : Int, ∀ hq, bAx G [(10467670466806212499117480599707713536, 256)] hp hq → bRg G hq → 0 ≤ a2 → (-3) ≤ 0 - a2 → 0 ≤ p1 → (-15) ≤ 0 - p1 → 0 - 2 * a2 + 7 < (m : Int) → yG 89 xfts (xcall 89 xfts xpools xms (d + 2)) (xpool xp_RX13) [] xt_X13_voltagesOf (yP 0 (fun rv hp' => (fun rv hp' => (rv = none ∧ True) ∧ bAx G [(10467670466806212499117480599707713536, 256)] hp hp') rv hp' ∧ bRg G hp')) (110 * m) 2 [(0, yR 2073), (1, yI (p1)), (2, yI (a2))] [] hq) := by
    intro m
    induction m with
    | zero =>
      intros; exfalso; omega
    | succ m ih =>
      have i_2 := ih
      clear ih
      intro a2 hq A_hq M_bRg_hq f0 f1 f2 f3 hm
      refine yG.mono (N := 110 * m + 110) ?_ (by omega)
      refine yG.load xik rfl (fun _ _ => rfl) (v := yI (a2)) rfl rfl ?_
      refine yG.num (c := 3) rfl (fun _ _ => rfl) (by decide) ?_
      refine yG.icmp rfl (t := 23) rfl ⟨by omega, by omega⟩ ⟨by omega, by omega⟩ (fun c1 => ?_) (fun c1 => ?_)
      · have c1 : (a2 : Int) ≥ 3 := c1
        refine yG.load xak rfl (fun _ _ => rfl) (v := yR 2073) rfl rfl ?_
        refine yG.num (c := 207) rfl (fun _ _ => rfl) (by decide) ?_
        refine yG.numl (c := 1) rfl (fun _ _ => rfl) (by decide) ?_
        refine yG.invV (rest := []) A_hq.1 (bOb (d_M W) H_2073) rfl rfl rfl rfl (r_put W (d + 1) A_hq.1 M_bRg_hq H_2073 (r := (207)) (v := (1)) (x := 1) ⟨by omega, by omega⟩ (yEb (c := 2) (by decide) (by omega) (by omega)) (by decide) (bTb_ge (a := 207) (b := 208) (by decide) (by omega) (by omega))) (fun rv h2 q9 => ?_)
        obtain ⟨rfl, B_h2, M_bRg_h2, Y_h2, V_h2, S_h2⟩ := q9
        have P_h2 : 0 ≤ yval h2 (207 : Int).toNat := by rw [V_h2]; omega
        have A_h2 := A_hq.tr B_h2 (by decide)
        show yG _ _ _ _ _ _ _ _ _ _ [] _
        refine yG.load xak rfl (fun _ _ => rfl) (v := yR 2073) rfl rfl ?_
        refine yG.getO A_h2.1 (w_M_isLive W H_2073) rfl rfl (fun r3 H_r3 O_r3 q_r3 => ?_)
        obtain rfl := u_M_isLive W H_r3
        refine yG.load xak rfl (fun _ _ => rfl) (v := yR 2073) rfl rfl ?_
        refine yG.getO A_h2.1 (w_M_island W H_2073) rfl rfl (fun r4 H_r4 O_r4 q_r4 => ?_)
        obtain rfl := u_M_island W H_r4
        refine yG.load xik rfl (fun _ _ => rfl) (v := yI (p1)) rfl rfl ?_
        refine yG.ialdF A_h2.1 (v_M_island W H_r4) rfl rfl (by omega) (by omega) (fun z5 e_z5 i_z5 l_z5 u_z5 => ?_)
        refine yG.bald A_h2.1 (v_M_isLive W H_r3) rfl (by omega) (by omega) (fun z6 e_z6 i_z6 l_z6 u_z6 => ?_)
        refine yG.ifz rfl (t := 46) rfl ⟨by omega, by omega⟩ (fun c7 => ?_) (fun c7 => ?_)
        · have c7 : (z6 : Int) ≠ 0 := c7
          refine yG.load xak rfl (fun _ _ => rfl) (v := yR 2073) rfl rfl ?_
          refine yG.getI A_h2.1 (w_M_isVoid W H_2073) rfl rfl (fun z8 e_z8 i_z8 l_z8 u_z8 => ?_)
          refine yG.ifz rfl (t := 66) rfl ⟨by omega, by omega⟩ (fun c9 => ?_) (fun c9 => ?_)
          · have c9 : (z8 : Int) ≠ 0 := c9
            refine yG.load xak rfl (fun _ _ => rfl) (v := yR 2073) rfl rfl ?_
            refine yG.num (c := 205) rfl (fun _ _ => rfl) (by decide) ?_
            refine yG.numl (c := 1000) rfl (fun _ _ => rfl) (by decide) ?_
            refine yG.invV (rest := []) A_h2.1 (bOb (d_M W) H_2073) rfl rfl rfl rfl (r_put W (d + 1) A_h2.1 M_bRg_h2 H_2073 (r := (205)) (v := (1000)) (x := 10) ⟨by omega, by omega⟩ (yEb (c := 1024) (by decide) (by omega) (by omega)) (by decide) (bTb_ge (a := 205) (b := 206) (by decide) (by omega) (by omega))) (fun rv h10 q9 => ?_)
            obtain ⟨rfl, B_h10, M_bRg_h10, Y_h10, V_h10, S_h10⟩ := q9
            have P_h10 : 0 ≤ yval h10 (205 : Int).toNat := by rw [V_h10]; omega
            have A_h10 := A_h2.tr B_h10 (by decide)
            have qq1 : zsl h10 2073 35 = yR 2101 := (B_h10.sl H_2073 (by decide)).trans q_r4
            have : ys h10 2101 (p1 : Int).toNat = ys h2 2101 (p1 : Int).toNat := B_h10.ys H_r4 (bNo_ok (by decide) _)
            show yG _ _ _ _ _ _ _ _ _ _ [] _
            refine yG.ret rfl (fun _ _ => rfl) ?_
            exact (yP.void ⟨⟨⟨rfl, trivial⟩, A_h10⟩, M_bRg_h10⟩)
          · have c9 : (z8 : Int) = 0 := c9
            refine yG.load xak rfl (fun _ _ => rfl) (v := yR 2073) rfl rfl ?_
            refine yG.getS9 A_h2.1 (w_M_island W H_2073) q_r4 rfl rfl ?_
            refine yG.load xik rfl (fun _ _ => rfl) (v := yI (p1)) rfl rfl ?_
            refine yG.ialdF A_h2.1 (v_M_island W H_r4) rfl rfl (by omega) (by omega) (fun z11 e_z11 i_z11 l_z11 u_z11 => ?_)
            rw [show (z11 : Int) = z5 by omega]
            refine yG.load xak rfl (fun _ _ => rfl) (v := yR 2073) rfl rfl ?_
            refine yG.getI A_h2.1 (w_M_shortIsland W H_2073) rfl rfl (fun z12 e_z12 i_z12 l_z12 u_z12 => ?_)
            refine yG.icmp rfl (t := 77) rfl ⟨by omega, by omega⟩ ⟨by omega, by omega⟩ (fun c13 => ?_) (fun c13 => ?_)
            · have c13 : (z5 : Int) = z12 := c13
              refine yG.load xak rfl (fun _ _ => rfl) (v := yR 2073) rfl rfl ?_
              refine yG.getO A_h2.1 (w_M_placeOf W H_2073) rfl rfl (fun r14 H_r14 O_r14 q_r14 => ?_)
              obtain rfl := u_M_placeOf W H_r14
              refine yG.load xik rfl (fun _ _ => rfl) (v := yI (p1)) rfl rfl ?_
              refine yG.iald A_h2.1 (v_M_placeOf W H_r14) rfl (by omega) (by omega) (fun z15 e_z15 i_z15 l_z15 u_z15 => ?_)
              refine yG.num (c := 1) rfl (fun _ _ => rfl) (by decide) ?_
              refine yG.iadd rfl ?_
              obtain ⟨z16, e_z16⟩ : ∃ z : Int, z = z15 + 1 := ⟨_, rfl⟩
              rw [← e_z16]
              refine yG.store1 xik (L' := [(2, yI (z16)), (0, yR 2073), (1, yI (p1))]) rfl (fun _ _ => rfl) rfl rfl ?_
              refine yG.load xak rfl (fun _ _ => rfl) (v := yR 2073) rfl rfl ?_
              refine yG.num (c := 212) rfl (fun _ _ => rfl) (by decide) ?_
              refine yG.num (c := 148) rfl (fun _ _ => rfl) (by decide) ?_
              refine yG.num (c := 187) rfl (fun _ _ => rfl) (by decide) ?_
              refine yG.invV (rest := []) A_h2.1 (bOb (d_M W) H_2073) rfl rfl rfl rfl (r_times W (d + 1) A_h2.1 M_bRg_h2 H_2073 (r := (212)) (p := (148)) (q := (187)) ⟨by omega, by omega⟩ ⟨by omega, by omega⟩ ⟨by omega, by omega⟩ (M_bRg_h2.at (x := 310) (a := 148) (b := 149) (by decide) (by omega) (by omega) (by decide)) (M_bRg_h2.at (x := 960) (a := 187) (b := 188) (by decide) (by omega) (by omega) (by decide)) (by decide) (bTb_ge (a := 212) (b := 213) (by decide) (by omega) (by omega))) (fun rv h17 q9 => ?_)
              obtain ⟨rfl, B_h17, M_bRg_h17, Y_h17, V_h17, S_h17⟩ := q9
              have A_h17 := A_h2.tr B_h17 (by decide)
              have qq2 : zsl h17 2073 35 = yR 2101 := (B_h17.sl H_2073 (by decide)).trans q_r4
              have : ys h17 2101 (p1 : Int).toNat = ys h2 2101 (p1 : Int).toNat := B_h17.ys H_r4 (bNo_ok (by decide) _)
              show yG _ _ _ _ _ _ _ _ _ _ [] _
              refine yG.load xak rfl (fun _ _ => rfl) (v := yR 2073) rfl rfl ?_
              refine yG.num (c := 213) rfl (fun _ _ => rfl) (by decide) ?_
              refine yG.num (c := 212) rfl (fun _ _ => rfl) (by decide) ?_
              refine yG.numl (c := 1000) rfl (fun _ _ => rfl) (by decide) ?_
              refine yG.invV (rest := []) A_h17.1 (bOb (d_M W) H_2073) rfl rfl rfl rfl (r_scale W d A_h17.1 M_bRg_h17 H_2073 (r := (213)) (p := (212)) (v := (1000)) (y := 10) ⟨by omega, by omega⟩ ⟨by omega, by omega⟩ (by omega) Y_h17 (yEb (c := 1024) (by decide) (by omega) (by omega)) (by decide) (by decide) (bTb_ge (a := 213) (b := 214) (by decide) (by omega) (by omega))) (fun rv h18 q9 => ?_)
              obtain ⟨rfl, B_h18, M_bRg_h18, Y_h18, V_h18, S_h18⟩ := q9
              have A_h18 := A_h17.tr B_h18 (by decide)
              have qq3 : zsl h18 2073 35 = yR 2101 := (B_h18.sl H_2073 (by decide)).trans qq2
              have : ys h18 2101 (p1 : Int).toNat = ys h17 2101 (p1 : Int).toNat := B_h18.ys H_r4 (bNo_ok (by decide) _)
              show yG _ _ _ _ _ _ _ _ _ _ [] _
              refine yG.load xak rfl (fun _ _ => rfl) (v := yR 2073) rfl rfl ?_
              refine yG.num (c := 214) rfl (fun _ _ => rfl) (by decide) ?_
              refine yG.num (c := 150) rfl (fun _ _ => rfl) (by decide) ?_
              refine yG.load xik rfl (fun _ _ => rfl) (v := yI (z16)) rfl rfl ?_
              refine yG.iadd rfl ?_
              refine yG.num (c := 185) rfl (fun _ _ => rfl) (by decide) ?_
              refine yG.invV (rest := []) A_h18.1 (bOb (d_M W) H_2073) rfl rfl rfl rfl (r_times W (d + 1) A_h18.1 M_bRg_h18 H_2073 (r := (214)) (p := (150 + z16)) (q := (185)) ⟨by omega, by omega⟩ ⟨by omega, by omega⟩ ⟨by omega, by omega⟩ (M_bRg_h18.at (x := 310) (a := 150) (b := 166) (by decide) (by omega) (by omega) (by decide)) (M_bRg_h18.at (x := 960) (a := 185) (b := 186) (by decide) (by omega) (by omega) (by decide)) (by decide) (bTb_ge (a := 214) (b := 215) (by decide) (by omega) (by omega))) (fun rv h19 q9 => ?_)
              obtain ⟨rfl, B_h19, M_bRg_h19, Y_h19, V_h19, S_h19⟩ := q9
              have A_h19 := A_h18.tr B_h19 (by decide)
              have qq4 : zsl h19 2073 35 = yR 2101 := (B_h19.sl H_2073 (by decide)).trans qq3
              have : ys h19 2101 (p1 : Int).toNat = ys h18 2101 (p1 : Int).toNat := B_h19.ys H_r4 (bNo_ok (by decide) _)
              show yG _ _ _ _ _ _ _ _ _ _ [] _
              refine yG.load xak rfl (fun _ _ => rfl) (v := yR 2073) rfl rfl ?_
              refine yG.num (c := 213) rfl (fun _ _ => rfl) (by decide) ?_
              refine yG.num (c := 213) rfl (fun _ _ => rfl) (by decide) ?_
              refine yG.num (c := 214) rfl (fun _ _ => rfl) (by decide) ?_
              refine yG.num (c := -1) rfl (fun _ _ => rfl) (by decide) ?_
              refine yG.invV (rest := []) A_h19.1 (bOb (d_M W) H_2073) rfl rfl rfl rfl (r_plus W d A_h19.1 M_bRg_h19 H_2073 (r := (213)) (p := (213)) (q := (214)) (t := ((-1))) (x := 1280) ⟨by omega, by omega⟩ ⟨by omega, by omega⟩ ⟨by omega, by omega⟩ (by omega) (Y_h18.same W.y A_h18.1 (by decide) (S_h19 213 (by omega) trivial)) (Y_h19.mono (by decide)) (by decide) (bTb_ge (a := 213) (b := 214) (by decide) (by omega) (by omega))) (fun rv h20 q9 => ?_)
              obtain ⟨rfl, B_h20, M_bRg_h20, Y_h20, V_h20, S_h20⟩ := q9
              have A_h20 := A_h19.tr B_h20 (by decide)
              have qq5 : zsl h20 2073 35 = yR 2101 := (B_h20.sl H_2073 (by decide)).trans qq4
              have : ys h20 2101 (p1 : Int).toNat = ys h19 2101 (p1 : Int).toNat := B_h20.ys H_r4 (bNo_ok (by decide) _)
              show yG _ _ _ _ _ _ _ _ _ _ [] _
              refine yG.load xak rfl (fun _ _ => rfl) (v := yR 2073) rfl rfl ?_
              refine yG.num (c := 205) rfl (fun _ _ => rfl) (by decide) ?_
              refine yG.num (c := 213) rfl (fun _ _ => rfl) (by decide) ?_
              refine yG.num (c := 149) rfl (fun _ _ => rfl) (by decide) ?_
              refine yG.invV (rest := []) A_h20.1 (bOb (d_M W) H_2073) rfl rfl rfl rfl (r_times W (d + 1) A_h20.1 M_bRg_h20 H_2073 (r := (205)) (p := (213)) (q := (149)) ⟨by omega, by omega⟩ ⟨by omega, by omega⟩ ⟨by omega, by omega⟩ Y_h20 (M_bRg_h20.at (x := 310) (a := 149) (b := 150) (by decide) (by omega) (by omega) (by decide)) (by decide) (bTb_ge (a := 205) (b := 206) (by decide) (by omega) (by omega))) (fun rv h21 q9 => ?_)
              obtain ⟨rfl, B_h21, M_bRg_h21, Y_h21, V_h21, S_h21⟩ := q9
              have A_h21 := A_h20.tr B_h21 (by decide)
              have qq6 : zsl h21 2073 35 = yR 2101 := (B_h21.sl H_2073 (by decide)).trans qq5
              have : ys h21 2101 (p1 : Int).toNat = ys h20 2101 (p1 : Int).toNat := B_h21.ys H_r4 (bNo_ok (by decide) _)
              show yG _ _ _ _ _ _ _ _ _ _ [] _
              refine yG.load xak rfl (fun _ _ => rfl) (v := yR 2073) rfl rfl ?_
              refine yG.num (c := 214) rfl (fun _ _ => rfl) (by decide) ?_
              refine yG.num (c := 150) rfl (fun _ _ => rfl) (by decide) ?_
              refine yG.load xik rfl (fun _ _ => rfl) (v := yI (z16)) rfl rfl ?_
              refine yG.iadd rfl ?_
              refine yG.num (c := 186) rfl (fun _ _ => rfl) (by decide) ?_
              refine yG.invV (rest := []) A_h21.1 (bOb (d_M W) H_2073) rfl rfl rfl rfl (r_times W (d + 1) A_h21.1 M_bRg_h21 H_2073 (r := (214)) (p := (150 + z16)) (q := (186)) ⟨by omega, by omega⟩ ⟨by omega, by omega⟩ ⟨by omega, by omega⟩ (M_bRg_h21.at (x := 310) (a := 150) (b := 166) (by decide) (by omega) (by omega) (by decide)) (M_bRg_h21.at (x := 960) (a := 186) (b := 187) (by decide) (by omega) (by omega) (by decide)) (by decide) (bTb_ge (a := 214) (b := 215) (by decide) (by omega) (by omega))) (fun rv h22 q9 => ?_)
              obtain ⟨rfl, B_h22, M_bRg_h22, Y_h22, V_h22, S_h22⟩ := q9
              have A_h22 := A_h21.tr B_h22 (by decide)
              have qq7 : zsl h22 2073 35 = yR 2101 := (B_h22.sl H_2073 (by decide)).trans qq6
              have : ys h22 2101 (p1 : Int).toNat = ys h21 2101 (p1 : Int).toNat := B_h22.ys H_r4 (bNo_ok (by decide) _)
              show yG _ _ _ _ _ _ _ _ _ _ [] _
              refine yG.load xak rfl (fun _ _ => rfl) (v := yR 2073) rfl rfl ?_
              refine yG.num (c := 206) rfl (fun _ _ => rfl) (by decide) ?_
              refine yG.num (c := 214) rfl (fun _ _ => rfl) (by decide) ?_
              refine yG.num (c := 149) rfl (fun _ _ => rfl) (by decide) ?_
              refine yG.invV (rest := []) A_h22.1 (bOb (d_M W) H_2073) rfl rfl rfl rfl (r_times W (d + 1) A_h22.1 M_bRg_h22 H_2073 (r := (206)) (p := (214)) (q := (149)) ⟨by omega, by omega⟩ ⟨by omega, by omega⟩ ⟨by omega, by omega⟩ Y_h22 (M_bRg_h22.at (x := 310) (a := 149) (b := 150) (by decide) (by omega) (by omega) (by decide)) (by decide) (bTb_ge (a := 206) (b := 207) (by decide) (by omega) (by omega))) (fun rv h23 q9 => ?_)
              obtain ⟨rfl, B_h23, M_bRg_h23, Y_h23, V_h23, S_h23⟩ := q9
              have A_h23 := A_h22.tr B_h23 (by decide)
              have qq8 : zsl h23 2073 35 = yR 2101 := (B_h23.sl H_2073 (by decide)).trans qq7
              have : ys h23 2101 (p1 : Int).toNat = ys h22 2101 (p1 : Int).toNat := B_h23.ys H_r4 (bNo_ok (by decide) _)
              show yG _ _ _ _ _ _ _ _ _ _ [] _
              refine yG.load xak rfl (fun _ _ => rfl) (v := yR 2073) rfl rfl ?_
              refine yG.getO A_h23.1 (w_M_sign W H_2073) rfl rfl (fun r24 H_r24 O_r24 q_r24 => ?_)
              obtain rfl := u_M_sign W H_r24
              refine yG.num (c := 206) rfl (fun _ _ => rfl) (by decide) ?_
              refine yG.load xak rfl (fun _ _ => rfl) (v := yR 2073) rfl rfl ?_
              refine yG.getS9 A_h23.1 (w_M_sign W H_2073) q_r24 rfl rfl ?_
              refine yG.num (c := 206) rfl (fun _ _ => rfl) (by decide) ?_
              refine yG.iald A_h23.1 (v_M_sign W H_r24) rfl (by omega) (by omega) (fun z25 e_z25 i_z25 l_z25 u_z25 => ?_)
              refine yG.ineg rfl ?_
              refine yG.iast A_h23.1 (v_M_sign W H_r24) (W.2.1 _ _ H_r24 (by decide) (by decide)) rfl (by omega) (by omega) ⟨by omega, by omega⟩ (by omega) (by omega) (fun h26 T_h26 b_h26 f_h26 y_h26 => ?_)
              obtain ⟨M_bRg_h26, S_h26, K_h26, V_h26⟩ := r_sgn W M_bRg_h23 T_h26 H_r24 (i := (206)) ⟨by omega, by omega⟩ y_h26 (by omega)
              have A_h26 := A_h23.put T_h26 b_h26 f_h26 H_r24 (bAll_ok (by decide) _)
              have qq9 : zsl h26 2073 35 = yR 2101 := ((f_h26 2073 35).trans (if_neg (fun e => (bRo.ne H_2073 H_r24 (by decide)) e.1))).trans qq8
              have : ys h26 2101 (p1 : Int).toNat = ys h23 2101 (p1 : Int).toNat := (y_h26 2101 (p1 : Int).toNat).trans (if_neg (fun e => (bRo.ne H_r4 H_r24 (by decide)) e.1))
              have qq10 : zsl h26 2073 3 = yR 2076 := ((f_h26 2073 3).trans (if_neg (fun e => (bRo.ne H_2073 H_r24 (by decide)) e.1))).trans q_r24
              refine yG.load xak rfl (fun _ _ => rfl) (v := yR 2073) rfl rfl ?_
              refine yG.num (c := 214) rfl (fun _ _ => rfl) (by decide) ?_
              refine yG.num (c := 167) rfl (fun _ _ => rfl) (by decide) ?_
              refine yG.load xik rfl (fun _ _ => rfl) (v := yI (z16)) rfl rfl ?_
              refine yG.iadd rfl ?_
              refine yG.num (c := 184) rfl (fun _ _ => rfl) (by decide) ?_
              refine yG.invV (rest := []) A_h26.1 (bOb (d_M W) H_2073) rfl rfl rfl rfl (r_times W (d + 1) A_h26.1 M_bRg_h26 H_2073 (r := (214)) (p := (167 + z16)) (q := (184)) ⟨by omega, by omega⟩ ⟨by omega, by omega⟩ ⟨by omega, by omega⟩ (M_bRg_h26.at (x := 310) (a := 167) (b := 183) (by decide) (by omega) (by omega) (by decide)) (M_bRg_h26.at (x := 960) (a := 184) (b := 185) (by decide) (by omega) (by omega) (by decide)) (by decide) (bTb_ge (a := 214) (b := 215) (by decide) (by omega) (by omega))) (fun rv h27 q9 => ?_)
              obtain ⟨rfl, B_h27, M_bRg_h27, Y_h27, V_h27, S_h27⟩ := q9
              have A_h27 := A_h26.tr B_h27 (by decide)
              have qq11 : zsl h27 2073 35 = yR 2101 := (B_h27.sl H_2073 (by decide)).trans qq9
              have : ys h27 2101 (p1 : Int).toNat = ys h26 2101 (p1 : Int).toNat := B_h27.ys H_r4 (bNo_ok (by decide) _)
              have qq12 : zsl h27 2073 3 = yR 2076 := (B_h27.sl H_2073 (by decide)).trans qq10
              show yG _ _ _ _ _ _ _ _ _ _ [] _
              refine yG.load xak rfl (fun _ _ => rfl) (v := yR 2073) rfl rfl ?_
              refine yG.num (c := 204) rfl (fun _ _ => rfl) (by decide) ?_
              refine yG.num (c := 214) rfl (fun _ _ => rfl) (by decide) ?_
              refine yG.num (c := 148) rfl (fun _ _ => rfl) (by decide) ?_
              refine yG.invV (rest := []) A_h27.1 (bOb (d_M W) H_2073) rfl rfl rfl rfl (r_times W (d + 1) A_h27.1 M_bRg_h27 H_2073 (r := (204)) (p := (214)) (q := (148)) ⟨by omega, by omega⟩ ⟨by omega, by omega⟩ ⟨by omega, by omega⟩ Y_h27 (M_bRg_h27.at (x := 310) (a := 148) (b := 149) (by decide) (by omega) (by omega) (by decide)) (by decide) (bTb_ge (a := 204) (b := 205) (by decide) (by omega) (by omega))) (fun rv h28 q9 => ?_)
              obtain ⟨rfl, B_h28, M_bRg_h28, Y_h28, V_h28, S_h28⟩ := q9
              have A_h28 := A_h27.tr B_h28 (by decide)
              have qq13 : zsl h28 2073 35 = yR 2101 := (B_h28.sl H_2073 (by decide)).trans qq11
              have : ys h28 2101 (p1 : Int).toNat = ys h27 2101 (p1 : Int).toNat := B_h28.ys H_r4 (bNo_ok (by decide) _)
              have qq14 : zsl h28 2073 3 = yR 2076 := (B_h28.sl H_2073 (by decide)).trans qq12
              show yG _ _ _ _ _ _ _ _ _ _ [] _
              refine yG.load xak rfl (fun _ _ => rfl) (v := yR 2073) rfl rfl ?_
              refine yG.getS9 A_h28.1 (w_M_sign W H_2073) qq14 rfl rfl ?_
              refine yG.num (c := 204) rfl (fun _ _ => rfl) (by decide) ?_
              refine yG.load xak rfl (fun _ _ => rfl) (v := yR 2073) rfl rfl ?_
              refine yG.getS9 A_h28.1 (w_M_sign W H_2073) qq14 rfl rfl ?_
              refine yG.num (c := 204) rfl (fun _ _ => rfl) (by decide) ?_
              refine yG.iald A_h28.1 (v_M_sign W H_r24) rfl (by omega) (by omega) (fun z29 e_z29 i_z29 l_z29 u_z29 => ?_)
              refine yG.ineg rfl ?_
              refine yG.iast A_h28.1 (v_M_sign W H_r24) (W.2.1 _ _ H_r24 (by decide) (by decide)) rfl (by omega) (by omega) ⟨by omega, by omega⟩ (by omega) (by omega) (fun h30 T_h30 b_h30 f_h30 y_h30 => ?_)
              obtain ⟨M_bRg_h30, S_h30, K_h30, V_h30⟩ := r_sgn W M_bRg_h28 T_h30 H_r24 (i := (204)) ⟨by omega, by omega⟩ y_h30 (by omega)
              have A_h30 := A_h28.put T_h30 b_h30 f_h30 H_r24 (bAll_ok (by decide) _)
              have qq15 : zsl h30 2073 35 = yR 2101 := ((f_h30 2073 35).trans (if_neg (fun e => (bRo.ne H_2073 H_r24 (by decide)) e.1))).trans qq13
              have : ys h30 2101 (p1 : Int).toNat = ys h28 2101 (p1 : Int).toNat := (y_h30 2101 (p1 : Int).toNat).trans (if_neg (fun e => (bRo.ne H_r4 H_r24 (by decide)) e.1))
              have qq16 : zsl h30 2073 3 = yR 2076 := ((f_h30 2073 3).trans (if_neg (fun e => (bRo.ne H_2073 H_r24 (by decide)) e.1))).trans qq14
              refine yG.load xak rfl (fun _ _ => rfl) (v := yR 2073) rfl rfl ?_
              refine yG.num (c := 207) rfl (fun _ _ => rfl) (by decide) ?_
              refine yG.num (c := 212) rfl (fun _ _ => rfl) (by decide) ?_
              refine yG.num (c := 149) rfl (fun _ _ => rfl) (by decide) ?_
              refine yG.invV (rest := []) A_h30.1 (bOb (d_M W) H_2073) rfl rfl rfl rfl (r_times W (d + 1) A_h30.1 M_bRg_h30 H_2073 (r := (207)) (p := (212)) (q := (149)) ⟨by omega, by omega⟩ ⟨by omega, by omega⟩ ⟨by omega, by omega⟩ ((((((((((Y_h17.same W.y A_h17.1 (by decide) (S_h18 212 (by omega) (by decide))).same W.y A_h18.1 (by decide) (S_h19 212 (by omega) trivial)).same W.y A_h19.1 (by decide) (S_h20 212 (by omega) trivial)).same W.y A_h20.1 (by decide) (S_h21 212 (by omega) trivial)).same W.y A_h21.1 (by decide) (S_h22 212 (by omega) trivial)).same W.y A_h22.1 (by decide) (S_h23 212 (by omega) trivial)).same W.y A_h23.1 (by decide) (S_h26 212 (by omega))).same W.y A_h26.1 (by decide) (S_h27 212 (by omega) trivial)).same W.y A_h27.1 (by decide) (S_h28 212 (by omega) trivial)).same W.y A_h28.1 (by decide) (S_h30 212 (by omega))) (M_bRg_h30.at (x := 310) (a := 149) (b := 150) (by decide) (by omega) (by omega) (by decide)) (by decide) (bTb_ge (a := 207) (b := 208) (by decide) (by omega) (by omega))) (fun rv h31 q9 => ?_)
              obtain ⟨rfl, B_h31, M_bRg_h31, Y_h31, V_h31, S_h31⟩ := q9
              have A_h31 := A_h30.tr B_h31 (by decide)
              have qq17 : zsl h31 2073 35 = yR 2101 := (B_h31.sl H_2073 (by decide)).trans qq15
              have : ys h31 2101 (p1 : Int).toNat = ys h30 2101 (p1 : Int).toNat := B_h31.ys H_r4 (bNo_ok (by decide) _)
              have qq18 : zsl h31 2073 3 = yR 2076 := (B_h31.sl H_2073 (by decide)).trans qq16
              show yG _ _ _ _ _ _ _ _ _ _ [] _
              refine yG.ret rfl (fun _ _ => rfl) ?_
              exact (yP.void ⟨⟨⟨rfl, trivial⟩, A_h31⟩, M_bRg_h31⟩)
            · have c13 : (z5 : Int) ≠ z12 := c13
              refine yG.load xak rfl (fun _ _ => rfl) (v := yR 2073) rfl rfl ?_
              refine yG.num (c := 205) rfl (fun _ _ => rfl) (by decide) ?_
              refine yG.numl (c := 1000) rfl (fun _ _ => rfl) (by decide) ?_
              refine yG.invV (rest := []) A_h2.1 (bOb (d_M W) H_2073) rfl rfl rfl rfl (r_put W (d + 1) A_h2.1 M_bRg_h2 H_2073 (r := (205)) (v := (1000)) (x := 10) ⟨by omega, by omega⟩ (yEb (c := 1024) (by decide) (by omega) (by omega)) (by decide) (bTb_ge (a := 205) (b := 206) (by decide) (by omega) (by omega))) (fun rv h32 q9 => ?_)
              obtain ⟨rfl, B_h32, M_bRg_h32, Y_h32, V_h32, S_h32⟩ := q9
              have P_h32 : 0 ≤ yval h32 (205 : Int).toNat := by rw [V_h32]; omega
              have A_h32 := A_h2.tr B_h32 (by decide)
              have qq19 : zsl h32 2073 35 = yR 2101 := (B_h32.sl H_2073 (by decide)).trans q_r4
              have : ys h32 2101 (p1 : Int).toNat = ys h2 2101 (p1 : Int).toNat := B_h32.ys H_r4 (bNo_ok (by decide) _)
              show yG _ _ _ _ _ _ _ _ _ _ [] _
              refine yG.ret rfl (fun _ _ => rfl) ?_
              exact (yP.void ⟨⟨⟨rfl, trivial⟩, A_h32⟩, M_bRg_h32⟩)
        · have c7 : (z6 : Int) = 0 := c7
          refine yG.ret rfl (fun _ _ => rfl) ?_
          exact (yP.void ⟨⟨⟨rfl, trivial⟩, A_h2⟩, M_bRg_h2⟩)
      · have c1 : (a2 : Int) < 3 := c1
        refine yG.load xak rfl (fun _ _ => rfl) (v := yR 2073) rfl rfl ?_
        refine yG.num (c := 204) rfl (fun _ _ => rfl) (by decide) ?_
        refine yG.load xik rfl (fun _ _ => rfl) (v := yI (a2)) rfl rfl ?_
        refine yG.iadd rfl ?_
        refine yG.numl (c := 0) rfl (fun _ _ => rfl) (by decide) ?_
        refine yG.invV (rest := []) A_hq.1 (bOb (d_M W) H_2073) rfl rfl rfl rfl (r_put W (d + 1) A_hq.1 M_bRg_hq H_2073 (r := (204 + a2)) (v := (0)) (x := 0) ⟨by omega, by omega⟩ (yEb (c := 1) (by decide) (by omega) (by omega)) (by decide) (bTb_ge (a := 204) (b := 207) (by decide) (by omega) (by omega))) (fun rv h33 q9 => ?_)
        obtain ⟨rfl, B_h33, M_bRg_h33, Y_h33, V_h33, S_h33⟩ := q9
        have P_h33 : 0 ≤ yval h33 (204 + a2 : Int).toNat := by rw [V_h33]; omega
        have A_h33 := A_hq.tr B_h33 (by decide)
        show yG _ _ _ _ _ _ _ _ _ _ [] _
        refine yG.iinc rfl (a := a2) rfl (L' := [(2, yI (a2 + 1)), (0, yR 2073), (1, yI (p1))]) rfl ?_
        refine yG.goto rfl (t := 2) rfl ?_
        exact yG.mono (yG.sub (i_2 (a2 + 1)  h33 A_h33 M_bRg_h33   (by omega) (by omega) (by omega) (by omega) (by omega)) (ySub.cons rfl (ySub.cons rfl (ySub.cons rfl (ySub.nil))))) (by omega)
  refine yC.of (M := (xt_X13_voltagesOf, (3, (0, (14, []))))) rfl rfl (N := 1100) (yfuel (by decide)) ?_
  show yG 89 xfts (xcall 89 xfts xpools xms (d + 2)) (xpool xp_RX13) [] xt_X13_voltagesOf (yP 0 (fun rv hp' => (fun rv hp' => (rv = none ∧ True) ∧ bAx G [(10467670466806212499117480599707713536, 256)] hp hp') rv hp' ∧ bRg G hp')) 1100 0 [(0, yR 2073), (1, yI (p1))] [] hp
  have i_2 := H 9
  refine yG.num (c := 0) rfl (fun _ _ => rfl) (by decide) ?_
  refine yG.store1 xik (L' := [(2, yI (0)), (0, yR 2073), (1, yI (p1))]) rfl (fun _ _ => rfl) rfl rfl ?_
  exact yG.mono (yG.sub (i_2 (0)  hp A_hp M_bRg_hp   (by omega) (by omega) (by omega) (by omega) (by omega)) (ySub.cons rfl (ySub.cons rfl (ySub.cons rfl (ySub.nil))))) (by omega)
theorem c_GModel_currentsInto {hp : xH} (W : mW G) (d : Nat) (hT : zTy G hp) (M_bRg : bRg G hp) (H_2073 : bRo G 116 2073) (p1 p2 : Int) (h1l : 0 ≤ p1) (h1u : p1 ≤ 19) (h2l : 0 ≤ p2) (h2u : p2 ≤ 1) : yC (xcall 89 xfts xpools xms (d + 4)) 383 [yR 2073, yI (p1), yI (p2)] hp (fun rv hp' => (fun rv hp' => (rv = none ∧ True) ∧ bAx G [(10467670466806212499117480599707713536, 256)] hp hp') rv hp' ∧ bRg G hp') := by
  have A_hp : bAx G [(10467670466806212499117480599707713536, 256)] hp hp := bAx.rf hT
  have M_bRg_hp := M_bRg
  have H : ∀ m : Nat, (∀ a3 : Int, ∀ hq, bAx G [(10467670466806212499117480599707713536, 256)] hp hq → bRg G hq → 0 ≤ a3 → (-3) ≤ 0 - a3 → 0 ≤ p1 → (-19) ≤ 0 - p1 → 0 ≤ p2 → (-1) ≤ 0 - p2 → 0 - 3 * a3 + 11 < (m : Int) → yG 89 xfts (xcall 89 xfts xpools xms (d + 3)) (xpool xp_RX13) [] xt_X13_currentsInto (yP 0 (fun rv hp' => (fun rv hp' => (rv = none ∧ True) ∧ bAx G [(10467670466806212499117480599707713536, 256)] hp hp') rv hp' ∧ bRg G hp')) (90 * m) 2 [(0, yR 2073), (1, yI (p1)), (2, yI (p2)), (3, yI (a3))] [] hq) ∧ (∀ a3 : Int, ∀ a4 : Int, ∀ a5 : Int, ∀ a7 : Int, ∀ a9 : Int, ∀ hq, bAx G [(10467670466806212499117480599707713536, 256)] hp hq → bRg G hq → 0 ≤ a3 → (-15) ≤ 0 - a3 → 0 ≤ a4 → (-16) ≤ 0 - a4 → 0 ≤ a5 → (-1584) ≤ 0 - a5 → 0 ≤ a7 → (-4784) ≤ 0 - a7 → 1 ≤ a9 → (-16) ≤ 0 - a9 → 0 ≤ p1 → (-19) ≤ 0 - p1 → 0 ≤ p2 → (-1) ≤ 0 - p2 → (-14) ≤ 0 - a4 + a9 → (-1568) ≤ 0 - a5 + a9 → (-4768) ≤ 0 - a7 + a9 → (-1583) ≤ 0 - a5 + p2 → (-4783) ≤ 0 - a7 + p2 → 1 < (m : Int) → yG 89 xfts (xcall 89 xfts xpools xms (d + 3)) (xpool xp_RX13) [] xt_X13_currentsInto (yP 0 (fun rv hp' => (fun rv hp' => (rv = none ∧ True) ∧ bAx G [(10467670466806212499117480599707713536, 256)] hp hp') rv hp' ∧ bRg G hp')) (90 * m) 176 [(0, yR 2073), (3, yI (a3)), (4, yI (a4)), (5, yJ (a5)), (7, yJ (a7)), (9, yJ (a9))] [] hq) := by
    intro m
    induction m with
    | zero =>
      refine ⟨?_, ?_⟩ <;> (intros; exfalso; omega)
    | succ m ih =>
      obtain ⟨i_2, i_176⟩ := ih
      refine ⟨?_, ?_⟩
      · intro a3 hq A_hq M_bRg_hq f0 f1 f2 f3 f4 f5 hm
        refine yG.mono (N := 90 * m + 90) ?_ (by omega)
        refine yG.load xik rfl (fun _ _ => rfl) (v := yI (a3)) rfl rfl ?_
        refine yG.num (c := 3) rfl (fun _ _ => rfl) (by decide) ?_
        refine yG.icmp rfl (t := 23) rfl ⟨by omega, by omega⟩ ⟨by omega, by omega⟩ (fun c1 => ?_) (fun c1 => ?_)
        · have c1 : (a3 : Int) ≥ 3 := c1
          refine yG.load xak rfl (fun _ _ => rfl) (v := yR 2073) rfl rfl ?_
          refine yG.num (c := 207) rfl (fun _ _ => rfl) (by decide) ?_
          refine yG.numl (c := 1) rfl (fun _ _ => rfl) (by decide) ?_
          refine yG.invV (rest := []) A_hq.1 (bOb (d_M W) H_2073) rfl rfl rfl rfl (r_put W (d + 2) A_hq.1 M_bRg_hq H_2073 (r := (207)) (v := (1)) (x := 1) ⟨by omega, by omega⟩ (yEb (c := 2) (by decide) (by omega) (by omega)) (by decide) (bTb_ge (a := 207) (b := 208) (by decide) (by omega) (by omega))) (fun rv h2 q9 => ?_)
          obtain ⟨rfl, B_h2, M_bRg_h2, Y_h2, V_h2, S_h2⟩ := q9
          have P_h2 : 0 ≤ yval h2 (207 : Int).toNat := by rw [V_h2]; omega
          have A_h2 := A_hq.tr B_h2 (by decide)
          show yG _ _ _ _ _ _ _ _ _ _ [] _
          refine yG.load xak rfl (fun _ _ => rfl) (v := yR 2073) rfl rfl ?_
          refine yG.getO A_h2.1 (w_M_inNow W H_2073) rfl rfl (fun r3 H_r3 O_r3 q_r3 => ?_)
          obtain rfl := u_M_inNow W H_r3
          refine yG.load xik rfl (fun _ _ => rfl) (v := yI (p1)) rfl rfl ?_
          refine yG.iald A_h2.1 (v_M_inNow W H_r3) rfl (by omega) (by omega) (fun z4 e_z4 i_z4 l_z4 u_z4 => ?_)
          refine yG.ifz rfl (t := 59) rfl ⟨by omega, by omega⟩ (fun c5 => ?_) (fun c5 => ?_)
          · have c5 : (z4 : Int) = 0 := c5
            refine yG.ret rfl (fun _ _ => rfl) ?_
            exact (yP.void ⟨⟨⟨rfl, trivial⟩, A_h2⟩, M_bRg_h2⟩)
          · have c5 : (z4 : Int) ≠ 0 := c5
            refine yG.load xak rfl (fun _ _ => rfl) (v := yR 2073) rfl rfl ?_
            refine yG.getI A_h2.1 (w_M_isVoid W H_2073) rfl rfl (fun z6 e_z6 i_z6 l_z6 u_z6 => ?_)
            refine yG.ifz rfl (t := 59) rfl ⟨by omega, by omega⟩ (fun c7 => ?_) (fun c7 => ?_)
            · have c7 : (z6 : Int) ≠ 0 := c7
              refine yG.ret rfl (fun _ _ => rfl) ?_
              exact (yP.void ⟨⟨⟨rfl, trivial⟩, A_h2⟩, M_bRg_h2⟩)
            · have c7 : (z6 : Int) = 0 := c7
              refine yG.load xak rfl (fun _ _ => rfl) (v := yR 2073) rfl rfl ?_
              refine yG.load xik rfl (fun _ _ => rfl) (v := yI (p1)) rfl rfl ?_
              refine yG.invV (rest := []) A_h2.1 (bOb (d_M W) H_2073) rfl rfl rfl rfl (c_GModel_islandOfLine W d A_h2.1 H_2073 (p1) (by omega) (by omega)) (fun rv hp9 q9 => ?_)
              obtain ⟨⟨z8, rfl, l_z8, u_z8, R_z8⟩, e9⟩ := q9
              rw [e9]
              show yG _ _ _ _ _ _ _ _ _ _ (yI z8 :: []) _
              refine yG.load xak rfl (fun _ _ => rfl) (v := yR 2073) rfl rfl ?_
              refine yG.getI A_h2.1 (w_M_shortIsland W H_2073) rfl rfl (fun z9 e_z9 i_z9 l_z9 u_z9 => ?_)
              refine yG.icmp rfl (t := 60) rfl ⟨by omega, by omega⟩ ⟨by omega, by omega⟩ (fun c10 => ?_) (fun c10 => ?_)
              · have c10 : (z8 : Int) = z9 := c10
                refine yG.load xak rfl (fun _ _ => rfl) (v := yR 2073) rfl rfl ?_
                refine yG.getO A_h2.1 (w_M_placeOf W H_2073) rfl rfl (fun r11 H_r11 O_r11 q_r11 => ?_)
                obtain rfl := u_M_placeOf W H_r11
                refine yG.load xak rfl (fun _ _ => rfl) (v := yR 2073) rfl rfl ?_
                refine yG.load xik rfl (fun _ _ => rfl) (v := yI (p1)) rfl rfl ?_
                refine yG.load xik rfl (fun _ _ => rfl) (v := yI (p2)) rfl rfl ?_
                refine yG.invV (rest := [yR 2104]) A_h2.1 (bOb (d_M W) H_2073) rfl rfl rfl rfl (c_GModel_nodeOfLine W d A_h2.1 H_2073 (p1) (p2) (by omega) (by omega) (by omega) (by omega)) (fun rv hp9 q9 => ?_)
                obtain ⟨⟨z12, rfl, l_z12, u_z12, R_z12⟩, e9⟩ := q9
                rw [e9]
                show yG _ _ _ _ _ _ _ _ _ _ (yI z12 :: [yR 2104]) _
                refine yG.iald A_h2.1 (v_M_placeOf W H_r11) rfl (by omega) (by omega) (fun z13 e_z13 i_z13 l_z13 u_z13 => ?_)
                refine yG.num (c := 1) rfl (fun _ _ => rfl) (by decide) ?_
                refine yG.iadd rfl ?_
                obtain ⟨z14, e_z14⟩ : ∃ z : Int, z = z13 + 1 := ⟨_, rfl⟩
                rw [← e_z14]
                refine yG.store1 xik (L' := [(3, yI (z14)), (0, yR 2073), (1, yI (p1)), (2, yI (p2))]) rfl (fun _ _ => rfl) rfl rfl ?_
                refine yG.load xak rfl (fun _ _ => rfl) (v := yR 2073) rfl rfl ?_
                refine yG.getS9 A_h2.1 (w_M_placeOf W H_2073) q_r11 rfl rfl ?_
                refine yG.load xak rfl (fun _ _ => rfl) (v := yR 2073) rfl rfl ?_
                refine yG.load xik rfl (fun _ _ => rfl) (v := yI (p1)) rfl rfl ?_
                refine yG.num (c := 1) rfl (fun _ _ => rfl) (by decide) ?_
                refine yG.load xik rfl (fun _ _ => rfl) (v := yI (p2)) rfl rfl ?_
                refine yG.isub rfl ?_
                refine yG.invV (rest := [yR 2104]) A_h2.1 (bOb (d_M W) H_2073) rfl rfl rfl rfl (c_GModel_nodeOfLine W d A_h2.1 H_2073 (p1) (1 - p2) (by omega) (by omega) (by omega) (by omega)) (fun rv hp9 q9 => ?_)
                obtain ⟨⟨z15, rfl, l_z15, u_z15, R_z15⟩, e9⟩ := q9
                rw [e9]
                show yG _ _ _ _ _ _ _ _ _ _ (yI z15 :: [yR 2104]) _
                refine yG.iald A_h2.1 (v_M_placeOf W H_r11) rfl (by omega) (by omega) (fun z16 e_z16 i_z16 l_z16 u_z16 => ?_)
                refine yG.num (c := 1) rfl (fun _ _ => rfl) (by decide) ?_
                refine yG.iadd rfl ?_
                obtain ⟨z17, e_z17⟩ : ∃ z : Int, z = z16 + 1 := ⟨_, rfl⟩
                rw [← e_z17]
                refine yG.store1 xik (L' := [(4, yI (z17)), (3, yI (z14)), (0, yR 2073), (1, yI (p1)), (2, yI (p2))]) rfl (fun _ _ => rfl) rfl rfl ?_
                refine yG.load xak rfl (fun _ _ => rfl) (v := yR 2073) rfl rfl ?_
                refine yG.num (c := 2) rfl (fun _ _ => rfl) (by decide) ?_
                refine yG.load xik rfl (fun _ _ => rfl) (v := yI (p1)) rfl rfl ?_
                refine yG.num (c := 1) rfl (fun _ _ => rfl) (by decide) ?_
                refine yG.invV (rest := []) A_h2.1 (bOb (d_M W) H_2073) rfl rfl rfl rfl (c_GModel_of_v2_1 W (d + 1) A_h2.1 H_2073 (p1) (by omega) (by omega)) (fun rv hp9 q9 => ?_)
                obtain ⟨⟨z18, rfl, l_z18, u_z18, R_z18⟩, e9⟩ := q9
                rw [e9]
                show yG _ _ _ _ _ _ _ _ _ _ (yI z18 :: []) _
                refine yG.i2l rfl ⟨by omega, by omega⟩ ?_
                refine yG.store2 xlk2 (L' := [(5, yJ (z18)), (4, yI (z17)), (3, yI (z14)), (0, yR 2073), (1, yI (p1)), (2, yI (p2))]) rfl (fun _ _ => rfl) rfl rfl ?_
                refine yG.load xak rfl (fun _ _ => rfl) (v := yR 2073) rfl rfl ?_
                refine yG.num (c := 2) rfl (fun _ _ => rfl) (by decide) ?_
                refine yG.load xik rfl (fun _ _ => rfl) (v := yI (p1)) rfl rfl ?_
                refine yG.num (c := 2) rfl (fun _ _ => rfl) (by decide) ?_
                refine yG.invV (rest := []) A_h2.1 (bOb (d_M W) H_2073) rfl rfl rfl rfl (c_GModel_of_v2_2 W (d + 1) A_h2.1 H_2073 (p1) (by omega) (by omega)) (fun rv hp9 q9 => ?_)
                obtain ⟨⟨z19, rfl, l_z19, u_z19, R_z19⟩, e9⟩ := q9
                rw [e9]
                show yG _ _ _ _ _ _ _ _ _ _ (yI z19 :: []) _
                refine yG.i2l rfl ⟨by omega, by omega⟩ ?_
                refine yG.store2 xlk2 (L' := [(7, yJ (z19)), (5, yJ (z18)), (4, yI (z17)), (3, yI (z14)), (0, yR 2073), (1, yI (p1)), (2, yI (p2))]) rfl (fun _ _ => rfl) rfl rfl ?_
                refine yG.numl (c := 1) rfl (fun _ _ => rfl) (by decide) ?_
                refine yG.store2 xlk2 (L' := [(9, yJ (1)), (7, yJ (z19)), (5, yJ (z18)), (4, yI (z17)), (3, yI (z14)), (0, yR 2073), (1, yI (p1)), (2, yI (p2))]) rfl (fun _ _ => rfl) rfl rfl ?_
                refine yG.load xak rfl (fun _ _ => rfl) (v := yR 2073) rfl rfl ?_
                refine yG.getI A_h2.1 (w_M_isOnLine W H_2073) rfl rfl (fun z20 e_z20 i_z20 l_z20 u_z20 => ?_)
                refine yG.ifz rfl (t := 176) rfl ⟨by omega, by omega⟩ (fun c21 => ?_) (fun c21 => ?_)
                · have c21 : (z20 : Int) = 0 := c21
                  exact yG.mono (yG.sub (i_176 (z14) (z17) (z18) (z19) (1)  h2 A_h2 M_bRg_h2   (by omega) (by omega) (by omega) (by omega) (by omega) (by omega) (by omega) (by omega) (by omega) (by omega) (by omega) (by omega) (by omega) (by omega) (by omega) (by omega) (by omega) (by omega) (by omega) (by omega)) (ySub.cons rfl (ySub.cons rfl (ySub.cons rfl (ySub.cons rfl (ySub.cons rfl (ySub.cons rfl (ySub.nil)))))))) (by omega)
                · have c21 : (z20 : Int) ≠ 0 := c21
                  refine yG.load xik rfl (fun _ _ => rfl) (v := yI (p1)) rfl rfl ?_
                  refine yG.load xak rfl (fun _ _ => rfl) (v := yR 2073) rfl rfl ?_
                  refine yG.getI A_h2.1 (w_M_shortPlace W H_2073) rfl rfl (fun z22 e_z22 i_z22 l_z22 u_z22 => ?_)
                  refine yG.icmp rfl (t := 176) rfl ⟨by omega, by omega⟩ ⟨by omega, by omega⟩ (fun c23 => ?_) (fun c23 => ?_)
                  · have c23 : (p1 : Int) ≠ z22 := c23
                    exact yG.mono (yG.sub (i_176 (z14) (z17) (z18) (z19) (1)  h2 A_h2 M_bRg_h2   (by omega) (by omega) (by omega) (by omega) (by omega) (by omega) (by omega) (by omega) (by omega) (by omega) (by omega) (by omega) (by omega) (by omega) (by omega) (by omega) (by omega) (by omega) (by omega) (by omega)) (ySub.cons rfl (ySub.cons rfl (ySub.cons rfl (ySub.cons rfl (ySub.cons rfl (ySub.cons rfl (ySub.nil)))))))) (by omega)
                  · have c23 : (p1 : Int) = z22 := c23
                    refine yG.load xik rfl (fun _ _ => rfl) (v := yI (p2)) rfl rfl ?_
                    refine yG.ifz rfl (t := 140) rfl ⟨by omega, by omega⟩ (fun c24 => ?_) (fun c24 => ?_)
                    · have c24 : (p2 : Int) ≠ 0 := c24
                      refine yG.num (c := 16) rfl (fun _ _ => rfl) (by decide) ?_
                      refine yG.load xak rfl (fun _ _ => rfl) (v := yR 2073) rfl rfl ?_
                      refine yG.getI A_h2.1 (w_M_shortK W H_2073) rfl rfl (fun z25 e_z25 i_z25 l_z25 u_z25 => ?_)
                      refine yG.isub rfl ?_
                      obtain ⟨z26, e_z26⟩ : ∃ z : Int, z = 16 - z25 := ⟨_, rfl⟩
                      rw [← e_z26]
                      refine yG.store1 xik (L' := [(11, yI (z26)), (9, yJ (1)), (7, yJ (z19)), (5, yJ (z18)), (4, yI (z17)), (3, yI (z14)), (0, yR 2073), (1, yI (p1)), (2, yI (p2))]) rfl (fun _ _ => rfl) rfl rfl ?_
                      refine yG.load xak rfl (fun _ _ => rfl) (v := yR 2073) rfl rfl ?_
                      refine yG.getI A_h2.1 (w_M_nodes W H_2073) rfl rfl (fun z27 e_z27 i_z27 l_z27 u_z27 => ?_)
                      refine yG.store1 xik (L' := [(4, yI (z27)), (11, yI (z26)), (9, yJ (1)), (7, yJ (z19)), (5, yJ (z18)), (3, yI (z14)), (0, yR 2073), (1, yI (p1)), (2, yI (p2))]) rfl (fun _ _ => rfl) rfl rfl ?_
                      refine yG.load xlk2 rfl (fun _ _ => rfl) (v := yJ (z18)) rfl rfl ?_
                      refine yG.load xik rfl (fun _ _ => rfl) (v := yI (z26)) rfl rfl ?_
                      refine yG.i2l rfl ⟨by omega, by omega⟩ ?_
                      refine yG.lmul rfl ?_
                      obtain ⟨z28, e_z28⟩ : ∃ z : Int, z = z18 * z26 := ⟨_, rfl⟩
                      rw [← e_z28]
                      have b_z28 : 0 ≤ z28 ∧ z28 ≤ 1584 := e_z28 ▸ ymulb (A := 99) (B := 16) (by omega) (by omega) (by omega) (by omega) (by decide)
                      have b2_z28 : z28 ≤ 99 * z26 := e_z28 ▸ bmulx (by omega) (by omega)
                      have b3_z28 : z28 ≤ 16 * z18 := e_z28 ▸ bmuly (by omega) (by omega)
                      refine yG.store2 xlk2 (L' := [(5, yJ (z28)), (4, yI (z27)), (11, yI (z26)), (9, yJ (1)), (7, yJ (z19)), (3, yI (z14)), (0, yR 2073), (1, yI (p1)), (2, yI (p2))]) rfl (fun _ _ => rfl) rfl rfl ?_
                      refine yG.load xlk2 rfl (fun _ _ => rfl) (v := yJ (z19)) rfl rfl ?_
                      refine yG.load xik rfl (fun _ _ => rfl) (v := yI (z26)) rfl rfl ?_
                      refine yG.i2l rfl ⟨by omega, by omega⟩ ?_
                      refine yG.lmul rfl ?_
                      obtain ⟨z29, e_z29⟩ : ∃ z : Int, z = z19 * z26 := ⟨_, rfl⟩
                      rw [← e_z29]
                      have b_z29 : 0 ≤ z29 ∧ z29 ≤ 4784 := e_z29 ▸ ymulb (A := 299) (B := 16) (by omega) (by omega) (by omega) (by omega) (by decide)
                      have b2_z29 : z29 ≤ 299 * z26 := e_z29 ▸ bmulx (by omega) (by omega)
                      have b3_z29 : z29 ≤ 16 * z19 := e_z29 ▸ bmuly (by omega) (by omega)
                      refine yG.store2 xlk2 (L' := [(7, yJ (z29)), (5, yJ (z28)), (4, yI (z27)), (11, yI (z26)), (9, yJ (1)), (3, yI (z14)), (0, yR 2073), (1, yI (p1)), (2, yI (p2))]) rfl (fun _ _ => rfl) rfl rfl ?_
                      refine yG.numl (c := 16) rfl (fun _ _ => rfl) (by decide) ?_
                      refine yG.store2 xlk2 (L' := [(9, yJ (16)), (7, yJ (z29)), (5, yJ (z28)), (4, yI (z27)), (11, yI (z26)), (3, yI (z14)), (0, yR 2073), (1, yI (p1)), (2, yI (p2))]) rfl (fun _ _ => rfl) rfl rfl ?_
                      exact yG.mono (yG.sub (i_176 (z14) (z27) (z28) (z29) (16)  h2 A_h2 M_bRg_h2   (by omega) (by omega) (by omega) (by omega) (by omega) (by omega) (by omega) (by omega) (by omega) (by omega) (by omega) (by omega) (by omega) (by omega) (by omega) (by omega) (by omega) (by omega) (by omega) (by omega)) (ySub.cons rfl (ySub.cons rfl (ySub.cons rfl (ySub.cons rfl (ySub.cons rfl (ySub.cons rfl (ySub.nil)))))))) (by omega)
                    · have c24 : (p2 : Int) = 0 := c24
                      refine yG.load xak rfl (fun _ _ => rfl) (v := yR 2073) rfl rfl ?_
                      refine yG.getI A_h2.1 (w_M_shortK W H_2073) rfl rfl (fun z30 e_z30 i_z30 l_z30 u_z30 => ?_)
                      refine yG.goto rfl (t := 147) rfl ?_
                      refine yG.store1 xik (L' := [(11, yI (z30)), (9, yJ (1)), (7, yJ (z19)), (5, yJ (z18)), (4, yI (z17)), (3, yI (z14)), (0, yR 2073), (1, yI (p1)), (2, yI (p2))]) rfl (fun _ _ => rfl) rfl rfl ?_
                      refine yG.load xak rfl (fun _ _ => rfl) (v := yR 2073) rfl rfl ?_
                      refine yG.getI A_h2.1 (w_M_nodes W H_2073) rfl rfl (fun z31 e_z31 i_z31 l_z31 u_z31 => ?_)
                      refine yG.store1 xik (L' := [(4, yI (z31)), (11, yI (z30)), (9, yJ (1)), (7, yJ (z19)), (5, yJ (z18)), (3, yI (z14)), (0, yR 2073), (1, yI (p1)), (2, yI (p2))]) rfl (fun _ _ => rfl) rfl rfl ?_
                      refine yG.load xlk2 rfl (fun _ _ => rfl) (v := yJ (z18)) rfl rfl ?_
                      refine yG.load xik rfl (fun _ _ => rfl) (v := yI (z30)) rfl rfl ?_
                      refine yG.i2l rfl ⟨by omega, by omega⟩ ?_
                      refine yG.lmul rfl ?_
                      obtain ⟨z32, e_z32⟩ : ∃ z : Int, z = z18 * z30 := ⟨_, rfl⟩
                      rw [← e_z32]
                      have b_z32 : 0 ≤ z32 ∧ z32 ≤ 1485 := e_z32 ▸ ymulb (A := 99) (B := 15) (by omega) (by omega) (by omega) (by omega) (by decide)
                      have b2_z32 : z32 ≤ 99 * z30 := e_z32 ▸ bmulx (by omega) (by omega)
                      have b3_z32 : z32 ≤ 15 * z18 := e_z32 ▸ bmuly (by omega) (by omega)
                      refine yG.store2 xlk2 (L' := [(5, yJ (z32)), (4, yI (z31)), (11, yI (z30)), (9, yJ (1)), (7, yJ (z19)), (3, yI (z14)), (0, yR 2073), (1, yI (p1)), (2, yI (p2))]) rfl (fun _ _ => rfl) rfl rfl ?_
                      refine yG.load xlk2 rfl (fun _ _ => rfl) (v := yJ (z19)) rfl rfl ?_
                      refine yG.load xik rfl (fun _ _ => rfl) (v := yI (z30)) rfl rfl ?_
                      refine yG.i2l rfl ⟨by omega, by omega⟩ ?_
                      refine yG.lmul rfl ?_
                      obtain ⟨z33, e_z33⟩ : ∃ z : Int, z = z19 * z30 := ⟨_, rfl⟩
                      rw [← e_z33]
                      have b_z33 : 0 ≤ z33 ∧ z33 ≤ 4485 := e_z33 ▸ ymulb (A := 299) (B := 15) (by omega) (by omega) (by omega) (by omega) (by decide)
                      have b2_z33 : z33 ≤ 299 * z30 := e_z33 ▸ bmulx (by omega) (by omega)
                      have b3_z33 : z33 ≤ 15 * z19 := e_z33 ▸ bmuly (by omega) (by omega)
                      refine yG.store2 xlk2 (L' := [(7, yJ (z33)), (5, yJ (z32)), (4, yI (z31)), (11, yI (z30)), (9, yJ (1)), (3, yI (z14)), (0, yR 2073), (1, yI (p1)), (2, yI (p2))]) rfl (fun _ _ => rfl) rfl rfl ?_
                      refine yG.numl (c := 16) rfl (fun _ _ => rfl) (by decide) ?_
                      refine yG.store2 xlk2 (L' := [(9, yJ (16)), (7, yJ (z33)), (5, yJ (z32)), (4, yI (z31)), (11, yI (z30)), (3, yI (z14)), (0, yR 2073), (1, yI (p1)), (2, yI (p2))]) rfl (fun _ _ => rfl) rfl rfl ?_
                      exact yG.mono (yG.sub (i_176 (z14) (z31) (z32) (z33) (16)  h2 A_h2 M_bRg_h2   (by omega) (by omega) (by omega) (by omega) (by omega) (by omega) (by omega) (by omega) (by omega) (by omega) (by omega) (by omega) (by omega) (by omega) (by omega) (by omega) (by omega) (by omega) (by omega) (by omega)) (ySub.cons rfl (ySub.cons rfl (ySub.cons rfl (ySub.cons rfl (ySub.cons rfl (ySub.cons rfl (ySub.nil)))))))) (by omega)
              · have c10 : (z8 : Int) ≠ z9 := c10
                refine yG.ret rfl (fun _ _ => rfl) ?_
                exact (yP.void ⟨⟨⟨rfl, trivial⟩, A_h2⟩, M_bRg_h2⟩)
        · have c1 : (a3 : Int) < 3 := c1
          refine yG.load xak rfl (fun _ _ => rfl) (v := yR 2073) rfl rfl ?_
          refine yG.num (c := 204) rfl (fun _ _ => rfl) (by decide) ?_
          refine yG.load xik rfl (fun _ _ => rfl) (v := yI (a3)) rfl rfl ?_
          refine yG.iadd rfl ?_
          refine yG.numl (c := 0) rfl (fun _ _ => rfl) (by decide) ?_
          refine yG.invV (rest := []) A_hq.1 (bOb (d_M W) H_2073) rfl rfl rfl rfl (r_put W (d + 2) A_hq.1 M_bRg_hq H_2073 (r := (204 + a3)) (v := (0)) (x := 0) ⟨by omega, by omega⟩ (yEb (c := 1) (by decide) (by omega) (by omega)) (by decide) (bTb_ge (a := 204) (b := 207) (by decide) (by omega) (by omega))) (fun rv h34 q9 => ?_)
          obtain ⟨rfl, B_h34, M_bRg_h34, Y_h34, V_h34, S_h34⟩ := q9
          have P_h34 : 0 ≤ yval h34 (204 + a3 : Int).toNat := by rw [V_h34]; omega
          have A_h34 := A_hq.tr B_h34 (by decide)
          show yG _ _ _ _ _ _ _ _ _ _ [] _
          refine yG.iinc rfl (a := a3) rfl (L' := [(3, yI (a3 + 1)), (0, yR 2073), (1, yI (p1)), (2, yI (p2))]) rfl ?_
          refine yG.goto rfl (t := 2) rfl ?_
          exact yG.mono (yG.sub (i_2 (a3 + 1)  h34 A_h34 M_bRg_h34   (by omega) (by omega) (by omega) (by omega) (by omega) (by omega) (by omega)) (ySub.cons rfl (ySub.cons rfl (ySub.cons rfl (ySub.cons rfl (ySub.nil)))))) (by omega)
      · intro a3 a4 a5 a7 a9 hq A_hq M_bRg_hq f0 f1 f2 f3 f4 f5 f6 f7 f8 f9 f10 f11 f12 f13 f14 f15 f16 f17 f18 hm
        refine yG.mono (N := 90 * m + 90) ?_ (by omega)
        refine yG.load xak rfl (fun _ _ => rfl) (v := yR 2073) rfl rfl ?_
        refine yG.num (c := 212) rfl (fun _ _ => rfl) (by decide) ?_
        refine yG.num (c := 150) rfl (fun _ _ => rfl) (by decide) ?_
        refine yG.load xik rfl (fun _ _ => rfl) (v := yI (a4)) rfl rfl ?_
        refine yG.iadd rfl ?_
        refine yG.num (c := 150) rfl (fun _ _ => rfl) (by decide) ?_
        refine yG.load xik rfl (fun _ _ => rfl) (v := yI (a3)) rfl rfl ?_
        refine yG.iadd rfl ?_
        refine yG.num (c := -1) rfl (fun _ _ => rfl) (by decide) ?_
        refine yG.invV (rest := []) A_hq.1 (bOb (d_M W) H_2073) rfl rfl rfl rfl (r_plus W (d + 1) A_hq.1 M_bRg_hq H_2073 (r := (212)) (p := (150 + a4)) (q := (150 + a3)) (t := ((-1))) (x := 310) ⟨by omega, by omega⟩ ⟨by omega, by omega⟩ ⟨by omega, by omega⟩ (by omega) (M_bRg_hq.at (x := 310) (a := 150) (b := 167) (by decide) (by omega) (by omega) (by decide)) (M_bRg_hq.at (x := 310) (a := 150) (b := 166) (by decide) (by omega) (by omega) (by decide)) (by decide) (bTb_ge (a := 212) (b := 213) (by decide) (by omega) (by omega))) (fun rv h1 q9 => ?_)
        obtain ⟨rfl, B_h1, M_bRg_h1, Y_h1, V_h1, S_h1⟩ := q9
        have A_h1 := A_hq.tr B_h1 (by decide)
        show yG _ _ _ _ _ _ _ _ _ _ [] _
        refine yG.load xak rfl (fun _ _ => rfl) (v := yR 2073) rfl rfl ?_
        refine yG.num (c := 213) rfl (fun _ _ => rfl) (by decide) ?_
        refine yG.num (c := 167) rfl (fun _ _ => rfl) (by decide) ?_
        refine yG.load xik rfl (fun _ _ => rfl) (v := yI (a4)) rfl rfl ?_
        refine yG.iadd rfl ?_
        refine yG.num (c := 167) rfl (fun _ _ => rfl) (by decide) ?_
        refine yG.load xik rfl (fun _ _ => rfl) (v := yI (a3)) rfl rfl ?_
        refine yG.iadd rfl ?_
        refine yG.num (c := -1) rfl (fun _ _ => rfl) (by decide) ?_
        refine yG.invV (rest := []) A_h1.1 (bOb (d_M W) H_2073) rfl rfl rfl rfl (r_plus W (d + 1) A_h1.1 M_bRg_h1 H_2073 (r := (213)) (p := (167 + a4)) (q := (167 + a3)) (t := ((-1))) (x := 310) ⟨by omega, by omega⟩ ⟨by omega, by omega⟩ ⟨by omega, by omega⟩ (by omega) (M_bRg_h1.at (x := 310) (a := 167) (b := 184) (by decide) (by omega) (by omega) (by decide)) (M_bRg_h1.at (x := 310) (a := 167) (b := 183) (by decide) (by omega) (by omega) (by decide)) (by decide) (bTb_ge (a := 213) (b := 214) (by decide) (by omega) (by omega))) (fun rv h2 q9 => ?_)
        obtain ⟨rfl, B_h2, M_bRg_h2, Y_h2, V_h2, S_h2⟩ := q9
        have A_h2 := A_h1.tr B_h2 (by decide)
        show yG _ _ _ _ _ _ _ _ _ _ [] _
        refine yG.load xak rfl (fun _ _ => rfl) (v := yR 2073) rfl rfl ?_
        refine yG.num (c := 212) rfl (fun _ _ => rfl) (by decide) ?_
        refine yG.num (c := 212) rfl (fun _ _ => rfl) (by decide) ?_
        refine yG.load xlk2 rfl (fun _ _ => rfl) (v := yJ (a9)) rfl rfl ?_
        refine yG.load xlk2 rfl (fun _ _ => rfl) (v := yJ (a7)) rfl rfl ?_
        refine yG.lmul rfl ?_
        obtain ⟨z3, e_z3⟩ : ∃ z : Int, z = a9 * a7 := ⟨_, rfl⟩
        rw [← e_z3]
        have b_z3 : 0 ≤ z3 ∧ z3 ≤ 76544 := e_z3 ▸ ymulb (A := 16) (B := 4784) (by omega) (by omega) (by omega) (by omega) (by decide)
        have b2_z3 : z3 ≤ 16 * a7 := e_z3 ▸ bmulx (by omega) (by omega)
        have b3_z3 : z3 ≤ 4784 * a9 := e_z3 ▸ bmuly (by omega) (by omega)
        refine yG.invV (rest := []) A_h2.1 (bOb (d_M W) H_2073) rfl rfl rfl rfl (r_scale W (d + 1) A_h2.1 M_bRg_h2 H_2073 (r := (212)) (p := (212)) (v := (z3)) (y := 17) ⟨by omega, by omega⟩ ⟨by omega, by omega⟩ (by omega) (Y_h1.same W.y A_h1.1 (by decide) (S_h2 212 (by omega) trivial)) (yEb (c := 131072) (by decide) (by omega) (by omega)) (by decide) (by decide) (bTb_ge (a := 212) (b := 213) (by decide) (by omega) (by omega))) (fun rv h4 q9 => ?_)
        obtain ⟨rfl, B_h4, M_bRg_h4, Y_h4, V_h4, S_h4⟩ := q9
        have A_h4 := A_h2.tr B_h4 (by decide)
        show yG _ _ _ _ _ _ _ _ _ _ [] _
        refine yG.load xak rfl (fun _ _ => rfl) (v := yR 2073) rfl rfl ?_
        refine yG.num (c := 213) rfl (fun _ _ => rfl) (by decide) ?_
        refine yG.num (c := 213) rfl (fun _ _ => rfl) (by decide) ?_
        refine yG.load xlk2 rfl (fun _ _ => rfl) (v := yJ (a9)) rfl rfl ?_
        refine yG.load xlk2 rfl (fun _ _ => rfl) (v := yJ (a5)) rfl rfl ?_
        refine yG.lmul rfl ?_
        obtain ⟨z5, e_z5⟩ : ∃ z : Int, z = a9 * a5 := ⟨_, rfl⟩
        rw [← e_z5]
        have b_z5 : 0 ≤ z5 ∧ z5 ≤ 25344 := e_z5 ▸ ymulb (A := 16) (B := 1584) (by omega) (by omega) (by omega) (by omega) (by decide)
        have b2_z5 : z5 ≤ 16 * a5 := e_z5 ▸ bmulx (by omega) (by omega)
        have b3_z5 : z5 ≤ 1584 * a9 := e_z5 ▸ bmuly (by omega) (by omega)
        refine yG.invV (rest := []) A_h4.1 (bOb (d_M W) H_2073) rfl rfl rfl rfl (r_scale W (d + 1) A_h4.1 M_bRg_h4 H_2073 (r := (213)) (p := (213)) (v := (z5)) (y := 15) ⟨by omega, by omega⟩ ⟨by omega, by omega⟩ (by omega) (Y_h2.same W.y A_h2.1 (by decide) (S_h4 213 (by omega) (by decide))) (yEb (c := 32768) (by decide) (by omega) (by omega)) (by decide) (by decide) (bTb_ge (a := 213) (b := 214) (by decide) (by omega) (by omega))) (fun rv h6 q9 => ?_)
        obtain ⟨rfl, B_h6, M_bRg_h6, Y_h6, V_h6, S_h6⟩ := q9
        have A_h6 := A_h4.tr B_h6 (by decide)
        show yG _ _ _ _ _ _ _ _ _ _ [] _
        refine yG.load xak rfl (fun _ _ => rfl) (v := yR 2073) rfl rfl ?_
        refine yG.num (c := 212) rfl (fun _ _ => rfl) (by decide) ?_
        refine yG.num (c := 212) rfl (fun _ _ => rfl) (by decide) ?_
        refine yG.num (c := 149) rfl (fun _ _ => rfl) (by decide) ?_
        refine yG.invV (rest := []) A_h6.1 (bOb (d_M W) H_2073) rfl rfl rfl rfl (r_times W (d + 2) A_h6.1 M_bRg_h6 H_2073 (r := (212)) (p := (212)) (q := (149)) ⟨by omega, by omega⟩ ⟨by omega, by omega⟩ ⟨by omega, by omega⟩ (Y_h4.same W.y A_h4.1 (by decide) (S_h6 212 (by omega) (by decide))) (M_bRg_h6.at (x := 310) (a := 149) (b := 150) (by decide) (by omega) (by omega) (by decide)) (by decide) (bTb_ge (a := 212) (b := 213) (by decide) (by omega) (by omega))) (fun rv h7 q9 => ?_)
        obtain ⟨rfl, B_h7, M_bRg_h7, Y_h7, V_h7, S_h7⟩ := q9
        have A_h7 := A_h6.tr B_h7 (by decide)
        show yG _ _ _ _ _ _ _ _ _ _ [] _
        refine yG.load xak rfl (fun _ _ => rfl) (v := yR 2073) rfl rfl ?_
        refine yG.num (c := 213) rfl (fun _ _ => rfl) (by decide) ?_
        refine yG.num (c := 213) rfl (fun _ _ => rfl) (by decide) ?_
        refine yG.num (c := 148) rfl (fun _ _ => rfl) (by decide) ?_
        refine yG.invV (rest := []) A_h7.1 (bOb (d_M W) H_2073) rfl rfl rfl rfl (r_times W (d + 2) A_h7.1 M_bRg_h7 H_2073 (r := (213)) (p := (213)) (q := (148)) ⟨by omega, by omega⟩ ⟨by omega, by omega⟩ ⟨by omega, by omega⟩ (Y_h6.same W.y A_h6.1 (by decide) (S_h7 213 (by omega) trivial)) (M_bRg_h7.at (x := 310) (a := 148) (b := 149) (by decide) (by omega) (by omega) (by decide)) (by decide) (bTb_ge (a := 213) (b := 214) (by decide) (by omega) (by omega))) (fun rv h8 q9 => ?_)
        obtain ⟨rfl, B_h8, M_bRg_h8, Y_h8, V_h8, S_h8⟩ := q9
        have A_h8 := A_h7.tr B_h8 (by decide)
        show yG _ _ _ _ _ _ _ _ _ _ [] _
        refine yG.load xak rfl (fun _ _ => rfl) (v := yR 2073) rfl rfl ?_
        refine yG.num (c := 204) rfl (fun _ _ => rfl) (by decide) ?_
        refine yG.num (c := 213) rfl (fun _ _ => rfl) (by decide) ?_
        refine yG.num (c := 184) rfl (fun _ _ => rfl) (by decide) ?_
        refine yG.invV (rest := []) A_h8.1 (bOb (d_M W) H_2073) rfl rfl rfl rfl (r_times W (d + 2) A_h8.1 M_bRg_h8 H_2073 (r := (204)) (p := (213)) (q := (184)) ⟨by omega, by omega⟩ ⟨by omega, by omega⟩ ⟨by omega, by omega⟩ Y_h8 (M_bRg_h8.at (x := 960) (a := 184) (b := 185) (by decide) (by omega) (by omega) (by decide)) (by decide) (bTb_ge (a := 204) (b := 205) (by decide) (by omega) (by omega))) (fun rv h9 q9 => ?_)
        obtain ⟨rfl, B_h9, M_bRg_h9, Y_h9, V_h9, S_h9⟩ := q9
        have A_h9 := A_h8.tr B_h9 (by decide)
        show yG _ _ _ _ _ _ _ _ _ _ [] _
        refine yG.load xak rfl (fun _ _ => rfl) (v := yR 2073) rfl rfl ?_
        refine yG.num (c := 205) rfl (fun _ _ => rfl) (by decide) ?_
        refine yG.num (c := 212) rfl (fun _ _ => rfl) (by decide) ?_
        refine yG.num (c := 185) rfl (fun _ _ => rfl) (by decide) ?_
        refine yG.invV (rest := []) A_h9.1 (bOb (d_M W) H_2073) rfl rfl rfl rfl (r_times W (d + 2) A_h9.1 M_bRg_h9 H_2073 (r := (205)) (p := (212)) (q := (185)) ⟨by omega, by omega⟩ ⟨by omega, by omega⟩ ⟨by omega, by omega⟩ ((Y_h7.same W.y A_h7.1 (by decide) (S_h8 212 (by omega) trivial)).same W.y A_h8.1 (by decide) (S_h9 212 (by omega) trivial)) (M_bRg_h9.at (x := 960) (a := 185) (b := 186) (by decide) (by omega) (by omega) (by decide)) (by decide) (bTb_ge (a := 205) (b := 206) (by decide) (by omega) (by omega))) (fun rv h10 q9 => ?_)
        obtain ⟨rfl, B_h10, M_bRg_h10, Y_h10, V_h10, S_h10⟩ := q9
        have A_h10 := A_h9.tr B_h10 (by decide)
        show yG _ _ _ _ _ _ _ _ _ _ [] _
        refine yG.load xak rfl (fun _ _ => rfl) (v := yR 2073) rfl rfl ?_
        refine yG.num (c := 206) rfl (fun _ _ => rfl) (by decide) ?_
        refine yG.num (c := 212) rfl (fun _ _ => rfl) (by decide) ?_
        refine yG.num (c := 186) rfl (fun _ _ => rfl) (by decide) ?_
        refine yG.invV (rest := []) A_h10.1 (bOb (d_M W) H_2073) rfl rfl rfl rfl (r_times W (d + 2) A_h10.1 M_bRg_h10 H_2073 (r := (206)) (p := (212)) (q := (186)) ⟨by omega, by omega⟩ ⟨by omega, by omega⟩ ⟨by omega, by omega⟩ (((Y_h7.same W.y A_h7.1 (by decide) (S_h8 212 (by omega) trivial)).same W.y A_h8.1 (by decide) (S_h9 212 (by omega) trivial)).same W.y A_h9.1 (by decide) (S_h10 212 (by omega) trivial)) (M_bRg_h10.at (x := 960) (a := 186) (b := 187) (by decide) (by omega) (by omega) (by decide)) (by decide) (bTb_ge (a := 206) (b := 207) (by decide) (by omega) (by omega))) (fun rv h11 q9 => ?_)
        obtain ⟨rfl, B_h11, M_bRg_h11, Y_h11, V_h11, S_h11⟩ := q9
        have A_h11 := A_h10.tr B_h11 (by decide)
        show yG _ _ _ _ _ _ _ _ _ _ [] _
        refine yG.load xak rfl (fun _ _ => rfl) (v := yR 2073) rfl rfl ?_
        refine yG.num (c := 212) rfl (fun _ _ => rfl) (by decide) ?_
        refine yG.num (c := 148) rfl (fun _ _ => rfl) (by decide) ?_
        refine yG.num (c := 149) rfl (fun _ _ => rfl) (by decide) ?_
        refine yG.invV (rest := []) A_h11.1 (bOb (d_M W) H_2073) rfl rfl rfl rfl (r_times W (d + 2) A_h11.1 M_bRg_h11 H_2073 (r := (212)) (p := (148)) (q := (149)) ⟨by omega, by omega⟩ ⟨by omega, by omega⟩ ⟨by omega, by omega⟩ (M_bRg_h11.at (x := 310) (a := 148) (b := 149) (by decide) (by omega) (by omega) (by decide)) (M_bRg_h11.at (x := 310) (a := 149) (b := 150) (by decide) (by omega) (by omega) (by decide)) (by decide) (bTb_ge (a := 212) (b := 213) (by decide) (by omega) (by omega))) (fun rv h12 q9 => ?_)
        obtain ⟨rfl, B_h12, M_bRg_h12, Y_h12, V_h12, S_h12⟩ := q9
        have A_h12 := A_h11.tr B_h12 (by decide)
        show yG _ _ _ _ _ _ _ _ _ _ [] _
        refine yG.load xak rfl (fun _ _ => rfl) (v := yR 2073) rfl rfl ?_
        refine yG.num (c := 212) rfl (fun _ _ => rfl) (by decide) ?_
        refine yG.num (c := 212) rfl (fun _ _ => rfl) (by decide) ?_
        refine yG.num (c := 187) rfl (fun _ _ => rfl) (by decide) ?_
        refine yG.invV (rest := []) A_h12.1 (bOb (d_M W) H_2073) rfl rfl rfl rfl (r_times W (d + 2) A_h12.1 M_bRg_h12 H_2073 (r := (212)) (p := (212)) (q := (187)) ⟨by omega, by omega⟩ ⟨by omega, by omega⟩ ⟨by omega, by omega⟩ Y_h12 (M_bRg_h12.at (x := 960) (a := 187) (b := 188) (by decide) (by omega) (by omega) (by decide)) (by decide) (bTb_ge (a := 212) (b := 213) (by decide) (by omega) (by omega))) (fun rv h13 q9 => ?_)
        obtain ⟨rfl, B_h13, M_bRg_h13, Y_h13, V_h13, S_h13⟩ := q9
        have A_h13 := A_h12.tr B_h13 (by decide)
        show yG _ _ _ _ _ _ _ _ _ _ [] _
        refine yG.load xak rfl (fun _ _ => rfl) (v := yR 2073) rfl rfl ?_
        refine yG.num (c := 207) rfl (fun _ _ => rfl) (by decide) ?_
        refine yG.num (c := 212) rfl (fun _ _ => rfl) (by decide) ?_
        refine yG.load xlk2 rfl (fun _ _ => rfl) (v := yJ (a5)) rfl rfl ?_
        refine yG.load xlk2 rfl (fun _ _ => rfl) (v := yJ (a7)) rfl rfl ?_
        refine yG.lmul rfl ?_
        obtain ⟨z14, e_z14⟩ : ∃ z : Int, z = a5 * a7 := ⟨_, rfl⟩
        rw [← e_z14]
        have b_z14 : 0 ≤ z14 ∧ z14 ≤ 7577856 := e_z14 ▸ ymulb (A := 1584) (B := 4784) (by omega) (by omega) (by omega) (by omega) (by decide)
        have b2_z14 : z14 ≤ 1584 * a7 := e_z14 ▸ bmulx (by omega) (by omega)
        have b3_z14 : z14 ≤ 4784 * a5 := e_z14 ▸ bmuly (by omega) (by omega)
        refine yG.invV (rest := []) A_h13.1 (bOb (d_M W) H_2073) rfl rfl rfl rfl (r_scale W (d + 1) A_h13.1 M_bRg_h13 H_2073 (r := (207)) (p := (212)) (v := (z14)) (y := 23) ⟨by omega, by omega⟩ ⟨by omega, by omega⟩ (by omega) Y_h13 (yEb (c := 8388608) (by decide) (by omega) (by omega)) (by decide) (by decide) (bTb_ge (a := 207) (b := 208) (by decide) (by omega) (by omega))) (fun rv h15 q9 => ?_)
        obtain ⟨rfl, B_h15, M_bRg_h15, Y_h15, V_h15, S_h15⟩ := q9
        have A_h15 := A_h13.tr B_h15 (by decide)
        show yG _ _ _ _ _ _ _ _ _ _ [] _
        refine yG.ret rfl (fun _ _ => rfl) ?_
        exact (yP.void ⟨⟨⟨rfl, trivial⟩, A_h15⟩, M_bRg_h15⟩)
  refine yC.of (M := (xt_X13_currentsInto, (12, (0, (14, []))))) rfl rfl (N := 1260) (yfuel (by decide)) ?_
  show yG 89 xfts (xcall 89 xfts xpools xms (d + 3)) (xpool xp_RX13) [] xt_X13_currentsInto (yP 0 (fun rv hp' => (fun rv hp' => (rv = none ∧ True) ∧ bAx G [(10467670466806212499117480599707713536, 256)] hp hp') rv hp' ∧ bRg G hp')) 1260 0 [(0, yR 2073), (1, yI (p1)), (2, yI (p2))] [] hp
  obtain ⟨i_2, i_176⟩ := H 13
  refine yG.num (c := 0) rfl (fun _ _ => rfl) (by decide) ?_
  refine yG.store1 xik (L' := [(3, yI (0)), (0, yR 2073), (1, yI (p1)), (2, yI (p2))]) rfl (fun _ _ => rfl) rfl rfl ?_
  exact yG.mono (yG.sub (i_2 (0)  hp A_hp M_bRg_hp   (by omega) (by omega) (by omega) (by omega) (by omega) (by omega) (by omega)) (ySub.cons rfl (ySub.cons rfl (ySub.cons rfl (ySub.cons rfl (ySub.nil)))))) (by omega)
theorem c_GModel_squareA_U {hp : xH} (W : mW G) (d : Nat) (hT : zTy G hp) (M_bRg : bRg G hp) (H_2073 : bRo G 116 2073) : yC (xcall 89 xfts xpools xms (d + 3)) 519 [yR 2073, yI (208), yI (209)] hp (fun rv hp' => (fun rv hp' => (rv = none ∧ True) ∧ bAx G [(10467670466806212499117480599707713536, 256)] hp hp') rv hp' ∧ bRg G hp') := by
  have A_hp : bAx G [(10467670466806212499117480599707713536, 256)] hp hp := bAx.rf hT
  have M_bRg_hp := M_bRg
  refine yC.of (M := (xt_X13_squareA, (3, (0, (14, []))))) rfl rfl (N := 75) (yfuel (by decide)) ?_
  show yG 89 xfts (xcall 89 xfts xpools xms (d + 2)) (xpool xp_RX13) [] xt_X13_squareA (yP 0 (fun rv hp' => (fun rv hp' => (rv = none ∧ True) ∧ bAx G [(10467670466806212499117480599707713536, 256)] hp hp') rv hp' ∧ bRg G hp')) 75 0 [(0, yR 2073), (1, yI (208)), (2, yI (209))] [] hp
  refine yG.load xak rfl (fun _ _ => rfl) (v := yR 2073) rfl rfl ?_
  refine yG.num (c := 212) rfl (fun _ _ => rfl) (by decide) ?_
  refine yG.num (c := 204) rfl (fun _ _ => rfl) (by decide) ?_
  refine yG.num (c := 205) rfl (fun _ _ => rfl) (by decide) ?_
  refine yG.num (c := 1) rfl (fun _ _ => rfl) (by decide) ?_
  refine yG.invV (rest := []) A_hp.1 (bOb (d_M W) H_2073) rfl rfl rfl rfl (r_plus W d A_hp.1 M_bRg_hp H_2073 (r := (212)) (p := (204)) (q := (205)) (t := (1)) (x := 1610) ⟨by omega, by omega⟩ ⟨by omega, by omega⟩ ⟨by omega, by omega⟩ (by omega) (M_bRg_hp.at (x := 1610) (a := 204) (b := 205) (by decide) (by omega) (by omega) (by decide)) (M_bRg_hp.at (x := 1610) (a := 205) (b := 206) (by decide) (by omega) (by omega) (by decide)) (by decide) (bTb_ge (a := 212) (b := 213) (by decide) (by omega) (by omega))) (fun rv h1 q9 => ?_)
  obtain ⟨rfl, B_h1, M_bRg_h1, Y_h1, V_h1, S_h1⟩ := q9
  have A_h1 := A_hp.tr B_h1 (by decide)
  show yG _ _ _ _ _ _ _ _ _ _ [] _
  refine yG.load xak rfl (fun _ _ => rfl) (v := yR 2073) rfl rfl ?_
  refine yG.num (c := 212) rfl (fun _ _ => rfl) (by decide) ?_
  refine yG.num (c := 212) rfl (fun _ _ => rfl) (by decide) ?_
  refine yG.num (c := 206) rfl (fun _ _ => rfl) (by decide) ?_
  refine yG.num (c := 1) rfl (fun _ _ => rfl) (by decide) ?_
  refine yG.invV (rest := []) A_h1.1 (bOb (d_M W) H_2073) rfl rfl rfl rfl (r_plus W d A_h1.1 M_bRg_h1 H_2073 (r := (212)) (p := (212)) (q := (206)) (t := (1)) (x := 1611) ⟨by omega, by omega⟩ ⟨by omega, by omega⟩ ⟨by omega, by omega⟩ (by omega) Y_h1 ((M_bRg_h1.at (x := 1610) (a := 206) (b := 207) (by decide) (by omega) (by omega) (by decide)).mono (by decide)) (by decide) (bTb_ge (a := 212) (b := 213) (by decide) (by omega) (by omega))) (fun rv h2 q9 => ?_)
  obtain ⟨rfl, B_h2, M_bRg_h2, Y_h2, V_h2, S_h2⟩ := q9
  have A_h2 := A_h1.tr B_h2 (by decide)
  show yG _ _ _ _ _ _ _ _ _ _ [] _
  refine yG.load xak rfl (fun _ _ => rfl) (v := yR 2073) rfl rfl ?_
  refine yG.load xik rfl (fun _ _ => rfl) (v := yI (208)) rfl rfl ?_
  refine yG.num (c := 212) rfl (fun _ _ => rfl) (by decide) ?_
  refine yG.num (c := 212) rfl (fun _ _ => rfl) (by decide) ?_
  refine yG.invV (rest := []) A_h2.1 (bOb (d_M W) H_2073) rfl rfl rfl rfl (r_times W (d + 1) A_h2.1 M_bRg_h2 H_2073 (r := (208)) (p := (212)) (q := (212)) ⟨by omega, by omega⟩ ⟨by omega, by omega⟩ ⟨by omega, by omega⟩ Y_h2 Y_h2 (by decide) (bTb_ge (a := 208) (b := 209) (by decide) (by omega) (by omega))) (fun rv h3 q9 => ?_)
  obtain ⟨rfl, B_h3, M_bRg_h3, Y_h3, V_h3, S_h3⟩ := q9
  have A_h3 := A_h2.tr B_h3 (by decide)
  show yG _ _ _ _ _ _ _ _ _ _ [] _
  refine yG.load xak rfl (fun _ _ => rfl) (v := yR 2073) rfl rfl ?_
  refine yG.load xik rfl (fun _ _ => rfl) (v := yI (209)) rfl rfl ?_
  refine yG.num (c := 207) rfl (fun _ _ => rfl) (by decide) ?_
  refine yG.num (c := 207) rfl (fun _ _ => rfl) (by decide) ?_
  refine yG.invV (rest := []) A_h3.1 (bOb (d_M W) H_2073) rfl rfl rfl rfl (r_times W (d + 1) A_h3.1 M_bRg_h3 H_2073 (r := (209)) (p := (207)) (q := (207)) ⟨by omega, by omega⟩ ⟨by omega, by omega⟩ ⟨by omega, by omega⟩ (M_bRg_h3.at (x := 1610) (a := 207) (b := 208) (by decide) (by omega) (by omega) (by decide)) (M_bRg_h3.at (x := 1610) (a := 207) (b := 208) (by decide) (by omega) (by omega) (by decide)) (by decide) (bTb_ge (a := 209) (b := 210) (by decide) (by omega) (by omega))) (fun rv h4 q9 => ?_)
  obtain ⟨rfl, B_h4, M_bRg_h4, Y_h4, V_h4, S_h4⟩ := q9
  have A_h4 := A_h3.tr B_h4 (by decide)
  show yG _ _ _ _ _ _ _ _ _ _ [] _
  refine yG.ret rfl (fun _ _ => rfl) ?_
  exact (yP.void ⟨⟨⟨rfl, trivial⟩, A_h4⟩, M_bRg_h4⟩)
theorem c_GModel_squareA_V {hp : xH} (W : mW G) (d : Nat) (hT : zTy G hp) (M_bRg : bRg G hp) (H_2073 : bRo G 116 2073) : yC (xcall 89 xfts xpools xms (d + 3)) 519 [yR 2073, yI (248), yI (255)] hp (fun rv hp' => (fun rv hp' => (rv = none ∧ True) ∧ bAx G [(10467670466806212499117480599707713536, 256)] hp hp') rv hp' ∧ bRg G hp') := by
  have A_hp : bAx G [(10467670466806212499117480599707713536, 256)] hp hp := bAx.rf hT
  have M_bRg_hp := M_bRg
  refine yC.of (M := (xt_X13_squareA, (3, (0, (14, []))))) rfl rfl (N := 75) (yfuel (by decide)) ?_
  show yG 89 xfts (xcall 89 xfts xpools xms (d + 2)) (xpool xp_RX13) [] xt_X13_squareA (yP 0 (fun rv hp' => (fun rv hp' => (rv = none ∧ True) ∧ bAx G [(10467670466806212499117480599707713536, 256)] hp hp') rv hp' ∧ bRg G hp')) 75 0 [(0, yR 2073), (1, yI (248)), (2, yI (255))] [] hp
  refine yG.load xak rfl (fun _ _ => rfl) (v := yR 2073) rfl rfl ?_
  refine yG.num (c := 212) rfl (fun _ _ => rfl) (by decide) ?_
  refine yG.num (c := 204) rfl (fun _ _ => rfl) (by decide) ?_
  refine yG.num (c := 205) rfl (fun _ _ => rfl) (by decide) ?_
  refine yG.num (c := 1) rfl (fun _ _ => rfl) (by decide) ?_
  refine yG.invV (rest := []) A_hp.1 (bOb (d_M W) H_2073) rfl rfl rfl rfl (r_plus W d A_hp.1 M_bRg_hp H_2073 (r := (212)) (p := (204)) (q := (205)) (t := (1)) (x := 1610) ⟨by omega, by omega⟩ ⟨by omega, by omega⟩ ⟨by omega, by omega⟩ (by omega) (M_bRg_hp.at (x := 1610) (a := 204) (b := 205) (by decide) (by omega) (by omega) (by decide)) (M_bRg_hp.at (x := 1610) (a := 205) (b := 206) (by decide) (by omega) (by omega) (by decide)) (by decide) (bTb_ge (a := 212) (b := 213) (by decide) (by omega) (by omega))) (fun rv h1 q9 => ?_)
  obtain ⟨rfl, B_h1, M_bRg_h1, Y_h1, V_h1, S_h1⟩ := q9
  have A_h1 := A_hp.tr B_h1 (by decide)
  show yG _ _ _ _ _ _ _ _ _ _ [] _
  refine yG.load xak rfl (fun _ _ => rfl) (v := yR 2073) rfl rfl ?_
  refine yG.num (c := 212) rfl (fun _ _ => rfl) (by decide) ?_
  refine yG.num (c := 212) rfl (fun _ _ => rfl) (by decide) ?_
  refine yG.num (c := 206) rfl (fun _ _ => rfl) (by decide) ?_
  refine yG.num (c := 1) rfl (fun _ _ => rfl) (by decide) ?_
  refine yG.invV (rest := []) A_h1.1 (bOb (d_M W) H_2073) rfl rfl rfl rfl (r_plus W d A_h1.1 M_bRg_h1 H_2073 (r := (212)) (p := (212)) (q := (206)) (t := (1)) (x := 1611) ⟨by omega, by omega⟩ ⟨by omega, by omega⟩ ⟨by omega, by omega⟩ (by omega) Y_h1 ((M_bRg_h1.at (x := 1610) (a := 206) (b := 207) (by decide) (by omega) (by omega) (by decide)).mono (by decide)) (by decide) (bTb_ge (a := 212) (b := 213) (by decide) (by omega) (by omega))) (fun rv h2 q9 => ?_)
  obtain ⟨rfl, B_h2, M_bRg_h2, Y_h2, V_h2, S_h2⟩ := q9
  have A_h2 := A_h1.tr B_h2 (by decide)
  show yG _ _ _ _ _ _ _ _ _ _ [] _
  refine yG.load xak rfl (fun _ _ => rfl) (v := yR 2073) rfl rfl ?_
  refine yG.load xik rfl (fun _ _ => rfl) (v := yI (248)) rfl rfl ?_
  refine yG.num (c := 212) rfl (fun _ _ => rfl) (by decide) ?_
  refine yG.num (c := 212) rfl (fun _ _ => rfl) (by decide) ?_
  refine yG.invV (rest := []) A_h2.1 (bOb (d_M W) H_2073) rfl rfl rfl rfl (r_times W (d + 1) A_h2.1 M_bRg_h2 H_2073 (r := (248)) (p := (212)) (q := (212)) ⟨by omega, by omega⟩ ⟨by omega, by omega⟩ ⟨by omega, by omega⟩ Y_h2 Y_h2 (by decide) (bTb_ge (a := 248) (b := 249) (by decide) (by omega) (by omega))) (fun rv h3 q9 => ?_)
  obtain ⟨rfl, B_h3, M_bRg_h3, Y_h3, V_h3, S_h3⟩ := q9
  have A_h3 := A_h2.tr B_h3 (by decide)
  show yG _ _ _ _ _ _ _ _ _ _ [] _
  refine yG.load xak rfl (fun _ _ => rfl) (v := yR 2073) rfl rfl ?_
  refine yG.load xik rfl (fun _ _ => rfl) (v := yI (255)) rfl rfl ?_
  refine yG.num (c := 207) rfl (fun _ _ => rfl) (by decide) ?_
  refine yG.num (c := 207) rfl (fun _ _ => rfl) (by decide) ?_
  refine yG.invV (rest := []) A_h3.1 (bOb (d_M W) H_2073) rfl rfl rfl rfl (r_times W (d + 1) A_h3.1 M_bRg_h3 H_2073 (r := (255)) (p := (207)) (q := (207)) ⟨by omega, by omega⟩ ⟨by omega, by omega⟩ ⟨by omega, by omega⟩ (M_bRg_h3.at (x := 1610) (a := 207) (b := 208) (by decide) (by omega) (by omega) (by decide)) (M_bRg_h3.at (x := 1610) (a := 207) (b := 208) (by decide) (by omega) (by omega) (by decide)) (by decide) (bTb_ge (a := 255) (b := 256) (by decide) (by omega) (by omega))) (fun rv h4 q9 => ?_)
  obtain ⟨rfl, B_h4, M_bRg_h4, Y_h4, V_h4, S_h4⟩ := q9
  have A_h4 := A_h3.tr B_h4 (by decide)
  show yG _ _ _ _ _ _ _ _ _ _ [] _
  refine yG.ret rfl (fun _ _ => rfl) ?_
  exact (yP.void ⟨⟨⟨rfl, trivial⟩, A_h4⟩, M_bRg_h4⟩)
theorem c_GModel_squareB_U {hp : xH} (W : mW G) (d : Nat) (hT : zTy G hp) (M_bRg : bRg G hp) (H_2073 : bRo G 116 2073) : yC (xcall 89 xfts xpools xms (d + 3)) 520 [yR 2073, yI (208), yI (209)] hp (fun rv hp' => (fun rv hp' => (rv = none ∧ True) ∧ bAx G [(10467670466806212499117480599707713536, 256)] hp hp') rv hp' ∧ bRg G hp') := by
  have A_hp : bAx G [(10467670466806212499117480599707713536, 256)] hp hp := bAx.rf hT
  have M_bRg_hp := M_bRg
  refine yC.of (M := (xt_X13_squareB, (3, (0, (14, []))))) rfl rfl (N := 174) (yfuel (by decide)) ?_
  show yG 89 xfts (xcall 89 xfts xpools xms (d + 2)) (xpool xp_RX13) [] xt_X13_squareB (yP 0 (fun rv hp' => (fun rv hp' => (rv = none ∧ True) ∧ bAx G [(10467670466806212499117480599707713536, 256)] hp hp') rv hp' ∧ bRg G hp')) 174 0 [(0, yR 2073), (1, yI (208)), (2, yI (209))] [] hp
  refine yG.load xak rfl (fun _ _ => rfl) (v := yR 2073) rfl rfl ?_
  refine yG.num (c := 212) rfl (fun _ _ => rfl) (by decide) ?_
  refine yG.num (c := 205) rfl (fun _ _ => rfl) (by decide) ?_
  refine yG.num (c := 206) rfl (fun _ _ => rfl) (by decide) ?_
  refine yG.num (c := 1) rfl (fun _ _ => rfl) (by decide) ?_
  refine yG.invV (rest := []) A_hp.1 (bOb (d_M W) H_2073) rfl rfl rfl rfl (r_plus W d A_hp.1 M_bRg_hp H_2073 (r := (212)) (p := (205)) (q := (206)) (t := (1)) (x := 1610) ⟨by omega, by omega⟩ ⟨by omega, by omega⟩ ⟨by omega, by omega⟩ (by omega) (M_bRg_hp.at (x := 1610) (a := 205) (b := 206) (by decide) (by omega) (by omega) (by decide)) (M_bRg_hp.at (x := 1610) (a := 206) (b := 207) (by decide) (by omega) (by omega) (by decide)) (by decide) (bTb_ge (a := 212) (b := 213) (by decide) (by omega) (by omega))) (fun rv h1 q9 => ?_)
  obtain ⟨rfl, B_h1, M_bRg_h1, Y_h1, V_h1, S_h1⟩ := q9
  have A_h1 := A_hp.tr B_h1 (by decide)
  show yG _ _ _ _ _ _ _ _ _ _ [] _
  refine yG.load xak rfl (fun _ _ => rfl) (v := yR 2073) rfl rfl ?_
  refine yG.num (c := 213) rfl (fun _ _ => rfl) (by decide) ?_
  refine yG.num (c := 204) rfl (fun _ _ => rfl) (by decide) ?_
  refine yG.num (c := 204) rfl (fun _ _ => rfl) (by decide) ?_
  refine yG.num (c := 1) rfl (fun _ _ => rfl) (by decide) ?_
  refine yG.invV (rest := []) A_h1.1 (bOb (d_M W) H_2073) rfl rfl rfl rfl (r_plus W d A_h1.1 M_bRg_h1 H_2073 (r := (213)) (p := (204)) (q := (204)) (t := (1)) (x := 1610) ⟨by omega, by omega⟩ ⟨by omega, by omega⟩ ⟨by omega, by omega⟩ (by omega) (M_bRg_h1.at (x := 1610) (a := 204) (b := 205) (by decide) (by omega) (by omega) (by decide)) (M_bRg_h1.at (x := 1610) (a := 204) (b := 205) (by decide) (by omega) (by omega) (by decide)) (by decide) (bTb_ge (a := 213) (b := 214) (by decide) (by omega) (by omega))) (fun rv h2 q9 => ?_)
  obtain ⟨rfl, B_h2, M_bRg_h2, Y_h2, V_h2, S_h2⟩ := q9
  have A_h2 := A_h1.tr B_h2 (by decide)
  show yG _ _ _ _ _ _ _ _ _ _ [] _
  refine yG.load xak rfl (fun _ _ => rfl) (v := yR 2073) rfl rfl ?_
  refine yG.num (c := 212) rfl (fun _ _ => rfl) (by decide) ?_
  refine yG.num (c := 213) rfl (fun _ _ => rfl) (by decide) ?_
  refine yG.num (c := 212) rfl (fun _ _ => rfl) (by decide) ?_
  refine yG.num (c := -1) rfl (fun _ _ => rfl) (by decide) ?_
  refine yG.invV (rest := []) A_h2.1 (bOb (d_M W) H_2073) rfl rfl rfl rfl (r_plus W d A_h2.1 M_bRg_h2 H_2073 (r := (212)) (p := (213)) (q := (212)) (t := ((-1))) (x := 1611) ⟨by omega, by omega⟩ ⟨by omega, by omega⟩ ⟨by omega, by omega⟩ (by omega) Y_h2 (Y_h1.same W.y A_h1.1 (by decide) (S_h2 212 (by omega) trivial)) (by decide) (bTb_ge (a := 212) (b := 213) (by decide) (by omega) (by omega))) (fun rv h3 q9 => ?_)
  obtain ⟨rfl, B_h3, M_bRg_h3, Y_h3, V_h3, S_h3⟩ := q9
  have A_h3 := A_h2.tr B_h3 (by decide)
  show yG _ _ _ _ _ _ _ _ _ _ [] _
  refine yG.load xak rfl (fun _ _ => rfl) (v := yR 2073) rfl rfl ?_
  refine yG.load xik rfl (fun _ _ => rfl) (v := yI (208)) rfl rfl ?_
  refine yG.num (c := 212) rfl (fun _ _ => rfl) (by decide) ?_
  refine yG.num (c := 212) rfl (fun _ _ => rfl) (by decide) ?_
  refine yG.invV (rest := []) A_h3.1 (bOb (d_M W) H_2073) rfl rfl rfl rfl (r_times W (d + 1) A_h3.1 M_bRg_h3 H_2073 (r := (208)) (p := (212)) (q := (212)) ⟨by omega, by omega⟩ ⟨by omega, by omega⟩ ⟨by omega, by omega⟩ Y_h3 Y_h3 (by decide) (bTb_ge (a := 208) (b := 209) (by decide) (by omega) (by omega))) (fun rv h4 q9 => ?_)
  obtain ⟨rfl, B_h4, M_bRg_h4, Y_h4, V_h4, S_h4⟩ := q9
  have A_h4 := A_h3.tr B_h4 (by decide)
  show yG _ _ _ _ _ _ _ _ _ _ [] _
  refine yG.load xak rfl (fun _ _ => rfl) (v := yR 2073) rfl rfl ?_
  refine yG.num (c := 212) rfl (fun _ _ => rfl) (by decide) ?_
  refine yG.num (c := 205) rfl (fun _ _ => rfl) (by decide) ?_
  refine yG.num (c := 206) rfl (fun _ _ => rfl) (by decide) ?_
  refine yG.num (c := -1) rfl (fun _ _ => rfl) (by decide) ?_
  refine yG.invV (rest := []) A_h4.1 (bOb (d_M W) H_2073) rfl rfl rfl rfl (r_plus W d A_h4.1 M_bRg_h4 H_2073 (r := (212)) (p := (205)) (q := (206)) (t := ((-1))) (x := 1610) ⟨by omega, by omega⟩ ⟨by omega, by omega⟩ ⟨by omega, by omega⟩ (by omega) (M_bRg_h4.at (x := 1610) (a := 205) (b := 206) (by decide) (by omega) (by omega) (by decide)) (M_bRg_h4.at (x := 1610) (a := 206) (b := 207) (by decide) (by omega) (by omega) (by decide)) (by decide) (bTb_ge (a := 212) (b := 213) (by decide) (by omega) (by omega))) (fun rv h5 q9 => ?_)
  obtain ⟨rfl, B_h5, M_bRg_h5, Y_h5, V_h5, S_h5⟩ := q9
  have A_h5 := A_h4.tr B_h5 (by decide)
  show yG _ _ _ _ _ _ _ _ _ _ [] _
  refine yG.load xak rfl (fun _ _ => rfl) (v := yR 2073) rfl rfl ?_
  refine yG.num (c := 212) rfl (fun _ _ => rfl) (by decide) ?_
  refine yG.num (c := 212) rfl (fun _ _ => rfl) (by decide) ?_
  refine yG.num (c := 212) rfl (fun _ _ => rfl) (by decide) ?_
  refine yG.invV (rest := []) A_h5.1 (bOb (d_M W) H_2073) rfl rfl rfl rfl (r_times W (d + 1) A_h5.1 M_bRg_h5 H_2073 (r := (212)) (p := (212)) (q := (212)) ⟨by omega, by omega⟩ ⟨by omega, by omega⟩ ⟨by omega, by omega⟩ Y_h5 Y_h5 (by decide) (bTb_ge (a := 212) (b := 213) (by decide) (by omega) (by omega))) (fun rv h6 q9 => ?_)
  obtain ⟨rfl, B_h6, M_bRg_h6, Y_h6, V_h6, S_h6⟩ := q9
  have A_h6 := A_h5.tr B_h6 (by decide)
  show yG _ _ _ _ _ _ _ _ _ _ [] _
  refine yG.load xak rfl (fun _ _ => rfl) (v := yR 2073) rfl rfl ?_
  refine yG.num (c := 212) rfl (fun _ _ => rfl) (by decide) ?_
  refine yG.num (c := 212) rfl (fun _ _ => rfl) (by decide) ?_
  refine yG.numl (c := 3) rfl (fun _ _ => rfl) (by decide) ?_
  refine yG.invV (rest := []) A_h6.1 (bOb (d_M W) H_2073) rfl rfl rfl rfl (r_scale W d A_h6.1 M_bRg_h6 H_2073 (r := (212)) (p := (212)) (v := (3)) (y := 2) ⟨by omega, by omega⟩ ⟨by omega, by omega⟩ (by omega) Y_h6 (yEb (c := 4) (by decide) (by omega) (by omega)) (by decide) (by decide) (bTb_ge (a := 212) (b := 213) (by decide) (by omega) (by omega))) (fun rv h7 q9 => ?_)
  obtain ⟨rfl, B_h7, M_bRg_h7, Y_h7, V_h7, S_h7⟩ := q9
  have A_h7 := A_h6.tr B_h7 (by decide)
  show yG _ _ _ _ _ _ _ _ _ _ [] _
  refine yG.load xak rfl (fun _ _ => rfl) (v := yR 2073) rfl rfl ?_
  refine yG.load xik rfl (fun _ _ => rfl) (v := yI (208)) rfl rfl ?_
  refine yG.load xik rfl (fun _ _ => rfl) (v := yI (208)) rfl rfl ?_
  refine yG.num (c := 212) rfl (fun _ _ => rfl) (by decide) ?_
  refine yG.num (c := 1) rfl (fun _ _ => rfl) (by decide) ?_
  refine yG.invV (rest := []) A_h7.1 (bOb (d_M W) H_2073) rfl rfl rfl rfl (r_plus W d A_h7.1 M_bRg_h7 H_2073 (r := (208)) (p := (208)) (q := (212)) (t := (1)) (x := 3224) ⟨by omega, by omega⟩ ⟨by omega, by omega⟩ ⟨by omega, by omega⟩ (by omega) (((Y_h4.same W.y A_h4.1 (by decide) (S_h5 208 (by omega) trivial)).same W.y A_h5.1 (by decide) (S_h6 208 (by omega) trivial)).same W.y A_h6.1 (by decide) (S_h7 208 (by omega) (by decide))) Y_h7 (by decide) (bTb_ge (a := 208) (b := 209) (by decide) (by omega) (by omega))) (fun rv h8 q9 => ?_)
  obtain ⟨rfl, B_h8, M_bRg_h8, Y_h8, V_h8, S_h8⟩ := q9
  have A_h8 := A_h7.tr B_h8 (by decide)
  show yG _ _ _ _ _ _ _ _ _ _ [] _
  refine yG.load xak rfl (fun _ _ => rfl) (v := yR 2073) rfl rfl ?_
  refine yG.load xik rfl (fun _ _ => rfl) (v := yI (209)) rfl rfl ?_
  refine yG.num (c := 207) rfl (fun _ _ => rfl) (by decide) ?_
  refine yG.num (c := 207) rfl (fun _ _ => rfl) (by decide) ?_
  refine yG.invV (rest := []) A_h8.1 (bOb (d_M W) H_2073) rfl rfl rfl rfl (r_times W (d + 1) A_h8.1 M_bRg_h8 H_2073 (r := (209)) (p := (207)) (q := (207)) ⟨by omega, by omega⟩ ⟨by omega, by omega⟩ ⟨by omega, by omega⟩ (M_bRg_h8.at (x := 1610) (a := 207) (b := 208) (by decide) (by omega) (by omega) (by decide)) (M_bRg_h8.at (x := 1610) (a := 207) (b := 208) (by decide) (by omega) (by omega) (by decide)) (by decide) (bTb_ge (a := 209) (b := 210) (by decide) (by omega) (by omega))) (fun rv h9 q9 => ?_)
  obtain ⟨rfl, B_h9, M_bRg_h9, Y_h9, V_h9, S_h9⟩ := q9
  have A_h9 := A_h8.tr B_h9 (by decide)
  show yG _ _ _ _ _ _ _ _ _ _ [] _
  refine yG.load xak rfl (fun _ _ => rfl) (v := yR 2073) rfl rfl ?_
  refine yG.load xik rfl (fun _ _ => rfl) (v := yI (209)) rfl rfl ?_
  refine yG.load xik rfl (fun _ _ => rfl) (v := yI (209)) rfl rfl ?_
  refine yG.numl (c := 4) rfl (fun _ _ => rfl) (by decide) ?_
  refine yG.invV (rest := []) A_h9.1 (bOb (d_M W) H_2073) rfl rfl rfl rfl (r_scale W d A_h9.1 M_bRg_h9 H_2073 (r := (209)) (p := (209)) (v := (4)) (y := 3) ⟨by omega, by omega⟩ ⟨by omega, by omega⟩ (by omega) Y_h9 (yEb (c := 8) (by decide) (by omega) (by omega)) (by decide) (by decide) (bTb_ge (a := 209) (b := 210) (by decide) (by omega) (by omega))) (fun rv h10 q9 => ?_)
  obtain ⟨rfl, B_h10, M_bRg_h10, Y_h10, V_h10, S_h10⟩ := q9
  have A_h10 := A_h9.tr B_h10 (by decide)
  show yG _ _ _ _ _ _ _ _ _ _ [] _
  refine yG.ret rfl (fun _ _ => rfl) ?_
  exact (yP.void ⟨⟨⟨rfl, trivial⟩, A_h10⟩, M_bRg_h10⟩)
theorem c_GModel_squareB_V {hp : xH} (W : mW G) (d : Nat) (hT : zTy G hp) (M_bRg : bRg G hp) (H_2073 : bRo G 116 2073) : yC (xcall 89 xfts xpools xms (d + 3)) 520 [yR 2073, yI (248), yI (255)] hp (fun rv hp' => (fun rv hp' => (rv = none ∧ True) ∧ bAx G [(10467670466806212499117480599707713536, 256)] hp hp') rv hp' ∧ bRg G hp') := by
  have A_hp : bAx G [(10467670466806212499117480599707713536, 256)] hp hp := bAx.rf hT
  have M_bRg_hp := M_bRg
  refine yC.of (M := (xt_X13_squareB, (3, (0, (14, []))))) rfl rfl (N := 174) (yfuel (by decide)) ?_
  show yG 89 xfts (xcall 89 xfts xpools xms (d + 2)) (xpool xp_RX13) [] xt_X13_squareB (yP 0 (fun rv hp' => (fun rv hp' => (rv = none ∧ True) ∧ bAx G [(10467670466806212499117480599707713536, 256)] hp hp') rv hp' ∧ bRg G hp')) 174 0 [(0, yR 2073), (1, yI (248)), (2, yI (255))] [] hp
  refine yG.load xak rfl (fun _ _ => rfl) (v := yR 2073) rfl rfl ?_
  refine yG.num (c := 212) rfl (fun _ _ => rfl) (by decide) ?_
  refine yG.num (c := 205) rfl (fun _ _ => rfl) (by decide) ?_
  refine yG.num (c := 206) rfl (fun _ _ => rfl) (by decide) ?_
  refine yG.num (c := 1) rfl (fun _ _ => rfl) (by decide) ?_
  refine yG.invV (rest := []) A_hp.1 (bOb (d_M W) H_2073) rfl rfl rfl rfl (r_plus W d A_hp.1 M_bRg_hp H_2073 (r := (212)) (p := (205)) (q := (206)) (t := (1)) (x := 1610) ⟨by omega, by omega⟩ ⟨by omega, by omega⟩ ⟨by omega, by omega⟩ (by omega) (M_bRg_hp.at (x := 1610) (a := 205) (b := 206) (by decide) (by omega) (by omega) (by decide)) (M_bRg_hp.at (x := 1610) (a := 206) (b := 207) (by decide) (by omega) (by omega) (by decide)) (by decide) (bTb_ge (a := 212) (b := 213) (by decide) (by omega) (by omega))) (fun rv h1 q9 => ?_)
  obtain ⟨rfl, B_h1, M_bRg_h1, Y_h1, V_h1, S_h1⟩ := q9
  have A_h1 := A_hp.tr B_h1 (by decide)
  show yG _ _ _ _ _ _ _ _ _ _ [] _
  refine yG.load xak rfl (fun _ _ => rfl) (v := yR 2073) rfl rfl ?_
  refine yG.num (c := 213) rfl (fun _ _ => rfl) (by decide) ?_
  refine yG.num (c := 204) rfl (fun _ _ => rfl) (by decide) ?_
  refine yG.num (c := 204) rfl (fun _ _ => rfl) (by decide) ?_
  refine yG.num (c := 1) rfl (fun _ _ => rfl) (by decide) ?_
  refine yG.invV (rest := []) A_h1.1 (bOb (d_M W) H_2073) rfl rfl rfl rfl (r_plus W d A_h1.1 M_bRg_h1 H_2073 (r := (213)) (p := (204)) (q := (204)) (t := (1)) (x := 1610) ⟨by omega, by omega⟩ ⟨by omega, by omega⟩ ⟨by omega, by omega⟩ (by omega) (M_bRg_h1.at (x := 1610) (a := 204) (b := 205) (by decide) (by omega) (by omega) (by decide)) (M_bRg_h1.at (x := 1610) (a := 204) (b := 205) (by decide) (by omega) (by omega) (by decide)) (by decide) (bTb_ge (a := 213) (b := 214) (by decide) (by omega) (by omega))) (fun rv h2 q9 => ?_)
  obtain ⟨rfl, B_h2, M_bRg_h2, Y_h2, V_h2, S_h2⟩ := q9
  have A_h2 := A_h1.tr B_h2 (by decide)
  show yG _ _ _ _ _ _ _ _ _ _ [] _
  refine yG.load xak rfl (fun _ _ => rfl) (v := yR 2073) rfl rfl ?_
  refine yG.num (c := 212) rfl (fun _ _ => rfl) (by decide) ?_
  refine yG.num (c := 213) rfl (fun _ _ => rfl) (by decide) ?_
  refine yG.num (c := 212) rfl (fun _ _ => rfl) (by decide) ?_
  refine yG.num (c := -1) rfl (fun _ _ => rfl) (by decide) ?_
  refine yG.invV (rest := []) A_h2.1 (bOb (d_M W) H_2073) rfl rfl rfl rfl (r_plus W d A_h2.1 M_bRg_h2 H_2073 (r := (212)) (p := (213)) (q := (212)) (t := ((-1))) (x := 1611) ⟨by omega, by omega⟩ ⟨by omega, by omega⟩ ⟨by omega, by omega⟩ (by omega) Y_h2 (Y_h1.same W.y A_h1.1 (by decide) (S_h2 212 (by omega) trivial)) (by decide) (bTb_ge (a := 212) (b := 213) (by decide) (by omega) (by omega))) (fun rv h3 q9 => ?_)
  obtain ⟨rfl, B_h3, M_bRg_h3, Y_h3, V_h3, S_h3⟩ := q9
  have A_h3 := A_h2.tr B_h3 (by decide)
  show yG _ _ _ _ _ _ _ _ _ _ [] _
  refine yG.load xak rfl (fun _ _ => rfl) (v := yR 2073) rfl rfl ?_
  refine yG.load xik rfl (fun _ _ => rfl) (v := yI (248)) rfl rfl ?_
  refine yG.num (c := 212) rfl (fun _ _ => rfl) (by decide) ?_
  refine yG.num (c := 212) rfl (fun _ _ => rfl) (by decide) ?_
  refine yG.invV (rest := []) A_h3.1 (bOb (d_M W) H_2073) rfl rfl rfl rfl (r_times W (d + 1) A_h3.1 M_bRg_h3 H_2073 (r := (248)) (p := (212)) (q := (212)) ⟨by omega, by omega⟩ ⟨by omega, by omega⟩ ⟨by omega, by omega⟩ Y_h3 Y_h3 (by decide) (bTb_ge (a := 248) (b := 249) (by decide) (by omega) (by omega))) (fun rv h4 q9 => ?_)
  obtain ⟨rfl, B_h4, M_bRg_h4, Y_h4, V_h4, S_h4⟩ := q9
  have A_h4 := A_h3.tr B_h4 (by decide)
  show yG _ _ _ _ _ _ _ _ _ _ [] _
  refine yG.load xak rfl (fun _ _ => rfl) (v := yR 2073) rfl rfl ?_
  refine yG.num (c := 212) rfl (fun _ _ => rfl) (by decide) ?_
  refine yG.num (c := 205) rfl (fun _ _ => rfl) (by decide) ?_
  refine yG.num (c := 206) rfl (fun _ _ => rfl) (by decide) ?_
  refine yG.num (c := -1) rfl (fun _ _ => rfl) (by decide) ?_
  refine yG.invV (rest := []) A_h4.1 (bOb (d_M W) H_2073) rfl rfl rfl rfl (r_plus W d A_h4.1 M_bRg_h4 H_2073 (r := (212)) (p := (205)) (q := (206)) (t := ((-1))) (x := 1610) ⟨by omega, by omega⟩ ⟨by omega, by omega⟩ ⟨by omega, by omega⟩ (by omega) (M_bRg_h4.at (x := 1610) (a := 205) (b := 206) (by decide) (by omega) (by omega) (by decide)) (M_bRg_h4.at (x := 1610) (a := 206) (b := 207) (by decide) (by omega) (by omega) (by decide)) (by decide) (bTb_ge (a := 212) (b := 213) (by decide) (by omega) (by omega))) (fun rv h5 q9 => ?_)
  obtain ⟨rfl, B_h5, M_bRg_h5, Y_h5, V_h5, S_h5⟩ := q9
  have A_h5 := A_h4.tr B_h5 (by decide)
  show yG _ _ _ _ _ _ _ _ _ _ [] _
  refine yG.load xak rfl (fun _ _ => rfl) (v := yR 2073) rfl rfl ?_
  refine yG.num (c := 212) rfl (fun _ _ => rfl) (by decide) ?_
  refine yG.num (c := 212) rfl (fun _ _ => rfl) (by decide) ?_
  refine yG.num (c := 212) rfl (fun _ _ => rfl) (by decide) ?_
  refine yG.invV (rest := []) A_h5.1 (bOb (d_M W) H_2073) rfl rfl rfl rfl (r_times W (d + 1) A_h5.1 M_bRg_h5 H_2073 (r := (212)) (p := (212)) (q := (212)) ⟨by omega, by omega⟩ ⟨by omega, by omega⟩ ⟨by omega, by omega⟩ Y_h5 Y_h5 (by decide) (bTb_ge (a := 212) (b := 213) (by decide) (by omega) (by omega))) (fun rv h6 q9 => ?_)
  obtain ⟨rfl, B_h6, M_bRg_h6, Y_h6, V_h6, S_h6⟩ := q9
  have A_h6 := A_h5.tr B_h6 (by decide)
  show yG _ _ _ _ _ _ _ _ _ _ [] _
  refine yG.load xak rfl (fun _ _ => rfl) (v := yR 2073) rfl rfl ?_
  refine yG.num (c := 212) rfl (fun _ _ => rfl) (by decide) ?_
  refine yG.num (c := 212) rfl (fun _ _ => rfl) (by decide) ?_
  refine yG.numl (c := 3) rfl (fun _ _ => rfl) (by decide) ?_
  refine yG.invV (rest := []) A_h6.1 (bOb (d_M W) H_2073) rfl rfl rfl rfl (r_scale W d A_h6.1 M_bRg_h6 H_2073 (r := (212)) (p := (212)) (v := (3)) (y := 2) ⟨by omega, by omega⟩ ⟨by omega, by omega⟩ (by omega) Y_h6 (yEb (c := 4) (by decide) (by omega) (by omega)) (by decide) (by decide) (bTb_ge (a := 212) (b := 213) (by decide) (by omega) (by omega))) (fun rv h7 q9 => ?_)
  obtain ⟨rfl, B_h7, M_bRg_h7, Y_h7, V_h7, S_h7⟩ := q9
  have A_h7 := A_h6.tr B_h7 (by decide)
  show yG _ _ _ _ _ _ _ _ _ _ [] _
  refine yG.load xak rfl (fun _ _ => rfl) (v := yR 2073) rfl rfl ?_
  refine yG.load xik rfl (fun _ _ => rfl) (v := yI (248)) rfl rfl ?_
  refine yG.load xik rfl (fun _ _ => rfl) (v := yI (248)) rfl rfl ?_
  refine yG.num (c := 212) rfl (fun _ _ => rfl) (by decide) ?_
  refine yG.num (c := 1) rfl (fun _ _ => rfl) (by decide) ?_
  refine yG.invV (rest := []) A_h7.1 (bOb (d_M W) H_2073) rfl rfl rfl rfl (r_plus W d A_h7.1 M_bRg_h7 H_2073 (r := (248)) (p := (248)) (q := (212)) (t := (1)) (x := 3224) ⟨by omega, by omega⟩ ⟨by omega, by omega⟩ ⟨by omega, by omega⟩ (by omega) (((Y_h4.same W.y A_h4.1 (by decide) (S_h5 248 (by omega) trivial)).same W.y A_h5.1 (by decide) (S_h6 248 (by omega) trivial)).same W.y A_h6.1 (by decide) (S_h7 248 (by omega) (by decide))) Y_h7 (by decide) (bTb_ge (a := 248) (b := 249) (by decide) (by omega) (by omega))) (fun rv h8 q9 => ?_)
  obtain ⟨rfl, B_h8, M_bRg_h8, Y_h8, V_h8, S_h8⟩ := q9
  have A_h8 := A_h7.tr B_h8 (by decide)
  show yG _ _ _ _ _ _ _ _ _ _ [] _
  refine yG.load xak rfl (fun _ _ => rfl) (v := yR 2073) rfl rfl ?_
  refine yG.load xik rfl (fun _ _ => rfl) (v := yI (255)) rfl rfl ?_
  refine yG.num (c := 207) rfl (fun _ _ => rfl) (by decide) ?_
  refine yG.num (c := 207) rfl (fun _ _ => rfl) (by decide) ?_
  refine yG.invV (rest := []) A_h8.1 (bOb (d_M W) H_2073) rfl rfl rfl rfl (r_times W (d + 1) A_h8.1 M_bRg_h8 H_2073 (r := (255)) (p := (207)) (q := (207)) ⟨by omega, by omega⟩ ⟨by omega, by omega⟩ ⟨by omega, by omega⟩ (M_bRg_h8.at (x := 1610) (a := 207) (b := 208) (by decide) (by omega) (by omega) (by decide)) (M_bRg_h8.at (x := 1610) (a := 207) (b := 208) (by decide) (by omega) (by omega) (by decide)) (by decide) (bTb_ge (a := 255) (b := 256) (by decide) (by omega) (by omega))) (fun rv h9 q9 => ?_)
  obtain ⟨rfl, B_h9, M_bRg_h9, Y_h9, V_h9, S_h9⟩ := q9
  have A_h9 := A_h8.tr B_h9 (by decide)
  show yG _ _ _ _ _ _ _ _ _ _ [] _
  refine yG.load xak rfl (fun _ _ => rfl) (v := yR 2073) rfl rfl ?_
  refine yG.load xik rfl (fun _ _ => rfl) (v := yI (255)) rfl rfl ?_
  refine yG.load xik rfl (fun _ _ => rfl) (v := yI (255)) rfl rfl ?_
  refine yG.numl (c := 4) rfl (fun _ _ => rfl) (by decide) ?_
  refine yG.invV (rest := []) A_h9.1 (bOb (d_M W) H_2073) rfl rfl rfl rfl (r_scale W d A_h9.1 M_bRg_h9 H_2073 (r := (255)) (p := (255)) (v := (4)) (y := 3) ⟨by omega, by omega⟩ ⟨by omega, by omega⟩ (by omega) Y_h9 (yEb (c := 8) (by decide) (by omega) (by omega)) (by decide) (by decide) (bTb_ge (a := 255) (b := 256) (by decide) (by omega) (by omega))) (fun rv h10 q9 => ?_)
  obtain ⟨rfl, B_h10, M_bRg_h10, Y_h10, V_h10, S_h10⟩ := q9
  have A_h10 := A_h9.tr B_h10 (by decide)
  show yG _ _ _ _ _ _ _ _ _ _ [] _
  refine yG.ret rfl (fun _ _ => rfl) ?_
  exact (yP.void ⟨⟨⟨rfl, trivial⟩, A_h10⟩, M_bRg_h10⟩)
theorem c_GModel_squareB_X {hp : xH} (W : mW G) (d : Nat) (hT : zTy G hp) (M_bRg : bRg G hp) (H_2073 : bRo G 116 2073) : yC (xcall 89 xfts xpools xms (d + 3)) 520 [yR 2073, yI (232), yI (239)] hp (fun rv hp' => (fun rv hp' => (fun rv hp' => (rv = none ∧ True) ∧ bAx G [(10467670466806212499117480599707713536, 256)] hp hp') rv hp' ∧ (yBd hp' 232 3230 ∧ yBd hp' 239 3230)) rv hp' ∧ bRg G hp') := by
  have A_hp : bAx G [(10467670466806212499117480599707713536, 256)] hp hp := bAx.rf hT
  have M_bRg_hp := M_bRg
  refine yC.of (M := (xt_X13_squareB, (3, (0, (14, []))))) rfl rfl (N := 174) (yfuel (by decide)) ?_
  show yG 89 xfts (xcall 89 xfts xpools xms (d + 2)) (xpool xp_RX13) [] xt_X13_squareB (yP 0 (fun rv hp' => (fun rv hp' => (fun rv hp' => (rv = none ∧ True) ∧ bAx G [(10467670466806212499117480599707713536, 256)] hp hp') rv hp' ∧ (yBd hp' 232 3230 ∧ yBd hp' 239 3230)) rv hp' ∧ bRg G hp')) 174 0 [(0, yR 2073), (1, yI (232)), (2, yI (239))] [] hp
  refine yG.load xak rfl (fun _ _ => rfl) (v := yR 2073) rfl rfl ?_
  refine yG.num (c := 212) rfl (fun _ _ => rfl) (by decide) ?_
  refine yG.num (c := 205) rfl (fun _ _ => rfl) (by decide) ?_
  refine yG.num (c := 206) rfl (fun _ _ => rfl) (by decide) ?_
  refine yG.num (c := 1) rfl (fun _ _ => rfl) (by decide) ?_
  refine yG.invV (rest := []) A_hp.1 (bOb (d_M W) H_2073) rfl rfl rfl rfl (r_plus W d A_hp.1 M_bRg_hp H_2073 (r := (212)) (p := (205)) (q := (206)) (t := (1)) (x := 1610) ⟨by omega, by omega⟩ ⟨by omega, by omega⟩ ⟨by omega, by omega⟩ (by omega) (M_bRg_hp.at (x := 1610) (a := 205) (b := 206) (by decide) (by omega) (by omega) (by decide)) (M_bRg_hp.at (x := 1610) (a := 206) (b := 207) (by decide) (by omega) (by omega) (by decide)) (by decide) (bTb_ge (a := 212) (b := 213) (by decide) (by omega) (by omega))) (fun rv h1 q9 => ?_)
  obtain ⟨rfl, B_h1, M_bRg_h1, Y_h1, V_h1, S_h1⟩ := q9
  have A_h1 := A_hp.tr B_h1 (by decide)
  show yG _ _ _ _ _ _ _ _ _ _ [] _
  refine yG.load xak rfl (fun _ _ => rfl) (v := yR 2073) rfl rfl ?_
  refine yG.num (c := 213) rfl (fun _ _ => rfl) (by decide) ?_
  refine yG.num (c := 204) rfl (fun _ _ => rfl) (by decide) ?_
  refine yG.num (c := 204) rfl (fun _ _ => rfl) (by decide) ?_
  refine yG.num (c := 1) rfl (fun _ _ => rfl) (by decide) ?_
  refine yG.invV (rest := []) A_h1.1 (bOb (d_M W) H_2073) rfl rfl rfl rfl (r_plus W d A_h1.1 M_bRg_h1 H_2073 (r := (213)) (p := (204)) (q := (204)) (t := (1)) (x := 1610) ⟨by omega, by omega⟩ ⟨by omega, by omega⟩ ⟨by omega, by omega⟩ (by omega) (M_bRg_h1.at (x := 1610) (a := 204) (b := 205) (by decide) (by omega) (by omega) (by decide)) (M_bRg_h1.at (x := 1610) (a := 204) (b := 205) (by decide) (by omega) (by omega) (by decide)) (by decide) (bTb_ge (a := 213) (b := 214) (by decide) (by omega) (by omega))) (fun rv h2 q9 => ?_)
  obtain ⟨rfl, B_h2, M_bRg_h2, Y_h2, V_h2, S_h2⟩ := q9
  have A_h2 := A_h1.tr B_h2 (by decide)
  show yG _ _ _ _ _ _ _ _ _ _ [] _
  refine yG.load xak rfl (fun _ _ => rfl) (v := yR 2073) rfl rfl ?_
  refine yG.num (c := 212) rfl (fun _ _ => rfl) (by decide) ?_
  refine yG.num (c := 213) rfl (fun _ _ => rfl) (by decide) ?_
  refine yG.num (c := 212) rfl (fun _ _ => rfl) (by decide) ?_
  refine yG.num (c := -1) rfl (fun _ _ => rfl) (by decide) ?_
  refine yG.invV (rest := []) A_h2.1 (bOb (d_M W) H_2073) rfl rfl rfl rfl (r_plus W d A_h2.1 M_bRg_h2 H_2073 (r := (212)) (p := (213)) (q := (212)) (t := ((-1))) (x := 1611) ⟨by omega, by omega⟩ ⟨by omega, by omega⟩ ⟨by omega, by omega⟩ (by omega) Y_h2 (Y_h1.same W.y A_h1.1 (by decide) (S_h2 212 (by omega) trivial)) (by decide) (bTb_ge (a := 212) (b := 213) (by decide) (by omega) (by omega))) (fun rv h3 q9 => ?_)
  obtain ⟨rfl, B_h3, M_bRg_h3, Y_h3, V_h3, S_h3⟩ := q9
  have A_h3 := A_h2.tr B_h3 (by decide)
  show yG _ _ _ _ _ _ _ _ _ _ [] _
  refine yG.load xak rfl (fun _ _ => rfl) (v := yR 2073) rfl rfl ?_
  refine yG.load xik rfl (fun _ _ => rfl) (v := yI (232)) rfl rfl ?_
  refine yG.num (c := 212) rfl (fun _ _ => rfl) (by decide) ?_
  refine yG.num (c := 212) rfl (fun _ _ => rfl) (by decide) ?_
  refine yG.invV (rest := []) A_h3.1 (bOb (d_M W) H_2073) rfl rfl rfl rfl (r_times W (d + 1) A_h3.1 M_bRg_h3 H_2073 (r := (232)) (p := (212)) (q := (212)) ⟨by omega, by omega⟩ ⟨by omega, by omega⟩ ⟨by omega, by omega⟩ Y_h3 Y_h3 (by decide) (bTb_ge (a := 232) (b := 233) (by decide) (by omega) (by omega))) (fun rv h4 q9 => ?_)
  obtain ⟨rfl, B_h4, M_bRg_h4, Y_h4, V_h4, S_h4⟩ := q9
  have A_h4 := A_h3.tr B_h4 (by decide)
  show yG _ _ _ _ _ _ _ _ _ _ [] _
  refine yG.load xak rfl (fun _ _ => rfl) (v := yR 2073) rfl rfl ?_
  refine yG.num (c := 212) rfl (fun _ _ => rfl) (by decide) ?_
  refine yG.num (c := 205) rfl (fun _ _ => rfl) (by decide) ?_
  refine yG.num (c := 206) rfl (fun _ _ => rfl) (by decide) ?_
  refine yG.num (c := -1) rfl (fun _ _ => rfl) (by decide) ?_
  refine yG.invV (rest := []) A_h4.1 (bOb (d_M W) H_2073) rfl rfl rfl rfl (r_plus W d A_h4.1 M_bRg_h4 H_2073 (r := (212)) (p := (205)) (q := (206)) (t := ((-1))) (x := 1610) ⟨by omega, by omega⟩ ⟨by omega, by omega⟩ ⟨by omega, by omega⟩ (by omega) (M_bRg_h4.at (x := 1610) (a := 205) (b := 206) (by decide) (by omega) (by omega) (by decide)) (M_bRg_h4.at (x := 1610) (a := 206) (b := 207) (by decide) (by omega) (by omega) (by decide)) (by decide) (bTb_ge (a := 212) (b := 213) (by decide) (by omega) (by omega))) (fun rv h5 q9 => ?_)
  obtain ⟨rfl, B_h5, M_bRg_h5, Y_h5, V_h5, S_h5⟩ := q9
  have A_h5 := A_h4.tr B_h5 (by decide)
  show yG _ _ _ _ _ _ _ _ _ _ [] _
  refine yG.load xak rfl (fun _ _ => rfl) (v := yR 2073) rfl rfl ?_
  refine yG.num (c := 212) rfl (fun _ _ => rfl) (by decide) ?_
  refine yG.num (c := 212) rfl (fun _ _ => rfl) (by decide) ?_
  refine yG.num (c := 212) rfl (fun _ _ => rfl) (by decide) ?_
  refine yG.invV (rest := []) A_h5.1 (bOb (d_M W) H_2073) rfl rfl rfl rfl (r_times W (d + 1) A_h5.1 M_bRg_h5 H_2073 (r := (212)) (p := (212)) (q := (212)) ⟨by omega, by omega⟩ ⟨by omega, by omega⟩ ⟨by omega, by omega⟩ Y_h5 Y_h5 (by decide) (bTb_ge (a := 212) (b := 213) (by decide) (by omega) (by omega))) (fun rv h6 q9 => ?_)
  obtain ⟨rfl, B_h6, M_bRg_h6, Y_h6, V_h6, S_h6⟩ := q9
  have A_h6 := A_h5.tr B_h6 (by decide)
  show yG _ _ _ _ _ _ _ _ _ _ [] _
  refine yG.load xak rfl (fun _ _ => rfl) (v := yR 2073) rfl rfl ?_
  refine yG.num (c := 212) rfl (fun _ _ => rfl) (by decide) ?_
  refine yG.num (c := 212) rfl (fun _ _ => rfl) (by decide) ?_
  refine yG.numl (c := 3) rfl (fun _ _ => rfl) (by decide) ?_
  refine yG.invV (rest := []) A_h6.1 (bOb (d_M W) H_2073) rfl rfl rfl rfl (r_scale W d A_h6.1 M_bRg_h6 H_2073 (r := (212)) (p := (212)) (v := (3)) (y := 2) ⟨by omega, by omega⟩ ⟨by omega, by omega⟩ (by omega) Y_h6 (yEb (c := 4) (by decide) (by omega) (by omega)) (by decide) (by decide) (bTb_ge (a := 212) (b := 213) (by decide) (by omega) (by omega))) (fun rv h7 q9 => ?_)
  obtain ⟨rfl, B_h7, M_bRg_h7, Y_h7, V_h7, S_h7⟩ := q9
  have A_h7 := A_h6.tr B_h7 (by decide)
  show yG _ _ _ _ _ _ _ _ _ _ [] _
  refine yG.load xak rfl (fun _ _ => rfl) (v := yR 2073) rfl rfl ?_
  refine yG.load xik rfl (fun _ _ => rfl) (v := yI (232)) rfl rfl ?_
  refine yG.load xik rfl (fun _ _ => rfl) (v := yI (232)) rfl rfl ?_
  refine yG.num (c := 212) rfl (fun _ _ => rfl) (by decide) ?_
  refine yG.num (c := 1) rfl (fun _ _ => rfl) (by decide) ?_
  refine yG.invV (rest := []) A_h7.1 (bOb (d_M W) H_2073) rfl rfl rfl rfl (r_plus W d A_h7.1 M_bRg_h7 H_2073 (r := (232)) (p := (232)) (q := (212)) (t := (1)) (x := 3224) ⟨by omega, by omega⟩ ⟨by omega, by omega⟩ ⟨by omega, by omega⟩ (by omega) (((Y_h4.same W.y A_h4.1 (by decide) (S_h5 232 (by omega) trivial)).same W.y A_h5.1 (by decide) (S_h6 232 (by omega) trivial)).same W.y A_h6.1 (by decide) (S_h7 232 (by omega) (by decide))) Y_h7 (by decide) (bTb_ge (a := 232) (b := 233) (by decide) (by omega) (by omega))) (fun rv h8 q9 => ?_)
  obtain ⟨rfl, B_h8, M_bRg_h8, Y_h8, V_h8, S_h8⟩ := q9
  have A_h8 := A_h7.tr B_h8 (by decide)
  show yG _ _ _ _ _ _ _ _ _ _ [] _
  refine yG.load xak rfl (fun _ _ => rfl) (v := yR 2073) rfl rfl ?_
  refine yG.load xik rfl (fun _ _ => rfl) (v := yI (239)) rfl rfl ?_
  refine yG.num (c := 207) rfl (fun _ _ => rfl) (by decide) ?_
  refine yG.num (c := 207) rfl (fun _ _ => rfl) (by decide) ?_
  refine yG.invV (rest := []) A_h8.1 (bOb (d_M W) H_2073) rfl rfl rfl rfl (r_times W (d + 1) A_h8.1 M_bRg_h8 H_2073 (r := (239)) (p := (207)) (q := (207)) ⟨by omega, by omega⟩ ⟨by omega, by omega⟩ ⟨by omega, by omega⟩ (M_bRg_h8.at (x := 1610) (a := 207) (b := 208) (by decide) (by omega) (by omega) (by decide)) (M_bRg_h8.at (x := 1610) (a := 207) (b := 208) (by decide) (by omega) (by omega) (by decide)) (by decide) (bTb_ge (a := 239) (b := 240) (by decide) (by omega) (by omega))) (fun rv h9 q9 => ?_)
  obtain ⟨rfl, B_h9, M_bRg_h9, Y_h9, V_h9, S_h9⟩ := q9
  have A_h9 := A_h8.tr B_h9 (by decide)
  show yG _ _ _ _ _ _ _ _ _ _ [] _
  refine yG.load xak rfl (fun _ _ => rfl) (v := yR 2073) rfl rfl ?_
  refine yG.load xik rfl (fun _ _ => rfl) (v := yI (239)) rfl rfl ?_
  refine yG.load xik rfl (fun _ _ => rfl) (v := yI (239)) rfl rfl ?_
  refine yG.numl (c := 4) rfl (fun _ _ => rfl) (by decide) ?_
  refine yG.invV (rest := []) A_h9.1 (bOb (d_M W) H_2073) rfl rfl rfl rfl (r_scale W d A_h9.1 M_bRg_h9 H_2073 (r := (239)) (p := (239)) (v := (4)) (y := 3) ⟨by omega, by omega⟩ ⟨by omega, by omega⟩ (by omega) Y_h9 (yEb (c := 8) (by decide) (by omega) (by omega)) (by decide) (by decide) (bTb_ge (a := 239) (b := 240) (by decide) (by omega) (by omega))) (fun rv h10 q9 => ?_)
  obtain ⟨rfl, B_h10, M_bRg_h10, Y_h10, V_h10, S_h10⟩ := q9
  have A_h10 := A_h9.tr B_h10 (by decide)
  show yG _ _ _ _ _ _ _ _ _ _ [] _
  refine yG.ret rfl (fun _ _ => rfl) ?_
  exact (yP.void ⟨⟨⟨⟨rfl, trivial⟩, A_h10⟩, ((Y_h8.same W.y A_h8.1 (by decide) (S_h9 232 (by omega) trivial)).same W.y A_h9.1 (by decide) (S_h10 232 (by omega) (by decide))).mono (by decide), Y_h10.mono (by decide)⟩, M_bRg_h10⟩)
theorem c_GModel_makeOf {hp : xH} (W : mW G) (d : Nat) (hT : zTy G hp) (M_bRg : bRg G hp) (H_2073 : bRo G 116 2073) (p1 : Int) (h1l : 0 ≤ p1) (h1u : p1 ≤ 4) : yC (xcall 89 xfts xpools xms (d + 7)) 451 [yR 2073, yI (p1)] hp (fun rv hp' => (bQi G [(10467670466806212499117480599707713536, 256)] hp (-1) 1 (fun _ => True)) rv hp' ∧ bRg G hp') := by
  have A_hp : bAx G [(10467670466806212499117480599707713536, 256)] hp hp := bAx.rf hT
  have M_bRg_hp := M_bRg
  refine yC.of (M := (xt_X13_makeOf, (2, (1, (14, []))))) rfl rfl (N := 54) (yfuel (by decide)) ?_
  show yG 89 xfts (xcall 89 xfts xpools xms (d + 6)) (xpool xp_RX13) [] xt_X13_makeOf (yP 1 (fun rv hp' => (bQi G [(10467670466806212499117480599707713536, 256)] hp (-1) 1 (fun _ => True)) rv hp' ∧ bRg G hp')) 54 0 [(0, yR 2073), (1, yI (p1))] [] hp
  refine yG.load xik rfl (fun _ _ => rfl) (v := yI (p1)) rfl rfl ?_
  refine yG.num (c := 3) rfl (fun _ _ => rfl) (by decide) ?_
  refine yG.icmp rfl (t := 18) rfl ⟨by omega, by omega⟩ ⟨by omega, by omega⟩ (fun c1 => ?_) (fun c1 => ?_)
  · have c1 : (p1 : Int) ≥ 3 := c1
    refine yG.load xik rfl (fun _ _ => rfl) (v := yI (p1)) rfl rfl ?_
    refine yG.num (c := 3) rfl (fun _ _ => rfl) (by decide) ?_
    refine yG.icmp rfl (t := 36) rfl ⟨by omega, by omega⟩ ⟨by omega, by omega⟩ (fun c2 => ?_) (fun c2 => ?_)
    · have c2 : (p1 : Int) ≠ 3 := c2
      refine yG.load xak rfl (fun _ _ => rfl) (v := yR 2073) rfl rfl ?_
      refine yG.num (c := 208) rfl (fun _ _ => rfl) (by decide) ?_
      refine yG.num (c := 209) rfl (fun _ _ => rfl) (by decide) ?_
      refine yG.invV (rest := []) A_hp.1 (bOb (d_M W) H_2073) rfl rfl rfl rfl (c_GModel_squareB_U W (d + 3) A_hp.1 M_bRg_hp H_2073) (fun rv h3 q9 => ?_)
      obtain ⟨q9, M_bRg_h3⟩ := q9
      obtain ⟨⟨rfl, R_z4⟩, B_h3⟩ := q9
      have A_h3 := A_hp.tr B_h3 (by decide)
      show yG _ _ _ _ _ _ _ _ _ _ [] _
      refine yG.load xak rfl (fun _ _ => rfl) (v := yR 2073) rfl rfl ?_
      refine yG.num (c := 208) rfl (fun _ _ => rfl) (by decide) ?_
      refine yG.num (c := 209) rfl (fun _ _ => rfl) (by decide) ?_
      refine yG.invV (rest := []) A_h3.1 (bOb (d_M W) H_2073) rfl rfl rfl rfl (c_GModel_make W d A_h3.1 M_bRg_h3 H_2073 (208) (209) (by omega) (by omega) (by omega) (by omega)) (fun rv h5 q9 => ?_)
      obtain ⟨q9, M_bRg_h5⟩ := q9
      obtain ⟨⟨z6, rfl, l_z6, u_z6, R_z6⟩, B_h5⟩ := q9
      have A_h5 := A_h3.tr B_h5 (by decide)
      show yG _ _ _ _ _ _ _ _ _ _ (yI z6 :: []) _
      refine yG.ret rfl (fun _ _ => rfl) ?_
      exact (yP.int ⟨by omega, by omega⟩ ⟨⟨⟨z6, rfl, by omega, by omega, trivial⟩, A_h5⟩, M_bRg_h5⟩)
    · have c2 : (p1 : Int) = 3 := c2
      refine yG.load xak rfl (fun _ _ => rfl) (v := yR 2073) rfl rfl ?_
      refine yG.num (c := 208) rfl (fun _ _ => rfl) (by decide) ?_
      refine yG.num (c := 209) rfl (fun _ _ => rfl) (by decide) ?_
      refine yG.invV (rest := []) A_hp.1 (bOb (d_M W) H_2073) rfl rfl rfl rfl (c_GModel_squareA_U W (d + 3) A_hp.1 M_bRg_hp H_2073) (fun rv h7 q9 => ?_)
      obtain ⟨q9, M_bRg_h7⟩ := q9
      obtain ⟨⟨rfl, R_z8⟩, B_h7⟩ := q9
      have A_h7 := A_hp.tr B_h7 (by decide)
      show yG _ _ _ _ _ _ _ _ _ _ [] _
      refine yG.goto rfl (t := 46) rfl ?_
      refine yG.load xak rfl (fun _ _ => rfl) (v := yR 2073) rfl rfl ?_
      refine yG.num (c := 208) rfl (fun _ _ => rfl) (by decide) ?_
      refine yG.num (c := 209) rfl (fun _ _ => rfl) (by decide) ?_
      refine yG.invV (rest := []) A_h7.1 (bOb (d_M W) H_2073) rfl rfl rfl rfl (c_GModel_make W d A_h7.1 M_bRg_h7 H_2073 (208) (209) (by omega) (by omega) (by omega) (by omega)) (fun rv h9 q9 => ?_)
      obtain ⟨q9, M_bRg_h9⟩ := q9
      obtain ⟨⟨z10, rfl, l_z10, u_z10, R_z10⟩, B_h9⟩ := q9
      have A_h9 := A_h7.tr B_h9 (by decide)
      show yG _ _ _ _ _ _ _ _ _ _ (yI z10 :: []) _
      refine yG.ret rfl (fun _ _ => rfl) ?_
      exact (yP.int ⟨by omega, by omega⟩ ⟨⟨⟨z10, rfl, by omega, by omega, trivial⟩, A_h9⟩, M_bRg_h9⟩)
  · have c1 : (p1 : Int) < 3 := c1
    refine yG.load xak rfl (fun _ _ => rfl) (v := yR 2073) rfl rfl ?_
    refine yG.num (c := 204) rfl (fun _ _ => rfl) (by decide) ?_
    refine yG.load xik rfl (fun _ _ => rfl) (v := yI (p1)) rfl rfl ?_
    refine yG.iadd rfl ?_
    refine yG.num (c := 207) rfl (fun _ _ => rfl) (by decide) ?_
    refine yG.invV (rest := []) A_hp.1 (bOb (d_M W) H_2073) rfl rfl rfl rfl (c_GModel_make W d A_hp.1 M_bRg_hp H_2073 (204 + p1) (207) (by omega) (by omega) (by omega) (by omega)) (fun rv h11 q9 => ?_)
    obtain ⟨q9, M_bRg_h11⟩ := q9
    obtain ⟨⟨z12, rfl, l_z12, u_z12, R_z12⟩, B_h11⟩ := q9
    have A_h11 := A_hp.tr B_h11 (by decide)
    show yG _ _ _ _ _ _ _ _ _ _ (yI z12 :: []) _
    refine yG.ret rfl (fun _ _ => rfl) ?_
    exact (yP.int ⟨by omega, by omega⟩ ⟨⟨⟨z12, rfl, by omega, by omega, trivial⟩, A_h11⟩, M_bRg_h11⟩)
theorem c_GModel_voltage {hp : xH} (W : mW G) (d : Nat) (hT : zTy G hp) (M_bRg : bRg G hp) (M_bSm : bSm G hp) (H_2073 : bRo G 116 2073) (p1 p2 : Int) (h1l : (-2147483648) ≤ p1) (h1u : p1 ≤ 2147483647) (h2l : (-2147483648) ≤ p2) (h2u : p2 ≤ 2147483647) : yC (xcall 89 xfts xpools xms (d + 13)) 539 [yR 2073, yI (p1), yI (p2)] hp (fun rv hp' => (bQi G [(83076749736557242056487941267521536, 0), (83076749736557242056487941267521536, 10), (83076749736557242056487941267521536, 11), (83076749736557242056487941267521536, 38), (83076749736557242056487941267521536, 40), (83076749736557242056487941267521536, 74), (83076749736557242056487941267521536, 75), (83076749736557242056487941267521536, 76), (83076749736557242056487941267521536, 77), (354024670142887063837228506839924288140607488, 256)] hp (-1) 1 (fun z => 0 ≤ 0 - p1 + z + 2147483647 ∧ 0 ≤ p1 - z + 2147483648 ∧ 0 ≤ 0 - p2 + z + 2147483647 ∧ 0 ≤ p2 - z + 2147483648)) rv hp' ∧ bRg G hp') := by
  have A_hp : bAx G [(83076749736557242056487941267521536, 0), (83076749736557242056487941267521536, 10), (83076749736557242056487941267521536, 11), (83076749736557242056487941267521536, 38), (83076749736557242056487941267521536, 40), (83076749736557242056487941267521536, 74), (83076749736557242056487941267521536, 75), (83076749736557242056487941267521536, 76), (83076749736557242056487941267521536, 77), (354024670142887063837228506839924288140607488, 256)] hp hp := bAx.rf hT
  have M_bRg_hp := M_bRg
  refine yC.of (M := (xt_X13_voltage, (3, (1, (14, []))))) rfl rfl (N := 120) (yfuel (by decide)) ?_
  show yG 89 xfts (xcall 89 xfts xpools xms (d + 12)) (xpool xp_RX13) [] xt_X13_voltage (yP 1 (fun rv hp' => (bQi G [(83076749736557242056487941267521536, 0), (83076749736557242056487941267521536, 10), (83076749736557242056487941267521536, 11), (83076749736557242056487941267521536, 38), (83076749736557242056487941267521536, 40), (83076749736557242056487941267521536, 74), (83076749736557242056487941267521536, 75), (83076749736557242056487941267521536, 76), (83076749736557242056487941267521536, 77), (354024670142887063837228506839924288140607488, 256)] hp (-1) 1 (fun z => 0 ≤ 0 - p1 + z + 2147483647 ∧ 0 ≤ p1 - z + 2147483648 ∧ 0 ≤ 0 - p2 + z + 2147483647 ∧ 0 ≤ p2 - z + 2147483648)) rv hp' ∧ bRg G hp')) 120 0 [(0, yR 2073), (1, yI (p1)), (2, yI (p2))] [] hp
  refine yG.load xak rfl (fun _ _ => rfl) (v := yR 2073) rfl rfl ?_
  refine yG.load xik rfl (fun _ _ => rfl) (v := yI (p1)) rfl rfl ?_
  refine yG.i2l rfl ⟨by omega, by omega⟩ ?_
  refine yG.numl (c := 0) rfl (fun _ _ => rfl) (by decide) ?_
  refine yG.load xak rfl (fun _ _ => rfl) (v := yR 2073) rfl rfl ?_
  refine yG.getO A_hp.1 (w_M_count W H_2073) rfl rfl (fun r1 H_r1 O_r1 q_r1 => ?_)
  obtain rfl := u_M_count W H_r1
  refine yG.num (c := 0) rfl (fun _ _ => rfl) (by decide) ?_
  refine yG.ialdF A_hp.1 (v_M_count W H_r1) rfl rfl (by omega) (by omega) (fun z2 e_z2 i_z2 l_z2 u_z2 => ?_)
  refine yG.num (c := 1) rfl (fun _ _ => rfl) (by decide) ?_
  refine yG.isub rfl ?_
  refine yG.i2l rfl ⟨by omega, by omega⟩ ?_
  refine yG.invS (rest := [yR 2073]) rfl rfl rfl rfl (c_GModel_in W (d + 11) A_hp.1 (p1) (0) (z2 - 1) (by omega) (by omega) (by omega) (by omega) (by omega) (by omega)) (fun rv hp9 q9 => ?_)
  obtain ⟨⟨z3, rfl, l_z3, u_z3, R_z3⟩, e9⟩ := q9
  rw [e9]
  show yG _ _ _ _ _ _ _ _ _ _ (yI z3 :: [yR 2073]) _
  refine yG.ifz rfl (t := 23) rfl ⟨by omega, by omega⟩ (fun c4 => ?_) (fun c4 => ?_)
  · have c4 : (z3 : Int) ≠ 0 := c4
    replace R_z3 := R_z3 (by omega)
    refine yG.load xik rfl (fun _ _ => rfl) (v := yI (p2)) rfl rfl ?_
    refine yG.i2l rfl ⟨by omega, by omega⟩ ?_
    refine yG.numl (c := 0) rfl (fun _ _ => rfl) (by decide) ?_
    refine yG.numl (c := 4) rfl (fun _ _ => rfl) (by decide) ?_
    refine yG.invS (rest := [yR 2073]) rfl rfl rfl rfl (c_GModel_in W (d + 11) A_hp.1 (p2) (0) (4) (by omega) (by omega) (by omega) (by omega) (by omega) (by omega)) (fun rv hp9 q9 => ?_)
    obtain ⟨⟨z5, rfl, l_z5, u_z5, R_z5⟩, e9⟩ := q9
    rw [e9]
    show yG _ _ _ _ _ _ _ _ _ _ (yI z5 :: [yR 2073]) _
    refine yG.ifz rfl (t := 39) rfl ⟨by omega, by omega⟩ (fun c6 => ?_) (fun c6 => ?_)
    · have c6 : (z5 : Int) ≠ 0 := c6
      replace R_z5 := R_z5 (by omega)
      refine yG.num (c := 0) rfl (fun _ _ => rfl) (by decide) ?_
      refine yG.putI A_hp.1 (w_M_thrown W H_2073) (W.2.1 _ _ H_2073 (by decide) (by decide)) rfl rfl (.inl rfl) ⟨by omega, by omega⟩ (by omega) (by omega) (fun h7 T_h7 b_h7 f_h7 y_h7 => ?_)
      have M_bRg_h7 := M_bRg_hp.fr (bAx.put (Wl := [(83076749736557242056487941267521536, 0)]) (bAx.rf A_hp.1) T_h7 b_h7 f_h7 H_2073 (by decide)) (by decide)
      have A_h7 := A_hp.put T_h7 b_h7 f_h7 H_2073 (by decide)
      have : ys h7 2073 0 = 0 := (y_h7 2073 0).trans (if_pos ⟨rfl, rfl⟩)
      refine yG.load xak rfl (fun _ _ => rfl) (v := yR 2073) rfl rfl ?_
      refine yG.getI A_h7.1 (w_M_thrown W H_2073) rfl rfl (fun z8 e_z8 i_z8 l_z8 u_z8 => ?_)
      refine yG.ifz rfl (t := 52) rfl ⟨by omega, by omega⟩ (fun c9 => ?_) (fun c9 => ?_)
      · have c9 : (z8 : Int) ≤ 0 := c9
        refine yG.load xak rfl (fun _ _ => rfl) (v := yR 2073) rfl rfl ?_
        refine yG.invV (rest := []) A_h7.1 (bOb (d_M W) H_2073) rfl rfl rfl rfl (c_GModel_netShort W d A_h7.1 M_bRg_h7 (M_bSm.fr A_h7 (by decide)) H_2073) (fun rv h10 q9 => ?_)
        obtain ⟨q9, M_bRg_h10⟩ := q9
        obtain ⟨⟨rfl, R_z11⟩, B_h10⟩ := q9
        have A_h10 := A_h7.tr B_h10 (by decide)
        have : ys h10 2073 0 = ys h7 2073 0 := B_h10.ys H_2073 (by decide)
        show yG _ _ _ _ _ _ _ _ _ _ [] _
        refine yG.load xak rfl (fun _ _ => rfl) (v := yR 2073) rfl rfl ?_
        refine yG.invV (rest := []) A_h10.1 (bOb (d_M W) H_2073) rfl rfl rfl rfl (c_GModel_rowsOfShort W (d + 10) A_h10.1 H_2073) (fun rv h12 q9 => ?_)
        obtain ⟨⟨rfl, R_z13⟩, B_h12⟩ := q9
        have A_h12 := A_h10.tr B_h12 (by decide)
        have M_bRg_h12 := M_bRg_h10.fr B_h12 (by decide)
        have : ys h12 2073 0 = ys h10 2073 0 := B_h12.ys H_2073 (by decide)
        show yG _ _ _ _ _ _ _ _ _ _ [] _
        refine yG.load xak rfl (fun _ _ => rfl) (v := yR 2073) rfl rfl ?_
        refine yG.load xak rfl (fun _ _ => rfl) (v := yR 2073) rfl rfl ?_
        refine yG.getO A_h12.1 (w_M_node W H_2073) rfl rfl (fun r14 H_r14 O_r14 q_r14 => ?_)
        obtain rfl := u_M_node W H_r14
        refine yG.load xik rfl (fun _ _ => rfl) (v := yI (p1)) rfl rfl ?_
        refine yG.ialdF A_h12.1 (v_M_node W H_r14) rfl rfl (by omega) (by omega) (fun z15 e_z15 i_z15 l_z15 u_z15 => ?_)
        refine yG.invV (rest := []) A_h12.1 (bOb (d_M W) H_2073) rfl rfl rfl rfl (c_GModel_voltagesOf W (d + 9) A_h12.1 M_bRg_h12 H_2073 (z15) (by omega) (by omega)) (fun rv h16 q9 => ?_)
        obtain ⟨q9, M_bRg_h16⟩ := q9
        obtain ⟨⟨rfl, R_z17⟩, B_h16⟩ := q9
        have A_h16 := A_h12.tr B_h16 (by decide)
        have : ys h16 2073 0 = ys h12 2073 0 := B_h16.ys H_2073 (by decide)
        show yG _ _ _ _ _ _ _ _ _ _ [] _
        refine yG.load xak rfl (fun _ _ => rfl) (v := yR 2073) rfl rfl ?_
        refine yG.load xik rfl (fun _ _ => rfl) (v := yI (p2)) rfl rfl ?_
        refine yG.invV (rest := []) A_h16.1 (bOb (d_M W) H_2073) rfl rfl rfl rfl (c_GModel_makeOf W (d + 5) A_h16.1 M_bRg_h16 H_2073 (p2) (by omega) (by omega)) (fun rv h18 q9 => ?_)
        obtain ⟨q9, M_bRg_h18⟩ := q9
        obtain ⟨⟨z19, rfl, l_z19, u_z19, R_z19⟩, B_h18⟩ := q9
        have A_h18 := A_h16.tr B_h18 (by decide)
        have : ys h18 2073 0 = ys h16 2073 0 := B_h18.ys H_2073 (by decide)
        show yG _ _ _ _ _ _ _ _ _ _ (yI z19 :: []) _
        refine yG.ret rfl (fun _ _ => rfl) ?_
        exact (yP.int ⟨by omega, by omega⟩ ⟨⟨⟨z19, rfl, by omega, by omega, by omega⟩, A_h18⟩, M_bRg_h18⟩)
      · have c9 : (z8 : Int) > 0 := c9
        exfalso; omega
    · have c6 : (z5 : Int) = 0 := c6
      clear R_z5
      refine yG.num (c := 2) rfl (fun _ _ => rfl) (by decide) ?_
      refine yG.goto rfl (t := 40) rfl ?_
      refine yG.putI A_hp.1 (w_M_thrown W H_2073) (W.2.1 _ _ H_2073 (by decide) (by decide)) rfl rfl (.inl rfl) ⟨by omega, by omega⟩ (by omega) (by omega) (fun h20 T_h20 b_h20 f_h20 y_h20 => ?_)
      have M_bRg_h20 := M_bRg_hp.fr (bAx.put (Wl := [(83076749736557242056487941267521536, 0)]) (bAx.rf A_hp.1) T_h20 b_h20 f_h20 H_2073 (by decide)) (by decide)
      have A_h20 := A_hp.put T_h20 b_h20 f_h20 H_2073 (by decide)
      have : ys h20 2073 0 = 2 := (y_h20 2073 0).trans (if_pos ⟨rfl, rfl⟩)
      refine yG.load xak rfl (fun _ _ => rfl) (v := yR 2073) rfl rfl ?_
      refine yG.getI A_h20.1 (w_M_thrown W H_2073) rfl rfl (fun z21 e_z21 i_z21 l_z21 u_z21 => ?_)
      refine yG.ifz rfl (t := 52) rfl ⟨by omega, by omega⟩ (fun c22 => ?_) (fun c22 => ?_)
      · have c22 : (z21 : Int) ≤ 0 := c22
        exfalso; omega
      · have c22 : (z21 : Int) > 0 := c22
        refine yG.num (c := 0) rfl (fun _ _ => rfl) (by decide) ?_
        refine yG.ret rfl (fun _ _ => rfl) ?_
        exact (yP.int ⟨by omega, by omega⟩ ⟨⟨⟨0, rfl, by omega, by omega, by omega⟩, A_h20⟩, M_bRg_h20⟩)
  · have c4 : (z3 : Int) = 0 := c4
    clear R_z3
    refine yG.num (c := 1) rfl (fun _ _ => rfl) (by decide) ?_
    refine yG.goto rfl (t := 40) rfl ?_
    refine yG.putI A_hp.1 (w_M_thrown W H_2073) (W.2.1 _ _ H_2073 (by decide) (by decide)) rfl rfl (.inl rfl) ⟨by omega, by omega⟩ (by omega) (by omega) (fun h23 T_h23 b_h23 f_h23 y_h23 => ?_)
    have M_bRg_h23 := M_bRg_hp.fr (bAx.put (Wl := [(83076749736557242056487941267521536, 0)]) (bAx.rf A_hp.1) T_h23 b_h23 f_h23 H_2073 (by decide)) (by decide)
    have A_h23 := A_hp.put T_h23 b_h23 f_h23 H_2073 (by decide)
    have : ys h23 2073 0 = 1 := (y_h23 2073 0).trans (if_pos ⟨rfl, rfl⟩)
    refine yG.load xak rfl (fun _ _ => rfl) (v := yR 2073) rfl rfl ?_
    refine yG.getI A_h23.1 (w_M_thrown W H_2073) rfl rfl (fun z24 e_z24 i_z24 l_z24 u_z24 => ?_)
    refine yG.ifz rfl (t := 52) rfl ⟨by omega, by omega⟩ (fun c25 => ?_) (fun c25 => ?_)
    · have c25 : (z24 : Int) ≤ 0 := c25
      exfalso; omega
    · have c25 : (z24 : Int) > 0 := c25
      refine yG.num (c := 0) rfl (fun _ _ => rfl) (by decide) ?_
      refine yG.ret rfl (fun _ _ => rfl) ?_
      exact (yP.int ⟨by omega, by omega⟩ ⟨⟨⟨0, rfl, by omega, by omega, by omega⟩, A_h23⟩, M_bRg_h23⟩)
theorem c_GModel_current {hp : xH} (W : mW G) (d : Nat) (hT : zTy G hp) (M_bRg : bRg G hp) (M_bSm : bSm G hp) (H_2073 : bRo G 116 2073) (p1 p2 p3 : Int) (h1l : (-2147483648) ≤ p1) (h1u : p1 ≤ 2147483647) (h2l : (-2147483648) ≤ p2) (h2u : p2 ≤ 2147483647) (h3l : (-2147483648) ≤ p3) (h3u : p3 ≤ 2147483647) : yC (xcall 89 xfts xpools xms (d + 13)) 382 [yR 2073, yI (p1), yI (p2), yI (p3)] hp (fun rv hp' => (bQi G [(83076749736557242056487941267521536, 0), (83076749736557242056487941267521536, 10), (83076749736557242056487941267521536, 11), (83076749736557242056487941267521536, 38), (83076749736557242056487941267521536, 40), (83076749736557242056487941267521536, 74), (83076749736557242056487941267521536, 75), (83076749736557242056487941267521536, 76), (83076749736557242056487941267521536, 77), (354024670142887063837228506839924288140607488, 256)] hp (-1) 1 (fun z => 0 ≤ 0 - p1 + z + 2147483647 ∧ 0 ≤ p1 - z + 2147483648 ∧ 0 ≤ 0 - p2 + z + 2147483647 ∧ 0 ≤ p2 - z + 2147483648 ∧ 0 ≤ 0 - p3 + z + 2147483647 ∧ 0 ≤ p3 - z + 2147483648)) rv hp' ∧ bRg G hp') := by
  have A_hp : bAx G [(83076749736557242056487941267521536, 0), (83076749736557242056487941267521536, 10), (83076749736557242056487941267521536, 11), (83076749736557242056487941267521536, 38), (83076749736557242056487941267521536, 40), (83076749736557242056487941267521536, 74), (83076749736557242056487941267521536, 75), (83076749736557242056487941267521536, 76), (83076749736557242056487941267521536, 77), (354024670142887063837228506839924288140607488, 256)] hp hp := bAx.rf hT
  have M_bRg_hp := M_bRg
  refine yC.of (M := (xt_X13_current, (4, (1, (14, []))))) rfl rfl (N := 132) (yfuel (by decide)) ?_
  show yG 89 xfts (xcall 89 xfts xpools xms (d + 12)) (xpool xp_RX13) [] xt_X13_current (yP 1 (fun rv hp' => (bQi G [(83076749736557242056487941267521536, 0), (83076749736557242056487941267521536, 10), (83076749736557242056487941267521536, 11), (83076749736557242056487941267521536, 38), (83076749736557242056487941267521536, 40), (83076749736557242056487941267521536, 74), (83076749736557242056487941267521536, 75), (83076749736557242056487941267521536, 76), (83076749736557242056487941267521536, 77), (354024670142887063837228506839924288140607488, 256)] hp (-1) 1 (fun z => 0 ≤ 0 - p1 + z + 2147483647 ∧ 0 ≤ p1 - z + 2147483648 ∧ 0 ≤ 0 - p2 + z + 2147483647 ∧ 0 ≤ p2 - z + 2147483648 ∧ 0 ≤ 0 - p3 + z + 2147483647 ∧ 0 ≤ p3 - z + 2147483648)) rv hp' ∧ bRg G hp')) 132 0 [(0, yR 2073), (1, yI (p1)), (2, yI (p2)), (3, yI (p3))] [] hp
  refine yG.load xak rfl (fun _ _ => rfl) (v := yR 2073) rfl rfl ?_
  refine yG.load xik rfl (fun _ _ => rfl) (v := yI (p1)) rfl rfl ?_
  refine yG.i2l rfl ⟨by omega, by omega⟩ ?_
  refine yG.numl (c := 0) rfl (fun _ _ => rfl) (by decide) ?_
  refine yG.load xak rfl (fun _ _ => rfl) (v := yR 2073) rfl rfl ?_
  refine yG.getO A_hp.1 (w_M_count W H_2073) rfl rfl (fun r1 H_r1 O_r1 q_r1 => ?_)
  obtain rfl := u_M_count W H_r1
  refine yG.num (c := 2) rfl (fun _ _ => rfl) (by decide) ?_
  refine yG.ialdF A_hp.1 (v_M_count W H_r1) rfl rfl (by omega) (by omega) (fun z2 e_z2 i_z2 l_z2 u_z2 => ?_)
  refine yG.num (c := 1) rfl (fun _ _ => rfl) (by decide) ?_
  refine yG.isub rfl ?_
  refine yG.i2l rfl ⟨by omega, by omega⟩ ?_
  refine yG.invS (rest := [yR 2073]) rfl rfl rfl rfl (c_GModel_in W (d + 11) A_hp.1 (p1) (0) (z2 - 1) (by omega) (by omega) (by omega) (by omega) (by omega) (by omega)) (fun rv hp9 q9 => ?_)
  obtain ⟨⟨z3, rfl, l_z3, u_z3, R_z3⟩, e9⟩ := q9
  rw [e9]
  show yG _ _ _ _ _ _ _ _ _ _ (yI z3 :: [yR 2073]) _
  refine yG.ifz rfl (t := 23) rfl ⟨by omega, by omega⟩ (fun c4 => ?_) (fun c4 => ?_)
  · have c4 : (z3 : Int) ≠ 0 := c4
    replace R_z3 := R_z3 (by omega)
    refine yG.load xik rfl (fun _ _ => rfl) (v := yI (p2)) rfl rfl ?_
    refine yG.i2l rfl ⟨by omega, by omega⟩ ?_
    refine yG.numl (c := 0) rfl (fun _ _ => rfl) (by decide) ?_
    refine yG.numl (c := 1) rfl (fun _ _ => rfl) (by decide) ?_
    refine yG.invS (rest := [yR 2073]) rfl rfl rfl rfl (c_GModel_in W (d + 11) A_hp.1 (p2) (0) (1) (by omega) (by omega) (by omega) (by omega) (by omega) (by omega)) (fun rv hp9 q9 => ?_)
    obtain ⟨⟨z5, rfl, l_z5, u_z5, R_z5⟩, e9⟩ := q9
    rw [e9]
    show yG _ _ _ _ _ _ _ _ _ _ (yI z5 :: [yR 2073]) _
    refine yG.ifz rfl (t := 45) rfl ⟨by omega, by omega⟩ (fun c6 => ?_) (fun c6 => ?_)
    · have c6 : (z5 : Int) = 0 := c6
      clear R_z5
      refine yG.num (c := 2) rfl (fun _ _ => rfl) (by decide) ?_
      refine yG.goto rfl (t := 50) rfl ?_
      refine yG.putI A_hp.1 (w_M_thrown W H_2073) (W.2.1 _ _ H_2073 (by decide) (by decide)) rfl rfl (.inl rfl) ⟨by omega, by omega⟩ (by omega) (by omega) (fun h7 T_h7 b_h7 f_h7 y_h7 => ?_)
      have M_bRg_h7 := M_bRg_hp.fr (bAx.put (Wl := [(83076749736557242056487941267521536, 0)]) (bAx.rf A_hp.1) T_h7 b_h7 f_h7 H_2073 (by decide)) (by decide)
      have A_h7 := A_hp.put T_h7 b_h7 f_h7 H_2073 (by decide)
      have : ys h7 2073 0 = 2 := (y_h7 2073 0).trans (if_pos ⟨rfl, rfl⟩)
      refine yG.load xak rfl (fun _ _ => rfl) (v := yR 2073) rfl rfl ?_
      refine yG.getI A_h7.1 (w_M_thrown W H_2073) rfl rfl (fun z8 e_z8 i_z8 l_z8 u_z8 => ?_)
      refine yG.ifz rfl (t := 62) rfl ⟨by omega, by omega⟩ (fun c9 => ?_) (fun c9 => ?_)
      · have c9 : (z8 : Int) ≤ 0 := c9
        exfalso; omega
      · have c9 : (z8 : Int) > 0 := c9
        refine yG.num (c := 0) rfl (fun _ _ => rfl) (by decide) ?_
        refine yG.ret rfl (fun _ _ => rfl) ?_
        exact (yP.int ⟨by omega, by omega⟩ ⟨⟨⟨0, rfl, by omega, by omega, by omega⟩, A_h7⟩, M_bRg_h7⟩)
    · have c6 : (z5 : Int) ≠ 0 := c6
      replace R_z5 := R_z5 (by omega)
      refine yG.load xik rfl (fun _ _ => rfl) (v := yI (p3)) rfl rfl ?_
      refine yG.i2l rfl ⟨by omega, by omega⟩ ?_
      refine yG.numl (c := 0) rfl (fun _ _ => rfl) (by decide) ?_
      refine yG.numl (c := 4) rfl (fun _ _ => rfl) (by decide) ?_
      refine yG.invS (rest := [yR 2073]) rfl rfl rfl rfl (c_GModel_in W (d + 11) A_hp.1 (p3) (0) (4) (by omega) (by omega) (by omega) (by omega) (by omega) (by omega)) (fun rv hp9 q9 => ?_)
      obtain ⟨⟨z10, rfl, l_z10, u_z10, R_z10⟩, e9⟩ := q9
      rw [e9]
      show yG _ _ _ _ _ _ _ _ _ _ (yI z10 :: [yR 2073]) _
      refine yG.ifz rfl (t := 49) rfl ⟨by omega, by omega⟩ (fun c11 => ?_) (fun c11 => ?_)
      · have c11 : (z10 : Int) ≠ 0 := c11
        replace R_z10 := R_z10 (by omega)
        refine yG.num (c := 0) rfl (fun _ _ => rfl) (by decide) ?_
        refine yG.putI A_hp.1 (w_M_thrown W H_2073) (W.2.1 _ _ H_2073 (by decide) (by decide)) rfl rfl (.inl rfl) ⟨by omega, by omega⟩ (by omega) (by omega) (fun h12 T_h12 b_h12 f_h12 y_h12 => ?_)
        have M_bRg_h12 := M_bRg_hp.fr (bAx.put (Wl := [(83076749736557242056487941267521536, 0)]) (bAx.rf A_hp.1) T_h12 b_h12 f_h12 H_2073 (by decide)) (by decide)
        have A_h12 := A_hp.put T_h12 b_h12 f_h12 H_2073 (by decide)
        have : ys h12 2073 0 = 0 := (y_h12 2073 0).trans (if_pos ⟨rfl, rfl⟩)
        refine yG.load xak rfl (fun _ _ => rfl) (v := yR 2073) rfl rfl ?_
        refine yG.getI A_h12.1 (w_M_thrown W H_2073) rfl rfl (fun z13 e_z13 i_z13 l_z13 u_z13 => ?_)
        refine yG.ifz rfl (t := 62) rfl ⟨by omega, by omega⟩ (fun c14 => ?_) (fun c14 => ?_)
        · have c14 : (z13 : Int) ≤ 0 := c14
          refine yG.load xak rfl (fun _ _ => rfl) (v := yR 2073) rfl rfl ?_
          refine yG.invV (rest := []) A_h12.1 (bOb (d_M W) H_2073) rfl rfl rfl rfl (c_GModel_netShort W d A_h12.1 M_bRg_h12 (M_bSm.fr A_h12 (by decide)) H_2073) (fun rv h15 q9 => ?_)
          obtain ⟨q9, M_bRg_h15⟩ := q9
          obtain ⟨⟨rfl, R_z16⟩, B_h15⟩ := q9
          have A_h15 := A_h12.tr B_h15 (by decide)
          have : ys h15 2073 0 = ys h12 2073 0 := B_h15.ys H_2073 (by decide)
          show yG _ _ _ _ _ _ _ _ _ _ [] _
          refine yG.load xak rfl (fun _ _ => rfl) (v := yR 2073) rfl rfl ?_
          refine yG.invV (rest := []) A_h15.1 (bOb (d_M W) H_2073) rfl rfl rfl rfl (c_GModel_rowsOfShort W (d + 10) A_h15.1 H_2073) (fun rv h17 q9 => ?_)
          obtain ⟨⟨rfl, R_z18⟩, B_h17⟩ := q9
          have A_h17 := A_h15.tr B_h17 (by decide)
          have M_bRg_h17 := M_bRg_h15.fr B_h17 (by decide)
          have : ys h17 2073 0 = ys h15 2073 0 := B_h17.ys H_2073 (by decide)
          show yG _ _ _ _ _ _ _ _ _ _ [] _
          refine yG.load xak rfl (fun _ _ => rfl) (v := yR 2073) rfl rfl ?_
          refine yG.load xik rfl (fun _ _ => rfl) (v := yI (p1)) rfl rfl ?_
          refine yG.load xik rfl (fun _ _ => rfl) (v := yI (p2)) rfl rfl ?_
          refine yG.invV (rest := []) A_h17.1 (bOb (d_M W) H_2073) rfl rfl rfl rfl (c_GModel_currentsInto W (d + 8) A_h17.1 M_bRg_h17 H_2073 (p1) (p2) (by omega) (by omega) (by omega) (by omega)) (fun rv h19 q9 => ?_)
          obtain ⟨q9, M_bRg_h19⟩ := q9
          obtain ⟨⟨rfl, R_z20⟩, B_h19⟩ := q9
          have A_h19 := A_h17.tr B_h19 (by decide)
          have : ys h19 2073 0 = ys h17 2073 0 := B_h19.ys H_2073 (by decide)
          show yG _ _ _ _ _ _ _ _ _ _ [] _
          refine yG.load xak rfl (fun _ _ => rfl) (v := yR 2073) rfl rfl ?_
          refine yG.load xik rfl (fun _ _ => rfl) (v := yI (p3)) rfl rfl ?_
          refine yG.invV (rest := []) A_h19.1 (bOb (d_M W) H_2073) rfl rfl rfl rfl (c_GModel_makeOf W (d + 5) A_h19.1 M_bRg_h19 H_2073 (p3) (by omega) (by omega)) (fun rv h21 q9 => ?_)
          obtain ⟨q9, M_bRg_h21⟩ := q9
          obtain ⟨⟨z22, rfl, l_z22, u_z22, R_z22⟩, B_h21⟩ := q9
          have A_h21 := A_h19.tr B_h21 (by decide)
          have : ys h21 2073 0 = ys h19 2073 0 := B_h21.ys H_2073 (by decide)
          show yG _ _ _ _ _ _ _ _ _ _ (yI z22 :: []) _
          refine yG.ret rfl (fun _ _ => rfl) ?_
          exact (yP.int ⟨by omega, by omega⟩ ⟨⟨⟨z22, rfl, by omega, by omega, by omega⟩, A_h21⟩, M_bRg_h21⟩)
        · have c14 : (z13 : Int) > 0 := c14
          exfalso; omega
      · have c11 : (z10 : Int) = 0 := c11
        clear R_z10
        refine yG.num (c := 2) rfl (fun _ _ => rfl) (by decide) ?_
        refine yG.goto rfl (t := 50) rfl ?_
        refine yG.putI A_hp.1 (w_M_thrown W H_2073) (W.2.1 _ _ H_2073 (by decide) (by decide)) rfl rfl (.inl rfl) ⟨by omega, by omega⟩ (by omega) (by omega) (fun h23 T_h23 b_h23 f_h23 y_h23 => ?_)
        have M_bRg_h23 := M_bRg_hp.fr (bAx.put (Wl := [(83076749736557242056487941267521536, 0)]) (bAx.rf A_hp.1) T_h23 b_h23 f_h23 H_2073 (by decide)) (by decide)
        have A_h23 := A_hp.put T_h23 b_h23 f_h23 H_2073 (by decide)
        have : ys h23 2073 0 = 2 := (y_h23 2073 0).trans (if_pos ⟨rfl, rfl⟩)
        refine yG.load xak rfl (fun _ _ => rfl) (v := yR 2073) rfl rfl ?_
        refine yG.getI A_h23.1 (w_M_thrown W H_2073) rfl rfl (fun z24 e_z24 i_z24 l_z24 u_z24 => ?_)
        refine yG.ifz rfl (t := 62) rfl ⟨by omega, by omega⟩ (fun c25 => ?_) (fun c25 => ?_)
        · have c25 : (z24 : Int) ≤ 0 := c25
          exfalso; omega
        · have c25 : (z24 : Int) > 0 := c25
          refine yG.num (c := 0) rfl (fun _ _ => rfl) (by decide) ?_
          refine yG.ret rfl (fun _ _ => rfl) ?_
          exact (yP.int ⟨by omega, by omega⟩ ⟨⟨⟨0, rfl, by omega, by omega, by omega⟩, A_h23⟩, M_bRg_h23⟩)
  · have c4 : (z3 : Int) = 0 := c4
    clear R_z3
    refine yG.num (c := 1) rfl (fun _ _ => rfl) (by decide) ?_
    refine yG.goto rfl (t := 50) rfl ?_
    refine yG.putI A_hp.1 (w_M_thrown W H_2073) (W.2.1 _ _ H_2073 (by decide) (by decide)) rfl rfl (.inl rfl) ⟨by omega, by omega⟩ (by omega) (by omega) (fun h26 T_h26 b_h26 f_h26 y_h26 => ?_)
    have M_bRg_h26 := M_bRg_hp.fr (bAx.put (Wl := [(83076749736557242056487941267521536, 0)]) (bAx.rf A_hp.1) T_h26 b_h26 f_h26 H_2073 (by decide)) (by decide)
    have A_h26 := A_hp.put T_h26 b_h26 f_h26 H_2073 (by decide)
    have : ys h26 2073 0 = 1 := (y_h26 2073 0).trans (if_pos ⟨rfl, rfl⟩)
    refine yG.load xak rfl (fun _ _ => rfl) (v := yR 2073) rfl rfl ?_
    refine yG.getI A_h26.1 (w_M_thrown W H_2073) rfl rfl (fun z27 e_z27 i_z27 l_z27 u_z27 => ?_)
    refine yG.ifz rfl (t := 62) rfl ⟨by omega, by omega⟩ (fun c28 => ?_) (fun c28 => ?_)
    · have c28 : (z27 : Int) ≤ 0 := c28
      exfalso; omega
    · have c28 : (z27 : Int) > 0 := c28
      refine yG.num (c := 0) rfl (fun _ _ => rfl) (by decide) ?_
      refine yG.ret rfl (fun _ _ => rfl) ?_
      exact (yP.int ⟨by omega, by omega⟩ ⟨⟨⟨0, rfl, by omega, by omega, by omega⟩, A_h26⟩, M_bRg_h26⟩)
theorem c_GModel_lookAt {hp : xH} (W : mW G) (d : Nat) (hT : zTy G hp) (M_bRg : bRg G hp) (H_2073 : bRo G 116 2073) (p1 : Int) (h1l : 0 ≤ p1) (h1u : p1 ≤ 15) : yC (xcall 89 xfts xpools xms (d + 5)) 447 [yR 2073, yI (p1)] hp (fun rv hp' => (fun rv hp' => (rv = none ∧ True) ∧ bAx G [(83076749736557242056487941267521536, 88), (83076749736557242056487941267521536, 89), (10467670466806212499117480599707713536, 256)] hp hp') rv hp' ∧ bRg G hp') := by
  have A_hp : bAx G [(83076749736557242056487941267521536, 88), (83076749736557242056487941267521536, 89), (10467670466806212499117480599707713536, 256)] hp hp := bAx.rf hT
  have M_bRg_hp := M_bRg
  have H : ∀ m : Nat, (∀ hq, bAx G [(83076749736557242056487941267521536, 88), (83076749736557242056487941267521536, 89), (10467670466806212499117480599707713536, 256)] hp hq → bRg G hq → 0 ≤ p1 → (-15) ≤ 0 - p1 → 1 < (m : Int) → yG 89 xfts (xcall 89 xfts xpools xms (d + 4)) (xpool xp_RX13) [] xt_X13_lookAt (yP 0 (fun rv hp' => (fun rv hp' => (rv = none ∧ True) ∧ bAx G [(83076749736557242056487941267521536, 88), (83076749736557242056487941267521536, 89), (10467670466806212499117480599707713536, 256)] hp hp') rv hp' ∧ bRg G hp')) (51 * m) 110 [(0, yR 2073), (1, yI (p1))] [] hq) := by
    intro m
    induction m with
    | zero =>
      intros; exfalso; omega
    | succ m ih =>
      have i_110 := ih
      clear ih
      intro hq A_hq M_bRg_hq f0 f1 hm
      refine yG.mono (N := 51 * m + 51) ?_ (by omega)
      refine yG.load xak rfl (fun _ _ => rfl) (v := yR 2073) rfl rfl ?_
      refine yG.getO A_hq.1 (w_M_relayKind W H_2073) rfl rfl (fun r1 H_r1 O_r1 q_r1 => ?_)
      obtain rfl := u_M_relayKind W H_r1
      refine yG.load xik rfl (fun _ _ => rfl) (v := yI (p1)) rfl rfl ?_
      refine yG.iald A_hq.1 (v_M_relayKind W H_r1) rfl (by omega) (by omega) (fun z2 e_z2 i_z2 l_z2 u_z2 => ?_)
      refine yG.num (c := 1) rfl (fun _ _ => rfl) (by decide) ?_
      refine yG.icmp rfl (t := 170) rfl ⟨by omega, by omega⟩ ⟨by omega, by omega⟩ (fun c3 => ?_) (fun c3 => ?_)
      · have c3 : (z2 : Int) ≠ 1 := c3
        refine yG.ret rfl (fun _ _ => rfl) ?_
        exact (yP.void ⟨⟨⟨rfl, trivial⟩, A_hq⟩, M_bRg_hq⟩)
      · have c3 : (z2 : Int) = 1 := c3
        refine yG.load xak rfl (fun _ _ => rfl) (v := yR 2073) rfl rfl ?_
        refine yG.load xak rfl (fun _ _ => rfl) (v := yR 2073) rfl rfl ?_
        refine yG.load xak rfl (fun _ _ => rfl) (v := yR 2073) rfl rfl ?_
        refine yG.getO A_hq.1 (w_M_relayLine W H_2073) rfl rfl (fun r4 H_r4 O_r4 q_r4 => ?_)
        obtain rfl := u_M_relayLine W H_r4
        refine yG.load xik rfl (fun _ _ => rfl) (v := yI (p1)) rfl rfl ?_
        refine yG.iald A_hq.1 (v_M_relayLine W H_r4) rfl (by omega) (by omega) (fun z5 e_z5 i_z5 l_z5 u_z5 => ?_)
        refine yG.load xak rfl (fun _ _ => rfl) (v := yR 2073) rfl rfl ?_
        refine yG.getO A_hq.1 (w_M_relayEnd W H_2073) rfl rfl (fun r6 H_r6 O_r6 q_r6 => ?_)
        obtain rfl := u_M_relayEnd W H_r6
        refine yG.load xik rfl (fun _ _ => rfl) (v := yI (p1)) rfl rfl ?_
        refine yG.iald A_hq.1 (v_M_relayEnd W H_r6) rfl (by omega) (by omega) (fun z7 e_z7 i_z7 l_z7 u_z7 => ?_)
        refine yG.invV (rest := [yR 2073]) A_hq.1 (bOb (d_M W) H_2073) rfl rfl rfl rfl (c_GModel_nodeOfLine W (d + 1) A_hq.1 H_2073 (z5) (z7) (by omega) (by omega) (by omega) (by omega)) (fun rv hp9 q9 => ?_)
        obtain ⟨⟨z8, rfl, l_z8, u_z8, R_z8⟩, e9⟩ := q9
        rw [e9]
        show yG _ _ _ _ _ _ _ _ _ _ (yI z8 :: [yR 2073]) _
        refine yG.invV (rest := []) A_hq.1 (bOb (d_M W) H_2073) rfl rfl rfl rfl (c_GModel_voltagesOf W (d + 1) A_hq.1 M_bRg_hq H_2073 (z8) (by omega) (by omega)) (fun rv h9 q9 => ?_)
        obtain ⟨q9, M_bRg_h9⟩ := q9
        obtain ⟨⟨rfl, R_z10⟩, B_h9⟩ := q9
        have A_h9 := A_hq.tr B_h9 (by decide)
        show yG _ _ _ _ _ _ _ _ _ _ [] _
        refine yG.load xak rfl (fun _ _ => rfl) (v := yR 2073) rfl rfl ?_
        refine yG.getI A_h9.1 (w_M_isB W H_2073) rfl rfl (fun z11 e_z11 i_z11 l_z11 u_z11 => ?_)
        refine yG.ifz rfl (t := 160) rfl ⟨by omega, by omega⟩ (fun c12 => ?_) (fun c12 => ?_)
        · have c12 : (z11 : Int) = 0 := c12
          refine yG.load xak rfl (fun _ _ => rfl) (v := yR 2073) rfl rfl ?_
          refine yG.num (c := 248) rfl (fun _ _ => rfl) (by decide) ?_
          refine yG.num (c := 255) rfl (fun _ _ => rfl) (by decide) ?_
          refine yG.invV (rest := []) A_h9.1 (bOb (d_M W) H_2073) rfl rfl rfl rfl (c_GModel_squareA_V W (d + 1) A_h9.1 M_bRg_h9 H_2073) (fun rv h13 q9 => ?_)
          obtain ⟨q9, M_bRg_h13⟩ := q9
          obtain ⟨⟨rfl, R_z14⟩, B_h13⟩ := q9
          have A_h13 := A_h9.tr B_h13 (by decide)
          show yG _ _ _ _ _ _ _ _ _ _ [] _
          refine yG.ret rfl (fun _ _ => rfl) ?_
          exact (yP.void ⟨⟨⟨rfl, trivial⟩, A_h13⟩, M_bRg_h13⟩)
        · have c12 : (z11 : Int) ≠ 0 := c12
          refine yG.load xak rfl (fun _ _ => rfl) (v := yR 2073) rfl rfl ?_
          refine yG.num (c := 248) rfl (fun _ _ => rfl) (by decide) ?_
          refine yG.num (c := 255) rfl (fun _ _ => rfl) (by decide) ?_
          refine yG.invV (rest := []) A_h9.1 (bOb (d_M W) H_2073) rfl rfl rfl rfl (c_GModel_squareB_V W (d + 1) A_h9.1 M_bRg_h9 H_2073) (fun rv h15 q9 => ?_)
          obtain ⟨q9, M_bRg_h15⟩ := q9
          obtain ⟨⟨rfl, R_z16⟩, B_h15⟩ := q9
          have A_h15 := A_h9.tr B_h15 (by decide)
          show yG _ _ _ _ _ _ _ _ _ _ [] _
          refine yG.goto rfl (t := 170) rfl ?_
          refine yG.ret rfl (fun _ _ => rfl) ?_
          exact (yP.void ⟨⟨⟨rfl, trivial⟩, A_h15⟩, M_bRg_h15⟩)
  refine yC.of (M := (xt_X13_lookAt, (2, (0, (14, []))))) rfl rfl (N := 204) (yfuel (by decide)) ?_
  show yG 89 xfts (xcall 89 xfts xpools xms (d + 4)) (xpool xp_RX13) [] xt_X13_lookAt (yP 0 (fun rv hp' => (fun rv hp' => (rv = none ∧ True) ∧ bAx G [(83076749736557242056487941267521536, 88), (83076749736557242056487941267521536, 89), (10467670466806212499117480599707713536, 256)] hp hp') rv hp' ∧ bRg G hp')) 204 0 [(0, yR 2073), (1, yI (p1))] [] hp
  have i_110 := H 3
  refine yG.load xak rfl (fun _ _ => rfl) (v := yR 2073) rfl rfl ?_
  refine yG.load xak rfl (fun _ _ => rfl) (v := yR 2073) rfl rfl ?_
  refine yG.getO A_hp.1 (w_M_relayLine W H_2073) rfl rfl (fun r1 H_r1 O_r1 q_r1 => ?_)
  obtain rfl := u_M_relayLine W H_r1
  refine yG.load xik rfl (fun _ _ => rfl) (v := yI (p1)) rfl rfl ?_
  refine yG.iald A_hp.1 (v_M_relayLine W H_r1) rfl (by omega) (by omega) (fun z2 e_z2 i_z2 l_z2 u_z2 => ?_)
  refine yG.load xak rfl (fun _ _ => rfl) (v := yR 2073) rfl rfl ?_
  refine yG.getO A_hp.1 (w_M_relayEnd W H_2073) rfl rfl (fun r3 H_r3 O_r3 q_r3 => ?_)
  obtain rfl := u_M_relayEnd W H_r3
  refine yG.load xik rfl (fun _ _ => rfl) (v := yI (p1)) rfl rfl ?_
  refine yG.iald A_hp.1 (v_M_relayEnd W H_r3) rfl (by omega) (by omega) (fun z4 e_z4 i_z4 l_z4 u_z4 => ?_)
  refine yG.invV (rest := []) A_hp.1 (bOb (d_M W) H_2073) rfl rfl rfl rfl (c_GModel_currentsInto W d A_hp.1 M_bRg_hp H_2073 (z2) (z4) (by omega) (by omega) (by omega) (by omega)) (fun rv h5 q9 => ?_)
  obtain ⟨q9, M_bRg_h5⟩ := q9
  obtain ⟨⟨rfl, R_z6⟩, B_h5⟩ := q9
  have A_h5 := A_hp.tr B_h5 (by decide)
  show yG _ _ _ _ _ _ _ _ _ _ [] _
  refine yG.load xak rfl (fun _ _ => rfl) (v := yR 2073) rfl rfl ?_
  refine yG.load xak rfl (fun _ _ => rfl) (v := yR 2073) rfl rfl ?_
  refine yG.getO A_h5.1 (w_M_sign W H_2073) rfl rfl (fun r7 H_r7 O_r7 q_r7 => ?_)
  obtain rfl := u_M_sign W H_r7
  refine yG.num (c := 205) rfl (fun _ _ => rfl) (by decide) ?_
  refine yG.iald A_h5.1 (v_M_sign W H_r7) rfl (by omega) (by omega) (fun z8 e_z8 i_z8 l_z8 u_z8 => ?_)
  refine yG.putI A_h5.1 (w_M_signOfOne W H_2073) (W.2.1 _ _ H_2073 (by decide) (by decide)) rfl rfl (.inl rfl) ⟨by omega, by omega⟩ (by omega) (by omega) (fun h9 T_h9 b_h9 f_h9 y_h9 => ?_)
  have M_bRg_h9 := M_bRg_h5.fr (bAx.put (Wl := [(83076749736557242056487941267521536, 89)]) (bAx.rf A_h5.1) T_h9 b_h9 f_h9 H_2073 (by decide)) (by decide)
  have A_h9 := A_h5.put T_h9 b_h9 f_h9 H_2073 (by decide)
  refine yG.load xak rfl (fun _ _ => rfl) (v := yR 2073) rfl rfl ?_
  refine yG.num (c := 208) rfl (fun _ _ => rfl) (by decide) ?_
  refine yG.num (c := 209) rfl (fun _ _ => rfl) (by decide) ?_
  refine yG.invV (rest := []) A_h9.1 (bOb (d_M W) H_2073) rfl rfl rfl rfl (c_GModel_squareA_U W (d + 1) A_h9.1 M_bRg_h9 H_2073) (fun rv h10 q9 => ?_)
  obtain ⟨q9, M_bRg_h10⟩ := q9
  obtain ⟨⟨rfl, R_z11⟩, B_h10⟩ := q9
  have A_h10 := A_h9.tr B_h10 (by decide)
  show yG _ _ _ _ _ _ _ _ _ _ [] _
  refine yG.load xak rfl (fun _ _ => rfl) (v := yR 2073) rfl rfl ?_
  refine yG.num (c := 232) rfl (fun _ _ => rfl) (by decide) ?_
  refine yG.num (c := 239) rfl (fun _ _ => rfl) (by decide) ?_
  refine yG.invV (rest := []) A_h10.1 (bOb (d_M W) H_2073) rfl rfl rfl rfl (c_GModel_squareB_X W (d + 1) A_h10.1 M_bRg_h10 H_2073) (fun rv h12 q9 => ?_)
  obtain ⟨q9, M_bRg_h12⟩ := q9
  obtain ⟨q9, Y232_h12, Y239_h12⟩ := q9
  obtain ⟨⟨rfl, R_z13⟩, B_h12⟩ := q9
  have A_h12 := A_h10.tr B_h12 (by decide)
  show yG _ _ _ _ _ _ _ _ _ _ [] _
  refine yG.load xak rfl (fun _ _ => rfl) (v := yR 2073) rfl rfl ?_
  refine yG.num (c := 212) rfl (fun _ _ => rfl) (by decide) ?_
  refine yG.num (c := 208) rfl (fun _ _ => rfl) (by decide) ?_
  refine yG.numl (c := 4) rfl (fun _ _ => rfl) (by decide) ?_
  refine yG.invV (rest := []) A_h12.1 (bOb (d_M W) H_2073) rfl rfl rfl rfl (r_scale W (d + 2) A_h12.1 M_bRg_h12 H_2073 (r := (212)) (p := (208)) (v := (4)) (y := 3) ⟨by omega, by omega⟩ ⟨by omega, by omega⟩ (by omega) (M_bRg_h12.at (x := 3230) (a := 208) (b := 209) (by decide) (by omega) (by omega) (by decide)) (yEb (c := 8) (by decide) (by omega) (by omega)) (by decide) (by decide) (bTb_ge (a := 212) (b := 213) (by decide) (by omega) (by omega))) (fun rv h14 q9 => ?_)
  obtain ⟨rfl, B_h14, M_bRg_h14, Y_h14, V_h14, S_h14⟩ := q9
  have A_h14 := A_h12.tr B_h14 (by decide)
  show yG _ _ _ _ _ _ _ _ _ _ [] _
  refine yG.load xak rfl (fun _ _ => rfl) (v := yR 2073) rfl rfl ?_
  refine yG.load xak rfl (fun _ _ => rfl) (v := yR 2073) rfl rfl ?_
  refine yG.num (c := 232) rfl (fun _ _ => rfl) (by decide) ?_
  refine yG.num (c := 212) rfl (fun _ _ => rfl) (by decide) ?_
  refine yG.invV (rest := [yR 2073]) A_h14.1 (bOb (d_M W) H_2073) rfl rfl rfl rfl (r_compareSizes W (d + 3) A_h14.1 M_bRg_h14 H_2073 (p := (232)) (q := (212)) ⟨by omega, by omega⟩ ⟨by omega, by omega⟩) (fun rv hp9 q9 => ?_)
  obtain ⟨e9, z15, rfl, g_z15⟩ := q9
  rw [e9]
  have l_z15 : -1 ≤ z15 ∧ z15 ≤ 1 := by unfold ysgn at g_z15; omega
  show yG _ _ _ _ _ _ _ _ _ _ (yI z15 :: [yR 2073]) _
  refine yG.ifz rfl (t := 79) rfl ⟨by omega, by omega⟩ (fun c16 => ?_) (fun c16 => ?_)
  · have c16 : (z15 : Int) ≤ 0 := c16
    refine yG.num (c := 0) rfl (fun _ _ => rfl) (by decide) ?_
    refine yG.putI A_h14.1 (w_M_isB W H_2073) (W.2.1 _ _ H_2073 (by decide) (by decide)) rfl rfl (.inr ⟨rfl, rfl, rfl⟩) ⟨by omega, by omega⟩ (by omega) (by omega) (fun h17 T_h17 b_h17 f_h17 y_h17 => ?_)
    have M_bRg_h17 := M_bRg_h14.fr (bAx.put (Wl := [(83076749736557242056487941267521536, 88)]) (bAx.rf A_h14.1) T_h17 b_h17 f_h17 H_2073 (by decide)) (by decide)
    have A_h17 := A_h14.put T_h17 b_h17 f_h17 H_2073 (by decide)
    have : ys h17 2073 88 = 0 := (y_h17 2073 88).trans (if_pos ⟨rfl, rfl⟩)
    refine yG.load xak rfl (fun _ _ => rfl) (v := yR 2073) rfl rfl ?_
    refine yG.getI A_h17.1 (w_M_isB W H_2073) rfl rfl (fun z18 e_z18 i_z18 l_z18 u_z18 => ?_)
    refine yG.ifz rfl (t := 110) rfl ⟨by omega, by omega⟩ (fun c19 => ?_) (fun c19 => ?_)
    · have c19 : (z18 : Int) = 0 := c19
      exact yG.mono (yG.sub (i_110   h17 A_h17 M_bRg_h17   (by omega) (by omega) (by omega)) (ySub.cons rfl (ySub.cons rfl (ySub.nil)))) (by omega)
    · have c19 : (z18 : Int) ≠ 0 := c19
      exfalso; omega
  · have c16 : (z15 : Int) > 0 := c16
    refine yG.num (c := 1) rfl (fun _ _ => rfl) (by decide) ?_
    refine yG.goto rfl (t := 80) rfl ?_
    refine yG.putI A_h14.1 (w_M_isB W H_2073) (W.2.1 _ _ H_2073 (by decide) (by decide)) rfl rfl (.inr ⟨rfl, rfl, rfl⟩) ⟨by omega, by omega⟩ (by omega) (by omega) (fun h20 T_h20 b_h20 f_h20 y_h20 => ?_)
    have M_bRg_h20 := M_bRg_h14.fr (bAx.put (Wl := [(83076749736557242056487941267521536, 88)]) (bAx.rf A_h14.1) T_h20 b_h20 f_h20 H_2073 (by decide)) (by decide)
    have A_h20 := A_h14.put T_h20 b_h20 f_h20 H_2073 (by decide)
    have : ys h20 2073 88 = 1 := (y_h20 2073 88).trans (if_pos ⟨rfl, rfl⟩)
    refine yG.load xak rfl (fun _ _ => rfl) (v := yR 2073) rfl rfl ?_
    refine yG.getI A_h20.1 (w_M_isB W H_2073) rfl rfl (fun z21 e_z21 i_z21 l_z21 u_z21 => ?_)
    refine yG.ifz rfl (t := 110) rfl ⟨by omega, by omega⟩ (fun c22 => ?_) (fun c22 => ?_)
    · have c22 : (z21 : Int) = 0 := c22
      exfalso; omega
    · have c22 : (z21 : Int) ≠ 0 := c22
      refine yG.load xak rfl (fun _ _ => rfl) (v := yR 2073) rfl rfl ?_
      refine yG.num (c := 208) rfl (fun _ _ => rfl) (by decide) ?_
      refine yG.num (c := 232) rfl (fun _ _ => rfl) (by decide) ?_
      refine yG.invV (rest := []) A_h20.1 (bOb (d_M W) H_2073) rfl rfl rfl rfl (r_copy W (d + 3) A_h20.1 M_bRg_h20 H_2073 (r := (208)) (p := (232)) ⟨by omega, by omega⟩ ⟨by omega, by omega⟩ ((Y232_h12.same W.y A_h12.1 (by decide) (S_h14 232 (by omega) (by decide))).same W.y A_h14.1 (by decide) (bRg_same (bAx.put (Wl := [(83076749736557242056487941267521536, 88)]) (bAx.rf A_h14.1) T_h20 b_h20 f_h20 H_2073 (by decide)) W (by decide) 232)) (bTb_ge (a := 208) (b := 209) (by decide) (by omega) (by omega))) (fun rv h23 q9 => ?_)
      obtain ⟨rfl, B_h23, M_bRg_h23, Y_h23, V_h23, S_h23⟩ := q9
      have A_h23 := A_h20.tr B_h23 (by decide)
      have : ys h23 2073 88 = ys h20 2073 88 := B_h23.ys H_2073 (by decide)
      show yG _ _ _ _ _ _ _ _ _ _ [] _
      refine yG.load xak rfl (fun _ _ => rfl) (v := yR 2073) rfl rfl ?_
      refine yG.num (c := 209) rfl (fun _ _ => rfl) (by decide) ?_
      refine yG.num (c := 239) rfl (fun _ _ => rfl) (by decide) ?_
      refine yG.invV (rest := []) A_h23.1 (bOb (d_M W) H_2073) rfl rfl rfl rfl (r_copy W (d + 3) A_h23.1 M_bRg_h23 H_2073 (r := (209)) (p := (239)) ⟨by omega, by omega⟩ ⟨by omega, by omega⟩ (((Y239_h12.same W.y A_h12.1 (by decide) (S_h14 239 (by omega) (by decide))).same W.y A_h14.1 (by decide) (bRg_same (bAx.put (Wl := [(83076749736557242056487941267521536, 88)]) (bAx.rf A_h14.1) T_h20 b_h20 f_h20 H_2073 (by decide)) W (by decide) 239)).same W.y A_h20.1 (by decide) (S_h23 239 (by omega) trivial)) (bTb_ge (a := 209) (b := 210) (by decide) (by omega) (by omega))) (fun rv h24 q9 => ?_)
      obtain ⟨rfl, B_h24, M_bRg_h24, Y_h24, V_h24, S_h24⟩ := q9
      have A_h24 := A_h23.tr B_h24 (by decide)
      have : ys h24 2073 88 = ys h23 2073 88 := B_h24.ys H_2073 (by decide)
      show yG _ _ _ _ _ _ _ _ _ _ [] _
      exact yG.mono (yG.sub (i_110   h24 A_h24 M_bRg_h24   (by omega) (by omega) (by omega)) (ySub.cons rfl (ySub.cons rfl (ySub.nil)))) (by omega)
theorem c_GModel_isMet {hp : xH} (W : mW G) (d : Nat) (hT : zTy G hp) (M_bRg : bRg G hp) (H_2073 : bRo G 116 2073) (p1 p2 : Int) (h1l : 0 ≤ p1) (h1u : p1 ≤ 15) (h2l : 0 ≤ p2) (h2u : p2 ≤ 3) : yC (xcall 89 xfts xpools xms (d + 3)) 430 [yR 2073, yI (p1), yI (p2)] hp (fun rv hp' => (bQi G [(10467670466806212499117480599707713536, 256)] hp 0 1 (fun _ => True)) rv hp' ∧ bRg G hp') := by
  have A_hp : bAx G [(10467670466806212499117480599707713536, 256)] hp hp := bAx.rf hT
  have M_bRg_hp := M_bRg
  refine yC.of (M := (xt_X13_isMet, (5, (4, (14, []))))) rfl rfl (N := 174) (yfuel (by decide)) ?_
  show yG 89 xfts (xcall 89 xfts xpools xms (d + 2)) (xpool xp_RX13) [] xt_X13_isMet (yP 4 (fun rv hp' => (bQi G [(10467670466806212499117480599707713536, 256)] hp 0 1 (fun _ => True)) rv hp' ∧ bRg G hp')) 174 0 [(0, yR 2073), (1, yI (p1)), (2, yI (p2))] [] hp
  refine yG.load xak rfl (fun _ _ => rfl) (v := yR 2073) rfl rfl ?_
  refine yG.getO A_hp.1 (w_M_setting W H_2073) rfl rfl (fun r1 H_r1 O_r1 q_r1 => ?_)
  obtain rfl := u_M_setting W H_r1
  refine yG.num (c := 4) rfl (fun _ _ => rfl) (by decide) ?_
  refine yG.load xik rfl (fun _ _ => rfl) (v := yI (p1)) rfl rfl ?_
  refine yG.imul rfl ?_
  refine yG.load xik rfl (fun _ _ => rfl) (v := yI (p2)) rfl rfl ?_
  refine yG.iadd rfl ?_
  refine yG.iald A_hp.1 (v_M_setting W H_r1) rfl (by omega) (by omega) (fun z2 e_z2 i_z2 l_z2 u_z2 => ?_)
  refine yG.i2l rfl ⟨by omega, by omega⟩ ?_
  refine yG.load xak rfl (fun _ _ => rfl) (v := yR 2073) rfl rfl ?_
  refine yG.getS9 A_hp.1 (w_M_setting W H_2073) q_r1 rfl rfl ?_
  refine yG.num (c := 4) rfl (fun _ _ => rfl) (by decide) ?_
  refine yG.load xik rfl (fun _ _ => rfl) (v := yI (p1)) rfl rfl ?_
  refine yG.imul rfl ?_
  refine yG.load xik rfl (fun _ _ => rfl) (v := yI (p2)) rfl rfl ?_
  refine yG.iadd rfl ?_
  refine yG.iald A_hp.1 (v_M_setting W H_r1) rfl (by omega) (by omega) (fun z3 e_z3 i_z3 l_z3 u_z3 => ?_)
  rw [show (z3 : Int) = z2 by omega]
  refine yG.i2l rfl ⟨by omega, by omega⟩ ?_
  refine yG.lmul rfl ?_
  obtain ⟨z4, e_z4⟩ : ∃ z : Int, z = z2 * z2 := ⟨_, rfl⟩
  rw [← e_z4]
  have b_z4 : 0 ≤ z4 ∧ z4 ≤ 9999800001 := e_z4 ▸ ymulb (A := 99999) (B := 99999) (by omega) (by omega) (by omega) (by omega) (by decide)
  have b2_z4 : z4 ≤ 99999 * z2 := e_z4 ▸ bmulx (by omega) (by omega)
  have b3_z4 : z4 ≤ 99999 * z2 := e_z4 ▸ bmuly (by omega) (by omega)
  refine yG.store2 xlk2 (L' := [(3, yJ (z4)), (0, yR 2073), (1, yI (p1)), (2, yI (p2))]) rfl (fun _ _ => rfl) rfl rfl ?_
  refine yG.load xak rfl (fun _ _ => rfl) (v := yR 2073) rfl rfl ?_
  refine yG.getO A_hp.1 (w_M_relayKind W H_2073) rfl rfl (fun r5 H_r5 O_r5 q_r5 => ?_)
  obtain rfl := u_M_relayKind W H_r5
  refine yG.load xik rfl (fun _ _ => rfl) (v := yI (p1)) rfl rfl ?_
  refine yG.iald A_hp.1 (v_M_relayKind W H_r5) rfl (by omega) (by omega) (fun z6 e_z6 i_z6 l_z6 u_z6 => ?_)
  refine yG.ifz rfl (t := 63) rfl ⟨by omega, by omega⟩ (fun c7 => ?_) (fun c7 => ?_)
  · have c7 : (z6 : Int) ≠ 0 := c7
    refine yG.load xak rfl (fun _ _ => rfl) (v := yR 2073) rfl rfl ?_
    refine yG.getI A_hp.1 (w_M_signOfOne W H_2073) rfl rfl (fun z8 e_z8 i_z8 l_z8 u_z8 => ?_)
    refine yG.ifz rfl (t := 81) rfl ⟨by omega, by omega⟩ (fun c9 => ?_) (fun c9 => ?_)
    · have c9 : (z8 : Int) ≤ 0 := c9
      refine yG.num (c := 0) rfl (fun _ _ => rfl) (by decide) ?_
      refine yG.ret rfl (fun _ _ => rfl) ?_
      exact (yP.bool (by omega) ⟨⟨⟨0, rfl, by omega, by omega, trivial⟩, A_hp⟩, M_bRg_hp⟩)
    · have c9 : (z8 : Int) > 0 := c9
      refine yG.load xak rfl (fun _ _ => rfl) (v := yR 2073) rfl rfl ?_
      refine yG.getO A_hp.1 (w_M_sign W H_2073) rfl rfl (fun r10 H_r10 O_r10 q_r10 => ?_)
      obtain rfl := u_M_sign W H_r10
      refine yG.num (c := 208) rfl (fun _ _ => rfl) (by decide) ?_
      refine yG.iald A_hp.1 (v_M_sign W H_r10) rfl (by omega) (by omega) (fun z11 e_z11 i_z11 l_z11 u_z11 => ?_)
      refine yG.ifz rfl (t := 83) rfl ⟨by omega, by omega⟩ (fun c12 => ?_) (fun c12 => ?_)
      · have c12 : (z11 : Int) ≠ 0 := c12
        refine yG.load xak rfl (fun _ _ => rfl) (v := yR 2073) rfl rfl ?_
        refine yG.num (c := 212) rfl (fun _ _ => rfl) (by decide) ?_
        refine yG.num (c := 248) rfl (fun _ _ => rfl) (by decide) ?_
        refine yG.num (c := 209) rfl (fun _ _ => rfl) (by decide) ?_
        refine yG.invV (rest := []) A_hp.1 (bOb (d_M W) H_2073) rfl rfl rfl rfl (r_times W (d + 1) A_hp.1 M_bRg_hp H_2073 (r := (212)) (p := (248)) (q := (209)) ⟨by omega, by omega⟩ ⟨by omega, by omega⟩ ⟨by omega, by omega⟩ (M_bRg_hp.at (x := 3230) (a := 248) (b := 249) (by decide) (by omega) (by omega) (by decide)) (M_bRg_hp.at (x := 3230) (a := 209) (b := 210) (by decide) (by omega) (by omega) (by decide)) (by decide) (bTb_ge (a := 212) (b := 213) (by decide) (by omega) (by omega))) (fun rv h13 q9 => ?_)
        obtain ⟨rfl, B_h13, M_bRg_h13, Y_h13, V_h13, S_h13⟩ := q9
        have A_h13 := A_hp.tr B_h13 (by decide)
        have qq1 : zsl h13 2073 84 = yR 2130 := (B_h13.sl H_2073 (by decide)).trans q_r1
        have : ys h13 2130 ((4 * p1) + p2 : Int).toNat = ys hp 2130 ((4 * p1) + p2 : Int).toNat := B_h13.ys H_r1 (bNo_ok (by decide) _)
        show yG _ _ _ _ _ _ _ _ _ _ [] _
        refine yG.load xak rfl (fun _ _ => rfl) (v := yR 2073) rfl rfl ?_
        refine yG.num (c := 213) rfl (fun _ _ => rfl) (by decide) ?_
        refine yG.num (c := 208) rfl (fun _ _ => rfl) (by decide) ?_
        refine yG.num (c := 255) rfl (fun _ _ => rfl) (by decide) ?_
        refine yG.invV (rest := []) A_h13.1 (bOb (d_M W) H_2073) rfl rfl rfl rfl (r_times W (d + 1) A_h13.1 M_bRg_h13 H_2073 (r := (213)) (p := (208)) (q := (255)) ⟨by omega, by omega⟩ ⟨by omega, by omega⟩ ⟨by omega, by omega⟩ (M_bRg_h13.at (x := 3230) (a := 208) (b := 209) (by decide) (by omega) (by omega) (by decide)) (M_bRg_h13.at (x := 3230) (a := 255) (b := 256) (by decide) (by omega) (by omega) (by decide)) (by decide) (bTb_ge (a := 213) (b := 214) (by decide) (by omega) (by omega))) (fun rv h14 q9 => ?_)
        obtain ⟨rfl, B_h14, M_bRg_h14, Y_h14, V_h14, S_h14⟩ := q9
        have A_h14 := A_h13.tr B_h14 (by decide)
        have qq2 : zsl h14 2073 84 = yR 2130 := (B_h14.sl H_2073 (by decide)).trans qq1
        have : ys h14 2130 ((4 * p1) + p2 : Int).toNat = ys h13 2130 ((4 * p1) + p2 : Int).toNat := B_h14.ys H_r1 (bNo_ok (by decide) _)
        show yG _ _ _ _ _ _ _ _ _ _ [] _
        refine yG.load xak rfl (fun _ _ => rfl) (v := yR 2073) rfl rfl ?_
        refine yG.num (c := 213) rfl (fun _ _ => rfl) (by decide) ?_
        refine yG.num (c := 213) rfl (fun _ _ => rfl) (by decide) ?_
        refine yG.load xlk2 rfl (fun _ _ => rfl) (v := yJ (z4)) rfl rfl ?_
        refine yG.invV (rest := []) A_h14.1 (bOb (d_M W) H_2073) rfl rfl rfl rfl (r_scale W d A_h14.1 M_bRg_h14 H_2073 (r := (213)) (p := (213)) (v := (z4)) (y := 34) ⟨by omega, by omega⟩ ⟨by omega, by omega⟩ (by omega) Y_h14 (yEb (c := 17179869184) (by decide) (by omega) (by omega)) (by decide) (by decide) (bTb_ge (a := 213) (b := 214) (by decide) (by omega) (by omega))) (fun rv h15 q9 => ?_)
        obtain ⟨rfl, B_h15, M_bRg_h15, Y_h15, V_h15, S_h15⟩ := q9
        have A_h15 := A_h14.tr B_h15 (by decide)
        have qq3 : zsl h15 2073 84 = yR 2130 := (B_h15.sl H_2073 (by decide)).trans qq2
        have : ys h15 2130 ((4 * p1) + p2 : Int).toNat = ys h14 2130 ((4 * p1) + p2 : Int).toNat := B_h15.ys H_r1 (bNo_ok (by decide) _)
        show yG _ _ _ _ _ _ _ _ _ _ [] _
        refine yG.load xak rfl (fun _ _ => rfl) (v := yR 2073) rfl rfl ?_
        refine yG.num (c := 212) rfl (fun _ _ => rfl) (by decide) ?_
        refine yG.num (c := 213) rfl (fun _ _ => rfl) (by decide) ?_
        refine yG.invV (rest := []) A_h15.1 (bOb (d_M W) H_2073) rfl rfl rfl rfl (r_compareSizes W (d + 1) A_h15.1 M_bRg_h15 H_2073 (p := (212)) (q := (213)) ⟨by omega, by omega⟩ ⟨by omega, by omega⟩) (fun rv hp9 q9 => ?_)
        obtain ⟨e9, z16, rfl, g_z16⟩ := q9
        rw [e9]
        have l_z16 : -1 ≤ z16 ∧ z16 ≤ 1 := by unfold ysgn at g_z16; omega
        show yG _ _ _ _ _ _ _ _ _ _ (yI z16 :: []) _
        refine yG.ifz rfl (t := 137) rfl ⟨by omega, by omega⟩ (fun c17 => ?_) (fun c17 => ?_)
        · have c17 : (z16 : Int) > 0 := c17
          refine yG.num (c := 0) rfl (fun _ _ => rfl) (by decide) ?_
          refine yG.ret rfl (fun _ _ => rfl) ?_
          exact (yP.bool (by omega) ⟨⟨⟨0, rfl, by omega, by omega, trivial⟩, A_h15⟩, M_bRg_h15⟩)
        · have c17 : (z16 : Int) ≤ 0 := c17
          refine yG.num (c := 1) rfl (fun _ _ => rfl) (by decide) ?_
          refine yG.goto rfl (t := 138) rfl ?_
          refine yG.ret rfl (fun _ _ => rfl) ?_
          exact (yP.bool (by omega) ⟨⟨⟨1, rfl, by omega, by omega, trivial⟩, A_h15⟩, M_bRg_h15⟩)
      · have c12 : (z11 : Int) = 0 := c12
        refine yG.num (c := 0) rfl (fun _ _ => rfl) (by decide) ?_
        refine yG.ret rfl (fun _ _ => rfl) ?_
        exact (yP.bool (by omega) ⟨⟨⟨0, rfl, by omega, by omega, trivial⟩, A_hp⟩, M_bRg_hp⟩)
  · have c7 : (z6 : Int) = 0 := c7
    refine yG.load xak rfl (fun _ _ => rfl) (v := yR 2073) rfl rfl ?_
    refine yG.num (c := 212) rfl (fun _ _ => rfl) (by decide) ?_
    refine yG.num (c := 209) rfl (fun _ _ => rfl) (by decide) ?_
    refine yG.load xlk2 rfl (fun _ _ => rfl) (v := yJ (z4)) rfl rfl ?_
    refine yG.invV (rest := []) A_hp.1 (bOb (d_M W) H_2073) rfl rfl rfl rfl (r_scale W d A_hp.1 M_bRg_hp H_2073 (r := (212)) (p := (209)) (v := (z4)) (y := 34) ⟨by omega, by omega⟩ ⟨by omega, by omega⟩ (by omega) (M_bRg_hp.at (x := 3230) (a := 209) (b := 210) (by decide) (by omega) (by omega) (by decide)) (yEb (c := 17179869184) (by decide) (by omega) (by omega)) (by decide) (by decide) (bTb_ge (a := 212) (b := 213) (by decide) (by omega) (by omega))) (fun rv h18 q9 => ?_)
    obtain ⟨rfl, B_h18, M_bRg_h18, Y_h18, V_h18, S_h18⟩ := q9
    have A_h18 := A_hp.tr B_h18 (by decide)
    have qq4 : zsl h18 2073 84 = yR 2130 := (B_h18.sl H_2073 (by decide)).trans q_r1
    have : ys h18 2130 ((4 * p1) + p2 : Int).toNat = ys hp 2130 ((4 * p1) + p2 : Int).toNat := B_h18.ys H_r1 (bNo_ok (by decide) _)
    show yG _ _ _ _ _ _ _ _ _ _ [] _
    refine yG.load xak rfl (fun _ _ => rfl) (v := yR 2073) rfl rfl ?_
    refine yG.num (c := 208) rfl (fun _ _ => rfl) (by decide) ?_
    refine yG.num (c := 212) rfl (fun _ _ => rfl) (by decide) ?_
    refine yG.invV (rest := []) A_h18.1 (bOb (d_M W) H_2073) rfl rfl rfl rfl (r_compareSizes W (d + 1) A_h18.1 M_bRg_h18 H_2073 (p := (208)) (q := (212)) ⟨by omega, by omega⟩ ⟨by omega, by omega⟩) (fun rv hp9 q9 => ?_)
    obtain ⟨e9, z19, rfl, g_z19⟩ := q9
    rw [e9]
    have l_z19 : -1 ≤ z19 ∧ z19 ≤ 1 := by unfold ysgn at g_z19; omega
    show yG _ _ _ _ _ _ _ _ _ _ (yI z19 :: []) _
    refine yG.ifz rfl (t := 61) rfl ⟨by omega, by omega⟩ (fun c20 => ?_) (fun c20 => ?_)
    · have c20 : (z19 : Int) ≤ 0 := c20
      refine yG.num (c := 0) rfl (fun _ _ => rfl) (by decide) ?_
      refine yG.ret rfl (fun _ _ => rfl) ?_
      exact (yP.bool (by omega) ⟨⟨⟨0, rfl, by omega, by omega, trivial⟩, A_h18⟩, M_bRg_h18⟩)
    · have c20 : (z19 : Int) > 0 := c20
      refine yG.num (c := 1) rfl (fun _ _ => rfl) (by decide) ?_
      refine yG.goto rfl (t := 62) rfl ?_
      refine yG.ret rfl (fun _ _ => rfl) ?_
      exact (yP.bool (by omega) ⟨⟨⟨1, rfl, by omega, by omega, trivial⟩, A_h18⟩, M_bRg_h18⟩)
theorem c_GModel_met {hp : xH} (W : mW G) (d : Nat) (hT : zTy G hp) (M_bRg : bRg G hp) (M_bSm : bSm G hp) (H_2073 : bRo G 116 2073) (p1 p2 : Int) (h1l : (-2147483648) ≤ p1) (h1u : p1 ≤ 2147483647) (h2l : (-2147483648) ≤ p2) (h2u : p2 ≤ 2147483647) : yC (xcall 89 xfts xpools xms (d + 13)) 455 [yR 2073, yI (p1), yI (p2)] hp (fun rv hp' => (bQi G [(83076749736557242056487941267521536, 0), (83076749736557242056487941267521536, 10), (83076749736557242056487941267521536, 11), (83076749736557242056487941267521536, 38), (83076749736557242056487941267521536, 40), (83076749736557242056487941267521536, 74), (83076749736557242056487941267521536, 75), (83076749736557242056487941267521536, 76), (83076749736557242056487941267521536, 77), (83076749736557242056487941267521536, 88), (83076749736557242056487941267521536, 89), (354024670142887063837228506839924288140607488, 256)] hp 0 1 (fun z => (z = 1 → 0 ≤ p1 ∧ 0 ≤ 0 - p1 + 15 ∧ 0 ≤ p2 ∧ 0 ≤ 0 - p2 + 3))) rv hp' ∧ bRg G hp') := by
  have A_hp : bAx G [(83076749736557242056487941267521536, 0), (83076749736557242056487941267521536, 10), (83076749736557242056487941267521536, 11), (83076749736557242056487941267521536, 38), (83076749736557242056487941267521536, 40), (83076749736557242056487941267521536, 74), (83076749736557242056487941267521536, 75), (83076749736557242056487941267521536, 76), (83076749736557242056487941267521536, 77), (83076749736557242056487941267521536, 88), (83076749736557242056487941267521536, 89), (354024670142887063837228506839924288140607488, 256)] hp hp := bAx.rf hT
  have M_bRg_hp := M_bRg
  refine yC.of (M := (xt_X13_met, (3, (4, (14, []))))) rfl rfl (N := 126) (yfuel (by decide)) ?_
  show yG 89 xfts (xcall 89 xfts xpools xms (d + 12)) (xpool xp_RX13) [] xt_X13_met (yP 4 (fun rv hp' => (bQi G [(83076749736557242056487941267521536, 0), (83076749736557242056487941267521536, 10), (83076749736557242056487941267521536, 11), (83076749736557242056487941267521536, 38), (83076749736557242056487941267521536, 40), (83076749736557242056487941267521536, 74), (83076749736557242056487941267521536, 75), (83076749736557242056487941267521536, 76), (83076749736557242056487941267521536, 77), (83076749736557242056487941267521536, 88), (83076749736557242056487941267521536, 89), (354024670142887063837228506839924288140607488, 256)] hp 0 1 (fun z => (z = 1 → 0 ≤ p1 ∧ 0 ≤ 0 - p1 + 15 ∧ 0 ≤ p2 ∧ 0 ≤ 0 - p2 + 3))) rv hp' ∧ bRg G hp')) 126 0 [(0, yR 2073), (1, yI (p1)), (2, yI (p2))] [] hp
  refine yG.load xak rfl (fun _ _ => rfl) (v := yR 2073) rfl rfl ?_
  refine yG.load xik rfl (fun _ _ => rfl) (v := yI (p1)) rfl rfl ?_
  refine yG.i2l rfl ⟨by omega, by omega⟩ ?_
  refine yG.numl (c := 0) rfl (fun _ _ => rfl) (by decide) ?_
  refine yG.load xak rfl (fun _ _ => rfl) (v := yR 2073) rfl rfl ?_
  refine yG.getI A_hp.1 (w_M_relays W H_2073) rfl rfl (fun z1 e_z1 i_z1 l_z1 u_z1 => ?_)
  refine yG.num (c := 1) rfl (fun _ _ => rfl) (by decide) ?_
  refine yG.isub rfl ?_
  refine yG.i2l rfl ⟨by omega, by omega⟩ ?_
  refine yG.invS (rest := [yR 2073]) rfl rfl rfl rfl (c_GModel_in W (d + 11) A_hp.1 (p1) (0) (z1 - 1) (by omega) (by omega) (by omega) (by omega) (by omega) (by omega)) (fun rv hp9 q9 => ?_)
  obtain ⟨⟨z2, rfl, l_z2, u_z2, R_z2⟩, e9⟩ := q9
  rw [e9]
  show yG _ _ _ _ _ _ _ _ _ _ (yI z2 :: [yR 2073]) _
  refine yG.ifz rfl (t := 35) rfl ⟨by omega, by omega⟩ (fun c3 => ?_) (fun c3 => ?_)
  · have c3 : (z2 : Int) = 0 := c3
    clear R_z2
    refine yG.num (c := 1) rfl (fun _ _ => rfl) (by decide) ?_
    refine yG.goto rfl (t := 40) rfl ?_
    refine yG.putI A_hp.1 (w_M_thrown W H_2073) (W.2.1 _ _ H_2073 (by decide) (by decide)) rfl rfl (.inl rfl) ⟨by omega, by omega⟩ (by omega) (by omega) (fun h4 T_h4 b_h4 f_h4 y_h4 => ?_)
    have M_bRg_h4 := M_bRg_hp.fr (bAx.put (Wl := [(83076749736557242056487941267521536, 0)]) (bAx.rf A_hp.1) T_h4 b_h4 f_h4 H_2073 (by decide)) (by decide)
    have A_h4 := A_hp.put T_h4 b_h4 f_h4 H_2073 (by decide)
    have : ys h4 2073 0 = 1 := (y_h4 2073 0).trans (if_pos ⟨rfl, rfl⟩)
    refine yG.load xak rfl (fun _ _ => rfl) (v := yR 2073) rfl rfl ?_
    refine yG.getI A_h4.1 (w_M_thrown W H_2073) rfl rfl (fun z5 e_z5 i_z5 l_z5 u_z5 => ?_)
    refine yG.ifz rfl (t := 52) rfl ⟨by omega, by omega⟩ (fun c6 => ?_) (fun c6 => ?_)
    · have c6 : (z5 : Int) ≤ 0 := c6
      exfalso; omega
    · have c6 : (z5 : Int) > 0 := c6
      refine yG.num (c := 0) rfl (fun _ _ => rfl) (by decide) ?_
      refine yG.ret rfl (fun _ _ => rfl) ?_
      exact (yP.bool (by omega) ⟨⟨⟨0, rfl, by omega, by omega, by omega⟩, A_h4⟩, M_bRg_h4⟩)
  · have c3 : (z2 : Int) ≠ 0 := c3
    replace R_z2 := R_z2 (by omega)
    refine yG.load xik rfl (fun _ _ => rfl) (v := yI (p2)) rfl rfl ?_
    refine yG.i2l rfl ⟨by omega, by omega⟩ ?_
    refine yG.numl (c := 0) rfl (fun _ _ => rfl) (by decide) ?_
    refine yG.load xak rfl (fun _ _ => rfl) (v := yR 2073) rfl rfl ?_
    refine yG.getO A_hp.1 (w_M_rowCount W H_2073) rfl rfl (fun r7 H_r7 O_r7 q_r7 => ?_)
    obtain rfl := u_M_rowCount W H_r7
    refine yG.load xik rfl (fun _ _ => rfl) (v := yI (p1)) rfl rfl ?_
    refine yG.iald A_hp.1 (v_M_rowCount W H_r7) rfl (by omega) (by omega) (fun z8 e_z8 i_z8 l_z8 u_z8 => ?_)
    refine yG.num (c := 1) rfl (fun _ _ => rfl) (by decide) ?_
    refine yG.isub rfl ?_
    refine yG.i2l rfl ⟨by omega, by omega⟩ ?_
    refine yG.invS (rest := [yR 2073]) rfl rfl rfl rfl (c_GModel_in W (d + 11) A_hp.1 (p2) (0) (z8 - 1) (by omega) (by omega) (by omega) (by omega) (by omega) (by omega)) (fun rv hp9 q9 => ?_)
    obtain ⟨⟨z9, rfl, l_z9, u_z9, R_z9⟩, e9⟩ := q9
    rw [e9]
    show yG _ _ _ _ _ _ _ _ _ _ (yI z9 :: [yR 2073]) _
    refine yG.ifz rfl (t := 39) rfl ⟨by omega, by omega⟩ (fun c10 => ?_) (fun c10 => ?_)
    · have c10 : (z9 : Int) ≠ 0 := c10
      replace R_z9 := R_z9 (by omega)
      refine yG.num (c := 0) rfl (fun _ _ => rfl) (by decide) ?_
      refine yG.putI A_hp.1 (w_M_thrown W H_2073) (W.2.1 _ _ H_2073 (by decide) (by decide)) rfl rfl (.inl rfl) ⟨by omega, by omega⟩ (by omega) (by omega) (fun h11 T_h11 b_h11 f_h11 y_h11 => ?_)
      have M_bRg_h11 := M_bRg_hp.fr (bAx.put (Wl := [(83076749736557242056487941267521536, 0)]) (bAx.rf A_hp.1) T_h11 b_h11 f_h11 H_2073 (by decide)) (by decide)
      have A_h11 := A_hp.put T_h11 b_h11 f_h11 H_2073 (by decide)
      have : ys h11 2073 0 = 0 := (y_h11 2073 0).trans (if_pos ⟨rfl, rfl⟩)
      refine yG.load xak rfl (fun _ _ => rfl) (v := yR 2073) rfl rfl ?_
      refine yG.getI A_h11.1 (w_M_thrown W H_2073) rfl rfl (fun z12 e_z12 i_z12 l_z12 u_z12 => ?_)
      refine yG.ifz rfl (t := 52) rfl ⟨by omega, by omega⟩ (fun c13 => ?_) (fun c13 => ?_)
      · have c13 : (z12 : Int) ≤ 0 := c13
        refine yG.load xak rfl (fun _ _ => rfl) (v := yR 2073) rfl rfl ?_
        refine yG.invV (rest := []) A_h11.1 (bOb (d_M W) H_2073) rfl rfl rfl rfl (c_GModel_netShort W d A_h11.1 M_bRg_h11 (M_bSm.fr A_h11 (by decide)) H_2073) (fun rv h14 q9 => ?_)
        obtain ⟨q9, M_bRg_h14⟩ := q9
        obtain ⟨⟨rfl, R_z15⟩, B_h14⟩ := q9
        have A_h14 := A_h11.tr B_h14 (by decide)
        have : ys h14 2073 0 = ys h11 2073 0 := B_h14.ys H_2073 (by decide)
        show yG _ _ _ _ _ _ _ _ _ _ [] _
        refine yG.load xak rfl (fun _ _ => rfl) (v := yR 2073) rfl rfl ?_
        refine yG.invV (rest := []) A_h14.1 (bOb (d_M W) H_2073) rfl rfl rfl rfl (c_GModel_rowsOfShort W (d + 10) A_h14.1 H_2073) (fun rv h16 q9 => ?_)
        obtain ⟨⟨rfl, R_z17⟩, B_h16⟩ := q9
        have A_h16 := A_h14.tr B_h16 (by decide)
        have M_bRg_h16 := M_bRg_h14.fr B_h16 (by decide)
        have : ys h16 2073 0 = ys h14 2073 0 := B_h16.ys H_2073 (by decide)
        show yG _ _ _ _ _ _ _ _ _ _ [] _
        refine yG.load xak rfl (fun _ _ => rfl) (v := yR 2073) rfl rfl ?_
        refine yG.load xik rfl (fun _ _ => rfl) (v := yI (p1)) rfl rfl ?_
        refine yG.invV (rest := []) A_h16.1 (bOb (d_M W) H_2073) rfl rfl rfl rfl (c_GModel_lookAt W (d + 7) A_h16.1 M_bRg_h16 H_2073 (p1) (by omega) (by omega)) (fun rv h18 q9 => ?_)
        obtain ⟨q9, M_bRg_h18⟩ := q9
        obtain ⟨⟨rfl, R_z19⟩, B_h18⟩ := q9
        have A_h18 := A_h16.tr B_h18 (by decide)
        have : ys h18 2073 0 = ys h16 2073 0 := B_h18.ys H_2073 (by decide)
        show yG _ _ _ _ _ _ _ _ _ _ [] _
        refine yG.load xak rfl (fun _ _ => rfl) (v := yR 2073) rfl rfl ?_
        refine yG.load xik rfl (fun _ _ => rfl) (v := yI (p1)) rfl rfl ?_
        refine yG.load xik rfl (fun _ _ => rfl) (v := yI (p2)) rfl rfl ?_
        refine yG.invV (rest := []) A_h18.1 (bOb (d_M W) H_2073) rfl rfl rfl rfl (c_GModel_isMet W (d + 9) A_h18.1 M_bRg_h18 H_2073 (p1) (p2) (by omega) (by omega) (by omega) (by omega)) (fun rv h20 q9 => ?_)
        obtain ⟨q9, M_bRg_h20⟩ := q9
        obtain ⟨⟨z21, rfl, l_z21, u_z21, R_z21⟩, B_h20⟩ := q9
        have A_h20 := A_h18.tr B_h20 (by decide)
        have : ys h20 2073 0 = ys h18 2073 0 := B_h20.ys H_2073 (by decide)
        show yG _ _ _ _ _ _ _ _ _ _ (yI z21 :: []) _
        refine yG.ret rfl (fun _ _ => rfl) ?_
        exact (yP.bool (by omega) ⟨⟨⟨z21, rfl, by omega, by omega, by omega⟩, A_h20⟩, M_bRg_h20⟩)
      · have c13 : (z12 : Int) > 0 := c13
        exfalso; omega
    · have c10 : (z9 : Int) = 0 := c10
      clear R_z9
      refine yG.num (c := 1) rfl (fun _ _ => rfl) (by decide) ?_
      refine yG.goto rfl (t := 40) rfl ?_
      refine yG.putI A_hp.1 (w_M_thrown W H_2073) (W.2.1 _ _ H_2073 (by decide) (by decide)) rfl rfl (.inl rfl) ⟨by omega, by omega⟩ (by omega) (by omega) (fun h22 T_h22 b_h22 f_h22 y_h22 => ?_)
      have M_bRg_h22 := M_bRg_hp.fr (bAx.put (Wl := [(83076749736557242056487941267521536, 0)]) (bAx.rf A_hp.1) T_h22 b_h22 f_h22 H_2073 (by decide)) (by decide)
      have A_h22 := A_hp.put T_h22 b_h22 f_h22 H_2073 (by decide)
      have : ys h22 2073 0 = 1 := (y_h22 2073 0).trans (if_pos ⟨rfl, rfl⟩)
      refine yG.load xak rfl (fun _ _ => rfl) (v := yR 2073) rfl rfl ?_
      refine yG.getI A_h22.1 (w_M_thrown W H_2073) rfl rfl (fun z23 e_z23 i_z23 l_z23 u_z23 => ?_)
      refine yG.ifz rfl (t := 52) rfl ⟨by omega, by omega⟩ (fun c24 => ?_) (fun c24 => ?_)
      · have c24 : (z23 : Int) ≤ 0 := c24
        exfalso; omega
      · have c24 : (z23 : Int) > 0 := c24
        refine yG.num (c := 0) rfl (fun _ _ => rfl) (by decide) ?_
        refine yG.ret rfl (fun _ _ => rfl) ?_
        exact (yP.bool (by omega) ⟨⟨⟨0, rfl, by omega, by omega, by omega⟩, A_h22⟩, M_bRg_h22⟩)
theorem c_GModel_worstOf_2 {hp : xH} (W : mW G) (d : Nat) (hT : zTy G hp) (M_bRg : bRg G hp) (M_bMm : bMm G hp) (H_2073 : bRo G 116 2073) (p2 p3 : Int) (h2l : 0 ≤ p2) (h2u : p2 ≤ 31) (h3l : 0 ≤ p3) (h3u : p3 ≤ 31) : yC (xcall 89 xfts xpools xms (d + 5)) 545 [yR 2073, yI (214), yI (p2), yI (p3)] hp (fun rv hp' => (fun rv hp' => (fun rv hp' => (rv = none ∧ True) ∧ bAx G [(10467670466806212499117480599707713536, 256)] hp hp') rv hp' ∧ (yBd hp' 214 2240)) rv hp' ∧ bRg G hp') := by
  have A_hp : bAx G [(10467670466806212499117480599707713536, 256)] hp hp := bAx.rf hT
  have M_bRg_hp := M_bRg
  refine yC.of (M := (xt_X13_worstOf, (4, (0, (14, []))))) rfl rfl (N := 111) (yfuel (by decide)) ?_
  show yG 89 xfts (xcall 89 xfts xpools xms (d + 4)) (xpool xp_RX13) [] xt_X13_worstOf (yP 0 (fun rv hp' => (fun rv hp' => (fun rv hp' => (rv = none ∧ True) ∧ bAx G [(10467670466806212499117480599707713536, 256)] hp hp') rv hp' ∧ (yBd hp' 214 2240)) rv hp' ∧ bRg G hp')) 111 0 [(0, yR 2073), (1, yI (214)), (2, yI (p2)), (3, yI (p3))] [] hp
  refine yG.load xak rfl (fun _ _ => rfl) (v := yR 2073) rfl rfl ?_
  refine yG.num (c := 212) rfl (fun _ _ => rfl) (by decide) ?_
  refine yG.num (c := 84) rfl (fun _ _ => rfl) (by decide) ?_
  refine yG.load xik rfl (fun _ _ => rfl) (v := yI (p2)) rfl rfl ?_
  refine yG.iadd rfl ?_
  refine yG.num (c := 84) rfl (fun _ _ => rfl) (by decide) ?_
  refine yG.load xik rfl (fun _ _ => rfl) (v := yI (p2)) rfl rfl ?_
  refine yG.iadd rfl ?_
  refine yG.invV (rest := []) A_hp.1 (bOb (d_M W) H_2073) rfl rfl rfl rfl (r_times W (d + 3) A_hp.1 M_bRg_hp H_2073 (r := (212)) (p := (84 + p2)) (q := (84 + p2)) ⟨by omega, by omega⟩ ⟨by omega, by omega⟩ ⟨by omega, by omega⟩ (M_bRg_hp.at (x := 558) (a := 84) (b := 116) (by decide) (by omega) (by omega) (by decide)) (M_bRg_hp.at (x := 558) (a := 84) (b := 116) (by decide) (by omega) (by omega) (by decide)) (by decide) (bTb_ge (a := 212) (b := 213) (by decide) (by omega) (by omega))) (fun rv h1 q9 => ?_)
  obtain ⟨rfl, B_h1, M_bRg_h1, Y_h1, V_h1, S_h1⟩ := q9
  have A_h1 := A_hp.tr B_h1 (by decide)
  show yG _ _ _ _ _ _ _ _ _ _ [] _
  refine yG.load xak rfl (fun _ _ => rfl) (v := yR 2073) rfl rfl ?_
  refine yG.num (c := 212) rfl (fun _ _ => rfl) (by decide) ?_
  refine yG.num (c := 212) rfl (fun _ _ => rfl) (by decide) ?_
  refine yG.load xak rfl (fun _ _ => rfl) (v := yR 2073) rfl rfl ?_
  refine yG.getO A_h1.1 (w_M_meterWeight W H_2073) rfl rfl (fun r2 H_r2 O_r2 q_r2 => ?_)
  obtain rfl := u_M_meterWeight W H_r2
  refine yG.load xik rfl (fun _ _ => rfl) (v := yI (p2)) rfl rfl ?_
  refine yG.iald A_h1.1 (v_M_meterWeight W H_r2) rfl (by omega) (by omega) (fun z3 e_z3 i_z3 l_z3 u_z3 => ?_)
  refine yG.i2l rfl ⟨by omega, by omega⟩ ?_
  refine yG.invV (rest := []) A_h1.1 (bOb (d_M W) H_2073) rfl rfl rfl rfl (r_scale W (d + 2) A_h1.1 M_bRg_h1 H_2073 (r := (212)) (p := (212)) (v := (z3)) (y := 7) ⟨by omega, by omega⟩ ⟨by omega, by omega⟩ (by omega) Y_h1 (yEb (c := 128) (by decide) (by omega) (by omega)) (by decide) (by decide) (bTb_ge (a := 212) (b := 213) (by decide) (by omega) (by omega))) (fun rv h4 q9 => ?_)
  obtain ⟨rfl, B_h4, M_bRg_h4, Y_h4, V_h4, S_h4⟩ := q9
  have A_h4 := A_h1.tr B_h4 (by decide)
  show yG _ _ _ _ _ _ _ _ _ _ [] _
  refine yG.load xak rfl (fun _ _ => rfl) (v := yR 2073) rfl rfl ?_
  refine yG.num (c := 213) rfl (fun _ _ => rfl) (by decide) ?_
  refine yG.num (c := 52) rfl (fun _ _ => rfl) (by decide) ?_
  refine yG.load xak rfl (fun _ _ => rfl) (v := yR 2073) rfl rfl ?_
  refine yG.load xik rfl (fun _ _ => rfl) (v := yI (p3)) rfl rfl ?_
  refine yG.invV (rest := [yI (52), yI (213), yR 2073]) A_h4.1 (bOb (d_M W) H_2073) rfl rfl rfl rfl (c_GModel_islandOfMeter W d A_h4.1 (M_bMm.fr A_h4 (by decide)) H_2073 (p3) (by omega) (by omega)) (fun rv hp9 q9 => ?_)
  obtain ⟨⟨z5, rfl, l_z5, u_z5, R_z5⟩, e9⟩ := q9
  rw [e9]
  show yG _ _ _ _ _ _ _ _ _ _ (yI z5 :: [yI (52), yI (213), yR 2073]) _
  refine yG.iadd rfl ?_
  refine yG.num (c := 116) rfl (fun _ _ => rfl) (by decide) ?_
  refine yG.load xik rfl (fun _ _ => rfl) (v := yI (p3)) rfl rfl ?_
  refine yG.iadd rfl ?_
  refine yG.invV (rest := []) A_h4.1 (bOb (d_M W) H_2073) rfl rfl rfl rfl (r_times W (d + 3) A_h4.1 M_bRg_h4 H_2073 (r := (213)) (p := (52 + z5)) (q := (116 + p3)) ⟨by omega, by omega⟩ ⟨by omega, by omega⟩ ⟨by omega, by omega⟩ (M_bRg_h4.at (x := 558) (a := 52) (b := 68) (by decide) (by omega) (by omega) (by decide)) (M_bRg_h4.at (x := 558) (a := 116) (b := 148) (by decide) (by omega) (by omega) (by decide)) (by decide) (bTb_ge (a := 213) (b := 214) (by decide) (by omega) (by omega))) (fun rv h6 q9 => ?_)
  obtain ⟨rfl, B_h6, M_bRg_h6, Y_h6, V_h6, S_h6⟩ := q9
  have A_h6 := A_h4.tr B_h6 (by decide)
  show yG _ _ _ _ _ _ _ _ _ _ [] _
  refine yG.load xak rfl (fun _ _ => rfl) (v := yR 2073) rfl rfl ?_
  refine yG.load xik rfl (fun _ _ => rfl) (v := yI (214)) rfl rfl ?_
  refine yG.num (c := 212) rfl (fun _ _ => rfl) (by decide) ?_
  refine yG.num (c := 213) rfl (fun _ _ => rfl) (by decide) ?_
  refine yG.invV (rest := []) A_h6.1 (bOb (d_M W) H_2073) rfl rfl rfl rfl (r_times W (d + 3) A_h6.1 M_bRg_h6 H_2073 (r := (214)) (p := (212)) (q := (213)) ⟨by omega, by omega⟩ ⟨by omega, by omega⟩ ⟨by omega, by omega⟩ (Y_h4.same W.y A_h4.1 (by decide) (S_h6 212 (by omega) trivial)) Y_h6 (by decide) (bTb_ge (a := 214) (b := 215) (by decide) (by omega) (by omega))) (fun rv h7 q9 => ?_)
  obtain ⟨rfl, B_h7, M_bRg_h7, Y_h7, V_h7, S_h7⟩ := q9
  have A_h7 := A_h6.tr B_h7 (by decide)
  show yG _ _ _ _ _ _ _ _ _ _ [] _
  refine yG.ret rfl (fun _ _ => rfl) ?_
  exact (yP.void ⟨⟨⟨⟨rfl, trivial⟩, A_h7⟩, Y_h7.mono (by decide)⟩, M_bRg_h7⟩)
theorem c_GModel_worstOf_3 {hp : xH} (W : mW G) (d : Nat) (hT : zTy G hp) (M_bRg : bRg G hp) (M_bMm : bMm G hp) (H_2073 : bRo G 116 2073) (p2 p3 : Int) (h2l : 0 ≤ p2) (h2u : p2 ≤ 31) (h3l : 0 ≤ p3) (h3u : p3 ≤ 31) : yC (xcall 89 xfts xpools xms (d + 5)) 545 [yR 2073, yI (215), yI (p2), yI (p3)] hp (fun rv hp' => (fun rv hp' => (fun rv hp' => (rv = none ∧ True) ∧ bAx G [(10467670466806212499117480599707713536, 256)] hp hp') rv hp' ∧ (yBd hp' 215 2240)) rv hp' ∧ bRg G hp') := by
  have A_hp : bAx G [(10467670466806212499117480599707713536, 256)] hp hp := bAx.rf hT
  have M_bRg_hp := M_bRg
  refine yC.of (M := (xt_X13_worstOf, (4, (0, (14, []))))) rfl rfl (N := 111) (yfuel (by decide)) ?_
  show yG 89 xfts (xcall 89 xfts xpools xms (d + 4)) (xpool xp_RX13) [] xt_X13_worstOf (yP 0 (fun rv hp' => (fun rv hp' => (fun rv hp' => (rv = none ∧ True) ∧ bAx G [(10467670466806212499117480599707713536, 256)] hp hp') rv hp' ∧ (yBd hp' 215 2240)) rv hp' ∧ bRg G hp')) 111 0 [(0, yR 2073), (1, yI (215)), (2, yI (p2)), (3, yI (p3))] [] hp
  refine yG.load xak rfl (fun _ _ => rfl) (v := yR 2073) rfl rfl ?_
  refine yG.num (c := 212) rfl (fun _ _ => rfl) (by decide) ?_
  refine yG.num (c := 84) rfl (fun _ _ => rfl) (by decide) ?_
  refine yG.load xik rfl (fun _ _ => rfl) (v := yI (p2)) rfl rfl ?_
  refine yG.iadd rfl ?_
  refine yG.num (c := 84) rfl (fun _ _ => rfl) (by decide) ?_
  refine yG.load xik rfl (fun _ _ => rfl) (v := yI (p2)) rfl rfl ?_
  refine yG.iadd rfl ?_
  refine yG.invV (rest := []) A_hp.1 (bOb (d_M W) H_2073) rfl rfl rfl rfl (r_times W (d + 3) A_hp.1 M_bRg_hp H_2073 (r := (212)) (p := (84 + p2)) (q := (84 + p2)) ⟨by omega, by omega⟩ ⟨by omega, by omega⟩ ⟨by omega, by omega⟩ (M_bRg_hp.at (x := 558) (a := 84) (b := 116) (by decide) (by omega) (by omega) (by decide)) (M_bRg_hp.at (x := 558) (a := 84) (b := 116) (by decide) (by omega) (by omega) (by decide)) (by decide) (bTb_ge (a := 212) (b := 213) (by decide) (by omega) (by omega))) (fun rv h1 q9 => ?_)
  obtain ⟨rfl, B_h1, M_bRg_h1, Y_h1, V_h1, S_h1⟩ := q9
  have A_h1 := A_hp.tr B_h1 (by decide)
  show yG _ _ _ _ _ _ _ _ _ _ [] _
  refine yG.load xak rfl (fun _ _ => rfl) (v := yR 2073) rfl rfl ?_
  refine yG.num (c := 212) rfl (fun _ _ => rfl) (by decide) ?_
  refine yG.num (c := 212) rfl (fun _ _ => rfl) (by decide) ?_
  refine yG.load xak rfl (fun _ _ => rfl) (v := yR 2073) rfl rfl ?_
  refine yG.getO A_h1.1 (w_M_meterWeight W H_2073) rfl rfl (fun r2 H_r2 O_r2 q_r2 => ?_)
  obtain rfl := u_M_meterWeight W H_r2
  refine yG.load xik rfl (fun _ _ => rfl) (v := yI (p2)) rfl rfl ?_
  refine yG.iald A_h1.1 (v_M_meterWeight W H_r2) rfl (by omega) (by omega) (fun z3 e_z3 i_z3 l_z3 u_z3 => ?_)
  refine yG.i2l rfl ⟨by omega, by omega⟩ ?_
  refine yG.invV (rest := []) A_h1.1 (bOb (d_M W) H_2073) rfl rfl rfl rfl (r_scale W (d + 2) A_h1.1 M_bRg_h1 H_2073 (r := (212)) (p := (212)) (v := (z3)) (y := 7) ⟨by omega, by omega⟩ ⟨by omega, by omega⟩ (by omega) Y_h1 (yEb (c := 128) (by decide) (by omega) (by omega)) (by decide) (by decide) (bTb_ge (a := 212) (b := 213) (by decide) (by omega) (by omega))) (fun rv h4 q9 => ?_)
  obtain ⟨rfl, B_h4, M_bRg_h4, Y_h4, V_h4, S_h4⟩ := q9
  have A_h4 := A_h1.tr B_h4 (by decide)
  show yG _ _ _ _ _ _ _ _ _ _ [] _
  refine yG.load xak rfl (fun _ _ => rfl) (v := yR 2073) rfl rfl ?_
  refine yG.num (c := 213) rfl (fun _ _ => rfl) (by decide) ?_
  refine yG.num (c := 52) rfl (fun _ _ => rfl) (by decide) ?_
  refine yG.load xak rfl (fun _ _ => rfl) (v := yR 2073) rfl rfl ?_
  refine yG.load xik rfl (fun _ _ => rfl) (v := yI (p3)) rfl rfl ?_
  refine yG.invV (rest := [yI (52), yI (213), yR 2073]) A_h4.1 (bOb (d_M W) H_2073) rfl rfl rfl rfl (c_GModel_islandOfMeter W d A_h4.1 (M_bMm.fr A_h4 (by decide)) H_2073 (p3) (by omega) (by omega)) (fun rv hp9 q9 => ?_)
  obtain ⟨⟨z5, rfl, l_z5, u_z5, R_z5⟩, e9⟩ := q9
  rw [e9]
  show yG _ _ _ _ _ _ _ _ _ _ (yI z5 :: [yI (52), yI (213), yR 2073]) _
  refine yG.iadd rfl ?_
  refine yG.num (c := 116) rfl (fun _ _ => rfl) (by decide) ?_
  refine yG.load xik rfl (fun _ _ => rfl) (v := yI (p3)) rfl rfl ?_
  refine yG.iadd rfl ?_
  refine yG.invV (rest := []) A_h4.1 (bOb (d_M W) H_2073) rfl rfl rfl rfl (r_times W (d + 3) A_h4.1 M_bRg_h4 H_2073 (r := (213)) (p := (52 + z5)) (q := (116 + p3)) ⟨by omega, by omega⟩ ⟨by omega, by omega⟩ ⟨by omega, by omega⟩ (M_bRg_h4.at (x := 558) (a := 52) (b := 68) (by decide) (by omega) (by omega) (by decide)) (M_bRg_h4.at (x := 558) (a := 116) (b := 148) (by decide) (by omega) (by omega) (by decide)) (by decide) (bTb_ge (a := 213) (b := 214) (by decide) (by omega) (by omega))) (fun rv h6 q9 => ?_)
  obtain ⟨rfl, B_h6, M_bRg_h6, Y_h6, V_h6, S_h6⟩ := q9
  have A_h6 := A_h4.tr B_h6 (by decide)
  show yG _ _ _ _ _ _ _ _ _ _ [] _
  refine yG.load xak rfl (fun _ _ => rfl) (v := yR 2073) rfl rfl ?_
  refine yG.load xik rfl (fun _ _ => rfl) (v := yI (215)) rfl rfl ?_
  refine yG.num (c := 212) rfl (fun _ _ => rfl) (by decide) ?_
  refine yG.num (c := 213) rfl (fun _ _ => rfl) (by decide) ?_
  refine yG.invV (rest := []) A_h6.1 (bOb (d_M W) H_2073) rfl rfl rfl rfl (r_times W (d + 3) A_h6.1 M_bRg_h6 H_2073 (r := (215)) (p := (212)) (q := (213)) ⟨by omega, by omega⟩ ⟨by omega, by omega⟩ ⟨by omega, by omega⟩ (Y_h4.same W.y A_h4.1 (by decide) (S_h6 212 (by omega) trivial)) Y_h6 (by decide) (bTb_ge (a := 215) (b := 216) (by decide) (by omega) (by omega))) (fun rv h7 q9 => ?_)
  obtain ⟨rfl, B_h7, M_bRg_h7, Y_h7, V_h7, S_h7⟩ := q9
  have A_h7 := A_h6.tr B_h7 (by decide)
  show yG _ _ _ _ _ _ _ _ _ _ [] _
  refine yG.ret rfl (fun _ _ => rfl) ?_
  exact (yP.void ⟨⟨⟨⟨rfl, trivial⟩, A_h7⟩, Y_h7.mono (by decide)⟩, M_bRg_h7⟩)
theorem c_GModel_isWorse {hp : xH} (W : mW G) (d : Nat) (hT : zTy G hp) (M_bRg : bRg G hp) (M_bMm : bMm G hp) (H_2073 : bRo G 116 2073) (p1 p2 : Int) (h1l : 0 ≤ p1) (h1u : p1 ≤ 31) (h2l : 0 ≤ p2) (h2u : p2 ≤ 31) : yC (xcall 89 xfts xpools xms (d + 6)) 436 [yR 2073, yI (p1), yI (p2)] hp (fun rv hp' => (bQi G [(10467670466806212499117480599707713536, 256)] hp 0 1 (fun _ => True)) rv hp' ∧ bRg G hp') := by
  have A_hp : bAx G [(10467670466806212499117480599707713536, 256)] hp hp := bAx.rf hT
  have M_bRg_hp := M_bRg
  refine yC.of (M := (xt_X13_isWorse, (3, (4, (14, []))))) rfl rfl (N := 60) (yfuel (by decide)) ?_
  show yG 89 xfts (xcall 89 xfts xpools xms (d + 5)) (xpool xp_RX13) [] xt_X13_isWorse (yP 4 (fun rv hp' => (bQi G [(10467670466806212499117480599707713536, 256)] hp 0 1 (fun _ => True)) rv hp' ∧ bRg G hp')) 60 0 [(0, yR 2073), (1, yI (p1)), (2, yI (p2))] [] hp
  refine yG.load xak rfl (fun _ _ => rfl) (v := yR 2073) rfl rfl ?_
  refine yG.num (c := 214) rfl (fun _ _ => rfl) (by decide) ?_
  refine yG.load xik rfl (fun _ _ => rfl) (v := yI (p1)) rfl rfl ?_
  refine yG.load xik rfl (fun _ _ => rfl) (v := yI (p2)) rfl rfl ?_
  refine yG.invV (rest := []) A_hp.1 (bOb (d_M W) H_2073) rfl rfl rfl rfl (c_GModel_worstOf_2 W d A_hp.1 M_bRg_hp M_bMm H_2073 (p1) (p2) (by omega) (by omega) (by omega) (by omega)) (fun rv h1 q9 => ?_)
  obtain ⟨q9, M_bRg_h1⟩ := q9
  obtain ⟨q9, Y214_h1⟩ := q9
  obtain ⟨⟨rfl, R_z2⟩, B_h1⟩ := q9
  have A_h1 := A_hp.tr B_h1 (by decide)
  show yG _ _ _ _ _ _ _ _ _ _ [] _
  refine yG.load xak rfl (fun _ _ => rfl) (v := yR 2073) rfl rfl ?_
  refine yG.num (c := 215) rfl (fun _ _ => rfl) (by decide) ?_
  refine yG.load xik rfl (fun _ _ => rfl) (v := yI (p2)) rfl rfl ?_
  refine yG.load xik rfl (fun _ _ => rfl) (v := yI (p1)) rfl rfl ?_
  refine yG.invV (rest := []) A_h1.1 (bOb (d_M W) H_2073) rfl rfl rfl rfl (c_GModel_worstOf_3 W d A_h1.1 M_bRg_h1 (M_bMm.fr A_h1 (by decide)) H_2073 (p2) (p1) (by omega) (by omega) (by omega) (by omega)) (fun rv h3 q9 => ?_)
  obtain ⟨q9, M_bRg_h3⟩ := q9
  obtain ⟨q9, Y215_h3⟩ := q9
  obtain ⟨⟨rfl, R_z4⟩, B_h3⟩ := q9
  have A_h3 := A_h1.tr B_h3 (by decide)
  show yG _ _ _ _ _ _ _ _ _ _ [] _
  refine yG.load xak rfl (fun _ _ => rfl) (v := yR 2073) rfl rfl ?_
  refine yG.num (c := 214) rfl (fun _ _ => rfl) (by decide) ?_
  refine yG.num (c := 215) rfl (fun _ _ => rfl) (by decide) ?_
  refine yG.invV (rest := []) A_h3.1 (bOb (d_M W) H_2073) rfl rfl rfl rfl (r_compareSizes W (d + 4) A_h3.1 M_bRg_h3 H_2073 (p := (214)) (q := (215)) ⟨by omega, by omega⟩ ⟨by omega, by omega⟩) (fun rv hp9 q9 => ?_)
  obtain ⟨e9, z5, rfl, g_z5⟩ := q9
  rw [e9]
  have l_z5 : -1 ≤ z5 ∧ z5 ≤ 1 := by unfold ysgn at g_z5; omega
  show yG _ _ _ _ _ _ _ _ _ _ (yI z5 :: []) _
  refine yG.ifz rfl (t := 35) rfl ⟨by omega, by omega⟩ (fun c6 => ?_) (fun c6 => ?_)
  · have c6 : (z5 : Int) ≤ 0 := c6
    refine yG.num (c := 0) rfl (fun _ _ => rfl) (by decide) ?_
    refine yG.ret rfl (fun _ _ => rfl) ?_
    exact (yP.bool (by omega) ⟨⟨⟨0, rfl, by omega, by omega, trivial⟩, A_h3⟩, M_bRg_h3⟩)
  · have c6 : (z5 : Int) > 0 := c6
    refine yG.num (c := 1) rfl (fun _ _ => rfl) (by decide) ?_
    refine yG.goto rfl (t := 36) rfl ?_
    refine yG.ret rfl (fun _ _ => rfl) ?_
    exact (yP.bool (by omega) ⟨⟨⟨1, rfl, by omega, by omega, trivial⟩, A_h3⟩, M_bRg_h3⟩)
theorem c_GModel_estimates {hp : xH} (W : mW G) (d : Nat) (hT : zTy G hp) (M_bRg : bRg G hp) (M_bMm : bMm G hp) (M_bPr : bPr G hp) (H_2073 : bRo G 116 2073) : yC (xcall 89 xfts xpools xms (d + 8)) 394 [yR 2073] hp (fun rv hp' => (fun rv hp' => (rv = none ∧ True) ∧ bAx G [(83076749736557242056487941267521536, 10), (83076749736557242056487941267521536, 11), (83076749736557242056487941267521536, 38), (83076749736557242056487941267521536, 62), (362452760082734066601577675742145028798959411265536, 256)] hp hp') rv hp' ∧ bRg G hp') := by
  have A_hp : bAx G [(83076749736557242056487941267521536, 10), (83076749736557242056487941267521536, 11), (83076749736557242056487941267521536, 38), (83076749736557242056487941267521536, 62), (362452760082734066601577675742145028798959411265536, 256)] hp hp := bAx.rf hT
  have M_bRg_hp := M_bRg
  have H : ∀ m : Nat, (∀ a1 : Int, ∀ hq, bAx G [(83076749736557242056487941267521536, 10), (83076749736557242056487941267521536, 11), (83076749736557242056487941267521536, 38), (83076749736557242056487941267521536, 62), (362452760082734066601577675742145028798959411265536, 256)] hp hq → bRg G hq → 0 ≤ a1 → (-16) ≤ 0 - a1 → 0 - 2 * a1 + 33 < (m : Int) → yG 89 xfts (xcall 89 xfts xpools xms (d + 7)) (xpool xp_RX13) [] xt_X13_estimates (yP 0 (fun rv hp' => (fun rv hp' => (rv = none ∧ True) ∧ bAx G [(83076749736557242056487941267521536, 10), (83076749736557242056487941267521536, 11), (83076749736557242056487941267521536, 38), (83076749736557242056487941267521536, 62), (362452760082734066601577675742145028798959411265536, 256)] hp hp') rv hp' ∧ bRg G hp')) (38 * m) 14 [(0, yR 2073), (1, yI (a1))] [] hq) := by
    intro m
    induction m with
    | zero =>
      intros; exfalso; omega
    | succ m ih =>
      have i_14 := ih
      clear ih
      intro a1 hq A_hq M_bRg_hq f0 f1 hm
      refine yG.mono (N := 38 * m + 38) ?_ (by omega)
      refine yG.load xik rfl (fun _ _ => rfl) (v := yI (a1)) rfl rfl ?_
      refine yG.load xak rfl (fun _ _ => rfl) (v := yR 2073) rfl rfl ?_
      refine yG.getO A_hq.1 (w_M_count W H_2073) rfl rfl (fun r1 H_r1 O_r1 q_r1 => ?_)
      obtain rfl := u_M_count W H_r1
      refine yG.num (c := 0) rfl (fun _ _ => rfl) (by decide) ?_
      refine yG.ialdF A_hq.1 (v_M_count W H_r1) rfl rfl (by omega) (by omega) (fun z2 e_z2 i_z2 l_z2 u_z2 => ?_)
      refine yG.icmp rfl (t := 76) rfl ⟨by omega, by omega⟩ ⟨by omega, by omega⟩ (fun c3 => ?_) (fun c3 => ?_)
      · have c3 : (a1 : Int) ≥ z2 := c3
        refine yG.load xak rfl (fun _ _ => rfl) (v := yR 2073) rfl rfl ?_
        refine yG.num (c := 1) rfl (fun _ _ => rfl) (by decide) ?_
        refine yG.putI A_hq.1 (w_M_hasEstimates W H_2073) (W.2.1 _ _ H_2073 (by decide) (by decide)) rfl rfl (.inr ⟨rfl, rfl, rfl⟩) ⟨by omega, by omega⟩ (by omega) (by omega) (fun h4 T_h4 b_h4 f_h4 y_h4 => ?_)
        have M_bRg_h4 := M_bRg_hq.fr (bAx.put (Wl := [(83076749736557242056487941267521536, 62)]) (bAx.rf A_hq.1) T_h4 b_h4 f_h4 H_2073 (by decide)) (by decide)
        have A_h4 := A_hq.put T_h4 b_h4 f_h4 H_2073 (by decide)
        refine yG.ret rfl (fun _ _ => rfl) ?_
        exact (yP.void ⟨⟨⟨rfl, trivial⟩, A_h4⟩, M_bRg_h4⟩)
      · have c3 : (a1 : Int) < z2 := c3
        refine yG.load xak rfl (fun _ _ => rfl) (v := yR 2073) rfl rfl ?_
        refine yG.getO A_hq.1 (w_M_island W H_2073) rfl rfl (fun r5 H_r5 O_r5 q_r5 => ?_)
        obtain rfl := u_M_island W H_r5
        refine yG.load xik rfl (fun _ _ => rfl) (v := yI (a1)) rfl rfl ?_
        refine yG.ialdF A_hq.1 (v_M_island W H_r5) rfl rfl (by omega) (by omega) (fun z6 e_z6 i_z6 l_z6 u_z6 => ?_)
        refine yG.load xik rfl (fun _ _ => rfl) (v := yI (a1)) rfl rfl ?_
        refine yG.icmp rfl (t := 70) rfl ⟨by omega, by omega⟩ ⟨by omega, by omega⟩ (fun c7 => ?_) (fun c7 => ?_)
        · have c7 : (z6 : Int) ≠ a1 := c7
          refine yG.iinc rfl (a := a1) rfl (L' := [(1, yI (a1 + 1)), (0, yR 2073)]) rfl ?_
          refine yG.goto rfl (t := 14) rfl ?_
          exact yG.mono (yG.sub (i_14 (a1 + 1)  hq A_hq M_bRg_hq   (by omega) (by omega) (by omega)) (ySub.cons rfl (ySub.cons rfl (ySub.nil)))) (by omega)
        · have c7 : (z6 : Int) = a1 := c7
          refine yG.load xak rfl (fun _ _ => rfl) (v := yR 2073) rfl rfl ?_
          refine yG.load xik rfl (fun _ _ => rfl) (v := yI (a1)) rfl rfl ?_
          refine yG.invV (rest := []) A_hq.1 (bOb (d_M W) H_2073) rfl rfl rfl rfl (c_GModel_listNodes W (d + 6) A_hq.1 H_2073 (a1) (by omega) (by omega)) (fun rv h8 q9 => ?_)
          obtain ⟨⟨rfl, R_z9⟩, B_h8⟩ := q9
          have A_h8 := A_hq.tr B_h8 (by decide)
          have M_bRg_h8 := M_bRg_hq.fr B_h8 (by decide)
          show yG _ _ _ _ _ _ _ _ _ _ [] _
          refine yG.load xak rfl (fun _ _ => rfl) (v := yR 2073) rfl rfl ?_
          refine yG.load xik rfl (fun _ _ => rfl) (v := yI (a1)) rfl rfl ?_
          refine yG.load xak rfl (fun _ _ => rfl) (v := yR 2073) rfl rfl ?_
          refine yG.getI A_h8.1 (w_M_nodes W H_2073) rfl rfl (fun z10 e_z10 i_z10 l_z10 u_z10 => ?_)
          refine yG.num (c := 1) rfl (fun _ _ => rfl) (by decide) ?_
          refine yG.isub rfl ?_
          refine yG.invV (rest := []) A_h8.1 (bOb (d_M W) H_2073) rfl rfl rfl rfl (c_GModel_estimateOf W d A_h8.1 M_bRg_h8 (M_bMm.fr A_h8 (by decide)) H_2073 (a1) (z10 - 1) (by omega) (by omega) (by omega) (by omega)) (fun rv h11 q9 => ?_)
          obtain ⟨q9, M_bRg_h11⟩ := q9
          obtain ⟨⟨rfl, R_z12⟩, B_h11⟩ := q9
          have A_h11 := A_h8.tr B_h11 (by decide)
          have : ys h11 2073 38 = ys h8 2073 38 := B_h11.ys H_2073 (by decide)
          show yG _ _ _ _ _ _ _ _ _ _ [] _
          refine yG.load xak rfl (fun _ _ => rfl) (v := yR 2073) rfl rfl ?_
          refine yG.getO A_h11.1 (w_M_isWhole W H_2073) rfl rfl (fun r13 H_r13 O_r13 q_r13 => ?_)
          obtain rfl := u_M_isWhole W H_r13
          refine yG.load xik rfl (fun _ _ => rfl) (v := yI (a1)) rfl rfl ?_
          refine yG.bald A_h11.1 (v_M_isWhole W H_r13) rfl (by omega) (by omega) (fun z14 e_z14 i_z14 l_z14 u_z14 => ?_)
          refine yG.ifz rfl (t := 70) rfl ⟨by omega, by omega⟩ (fun c15 => ?_) (fun c15 => ?_)
          · have c15 : (z14 : Int) ≠ 0 := c15
            refine yG.iinc rfl (a := a1) rfl (L' := [(1, yI (a1 + 1)), (0, yR 2073)]) rfl ?_
            refine yG.goto rfl (t := 14) rfl ?_
            exact yG.mono (yG.sub (i_14 (a1 + 1)  h11 A_h11 M_bRg_h11   (by omega) (by omega) (by omega)) (ySub.cons rfl (ySub.cons rfl (ySub.nil)))) (by omega)
          · have c15 : (z14 : Int) = 0 := c15
            refine yG.load xak rfl (fun _ _ => rfl) (v := yR 2073) rfl rfl ?_
            refine yG.load xik rfl (fun _ _ => rfl) (v := yI (a1)) rfl rfl ?_
            refine yG.load xak rfl (fun _ _ => rfl) (v := yR 2073) rfl rfl ?_
            refine yG.getI A_h11.1 (w_M_nodes W H_2073) rfl rfl (fun z16 e_z16 i_z16 l_z16 u_z16 => ?_)
            rw [show (z16 : Int) = z10 by omega]
            refine yG.num (c := 1) rfl (fun _ _ => rfl) (by decide) ?_
            refine yG.isub rfl ?_
            refine yG.invV (rest := []) A_h11.1 (bOb (d_M W) H_2073) rfl rfl rfl rfl (c_GModel_seenOf W (d + 1) A_h11.1 (M_bPr.fr A_h11 (by decide)) (M_bMm.fr A_h11 (by decide)) H_2073 (a1) (z10 - 1) (by omega) (by omega) (by omega) (by omega)) (fun rv h17 q9 => ?_)
            obtain ⟨⟨rfl, R_z18⟩, B_h17⟩ := q9
            have A_h17 := A_h11.tr B_h17 (by decide)
            have M_bRg_h17 := M_bRg_h11.fr B_h17 (by decide)
            have : ys h17 2073 38 = ys h11 2073 38 := B_h17.ys H_2073 (by decide)
            show yG _ _ _ _ _ _ _ _ _ _ [] _
            refine yG.iinc rfl (a := a1) rfl (L' := [(1, yI (a1 + 1)), (0, yR 2073)]) rfl ?_
            refine yG.goto rfl (t := 14) rfl ?_
            exact yG.mono (yG.sub (i_14 (a1 + 1)  h17 A_h17 M_bRg_h17   (by omega) (by omega) (by omega)) (ySub.cons rfl (ySub.cons rfl (ySub.nil)))) (by omega)
  refine yC.of (M := (xt_X13_estimates, (2, (0, (14, []))))) rfl rfl (N := 1368) (yfuel (by decide)) ?_
  show yG 89 xfts (xcall 89 xfts xpools xms (d + 7)) (xpool xp_RX13) [] xt_X13_estimates (yP 0 (fun rv hp' => (fun rv hp' => (rv = none ∧ True) ∧ bAx G [(83076749736557242056487941267521536, 10), (83076749736557242056487941267521536, 11), (83076749736557242056487941267521536, 38), (83076749736557242056487941267521536, 62), (362452760082734066601577675742145028798959411265536, 256)] hp hp') rv hp' ∧ bRg G hp')) 1368 0 [(0, yR 2073)] [] hp
  have i_14 := H 35
  refine yG.load xak rfl (fun _ _ => rfl) (v := yR 2073) rfl rfl ?_
  refine yG.getI A_hp.1 (w_M_hasEstimates W H_2073) rfl rfl (fun z1 e_z1 i_z1 l_z1 u_z1 => ?_)
  refine yG.ifz rfl (t := 8) rfl ⟨by omega, by omega⟩ (fun c2 => ?_) (fun c2 => ?_)
  · have c2 : (z1 : Int) = 0 := c2
    refine yG.load xak rfl (fun _ _ => rfl) (v := yR 2073) rfl rfl ?_
    refine yG.invV (rest := []) A_hp.1 (bOb (d_M W) H_2073) rfl rfl rfl rfl (c_GModel_netTopology W (d + 3) A_hp.1 H_2073) (fun rv h3 q9 => ?_)
    obtain ⟨⟨rfl, R_z4⟩, B_h3⟩ := q9
    have A_h3 := A_hp.tr B_h3 (by decide)
    have M_bRg_h3 := M_bRg_hp.fr B_h3 (by decide)
    show yG _ _ _ _ _ _ _ _ _ _ [] _
    refine yG.num (c := 0) rfl (fun _ _ => rfl) (by decide) ?_
    refine yG.store1 xik (L' := [(1, yI (0)), (0, yR 2073)]) rfl (fun _ _ => rfl) rfl rfl ?_
    exact yG.mono (yG.sub (i_14 (0)  h3 A_h3 M_bRg_h3   (by omega) (by omega) (by omega)) (ySub.cons rfl (ySub.cons rfl (ySub.nil)))) (by omega)
  · have c2 : (z1 : Int) ≠ 0 := c2
    refine yG.ret rfl (fun _ _ => rfl) ?_
    exact (yP.void ⟨⟨⟨rfl, trivial⟩, A_hp⟩, M_bRg_hp⟩)
theorem c_GModel_worst {hp : xH} (W : mW G) (d : Nat) (hT : zTy G hp) (M_bRg : bRg G hp) (M_bMm : bMm G hp) (M_bPr : bPr G hp) (H_2073 : bRo G 116 2073) : yC (xcall 89 xfts xpools xms (d + 9)) 544 [yR 2073] hp (fun rv hp' => (bQi G [(83076749736557242056487941267521536, 0), (83076749736557242056487941267521536, 10), (83076749736557242056487941267521536, 11), (83076749736557242056487941267521536, 38), (83076749736557242056487941267521536, 62), (362452760082734066601577675742145028798959411265536, 256)] hp (-1) 31 (fun _ => True)) rv hp' ∧ bRg G hp') := by
  have A_hp : bAx G [(83076749736557242056487941267521536, 0), (83076749736557242056487941267521536, 10), (83076749736557242056487941267521536, 11), (83076749736557242056487941267521536, 38), (83076749736557242056487941267521536, 62), (362452760082734066601577675742145028798959411265536, 256)] hp hp := bAx.rf hT
  have M_bRg_hp := M_bRg
  have H : ∀ m : Nat, (∀ a1 : Int, ∀ a2 : Int, ∀ hq, bAx G [(83076749736557242056487941267521536, 0), (83076749736557242056487941267521536, 10), (83076749736557242056487941267521536, 11), (83076749736557242056487941267521536, 38), (83076749736557242056487941267521536, 62), (362452760082734066601577675742145028798959411265536, 256)] hp hq → bRg G hq → (-1) ≤ a1 → (-31) ≤ 0 - a1 → 0 ≤ a2 → (-32) ≤ 0 - a2 → 1 ≤ 0 - a1 + a2 → 0 - 2 * a2 + 65 < (m : Int) → yG 89 xfts (xcall 89 xfts xpools xms (d + 8)) (xpool xp_RX13) [] xt_X13_worst (yP 1 (fun rv hp' => (bQi G [(83076749736557242056487941267521536, 0), (83076749736557242056487941267521536, 10), (83076749736557242056487941267521536, 11), (83076749736557242056487941267521536, 38), (83076749736557242056487941267521536, 62), (362452760082734066601577675742145028798959411265536, 256)] hp (-1) 31 (fun _ => True)) rv hp' ∧ bRg G hp')) (38 * m) 17 [(0, yR 2073), (1, yI (a1)), (2, yI (a2))] [] hq) := by
    intro m
    induction m with
    | zero =>
      intros; exfalso; omega
    | succ m ih =>
      have i_17 := ih
      clear ih
      intro a1 a2 hq A_hq M_bRg_hq f0 f1 f2 f3 f4 hm
      refine yG.mono (N := 38 * m + 38) ?_ (by omega)
      refine yG.load xik rfl (fun _ _ => rfl) (v := yI (a2)) rfl rfl ?_
      refine yG.load xak rfl (fun _ _ => rfl) (v := yR 2073) rfl rfl ?_
      refine yG.getI A_hq.1 (w_M_meters W H_2073) rfl rfl (fun z1 e_z1 i_z1 l_z1 u_z1 => ?_)
      refine yG.icmp rfl (t := 85) rfl ⟨by omega, by omega⟩ ⟨by omega, by omega⟩ (fun c2 => ?_) (fun c2 => ?_)
      · have c2 : (a2 : Int) ≥ z1 := c2
        refine yG.load xik rfl (fun _ _ => rfl) (v := yI (a1)) rfl rfl ?_
        refine yG.ret rfl (fun _ _ => rfl) ?_
        exact (yP.int ⟨by omega, by omega⟩ ⟨⟨⟨a1, rfl, by omega, by omega, trivial⟩, A_hq⟩, M_bRg_hq⟩)
      · have c2 : (a2 : Int) < z1 := c2
        refine yG.load xak rfl (fun _ _ => rfl) (v := yR 2073) rfl rfl ?_
        refine yG.load xik rfl (fun _ _ => rfl) (v := yI (a2)) rfl rfl ?_
        refine yG.invV (rest := []) A_hq.1 (bOb (d_M W) H_2073) rfl rfl rfl rfl (c_GModel_islandOfMeter W (d + 4) A_hq.1 (M_bMm.fr A_hq (by decide)) H_2073 (a2) (by omega) (by omega)) (fun rv hp9 q9 => ?_)
        obtain ⟨⟨z3, rfl, l_z3, u_z3, R_z3⟩, e9⟩ := q9
        rw [e9]
        show yG _ _ _ _ _ _ _ _ _ _ (yI z3 :: []) _
        refine yG.store1 xik (L' := [(3, yI (z3)), (0, yR 2073), (1, yI (a1)), (2, yI (a2))]) rfl (fun _ _ => rfl) rfl rfl ?_
        refine yG.load xak rfl (fun _ _ => rfl) (v := yR 2073) rfl rfl ?_
        refine yG.getO A_hq.1 (w_M_isWhole W H_2073) rfl rfl (fun r4 H_r4 O_r4 q_r4 => ?_)
        obtain rfl := u_M_isWhole W H_r4
        refine yG.load xik rfl (fun _ _ => rfl) (v := yI (z3)) rfl rfl ?_
        refine yG.bald A_hq.1 (v_M_isWhole W H_r4) rfl (by omega) (by omega) (fun z5 e_z5 i_z5 l_z5 u_z5 => ?_)
        refine yG.ifz rfl (t := 79) rfl ⟨by omega, by omega⟩ (fun c6 => ?_) (fun c6 => ?_)
        · have c6 : (z5 : Int) = 0 := c6
          refine yG.iinc rfl (a := a2) rfl (L' := [(2, yI (a2 + 1)), (3, yI (z3)), (0, yR 2073), (1, yI (a1))]) rfl ?_
          refine yG.goto rfl (t := 17) rfl ?_
          exact yG.mono (yG.sub (i_17 (a1) (a2 + 1)  hq A_hq M_bRg_hq   (by omega) (by omega) (by omega) (by omega) (by omega) (by omega)) (ySub.cons rfl (ySub.cons rfl (ySub.cons rfl (ySub.nil))))) (by omega)
        · have c6 : (z5 : Int) ≠ 0 := c6
          refine yG.load xak rfl (fun _ _ => rfl) (v := yR 2073) rfl rfl ?_
          refine yG.getO A_hq.1 (w_M_isStruck W H_2073) rfl rfl (fun r7 H_r7 O_r7 q_r7 => ?_)
          obtain rfl := u_M_isStruck W H_r7
          refine yG.load xik rfl (fun _ _ => rfl) (v := yI (a2)) rfl rfl ?_
          refine yG.bald A_hq.1 (v_M_isStruck W H_r7) rfl (by omega) (by omega) (fun z8 e_z8 i_z8 l_z8 u_z8 => ?_)
          refine yG.ifz rfl (t := 79) rfl ⟨by omega, by omega⟩ (fun c9 => ?_) (fun c9 => ?_)
          · have c9 : (z8 : Int) ≠ 0 := c9
            refine yG.iinc rfl (a := a2) rfl (L' := [(2, yI (a2 + 1)), (3, yI (z3)), (0, yR 2073), (1, yI (a1))]) rfl ?_
            refine yG.goto rfl (t := 17) rfl ?_
            exact yG.mono (yG.sub (i_17 (a1) (a2 + 1)  hq A_hq M_bRg_hq   (by omega) (by omega) (by omega) (by omega) (by omega) (by omega)) (ySub.cons rfl (ySub.cons rfl (ySub.cons rfl (ySub.nil))))) (by omega)
          · have c9 : (z8 : Int) = 0 := c9
            refine yG.load xak rfl (fun _ _ => rfl) (v := yR 2073) rfl rfl ?_
            refine yG.getO A_hq.1 (w_M_sign W H_2073) rfl rfl (fun r10 H_r10 O_r10 q_r10 => ?_)
            obtain rfl := u_M_sign W H_r10
            refine yG.num (c := 116) rfl (fun _ _ => rfl) (by decide) ?_
            refine yG.load xik rfl (fun _ _ => rfl) (v := yI (a2)) rfl rfl ?_
            refine yG.iadd rfl ?_
            refine yG.iald A_hq.1 (v_M_sign W H_r10) rfl (by omega) (by omega) (fun z11 e_z11 i_z11 l_z11 u_z11 => ?_)
            refine yG.ifz rfl (t := 64) rfl ⟨by omega, by omega⟩ (fun c12 => ?_) (fun c12 => ?_)
            · have c12 : (z11 : Int) > 0 := c12
              refine yG.load xik rfl (fun _ _ => rfl) (v := yI (a1)) rfl rfl ?_
              refine yG.ifz rfl (t := 77) rfl ⟨by omega, by omega⟩ (fun c13 => ?_) (fun c13 => ?_)
              · have c13 : (a1 : Int) < 0 := c13
                refine yG.load xik rfl (fun _ _ => rfl) (v := yI (a2)) rfl rfl ?_
                refine yG.store1 xik (L' := [(1, yI (a2)), (3, yI (z3)), (0, yR 2073), (2, yI (a2))]) rfl (fun _ _ => rfl) rfl rfl ?_
                refine yG.iinc rfl (a := a2) rfl (L' := [(2, yI (a2 + 1)), (1, yI (a2)), (3, yI (z3)), (0, yR 2073)]) rfl ?_
                refine yG.goto rfl (t := 17) rfl ?_
                exact yG.mono (yG.sub (i_17 (a2) (a2 + 1)  hq A_hq M_bRg_hq   (by omega) (by omega) (by omega) (by omega) (by omega) (by omega)) (ySub.cons rfl (ySub.cons rfl (ySub.cons rfl (ySub.nil))))) (by omega)
              · have c13 : (a1 : Int) ≥ 0 := c13
                refine yG.load xak rfl (fun _ _ => rfl) (v := yR 2073) rfl rfl ?_
                refine yG.load xik rfl (fun _ _ => rfl) (v := yI (a2)) rfl rfl ?_
                refine yG.load xik rfl (fun _ _ => rfl) (v := yI (a1)) rfl rfl ?_
                refine yG.invV (rest := []) A_hq.1 (bOb (d_M W) H_2073) rfl rfl rfl rfl (c_GModel_isWorse W (d + 2) A_hq.1 M_bRg_hq (M_bMm.fr A_hq (by decide)) H_2073 (a2) (a1) (by omega) (by omega) (by omega) (by omega)) (fun rv h14 q9 => ?_)
                obtain ⟨q9, M_bRg_h14⟩ := q9
                obtain ⟨⟨z15, rfl, l_z15, u_z15, R_z15⟩, B_h14⟩ := q9
                have A_h14 := A_hq.tr B_h14 (by decide)
                show yG _ _ _ _ _ _ _ _ _ _ (yI z15 :: []) _
                refine yG.ifz rfl (t := 79) rfl ⟨by omega, by omega⟩ (fun c16 => ?_) (fun c16 => ?_)
                · have c16 : (z15 : Int) = 0 := c16
                  refine yG.iinc rfl (a := a2) rfl (L' := [(2, yI (a2 + 1)), (3, yI (z3)), (0, yR 2073), (1, yI (a1))]) rfl ?_
                  refine yG.goto rfl (t := 17) rfl ?_
                  exact yG.mono (yG.sub (i_17 (a1) (a2 + 1)  h14 A_h14 M_bRg_h14   (by omega) (by omega) (by omega) (by omega) (by omega) (by omega)) (ySub.cons rfl (ySub.cons rfl (ySub.cons rfl (ySub.nil))))) (by omega)
                · have c16 : (z15 : Int) ≠ 0 := c16
                  refine yG.load xik rfl (fun _ _ => rfl) (v := yI (a2)) rfl rfl ?_
                  refine yG.store1 xik (L' := [(1, yI (a2)), (3, yI (z3)), (0, yR 2073), (2, yI (a2))]) rfl (fun _ _ => rfl) rfl rfl ?_
                  refine yG.iinc rfl (a := a2) rfl (L' := [(2, yI (a2 + 1)), (1, yI (a2)), (3, yI (z3)), (0, yR 2073)]) rfl ?_
                  refine yG.goto rfl (t := 17) rfl ?_
                  exact yG.mono (yG.sub (i_17 (a2) (a2 + 1)  h14 A_h14 M_bRg_h14   (by omega) (by omega) (by omega) (by omega) (by omega) (by omega)) (ySub.cons rfl (ySub.cons rfl (ySub.cons rfl (ySub.nil))))) (by omega)
            · have c12 : (z11 : Int) ≤ 0 := c12
              refine yG.goto rfl (t := 79) rfl ?_
              refine yG.iinc rfl (a := a2) rfl (L' := [(2, yI (a2 + 1)), (3, yI (z3)), (0, yR 2073), (1, yI (a1))]) rfl ?_
              refine yG.goto rfl (t := 17) rfl ?_
              exact yG.mono (yG.sub (i_17 (a1) (a2 + 1)  hq A_hq M_bRg_hq   (by omega) (by omega) (by omega) (by omega) (by omega) (by omega)) (ySub.cons rfl (ySub.cons rfl (ySub.cons rfl (ySub.nil))))) (by omega)
  refine yC.of (M := (xt_X13_worst, (4, (1, (14, []))))) rfl rfl (N := 2584) (yfuel (by decide)) ?_
  show yG 89 xfts (xcall 89 xfts xpools xms (d + 8)) (xpool xp_RX13) [] xt_X13_worst (yP 1 (fun rv hp' => (bQi G [(83076749736557242056487941267521536, 0), (83076749736557242056487941267521536, 10), (83076749736557242056487941267521536, 11), (83076749736557242056487941267521536, 38), (83076749736557242056487941267521536, 62), (362452760082734066601577675742145028798959411265536, 256)] hp (-1) 31 (fun _ => True)) rv hp' ∧ bRg G hp')) 2584 0 [(0, yR 2073)] [] hp
  have i_17 := H 67
  refine yG.load xak rfl (fun _ _ => rfl) (v := yR 2073) rfl rfl ?_
  refine yG.num (c := 0) rfl (fun _ _ => rfl) (by decide) ?_
  refine yG.putI A_hp.1 (w_M_thrown W H_2073) (W.2.1 _ _ H_2073 (by decide) (by decide)) rfl rfl (.inl rfl) ⟨by omega, by omega⟩ (by omega) (by omega) (fun h1 T_h1 b_h1 f_h1 y_h1 => ?_)
  have M_bRg_h1 := M_bRg_hp.fr (bAx.put (Wl := [(83076749736557242056487941267521536, 0)]) (bAx.rf A_hp.1) T_h1 b_h1 f_h1 H_2073 (by decide)) (by decide)
  have A_h1 := A_hp.put T_h1 b_h1 f_h1 H_2073 (by decide)
  refine yG.load xak rfl (fun _ _ => rfl) (v := yR 2073) rfl rfl ?_
  refine yG.invV (rest := []) A_h1.1 (bOb (d_M W) H_2073) rfl rfl rfl rfl (c_GModel_estimates W d A_h1.1 M_bRg_h1 (M_bMm.fr A_h1 (by decide)) (M_bPr.fr A_h1 (by decide)) H_2073) (fun rv h2 q9 => ?_)
  obtain ⟨q9, M_bRg_h2⟩ := q9
  obtain ⟨⟨rfl, R_z3⟩, B_h2⟩ := q9
  have A_h2 := A_h1.tr B_h2 (by decide)
  show yG _ _ _ _ _ _ _ _ _ _ [] _
  refine yG.load xak rfl (fun _ _ => rfl) (v := yR 2073) rfl rfl ?_
  refine yG.invV (rest := []) A_h2.1 (bOb (d_M W) H_2073) rfl rfl rfl rfl (c_GModel_netTopology W (d + 4) A_h2.1 H_2073) (fun rv h4 q9 => ?_)
  obtain ⟨⟨rfl, R_z5⟩, B_h4⟩ := q9
  have A_h4 := A_h2.tr B_h4 (by decide)
  have M_bRg_h4 := M_bRg_h2.fr B_h4 (by decide)
  show yG _ _ _ _ _ _ _ _ _ _ [] _
  refine yG.num (c := -1) rfl (fun _ _ => rfl) (by decide) ?_
  refine yG.store1 xik (L' := [(1, yI ((-1))), (0, yR 2073)]) rfl (fun _ _ => rfl) rfl rfl ?_
  refine yG.num (c := 0) rfl (fun _ _ => rfl) (by decide) ?_
  refine yG.store1 xik (L' := [(2, yI (0)), (1, yI ((-1))), (0, yR 2073)]) rfl (fun _ _ => rfl) rfl rfl ?_
  exact yG.mono (yG.sub (i_17 ((-1)) (0)  h4 A_h4 M_bRg_h4   (by omega) (by omega) (by omega) (by omega) (by omega) (by omega)) (ySub.cons rfl (ySub.cons rfl (ySub.cons rfl (ySub.nil))))) (by omega)
theorem c_GModel_seen {hp : xH} (W : mW G) (d : Nat) (hT : zTy G hp) (M_bRg : bRg G hp) (M_bMm : bMm G hp) (M_bPr : bPr G hp) (H_2073 : bRo G 116 2073) (p1 : Int) (h1l : (-2147483648) ≤ p1) (h1u : p1 ≤ 2147483647) : yC (xcall 89 xfts xpools xms (d + 9)) 503 [yR 2073, yI (p1)] hp (fun rv hp' => (bQi G [(83076749736557242056487941267521536, 0), (83076749736557242056487941267521536, 10), (83076749736557242056487941267521536, 11), (83076749736557242056487941267521536, 38), (83076749736557242056487941267521536, 62), (362452760082734066601577675742145028798959411265536, 256)] hp 0 2 (fun z => 0 ≤ p1 - z + 2147483648)) rv hp' ∧ bRg G hp') := by
  have A_hp : bAx G [(83076749736557242056487941267521536, 0), (83076749736557242056487941267521536, 10), (83076749736557242056487941267521536, 11), (83076749736557242056487941267521536, 38), (83076749736557242056487941267521536, 62), (362452760082734066601577675742145028798959411265536, 256)] hp hp := bAx.rf hT
  have M_bRg_hp := M_bRg
  refine yC.of (M := (xt_X13_seen, (2, (1, (14, []))))) rfl rfl (N := 132) (yfuel (by decide)) ?_
  show yG 89 xfts (xcall 89 xfts xpools xms (d + 8)) (xpool xp_RX13) [] xt_X13_seen (yP 1 (fun rv hp' => (bQi G [(83076749736557242056487941267521536, 0), (83076749736557242056487941267521536, 10), (83076749736557242056487941267521536, 11), (83076749736557242056487941267521536, 38), (83076749736557242056487941267521536, 62), (362452760082734066601577675742145028798959411265536, 256)] hp 0 2 (fun z => 0 ≤ p1 - z + 2147483648)) rv hp' ∧ bRg G hp')) 132 0 [(0, yR 2073), (1, yI (p1))] [] hp
  refine yG.load xak rfl (fun _ _ => rfl) (v := yR 2073) rfl rfl ?_
  refine yG.load xik rfl (fun _ _ => rfl) (v := yI (p1)) rfl rfl ?_
  refine yG.i2l rfl ⟨by omega, by omega⟩ ?_
  refine yG.numl (c := 0) rfl (fun _ _ => rfl) (by decide) ?_
  refine yG.load xak rfl (fun _ _ => rfl) (v := yR 2073) rfl rfl ?_
  refine yG.getO A_hp.1 (w_M_count W H_2073) rfl rfl (fun r1 H_r1 O_r1 q_r1 => ?_)
  obtain rfl := u_M_count W H_r1
  refine yG.num (c := 0) rfl (fun _ _ => rfl) (by decide) ?_
  refine yG.ialdF A_hp.1 (v_M_count W H_r1) rfl rfl (by omega) (by omega) (fun z2 e_z2 i_z2 l_z2 u_z2 => ?_)
  refine yG.num (c := 1) rfl (fun _ _ => rfl) (by decide) ?_
  refine yG.isub rfl ?_
  refine yG.i2l rfl ⟨by omega, by omega⟩ ?_
  refine yG.invS (rest := [yR 2073]) rfl rfl rfl rfl (c_GModel_in W (d + 7) A_hp.1 (p1) (0) (z2 - 1) (by omega) (by omega) (by omega) (by omega) (by omega) (by omega)) (fun rv hp9 q9 => ?_)
  obtain ⟨⟨z3, rfl, l_z3, u_z3, R_z3⟩, e9⟩ := q9
  rw [e9]
  show yG _ _ _ _ _ _ _ _ _ _ (yI z3 :: [yR 2073]) _
  refine yG.ifz rfl (t := 23) rfl ⟨by omega, by omega⟩ (fun c4 => ?_) (fun c4 => ?_)
  · have c4 : (z3 : Int) = 0 := c4
    clear R_z3
    refine yG.num (c := 1) rfl (fun _ _ => rfl) (by decide) ?_
    refine yG.putI A_hp.1 (w_M_thrown W H_2073) (W.2.1 _ _ H_2073 (by decide) (by decide)) rfl rfl (.inl rfl) ⟨by omega, by omega⟩ (by omega) (by omega) (fun h5 T_h5 b_h5 f_h5 y_h5 => ?_)
    have M_bRg_h5 := M_bRg_hp.fr (bAx.put (Wl := [(83076749736557242056487941267521536, 0)]) (bAx.rf A_hp.1) T_h5 b_h5 f_h5 H_2073 (by decide)) (by decide)
    have A_h5 := A_hp.put T_h5 b_h5 f_h5 H_2073 (by decide)
    have : ys h5 2073 0 = 1 := (y_h5 2073 0).trans (if_pos ⟨rfl, rfl⟩)
    refine yG.load xak rfl (fun _ _ => rfl) (v := yR 2073) rfl rfl ?_
    refine yG.getI A_h5.1 (w_M_thrown W H_2073) rfl rfl (fun z6 e_z6 i_z6 l_z6 u_z6 => ?_)
    refine yG.ifz rfl (t := 36) rfl ⟨by omega, by omega⟩ (fun c7 => ?_) (fun c7 => ?_)
    · have c7 : (z6 : Int) ≤ 0 := c7
      exfalso; omega
    · have c7 : (z6 : Int) > 0 := c7
      refine yG.num (c := 0) rfl (fun _ _ => rfl) (by decide) ?_
      refine yG.ret rfl (fun _ _ => rfl) ?_
      exact (yP.int ⟨by omega, by omega⟩ ⟨⟨⟨0, rfl, by omega, by omega, by omega⟩, A_h5⟩, M_bRg_h5⟩)
  · have c4 : (z3 : Int) ≠ 0 := c4
    replace R_z3 := R_z3 (by omega)
    refine yG.num (c := 0) rfl (fun _ _ => rfl) (by decide) ?_
    refine yG.goto rfl (t := 24) rfl ?_
    refine yG.putI A_hp.1 (w_M_thrown W H_2073) (W.2.1 _ _ H_2073 (by decide) (by decide)) rfl rfl (.inl rfl) ⟨by omega, by omega⟩ (by omega) (by omega) (fun h8 T_h8 b_h8 f_h8 y_h8 => ?_)
    have M_bRg_h8 := M_bRg_hp.fr (bAx.put (Wl := [(83076749736557242056487941267521536, 0)]) (bAx.rf A_hp.1) T_h8 b_h8 f_h8 H_2073 (by decide)) (by decide)
    have A_h8 := A_hp.put T_h8 b_h8 f_h8 H_2073 (by decide)
    have : ys h8 2073 0 = 0 := (y_h8 2073 0).trans (if_pos ⟨rfl, rfl⟩)
    refine yG.load xak rfl (fun _ _ => rfl) (v := yR 2073) rfl rfl ?_
    refine yG.getI A_h8.1 (w_M_thrown W H_2073) rfl rfl (fun z9 e_z9 i_z9 l_z9 u_z9 => ?_)
    refine yG.ifz rfl (t := 36) rfl ⟨by omega, by omega⟩ (fun c10 => ?_) (fun c10 => ?_)
    · have c10 : (z9 : Int) ≤ 0 := c10
      refine yG.load xak rfl (fun _ _ => rfl) (v := yR 2073) rfl rfl ?_
      refine yG.invV (rest := []) A_h8.1 (bOb (d_M W) H_2073) rfl rfl rfl rfl (c_GModel_estimates W d A_h8.1 M_bRg_h8 (M_bMm.fr A_h8 (by decide)) (M_bPr.fr A_h8 (by decide)) H_2073) (fun rv h11 q9 => ?_)
      obtain ⟨q9, M_bRg_h11⟩ := q9
      obtain ⟨⟨rfl, R_z12⟩, B_h11⟩ := q9
      have A_h11 := A_h8.tr B_h11 (by decide)
      have : ys h11 2073 0 = ys h8 2073 0 := B_h11.ys H_2073 (by decide)
      show yG _ _ _ _ _ _ _ _ _ _ [] _
      refine yG.load xak rfl (fun _ _ => rfl) (v := yR 2073) rfl rfl ?_
      refine yG.invV (rest := []) A_h11.1 (bOb (d_M W) H_2073) rfl rfl rfl rfl (c_GModel_netTopology W (d + 4) A_h11.1 H_2073) (fun rv h13 q9 => ?_)
      obtain ⟨⟨rfl, R_z14⟩, B_h13⟩ := q9
      have A_h13 := A_h11.tr B_h13 (by decide)
      have M_bRg_h13 := M_bRg_h11.fr B_h13 (by decide)
      have : ys h13 2073 0 = ys h11 2073 0 := B_h13.ys H_2073 (by decide)
      show yG _ _ _ _ _ _ _ _ _ _ [] _
      refine yG.load xak rfl (fun _ _ => rfl) (v := yR 2073) rfl rfl ?_
      refine yG.getO A_h13.1 (w_M_isWhole W H_2073) rfl rfl (fun r15 H_r15 O_r15 q_r15 => ?_)
      obtain rfl := u_M_isWhole W H_r15
      refine yG.load xak rfl (fun _ _ => rfl) (v := yR 2073) rfl rfl ?_
      refine yG.getO A_h13.1 (w_M_island W H_2073) rfl rfl (fun r16 H_r16 O_r16 q_r16 => ?_)
      obtain rfl := u_M_island W H_r16
      refine yG.load xik rfl (fun _ _ => rfl) (v := yI (p1)) rfl rfl ?_
      refine yG.ialdF A_h13.1 (v_M_island W H_r16) rfl rfl (by omega) (by omega) (fun z17 e_z17 i_z17 l_z17 u_z17 => ?_)
      refine yG.bald A_h13.1 (v_M_isWhole W H_r15) rfl (by omega) (by omega) (fun z18 e_z18 i_z18 l_z18 u_z18 => ?_)
      refine yG.ifz rfl (t := 62) rfl ⟨by omega, by omega⟩ (fun c19 => ?_) (fun c19 => ?_)
      · have c19 : (z18 : Int) = 0 := c19
        refine yG.load xak rfl (fun _ _ => rfl) (v := yR 2073) rfl rfl ?_
        refine yG.getO A_h13.1 (w_M_isSeen W H_2073) rfl rfl (fun r20 H_r20 O_r20 q_r20 => ?_)
        obtain rfl := u_M_isSeen W H_r20
        refine yG.load xak rfl (fun _ _ => rfl) (v := yR 2073) rfl rfl ?_
        refine yG.getO A_h13.1 (w_M_node W H_2073) rfl rfl (fun r21 H_r21 O_r21 q_r21 => ?_)
        obtain rfl := u_M_node W H_r21
        refine yG.load xik rfl (fun _ _ => rfl) (v := yI (p1)) rfl rfl ?_
        refine yG.ialdF A_h13.1 (v_M_node W H_r21) rfl rfl (by omega) (by omega) (fun z22 e_z22 i_z22 l_z22 u_z22 => ?_)
        refine yG.bald A_h13.1 (v_M_isSeen W H_r20) rfl (by omega) (by omega) (fun z23 e_z23 i_z23 l_z23 u_z23 => ?_)
        refine yG.ifz rfl (t := 80) rfl ⟨by omega, by omega⟩ (fun c24 => ?_) (fun c24 => ?_)
        · have c24 : (z23 : Int) = 0 := c24
          refine yG.num (c := 0) rfl (fun _ _ => rfl) (by decide) ?_
          refine yG.ret rfl (fun _ _ => rfl) ?_
          exact (yP.int ⟨by omega, by omega⟩ ⟨⟨⟨0, rfl, by omega, by omega, by omega⟩, A_h13⟩, M_bRg_h13⟩)
        · have c24 : (z23 : Int) ≠ 0 := c24
          refine yG.num (c := 1) rfl (fun _ _ => rfl) (by decide) ?_
          refine yG.goto rfl (t := 81) rfl ?_
          refine yG.ret rfl (fun _ _ => rfl) ?_
          exact (yP.int ⟨by omega, by omega⟩ ⟨⟨⟨1, rfl, by omega, by omega, by omega⟩, A_h13⟩, M_bRg_h13⟩)
      · have c19 : (z18 : Int) ≠ 0 := c19
        refine yG.num (c := 2) rfl (fun _ _ => rfl) (by decide) ?_
        refine yG.goto rfl (t := 81) rfl ?_
        refine yG.ret rfl (fun _ _ => rfl) ?_
        exact (yP.int ⟨by omega, by omega⟩ ⟨⟨⟨2, rfl, by omega, by omega, by omega⟩, A_h13⟩, M_bRg_h13⟩)
    · have c10 : (z9 : Int) > 0 := c10
      exfalso; omega
theorem c_GModel_estimate {hp : xH} (W : mW G) (d : Nat) (hT : zTy G hp) (M_bRg : bRg G hp) (M_bMm : bMm G hp) (M_bPr : bPr G hp) (H_2073 : bRo G 116 2073) (p1 : Int) (h1l : (-2147483648) ≤ p1) (h1u : p1 ≤ 2147483647) : yC (xcall 89 xfts xpools xms (d + 9)) 392 [yR 2073, yI (p1)] hp (fun rv hp' => (bQi G [(83076749736557242056487941267521536, 0), (83076749736557242056487941267521536, 10), (83076749736557242056487941267521536, 11), (83076749736557242056487941267521536, 38), (83076749736557242056487941267521536, 62), (362452760082734066601577675742145028798959411265536, 256)] hp (-1) 1 (fun z => 0 ≤ 0 - p1 + z + 2147483647 ∧ 0 ≤ p1 - z + 2147483648)) rv hp' ∧ bRg G hp') := by
  have A_hp : bAx G [(83076749736557242056487941267521536, 0), (83076749736557242056487941267521536, 10), (83076749736557242056487941267521536, 11), (83076749736557242056487941267521536, 38), (83076749736557242056487941267521536, 62), (362452760082734066601577675742145028798959411265536, 256)] hp hp := bAx.rf hT
  have M_bRg_hp := M_bRg
  refine yC.of (M := (xt_X13_estimate, (2, (1, (14, []))))) rfl rfl (N := 144) (yfuel (by decide)) ?_
  show yG 89 xfts (xcall 89 xfts xpools xms (d + 8)) (xpool xp_RX13) [] xt_X13_estimate (yP 1 (fun rv hp' => (bQi G [(83076749736557242056487941267521536, 0), (83076749736557242056487941267521536, 10), (83076749736557242056487941267521536, 11), (83076749736557242056487941267521536, 38), (83076749736557242056487941267521536, 62), (362452760082734066601577675742145028798959411265536, 256)] hp (-1) 1 (fun z => 0 ≤ 0 - p1 + z + 2147483647 ∧ 0 ≤ p1 - z + 2147483648)) rv hp' ∧ bRg G hp')) 144 0 [(0, yR 2073), (1, yI (p1))] [] hp
  refine yG.load xak rfl (fun _ _ => rfl) (v := yR 2073) rfl rfl ?_
  refine yG.load xik rfl (fun _ _ => rfl) (v := yI (p1)) rfl rfl ?_
  refine yG.i2l rfl ⟨by omega, by omega⟩ ?_
  refine yG.numl (c := 0) rfl (fun _ _ => rfl) (by decide) ?_
  refine yG.load xak rfl (fun _ _ => rfl) (v := yR 2073) rfl rfl ?_
  refine yG.getO A_hp.1 (w_M_count W H_2073) rfl rfl (fun r1 H_r1 O_r1 q_r1 => ?_)
  obtain rfl := u_M_count W H_r1
  refine yG.num (c := 0) rfl (fun _ _ => rfl) (by decide) ?_
  refine yG.ialdF A_hp.1 (v_M_count W H_r1) rfl rfl (by omega) (by omega) (fun z2 e_z2 i_z2 l_z2 u_z2 => ?_)
  refine yG.num (c := 1) rfl (fun _ _ => rfl) (by decide) ?_
  refine yG.isub rfl ?_
  refine yG.i2l rfl ⟨by omega, by omega⟩ ?_
  refine yG.invS (rest := [yR 2073]) rfl rfl rfl rfl (c_GModel_in W (d + 7) A_hp.1 (p1) (0) (z2 - 1) (by omega) (by omega) (by omega) (by omega) (by omega) (by omega)) (fun rv hp9 q9 => ?_)
  obtain ⟨⟨z3, rfl, l_z3, u_z3, R_z3⟩, e9⟩ := q9
  rw [e9]
  show yG _ _ _ _ _ _ _ _ _ _ (yI z3 :: [yR 2073]) _
  refine yG.ifz rfl (t := 23) rfl ⟨by omega, by omega⟩ (fun c4 => ?_) (fun c4 => ?_)
  · have c4 : (z3 : Int) = 0 := c4
    clear R_z3
    refine yG.num (c := 1) rfl (fun _ _ => rfl) (by decide) ?_
    refine yG.putI A_hp.1 (w_M_thrown W H_2073) (W.2.1 _ _ H_2073 (by decide) (by decide)) rfl rfl (.inl rfl) ⟨by omega, by omega⟩ (by omega) (by omega) (fun h5 T_h5 b_h5 f_h5 y_h5 => ?_)
    have M_bRg_h5 := M_bRg_hp.fr (bAx.put (Wl := [(83076749736557242056487941267521536, 0)]) (bAx.rf A_hp.1) T_h5 b_h5 f_h5 H_2073 (by decide)) (by decide)
    have A_h5 := A_hp.put T_h5 b_h5 f_h5 H_2073 (by decide)
    have : ys h5 2073 0 = 1 := (y_h5 2073 0).trans (if_pos ⟨rfl, rfl⟩)
    refine yG.load xak rfl (fun _ _ => rfl) (v := yR 2073) rfl rfl ?_
    refine yG.getI A_h5.1 (w_M_thrown W H_2073) rfl rfl (fun z6 e_z6 i_z6 l_z6 u_z6 => ?_)
    refine yG.ifz rfl (t := 36) rfl ⟨by omega, by omega⟩ (fun c7 => ?_) (fun c7 => ?_)
    · have c7 : (z6 : Int) ≤ 0 := c7
      exfalso; omega
    · have c7 : (z6 : Int) > 0 := c7
      refine yG.num (c := 0) rfl (fun _ _ => rfl) (by decide) ?_
      refine yG.ret rfl (fun _ _ => rfl) ?_
      exact (yP.int ⟨by omega, by omega⟩ ⟨⟨⟨0, rfl, by omega, by omega, by omega⟩, A_h5⟩, M_bRg_h5⟩)
  · have c4 : (z3 : Int) ≠ 0 := c4
    replace R_z3 := R_z3 (by omega)
    refine yG.num (c := 0) rfl (fun _ _ => rfl) (by decide) ?_
    refine yG.goto rfl (t := 24) rfl ?_
    refine yG.putI A_hp.1 (w_M_thrown W H_2073) (W.2.1 _ _ H_2073 (by decide) (by decide)) rfl rfl (.inl rfl) ⟨by omega, by omega⟩ (by omega) (by omega) (fun h8 T_h8 b_h8 f_h8 y_h8 => ?_)
    have M_bRg_h8 := M_bRg_hp.fr (bAx.put (Wl := [(83076749736557242056487941267521536, 0)]) (bAx.rf A_hp.1) T_h8 b_h8 f_h8 H_2073 (by decide)) (by decide)
    have A_h8 := A_hp.put T_h8 b_h8 f_h8 H_2073 (by decide)
    have : ys h8 2073 0 = 0 := (y_h8 2073 0).trans (if_pos ⟨rfl, rfl⟩)
    refine yG.load xak rfl (fun _ _ => rfl) (v := yR 2073) rfl rfl ?_
    refine yG.getI A_h8.1 (w_M_thrown W H_2073) rfl rfl (fun z9 e_z9 i_z9 l_z9 u_z9 => ?_)
    refine yG.ifz rfl (t := 36) rfl ⟨by omega, by omega⟩ (fun c10 => ?_) (fun c10 => ?_)
    · have c10 : (z9 : Int) ≤ 0 := c10
      refine yG.load xak rfl (fun _ _ => rfl) (v := yR 2073) rfl rfl ?_
      refine yG.invV (rest := []) A_h8.1 (bOb (d_M W) H_2073) rfl rfl rfl rfl (c_GModel_estimates W d A_h8.1 M_bRg_h8 (M_bMm.fr A_h8 (by decide)) (M_bPr.fr A_h8 (by decide)) H_2073) (fun rv h11 q9 => ?_)
      obtain ⟨q9, M_bRg_h11⟩ := q9
      obtain ⟨⟨rfl, R_z12⟩, B_h11⟩ := q9
      have A_h11 := A_h8.tr B_h11 (by decide)
      have : ys h11 2073 0 = ys h8 2073 0 := B_h11.ys H_2073 (by decide)
      show yG _ _ _ _ _ _ _ _ _ _ [] _
      refine yG.load xak rfl (fun _ _ => rfl) (v := yR 2073) rfl rfl ?_
      refine yG.invV (rest := []) A_h11.1 (bOb (d_M W) H_2073) rfl rfl rfl rfl (c_GModel_netTopology W (d + 4) A_h11.1 H_2073) (fun rv h13 q9 => ?_)
      obtain ⟨⟨rfl, R_z14⟩, B_h13⟩ := q9
      have A_h13 := A_h11.tr B_h13 (by decide)
      have M_bRg_h13 := M_bRg_h11.fr B_h13 (by decide)
      have : ys h13 2073 0 = ys h11 2073 0 := B_h13.ys H_2073 (by decide)
      show yG _ _ _ _ _ _ _ _ _ _ [] _
      refine yG.load xak rfl (fun _ _ => rfl) (v := yR 2073) rfl rfl ?_
      refine yG.getO A_h13.1 (w_M_isWhole W H_2073) rfl rfl (fun r15 H_r15 O_r15 q_r15 => ?_)
      obtain rfl := u_M_isWhole W H_r15
      refine yG.load xak rfl (fun _ _ => rfl) (v := yR 2073) rfl rfl ?_
      refine yG.getO A_h13.1 (w_M_island W H_2073) rfl rfl (fun r16 H_r16 O_r16 q_r16 => ?_)
      obtain rfl := u_M_island W H_r16
      refine yG.load xik rfl (fun _ _ => rfl) (v := yI (p1)) rfl rfl ?_
      refine yG.ialdF A_h13.1 (v_M_island W H_r16) rfl rfl (by omega) (by omega) (fun z17 e_z17 i_z17 l_z17 u_z17 => ?_)
      refine yG.bald A_h13.1 (v_M_isWhole W H_r15) rfl (by omega) (by omega) (fun z18 e_z18 i_z18 l_z18 u_z18 => ?_)
      refine yG.ifz rfl (t := 65) rfl ⟨by omega, by omega⟩ (fun c19 => ?_) (fun c19 => ?_)
      · have c19 : (z18 : Int) ≠ 0 := c19
        refine yG.load xak rfl (fun _ _ => rfl) (v := yR 2073) rfl rfl ?_
        refine yG.num (c := 68) rfl (fun _ _ => rfl) (by decide) ?_
        refine yG.load xak rfl (fun _ _ => rfl) (v := yR 2073) rfl rfl ?_
        refine yG.getO A_h13.1 (w_M_node W H_2073) rfl rfl (fun r20 H_r20 O_r20 q_r20 => ?_)
        obtain rfl := u_M_node W H_r20
        refine yG.load xik rfl (fun _ _ => rfl) (v := yI (p1)) rfl rfl ?_
        refine yG.ialdF A_h13.1 (v_M_node W H_r20) rfl rfl (by omega) (by omega) (fun z21 e_z21 i_z21 l_z21 u_z21 => ?_)
        refine yG.iadd rfl ?_
        refine yG.num (c := 52) rfl (fun _ _ => rfl) (by decide) ?_
        refine yG.load xak rfl (fun _ _ => rfl) (v := yR 2073) rfl rfl ?_
        refine yG.getS9 A_h13.1 (w_M_island W H_2073) q_r16 rfl rfl ?_
        refine yG.load xik rfl (fun _ _ => rfl) (v := yI (p1)) rfl rfl ?_
        refine yG.ialdF A_h13.1 (v_M_island W H_r16) rfl rfl (by omega) (by omega) (fun z22 e_z22 i_z22 l_z22 u_z22 => ?_)
        rw [show (z22 : Int) = z17 by omega]
        refine yG.iadd rfl ?_
        refine yG.invV (rest := []) A_h13.1 (bOb (d_M W) H_2073) rfl rfl rfl rfl (c_GModel_make W (d + 2) A_h13.1 M_bRg_h13 H_2073 (68 + z21) (52 + z17) (by omega) (by omega) (by omega) (by omega)) (fun rv h23 q9 => ?_)
        obtain ⟨q9, M_bRg_h23⟩ := q9
        obtain ⟨⟨z24, rfl, l_z24, u_z24, R_z24⟩, B_h23⟩ := q9
        have A_h23 := A_h13.tr B_h23 (by decide)
        have : ys h23 2073 0 = ys h13 2073 0 := B_h23.ys H_2073 (by decide)
        have qq1 : zsl h23 2073 35 = yR 2101 := (B_h23.sl H_2073 (by decide)).trans q_r16
        have : ys h23 2101 (p1 : Int).toNat = ys h13 2101 (p1 : Int).toNat := B_h23.ys H_r16 (bNo_ok (by decide) _)
        show yG _ _ _ _ _ _ _ _ _ _ (yI z24 :: []) _
        refine yG.ret rfl (fun _ _ => rfl) ?_
        exact (yP.int ⟨by omega, by omega⟩ ⟨⟨⟨z24, rfl, by omega, by omega, by omega⟩, A_h23⟩, M_bRg_h23⟩)
      · have c19 : (z18 : Int) = 0 := c19
        refine yG.load xak rfl (fun _ _ => rfl) (v := yR 2073) rfl rfl ?_
        refine yG.num (c := 2) rfl (fun _ _ => rfl) (by decide) ?_
        refine yG.putI A_h13.1 (w_M_thrown W H_2073) (W.2.1 _ _ H_2073 (by decide) (by decide)) rfl rfl (.inl rfl) ⟨by omega, by omega⟩ (by omega) (by omega) (fun h25 T_h25 b_h25 f_h25 y_h25 => ?_)
        have M_bRg_h25 := M_bRg_h13.fr (bAx.put (Wl := [(83076749736557242056487941267521536, 0)]) (bAx.rf A_h13.1) T_h25 b_h25 f_h25 H_2073 (by decide)) (by decide)
        have A_h25 := A_h13.put T_h25 b_h25 f_h25 H_2073 (by decide)
        have qq2 : zsl h25 2073 35 = yR 2101 := ((f_h25 2073 35).trans (if_neg (fun e => absurd e.2 (by decide)))).trans q_r16
        have : ys h25 2101 (p1 : Int).toNat = ys h13 2101 (p1 : Int).toNat := (y_h25 2101 (p1 : Int).toNat).trans (if_neg (fun e => (bRo.ne H_r16 H_2073 (by decide)) e.1))
        have : ys h25 2073 0 = 2 := (y_h25 2073 0).trans (if_pos ⟨rfl, rfl⟩)
        refine yG.num (c := 0) rfl (fun _ _ => rfl) (by decide) ?_
        refine yG.ret rfl (fun _ _ => rfl) ?_
        exact (yP.int ⟨by omega, by omega⟩ ⟨⟨⟨0, rfl, by omega, by omega, by omega⟩, A_h25⟩, M_bRg_h25⟩)
    · have c10 : (z9 : Int) > 0 := c10
      exfalso; omega
theorem c_GModel_rest {hp : xH} (W : mW G) (d : Nat) (hT : zTy G hp) (M_bRg : bRg G hp) (M_bMm : bMm G hp) (M_bPr : bPr G hp) (H_2073 : bRo G 116 2073) (p1 p2 : Int) (h1l : (-2147483648) ≤ p1) (h1u : p1 ≤ 2147483647) (h2l : (-2147483648) ≤ p2) (h2u : p2 ≤ 2147483647) : yC (xcall 89 xfts xpools xms (d + 9)) 493 [yR 2073, yI (p1), yI (p2)] hp (fun rv hp' => (bQi G [(83076749736557242056487941267521536, 0), (83076749736557242056487941267521536, 10), (83076749736557242056487941267521536, 11), (83076749736557242056487941267521536, 38), (83076749736557242056487941267521536, 62), (362452760082734066601577675742145028798959411265536, 256)] hp (-1) 1 (fun z => 0 ≤ 0 - p1 + z + 2147483647 ∧ 0 ≤ p1 - z + 2147483648 ∧ 0 ≤ 0 - p2 + z + 2147483647 ∧ 0 ≤ p2 - z + 2147483648)) rv hp' ∧ bRg G hp') := by
  have A_hp : bAx G [(83076749736557242056487941267521536, 0), (83076749736557242056487941267521536, 10), (83076749736557242056487941267521536, 11), (83076749736557242056487941267521536, 38), (83076749736557242056487941267521536, 62), (362452760082734066601577675742145028798959411265536, 256)] hp hp := bAx.rf hT
  have M_bRg_hp := M_bRg
  have H : ∀ m : Nat, (∀ a3 : Int, ∀ hq, bAx G [(83076749736557242056487941267521536, 0), (83076749736557242056487941267521536, 10), (83076749736557242056487941267521536, 11), (83076749736557242056487941267521536, 38), (83076749736557242056487941267521536, 62), (362452760082734066601577675742145028798959411265536, 256)] hp hq → bRg G hq → 0 ≤ a3 → (-15) ≤ 0 - a3 → 0 ≤ p1 → (-31) ≤ 0 - p1 → 0 ≤ p2 → (-1) ≤ 0 - p2 → 1 < (m : Int) → yG 89 xfts (xcall 89 xfts xpools xms (d + 8)) (xpool xp_RX13) [] xt_X13_rest (yP 1 (fun rv hp' => (bQi G [(83076749736557242056487941267521536, 0), (83076749736557242056487941267521536, 10), (83076749736557242056487941267521536, 11), (83076749736557242056487941267521536, 38), (83076749736557242056487941267521536, 62), (362452760082734066601577675742145028798959411265536, 256)] hp (-1) 1 (fun z => 0 ≤ 0 - p1 + z + 2147483647 ∧ 0 ≤ p1 - z + 2147483648 ∧ 0 ≤ 0 - p2 + z + 2147483647 ∧ 0 ≤ p2 - z + 2147483648)) rv hp' ∧ bRg G hp')) (50 * m) 92 [(0, yR 2073), (1, yI (p1)), (2, yI (p2)), (3, yI (a3))] [] hq) := by
    intro m
    induction m with
    | zero =>
      intros; exfalso; omega
    | succ m ih =>
      have i_92 := ih
      clear ih
      intro a3 hq A_hq M_bRg_hq f0 f1 f2 f3 f4 f5 hm
      refine yG.mono (N := 50 * m + 50) ?_ (by omega)
      refine yG.load xik rfl (fun _ _ => rfl) (v := yI (p2)) rfl rfl ?_
      refine yG.ifz rfl (t := 109) rfl ⟨by omega, by omega⟩ (fun c1 => ?_) (fun c1 => ?_)
      · have c1 : (p2 : Int) ≠ 0 := c1
        refine yG.load xak rfl (fun _ _ => rfl) (v := yR 2073) rfl rfl ?_
        refine yG.num (c := 212) rfl (fun _ _ => rfl) (by decide) ?_
        refine yG.num (c := 52) rfl (fun _ _ => rfl) (by decide) ?_
        refine yG.load xik rfl (fun _ _ => rfl) (v := yI (a3)) rfl rfl ?_
        refine yG.iadd rfl ?_
        refine yG.load xak rfl (fun _ _ => rfl) (v := yR 2073) rfl rfl ?_
        refine yG.getO A_hq.1 (w_M_meterWeight W H_2073) rfl rfl (fun r2 H_r2 O_r2 q_r2 => ?_)
        obtain rfl := u_M_meterWeight W H_r2
        refine yG.load xik rfl (fun _ _ => rfl) (v := yI (p1)) rfl rfl ?_
        refine yG.iald A_hq.1 (v_M_meterWeight W H_r2) rfl (by omega) (by omega) (fun z3 e_z3 i_z3 l_z3 u_z3 => ?_)
        refine yG.i2l rfl ⟨by omega, by omega⟩ ?_
        refine yG.invV (rest := []) A_hq.1 (bOb (d_M W) H_2073) rfl rfl rfl rfl (r_scale W (d + 6) A_hq.1 M_bRg_hq H_2073 (r := (212)) (p := (52 + a3)) (v := (z3)) (y := 7) ⟨by omega, by omega⟩ ⟨by omega, by omega⟩ (by omega) (M_bRg_hq.at (x := 558) (a := 52) (b := 68) (by decide) (by omega) (by omega) (by decide)) (yEb (c := 128) (by decide) (by omega) (by omega)) (by decide) (by decide) (bTb_ge (a := 212) (b := 213) (by decide) (by omega) (by omega))) (fun rv h4 q9 => ?_)
        obtain ⟨rfl, B_h4, M_bRg_h4, Y_h4, V_h4, S_h4⟩ := q9
        have A_h4 := A_hq.tr B_h4 (by decide)
        show yG _ _ _ _ _ _ _ _ _ _ [] _
        refine yG.load xak rfl (fun _ _ => rfl) (v := yR 2073) rfl rfl ?_
        refine yG.num (c := 116) rfl (fun _ _ => rfl) (by decide) ?_
        refine yG.load xik rfl (fun _ _ => rfl) (v := yI (p1)) rfl rfl ?_
        refine yG.iadd rfl ?_
        refine yG.num (c := 212) rfl (fun _ _ => rfl) (by decide) ?_
        refine yG.invV (rest := []) A_h4.1 (bOb (d_M W) H_2073) rfl rfl rfl rfl (c_GModel_make W (d + 2) A_h4.1 M_bRg_h4 H_2073 (116 + p1) (212) (by omega) (by omega) (by omega) (by omega)) (fun rv h5 q9 => ?_)
        obtain ⟨q9, M_bRg_h5⟩ := q9
        obtain ⟨⟨z6, rfl, l_z6, u_z6, R_z6⟩, B_h5⟩ := q9
        have A_h5 := A_h4.tr B_h5 (by decide)
        show yG _ _ _ _ _ _ _ _ _ _ (yI z6 :: []) _
        refine yG.ret rfl (fun _ _ => rfl) ?_
        exact (yP.int ⟨by omega, by omega⟩ ⟨⟨⟨z6, rfl, by omega, by omega, by omega⟩, A_h5⟩, M_bRg_h5⟩)
      · have c1 : (p2 : Int) = 0 := c1
        refine yG.load xak rfl (fun _ _ => rfl) (v := yR 2073) rfl rfl ?_
        refine yG.num (c := 84) rfl (fun _ _ => rfl) (by decide) ?_
        refine yG.load xik rfl (fun _ _ => rfl) (v := yI (p1)) rfl rfl ?_
        refine yG.iadd rfl ?_
        refine yG.num (c := 52) rfl (fun _ _ => rfl) (by decide) ?_
        refine yG.load xik rfl (fun _ _ => rfl) (v := yI (a3)) rfl rfl ?_
        refine yG.iadd rfl ?_
        refine yG.invV (rest := []) A_hq.1 (bOb (d_M W) H_2073) rfl rfl rfl rfl (c_GModel_make W (d + 2) A_hq.1 M_bRg_hq H_2073 (84 + p1) (52 + a3) (by omega) (by omega) (by omega) (by omega)) (fun rv h7 q9 => ?_)
        obtain ⟨q9, M_bRg_h7⟩ := q9
        obtain ⟨⟨z8, rfl, l_z8, u_z8, R_z8⟩, B_h7⟩ := q9
        have A_h7 := A_hq.tr B_h7 (by decide)
        show yG _ _ _ _ _ _ _ _ _ _ (yI z8 :: []) _
        refine yG.ret rfl (fun _ _ => rfl) ?_
        exact (yP.int ⟨by omega, by omega⟩ ⟨⟨⟨z8, rfl, by omega, by omega, by omega⟩, A_h7⟩, M_bRg_h7⟩)
  refine yC.of (M := (xt_X13_rest, (4, (1, (14, []))))) rfl rfl (N := 200) (yfuel (by decide)) ?_
  show yG 89 xfts (xcall 89 xfts xpools xms (d + 8)) (xpool xp_RX13) [] xt_X13_rest (yP 1 (fun rv hp' => (bQi G [(83076749736557242056487941267521536, 0), (83076749736557242056487941267521536, 10), (83076749736557242056487941267521536, 11), (83076749736557242056487941267521536, 38), (83076749736557242056487941267521536, 62), (362452760082734066601577675742145028798959411265536, 256)] hp (-1) 1 (fun z => 0 ≤ 0 - p1 + z + 2147483647 ∧ 0 ≤ p1 - z + 2147483648 ∧ 0 ≤ 0 - p2 + z + 2147483647 ∧ 0 ≤ p2 - z + 2147483648)) rv hp' ∧ bRg G hp')) 200 0 [(0, yR 2073), (1, yI (p1)), (2, yI (p2))] [] hp
  have i_92 := H 3
  refine yG.load xak rfl (fun _ _ => rfl) (v := yR 2073) rfl rfl ?_
  refine yG.load xik rfl (fun _ _ => rfl) (v := yI (p1)) rfl rfl ?_
  refine yG.i2l rfl ⟨by omega, by omega⟩ ?_
  refine yG.numl (c := 0) rfl (fun _ _ => rfl) (by decide) ?_
  refine yG.load xak rfl (fun _ _ => rfl) (v := yR 2073) rfl rfl ?_
  refine yG.getI A_hp.1 (w_M_meters W H_2073) rfl rfl (fun z1 e_z1 i_z1 l_z1 u_z1 => ?_)
  refine yG.num (c := 1) rfl (fun _ _ => rfl) (by decide) ?_
  refine yG.isub rfl ?_
  refine yG.i2l rfl ⟨by omega, by omega⟩ ?_
  refine yG.invS (rest := [yR 2073]) rfl rfl rfl rfl (c_GModel_in W (d + 7) A_hp.1 (p1) (0) (z1 - 1) (by omega) (by omega) (by omega) (by omega) (by omega) (by omega)) (fun rv hp9 q9 => ?_)
  obtain ⟨⟨z2, rfl, l_z2, u_z2, R_z2⟩, e9⟩ := q9
  rw [e9]
  show yG _ _ _ _ _ _ _ _ _ _ (yI z2 :: [yR 2073]) _
  refine yG.ifz rfl (t := 21) rfl ⟨by omega, by omega⟩ (fun c3 => ?_) (fun c3 => ?_)
  · have c3 : (z2 : Int) ≠ 0 := c3
    replace R_z2 := R_z2 (by omega)
    refine yG.load xik rfl (fun _ _ => rfl) (v := yI (p2)) rfl rfl ?_
    refine yG.i2l rfl ⟨by omega, by omega⟩ ?_
    refine yG.numl (c := 0) rfl (fun _ _ => rfl) (by decide) ?_
    refine yG.numl (c := 1) rfl (fun _ _ => rfl) (by decide) ?_
    refine yG.invS (rest := [yR 2073]) rfl rfl rfl rfl (c_GModel_in W (d + 7) A_hp.1 (p2) (0) (1) (by omega) (by omega) (by omega) (by omega) (by omega) (by omega)) (fun rv hp9 q9 => ?_)
    obtain ⟨⟨z4, rfl, l_z4, u_z4, R_z4⟩, e9⟩ := q9
    rw [e9]
    show yG _ _ _ _ _ _ _ _ _ _ (yI z4 :: [yR 2073]) _
    refine yG.ifz rfl (t := 35) rfl ⟨by omega, by omega⟩ (fun c5 => ?_) (fun c5 => ?_)
    · have c5 : (z4 : Int) ≠ 0 := c5
      replace R_z4 := R_z4 (by omega)
      refine yG.num (c := 0) rfl (fun _ _ => rfl) (by decide) ?_
      refine yG.putI A_hp.1 (w_M_thrown W H_2073) (W.2.1 _ _ H_2073 (by decide) (by decide)) rfl rfl (.inl rfl) ⟨by omega, by omega⟩ (by omega) (by omega) (fun h6 T_h6 b_h6 f_h6 y_h6 => ?_)
      have M_bRg_h6 := M_bRg_hp.fr (bAx.put (Wl := [(83076749736557242056487941267521536, 0)]) (bAx.rf A_hp.1) T_h6 b_h6 f_h6 H_2073 (by decide)) (by decide)
      have A_h6 := A_hp.put T_h6 b_h6 f_h6 H_2073 (by decide)
      have : ys h6 2073 0 = 0 := (y_h6 2073 0).trans (if_pos ⟨rfl, rfl⟩)
      refine yG.load xak rfl (fun _ _ => rfl) (v := yR 2073) rfl rfl ?_
      refine yG.getI A_h6.1 (w_M_thrown W H_2073) rfl rfl (fun z7 e_z7 i_z7 l_z7 u_z7 => ?_)
      refine yG.ifz rfl (t := 48) rfl ⟨by omega, by omega⟩ (fun c8 => ?_) (fun c8 => ?_)
      · have c8 : (z7 : Int) ≤ 0 := c8
        refine yG.load xak rfl (fun _ _ => rfl) (v := yR 2073) rfl rfl ?_
        refine yG.invV (rest := []) A_h6.1 (bOb (d_M W) H_2073) rfl rfl rfl rfl (c_GModel_estimates W d A_h6.1 M_bRg_h6 (M_bMm.fr A_h6 (by decide)) (M_bPr.fr A_h6 (by decide)) H_2073) (fun rv h9 q9 => ?_)
        obtain ⟨q9, M_bRg_h9⟩ := q9
        obtain ⟨⟨rfl, R_z10⟩, B_h9⟩ := q9
        have A_h9 := A_h6.tr B_h9 (by decide)
        have : ys h9 2073 0 = ys h6 2073 0 := B_h9.ys H_2073 (by decide)
        show yG _ _ _ _ _ _ _ _ _ _ [] _
        refine yG.load xak rfl (fun _ _ => rfl) (v := yR 2073) rfl rfl ?_
        refine yG.invV (rest := []) A_h9.1 (bOb (d_M W) H_2073) rfl rfl rfl rfl (c_GModel_netTopology W (d + 4) A_h9.1 H_2073) (fun rv h11 q9 => ?_)
        obtain ⟨⟨rfl, R_z12⟩, B_h11⟩ := q9
        have A_h11 := A_h9.tr B_h11 (by decide)
        have M_bRg_h11 := M_bRg_h9.fr B_h11 (by decide)
        have : ys h11 2073 0 = ys h9 2073 0 := B_h11.ys H_2073 (by decide)
        show yG _ _ _ _ _ _ _ _ _ _ [] _
        refine yG.load xak rfl (fun _ _ => rfl) (v := yR 2073) rfl rfl ?_
        refine yG.load xik rfl (fun _ _ => rfl) (v := yI (p1)) rfl rfl ?_
        refine yG.invV (rest := []) A_h11.1 (bOb (d_M W) H_2073) rfl rfl rfl rfl (c_GModel_islandOfMeter W (d + 4) A_h11.1 (M_bMm.fr A_h11 (by decide)) H_2073 (p1) (by omega) (by omega)) (fun rv hp9 q9 => ?_)
        obtain ⟨⟨z13, rfl, l_z13, u_z13, R_z13⟩, e9⟩ := q9
        rw [e9]
        show yG _ _ _ _ _ _ _ _ _ _ (yI z13 :: []) _
        refine yG.store1 xik (L' := [(3, yI (z13)), (0, yR 2073), (1, yI (p1)), (2, yI (p2))]) rfl (fun _ _ => rfl) rfl rfl ?_
        refine yG.load xak rfl (fun _ _ => rfl) (v := yR 2073) rfl rfl ?_
        refine yG.getO A_h11.1 (w_M_isWhole W H_2073) rfl rfl (fun r14 H_r14 O_r14 q_r14 => ?_)
        obtain rfl := u_M_isWhole W H_r14
        refine yG.load xik rfl (fun _ _ => rfl) (v := yI (z13)) rfl rfl ?_
        refine yG.bald A_h11.1 (v_M_isWhole W H_r14) rfl (by omega) (by omega) (fun z15 e_z15 i_z15 l_z15 u_z15 => ?_)
        refine yG.ifz rfl (t := 85) rfl ⟨by omega, by omega⟩ (fun c16 => ?_) (fun c16 => ?_)
        · have c16 : (z15 : Int) = 0 := c16
          refine yG.load xak rfl (fun _ _ => rfl) (v := yR 2073) rfl rfl ?_
          refine yG.num (c := 3) rfl (fun _ _ => rfl) (by decide) ?_
          refine yG.putI A_h11.1 (w_M_thrown W H_2073) (W.2.1 _ _ H_2073 (by decide) (by decide)) rfl rfl (.inl rfl) ⟨by omega, by omega⟩ (by omega) (by omega) (fun h17 T_h17 b_h17 f_h17 y_h17 => ?_)
          have M_bRg_h17 := M_bRg_h11.fr (bAx.put (Wl := [(83076749736557242056487941267521536, 0)]) (bAx.rf A_h11.1) T_h17 b_h17 f_h17 H_2073 (by decide)) (by decide)
          have A_h17 := A_h11.put T_h17 b_h17 f_h17 H_2073 (by decide)
          have : ys h17 2073 0 = 3 := (y_h17 2073 0).trans (if_pos ⟨rfl, rfl⟩)
          refine yG.num (c := 0) rfl (fun _ _ => rfl) (by decide) ?_
          refine yG.ret rfl (fun _ _ => rfl) ?_
          exact (yP.int ⟨by omega, by omega⟩ ⟨⟨⟨0, rfl, by omega, by omega, by omega⟩, A_h17⟩, M_bRg_h17⟩)
        · have c16 : (z15 : Int) ≠ 0 := c16
          refine yG.load xik rfl (fun _ _ => rfl) (v := yI (p2)) rfl rfl ?_
          refine yG.num (c := 1) rfl (fun _ _ => rfl) (by decide) ?_
          refine yG.icmp rfl (t := 92) rfl ⟨by omega, by omega⟩ ⟨by omega, by omega⟩ (fun c18 => ?_) (fun c18 => ?_)
          · have c18 : (p2 : Int) ≠ 1 := c18
            exact yG.mono (yG.sub (i_92 (z13)  h11 A_h11 M_bRg_h11   (by omega) (by omega) (by omega) (by omega) (by omega) (by omega) (by omega)) (ySub.cons rfl (ySub.cons rfl (ySub.cons rfl (ySub.cons rfl (ySub.nil)))))) (by omega)
          · have c18 : (p2 : Int) = 1 := c18
            refine yG.load xak rfl (fun _ _ => rfl) (v := yR 2073) rfl rfl ?_
            refine yG.getO A_h11.1 (w_M_isStruck W H_2073) rfl rfl (fun r19 H_r19 O_r19 q_r19 => ?_)
            obtain rfl := u_M_isStruck W H_r19
            refine yG.load xik rfl (fun _ _ => rfl) (v := yI (p1)) rfl rfl ?_
            refine yG.bald A_h11.1 (v_M_isStruck W H_r19) rfl (by omega) (by omega) (fun z20 e_z20 i_z20 l_z20 u_z20 => ?_)
            refine yG.ifz rfl (t := 92) rfl ⟨by omega, by omega⟩ (fun c21 => ?_) (fun c21 => ?_)
            · have c21 : (z20 : Int) = 0 := c21
              exact yG.mono (yG.sub (i_92 (z13)  h11 A_h11 M_bRg_h11   (by omega) (by omega) (by omega) (by omega) (by omega) (by omega) (by omega)) (ySub.cons rfl (ySub.cons rfl (ySub.cons rfl (ySub.cons rfl (ySub.nil)))))) (by omega)
            · have c21 : (z20 : Int) ≠ 0 := c21
              refine yG.load xak rfl (fun _ _ => rfl) (v := yR 2073) rfl rfl ?_
              refine yG.num (c := 3) rfl (fun _ _ => rfl) (by decide) ?_
              refine yG.putI A_h11.1 (w_M_thrown W H_2073) (W.2.1 _ _ H_2073 (by decide) (by decide)) rfl rfl (.inl rfl) ⟨by omega, by omega⟩ (by omega) (by omega) (fun h22 T_h22 b_h22 f_h22 y_h22 => ?_)
              have M_bRg_h22 := M_bRg_h11.fr (bAx.put (Wl := [(83076749736557242056487941267521536, 0)]) (bAx.rf A_h11.1) T_h22 b_h22 f_h22 H_2073 (by decide)) (by decide)
              have A_h22 := A_h11.put T_h22 b_h22 f_h22 H_2073 (by decide)
              have : ys h22 2073 0 = 3 := (y_h22 2073 0).trans (if_pos ⟨rfl, rfl⟩)
              refine yG.num (c := 0) rfl (fun _ _ => rfl) (by decide) ?_
              refine yG.ret rfl (fun _ _ => rfl) ?_
              exact (yP.int ⟨by omega, by omega⟩ ⟨⟨⟨0, rfl, by omega, by omega, by omega⟩, A_h22⟩, M_bRg_h22⟩)
      · have c8 : (z7 : Int) > 0 := c8
        exfalso; omega
    · have c5 : (z4 : Int) = 0 := c5
      clear R_z4
      refine yG.num (c := 2) rfl (fun _ _ => rfl) (by decide) ?_
      refine yG.goto rfl (t := 36) rfl ?_
      refine yG.putI A_hp.1 (w_M_thrown W H_2073) (W.2.1 _ _ H_2073 (by decide) (by decide)) rfl rfl (.inl rfl) ⟨by omega, by omega⟩ (by omega) (by omega) (fun h23 T_h23 b_h23 f_h23 y_h23 => ?_)
      have M_bRg_h23 := M_bRg_hp.fr (bAx.put (Wl := [(83076749736557242056487941267521536, 0)]) (bAx.rf A_hp.1) T_h23 b_h23 f_h23 H_2073 (by decide)) (by decide)
      have A_h23 := A_hp.put T_h23 b_h23 f_h23 H_2073 (by decide)
      have : ys h23 2073 0 = 2 := (y_h23 2073 0).trans (if_pos ⟨rfl, rfl⟩)
      refine yG.load xak rfl (fun _ _ => rfl) (v := yR 2073) rfl rfl ?_
      refine yG.getI A_h23.1 (w_M_thrown W H_2073) rfl rfl (fun z24 e_z24 i_z24 l_z24 u_z24 => ?_)
      refine yG.ifz rfl (t := 48) rfl ⟨by omega, by omega⟩ (fun c25 => ?_) (fun c25 => ?_)
      · have c25 : (z24 : Int) ≤ 0 := c25
        exfalso; omega
      · have c25 : (z24 : Int) > 0 := c25
        refine yG.num (c := 0) rfl (fun _ _ => rfl) (by decide) ?_
        refine yG.ret rfl (fun _ _ => rfl) ?_
        exact (yP.int ⟨by omega, by omega⟩ ⟨⟨⟨0, rfl, by omega, by omega, by omega⟩, A_h23⟩, M_bRg_h23⟩)
  · have c3 : (z2 : Int) = 0 := c3
    clear R_z2
    refine yG.num (c := 1) rfl (fun _ _ => rfl) (by decide) ?_
    refine yG.goto rfl (t := 36) rfl ?_
    refine yG.putI A_hp.1 (w_M_thrown W H_2073) (W.2.1 _ _ H_2073 (by decide) (by decide)) rfl rfl (.inl rfl) ⟨by omega, by omega⟩ (by omega) (by omega) (fun h26 T_h26 b_h26 f_h26 y_h26 => ?_)
    have M_bRg_h26 := M_bRg_hp.fr (bAx.put (Wl := [(83076749736557242056487941267521536, 0)]) (bAx.rf A_hp.1) T_h26 b_h26 f_h26 H_2073 (by decide)) (by decide)
    have A_h26 := A_hp.put T_h26 b_h26 f_h26 H_2073 (by decide)
    have : ys h26 2073 0 = 1 := (y_h26 2073 0).trans (if_pos ⟨rfl, rfl⟩)
    refine yG.load xak rfl (fun _ _ => rfl) (v := yR 2073) rfl rfl ?_
    refine yG.getI A_h26.1 (w_M_thrown W H_2073) rfl rfl (fun z27 e_z27 i_z27 l_z27 u_z27 => ?_)
    refine yG.ifz rfl (t := 48) rfl ⟨by omega, by omega⟩ (fun c28 => ?_) (fun c28 => ?_)
    · have c28 : (z27 : Int) ≤ 0 := c28
      exfalso; omega
    · have c28 : (z27 : Int) > 0 := c28
      refine yG.num (c := 0) rfl (fun _ _ => rfl) (by decide) ?_
      refine yG.ret rfl (fun _ _ => rfl) ?_
      exact (yP.int ⟨by omega, by omega⟩ ⟨⟨⟨0, rfl, by omega, by omega, by omega⟩, A_h26⟩, M_bRg_h26⟩)
theorem c_GModel_look {hp : xH} (W : mW G) (d : Nat) (hT : zTy G hp) (M_bRg : bRg G hp) (M_bSm : bSm G hp) (H_2073 : bRo G 116 2073) (p1 : Int) (h1l : 0 ≤ p1) (h1u : p1 ≤ 2147483647) : yC (xcall 89 xfts xpools xms (d + 12)) 446 [yR 2073, yJ (p1)] hp (fun rv hp' => (bQi G [(83076749736557242056487941267521536, 10), (83076749736557242056487941267521536, 11), (83076749736557242056487941267521536, 38), (83076749736557242056487941267521536, 40), (83076749736557242056487941267521536, 74), (83076749736557242056487941267521536, 75), (83076749736557242056487941267521536, 76), (83076749736557242056487941267521536, 77), (83076749736557242056487941267521536, 88), (83076749736557242056487941267521536, 89), (4597486622951691245217928145288156057696141654691414016, 256)] hp (-2147483648) 2147483647 (fun _ => True)) rv hp' ∧ bRg G hp') := by
  have A_hp : bAx G [(83076749736557242056487941267521536, 10), (83076749736557242056487941267521536, 11), (83076749736557242056487941267521536, 38), (83076749736557242056487941267521536, 40), (83076749736557242056487941267521536, 74), (83076749736557242056487941267521536, 75), (83076749736557242056487941267521536, 76), (83076749736557242056487941267521536, 77), (83076749736557242056487941267521536, 88), (83076749736557242056487941267521536, 89), (4597486622951691245217928145288156057696141654691414016, 256)] hp hp := bAx.rf hT
  have M_bRg_hp := M_bRg
  have H : ∀ m : Nat, (∀ a3 : Int, ∀ a4 : Int, ∀ hq, bAx G [(83076749736557242056487941267521536, 10), (83076749736557242056487941267521536, 11), (83076749736557242056487941267521536, 38), (83076749736557242056487941267521536, 40), (83076749736557242056487941267521536, 74), (83076749736557242056487941267521536, 75), (83076749736557242056487941267521536, 76), (83076749736557242056487941267521536, 77), (83076749736557242056487941267521536, 88), (83076749736557242056487941267521536, 89), (4597486622951691245217928145288156057696141654691414016, 256)] hp hq → bRg G hq → (-2147483648) ≤ a3 → (-2147483647) ≤ 0 - a3 → 0 ≤ a4 → (-16) ≤ 0 - a4 → 0 ≤ p1 → (-2147483647) ≤ 0 - p1 → (-2147483646) ≤ 0 - a3 + a4 → 0 - 16 * a4 + 271 < (m : Int) → yG 89 xfts (xcall 89 xfts xpools xms (d + 11)) (xpool xp_RX13) [] xt_X13_look (yP 1 (fun rv hp' => (bQi G [(83076749736557242056487941267521536, 10), (83076749736557242056487941267521536, 11), (83076749736557242056487941267521536, 38), (83076749736557242056487941267521536, 40), (83076749736557242056487941267521536, 74), (83076749736557242056487941267521536, 75), (83076749736557242056487941267521536, 76), (83076749736557242056487941267521536, 77), (83076749736557242056487941267521536, 88), (83076749736557242056487941267521536, 89), (4597486622951691245217928145288156057696141654691414016, 256)] hp (-2147483648) 2147483647 (fun _ => True)) rv hp' ∧ bRg G hp')) (45 * m) 13 [(0, yR 2073), (1, yJ (p1)), (3, yI (a3)), (4, yI (a4))] [] hq) ∧ (∀ a3 : Int, ∀ a4 : Int, ∀ a5 : Int, ∀ hq, bAx G [(83076749736557242056487941267521536, 10), (83076749736557242056487941267521536, 11), (83076749736557242056487941267521536, 38), (83076749736557242056487941267521536, 40), (83076749736557242056487941267521536, 74), (83076749736557242056487941267521536, 75), (83076749736557242056487941267521536, 76), (83076749736557242056487941267521536, 77), (83076749736557242056487941267521536, 88), (83076749736557242056487941267521536, 89), (4597486622951691245217928145288156057696141654691414016, 256)] hp hq → bRg G hq → (-2147483648) ≤ a3 → (-2147483647) ≤ 0 - a3 → 0 ≤ a4 → (-15) ≤ 0 - a4 → 0 ≤ a5 → (-4) ≤ 0 - a5 → 0 ≤ p1 → (-2147483647) ≤ 0 - p1 → 0 - 16 * a4 - 3 * a5 + 270 < (m : Int) → yG 89 xfts (xcall 89 xfts xpools xms (d + 11)) (xpool xp_RX13) [] xt_X13_look (yP 1 (fun rv hp' => (bQi G [(83076749736557242056487941267521536, 10), (83076749736557242056487941267521536, 11), (83076749736557242056487941267521536, 38), (83076749736557242056487941267521536, 40), (83076749736557242056487941267521536, 74), (83076749736557242056487941267521536, 75), (83076749736557242056487941267521536, 76), (83076749736557242056487941267521536, 77), (83076749736557242056487941267521536, 88), (83076749736557242056487941267521536, 89), (4597486622951691245217928145288156057696141654691414016, 256)] hp (-2147483648) 2147483647 (fun _ => True)) rv hp' ∧ bRg G hp')) (45 * m) 31 [(0, yR 2073), (1, yJ (p1)), (3, yI (a3)), (4, yI (a4)), (5, yI (a5))] [] hq) ∧ (∀ a3 : Int, ∀ a4 : Int, ∀ a5 : Int, ∀ a6 : Int, ∀ a7 : Int, ∀ hq, bAx G [(83076749736557242056487941267521536, 10), (83076749736557242056487941267521536, 11), (83076749736557242056487941267521536, 38), (83076749736557242056487941267521536, 40), (83076749736557242056487941267521536, 74), (83076749736557242056487941267521536, 75), (83076749736557242056487941267521536, 76), (83076749736557242056487941267521536, 77), (83076749736557242056487941267521536, 88), (83076749736557242056487941267521536, 89), (4597486622951691245217928145288156057696141654691414016, 256)] hp hq → bRg G hq → (-2147483648) ≤ a3 → (-2147483647) ≤ 0 - a3 → 0 ≤ a4 → (-15) ≤ 0 - a4 → 0 ≤ a5 → (-3) ≤ 0 - a5 → 0 ≤ a6 → (-63) ≤ 0 - a6 → 0 ≤ a7 → (-1) ≤ 0 - a7 → 0 ≤ p1 → (-2147483647) ≤ 0 - p1 → (-48) ≤ a4 - a6 → (-60) ≤ a5 - a6 → 0 ≤ 0 - a4 + a6 → 0 ≤ 0 - a5 + a6 → 0 - 16 * a4 - 3 * a5 + 269 < (m : Int) → yG 89 xfts (xcall 89 xfts xpools xms (d + 11)) (xpool xp_RX13) [] xt_X13_look (yP 1 (fun rv hp' => (bQi G [(83076749736557242056487941267521536, 10), (83076749736557242056487941267521536, 11), (83076749736557242056487941267521536, 38), (83076749736557242056487941267521536, 40), (83076749736557242056487941267521536, 74), (83076749736557242056487941267521536, 75), (83076749736557242056487941267521536, 76), (83076749736557242056487941267521536, 77), (83076749736557242056487941267521536, 88), (83076749736557242056487941267521536, 89), (4597486622951691245217928145288156057696141654691414016, 256)] hp (-2147483648) 2147483647 (fun _ => True)) rv hp' ∧ bRg G hp')) (45 * m) 108 [(0, yR 2073), (1, yJ (p1)), (3, yI (a3)), (4, yI (a4)), (5, yI (a5)), (6, yI (a6)), (7, yI (a7))] [] hq) := by
    intro m
    induction m with
    | zero =>
      refine ⟨?_, ?_, ?_⟩ <;> (intros; exfalso; omega)
    | succ m ih =>
      obtain ⟨i_13, i_31, i_108⟩ := ih
      refine ⟨?_, ?_, ?_⟩
      · intro a3 a4 hq A_hq M_bRg_hq f0 f1 f2 f3 f4 f5 f6 hm
        refine yG.mono (N := 45 * m + 45) ?_ (by omega)
        refine yG.load xik rfl (fun _ _ => rfl) (v := yI (a4)) rfl rfl ?_
        refine yG.load xak rfl (fun _ _ => rfl) (v := yR 2073) rfl rfl ?_
        refine yG.getI A_hq.1 (w_M_relays W H_2073) rfl rfl (fun z1 e_z1 i_z1 l_z1 u_z1 => ?_)
        refine yG.icmp rfl (t := 145) rfl ⟨by omega, by omega⟩ ⟨by omega, by omega⟩ (fun c2 => ?_) (fun c2 => ?_)
        · have c2 : (a4 : Int) ≥ z1 := c2
          refine yG.load xik rfl (fun _ _ => rfl) (v := yI (a3)) rfl rfl ?_
          refine yG.ret rfl (fun _ _ => rfl) ?_
          exact (yP.int ⟨by omega, by omega⟩ ⟨⟨⟨a3, rfl, by omega, by omega, trivial⟩, A_hq⟩, M_bRg_hq⟩)
        · have c2 : (a4 : Int) < z1 := c2
          refine yG.load xak rfl (fun _ _ => rfl) (v := yR 2073) rfl rfl ?_
          refine yG.load xik rfl (fun _ _ => rfl) (v := yI (a4)) rfl rfl ?_
          refine yG.invV (rest := []) A_hq.1 (bOb (d_M W) H_2073) rfl rfl rfl rfl (c_GModel_lookAt W (d + 6) A_hq.1 M_bRg_hq H_2073 (a4) (by omega) (by omega)) (fun rv h3 q9 => ?_)
          obtain ⟨q9, M_bRg_h3⟩ := q9
          obtain ⟨⟨rfl, R_z4⟩, B_h3⟩ := q9
          have A_h3 := A_hq.tr B_h3 (by decide)
          show yG _ _ _ _ _ _ _ _ _ _ [] _
          refine yG.num (c := 0) rfl (fun _ _ => rfl) (by decide) ?_
          refine yG.store1 xik (L' := [(5, yI (0)), (0, yR 2073), (1, yJ (p1)), (3, yI (a3)), (4, yI (a4))]) rfl (fun _ _ => rfl) rfl rfl ?_
          exact yG.mono (yG.sub (i_31 (a3) (a4) (0)  h3 A_h3 M_bRg_h3   (by omega) (by omega) (by omega) (by omega) (by omega) (by omega) (by omega) (by omega) (by omega)) (ySub.cons rfl (ySub.cons rfl (ySub.cons rfl (ySub.cons rfl (ySub.cons rfl (ySub.nil))))))) (by omega)
      · intro a3 a4 a5 hq A_hq M_bRg_hq f0 f1 f2 f3 f4 f5 f6 f7 hm
        refine yG.mono (N := 45 * m + 45) ?_ (by omega)
        refine yG.load xik rfl (fun _ _ => rfl) (v := yI (a5)) rfl rfl ?_
        refine yG.load xak rfl (fun _ _ => rfl) (v := yR 2073) rfl rfl ?_
        refine yG.getO A_hq.1 (w_M_rowCount W H_2073) rfl rfl (fun r1 H_r1 O_r1 q_r1 => ?_)
        obtain rfl := u_M_rowCount W H_r1
        refine yG.load xik rfl (fun _ _ => rfl) (v := yI (a4)) rfl rfl ?_
        refine yG.iald A_hq.1 (v_M_rowCount W H_r1) rfl (by omega) (by omega) (fun z2 e_z2 i_z2 l_z2 u_z2 => ?_)
        refine yG.icmp rfl (t := 139) rfl ⟨by omega, by omega⟩ ⟨by omega, by omega⟩ (fun c3 => ?_) (fun c3 => ?_)
        · have c3 : (a5 : Int) ≥ z2 := c3
          refine yG.iinc rfl (a := a4) rfl (L' := [(4, yI (a4 + 1)), (0, yR 2073), (1, yJ (p1)), (3, yI (a3)), (5, yI (a5))]) rfl ?_
          refine yG.goto rfl (t := 13) rfl ?_
          exact yG.mono (yG.sub (i_13 (a3) (a4 + 1)  hq A_hq M_bRg_hq   (by omega) (by omega) (by omega) (by omega) (by omega) (by omega) (by omega) (by omega)) (ySub.cons rfl (ySub.cons rfl (ySub.cons rfl (ySub.cons rfl (ySub.nil)))))) (by omega)
        · have c3 : (a5 : Int) < z2 := c3
          refine yG.num (c := 4) rfl (fun _ _ => rfl) (by decide) ?_
          refine yG.load xik rfl (fun _ _ => rfl) (v := yI (a4)) rfl rfl ?_
          refine yG.imul rfl ?_
          refine yG.load xik rfl (fun _ _ => rfl) (v := yI (a5)) rfl rfl ?_
          refine yG.iadd rfl ?_
          obtain ⟨z4, e_z4⟩ : ∃ z : Int, z = (4 * a4) + a5 := ⟨_, rfl⟩
          rw [← e_z4]
          refine yG.store1 xik (L' := [(6, yI (z4)), (0, yR 2073), (1, yJ (p1)), (3, yI (a3)), (4, yI (a4)), (5, yI (a5))]) rfl (fun _ _ => rfl) rfl rfl ?_
          refine yG.load xak rfl (fun _ _ => rfl) (v := yR 2073) rfl rfl ?_
          refine yG.load xik rfl (fun _ _ => rfl) (v := yI (a4)) rfl rfl ?_
          refine yG.load xik rfl (fun _ _ => rfl) (v := yI (a5)) rfl rfl ?_
          refine yG.invV (rest := []) A_hq.1 (bOb (d_M W) H_2073) rfl rfl rfl rfl (c_GModel_isMet W (d + 8) A_hq.1 M_bRg_hq H_2073 (a4) (a5) (by omega) (by omega) (by omega) (by omega)) (fun rv h5 q9 => ?_)
          obtain ⟨q9, M_bRg_h5⟩ := q9
          obtain ⟨⟨z6, rfl, l_z6, u_z6, R_z6⟩, B_h5⟩ := q9
          have A_h5 := A_hq.tr B_h5 (by decide)
          show yG _ _ _ _ _ _ _ _ _ _ (yI z6 :: []) _
          refine yG.store1 xik (L' := [(7, yI (z6)), (6, yI (z4)), (0, yR 2073), (1, yJ (p1)), (3, yI (a3)), (4, yI (a4)), (5, yI (a5))]) rfl (fun _ _ => rfl) rfl rfl ?_
          refine yG.load xik rfl (fun _ _ => rfl) (v := yI (a3)) rfl rfl ?_
          refine yG.load xik rfl (fun _ _ => rfl) (v := yI (z6)) rfl rfl ?_
          refine yG.ifz rfl (t := 72) rfl ⟨by omega, by omega⟩ (fun c7 => ?_) (fun c7 => ?_)
          · have c7 : (z6 : Int) = 0 := c7
            refine yG.num (c := 0) rfl (fun _ _ => rfl) (by decide) ?_
            refine yG.iadd rfl ?_
            obtain ⟨z8, e_z8⟩ : ∃ z : Int, z = a3 + 0 := ⟨_, rfl⟩
            rw [← e_z8]
            refine yG.store1 xik (L' := [(3, yI (z8)), (7, yI (z6)), (6, yI (z4)), (0, yR 2073), (1, yJ (p1)), (4, yI (a4)), (5, yI (a5))]) rfl (fun _ _ => rfl) rfl rfl ?_
            refine yG.load xik rfl (fun _ _ => rfl) (v := yI (z6)) rfl rfl ?_
            refine yG.ifz rfl (t := 108) rfl ⟨by omega, by omega⟩ (fun c9 => ?_) (fun c9 => ?_)
            · have c9 : (z6 : Int) = 0 := c9
              exact yG.mono (yG.sub (i_108 (z8) (a4) (a5) (z4) (z6)  h5 A_h5 M_bRg_h5   (by omega) (by omega) (by omega) (by omega) (by omega) (by omega) (by omega) (by omega) (by omega) (by omega) (by omega) (by omega) (by omega) (by omega) (by omega) (by omega) (by omega)) (ySub.cons rfl (ySub.cons rfl (ySub.cons rfl (ySub.cons rfl (ySub.cons rfl (ySub.cons rfl (ySub.cons rfl (ySub.nil))))))))) (by omega)
            · have c9 : (z6 : Int) ≠ 0 := c9
              exfalso; omega
          · have c7 : (z6 : Int) ≠ 0 := c7
            refine yG.num (c := 1) rfl (fun _ _ => rfl) (by decide) ?_
            refine yG.goto rfl (t := 73) rfl ?_
            refine yG.iadd rfl ?_
            obtain ⟨z10, e_z10, l_z10, u_z10⟩ := ywI (a3 + 1)
            rw [e_z10]
            refine yG.store1 xik (L' := [(3, yI (z10)), (7, yI (z6)), (6, yI (z4)), (0, yR 2073), (1, yJ (p1)), (4, yI (a4)), (5, yI (a5))]) rfl (fun _ _ => rfl) rfl rfl ?_
            refine yG.load xik rfl (fun _ _ => rfl) (v := yI (z6)) rfl rfl ?_
            refine yG.ifz rfl (t := 108) rfl ⟨by omega, by omega⟩ (fun c11 => ?_) (fun c11 => ?_)
            · have c11 : (z6 : Int) = 0 := c11
              exfalso; omega
            · have c11 : (z6 : Int) ≠ 0 := c11
              refine yG.load xak rfl (fun _ _ => rfl) (v := yR 2073) rfl rfl ?_
              refine yG.getO A_h5.1 (w_M_since W H_2073) rfl rfl (fun r12 H_r12 O_r12 q_r12 => ?_)
              obtain rfl := u_M_since W H_r12
              refine yG.load xik rfl (fun _ _ => rfl) (v := yI (z4)) rfl rfl ?_
              refine yG.lald A_h5.1 (v_M_since W H_r12) rfl (by omega) (by omega) (fun z13 e_z13 i_z13 l_z13 u_z13 => ?_)
              refine yG.numl (c := 0) rfl (fun _ _ => rfl) (by decide) ?_
              refine yG.lcmp rfl ⟨by omega, by omega⟩ ⟨by omega, by omega⟩ (fun z14 e_z14 => ?_)
              refine yG.ifz rfl (t := 108) rfl ⟨by omega, by omega⟩ (fun c15 => ?_) (fun c15 => ?_)
              · have c15 : (z14 : Int) ≥ 0 := c15
                exact yG.mono (yG.sub (i_108 (z10) (a4) (a5) (z4) (z6)  h5 A_h5 M_bRg_h5   (by omega) (by omega) (by omega) (by omega) (by omega) (by omega) (by omega) (by omega) (by omega) (by omega) (by omega) (by omega) (by omega) (by omega) (by omega) (by omega) (by omega)) (ySub.cons rfl (ySub.cons rfl (ySub.cons rfl (ySub.cons rfl (ySub.cons rfl (ySub.cons rfl (ySub.cons rfl (ySub.nil))))))))) (by omega)
              · have c15 : (z14 : Int) < 0 := c15
                refine yG.load xak rfl (fun _ _ => rfl) (v := yR 2073) rfl rfl ?_
                refine yG.getS9 A_h5.1 (w_M_since W H_2073) q_r12 rfl rfl ?_
                refine yG.load xik rfl (fun _ _ => rfl) (v := yI (z4)) rfl rfl ?_
                refine yG.load xlk2 rfl (fun _ _ => rfl) (v := yJ (p1)) rfl rfl ?_
                refine yG.last A_h5.1 (v_M_since W H_r12) (W.2.1 _ _ H_r12 (by decide) (by decide)) rfl (by omega) (by omega) ⟨by omega, by omega⟩ (by omega) (by omega) (fun h16 T_h16 b_h16 f_h16 y_h16 => ?_)
                have M_bRg_h16 := M_bRg_h5.fr (bAx.put (Wl := [(1532495540865888858358347027150309183618739122183602176, 256)]) (bAx.rf A_h5.1) T_h16 b_h16 f_h16 H_r12 (bAll_ok (by decide) _)) (by decide)
                have A_h16 := A_h5.put T_h16 b_h16 f_h16 H_r12 (bAll_ok (by decide) _)
                have qq1 : zsl h16 2073 96 = yR 2137 := ((f_h16 2073 96).trans (if_neg (fun e => (bRo.ne H_2073 H_r12 (by decide)) e.1))).trans q_r12
                refine yG.load xak rfl (fun _ _ => rfl) (v := yR 2073) rfl rfl ?_
                refine yG.getO A_h16.1 (w_M_hasTripped W H_2073) rfl rfl (fun r17 H_r17 O_r17 q_r17 => ?_)
                obtain rfl := u_M_hasTripped W H_r17
                refine yG.load xik rfl (fun _ _ => rfl) (v := yI (z4)) rfl rfl ?_
                refine yG.num (c := 0) rfl (fun _ _ => rfl) (by decide) ?_
                refine yG.bast A_h16.1 (v_M_hasTripped W H_r17) (W.2.1 _ _ H_r17 (by decide) (by decide)) rfl (by omega) (by omega) ⟨by omega, by omega⟩ (by omega) (by omega) (fun h18 T_h18 b_h18 f_h18 y_h18 => ?_)
                have M_bRg_h18 := M_bRg_h16.fr (bAx.put (Wl := [(3064991081731777716716694054300618367237478244367204352, 256)]) (bAx.rf A_h16.1) T_h18 b_h18 f_h18 H_r17 (bAll_ok (by decide) _)) (by decide)
                have A_h18 := A_h16.put T_h18 b_h18 f_h18 H_r17 (bAll_ok (by decide) _)
                have qq2 : zsl h18 2073 96 = yR 2137 := ((f_h18 2073 96).trans (if_neg (fun e => (bRo.ne H_2073 H_r17 (by decide)) e.1))).trans qq1
                exact yG.mono (yG.sub (i_108 (z10) (a4) (a5) (z4) (z6)  h18 A_h18 M_bRg_h18   (by omega) (by omega) (by omega) (by omega) (by omega) (by omega) (by omega) (by omega) (by omega) (by omega) (by omega) (by omega) (by omega) (by omega) (by omega) (by omega) (by omega)) (ySub.cons rfl (ySub.cons rfl (ySub.cons rfl (ySub.cons rfl (ySub.cons rfl (ySub.cons rfl (ySub.cons rfl (ySub.nil))))))))) (by omega)
      · intro a3 a4 a5 a6 a7 hq A_hq M_bRg_hq f0 f1 f2 f3 f4 f5 f6 f7 f8 f9 f10 f11 f12 f13 f14 f15 hm
        refine yG.mono (N := 45 * m + 45) ?_ (by omega)
        refine yG.load xak rfl (fun _ _ => rfl) (v := yR 2073) rfl rfl ?_
        refine yG.getO A_hq.1 (w_M_since W H_2073) rfl rfl (fun r1 H_r1 O_r1 q_r1 => ?_)
        obtain rfl := u_M_since W H_r1
        refine yG.load xik rfl (fun _ _ => rfl) (v := yI (a6)) rfl rfl ?_
        refine yG.load xik rfl (fun _ _ => rfl) (v := yI (a7)) rfl rfl ?_
        refine yG.ifz rfl (t := 129) rfl ⟨by omega, by omega⟩ (fun c2 => ?_) (fun c2 => ?_)
        · have c2 : (a7 : Int) = 0 := c2
          refine yG.numl (c := -1) rfl (fun _ _ => rfl) (by decide) ?_
          refine yG.last A_hq.1 (v_M_since W H_r1) (W.2.1 _ _ H_r1 (by decide) (by decide)) rfl (by omega) (by omega) ⟨by omega, by omega⟩ (by omega) (by omega) (fun h3 T_h3 b_h3 f_h3 y_h3 => ?_)
          have M_bRg_h3 := M_bRg_hq.fr (bAx.put (Wl := [(1532495540865888858358347027150309183618739122183602176, 256)]) (bAx.rf A_hq.1) T_h3 b_h3 f_h3 H_r1 (bAll_ok (by decide) _)) (by decide)
          have A_h3 := A_hq.put T_h3 b_h3 f_h3 H_r1 (bAll_ok (by decide) _)
          have qq1 : zsl h3 2073 96 = yR 2137 := ((f_h3 2073 96).trans (if_neg (fun e => (bRo.ne H_2073 H_r1 (by decide)) e.1))).trans q_r1
          refine yG.iinc rfl (a := a5) rfl (L' := [(5, yI (a5 + 1)), (0, yR 2073), (1, yJ (p1)), (3, yI (a3)), (4, yI (a4)), (6, yI (a6)), (7, yI (a7))]) rfl ?_
          refine yG.goto rfl (t := 31) rfl ?_
          exact yG.mono (yG.sub (i_31 (a3) (a4) (a5 + 1)  h3 A_h3 M_bRg_h3   (by omega) (by omega) (by omega) (by omega) (by omega) (by omega) (by omega) (by omega) (by omega)) (ySub.cons rfl (ySub.cons rfl (ySub.cons rfl (ySub.cons rfl (ySub.cons rfl (ySub.nil))))))) (by omega)
        · have c2 : (a7 : Int) ≠ 0 := c2
          refine yG.load xak rfl (fun _ _ => rfl) (v := yR 2073) rfl rfl ?_
          refine yG.getS9 A_hq.1 (w_M_since W H_2073) q_r1 rfl rfl ?_
          refine yG.load xik rfl (fun _ _ => rfl) (v := yI (a6)) rfl rfl ?_
          refine yG.lald A_hq.1 (v_M_since W H_r1) rfl (by omega) (by omega) (fun z4 e_z4 i_z4 l_z4 u_z4 => ?_)
          refine yG.goto rfl (t := 132) rfl ?_
          refine yG.last A_hq.1 (v_M_since W H_r1) (W.2.1 _ _ H_r1 (by decide) (by decide)) rfl (by omega) (by omega) ⟨by omega, by omega⟩ (by omega) (by omega) (fun h5 T_h5 b_h5 f_h5 y_h5 => ?_)
          have M_bRg_h5 := M_bRg_hq.fr (bAx.put (Wl := [(1532495540865888858358347027150309183618739122183602176, 256)]) (bAx.rf A_hq.1) T_h5 b_h5 f_h5 H_r1 (bAll_ok (by decide) _)) (by decide)
          have A_h5 := A_hq.put T_h5 b_h5 f_h5 H_r1 (bAll_ok (by decide) _)
          have qq2 : zsl h5 2073 96 = yR 2137 := ((f_h5 2073 96).trans (if_neg (fun e => (bRo.ne H_2073 H_r1 (by decide)) e.1))).trans q_r1
          refine yG.iinc rfl (a := a5) rfl (L' := [(5, yI (a5 + 1)), (0, yR 2073), (1, yJ (p1)), (3, yI (a3)), (4, yI (a4)), (6, yI (a6)), (7, yI (a7))]) rfl ?_
          refine yG.goto rfl (t := 31) rfl ?_
          exact yG.mono (yG.sub (i_31 (a3) (a4) (a5 + 1)  h5 A_h5 M_bRg_h5   (by omega) (by omega) (by omega) (by omega) (by omega) (by omega) (by omega) (by omega) (by omega)) (ySub.cons rfl (ySub.cons rfl (ySub.cons rfl (ySub.cons rfl (ySub.cons rfl (ySub.nil))))))) (by omega)
  refine yC.of (M := (xt_X13_look, (8, (1, (14, []))))) rfl rfl (N := 12330) (yfuel (by decide)) ?_
  show yG 89 xfts (xcall 89 xfts xpools xms (d + 11)) (xpool xp_RX13) [] xt_X13_look (yP 1 (fun rv hp' => (bQi G [(83076749736557242056487941267521536, 10), (83076749736557242056487941267521536, 11), (83076749736557242056487941267521536, 38), (83076749736557242056487941267521536, 40), (83076749736557242056487941267521536, 74), (83076749736557242056487941267521536, 75), (83076749736557242056487941267521536, 76), (83076749736557242056487941267521536, 77), (83076749736557242056487941267521536, 88), (83076749736557242056487941267521536, 89), (4597486622951691245217928145288156057696141654691414016, 256)] hp (-2147483648) 2147483647 (fun _ => True)) rv hp' ∧ bRg G hp')) 12330 0 [(0, yR 2073), (1, yJ (p1))] [] hp
  obtain ⟨i_13, i_31, i_108⟩ := H 273
  refine yG.load xak rfl (fun _ _ => rfl) (v := yR 2073) rfl rfl ?_
  refine yG.invV (rest := []) A_hp.1 (bOb (d_M W) H_2073) rfl rfl rfl rfl (c_GModel_asInRun W (d + 7) A_hp.1 H_2073) (fun rv h1 q9 => ?_)
  obtain ⟨⟨rfl, R_z2⟩, B_h1⟩ := q9
  have A_h1 := A_hp.tr B_h1 (by decide)
  have M_bRg_h1 := M_bRg_hp.fr B_h1 (by decide)
  show yG _ _ _ _ _ _ _ _ _ _ [] _
  refine yG.load xak rfl (fun _ _ => rfl) (v := yR 2073) rfl rfl ?_
  refine yG.invV (rest := []) A_h1.1 (bOb (d_M W) H_2073) rfl rfl rfl rfl (c_GModel_shorts W d A_h1.1 M_bRg_h1 (M_bSm.fr A_h1 (by decide)) H_2073) (fun rv h3 q9 => ?_)
  obtain ⟨q9, M_bRg_h3⟩ := q9
  obtain ⟨⟨rfl, R_z4⟩, B_h3⟩ := q9
  have A_h3 := A_h1.tr B_h3 (by decide)
  show yG _ _ _ _ _ _ _ _ _ _ [] _
  refine yG.num (c := 0) rfl (fun _ _ => rfl) (by decide) ?_
  refine yG.store1 xik (L' := [(3, yI (0)), (0, yR 2073), (1, yJ (p1))]) rfl (fun _ _ => rfl) rfl rfl ?_
  refine yG.num (c := 0) rfl (fun _ _ => rfl) (by decide) ?_
  refine yG.store1 xik (L' := [(4, yI (0)), (3, yI (0)), (0, yR 2073), (1, yJ (p1))]) rfl (fun _ _ => rfl) rfl rfl ?_
  exact yG.mono (yG.sub (i_13 (0) (0)  h3 A_h3 M_bRg_h3   (by omega) (by omega) (by omega) (by omega) (by omega) (by omega) (by omega) (by omega)) (ySub.cons rfl (ySub.cons rfl (ySub.cons rfl (ySub.cons rfl (ySub.nil)))))) (by omega)
theorem c_GModel_begin {hp : xH} (W : mW G) (d : Nat) (hT : zTy G hp) (M_bRg : bRg G hp) (M_bSm : bSm G hp) (H_2073 : bRo G 116 2073) : yC (xcall 89 xfts xpools xms (d + 13)) 359 [yR 2073] hp (fun rv hp' => (bQi G [(83076749736557242056487941267521536, 0), (83076749736557242056487941267521536, 10), (83076749736557242056487941267521536, 11), (83076749736557242056487941267521536, 38), (83076749736557242056487941267521536, 40), (83076749736557242056487941267521536, 74), (83076749736557242056487941267521536, 75), (83076749736557242056487941267521536, 76), (83076749736557242056487941267521536, 77), (83076749736557242056487941267521536, 88), (83076749736557242056487941267521536, 89), (83076749736557242056487941267521536, 90), (83076749736557242056487941267521536, 91), (83076749736557242056487941267521536, 100), (6034201192513462049928878483241570917338709581738541056, 256)] hp (-2147483648) 2147483647 (fun _ => True)) rv hp' ∧ bRg G hp') := by
  have A_hp : bAx G [(83076749736557242056487941267521536, 0), (83076749736557242056487941267521536, 10), (83076749736557242056487941267521536, 11), (83076749736557242056487941267521536, 38), (83076749736557242056487941267521536, 40), (83076749736557242056487941267521536, 74), (83076749736557242056487941267521536, 75), (83076749736557242056487941267521536, 76), (83076749736557242056487941267521536, 77), (83076749736557242056487941267521536, 88), (83076749736557242056487941267521536, 89), (83076749736557242056487941267521536, 90), (83076749736557242056487941267521536, 91), (83076749736557242056487941267521536, 100), (6034201192513462049928878483241570917338709581738541056, 256)] hp hp := bAx.rf hT
  have M_bRg_hp := M_bRg
  have H : ∀ m : Nat, (∀ a1 : Int, ∀ hq, bAx G [(83076749736557242056487941267521536, 0), (83076749736557242056487941267521536, 10), (83076749736557242056487941267521536, 11), (83076749736557242056487941267521536, 38), (83076749736557242056487941267521536, 40), (83076749736557242056487941267521536, 74), (83076749736557242056487941267521536, 75), (83076749736557242056487941267521536, 76), (83076749736557242056487941267521536, 77), (83076749736557242056487941267521536, 88), (83076749736557242056487941267521536, 89), (83076749736557242056487941267521536, 90), (83076749736557242056487941267521536, 91), (83076749736557242056487941267521536, 100), (6034201192513462049928878483241570917338709581738541056, 256)] hp hq → bRg G hq → 0 ≤ a1 → (-24) ≤ 0 - a1 → 0 - 131 * a1 + 3274 < (m : Int) → yG 89 xfts (xcall 89 xfts xpools xms (d + 12)) (xpool xp_RX13) [] xt_X13_begin (yP 1 (fun rv hp' => (bQi G [(83076749736557242056487941267521536, 0), (83076749736557242056487941267521536, 10), (83076749736557242056487941267521536, 11), (83076749736557242056487941267521536, 38), (83076749736557242056487941267521536, 40), (83076749736557242056487941267521536, 74), (83076749736557242056487941267521536, 75), (83076749736557242056487941267521536, 76), (83076749736557242056487941267521536, 77), (83076749736557242056487941267521536, 88), (83076749736557242056487941267521536, 89), (83076749736557242056487941267521536, 90), (83076749736557242056487941267521536, 91), (83076749736557242056487941267521536, 100), (6034201192513462049928878483241570917338709581738541056, 256)] hp (-2147483648) 2147483647 (fun _ => True)) rv hp' ∧ bRg G hp')) (38 * m) 42 [(0, yR 2073), (1, yI (a1))] [] hq) ∧ (∀ a1 : Int, ∀ hq, bAx G [(83076749736557242056487941267521536, 0), (83076749736557242056487941267521536, 10), (83076749736557242056487941267521536, 11), (83076749736557242056487941267521536, 38), (83076749736557242056487941267521536, 40), (83076749736557242056487941267521536, 74), (83076749736557242056487941267521536, 75), (83076749736557242056487941267521536, 76), (83076749736557242056487941267521536, 77), (83076749736557242056487941267521536, 88), (83076749736557242056487941267521536, 89), (83076749736557242056487941267521536, 90), (83076749736557242056487941267521536, 91), (83076749736557242056487941267521536, 100), (6034201192513462049928878483241570917338709581738541056, 256)] hp hq → bRg G hq → 0 ≤ a1 → (-64) ≤ 0 - a1 → 0 - 2 * a1 + 129 < (m : Int) → yG 89 xfts (xcall 89 xfts xpools xms (d + 12)) (xpool xp_RX13) [] xt_X13_begin (yP 1 (fun rv hp' => (bQi G [(83076749736557242056487941267521536, 0), (83076749736557242056487941267521536, 10), (83076749736557242056487941267521536, 11), (83076749736557242056487941267521536, 38), (83076749736557242056487941267521536, 40), (83076749736557242056487941267521536, 74), (83076749736557242056487941267521536, 75), (83076749736557242056487941267521536, 76), (83076749736557242056487941267521536, 77), (83076749736557242056487941267521536, 88), (83076749736557242056487941267521536, 89), (83076749736557242056487941267521536, 90), (83076749736557242056487941267521536, 91), (83076749736557242056487941267521536, 100), (6034201192513462049928878483241570917338709581738541056, 256)] hp (-2147483648) 2147483647 (fun _ => True)) rv hp' ∧ bRg G hp')) (38 * m) 108 [(0, yR 2073), (1, yI (a1))] [] hq) := by
    intro m
    induction m with
    | zero =>
      refine ⟨?_, ?_⟩ <;> (intros; exfalso; omega)
    | succ m ih =>
      obtain ⟨i_42, i_108⟩ := ih
      refine ⟨?_, ?_⟩
      · intro a1 hq A_hq M_bRg_hq f0 f1 hm
        refine yG.mono (N := 38 * m + 38) ?_ (by omega)
        refine yG.load xik rfl (fun _ _ => rfl) (v := yI (a1)) rfl rfl ?_
        refine yG.num (c := 24) rfl (fun _ _ => rfl) (by decide) ?_
        refine yG.icmp rfl (t := 106) rfl ⟨by omega, by omega⟩ ⟨by omega, by omega⟩ (fun c1 => ?_) (fun c1 => ?_)
        · have c1 : (a1 : Int) ≥ 24 := c1
          refine yG.num (c := 0) rfl (fun _ _ => rfl) (by decide) ?_
          refine yG.store1 xik (L' := [(1, yI (0)), (0, yR 2073)]) rfl (fun _ _ => rfl) rfl rfl ?_
          exact yG.mono (yG.sub (i_108 (0)  hq A_hq M_bRg_hq   (by omega) (by omega) (by omega)) (ySub.cons rfl (ySub.cons rfl (ySub.nil)))) (by omega)
        · have c1 : (a1 : Int) < 24 := c1
          refine yG.load xak rfl (fun _ _ => rfl) (v := yR 2073) rfl rfl ?_
          refine yG.getO A_hq.1 (w_M_runState W H_2073) rfl rfl (fun r2 H_r2 O_r2 q_r2 => ?_)
          obtain rfl := u_M_runState W H_r2
          refine yG.load xik rfl (fun _ _ => rfl) (v := yI (a1)) rfl rfl ?_
          refine yG.load xik rfl (fun _ _ => rfl) (v := yI (a1)) rfl rfl ?_
          refine yG.load xak rfl (fun _ _ => rfl) (v := yR 2073) rfl rfl ?_
          refine yG.getO A_hq.1 (w_M_count W H_2073) rfl rfl (fun r3 H_r3 O_r3 q_r3 => ?_)
          obtain rfl := u_M_count W H_r3
          refine yG.num (c := 1) rfl (fun _ _ => rfl) (by decide) ?_
          refine yG.ialdF A_hq.1 (v_M_count W H_r3) rfl rfl (by omega) (by omega) (fun z4 e_z4 i_z4 l_z4 u_z4 => ?_)
          refine yG.icmp rfl (t := 73) rfl ⟨by omega, by omega⟩ ⟨by omega, by omega⟩ (fun c5 => ?_) (fun c5 => ?_)
          · have c5 : (a1 : Int) ≥ z4 := c5
            refine yG.num (c := 0) rfl (fun _ _ => rfl) (by decide) ?_
            refine yG.iast A_hq.1 (v_M_runState W H_r2) (W.2.1 _ _ H_r2 (by decide) (by decide)) rfl (by omega) (by omega) ⟨by omega, by omega⟩ (by omega) (by omega) (fun h6 T_h6 b_h6 f_h6 y_h6 => ?_)
            have M_bRg_h6 := M_bRg_hq.fr (bAx.put (Wl := [(95780971304118053647396689196894323976171195136475136, 256)]) (bAx.rf A_hq.1) T_h6 b_h6 f_h6 H_r2 (bAll_ok (by decide) _)) (by decide)
            have A_h6 := A_hq.put T_h6 b_h6 f_h6 H_r2 (bAll_ok (by decide) _)
            refine yG.load xak rfl (fun _ _ => rfl) (v := yR 2073) rfl rfl ?_
            refine yG.getO A_h6.1 (w_M_hasOrder W H_2073) rfl rfl (fun r7 H_r7 O_r7 q_r7 => ?_)
            obtain rfl := u_M_hasOrder W H_r7
            refine yG.load xik rfl (fun _ _ => rfl) (v := yI (a1)) rfl rfl ?_
            refine yG.num (c := 0) rfl (fun _ _ => rfl) (by decide) ?_
            refine yG.bast A_h6.1 (v_M_hasOrder W H_r7) (W.2.1 _ _ H_r7 (by decide) (by decide)) rfl (by omega) (by omega) ⟨by omega, by omega⟩ (by omega) (by omega) (fun h8 T_h8 b_h8 f_h8 y_h8 => ?_)
            have M_bRg_h8 := M_bRg_h6.fr (bAx.put (Wl := [(191561942608236107294793378393788647952342390272950272, 256)]) (bAx.rf A_h6.1) T_h8 b_h8 f_h8 H_r7 (bAll_ok (by decide) _)) (by decide)
            have A_h8 := A_h6.put T_h8 b_h8 f_h8 H_r7 (bAll_ok (by decide) _)
            refine yG.load xak rfl (fun _ _ => rfl) (v := yR 2073) rfl rfl ?_
            refine yG.getO A_h8.1 (w_M_opensAt W H_2073) rfl rfl (fun r9 H_r9 O_r9 q_r9 => ?_)
            obtain rfl := u_M_opensAt W H_r9
            refine yG.load xik rfl (fun _ _ => rfl) (v := yI (a1)) rfl rfl ?_
            refine yG.numl (c := -1) rfl (fun _ _ => rfl) (by decide) ?_
            refine yG.last A_h8.1 (v_M_opensAt W H_r9) (W.2.1 _ _ H_r9 (by decide) (by decide)) rfl (by omega) (by omega) ⟨by omega, by omega⟩ (by omega) (by omega) (fun h10 T_h10 b_h10 f_h10 y_h10 => ?_)
            have M_bRg_h10 := M_bRg_h8.fr (bAx.put (Wl := [(383123885216472214589586756787577295904684780545900544, 256)]) (bAx.rf A_h8.1) T_h10 b_h10 f_h10 H_r9 (bAll_ok (by decide) _)) (by decide)
            have A_h10 := A_h8.put T_h10 b_h10 f_h10 H_r9 (bAll_ok (by decide) _)
            refine yG.load xak rfl (fun _ _ => rfl) (v := yR 2073) rfl rfl ?_
            refine yG.getO A_h10.1 (w_M_backupAt W H_2073) rfl rfl (fun r11 H_r11 O_r11 q_r11 => ?_)
            obtain rfl := u_M_backupAt W H_r11
            refine yG.load xik rfl (fun _ _ => rfl) (v := yI (a1)) rfl rfl ?_
            refine yG.numl (c := -1) rfl (fun _ _ => rfl) (by decide) ?_
            refine yG.last A_h10.1 (v_M_backupAt W H_r11) (W.2.1 _ _ H_r11 (by decide) (by decide)) rfl (by omega) (by omega) ⟨by omega, by omega⟩ (by omega) (by omega) (fun h12 T_h12 b_h12 f_h12 y_h12 => ?_)
            have M_bRg_h12 := M_bRg_h10.fr (bAx.put (Wl := [(766247770432944429179173513575154591809369561091801088, 256)]) (bAx.rf A_h10.1) T_h12 b_h12 f_h12 H_r11 (bAll_ok (by decide) _)) (by decide)
            have A_h12 := A_h10.put T_h12 b_h12 f_h12 H_r11 (bAll_ok (by decide) _)
            refine yG.iinc rfl (a := a1) rfl (L' := [(1, yI (a1 + 1)), (0, yR 2073)]) rfl ?_
            refine yG.goto rfl (t := 42) rfl ?_
            exact yG.mono (yG.sub (i_42 (a1 + 1)  h12 A_h12 M_bRg_h12   (by omega) (by omega) (by omega)) (ySub.cons rfl (ySub.cons rfl (ySub.nil)))) (by omega)
          · have c5 : (a1 : Int) < z4 := c5
            refine yG.load xak rfl (fun _ _ => rfl) (v := yR 2073) rfl rfl ?_
            refine yG.num (c := 1) rfl (fun _ _ => rfl) (by decide) ?_
            refine yG.load xik rfl (fun _ _ => rfl) (v := yI (a1)) rfl rfl ?_
            refine yG.num (c := 0) rfl (fun _ _ => rfl) (by decide) ?_
            refine yG.invV (rest := [yI (a1), yR 2133]) A_hq.1 (bOb (d_M W) H_2073) rfl rfl rfl rfl (c_GModel_of_1_0 W (d + 10) A_hq.1 H_2073 (a1) (by omega) (by omega)) (fun rv hp9 q9 => ?_)
            obtain ⟨⟨z13, rfl, l_z13, u_z13, R_z13⟩, e9⟩ := q9
            rw [e9]
            show yG _ _ _ _ _ _ _ _ _ _ (yI z13 :: [yI (a1), yR 2133]) _
            refine yG.goto rfl (t := 74) rfl ?_
            refine yG.iast A_hq.1 (v_M_runState W H_r2) (W.2.1 _ _ H_r2 (by decide) (by decide)) rfl (by omega) (by omega) ⟨by omega, by omega⟩ (by omega) (by omega) (fun h14 T_h14 b_h14 f_h14 y_h14 => ?_)
            have M_bRg_h14 := M_bRg_hq.fr (bAx.put (Wl := [(95780971304118053647396689196894323976171195136475136, 256)]) (bAx.rf A_hq.1) T_h14 b_h14 f_h14 H_r2 (bAll_ok (by decide) _)) (by decide)
            have A_h14 := A_hq.put T_h14 b_h14 f_h14 H_r2 (bAll_ok (by decide) _)
            refine yG.load xak rfl (fun _ _ => rfl) (v := yR 2073) rfl rfl ?_
            refine yG.getO A_h14.1 (w_M_hasOrder W H_2073) rfl rfl (fun r15 H_r15 O_r15 q_r15 => ?_)
            obtain rfl := u_M_hasOrder W H_r15
            refine yG.load xik rfl (fun _ _ => rfl) (v := yI (a1)) rfl rfl ?_
            refine yG.num (c := 0) rfl (fun _ _ => rfl) (by decide) ?_
            refine yG.bast A_h14.1 (v_M_hasOrder W H_r15) (W.2.1 _ _ H_r15 (by decide) (by decide)) rfl (by omega) (by omega) ⟨by omega, by omega⟩ (by omega) (by omega) (fun h16 T_h16 b_h16 f_h16 y_h16 => ?_)
            have M_bRg_h16 := M_bRg_h14.fr (bAx.put (Wl := [(191561942608236107294793378393788647952342390272950272, 256)]) (bAx.rf A_h14.1) T_h16 b_h16 f_h16 H_r15 (bAll_ok (by decide) _)) (by decide)
            have A_h16 := A_h14.put T_h16 b_h16 f_h16 H_r15 (bAll_ok (by decide) _)
            refine yG.load xak rfl (fun _ _ => rfl) (v := yR 2073) rfl rfl ?_
            refine yG.getO A_h16.1 (w_M_opensAt W H_2073) rfl rfl (fun r17 H_r17 O_r17 q_r17 => ?_)
            obtain rfl := u_M_opensAt W H_r17
            refine yG.load xik rfl (fun _ _ => rfl) (v := yI (a1)) rfl rfl ?_
            refine yG.numl (c := -1) rfl (fun _ _ => rfl) (by decide) ?_
            refine yG.last A_h16.1 (v_M_opensAt W H_r17) (W.2.1 _ _ H_r17 (by decide) (by decide)) rfl (by omega) (by omega) ⟨by omega, by omega⟩ (by omega) (by omega) (fun h18 T_h18 b_h18 f_h18 y_h18 => ?_)
            have M_bRg_h18 := M_bRg_h16.fr (bAx.put (Wl := [(383123885216472214589586756787577295904684780545900544, 256)]) (bAx.rf A_h16.1) T_h18 b_h18 f_h18 H_r17 (bAll_ok (by decide) _)) (by decide)
            have A_h18 := A_h16.put T_h18 b_h18 f_h18 H_r17 (bAll_ok (by decide) _)
            refine yG.load xak rfl (fun _ _ => rfl) (v := yR 2073) rfl rfl ?_
            refine yG.getO A_h18.1 (w_M_backupAt W H_2073) rfl rfl (fun r19 H_r19 O_r19 q_r19 => ?_)
            obtain rfl := u_M_backupAt W H_r19
            refine yG.load xik rfl (fun _ _ => rfl) (v := yI (a1)) rfl rfl ?_
            refine yG.numl (c := -1) rfl (fun _ _ => rfl) (by decide) ?_
            refine yG.last A_h18.1 (v_M_backupAt W H_r19) (W.2.1 _ _ H_r19 (by decide) (by decide)) rfl (by omega) (by omega) ⟨by omega, by omega⟩ (by omega) (by omega) (fun h20 T_h20 b_h20 f_h20 y_h20 => ?_)
            have M_bRg_h20 := M_bRg_h18.fr (bAx.put (Wl := [(766247770432944429179173513575154591809369561091801088, 256)]) (bAx.rf A_h18.1) T_h20 b_h20 f_h20 H_r19 (bAll_ok (by decide) _)) (by decide)
            have A_h20 := A_h18.put T_h20 b_h20 f_h20 H_r19 (bAll_ok (by decide) _)
            refine yG.iinc rfl (a := a1) rfl (L' := [(1, yI (a1 + 1)), (0, yR 2073)]) rfl ?_
            refine yG.goto rfl (t := 42) rfl ?_
            exact yG.mono (yG.sub (i_42 (a1 + 1)  h20 A_h20 M_bRg_h20   (by omega) (by omega) (by omega)) (ySub.cons rfl (ySub.cons rfl (ySub.nil)))) (by omega)
      · intro a1 hq A_hq M_bRg_hq f0 f1 hm
        refine yG.mono (N := 38 * m + 38) ?_ (by omega)
        refine yG.load xik rfl (fun _ _ => rfl) (v := yI (a1)) rfl rfl ?_
        refine yG.num (c := 64) rfl (fun _ _ => rfl) (by decide) ?_
        refine yG.icmp rfl (t := 136) rfl ⟨by omega, by omega⟩ ⟨by omega, by omega⟩ (fun c1 => ?_) (fun c1 => ?_)
        · have c1 : (a1 : Int) ≥ 64 := c1
          refine yG.load xak rfl (fun _ _ => rfl) (v := yR 2073) rfl rfl ?_
          refine yG.numl (c := 0) rfl (fun _ _ => rfl) (by decide) ?_
          refine yG.invV (rest := []) A_hq.1 (bOb (d_M W) H_2073) rfl rfl rfl rfl (c_GModel_look W d A_hq.1 M_bRg_hq (M_bSm.fr A_hq (by decide)) H_2073 (0) (by omega) (by omega)) (fun rv h2 q9 => ?_)
          obtain ⟨q9, M_bRg_h2⟩ := q9
          obtain ⟨⟨z3, rfl, l_z3, u_z3, R_z3⟩, B_h2⟩ := q9
          have A_h2 := A_hq.tr B_h2 (by decide)
          show yG _ _ _ _ _ _ _ _ _ _ (yI z3 :: []) _
          refine yG.ret rfl (fun _ _ => rfl) ?_
          exact (yP.int ⟨by omega, by omega⟩ ⟨⟨⟨z3, rfl, by omega, by omega, trivial⟩, A_h2⟩, M_bRg_h2⟩)
        · have c1 : (a1 : Int) < 64 := c1
          refine yG.load xak rfl (fun _ _ => rfl) (v := yR 2073) rfl rfl ?_
          refine yG.getO A_hq.1 (w_M_since W H_2073) rfl rfl (fun r4 H_r4 O_r4 q_r4 => ?_)
          obtain rfl := u_M_since W H_r4
          refine yG.load xik rfl (fun _ _ => rfl) (v := yI (a1)) rfl rfl ?_
          refine yG.numl (c := -1) rfl (fun _ _ => rfl) (by decide) ?_
          refine yG.last A_hq.1 (v_M_since W H_r4) (W.2.1 _ _ H_r4 (by decide) (by decide)) rfl (by omega) (by omega) ⟨by omega, by omega⟩ (by omega) (by omega) (fun h5 T_h5 b_h5 f_h5 y_h5 => ?_)
          have M_bRg_h5 := M_bRg_hq.fr (bAx.put (Wl := [(1532495540865888858358347027150309183618739122183602176, 256)]) (bAx.rf A_hq.1) T_h5 b_h5 f_h5 H_r4 (bAll_ok (by decide) _)) (by decide)
          have A_h5 := A_hq.put T_h5 b_h5 f_h5 H_r4 (bAll_ok (by decide) _)
          refine yG.load xak rfl (fun _ _ => rfl) (v := yR 2073) rfl rfl ?_
          refine yG.getO A_h5.1 (w_M_hasTripped W H_2073) rfl rfl (fun r6 H_r6 O_r6 q_r6 => ?_)
          obtain rfl := u_M_hasTripped W H_r6
          refine yG.load xik rfl (fun _ _ => rfl) (v := yI (a1)) rfl rfl ?_
          refine yG.num (c := 0) rfl (fun _ _ => rfl) (by decide) ?_
          refine yG.bast A_h5.1 (v_M_hasTripped W H_r6) (W.2.1 _ _ H_r6 (by decide) (by decide)) rfl (by omega) (by omega) ⟨by omega, by omega⟩ (by omega) (by omega) (fun h7 T_h7 b_h7 f_h7 y_h7 => ?_)
          have M_bRg_h7 := M_bRg_h5.fr (bAx.put (Wl := [(3064991081731777716716694054300618367237478244367204352, 256)]) (bAx.rf A_h5.1) T_h7 b_h7 f_h7 H_r6 (bAll_ok (by decide) _)) (by decide)
          have A_h7 := A_h5.put T_h7 b_h7 f_h7 H_r6 (bAll_ok (by decide) _)
          refine yG.iinc rfl (a := a1) rfl (L' := [(1, yI (a1 + 1)), (0, yR 2073)]) rfl ?_
          refine yG.goto rfl (t := 108) rfl ?_
          exact yG.mono (yG.sub (i_108 (a1 + 1)  h7 A_h7 M_bRg_h7   (by omega) (by omega) (by omega)) (ySub.cons rfl (ySub.cons rfl (ySub.nil)))) (by omega)
  refine yC.of (M := (xt_X13_begin, (2, (1, (14, []))))) rfl rfl (N := 124526) (yfuel (by decide)) ?_
  show yG 89 xfts (xcall 89 xfts xpools xms (d + 12)) (xpool xp_RX13) [] xt_X13_begin (yP 1 (fun rv hp' => (bQi G [(83076749736557242056487941267521536, 0), (83076749736557242056487941267521536, 10), (83076749736557242056487941267521536, 11), (83076749736557242056487941267521536, 38), (83076749736557242056487941267521536, 40), (83076749736557242056487941267521536, 74), (83076749736557242056487941267521536, 75), (83076749736557242056487941267521536, 76), (83076749736557242056487941267521536, 77), (83076749736557242056487941267521536, 88), (83076749736557242056487941267521536, 89), (83076749736557242056487941267521536, 90), (83076749736557242056487941267521536, 91), (83076749736557242056487941267521536, 100), (6034201192513462049928878483241570917338709581738541056, 256)] hp (-2147483648) 2147483647 (fun _ => True)) rv hp' ∧ bRg G hp')) 124526 0 [(0, yR 2073)] [] hp
  obtain ⟨i_42, i_108⟩ := H 3276
  refine yG.load xak rfl (fun _ _ => rfl) (v := yR 2073) rfl rfl ?_
  refine yG.load xak rfl (fun _ _ => rfl) (v := yR 2073) rfl rfl ?_
  refine yG.getI A_hp.1 (w_M_hasShort W H_2073) rfl rfl (fun z1 e_z1 i_z1 l_z1 u_z1 => ?_)
  refine yG.ifz rfl (t := 12) rfl ⟨by omega, by omega⟩ (fun c2 => ?_) (fun c2 => ?_)
  · have c2 : (z1 : Int) = 0 := c2
    refine yG.num (c := 1) rfl (fun _ _ => rfl) (by decide) ?_
    refine yG.putI A_hp.1 (w_M_thrown W H_2073) (W.2.1 _ _ H_2073 (by decide) (by decide)) rfl rfl (.inl rfl) ⟨by omega, by omega⟩ (by omega) (by omega) (fun h3 T_h3 b_h3 f_h3 y_h3 => ?_)
    have M_bRg_h3 := M_bRg_hp.fr (bAx.put (Wl := [(83076749736557242056487941267521536, 0)]) (bAx.rf A_hp.1) T_h3 b_h3 f_h3 H_2073 (by decide)) (by decide)
    have A_h3 := A_hp.put T_h3 b_h3 f_h3 H_2073 (by decide)
    have : ys h3 2073 0 = 1 := (y_h3 2073 0).trans (if_pos ⟨rfl, rfl⟩)
    refine yG.load xak rfl (fun _ _ => rfl) (v := yR 2073) rfl rfl ?_
    refine yG.getI A_h3.1 (w_M_thrown W H_2073) rfl rfl (fun z4 e_z4 i_z4 l_z4 u_z4 => ?_)
    refine yG.ifz rfl (t := 25) rfl ⟨by omega, by omega⟩ (fun c5 => ?_) (fun c5 => ?_)
    · have c5 : (z4 : Int) ≤ 0 := c5
      exfalso; omega
    · have c5 : (z4 : Int) > 0 := c5
      refine yG.num (c := 0) rfl (fun _ _ => rfl) (by decide) ?_
      refine yG.ret rfl (fun _ _ => rfl) ?_
      exact (yP.int ⟨by omega, by omega⟩ ⟨⟨⟨0, rfl, by omega, by omega, trivial⟩, A_h3⟩, M_bRg_h3⟩)
  · have c2 : (z1 : Int) ≠ 0 := c2
    refine yG.num (c := 0) rfl (fun _ _ => rfl) (by decide) ?_
    refine yG.goto rfl (t := 13) rfl ?_
    refine yG.putI A_hp.1 (w_M_thrown W H_2073) (W.2.1 _ _ H_2073 (by decide) (by decide)) rfl rfl (.inl rfl) ⟨by omega, by omega⟩ (by omega) (by omega) (fun h6 T_h6 b_h6 f_h6 y_h6 => ?_)
    have M_bRg_h6 := M_bRg_hp.fr (bAx.put (Wl := [(83076749736557242056487941267521536, 0)]) (bAx.rf A_hp.1) T_h6 b_h6 f_h6 H_2073 (by decide)) (by decide)
    have A_h6 := A_hp.put T_h6 b_h6 f_h6 H_2073 (by decide)
    have : ys h6 2073 0 = 0 := (y_h6 2073 0).trans (if_pos ⟨rfl, rfl⟩)
    refine yG.load xak rfl (fun _ _ => rfl) (v := yR 2073) rfl rfl ?_
    refine yG.getI A_h6.1 (w_M_thrown W H_2073) rfl rfl (fun z7 e_z7 i_z7 l_z7 u_z7 => ?_)
    refine yG.ifz rfl (t := 25) rfl ⟨by omega, by omega⟩ (fun c8 => ?_) (fun c8 => ?_)
    · have c8 : (z7 : Int) ≤ 0 := c8
      refine yG.load xak rfl (fun _ _ => rfl) (v := yR 2073) rfl rfl ?_
      refine yG.num (c := 1) rfl (fun _ _ => rfl) (by decide) ?_
      refine yG.putI A_h6.1 (w_M_hasRun W H_2073) (W.2.1 _ _ H_2073 (by decide) (by decide)) rfl rfl (.inr ⟨rfl, rfl, rfl⟩) ⟨by omega, by omega⟩ (by omega) (by omega) (fun h9 T_h9 b_h9 f_h9 y_h9 => ?_)
      have M_bRg_h9 := M_bRg_h6.fr (bAx.put (Wl := [(83076749736557242056487941267521536, 90)]) (bAx.rf A_h6.1) T_h9 b_h9 f_h9 H_2073 (by decide)) (by decide)
      have A_h9 := A_h6.put T_h9 b_h9 f_h9 H_2073 (by decide)
      have : ys h9 2073 0 = ys h6 2073 0 := (y_h9 2073 0).trans (if_neg (fun e => absurd e.2 (by decide)))
      refine yG.load xak rfl (fun _ _ => rfl) (v := yR 2073) rfl rfl ?_
      refine yG.num (c := 0) rfl (fun _ _ => rfl) (by decide) ?_
      refine yG.putI A_h9.1 (w_M_runTime W H_2073) (W.2.1 _ _ H_2073 (by decide) (by decide)) rfl rfl (.inl rfl) ⟨by omega, by omega⟩ (by omega) (by omega) (fun h10 T_h10 b_h10 f_h10 y_h10 => ?_)
      have M_bRg_h10 := M_bRg_h9.fr (bAx.put (Wl := [(83076749736557242056487941267521536, 91)]) (bAx.rf A_h9.1) T_h10 b_h10 f_h10 H_2073 (by decide)) (by decide)
      have A_h10 := A_h9.put T_h10 b_h10 f_h10 H_2073 (by decide)
      have : ys h10 2073 0 = ys h9 2073 0 := (y_h10 2073 0).trans (if_neg (fun e => absurd e.2 (by decide)))
      refine yG.load xak rfl (fun _ _ => rfl) (v := yR 2073) rfl rfl ?_
      refine yG.num (c := 0) rfl (fun _ _ => rfl) (by decide) ?_
      refine yG.putI A_h10.1 (w_M_openedCount W H_2073) (W.2.1 _ _ H_2073 (by decide) (by decide)) rfl rfl (.inl rfl) ⟨by omega, by omega⟩ (by omega) (by omega) (fun h11 T_h11 b_h11 f_h11 y_h11 => ?_)
      have M_bRg_h11 := M_bRg_h10.fr (bAx.put (Wl := [(83076749736557242056487941267521536, 100)]) (bAx.rf A_h10.1) T_h11 b_h11 f_h11 H_2073 (by decide)) (by decide)
      have A_h11 := A_h10.put T_h11 b_h11 f_h11 H_2073 (by decide)
      have : ys h11 2073 0 = ys h10 2073 0 := (y_h11 2073 0).trans (if_neg (fun e => absurd e.2 (by decide)))
      refine yG.num (c := 0) rfl (fun _ _ => rfl) (by decide) ?_
      refine yG.store1 xik (L' := [(1, yI (0)), (0, yR 2073)]) rfl (fun _ _ => rfl) rfl rfl ?_
      exact yG.mono (yG.sub (i_42 (0)  h11 A_h11 M_bRg_h11   (by omega) (by omega) (by omega)) (ySub.cons rfl (ySub.cons rfl (ySub.nil)))) (by omega)
    · have c8 : (z7 : Int) > 0 := c8
      exfalso; omega
end MOnRegs
