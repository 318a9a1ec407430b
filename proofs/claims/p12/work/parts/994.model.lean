/-! ===== the reference: more plain methods, printed by a program ===== -/
section MMore
variable {G : zW}
theorem c_GModel_meter {hp : xH} (W : mW G) (d : Nat) (hT : zTy G hp) (M_bMm : bMm G hp) {k0 : Nat} (H_k0 : bRo G 116 k0) (p1 p2 p3 p4 : Int) (h1l : (-2147483648) ≤ p1) (h1u : p1 ≤ 2147483647) (h2l : (-2147483648) ≤ p2) (h2u : p2 ≤ 2147483647) (h3l : (-2147483648) ≤ p3) (h3u : p3 ≤ 2147483647) (h4l : (-2147483648) ≤ p4) (h4u : p4 ≤ 2147483647) : yC (xcall 89 xfts xpools xms (d + 2)) 456 [yR k0, yI (p1), yI (p2), yI (p3), yI (p4)] hp (fun rv hp' => (bQi G [(83076749736557242056487941267521536, 0), (83076749736557242056487941267521536, 56), (83076749736557242056487941267521536, 62), (11326637689314497616078557453551193402333477208064, 256)] hp 0 31 (fun z => 0 ≤ p1 - z + 2147483648 ∧ 0 ≤ p2 - z + 2147483648 ∧ 0 ≤ p3 - z + 2147483648 ∧ 0 ≤ p4 - z + 2147483648)) rv hp' ∧ bMm G hp') := by
  have A_hp : bAx G [(83076749736557242056487941267521536, 0), (83076749736557242056487941267521536, 56), (83076749736557242056487941267521536, 62), (11326637689314497616078557453551193402333477208064, 256)] hp hp := bAx.rf hT
  have M_bMm_hp := M_bMm
  refine yC.of (M := (xt_X13_meter, (5, (1, (14, []))))) rfl rfl (N := 267) (yfuel (by decide)) ?_
  show yG 89 xfts (xcall 89 xfts xpools xms (d + 1)) (xpool xp_RX13) [] xt_X13_meter (yP 1 (fun rv hp' => (bQi G [(83076749736557242056487941267521536, 0), (83076749736557242056487941267521536, 56), (83076749736557242056487941267521536, 62), (11326637689314497616078557453551193402333477208064, 256)] hp 0 31 (fun z => 0 ≤ p1 - z + 2147483648 ∧ 0 ≤ p2 - z + 2147483648 ∧ 0 ≤ p3 - z + 2147483648 ∧ 0 ≤ p4 - z + 2147483648)) rv hp' ∧ bMm G hp')) 267 0 [(0, yR k0), (1, yI (p1)), (2, yI (p2)), (3, yI (p3)), (4, yI (p4))] [] hp
  refine yG.load xak rfl (fun _ _ => rfl) (v := yR k0) rfl rfl ?_
  refine yG.load xik rfl (fun _ _ => rfl) (v := yI (p1)) rfl rfl ?_
  refine yG.i2l rfl ⟨by omega, by omega⟩ ?_
  refine yG.numl (c := 0) rfl (fun _ _ => rfl) (by decide) ?_
  refine yG.numl (c := 2) rfl (fun _ _ => rfl) (by decide) ?_
  refine yG.invS (rest := [yR k0]) rfl rfl rfl rfl (c_GModel_in W d A_hp.1 (p1) (0) (2) (by omega) (by omega) (by omega) (by omega) (by omega) (by omega)) (fun rv hp9 q9 => ?_)
  obtain ⟨⟨z1, rfl, l_z1, u_z1, R_z1⟩, e9⟩ := q9
  rw [e9]
  show yG _ _ _ _ _ _ _ _ _ _ (yI z1 :: [yR k0]) _
  refine yG.ifz rfl (t := 17) rfl ⟨by omega, by omega⟩ (fun c2 => ?_) (fun c2 => ?_)
  · have c2 : (z1 : Int) ≠ 0 := c2
    refine yG.load xik rfl (fun _ _ => rfl) (v := yI (p2)) rfl rfl ?_
    refine yG.i2l rfl ⟨by omega, by omega⟩ ?_
    refine yG.numl (c := 0) rfl (fun _ _ => rfl) (by decide) ?_
    refine yG.load xak rfl (fun _ _ => rfl) (v := yR k0) rfl rfl ?_
    refine yG.getO A_hp.1 (w_M_count W H_k0) rfl rfl (fun r3 H_r3 O_r3 q_r3 => ?_)
    refine yG.load xik rfl (fun _ _ => rfl) (v := yI (p1)) rfl rfl ?_
    refine yG.ifz rfl (t := 32) rfl ⟨by omega, by omega⟩ (fun c4 => ?_) (fun c4 => ?_)
    · have c4 : (p1 : Int) ≠ 0 := c4
      refine yG.num (c := 0) rfl (fun _ _ => rfl) (by decide) ?_
      refine yG.ialdF A_hp.1 (v_M_count W H_r3) rfl rfl (by omega) (by omega) (fun z5 e_z5 i_z5 l_z5 u_z5 => ?_)
      refine yG.num (c := 1) rfl (fun _ _ => rfl) (by decide) ?_
      refine yG.isub rfl ?_
      refine yG.i2l rfl ⟨by omega, by omega⟩ ?_
      refine yG.invS (rest := [yR k0]) rfl rfl rfl rfl (c_GModel_in W d A_hp.1 (p2) (0) (z5 - 1) (by omega) (by omega) (by omega) (by omega) (by omega) (by omega)) (fun rv hp9 q9 => ?_)
      obtain ⟨⟨z6, rfl, l_z6, u_z6, R_z6⟩, e9⟩ := q9
      rw [e9]
      show yG _ _ _ _ _ _ _ _ _ _ (yI z6 :: [yR k0]) _
      refine yG.ifz rfl (t := 47) rfl ⟨by omega, by omega⟩ (fun c7 => ?_) (fun c7 => ?_)
      · have c7 : (z6 : Int) ≠ 0 := c7
        refine yG.load xik rfl (fun _ _ => rfl) (v := yI (p3)) rfl rfl ?_
        refine yG.i2l rfl ⟨by omega, by omega⟩ ?_
        refine yG.numl (c := -99999) rfl (fun _ _ => rfl) (by decide) ?_
        refine yG.numl (c := 99999) rfl (fun _ _ => rfl) (by decide) ?_
        refine yG.invS (rest := [yR k0]) rfl rfl rfl rfl (c_GModel_in W d A_hp.1 (p3) ((-99999)) (99999) (by omega) (by omega) (by omega) (by omega) (by omega) (by omega)) (fun rv hp9 q9 => ?_)
        obtain ⟨⟨z8, rfl, l_z8, u_z8, R_z8⟩, e9⟩ := q9
        rw [e9]
        show yG _ _ _ _ _ _ _ _ _ _ (yI z8 :: [yR k0]) _
        refine yG.ifz rfl (t := 74) rfl ⟨by omega, by omega⟩ (fun c9 => ?_) (fun c9 => ?_)
        · have c9 : (z8 : Int) = 0 := c9
          refine yG.num (c := 1) rfl (fun _ _ => rfl) (by decide) ?_
          refine yG.goto rfl (t := 92) rfl ?_
          refine yG.putI A_hp.1 (w_M_thrown W H_k0) (W.2.1 _ _ H_k0 (by decide) (by decide)) rfl rfl (.inl rfl) ⟨by omega, by omega⟩ (by omega) (by omega) (fun h10 T_h10 b_h10 f_h10 y_h10 => ?_)
          have M_bMm_h10 := M_bMm_hp.fr (bAx.put (Wl := [(83076749736557242056487941267521536, 0)]) (bAx.rf A_hp.1) T_h10 b_h10 f_h10 H_k0 (by decide)) (by decide)
          have A_h10 := A_hp.put T_h10 b_h10 f_h10 H_k0 (by decide)
          have : ys h10 k0 0 = 1 := (y_h10 k0 0).trans (if_pos ⟨rfl, rfl⟩)
          refine yG.load xak rfl (fun _ _ => rfl) (v := yR k0) rfl rfl ?_
          refine yG.getI A_h10.1 (w_M_thrown W H_k0) rfl rfl (fun z11 e_z11 i_z11 l_z11 u_z11 => ?_)
          refine yG.ifz rfl (t := 104) rfl ⟨by omega, by omega⟩ (fun c12 => ?_) (fun c12 => ?_)
          · have c12 : (z11 : Int) ≤ 0 := c12
            exfalso; omega
          · have c12 : (z11 : Int) > 0 := c12
            refine yG.num (c := 0) rfl (fun _ _ => rfl) (by decide) ?_
            refine yG.ret rfl (fun _ _ => rfl) ?_
            exact (yP.int ⟨by omega, by omega⟩ ⟨⟨⟨0, rfl, by omega, by omega, by omega⟩, A_h10⟩, M_bMm_h10⟩)
        · have c9 : (z8 : Int) ≠ 0 := c9
          refine yG.load xik rfl (fun _ _ => rfl) (v := yI (p4)) rfl rfl ?_
          refine yG.i2l rfl ⟨by omega, by omega⟩ ?_
          refine yG.numl (c := 1) rfl (fun _ _ => rfl) (by decide) ?_
          refine yG.numl (c := 99) rfl (fun _ _ => rfl) (by decide) ?_
          refine yG.invS (rest := [yR k0]) rfl rfl rfl rfl (c_GModel_in W d A_hp.1 (p4) (1) (99) (by omega) (by omega) (by omega) (by omega) (by omega) (by omega)) (fun rv hp9 q9 => ?_)
          obtain ⟨⟨z13, rfl, l_z13, u_z13, R_z13⟩, e9⟩ := q9
          rw [e9]
          show yG _ _ _ _ _ _ _ _ _ _ (yI z13 :: [yR k0]) _
          refine yG.ifz rfl (t := 78) rfl ⟨by omega, by omega⟩ (fun c14 => ?_) (fun c14 => ?_)
          · have c14 : (z13 : Int) ≠ 0 := c14
            refine yG.load xak rfl (fun _ _ => rfl) (v := yR k0) rfl rfl ?_
            refine yG.getI A_hp.1 (w_M_meters W H_k0) rfl rfl (fun z15 e_z15 i_z15 l_z15 u_z15 => ?_)
            refine yG.num (c := 32) rfl (fun _ _ => rfl) (by decide) ?_
            refine yG.icmp rfl (t := 91) rfl ⟨by omega, by omega⟩ ⟨by omega, by omega⟩ (fun c16 => ?_) (fun c16 => ?_)
            · have c16 : (z15 : Int) ≠ 32 := c16
              refine yG.num (c := 0) rfl (fun _ _ => rfl) (by decide) ?_
              refine yG.putI A_hp.1 (w_M_thrown W H_k0) (W.2.1 _ _ H_k0 (by decide) (by decide)) rfl rfl (.inl rfl) ⟨by omega, by omega⟩ (by omega) (by omega) (fun h17 T_h17 b_h17 f_h17 y_h17 => ?_)
              have M_bMm_h17 := M_bMm_hp.fr (bAx.put (Wl := [(83076749736557242056487941267521536, 0)]) (bAx.rf A_hp.1) T_h17 b_h17 f_h17 H_k0 (by decide)) (by decide)
              have A_h17 := A_hp.put T_h17 b_h17 f_h17 H_k0 (by decide)
              have : ys h17 k0 56 = ys hp k0 56 := (y_h17 k0 56).trans (if_neg (fun e => absurd e.2 (by decide)))
              have : ys h17 k0 0 = 0 := (y_h17 k0 0).trans (if_pos ⟨rfl, rfl⟩)
              refine yG.load xak rfl (fun _ _ => rfl) (v := yR k0) rfl rfl ?_
              refine yG.getI A_h17.1 (w_M_thrown W H_k0) rfl rfl (fun z18 e_z18 i_z18 l_z18 u_z18 => ?_)
              refine yG.ifz rfl (t := 104) rfl ⟨by omega, by omega⟩ (fun c19 => ?_) (fun c19 => ?_)
              · have c19 : (z18 : Int) ≤ 0 := c19
                refine yG.load xak rfl (fun _ _ => rfl) (v := yR k0) rfl rfl ?_
                refine yG.getO A_h17.1 (w_M_meterKind W H_k0) rfl rfl (fun r20 H_r20 O_r20 q_r20 => ?_)
                refine yG.load xak rfl (fun _ _ => rfl) (v := yR k0) rfl rfl ?_
                refine yG.getI A_h17.1 (w_M_meters W H_k0) rfl rfl (fun z21 e_z21 i_z21 l_z21 u_z21 => ?_)
                rw [show (z21 : Int) = z15 by omega]
                refine yG.load xik rfl (fun _ _ => rfl) (v := yI (p1)) rfl rfl ?_
                refine yG.iast A_h17.1 (v_M_meterKind W H_r20) (W.2.1 _ _ H_r20 (by decide) (by decide)) rfl (by omega) (by omega) ⟨by omega, by omega⟩ (by omega) (by omega) (fun h22 T_h22 b_h22 f_h22 y_h22 => ?_)
                have A_h22 := A_h17.put T_h22 b_h22 f_h22 H_r20 (bAll_ok (by decide) _)
                have : ys h22 k0 56 = ys h17 k0 56 := (y_h22 k0 56).trans (if_neg (fun e => (bRo.ne H_k0 H_r20 (by decide)) e.1))
                have : ys h22 k0 0 = ys h17 k0 0 := (y_h22 k0 0).trans (if_neg (fun e => (bRo.ne H_k0 H_r20 (by decide)) e.1))
                refine yG.load xak rfl (fun _ _ => rfl) (v := yR k0) rfl rfl ?_
                refine yG.getO A_h22.1 (w_M_meterAt W H_k0) rfl rfl (fun r23 H_r23 O_r23 q_r23 => ?_)
                refine yG.load xak rfl (fun _ _ => rfl) (v := yR k0) rfl rfl ?_
                refine yG.getI A_h22.1 (w_M_meters W H_k0) rfl rfl (fun z24 e_z24 i_z24 l_z24 u_z24 => ?_)
                rw [show (z24 : Int) = z15 by omega]
                refine yG.load xik rfl (fun _ _ => rfl) (v := yI (p2)) rfl rfl ?_
                refine yG.iast A_h22.1 (v_M_meterAt W H_r23) (W.2.1 _ _ H_r23 (by decide) (by decide)) rfl (by omega) (by omega) ⟨by omega, by omega⟩ (by omega) (by omega) (fun h25 T_h25 b_h25 f_h25 y_h25 => ?_)
                have A_h25 := A_h22.put T_h25 b_h25 f_h25 H_r23 (bAll_ok (by decide) _)
                have : ys h25 k0 56 = ys h22 k0 56 := (y_h25 k0 56).trans (if_neg (fun e => (bRo.ne H_k0 H_r23 (by decide)) e.1))
                have : ys h25 k0 0 = ys h22 k0 0 := (y_h25 k0 0).trans (if_neg (fun e => (bRo.ne H_k0 H_r23 (by decide)) e.1))
                refine yG.load xak rfl (fun _ _ => rfl) (v := yR k0) rfl rfl ?_
                refine yG.getO A_h25.1 (w_M_meterValue W H_k0) rfl rfl (fun r26 H_r26 O_r26 q_r26 => ?_)
                refine yG.load xak rfl (fun _ _ => rfl) (v := yR k0) rfl rfl ?_
                refine yG.getI A_h25.1 (w_M_meters W H_k0) rfl rfl (fun z27 e_z27 i_z27 l_z27 u_z27 => ?_)
                rw [show (z27 : Int) = z15 by omega]
                refine yG.load xik rfl (fun _ _ => rfl) (v := yI (p3)) rfl rfl ?_
                refine yG.iast A_h25.1 (v_M_meterValue W H_r26) (W.2.1 _ _ H_r26 (by decide) (by decide)) rfl (by omega) (by omega) ⟨by omega, by omega⟩ (by omega) (by omega) (fun h28 T_h28 b_h28 f_h28 y_h28 => ?_)
                have A_h28 := A_h25.put T_h28 b_h28 f_h28 H_r26 (bAll_ok (by decide) _)
                have : ys h28 k0 56 = ys h25 k0 56 := (y_h28 k0 56).trans (if_neg (fun e => (bRo.ne H_k0 H_r26 (by decide)) e.1))
                have : ys h28 k0 0 = ys h25 k0 0 := (y_h28 k0 0).trans (if_neg (fun e => (bRo.ne H_k0 H_r26 (by decide)) e.1))
                refine yG.load xak rfl (fun _ _ => rfl) (v := yR k0) rfl rfl ?_
                refine yG.getO A_h28.1 (w_M_meterWeight W H_k0) rfl rfl (fun r29 H_r29 O_r29 q_r29 => ?_)
                refine yG.load xak rfl (fun _ _ => rfl) (v := yR k0) rfl rfl ?_
                refine yG.getI A_h28.1 (w_M_meters W H_k0) rfl rfl (fun z30 e_z30 i_z30 l_z30 u_z30 => ?_)
                rw [show (z30 : Int) = z15 by omega]
                refine yG.load xik rfl (fun _ _ => rfl) (v := yI (p4)) rfl rfl ?_
                refine yG.iast A_h28.1 (v_M_meterWeight W H_r29) (W.2.1 _ _ H_r29 (by decide) (by decide)) rfl (by omega) (by omega) ⟨by omega, by omega⟩ (by omega) (by omega) (fun h31 T_h31 b_h31 f_h31 y_h31 => ?_)
                have A_h31 := A_h28.put T_h31 b_h31 f_h31 H_r29 (bAll_ok (by decide) _)
                have : ys h31 k0 56 = ys h28 k0 56 := (y_h31 k0 56).trans (if_neg (fun e => (bRo.ne H_k0 H_r29 (by decide)) e.1))
                have : ys h31 k0 0 = ys h28 k0 0 := (y_h31 k0 0).trans (if_neg (fun e => (bRo.ne H_k0 H_r29 (by decide)) e.1))
                refine yG.load xak rfl (fun _ _ => rfl) (v := yR k0) rfl rfl ?_
                refine yG.getO A_h31.1 (w_M_isStruck W H_k0) rfl rfl (fun r32 H_r32 O_r32 q_r32 => ?_)
                refine yG.load xak rfl (fun _ _ => rfl) (v := yR k0) rfl rfl ?_
                refine yG.getI A_h31.1 (w_M_meters W H_k0) rfl rfl (fun z33 e_z33 i_z33 l_z33 u_z33 => ?_)
                rw [show (z33 : Int) = z15 by omega]
                refine yG.num (c := 0) rfl (fun _ _ => rfl) (by decide) ?_
                refine yG.bast A_h31.1 (v_M_isStruck W H_r32) (W.2.1 _ _ H_r32 (by decide) (by decide)) rfl (by omega) (by omega) ⟨by omega, by omega⟩ (by omega) (by omega) (fun h34 T_h34 b_h34 f_h34 y_h34 => ?_)
                have A_h34 := A_h31.put T_h34 b_h34 f_h34 H_r32 (bAll_ok (by decide) _)
                have : ys h34 k0 56 = ys h31 k0 56 := (y_h34 k0 56).trans (if_neg (fun e => (bRo.ne H_k0 H_r32 (by decide)) e.1))
                have : ys h34 k0 0 = ys h31 k0 0 := (y_h34 k0 0).trans (if_neg (fun e => (bRo.ne H_k0 H_r32 (by decide)) e.1))
                refine yG.load xak rfl (fun _ _ => rfl) (v := yR k0) rfl rfl ?_
                refine yG.step (pc' := 157) (stk' := [yR k0, yR k0]) rfl (fun _ _ => rfl) ?_
                refine yG.getI A_h34.1 (w_M_meters W H_k0) rfl rfl (fun z35 e_z35 i_z35 l_z35 u_z35 => ?_)
                rw [show (z35 : Int) = z15 by omega]
                refine yG.num (c := 1) rfl (fun _ _ => rfl) (by decide) ?_
                refine yG.iadd rfl ?_
                refine yG.putI A_h34.1 (w_M_meters W H_k0) (W.2.1 _ _ H_k0 (by decide) (by decide)) rfl rfl (.inl rfl) ⟨by omega, by omega⟩ (by omega) (by omega) (fun h36 T_h36 b_h36 f_h36 y_h36 => ?_)
                have A_h36 := A_h34.put T_h36 b_h36 f_h36 H_k0 (by decide)
                have : ys h36 k0 0 = ys h34 k0 0 := (y_h36 k0 0).trans (if_neg (fun e => absurd e.2 (by decide)))
                have : ys h36 k0 56 = z15 + 1 := (y_h36 k0 56).trans (if_pos ⟨rfl, rfl⟩)
                refine yG.load xak rfl (fun _ _ => rfl) (v := yR k0) rfl rfl ?_
                refine yG.num (c := 0) rfl (fun _ _ => rfl) (by decide) ?_
                refine yG.putI A_h36.1 (w_M_hasEstimates W H_k0) (W.2.1 _ _ H_k0 (by decide) (by decide)) rfl rfl (.inr ⟨rfl, rfl, rfl⟩) ⟨by omega, by omega⟩ (by omega) (by omega) (fun h37 T_h37 b_h37 f_h37 y_h37 => ?_)
                have A_h37 := A_h36.put T_h37 b_h37 f_h37 H_k0 (by decide)
                have : ys h37 k0 0 = ys h36 k0 0 := (y_h37 k0 0).trans (if_neg (fun e => absurd e.2 (by decide)))
                have : ys h37 k0 56 = ys h36 k0 56 := (y_h37 k0 56).trans (if_neg (fun e => absurd e.2 (by decide)))
                refine yG.load xak rfl (fun _ _ => rfl) (v := yR k0) rfl rfl ?_
                refine yG.getI A_h37.1 (w_M_meters W H_k0) rfl rfl (fun z38 e_z38 i_z38 l_z38 u_z38 => ?_)
                refine yG.num (c := 1) rfl (fun _ _ => rfl) (by decide) ?_
                refine yG.isub rfl ?_
                refine yG.ret rfl (fun _ _ => rfl) ?_
                have M_bMm_h37 : bMm G h37 := fun q1 q2 H1 H2 m hm => by
                  have y1 : q1 = r20 := (u_M_meterKind W H1).trans (u_M_meterKind W H_r20).symm
                  have y2 : q2 = r23 := (u_M_meterAt W H2).trans (u_M_meterAt W H_r23).symm
                  have v9 := M_bMm_h17 q1 q2 H1 H2 m hm
                  by_cases e : m = (z15 : Int).toNat
                  · skip
                    have : ys h22 q1 m = p1 := (y_h22 q1 m).trans (if_pos ⟨y1, e⟩)
                    have : ys h25 q1 m = ys h22 q1 m := (y_h25 q1 m).trans (if_neg (fun z => bRo.ne H1 H_r23 (by decide) z.1))
                    have : ys h28 q1 m = ys h25 q1 m := (y_h28 q1 m).trans (if_neg (fun z => bRo.ne H1 H_r26 (by decide) z.1))
                    have : ys h31 q1 m = ys h28 q1 m := (y_h31 q1 m).trans (if_neg (fun z => bRo.ne H1 H_r29 (by decide) z.1))
                    have : ys h34 q1 m = ys h31 q1 m := (y_h34 q1 m).trans (if_neg (fun z => bRo.ne H1 H_r32 (by decide) z.1))
                    have : ys h36 q1 m = ys h34 q1 m := (y_h36 q1 m).trans (if_neg (fun z => bRo.ne H1 H_k0 (by decide) z.1))
                    have : ys h37 q1 m = ys h36 q1 m := (y_h37 q1 m).trans (if_neg (fun z => bRo.ne H1 H_k0 (by decide) z.1))
                    have : ys h22 q2 m = ys h17 q2 m := (y_h22 q2 m).trans (if_neg (fun z => bRo.ne H2 H_r20 (by decide) z.1))
                    have : ys h25 q2 m = p2 := (y_h25 q2 m).trans (if_pos ⟨y2, e⟩)
                    have : ys h28 q2 m = ys h25 q2 m := (y_h28 q2 m).trans (if_neg (fun z => bRo.ne H2 H_r26 (by decide) z.1))
                    have : ys h31 q2 m = ys h28 q2 m := (y_h31 q2 m).trans (if_neg (fun z => bRo.ne H2 H_r29 (by decide) z.1))
                    have : ys h34 q2 m = ys h31 q2 m := (y_h34 q2 m).trans (if_neg (fun z => bRo.ne H2 H_r32 (by decide) z.1))
                    have : ys h36 q2 m = ys h34 q2 m := (y_h36 q2 m).trans (if_neg (fun z => bRo.ne H2 H_k0 (by decide) z.1))
                    have : ys h37 q2 m = ys h36 q2 m := (y_h37 q2 m).trans (if_neg (fun z => bRo.ne H2 H_k0 (by decide) z.1))
                    omega
                  · skip
                    have : ys h22 q1 m = ys h17 q1 m := (y_h22 q1 m).trans (if_neg (fun z => e z.2))
                    have : ys h25 q1 m = ys h22 q1 m := (y_h25 q1 m).trans (if_neg (fun z => bRo.ne H1 H_r23 (by decide) z.1))
                    have : ys h28 q1 m = ys h25 q1 m := (y_h28 q1 m).trans (if_neg (fun z => bRo.ne H1 H_r26 (by decide) z.1))
                    have : ys h31 q1 m = ys h28 q1 m := (y_h31 q1 m).trans (if_neg (fun z => bRo.ne H1 H_r29 (by decide) z.1))
                    have : ys h34 q1 m = ys h31 q1 m := (y_h34 q1 m).trans (if_neg (fun z => bRo.ne H1 H_r32 (by decide) z.1))
                    have : ys h36 q1 m = ys h34 q1 m := (y_h36 q1 m).trans (if_neg (fun z => bRo.ne H1 H_k0 (by decide) z.1))
                    have : ys h37 q1 m = ys h36 q1 m := (y_h37 q1 m).trans (if_neg (fun z => bRo.ne H1 H_k0 (by decide) z.1))
                    have : ys h22 q2 m = ys h17 q2 m := (y_h22 q2 m).trans (if_neg (fun z => bRo.ne H2 H_r20 (by decide) z.1))
                    have : ys h25 q2 m = ys h22 q2 m := (y_h25 q2 m).trans (if_neg (fun z => e z.2))
                    have : ys h28 q2 m = ys h25 q2 m := (y_h28 q2 m).trans (if_neg (fun z => bRo.ne H2 H_r26 (by decide) z.1))
                    have : ys h31 q2 m = ys h28 q2 m := (y_h31 q2 m).trans (if_neg (fun z => bRo.ne H2 H_r29 (by decide) z.1))
                    have : ys h34 q2 m = ys h31 q2 m := (y_h34 q2 m).trans (if_neg (fun z => bRo.ne H2 H_r32 (by decide) z.1))
                    have : ys h36 q2 m = ys h34 q2 m := (y_h36 q2 m).trans (if_neg (fun z => bRo.ne H2 H_k0 (by decide) z.1))
                    have : ys h37 q2 m = ys h36 q2 m := (y_h37 q2 m).trans (if_neg (fun z => bRo.ne H2 H_k0 (by decide) z.1))
                    omega
                exact (yP.int ⟨by omega, by omega⟩ ⟨⟨⟨z38 - 1, rfl, by omega, by omega, by omega⟩, A_h37⟩, M_bMm_h37⟩)
              · have c19 : (z18 : Int) > 0 := c19
                exfalso; omega
            · have c16 : (z15 : Int) = 32 := c16
              refine yG.num (c := 3) rfl (fun _ _ => rfl) (by decide) ?_
              refine yG.goto rfl (t := 92) rfl ?_
              refine yG.putI A_hp.1 (w_M_thrown W H_k0) (W.2.1 _ _ H_k0 (by decide) (by decide)) rfl rfl (.inl rfl) ⟨by omega, by omega⟩ (by omega) (by omega) (fun h39 T_h39 b_h39 f_h39 y_h39 => ?_)
              have M_bMm_h39 := M_bMm_hp.fr (bAx.put (Wl := [(83076749736557242056487941267521536, 0)]) (bAx.rf A_hp.1) T_h39 b_h39 f_h39 H_k0 (by decide)) (by decide)
              have A_h39 := A_hp.put T_h39 b_h39 f_h39 H_k0 (by decide)
              have : ys h39 k0 56 = ys hp k0 56 := (y_h39 k0 56).trans (if_neg (fun e => absurd e.2 (by decide)))
              have : ys h39 k0 0 = 3 := (y_h39 k0 0).trans (if_pos ⟨rfl, rfl⟩)
              refine yG.load xak rfl (fun _ _ => rfl) (v := yR k0) rfl rfl ?_
              refine yG.getI A_h39.1 (w_M_thrown W H_k0) rfl rfl (fun z40 e_z40 i_z40 l_z40 u_z40 => ?_)
              refine yG.ifz rfl (t := 104) rfl ⟨by omega, by omega⟩ (fun c41 => ?_) (fun c41 => ?_)
              · have c41 : (z40 : Int) ≤ 0 := c41
                exfalso; omega
              · have c41 : (z40 : Int) > 0 := c41
                refine yG.num (c := 0) rfl (fun _ _ => rfl) (by decide) ?_
                refine yG.ret rfl (fun _ _ => rfl) ?_
                exact (yP.int ⟨by omega, by omega⟩ ⟨⟨⟨0, rfl, by omega, by omega, by omega⟩, A_h39⟩, M_bMm_h39⟩)
          · have c14 : (z13 : Int) = 0 := c14
            refine yG.num (c := 1) rfl (fun _ _ => rfl) (by decide) ?_
            refine yG.goto rfl (t := 92) rfl ?_
            refine yG.putI A_hp.1 (w_M_thrown W H_k0) (W.2.1 _ _ H_k0 (by decide) (by decide)) rfl rfl (.inl rfl) ⟨by omega, by omega⟩ (by omega) (by omega) (fun h42 T_h42 b_h42 f_h42 y_h42 => ?_)
            have M_bMm_h42 := M_bMm_hp.fr (bAx.put (Wl := [(83076749736557242056487941267521536, 0)]) (bAx.rf A_hp.1) T_h42 b_h42 f_h42 H_k0 (by decide)) (by decide)
            have A_h42 := A_hp.put T_h42 b_h42 f_h42 H_k0 (by decide)
            have : ys h42 k0 0 = 1 := (y_h42 k0 0).trans (if_pos ⟨rfl, rfl⟩)
            refine yG.load xak rfl (fun _ _ => rfl) (v := yR k0) rfl rfl ?_
            refine yG.getI A_h42.1 (w_M_thrown W H_k0) rfl rfl (fun z43 e_z43 i_z43 l_z43 u_z43 => ?_)
            refine yG.ifz rfl (t := 104) rfl ⟨by omega, by omega⟩ (fun c44 => ?_) (fun c44 => ?_)
            · have c44 : (z43 : Int) ≤ 0 := c44
              exfalso; omega
            · have c44 : (z43 : Int) > 0 := c44
              refine yG.num (c := 0) rfl (fun _ _ => rfl) (by decide) ?_
              refine yG.ret rfl (fun _ _ => rfl) ?_
              exact (yP.int ⟨by omega, by omega⟩ ⟨⟨⟨0, rfl, by omega, by omega, by omega⟩, A_h42⟩, M_bMm_h42⟩)
      · have c7 : (z6 : Int) = 0 := c7
        refine yG.num (c := 2) rfl (fun _ _ => rfl) (by decide) ?_
        refine yG.goto rfl (t := 92) rfl ?_
        refine yG.putI A_hp.1 (w_M_thrown W H_k0) (W.2.1 _ _ H_k0 (by decide) (by decide)) rfl rfl (.inl rfl) ⟨by omega, by omega⟩ (by omega) (by omega) (fun h45 T_h45 b_h45 f_h45 y_h45 => ?_)
        have M_bMm_h45 := M_bMm_hp.fr (bAx.put (Wl := [(83076749736557242056487941267521536, 0)]) (bAx.rf A_hp.1) T_h45 b_h45 f_h45 H_k0 (by decide)) (by decide)
        have A_h45 := A_hp.put T_h45 b_h45 f_h45 H_k0 (by decide)
        have : ys h45 k0 0 = 2 := (y_h45 k0 0).trans (if_pos ⟨rfl, rfl⟩)
        refine yG.load xak rfl (fun _ _ => rfl) (v := yR k0) rfl rfl ?_
        refine yG.getI A_h45.1 (w_M_thrown W H_k0) rfl rfl (fun z46 e_z46 i_z46 l_z46 u_z46 => ?_)
        refine yG.ifz rfl (t := 104) rfl ⟨by omega, by omega⟩ (fun c47 => ?_) (fun c47 => ?_)
        · have c47 : (z46 : Int) ≤ 0 := c47
          exfalso; omega
        · have c47 : (z46 : Int) > 0 := c47
          refine yG.num (c := 0) rfl (fun _ _ => rfl) (by decide) ?_
          refine yG.ret rfl (fun _ _ => rfl) ?_
          exact (yP.int ⟨by omega, by omega⟩ ⟨⟨⟨0, rfl, by omega, by omega, by omega⟩, A_h45⟩, M_bMm_h45⟩)
    · have c4 : (p1 : Int) = 0 := c4
      refine yG.num (c := 2) rfl (fun _ _ => rfl) (by decide) ?_
      refine yG.goto rfl (t := 33) rfl ?_
      refine yG.ialdF A_hp.1 (v_M_count W H_r3) rfl rfl (by omega) (by omega) (fun z48 e_z48 i_z48 l_z48 u_z48 => ?_)
      refine yG.num (c := 1) rfl (fun _ _ => rfl) (by decide) ?_
      refine yG.isub rfl ?_
      refine yG.i2l rfl ⟨by omega, by omega⟩ ?_
      refine yG.invS (rest := [yR k0]) rfl rfl rfl rfl (c_GModel_in W d A_hp.1 (p2) (0) (z48 - 1) (by omega) (by omega) (by omega) (by omega) (by omega) (by omega)) (fun rv hp9 q9 => ?_)
      obtain ⟨⟨z49, rfl, l_z49, u_z49, R_z49⟩, e9⟩ := q9
      rw [e9]
      show yG _ _ _ _ _ _ _ _ _ _ (yI z49 :: [yR k0]) _
      refine yG.ifz rfl (t := 47) rfl ⟨by omega, by omega⟩ (fun c50 => ?_) (fun c50 => ?_)
      · have c50 : (z49 : Int) ≠ 0 := c50
        refine yG.load xik rfl (fun _ _ => rfl) (v := yI (p3)) rfl rfl ?_
        refine yG.i2l rfl ⟨by omega, by omega⟩ ?_
        refine yG.numl (c := -99999) rfl (fun _ _ => rfl) (by decide) ?_
        refine yG.numl (c := 99999) rfl (fun _ _ => rfl) (by decide) ?_
        refine yG.invS (rest := [yR k0]) rfl rfl rfl rfl (c_GModel_in W d A_hp.1 (p3) ((-99999)) (99999) (by omega) (by omega) (by omega) (by omega) (by omega) (by omega)) (fun rv hp9 q9 => ?_)
        obtain ⟨⟨z51, rfl, l_z51, u_z51, R_z51⟩, e9⟩ := q9
        rw [e9]
        show yG _ _ _ _ _ _ _ _ _ _ (yI z51 :: [yR k0]) _
        refine yG.ifz rfl (t := 74) rfl ⟨by omega, by omega⟩ (fun c52 => ?_) (fun c52 => ?_)
        · have c52 : (z51 : Int) = 0 := c52
          refine yG.num (c := 1) rfl (fun _ _ => rfl) (by decide) ?_
          refine yG.goto rfl (t := 92) rfl ?_
          refine yG.putI A_hp.1 (w_M_thrown W H_k0) (W.2.1 _ _ H_k0 (by decide) (by decide)) rfl rfl (.inl rfl) ⟨by omega, by omega⟩ (by omega) (by omega) (fun h53 T_h53 b_h53 f_h53 y_h53 => ?_)
          have M_bMm_h53 := M_bMm_hp.fr (bAx.put (Wl := [(83076749736557242056487941267521536, 0)]) (bAx.rf A_hp.1) T_h53 b_h53 f_h53 H_k0 (by decide)) (by decide)
          have A_h53 := A_hp.put T_h53 b_h53 f_h53 H_k0 (by decide)
          have : ys h53 k0 0 = 1 := (y_h53 k0 0).trans (if_pos ⟨rfl, rfl⟩)
          refine yG.load xak rfl (fun _ _ => rfl) (v := yR k0) rfl rfl ?_
          refine yG.getI A_h53.1 (w_M_thrown W H_k0) rfl rfl (fun z54 e_z54 i_z54 l_z54 u_z54 => ?_)
          refine yG.ifz rfl (t := 104) rfl ⟨by omega, by omega⟩ (fun c55 => ?_) (fun c55 => ?_)
          · have c55 : (z54 : Int) ≤ 0 := c55
            exfalso; omega
          · have c55 : (z54 : Int) > 0 := c55
            refine yG.num (c := 0) rfl (fun _ _ => rfl) (by decide) ?_
            refine yG.ret rfl (fun _ _ => rfl) ?_
            exact (yP.int ⟨by omega, by omega⟩ ⟨⟨⟨0, rfl, by omega, by omega, by omega⟩, A_h53⟩, M_bMm_h53⟩)
        · have c52 : (z51 : Int) ≠ 0 := c52
          refine yG.load xik rfl (fun _ _ => rfl) (v := yI (p4)) rfl rfl ?_
          refine yG.i2l rfl ⟨by omega, by omega⟩ ?_
          refine yG.numl (c := 1) rfl (fun _ _ => rfl) (by decide) ?_
          refine yG.numl (c := 99) rfl (fun _ _ => rfl) (by decide) ?_
          refine yG.invS (rest := [yR k0]) rfl rfl rfl rfl (c_GModel_in W d A_hp.1 (p4) (1) (99) (by omega) (by omega) (by omega) (by omega) (by omega) (by omega)) (fun rv hp9 q9 => ?_)
          obtain ⟨⟨z56, rfl, l_z56, u_z56, R_z56⟩, e9⟩ := q9
          rw [e9]
          show yG _ _ _ _ _ _ _ _ _ _ (yI z56 :: [yR k0]) _
          refine yG.ifz rfl (t := 78) rfl ⟨by omega, by omega⟩ (fun c57 => ?_) (fun c57 => ?_)
          · have c57 : (z56 : Int) ≠ 0 := c57
            refine yG.load xak rfl (fun _ _ => rfl) (v := yR k0) rfl rfl ?_
            refine yG.getI A_hp.1 (w_M_meters W H_k0) rfl rfl (fun z58 e_z58 i_z58 l_z58 u_z58 => ?_)
            refine yG.num (c := 32) rfl (fun _ _ => rfl) (by decide) ?_
            refine yG.icmp rfl (t := 91) rfl ⟨by omega, by omega⟩ ⟨by omega, by omega⟩ (fun c59 => ?_) (fun c59 => ?_)
            · have c59 : (z58 : Int) ≠ 32 := c59
              refine yG.num (c := 0) rfl (fun _ _ => rfl) (by decide) ?_
              refine yG.putI A_hp.1 (w_M_thrown W H_k0) (W.2.1 _ _ H_k0 (by decide) (by decide)) rfl rfl (.inl rfl) ⟨by omega, by omega⟩ (by omega) (by omega) (fun h60 T_h60 b_h60 f_h60 y_h60 => ?_)
              have M_bMm_h60 := M_bMm_hp.fr (bAx.put (Wl := [(83076749736557242056487941267521536, 0)]) (bAx.rf A_hp.1) T_h60 b_h60 f_h60 H_k0 (by decide)) (by decide)
              have A_h60 := A_hp.put T_h60 b_h60 f_h60 H_k0 (by decide)
              have : ys h60 k0 56 = ys hp k0 56 := (y_h60 k0 56).trans (if_neg (fun e => absurd e.2 (by decide)))
              have : ys h60 k0 0 = 0 := (y_h60 k0 0).trans (if_pos ⟨rfl, rfl⟩)
              refine yG.load xak rfl (fun _ _ => rfl) (v := yR k0) rfl rfl ?_
              refine yG.getI A_h60.1 (w_M_thrown W H_k0) rfl rfl (fun z61 e_z61 i_z61 l_z61 u_z61 => ?_)
              refine yG.ifz rfl (t := 104) rfl ⟨by omega, by omega⟩ (fun c62 => ?_) (fun c62 => ?_)
              · have c62 : (z61 : Int) ≤ 0 := c62
                refine yG.load xak rfl (fun _ _ => rfl) (v := yR k0) rfl rfl ?_
                refine yG.getO A_h60.1 (w_M_meterKind W H_k0) rfl rfl (fun r63 H_r63 O_r63 q_r63 => ?_)
                refine yG.load xak rfl (fun _ _ => rfl) (v := yR k0) rfl rfl ?_
                refine yG.getI A_h60.1 (w_M_meters W H_k0) rfl rfl (fun z64 e_z64 i_z64 l_z64 u_z64 => ?_)
                rw [show (z64 : Int) = z58 by omega]
                refine yG.load xik rfl (fun _ _ => rfl) (v := yI (p1)) rfl rfl ?_
                refine yG.iast A_h60.1 (v_M_meterKind W H_r63) (W.2.1 _ _ H_r63 (by decide) (by decide)) rfl (by omega) (by omega) ⟨by omega, by omega⟩ (by omega) (by omega) (fun h65 T_h65 b_h65 f_h65 y_h65 => ?_)
                have A_h65 := A_h60.put T_h65 b_h65 f_h65 H_r63 (bAll_ok (by decide) _)
                have : ys h65 k0 56 = ys h60 k0 56 := (y_h65 k0 56).trans (if_neg (fun e => (bRo.ne H_k0 H_r63 (by decide)) e.1))
                have : ys h65 k0 0 = ys h60 k0 0 := (y_h65 k0 0).trans (if_neg (fun e => (bRo.ne H_k0 H_r63 (by decide)) e.1))
                refine yG.load xak rfl (fun _ _ => rfl) (v := yR k0) rfl rfl ?_
                refine yG.getO A_h65.1 (w_M_meterAt W H_k0) rfl rfl (fun r66 H_r66 O_r66 q_r66 => ?_)
                refine yG.load xak rfl (fun _ _ => rfl) (v := yR k0) rfl rfl ?_
                refine yG.getI A_h65.1 (w_M_meters W H_k0) rfl rfl (fun z67 e_z67 i_z67 l_z67 u_z67 => ?_)
                rw [show (z67 : Int) = z58 by omega]
                refine yG.load xik rfl (fun _ _ => rfl) (v := yI (p2)) rfl rfl ?_
                refine yG.iast A_h65.1 (v_M_meterAt W H_r66) (W.2.1 _ _ H_r66 (by decide) (by decide)) rfl (by omega) (by omega) ⟨by omega, by omega⟩ (by omega) (by omega) (fun h68 T_h68 b_h68 f_h68 y_h68 => ?_)
                have A_h68 := A_h65.put T_h68 b_h68 f_h68 H_r66 (bAll_ok (by decide) _)
                have : ys h68 k0 56 = ys h65 k0 56 := (y_h68 k0 56).trans (if_neg (fun e => (bRo.ne H_k0 H_r66 (by decide)) e.1))
                have : ys h68 k0 0 = ys h65 k0 0 := (y_h68 k0 0).trans (if_neg (fun e => (bRo.ne H_k0 H_r66 (by decide)) e.1))
                refine yG.load xak rfl (fun _ _ => rfl) (v := yR k0) rfl rfl ?_
                refine yG.getO A_h68.1 (w_M_meterValue W H_k0) rfl rfl (fun r69 H_r69 O_r69 q_r69 => ?_)
                refine yG.load xak rfl (fun _ _ => rfl) (v := yR k0) rfl rfl ?_
                refine yG.getI A_h68.1 (w_M_meters W H_k0) rfl rfl (fun z70 e_z70 i_z70 l_z70 u_z70 => ?_)
                rw [show (z70 : Int) = z58 by omega]
                refine yG.load xik rfl (fun _ _ => rfl) (v := yI (p3)) rfl rfl ?_
                refine yG.iast A_h68.1 (v_M_meterValue W H_r69) (W.2.1 _ _ H_r69 (by decide) (by decide)) rfl (by omega) (by omega) ⟨by omega, by omega⟩ (by omega) (by omega) (fun h71 T_h71 b_h71 f_h71 y_h71 => ?_)
                have A_h71 := A_h68.put T_h71 b_h71 f_h71 H_r69 (bAll_ok (by decide) _)
                have : ys h71 k0 56 = ys h68 k0 56 := (y_h71 k0 56).trans (if_neg (fun e => (bRo.ne H_k0 H_r69 (by decide)) e.1))
                have : ys h71 k0 0 = ys h68 k0 0 := (y_h71 k0 0).trans (if_neg (fun e => (bRo.ne H_k0 H_r69 (by decide)) e.1))
                refine yG.load xak rfl (fun _ _ => rfl) (v := yR k0) rfl rfl ?_
                refine yG.getO A_h71.1 (w_M_meterWeight W H_k0) rfl rfl (fun r72 H_r72 O_r72 q_r72 => ?_)
                refine yG.load xak rfl (fun _ _ => rfl) (v := yR k0) rfl rfl ?_
                refine yG.getI A_h71.1 (w_M_meters W H_k0) rfl rfl (fun z73 e_z73 i_z73 l_z73 u_z73 => ?_)
                rw [show (z73 : Int) = z58 by omega]
                refine yG.load xik rfl (fun _ _ => rfl) (v := yI (p4)) rfl rfl ?_
                refine yG.iast A_h71.1 (v_M_meterWeight W H_r72) (W.2.1 _ _ H_r72 (by decide) (by decide)) rfl (by omega) (by omega) ⟨by omega, by omega⟩ (by omega) (by omega) (fun h74 T_h74 b_h74 f_h74 y_h74 => ?_)
                have A_h74 := A_h71.put T_h74 b_h74 f_h74 H_r72 (bAll_ok (by decide) _)
                have : ys h74 k0 56 = ys h71 k0 56 := (y_h74 k0 56).trans (if_neg (fun e => (bRo.ne H_k0 H_r72 (by decide)) e.1))
                have : ys h74 k0 0 = ys h71 k0 0 := (y_h74 k0 0).trans (if_neg (fun e => (bRo.ne H_k0 H_r72 (by decide)) e.1))
                refine yG.load xak rfl (fun _ _ => rfl) (v := yR k0) rfl rfl ?_
                refine yG.getO A_h74.1 (w_M_isStruck W H_k0) rfl rfl (fun r75 H_r75 O_r75 q_r75 => ?_)
                refine yG.load xak rfl (fun _ _ => rfl) (v := yR k0) rfl rfl ?_
                refine yG.getI A_h74.1 (w_M_meters W H_k0) rfl rfl (fun z76 e_z76 i_z76 l_z76 u_z76 => ?_)
                rw [show (z76 : Int) = z58 by omega]
                refine yG.num (c := 0) rfl (fun _ _ => rfl) (by decide) ?_
                refine yG.bast A_h74.1 (v_M_isStruck W H_r75) (W.2.1 _ _ H_r75 (by decide) (by decide)) rfl (by omega) (by omega) ⟨by omega, by omega⟩ (by omega) (by omega) (fun h77 T_h77 b_h77 f_h77 y_h77 => ?_)
                have A_h77 := A_h74.put T_h77 b_h77 f_h77 H_r75 (bAll_ok (by decide) _)
                have : ys h77 k0 56 = ys h74 k0 56 := (y_h77 k0 56).trans (if_neg (fun e => (bRo.ne H_k0 H_r75 (by decide)) e.1))
                have : ys h77 k0 0 = ys h74 k0 0 := (y_h77 k0 0).trans (if_neg (fun e => (bRo.ne H_k0 H_r75 (by decide)) e.1))
                refine yG.load xak rfl (fun _ _ => rfl) (v := yR k0) rfl rfl ?_
                refine yG.step (pc' := 157) (stk' := [yR k0, yR k0]) rfl (fun _ _ => rfl) ?_
                refine yG.getI A_h77.1 (w_M_meters W H_k0) rfl rfl (fun z78 e_z78 i_z78 l_z78 u_z78 => ?_)
                rw [show (z78 : Int) = z58 by omega]
                refine yG.num (c := 1) rfl (fun _ _ => rfl) (by decide) ?_
                refine yG.iadd rfl ?_
                refine yG.putI A_h77.1 (w_M_meters W H_k0) (W.2.1 _ _ H_k0 (by decide) (by decide)) rfl rfl (.inl rfl) ⟨by omega, by omega⟩ (by omega) (by omega) (fun h79 T_h79 b_h79 f_h79 y_h79 => ?_)
                have A_h79 := A_h77.put T_h79 b_h79 f_h79 H_k0 (by decide)
                have : ys h79 k0 0 = ys h77 k0 0 := (y_h79 k0 0).trans (if_neg (fun e => absurd e.2 (by decide)))
                have : ys h79 k0 56 = z58 + 1 := (y_h79 k0 56).trans (if_pos ⟨rfl, rfl⟩)
                refine yG.load xak rfl (fun _ _ => rfl) (v := yR k0) rfl rfl ?_
                refine yG.num (c := 0) rfl (fun _ _ => rfl) (by decide) ?_
                refine yG.putI A_h79.1 (w_M_hasEstimates W H_k0) (W.2.1 _ _ H_k0 (by decide) (by decide)) rfl rfl (.inr ⟨rfl, rfl, rfl⟩) ⟨by omega, by omega⟩ (by omega) (by omega) (fun h80 T_h80 b_h80 f_h80 y_h80 => ?_)
                have A_h80 := A_h79.put T_h80 b_h80 f_h80 H_k0 (by decide)
                have : ys h80 k0 0 = ys h79 k0 0 := (y_h80 k0 0).trans (if_neg (fun e => absurd e.2 (by decide)))
                have : ys h80 k0 56 = ys h79 k0 56 := (y_h80 k0 56).trans (if_neg (fun e => absurd e.2 (by decide)))
                refine yG.load xak rfl (fun _ _ => rfl) (v := yR k0) rfl rfl ?_
                refine yG.getI A_h80.1 (w_M_meters W H_k0) rfl rfl (fun z81 e_z81 i_z81 l_z81 u_z81 => ?_)
                refine yG.num (c := 1) rfl (fun _ _ => rfl) (by decide) ?_
                refine yG.isub rfl ?_
                refine yG.ret rfl (fun _ _ => rfl) ?_
                have M_bMm_h80 : bMm G h80 := fun q1 q2 H1 H2 m hm => by
                  have y1 : q1 = r63 := (u_M_meterKind W H1).trans (u_M_meterKind W H_r63).symm
                  have y2 : q2 = r66 := (u_M_meterAt W H2).trans (u_M_meterAt W H_r66).symm
                  have v9 := M_bMm_h60 q1 q2 H1 H2 m hm
                  by_cases e : m = (z58 : Int).toNat
                  · skip
                    have : ys h65 q1 m = p1 := (y_h65 q1 m).trans (if_pos ⟨y1, e⟩)
                    have : ys h68 q1 m = ys h65 q1 m := (y_h68 q1 m).trans (if_neg (fun z => bRo.ne H1 H_r66 (by decide) z.1))
                    have : ys h71 q1 m = ys h68 q1 m := (y_h71 q1 m).trans (if_neg (fun z => bRo.ne H1 H_r69 (by decide) z.1))
                    have : ys h74 q1 m = ys h71 q1 m := (y_h74 q1 m).trans (if_neg (fun z => bRo.ne H1 H_r72 (by decide) z.1))
                    have : ys h77 q1 m = ys h74 q1 m := (y_h77 q1 m).trans (if_neg (fun z => bRo.ne H1 H_r75 (by decide) z.1))
                    have : ys h79 q1 m = ys h77 q1 m := (y_h79 q1 m).trans (if_neg (fun z => bRo.ne H1 H_k0 (by decide) z.1))
                    have : ys h80 q1 m = ys h79 q1 m := (y_h80 q1 m).trans (if_neg (fun z => bRo.ne H1 H_k0 (by decide) z.1))
                    have : ys h65 q2 m = ys h60 q2 m := (y_h65 q2 m).trans (if_neg (fun z => bRo.ne H2 H_r63 (by decide) z.1))
                    have : ys h68 q2 m = p2 := (y_h68 q2 m).trans (if_pos ⟨y2, e⟩)
                    have : ys h71 q2 m = ys h68 q2 m := (y_h71 q2 m).trans (if_neg (fun z => bRo.ne H2 H_r69 (by decide) z.1))
                    have : ys h74 q2 m = ys h71 q2 m := (y_h74 q2 m).trans (if_neg (fun z => bRo.ne H2 H_r72 (by decide) z.1))
                    have : ys h77 q2 m = ys h74 q2 m := (y_h77 q2 m).trans (if_neg (fun z => bRo.ne H2 H_r75 (by decide) z.1))
                    have : ys h79 q2 m = ys h77 q2 m := (y_h79 q2 m).trans (if_neg (fun z => bRo.ne H2 H_k0 (by decide) z.1))
                    have : ys h80 q2 m = ys h79 q2 m := (y_h80 q2 m).trans (if_neg (fun z => bRo.ne H2 H_k0 (by decide) z.1))
                    omega
                  · skip
                    have : ys h65 q1 m = ys h60 q1 m := (y_h65 q1 m).trans (if_neg (fun z => e z.2))
                    have : ys h68 q1 m = ys h65 q1 m := (y_h68 q1 m).trans (if_neg (fun z => bRo.ne H1 H_r66 (by decide) z.1))
                    have : ys h71 q1 m = ys h68 q1 m := (y_h71 q1 m).trans (if_neg (fun z => bRo.ne H1 H_r69 (by decide) z.1))
                    have : ys h74 q1 m = ys h71 q1 m := (y_h74 q1 m).trans (if_neg (fun z => bRo.ne H1 H_r72 (by decide) z.1))
                    have : ys h77 q1 m = ys h74 q1 m := (y_h77 q1 m).trans (if_neg (fun z => bRo.ne H1 H_r75 (by decide) z.1))
                    have : ys h79 q1 m = ys h77 q1 m := (y_h79 q1 m).trans (if_neg (fun z => bRo.ne H1 H_k0 (by decide) z.1))
                    have : ys h80 q1 m = ys h79 q1 m := (y_h80 q1 m).trans (if_neg (fun z => bRo.ne H1 H_k0 (by decide) z.1))
                    have : ys h65 q2 m = ys h60 q2 m := (y_h65 q2 m).trans (if_neg (fun z => bRo.ne H2 H_r63 (by decide) z.1))
                    have : ys h68 q2 m = ys h65 q2 m := (y_h68 q2 m).trans (if_neg (fun z => e z.2))
                    have : ys h71 q2 m = ys h68 q2 m := (y_h71 q2 m).trans (if_neg (fun z => bRo.ne H2 H_r69 (by decide) z.1))
                    have : ys h74 q2 m = ys h71 q2 m := (y_h74 q2 m).trans (if_neg (fun z => bRo.ne H2 H_r72 (by decide) z.1))
                    have : ys h77 q2 m = ys h74 q2 m := (y_h77 q2 m).trans (if_neg (fun z => bRo.ne H2 H_r75 (by decide) z.1))
                    have : ys h79 q2 m = ys h77 q2 m := (y_h79 q2 m).trans (if_neg (fun z => bRo.ne H2 H_k0 (by decide) z.1))
                    have : ys h80 q2 m = ys h79 q2 m := (y_h80 q2 m).trans (if_neg (fun z => bRo.ne H2 H_k0 (by decide) z.1))
                    omega
                exact (yP.int ⟨by omega, by omega⟩ ⟨⟨⟨z81 - 1, rfl, by omega, by omega, by omega⟩, A_h80⟩, M_bMm_h80⟩)
              · have c62 : (z61 : Int) > 0 := c62
                exfalso; omega
            · have c59 : (z58 : Int) = 32 := c59
              refine yG.num (c := 3) rfl (fun _ _ => rfl) (by decide) ?_
              refine yG.goto rfl (t := 92) rfl ?_
              refine yG.putI A_hp.1 (w_M_thrown W H_k0) (W.2.1 _ _ H_k0 (by decide) (by decide)) rfl rfl (.inl rfl) ⟨by omega, by omega⟩ (by omega) (by omega) (fun h82 T_h82 b_h82 f_h82 y_h82 => ?_)
              have M_bMm_h82 := M_bMm_hp.fr (bAx.put (Wl := [(83076749736557242056487941267521536, 0)]) (bAx.rf A_hp.1) T_h82 b_h82 f_h82 H_k0 (by decide)) (by decide)
              have A_h82 := A_hp.put T_h82 b_h82 f_h82 H_k0 (by decide)
              have : ys h82 k0 56 = ys hp k0 56 := (y_h82 k0 56).trans (if_neg (fun e => absurd e.2 (by decide)))
              have : ys h82 k0 0 = 3 := (y_h82 k0 0).trans (if_pos ⟨rfl, rfl⟩)
              refine yG.load xak rfl (fun _ _ => rfl) (v := yR k0) rfl rfl ?_
              refine yG.getI A_h82.1 (w_M_thrown W H_k0) rfl rfl (fun z83 e_z83 i_z83 l_z83 u_z83 => ?_)
              refine yG.ifz rfl (t := 104) rfl ⟨by omega, by omega⟩ (fun c84 => ?_) (fun c84 => ?_)
              · have c84 : (z83 : Int) ≤ 0 := c84
                exfalso; omega
              · have c84 : (z83 : Int) > 0 := c84
                refine yG.num (c := 0) rfl (fun _ _ => rfl) (by decide) ?_
                refine yG.ret rfl (fun _ _ => rfl) ?_
                exact (yP.int ⟨by omega, by omega⟩ ⟨⟨⟨0, rfl, by omega, by omega, by omega⟩, A_h82⟩, M_bMm_h82⟩)
          · have c57 : (z56 : Int) = 0 := c57
            refine yG.num (c := 1) rfl (fun _ _ => rfl) (by decide) ?_
            refine yG.goto rfl (t := 92) rfl ?_
            refine yG.putI A_hp.1 (w_M_thrown W H_k0) (W.2.1 _ _ H_k0 (by decide) (by decide)) rfl rfl (.inl rfl) ⟨by omega, by omega⟩ (by omega) (by omega) (fun h85 T_h85 b_h85 f_h85 y_h85 => ?_)
            have M_bMm_h85 := M_bMm_hp.fr (bAx.put (Wl := [(83076749736557242056487941267521536, 0)]) (bAx.rf A_hp.1) T_h85 b_h85 f_h85 H_k0 (by decide)) (by decide)
            have A_h85 := A_hp.put T_h85 b_h85 f_h85 H_k0 (by decide)
            have : ys h85 k0 0 = 1 := (y_h85 k0 0).trans (if_pos ⟨rfl, rfl⟩)
            refine yG.load xak rfl (fun _ _ => rfl) (v := yR k0) rfl rfl ?_
            refine yG.getI A_h85.1 (w_M_thrown W H_k0) rfl rfl (fun z86 e_z86 i_z86 l_z86 u_z86 => ?_)
            refine yG.ifz rfl (t := 104) rfl ⟨by omega, by omega⟩ (fun c87 => ?_) (fun c87 => ?_)
            · have c87 : (z86 : Int) ≤ 0 := c87
              exfalso; omega
            · have c87 : (z86 : Int) > 0 := c87
              refine yG.num (c := 0) rfl (fun _ _ => rfl) (by decide) ?_
              refine yG.ret rfl (fun _ _ => rfl) ?_
              exact (yP.int ⟨by omega, by omega⟩ ⟨⟨⟨0, rfl, by omega, by omega, by omega⟩, A_h85⟩, M_bMm_h85⟩)
      · have c50 : (z49 : Int) = 0 := c50
        refine yG.num (c := 2) rfl (fun _ _ => rfl) (by decide) ?_
        refine yG.goto rfl (t := 92) rfl ?_
        refine yG.putI A_hp.1 (w_M_thrown W H_k0) (W.2.1 _ _ H_k0 (by decide) (by decide)) rfl rfl (.inl rfl) ⟨by omega, by omega⟩ (by omega) (by omega) (fun h88 T_h88 b_h88 f_h88 y_h88 => ?_)
        have M_bMm_h88 := M_bMm_hp.fr (bAx.put (Wl := [(83076749736557242056487941267521536, 0)]) (bAx.rf A_hp.1) T_h88 b_h88 f_h88 H_k0 (by decide)) (by decide)
        have A_h88 := A_hp.put T_h88 b_h88 f_h88 H_k0 (by decide)
        have : ys h88 k0 0 = 2 := (y_h88 k0 0).trans (if_pos ⟨rfl, rfl⟩)
        refine yG.load xak rfl (fun _ _ => rfl) (v := yR k0) rfl rfl ?_
        refine yG.getI A_h88.1 (w_M_thrown W H_k0) rfl rfl (fun z89 e_z89 i_z89 l_z89 u_z89 => ?_)
        refine yG.ifz rfl (t := 104) rfl ⟨by omega, by omega⟩ (fun c90 => ?_) (fun c90 => ?_)
        · have c90 : (z89 : Int) ≤ 0 := c90
          exfalso; omega
        · have c90 : (z89 : Int) > 0 := c90
          refine yG.num (c := 0) rfl (fun _ _ => rfl) (by decide) ?_
          refine yG.ret rfl (fun _ _ => rfl) ?_
          exact (yP.int ⟨by omega, by omega⟩ ⟨⟨⟨0, rfl, by omega, by omega, by omega⟩, A_h88⟩, M_bMm_h88⟩)
  · have c2 : (z1 : Int) = 0 := c2
    refine yG.num (c := 1) rfl (fun _ _ => rfl) (by decide) ?_
    refine yG.goto rfl (t := 92) rfl ?_
    refine yG.putI A_hp.1 (w_M_thrown W H_k0) (W.2.1 _ _ H_k0 (by decide) (by decide)) rfl rfl (.inl rfl) ⟨by omega, by omega⟩ (by omega) (by omega) (fun h91 T_h91 b_h91 f_h91 y_h91 => ?_)
    have M_bMm_h91 := M_bMm_hp.fr (bAx.put (Wl := [(83076749736557242056487941267521536, 0)]) (bAx.rf A_hp.1) T_h91 b_h91 f_h91 H_k0 (by decide)) (by decide)
    have A_h91 := A_hp.put T_h91 b_h91 f_h91 H_k0 (by decide)
    have : ys h91 k0 0 = 1 := (y_h91 k0 0).trans (if_pos ⟨rfl, rfl⟩)
    refine yG.load xak rfl (fun _ _ => rfl) (v := yR k0) rfl rfl ?_
    refine yG.getI A_h91.1 (w_M_thrown W H_k0) rfl rfl (fun z92 e_z92 i_z92 l_z92 u_z92 => ?_)
    refine yG.ifz rfl (t := 104) rfl ⟨by omega, by omega⟩ (fun c93 => ?_) (fun c93 => ?_)
    · have c93 : (z92 : Int) ≤ 0 := c93
      exfalso; omega
    · have c93 : (z92 : Int) > 0 := c93
      refine yG.num (c := 0) rfl (fun _ _ => rfl) (by decide) ?_
      refine yG.ret rfl (fun _ _ => rfl) ?_
      exact (yP.int ⟨by omega, by omega⟩ ⟨⟨⟨0, rfl, by omega, by omega, by omega⟩, A_h91⟩, M_bMm_h91⟩)
theorem c_GModel_islandOfMeter {hp : xH} (W : mW G) (d : Nat) (hT : zTy G hp) (M_bMm : bMm G hp) {k0 : Nat} (H_k0 : bRo G 116 k0) (p1 : Int) (h1l : 0 ≤ p1) (h1u : p1 ≤ 31) : yC (xcall 89 xfts xpools xms (d + 4)) 438 [yR k0, yI (p1)] hp (bQpi hp 0 15 (fun _ => True)) := by
  have A_hp : bAx G [] hp hp := bAx.rf hT
  refine yC.of (M := (xt_X13_islandOfMeter, (2, (1, (14, []))))) rfl rfl (N := 45) (yfuel (by decide)) ?_
  show yG 89 xfts (xcall 89 xfts xpools xms (d + 3)) (xpool xp_RX13) [] xt_X13_islandOfMeter (yP 1 (bQpi hp 0 15 (fun _ => True))) 45 0 [(0, yR k0), (1, yI (p1))] [] hp
  refine yG.load xak rfl (fun _ _ => rfl) (v := yR k0) rfl rfl ?_
  refine yG.getO A_hp.1 (w_M_meterKind W H_k0) rfl rfl (fun r1 H_r1 O_r1 q_r1 => ?_)
  refine yG.load xik rfl (fun _ _ => rfl) (v := yI (p1)) rfl rfl ?_
  refine yG.iald A_hp.1 (v_M_meterKind W H_r1) rfl (by omega) (by omega) (fun z2 e_z2 i_z2 l_z2 u_z2 => ?_)
  refine yG.ifz rfl (t := 22) rfl ⟨by omega, by omega⟩ (fun c3 => ?_) (fun c3 => ?_)
  · have c3 : (z2 : Int) ≠ 0 := c3
    refine yG.load xak rfl (fun _ _ => rfl) (v := yR k0) rfl rfl ?_
    refine yG.getO A_hp.1 (w_M_island W H_k0) rfl rfl (fun r4 H_r4 O_r4 q_r4 => ?_)
    refine yG.load xak rfl (fun _ _ => rfl) (v := yR k0) rfl rfl ?_
    refine yG.getO A_hp.1 (w_M_meterAt W H_k0) rfl rfl (fun r5 H_r5 O_r5 q_r5 => ?_)
    refine yG.load xik rfl (fun _ _ => rfl) (v := yI (p1)) rfl rfl ?_
    refine yG.iald A_hp.1 (v_M_meterAt W H_r5) rfl (by omega) (by omega) (fun z6 e_z6 i_z6 l_z6 u_z6 => ?_)
    have w_z6 := M_bMm r1 r5 H_r1 H_r5 (p1 : Int).toNat (by omega)
    refine yG.iald A_hp.1 (v_M_island W H_r4) rfl (by omega) (by omega) (fun z7 e_z7 i_z7 l_z7 u_z7 => ?_)
    refine yG.ret rfl (fun _ _ => rfl) ?_
    exact (yP.int ⟨by omega, by omega⟩ ⟨⟨z7, rfl, by omega, by omega, trivial⟩, rfl⟩)
  · have c3 : (z2 : Int) = 0 := c3
    refine yG.load xak rfl (fun _ _ => rfl) (v := yR k0) rfl rfl ?_
    refine yG.load xak rfl (fun _ _ => rfl) (v := yR k0) rfl rfl ?_
    refine yG.getO A_hp.1 (w_M_meterAt W H_k0) rfl rfl (fun r8 H_r8 O_r8 q_r8 => ?_)
    refine yG.load xik rfl (fun _ _ => rfl) (v := yI (p1)) rfl rfl ?_
    refine yG.iald A_hp.1 (v_M_meterAt W H_r8) rfl (by omega) (by omega) (fun z9 e_z9 i_z9 l_z9 u_z9 => ?_)
    have w_z9 := M_bMm r1 r8 H_r1 H_r8 (p1 : Int).toNat (by omega)
    refine yG.invV (rest := []) A_hp.1 (bOb (d_M W) H_k0) rfl rfl rfl rfl (c_GModel_islandOfLine W d A_hp.1 H_k0 (z9) (by omega) (by omega)) (fun rv hp9 q9 => ?_)
    obtain ⟨⟨z10, rfl, l_z10, u_z10, R_z10⟩, e9⟩ := q9
    rw [e9]
    show yG _ _ _ _ _ _ _ _ _ _ (yI z10 :: []) _
    refine yG.goto rfl (t := 33) rfl ?_
    refine yG.ret rfl (fun _ _ => rfl) ?_
    exact (yP.int ⟨by omega, by omega⟩ ⟨⟨z10, rfl, by omega, by omega, trivial⟩, rfl⟩)
theorem c_GModel_counts {hp : xH} (W : mW G) (d : Nat) (hT : zTy G hp) (M_bMm : bMm G hp) {k0 : Nat} (H_k0 : bRo G 116 k0) (p1 p2 : Int) (h1l : 0 ≤ p1) (h1u : p1 ≤ 31) (h2l : 0 ≤ p2) (h2u : p2 ≤ 15) : yC (xcall 89 xfts xpools xms (d + 5)) 380 [yR k0, yI (p1), yI (p2)] hp (bQpi hp 0 1 (fun _ => True)) := by
  have A_hp : bAx G [] hp hp := bAx.rf hT
  refine yC.of (M := (xt_X13_counts, (3, (4, (14, []))))) rfl rfl (N := 45) (yfuel (by decide)) ?_
  show yG 89 xfts (xcall 89 xfts xpools xms (d + 4)) (xpool xp_RX13) [] xt_X13_counts (yP 4 (bQpi hp 0 1 (fun _ => True))) 45 0 [(0, yR k0), (1, yI (p1)), (2, yI (p2))] [] hp
  refine yG.load xak rfl (fun _ _ => rfl) (v := yR k0) rfl rfl ?_
  refine yG.load xik rfl (fun _ _ => rfl) (v := yI (p1)) rfl rfl ?_
  refine yG.invV (rest := []) A_hp.1 (bOb (d_M W) H_k0) rfl rfl rfl rfl (c_GModel_islandOfMeter W d A_hp.1 M_bMm H_k0 (p1) (by omega) (by omega)) (fun rv hp9 q9 => ?_)
  obtain ⟨⟨z1, rfl, l_z1, u_z1, R_z1⟩, e9⟩ := q9
  rw [e9]
  show yG _ _ _ _ _ _ _ _ _ _ (yI z1 :: []) _
  refine yG.load xik rfl (fun _ _ => rfl) (v := yI (p2)) rfl rfl ?_
  refine yG.icmp rfl (t := 22) rfl ⟨by omega, by omega⟩ ⟨by omega, by omega⟩ (fun c2 => ?_) (fun c2 => ?_)
  · have c2 : (z1 : Int) ≠ p2 := c2
    refine yG.num (c := 0) rfl (fun _ _ => rfl) (by decide) ?_
    refine yG.ret rfl (fun _ _ => rfl) ?_
    exact (yP.bool (by omega) ⟨⟨0, rfl, by omega, by omega, trivial⟩, rfl⟩)
  · have c2 : (z1 : Int) = p2 := c2
    refine yG.load xak rfl (fun _ _ => rfl) (v := yR k0) rfl rfl ?_
    refine yG.getO A_hp.1 (w_M_isStruck W H_k0) rfl rfl (fun r3 H_r3 O_r3 q_r3 => ?_)
    refine yG.load xik rfl (fun _ _ => rfl) (v := yI (p1)) rfl rfl ?_
    refine yG.bald A_hp.1 (v_M_isStruck W H_r3) rfl (by omega) (by omega) (fun z4 e_z4 i_z4 l_z4 u_z4 => ?_)
    refine yG.ifz rfl (t := 22) rfl ⟨by omega, by omega⟩ (fun c5 => ?_) (fun c5 => ?_)
    · have c5 : (z4 : Int) ≠ 0 := c5
      refine yG.num (c := 0) rfl (fun _ _ => rfl) (by decide) ?_
      refine yG.ret rfl (fun _ _ => rfl) ?_
      exact (yP.bool (by omega) ⟨⟨0, rfl, by omega, by omega, trivial⟩, rfl⟩)
    · have c5 : (z4 : Int) = 0 := c5
      refine yG.num (c := 1) rfl (fun _ _ => rfl) (by decide) ?_
      refine yG.goto rfl (t := 23) rfl ?_
      refine yG.ret rfl (fun _ _ => rfl) ?_
      exact (yP.bool (by omega) ⟨⟨1, rfl, by omega, by omega, trivial⟩, rfl⟩)
theorem c_GModel_equations {hp : xH} (W : mW G) (d : Nat) (hT : zTy G hp) (M_bMm : bMm G hp) {k0 : Nat} (H_k0 : bRo G 116 k0) (p1 p2 : Int) (h1l : 0 ≤ p1) (h1u : p1 ≤ 15) (h2l : 0 ≤ p2) (h2u : p2 ≤ 15) (q0l : 1 ≤ ys hp k0 11) (q0u : ys hp k0 11 ≤ 2147483647) : yC (xcall 89 xfts xpools xms (d + 6)) 391 [yR k0, yI (p1), yI (p2)] hp (bQj G [(85070591730234615865843651857942052864, 256)] hp 0 2147483646 (fun _ => True)) := by
  have A_hp : bAx G [(85070591730234615865843651857942052864, 256)] hp hp := bAx.rf hT
  have H : ∀ m : Nat, (∀ a3 : Int, ∀ a5 : Int, ∀ gg0 : Int, ∀ hq, bAx G [(85070591730234615865843651857942052864, 256)] hp hq → ys hq k0 11 = gg0 → 0 ≤ a3 → (-2147483646) ≤ 0 - a3 → 0 ≤ a5 → (-20) ≤ 0 - a5 → 1 ≤ gg0 → (-2147483647) ≤ 0 - gg0 → 0 ≤ p1 → (-15) ≤ 0 - p1 → 0 ≤ p2 → (-15) ≤ 0 - p2 → (-2147483645) ≤ 0 - a3 + a5 → 0 ≤ 0 - a3 + gg0 → 0 - 25906 * a5 + 544025 < (m : Int) → yG 89 xfts (xcall 89 xfts xpools xms (d + 5)) (xpool xp_RX13) [] xt_X13_equations (yP 2 (bQj G [(85070591730234615865843651857942052864, 256)] hp 0 2147483646 (fun _ => True))) (41 * m) 5 [(0, yR k0), (1, yI (p1)), (2, yI (p2)), (3, yJ (a3)), (5, yI (a5))] [] hq) ∧ (∀ a3 : Int, ∀ a5 : Int, ∀ gg0 : Int, ∀ hq, bAx G [(85070591730234615865843651857942052864, 256)] hp hq → ys hq k0 11 = gg0 → 0 ≤ a3 → (-2147483646) ≤ 0 - a3 → 0 ≤ a5 → (-32) ≤ 0 - a5 → 1 ≤ gg0 → (-2147483647) ≤ 0 - gg0 → 0 ≤ p1 → (-15) ≤ 0 - p1 → 0 ≤ p2 → (-15) ≤ 0 - p2 → 0 ≤ 0 - a3 + gg0 → 0 - 785 * a5 + 25904 < (m : Int) → yG 89 xfts (xcall 89 xfts xpools xms (d + 5)) (xpool xp_RX13) [] xt_X13_equations (yP 2 (bQj G [(85070591730234615865843651857942052864, 256)] hp 0 2147483646 (fun _ => True))) (41 * m) 75 [(0, yR k0), (1, yI (p1)), (2, yI (p2)), (3, yJ (a3)), (5, yI (a5))] [] hq) ∧ (∀ a3 : Int, ∀ a5 : Int, ∀ a6 : Int, ∀ gg0 : Int, ∀ hq, bAx G [(85070591730234615865843651857942052864, 256)] hp hq → ys hq k0 11 = gg0 → 0 ≤ a3 → (-2147483646) ≤ 0 - a3 → 0 ≤ a5 → (-31) ≤ 0 - a5 → 0 ≤ a6 → (-15) ≤ 0 - a6 → 1 ≤ gg0 → (-2147483647) ≤ 0 - gg0 → 0 ≤ p1 → (-15) ≤ 0 - p1 → 0 ≤ p2 → (-15) ≤ 0 - p2 → 0 ≤ 0 - a3 + gg0 → 0 ≤ 0 - a6 + p2 → 0 - 785 * a5 - 49 * a6 + 25903 < (m : Int) → yG 89 xfts (xcall 89 xfts xpools xms (d + 5)) (xpool xp_RX13) [] xt_X13_equations (yP 2 (bQj G [(85070591730234615865843651857942052864, 256)] hp 0 2147483646 (fun _ => True))) (41 * m) 87 [(0, yR k0), (1, yI (p1)), (2, yI (p2)), (3, yJ (a3)), (5, yI (a5)), (6, yI (a6))] [] hq) ∧ (∀ a3 : Int, ∀ a5 : Int, ∀ a6 : Int, ∀ a7 : Int, ∀ a9 : Int, ∀ gg0 : Int, ∀ hq, bAx G [(85070591730234615865843651857942052864, 256)] hp hq → ys hq k0 11 = gg0 → 0 ≤ a3 → (-2147483646) ≤ 0 - a3 → 0 ≤ a5 → (-31) ≤ 0 - a5 → 0 ≤ a6 → (-14) ≤ 0 - a6 → 0 ≤ a7 → (-2147483646) ≤ 0 - a7 → 0 ≤ a9 → (-15) ≤ 0 - a9 → 1 ≤ gg0 → (-2147483647) ≤ 0 - gg0 → 0 ≤ p1 → (-15) ≤ 0 - p1 → 1 ≤ p2 → (-15) ≤ 0 - p2 → (-14) ≤ a7 - a9 → 0 ≤ 0 - a3 + gg0 → 1 ≤ 0 - a7 + gg0 → 1 ≤ 0 - a6 + p2 → 0 ≤ 0 - a9 + p2 → 0 - 785 * a5 - 49 * a6 - 3 * a9 + 25902 < (m : Int) → yG 89 xfts (xcall 89 xfts xpools xms (d + 5)) (xpool xp_RX13) [] xt_X13_equations (yP 2 (bQj G [(85070591730234615865843651857942052864, 256)] hp 0 2147483646 (fun _ => True))) (41 * m) 135 [(0, yR k0), (1, yI (p1)), (2, yI (p2)), (3, yJ (a3)), (5, yI (a5)), (6, yI (a6)), (7, yJ (a7)), (9, yI (a9))] [] hq) ∧ (∀ a3 : Int, ∀ a5 : Int, ∀ a6 : Int, ∀ a7 : Int, ∀ gg0 : Int, ∀ hq, bAx G [(85070591730234615865843651857942052864, 256)] hp hq → ys hq k0 11 = gg0 → 0 ≤ a3 → (-2147483646) ≤ 0 - a3 → 0 ≤ a5 → (-31) ≤ 0 - a5 → 0 ≤ a6 → (-14) ≤ 0 - a6 → 0 ≤ a7 → (-2147483646) ≤ 0 - a7 → 1 ≤ gg0 → (-2147483647) ≤ 0 - gg0 → 0 ≤ p1 → (-15) ≤ 0 - p1 → 1 ≤ p2 → (-15) ≤ 0 - p2 → 0 ≤ 0 - a3 + gg0 → 1 ≤ 0 - a7 + gg0 → 1 ≤ 0 - a6 + p2 → 0 - 785 * a5 - 49 * a6 + 25856 < (m : Int) → yG 89 xfts (xcall 89 xfts xpools xms (d + 5)) (xpool xp_RX13) [] xt_X13_equations (yP 2 (bQj G [(85070591730234615865843651857942052864, 256)] hp 0 2147483646 (fun _ => True))) (41 * m) 202 [(0, yR k0), (1, yI (p1)), (2, yI (p2)), (3, yJ (a3)), (5, yI (a5)), (6, yI (a6)), (7, yJ (a7))] [] hq) ∧ (∀ a3 : Int, ∀ a5 : Int, ∀ gg0 : Int, ∀ hq, bAx G [(85070591730234615865843651857942052864, 256)] hp hq → ys hq k0 11 = gg0 → 0 ≤ a3 → (-2147483646) ≤ 0 - a3 → 0 ≤ a5 → (-15) ≤ 0 - a5 → 1 ≤ gg0 → (-2147483647) ≤ 0 - gg0 → 0 ≤ p1 → (-15) ≤ 0 - p1 → 0 ≤ p2 → (-15) ≤ 0 - p2 → 0 ≤ 0 - a3 + gg0 → 0 ≤ 0 - a5 + p2 → 0 - 2 * a5 + 31 < (m : Int) → yG 89 xfts (xcall 89 xfts xpools xms (d + 5)) (xpool xp_RX13) [] xt_X13_equations (yP 2 (bQj G [(85070591730234615865843651857942052864, 256)] hp 0 2147483646 (fun _ => True))) (41 * m) 262 [(0, yR k0), (2, yI (p2)), (3, yJ (a3)), (5, yI (a5))] [] hq) := by
    intro m
    induction m with
    | zero =>
      refine ⟨?_, ?_, ?_, ?_, ?_, ?_⟩ <;> (intros; exfalso; omega)
    | succ m ih =>
      obtain ⟨i_5, i_75, i_87, i_135, i_202, i_262⟩ := ih
      refine ⟨?_, ?_, ?_, ?_, ?_, ?_⟩
      · intro a3 a5 gg0 hq A_hq E_0 f0 f1 f2 f3 f4 f5 f6 f7 f8 f9 f10 f11 hm
        refine yG.mono (N := 41 * m + 41) ?_ (by omega)
        obtain ⟨-, -, g_0l, g_0u⟩ := (w_M_p W H_k0).long A_hq.1
        refine yG.load xik rfl (fun _ _ => rfl) (v := yI (a5)) rfl rfl ?_
        refine yG.load xak rfl (fun _ _ => rfl) (v := yR k0) rfl rfl ?_
        refine yG.getO A_hq.1 (w_M_count W H_k0) rfl rfl (fun r1 H_r1 O_r1 q_r1 => ?_)
        refine yG.num (c := 2) rfl (fun _ _ => rfl) (by decide) ?_
        refine yG.ialdF A_hq.1 (v_M_count W H_r1) rfl rfl (by omega) (by omega) (fun z2 e_z2 i_z2 l_z2 u_z2 => ?_)
        refine yG.icmp rfl (t := 62) rfl ⟨by omega, by omega⟩ ⟨by omega, by omega⟩ (fun c3 => ?_) (fun c3 => ?_)
        · have c3 : (a5 : Int) ≥ z2 := c3
          refine yG.load xak rfl (fun _ _ => rfl) (v := yR k0) rfl rfl ?_
          refine yG.load xik rfl (fun _ _ => rfl) (v := yI (p2)) rfl rfl ?_
          refine yG.num (c := 2) rfl (fun _ _ => rfl) (by decide) ?_
          refine yG.load xik rfl (fun _ _ => rfl) (v := yI (p2)) rfl rfl ?_
          refine yG.imul rfl ?_
          refine yG.num (c := 1) rfl (fun _ _ => rfl) (by decide) ?_
          refine yG.iadd rfl ?_
          refine yG.invV (rest := []) A_hq.1 (bOb (d_M W) H_k0) rfl rfl rfl rfl (c_GModel_clearMatrix W (d + 4) A_hq.1 H_k0 (p2) ((2 * p2) + 1) (by omega) (by omega) (by omega) (by omega)) (fun rv h4 q9 => ?_)
          obtain ⟨⟨rfl, R_z5⟩, B_h4⟩ := q9
          have A_h4 := A_hq.tr B_h4 (by decide)
          have : ys h4 k0 11 = ys hq k0 11 := B_h4.ys H_k0 (by decide)
          show yG _ _ _ _ _ _ _ _ _ _ [] _
          refine yG.num (c := 0) rfl (fun _ _ => rfl) (by decide) ?_
          refine yG.store1 xik (L' := [(5, yI (0)), (0, yR k0), (1, yI (p1)), (2, yI (p2)), (3, yJ (a3))]) rfl (fun _ _ => rfl) rfl rfl ?_
          exact yG.mono (yG.sub (i_75 (a3) (0) (ys h4 k0 11) h4 A_h4  rfl (by omega) (by omega) (by omega) (by omega) (by omega) (by omega) (by omega) (by omega) (by omega) (by omega) (by omega) (by omega)) (ySub.cons rfl (ySub.cons rfl (ySub.cons rfl (ySub.cons rfl (ySub.cons rfl (ySub.nil))))))) (by omega)
        · have c3 : (a5 : Int) < z2 := c3
          refine yG.load xak rfl (fun _ _ => rfl) (v := yR k0) rfl rfl ?_
          refine yG.load xik rfl (fun _ _ => rfl) (v := yI (a5)) rfl rfl ?_
          refine yG.invV (rest := []) A_hq.1 (bOb (d_M W) H_k0) rfl rfl rfl rfl (c_GModel_isBetween W (d + 1) A_hq.1 H_k0 (a5) (by omega) (by omega)) (fun rv hp9 q9 => ?_)
          obtain ⟨⟨z6, rfl, l_z6, u_z6, R_z6⟩, e9⟩ := q9
          rw [e9]
          show yG _ _ _ _ _ _ _ _ _ _ (yI z6 :: []) _
          refine yG.ifz rfl (t := 54) rfl ⟨by omega, by omega⟩ (fun c7 => ?_) (fun c7 => ?_)
          · have c7 : (z6 : Int) = 0 := c7
            refine yG.load xlk2 rfl (fun _ _ => rfl) (v := yJ (a3)) rfl rfl ?_
            refine yG.store2 xlk2 (L' := [(3, yJ (a3)), (0, yR k0), (1, yI (p1)), (2, yI (p2)), (5, yI (a5))]) rfl (fun _ _ => rfl) rfl rfl ?_
            refine yG.iinc rfl (a := a5) rfl (L' := [(5, yI (a5 + 1)), (3, yJ (a3)), (0, yR k0), (1, yI (p1)), (2, yI (p2))]) rfl ?_
            refine yG.goto rfl (t := 5) rfl ?_
            exact yG.mono (yG.sub (i_5 (a3) (a5 + 1) (ys hq k0 11) hq A_hq  rfl (by omega) (by omega) (by omega) (by omega) (by omega) (by omega) (by omega) (by omega) (by omega) (by omega) (by omega) (by omega) (by omega)) (ySub.cons rfl (ySub.cons rfl (ySub.cons rfl (ySub.cons rfl (ySub.cons rfl (ySub.nil))))))) (by omega)
          · have c7 : (z6 : Int) ≠ 0 := c7
            refine yG.load xak rfl (fun _ _ => rfl) (v := yR k0) rfl rfl ?_
            refine yG.load xik rfl (fun _ _ => rfl) (v := yI (a5)) rfl rfl ?_
            refine yG.invV (rest := []) A_hq.1 (bOb (d_M W) H_k0) rfl rfl rfl rfl (c_GModel_islandOfLine W (d + 2) A_hq.1 H_k0 (a5) (by omega) (by omega)) (fun rv hp9 q9 => ?_)
            obtain ⟨⟨z8, rfl, l_z8, u_z8, R_z8⟩, e9⟩ := q9
            rw [e9]
            show yG _ _ _ _ _ _ _ _ _ _ (yI z8 :: []) _
            refine yG.load xik rfl (fun _ _ => rfl) (v := yI (p1)) rfl rfl ?_
            refine yG.icmp rfl (t := 54) rfl ⟨by omega, by omega⟩ ⟨by omega, by omega⟩ (fun c9 => ?_) (fun c9 => ?_)
            · have c9 : (z8 : Int) ≠ p1 := c9
              refine yG.load xlk2 rfl (fun _ _ => rfl) (v := yJ (a3)) rfl rfl ?_
              refine yG.store2 xlk2 (L' := [(3, yJ (a3)), (0, yR k0), (1, yI (p1)), (2, yI (p2)), (5, yI (a5))]) rfl (fun _ _ => rfl) rfl rfl ?_
              refine yG.iinc rfl (a := a5) rfl (L' := [(5, yI (a5 + 1)), (3, yJ (a3)), (0, yR k0), (1, yI (p1)), (2, yI (p2))]) rfl ?_
              refine yG.goto rfl (t := 5) rfl ?_
              exact yG.mono (yG.sub (i_5 (a3) (a5 + 1) (ys hq k0 11) hq A_hq  rfl (by omega) (by omega) (by omega) (by omega) (by omega) (by omega) (by omega) (by omega) (by omega) (by omega) (by omega) (by omega) (by omega)) (ySub.cons rfl (ySub.cons rfl (ySub.cons rfl (ySub.cons rfl (ySub.cons rfl (ySub.nil))))))) (by omega)
            · have c9 : (z8 : Int) = p1 := c9
              refine yG.load xlk2 rfl (fun _ _ => rfl) (v := yJ (a3)) rfl rfl ?_
              refine yG.load xak rfl (fun _ _ => rfl) (v := yR k0) rfl rfl ?_
              refine yG.num (c := 2) rfl (fun _ _ => rfl) (by decide) ?_
              refine yG.load xik rfl (fun _ _ => rfl) (v := yI (a5)) rfl rfl ?_
              refine yG.num (c := 1) rfl (fun _ _ => rfl) (by decide) ?_
              refine yG.invV (rest := [yJ (a3)]) A_hq.1 (bOb (d_M W) H_k0) rfl rfl rfl rfl (c_GModel_of_2_1 W (d + 3) A_hq.1 H_k0 (a5) (by omega) (by omega)) (fun rv hp9 q9 => ?_)
              obtain ⟨⟨z10, rfl, l_z10, u_z10, R_z10⟩, e9⟩ := q9
              rw [e9]
              show yG _ _ _ _ _ _ _ _ _ _ (yI z10 :: [yJ (a3)]) _
              refine yG.i2l rfl ⟨by omega, by omega⟩ ?_
              refine yG.lmul rfl ?_
              obtain ⟨z11, e_z11⟩ : ∃ z : Int, z = a3 * z10 := ⟨_, rfl⟩
              rw [← e_z11]
              have b_z11 : 0 ≤ z11 ∧ z11 ≤ 212600880954 := e_z11 ▸ ymulb (A := 2147483646) (B := 99) (by omega) (by omega) (by omega) (by omega) (by decide)
              have b2_z11 : z11 ≤ 2147483646 * z10 := e_z11 ▸ bmulx (by omega) (by omega)
              have b3_z11 : z11 ≤ 99 * a3 := e_z11 ▸ bmuly (by omega) (by omega)
              refine yG.load xak rfl (fun _ _ => rfl) (v := yR k0) rfl rfl ?_
              refine yG.getJ A_hq.1 (w_M_p W H_k0) rfl rfl (fun z12 e_z12 i_z12 l_z12 u_z12 => ?_)
              rw [show (z12 : Int) = gg0 by omega]
              refine yG.lrem rfl ⟨by omega, by omega⟩ ⟨by omega, by omega⟩ (by omega) (by omega) ?_
              obtain ⟨z13, e_z13⟩ : ∃ z : Int, z = (z11) % (gg0) := ⟨_, rfl⟩
              rw [← e_z13]
              have b_z13 : 0 ≤ z13 ∧ z13 < gg0 := e_z13 ▸ ⟨Int.emod_nonneg _ (by omega), Int.emod_lt_of_pos _ (by omega)⟩
              refine yG.goto rfl (t := 55) rfl ?_
              refine yG.store2 xlk2 (L' := [(3, yJ (z13)), (0, yR k0), (1, yI (p1)), (2, yI (p2)), (5, yI (a5))]) rfl (fun _ _ => rfl) rfl rfl ?_
              refine yG.iinc rfl (a := a5) rfl (L' := [(5, yI (a5 + 1)), (3, yJ (z13)), (0, yR k0), (1, yI (p1)), (2, yI (p2))]) rfl ?_
              refine yG.goto rfl (t := 5) rfl ?_
              exact yG.mono (yG.sub (i_5 (z13) (a5 + 1) (ys hq k0 11) hq A_hq  rfl (by omega) (by omega) (by omega) (by omega) (by omega) (by omega) (by omega) (by omega) (by omega) (by omega) (by omega) (by omega) (by omega)) (ySub.cons rfl (ySub.cons rfl (ySub.cons rfl (ySub.cons rfl (ySub.cons rfl (ySub.nil))))))) (by omega)
      · intro a3 a5 gg0 hq A_hq E_0 f0 f1 f2 f3 f4 f5 f6 f7 f8 f9 f10 hm
        refine yG.mono (N := 41 * m + 41) ?_ (by omega)
        obtain ⟨-, -, g_0l, g_0u⟩ := (w_M_p W H_k0).long A_hq.1
        refine yG.load xik rfl (fun _ _ => rfl) (v := yI (a5)) rfl rfl ?_
        refine yG.load xak rfl (fun _ _ => rfl) (v := yR k0) rfl rfl ?_
        refine yG.getI A_hq.1 (w_M_meters W H_k0) rfl rfl (fun z1 e_z1 i_z1 l_z1 u_z1 => ?_)
        refine yG.icmp rfl (t := 259) rfl ⟨by omega, by omega⟩ ⟨by omega, by omega⟩ (fun c2 => ?_) (fun c2 => ?_)
        · have c2 : (a5 : Int) ≥ z1 := c2
          refine yG.num (c := 0) rfl (fun _ _ => rfl) (by decide) ?_
          refine yG.store1 xik (L' := [(5, yI (0)), (0, yR k0), (1, yI (p1)), (2, yI (p2)), (3, yJ (a3))]) rfl (fun _ _ => rfl) rfl rfl ?_
          exact yG.mono (yG.sub (i_262 (a3) (0) (ys hq k0 11) hq A_hq  rfl (by omega) (by omega) (by omega) (by omega) (by omega) (by omega) (by omega) (by omega) (by omega) (by omega) (by omega) (by omega) (by omega)) (ySub.cons rfl (ySub.cons rfl (ySub.cons rfl (ySub.cons rfl (ySub.nil)))))) (by omega)
        · have c2 : (a5 : Int) < z1 := c2
          refine yG.num (c := 0) rfl (fun _ _ => rfl) (by decide) ?_
          refine yG.store1 xik (L' := [(6, yI (0)), (0, yR k0), (1, yI (p1)), (2, yI (p2)), (3, yJ (a3)), (5, yI (a5))]) rfl (fun _ _ => rfl) rfl rfl ?_
          exact yG.mono (yG.sub (i_87 (a3) (a5) (0) (ys hq k0 11) hq A_hq  rfl (by omega) (by omega) (by omega) (by omega) (by omega) (by omega) (by omega) (by omega) (by omega) (by omega) (by omega) (by omega) (by omega) (by omega) (by omega)) (ySub.cons rfl (ySub.cons rfl (ySub.cons rfl (ySub.cons rfl (ySub.cons rfl (ySub.cons rfl (ySub.nil)))))))) (by omega)
      · intro a3 a5 a6 gg0 hq A_hq E_0 f0 f1 f2 f3 f4 f5 f6 f7 f8 f9 f10 f11 f12 f13 hm
        refine yG.mono (N := 41 * m + 41) ?_ (by omega)
        obtain ⟨-, -, g_0l, g_0u⟩ := (w_M_p W H_k0).long A_hq.1
        refine yG.load xik rfl (fun _ _ => rfl) (v := yI (a6)) rfl rfl ?_
        refine yG.load xik rfl (fun _ _ => rfl) (v := yI (p2)) rfl rfl ?_
        refine yG.icmp rfl (t := 253) rfl ⟨by omega, by omega⟩ ⟨by omega, by omega⟩ (fun c1 => ?_) (fun c1 => ?_)
        · have c1 : (a6 : Int) ≥ p2 := c1
          refine yG.iinc rfl (a := a5) rfl (L' := [(5, yI (a5 + 1)), (0, yR k0), (1, yI (p1)), (2, yI (p2)), (3, yJ (a3)), (6, yI (a6))]) rfl ?_
          refine yG.goto rfl (t := 75) rfl ?_
          exact yG.mono (yG.sub (i_75 (a3) (a5 + 1) (ys hq k0 11) hq A_hq  rfl (by omega) (by omega) (by omega) (by omega) (by omega) (by omega) (by omega) (by omega) (by omega) (by omega) (by omega) (by omega)) (ySub.cons rfl (ySub.cons rfl (ySub.cons rfl (ySub.cons rfl (ySub.cons rfl (ySub.nil))))))) (by omega)
        · have c1 : (a6 : Int) < p2 := c1
          refine yG.load xak rfl (fun _ _ => rfl) (v := yR k0) rfl rfl ?_
          refine yG.load xik rfl (fun _ _ => rfl) (v := yI (a5)) rfl rfl ?_
          refine yG.load xik rfl (fun _ _ => rfl) (v := yI (p1)) rfl rfl ?_
          refine yG.invV (rest := []) A_hq.1 (bOb (d_M W) H_k0) rfl rfl rfl rfl (c_GModel_counts W d A_hq.1 (M_bMm.fr A_hq (by decide)) H_k0 (a5) (p1) (by omega) (by omega) (by omega) (by omega)) (fun rv hp9 q9 => ?_)
          obtain ⟨⟨z2, rfl, l_z2, u_z2, R_z2⟩, e9⟩ := q9
          rw [e9]
          show yG _ _ _ _ _ _ _ _ _ _ (yI z2 :: []) _
          refine yG.ifz rfl (t := 253) rfl ⟨by omega, by omega⟩ (fun c3 => ?_) (fun c3 => ?_)
          · have c3 : (z2 : Int) = 0 := c3
            refine yG.iinc rfl (a := a5) rfl (L' := [(5, yI (a5 + 1)), (0, yR k0), (1, yI (p1)), (2, yI (p2)), (3, yJ (a3)), (6, yI (a6))]) rfl ?_
            refine yG.goto rfl (t := 75) rfl ?_
            exact yG.mono (yG.sub (i_75 (a3) (a5 + 1) (ys hq k0 11) hq A_hq  rfl (by omega) (by omega) (by omega) (by omega) (by omega) (by omega) (by omega) (by omega) (by omega) (by omega) (by omega) (by omega)) (ySub.cons rfl (ySub.cons rfl (ySub.cons rfl (ySub.cons rfl (ySub.cons rfl (ySub.nil))))))) (by omega)
          · have c3 : (z2 : Int) ≠ 0 := c3
            refine yG.load xak rfl (fun _ _ => rfl) (v := yR k0) rfl rfl ?_
            refine yG.getO A_hq.1 (w_M_meterWeight W H_k0) rfl rfl (fun r4 H_r4 O_r4 q_r4 => ?_)
            refine yG.load xik rfl (fun _ _ => rfl) (v := yI (a5)) rfl rfl ?_
            refine yG.iald A_hq.1 (v_M_meterWeight W H_r4) rfl (by omega) (by omega) (fun z5 e_z5 i_z5 l_z5 u_z5 => ?_)
            refine yG.i2l rfl ⟨by omega, by omega⟩ ?_
            refine yG.load xak rfl (fun _ _ => rfl) (v := yR k0) rfl rfl ?_
            refine yG.getO A_hq.1 (w_M_shows W H_k0) rfl rfl (fun r6 H_r6 O_r6 q_r6 => ?_)
            refine yG.num (c := 16) rfl (fun _ _ => rfl) (by decide) ?_
            refine yG.load xik rfl (fun _ _ => rfl) (v := yI (a5)) rfl rfl ?_
            refine yG.imul rfl ?_
            refine yG.load xik rfl (fun _ _ => rfl) (v := yI (a6)) rfl rfl ?_
            refine yG.iadd rfl ?_
            refine yG.lald A_hq.1 (v_M_shows W H_r6) rfl (by omega) (by omega) (fun z7 e_z7 i_z7 l_z7 u_z7 => ?_)
            refine yG.lmul rfl ?_
            obtain ⟨z8, e_z8⟩ : ∃ z : Int, z = z5 * z7 := ⟨_, rfl⟩
            rw [← e_z8]
            have b_z8 : 0 ≤ z8 ∧ z8 ≤ 212600881053 := e_z8 ▸ ymulb (A := 99) (B := 2147483647) (by omega) (by omega) (by omega) (by omega) (by decide)
            have b2_z8 : z8 ≤ 99 * z7 := e_z8 ▸ bmulx (by omega) (by omega)
            have b3_z8 : z8 ≤ 2147483647 * z5 := e_z8 ▸ bmuly (by omega) (by omega)
            refine yG.load xak rfl (fun _ _ => rfl) (v := yR k0) rfl rfl ?_
            refine yG.getJ A_hq.1 (w_M_p W H_k0) rfl rfl (fun z9 e_z9 i_z9 l_z9 u_z9 => ?_)
            rw [show (z9 : Int) = gg0 by omega]
            refine yG.lrem rfl ⟨by omega, by omega⟩ ⟨by omega, by omega⟩ (by omega) (by omega) ?_
            obtain ⟨z10, e_z10⟩ : ∃ z : Int, z = (z8) % (gg0) := ⟨_, rfl⟩
            rw [← e_z10]
            have b_z10 : 0 ≤ z10 ∧ z10 < gg0 := e_z10 ▸ ⟨Int.emod_nonneg _ (by omega), Int.emod_lt_of_pos _ (by omega)⟩
            refine yG.store2 xlk2 (L' := [(7, yJ (z10)), (0, yR k0), (1, yI (p1)), (2, yI (p2)), (3, yJ (a3)), (5, yI (a5)), (6, yI (a6))]) rfl (fun _ _ => rfl) rfl rfl ?_
            refine yG.num (c := 0) rfl (fun _ _ => rfl) (by decide) ?_
            refine yG.store1 xik (L' := [(9, yI (0)), (7, yJ (z10)), (0, yR k0), (1, yI (p1)), (2, yI (p2)), (3, yJ (a3)), (5, yI (a5)), (6, yI (a6))]) rfl (fun _ _ => rfl) rfl rfl ?_
            exact yG.mono (yG.sub (i_135 (a3) (a5) (a6) (z10) (0) (ys hq k0 11) hq A_hq  rfl (by omega) (by omega) (by omega) (by omega) (by omega) (by omega) (by omega) (by omega) (by omega) (by omega) (by omega) (by omega) (by omega) (by omega) (by omega) (by omega) (by omega) (by omega) (by omega) (by omega) (by omega) (by omega)) (ySub.cons rfl (ySub.cons rfl (ySub.cons rfl (ySub.cons rfl (ySub.cons rfl (ySub.cons rfl (ySub.cons rfl (ySub.cons rfl (ySub.nil)))))))))) (by omega)
      · intro a3 a5 a6 a7 a9 gg0 hq A_hq E_0 f0 f1 f2 f3 f4 f5 f6 f7 f8 f9 f10 f11 f12 f13 f14 f15 f16 f17 f18 f19 f20 hm
        refine yG.mono (N := 41 * m + 41) ?_ (by omega)
        obtain ⟨-, -, g_0l, g_0u⟩ := (w_M_p W H_k0).long A_hq.1
        refine yG.load xik rfl (fun _ _ => rfl) (v := yI (a9)) rfl rfl ?_
        refine yG.load xik rfl (fun _ _ => rfl) (v := yI (p2)) rfl rfl ?_
        refine yG.icmp rfl (t := 202) rfl ⟨by omega, by omega⟩ ⟨by omega, by omega⟩ (fun c1 => ?_) (fun c1 => ?_)
        · have c1 : (a9 : Int) ≥ p2 := c1
          exact yG.mono (yG.sub (i_202 (a3) (a5) (a6) (a7) (ys hq k0 11) hq A_hq  rfl (by omega) (by omega) (by omega) (by omega) (by omega) (by omega) (by omega) (by omega) (by omega) (by omega) (by omega) (by omega) (by omega) (by omega) (by omega) (by omega) (by omega) (by omega)) (ySub.cons rfl (ySub.cons rfl (ySub.cons rfl (ySub.cons rfl (ySub.cons rfl (ySub.cons rfl (ySub.cons rfl (ySub.nil))))))))) (by omega)
        · have c1 : (a9 : Int) < p2 := c1
          refine yG.load xlk2 rfl (fun _ _ => rfl) (v := yJ (a7)) rfl rfl ?_
          refine yG.numl (c := 0) rfl (fun _ _ => rfl) (by decide) ?_
          refine yG.lcmp rfl ⟨by omega, by omega⟩ ⟨by omega, by omega⟩ (fun z2 e_z2 => ?_)
          refine yG.ifz rfl (t := 202) rfl ⟨by omega, by omega⟩ (fun c3 => ?_) (fun c3 => ?_)
          · have c3 : (z2 : Int) = 0 := c3
            exact yG.mono (yG.sub (i_202 (a3) (a5) (a6) (a7) (ys hq k0 11) hq A_hq  rfl (by omega) (by omega) (by omega) (by omega) (by omega) (by omega) (by omega) (by omega) (by omega) (by omega) (by omega) (by omega) (by omega) (by omega) (by omega) (by omega) (by omega) (by omega)) (ySub.cons rfl (ySub.cons rfl (ySub.cons rfl (ySub.cons rfl (ySub.cons rfl (ySub.cons rfl (ySub.cons rfl (ySub.nil))))))))) (by omega)
          · have c3 : (z2 : Int) ≠ 0 := c3
            refine yG.load xak rfl (fun _ _ => rfl) (v := yR k0) rfl rfl ?_
            refine yG.getO A_hq.1 (w_M_matrix W H_k0) rfl rfl (fun r4 H_r4 O_r4 q_r4 => ?_)
            refine yG.num (c := 48) rfl (fun _ _ => rfl) (by decide) ?_
            refine yG.load xik rfl (fun _ _ => rfl) (v := yI (a6)) rfl rfl ?_
            refine yG.imul rfl ?_
            refine yG.load xik rfl (fun _ _ => rfl) (v := yI (a9)) rfl rfl ?_
            refine yG.iadd rfl ?_
            refine yG.load xak rfl (fun _ _ => rfl) (v := yR k0) rfl rfl ?_
            refine yG.getS9 A_hq.1 (w_M_matrix W H_k0) q_r4 rfl rfl ?_
            refine yG.num (c := 48) rfl (fun _ _ => rfl) (by decide) ?_
            refine yG.load xik rfl (fun _ _ => rfl) (v := yI (a6)) rfl rfl ?_
            refine yG.imul rfl ?_
            refine yG.load xik rfl (fun _ _ => rfl) (v := yI (a9)) rfl rfl ?_
            refine yG.iadd rfl ?_
            refine yG.lald A_hq.1 (v_M_matrix W H_r4) rfl (by omega) (by omega) (fun z5 e_z5 i_z5 l_z5 u_z5 => ?_)
            refine yG.load xlk2 rfl (fun _ _ => rfl) (v := yJ (a7)) rfl rfl ?_
            refine yG.load xak rfl (fun _ _ => rfl) (v := yR k0) rfl rfl ?_
            refine yG.getO A_hq.1 (w_M_shows W H_k0) rfl rfl (fun r6 H_r6 O_r6 q_r6 => ?_)
            refine yG.num (c := 16) rfl (fun _ _ => rfl) (by decide) ?_
            refine yG.load xik rfl (fun _ _ => rfl) (v := yI (a5)) rfl rfl ?_
            refine yG.imul rfl ?_
            refine yG.load xik rfl (fun _ _ => rfl) (v := yI (a9)) rfl rfl ?_
            refine yG.iadd rfl ?_
            refine yG.lald A_hq.1 (v_M_shows W H_r6) rfl (by omega) (by omega) (fun z7 e_z7 i_z7 l_z7 u_z7 => ?_)
            refine yG.lmul rfl ?_
            obtain ⟨z8, e_z8⟩ : ∃ z : Int, z = a7 * z7 := ⟨_, rfl⟩
            rw [← e_z8]
            have b_z8 : 0 ≤ z8 ∧ z8 ≤ 4611686011984936962 := e_z8 ▸ ymulb (A := 2147483646) (B := 2147483647) (by omega) (by omega) (by omega) (by omega) (by decide)
            have b2_z8 : z8 ≤ 2147483646 * z7 := e_z8 ▸ bmulx (by omega) (by omega)
            have b3_z8 : z8 ≤ 2147483647 * a7 := e_z8 ▸ bmuly (by omega) (by omega)
            refine yG.ladd rfl ?_
            refine yG.load xak rfl (fun _ _ => rfl) (v := yR k0) rfl rfl ?_
            refine yG.getJ A_hq.1 (w_M_p W H_k0) rfl rfl (fun z9 e_z9 i_z9 l_z9 u_z9 => ?_)
            rw [show (z9 : Int) = gg0 by omega]
            refine yG.lrem rfl ⟨by omega, by omega⟩ ⟨by omega, by omega⟩ (by omega) (by omega) ?_
            obtain ⟨z10, e_z10⟩ : ∃ z : Int, z = (z5 + z8) % (gg0) := ⟨_, rfl⟩
            rw [← e_z10]
            have b_z10 : 0 ≤ z10 ∧ z10 < gg0 := e_z10 ▸ ⟨Int.emod_nonneg _ (by omega), Int.emod_lt_of_pos _ (by omega)⟩
            refine yG.last A_hq.1 (v_M_matrix W H_r4) (W.2.1 _ _ H_r4 (by decide) (by decide)) rfl (by omega) (by omega) ⟨by omega, by omega⟩ (by omega) (by omega) (fun h11 T_h11 b_h11 f_h11 y_h11 => ?_)
            have A_h11 := A_hq.put T_h11 b_h11 f_h11 H_r4 (bAll_ok (by decide) _)
            have : ys h11 k0 11 = ys hq k0 11 := (y_h11 k0 11).trans (if_neg (fun e => (bRo.ne H_k0 H_r4 (by decide)) e.1))
            have qq1 : zsl h11 k0 12 = yR r4 := ((f_h11 k0 12).trans (if_neg (fun e => (bRo.ne H_k0 H_r4 (by decide)) e.1))).trans q_r4
            refine yG.iinc rfl (a := a9) rfl (L' := [(9, yI (a9 + 1)), (0, yR k0), (1, yI (p1)), (2, yI (p2)), (3, yJ (a3)), (5, yI (a5)), (6, yI (a6)), (7, yJ (a7))]) rfl ?_
            refine yG.goto rfl (t := 135) rfl ?_
            exact yG.mono (yG.sub (i_135 (a3) (a5) (a6) (a7) (a9 + 1) (ys h11 k0 11) h11 A_h11  rfl (by omega) (by omega) (by omega) (by omega) (by omega) (by omega) (by omega) (by omega) (by omega) (by omega) (by omega) (by omega) (by omega) (by omega) (by omega) (by omega) (by omega) (by omega) (by omega) (by omega) (by omega) (by omega)) (ySub.cons rfl (ySub.cons rfl (ySub.cons rfl (ySub.cons rfl (ySub.cons rfl (ySub.cons rfl (ySub.cons rfl (ySub.cons rfl (ySub.nil)))))))))) (by omega)
      · intro a3 a5 a6 a7 gg0 hq A_hq E_0 f0 f1 f2 f3 f4 f5 f6 f7 f8 f9 f10 f11 f12 f13 f14 f15 f16 hm
        refine yG.mono (N := 41 * m + 41) ?_ (by omega)
        obtain ⟨-, -, g_0l, g_0u⟩ := (w_M_p W H_k0).long A_hq.1
        refine yG.load xak rfl (fun _ _ => rfl) (v := yR k0) rfl rfl ?_
        refine yG.getO A_hq.1 (w_M_matrix W H_k0) rfl rfl (fun r1 H_r1 O_r1 q_r1 => ?_)
        refine yG.num (c := 48) rfl (fun _ _ => rfl) (by decide) ?_
        refine yG.load xik rfl (fun _ _ => rfl) (v := yI (a6)) rfl rfl ?_
        refine yG.imul rfl ?_
        refine yG.load xik rfl (fun _ _ => rfl) (v := yI (p2)) rfl rfl ?_
        refine yG.iadd rfl ?_
        refine yG.load xak rfl (fun _ _ => rfl) (v := yR k0) rfl rfl ?_
        refine yG.getS9 A_hq.1 (w_M_matrix W H_k0) q_r1 rfl rfl ?_
        refine yG.num (c := 48) rfl (fun _ _ => rfl) (by decide) ?_
        refine yG.load xik rfl (fun _ _ => rfl) (v := yI (a6)) rfl rfl ?_
        refine yG.imul rfl ?_
        refine yG.load xik rfl (fun _ _ => rfl) (v := yI (p2)) rfl rfl ?_
        refine yG.iadd rfl ?_
        refine yG.lald A_hq.1 (v_M_matrix W H_r1) rfl (by omega) (by omega) (fun z2 e_z2 i_z2 l_z2 u_z2 => ?_)
        refine yG.load xlk2 rfl (fun _ _ => rfl) (v := yJ (a7)) rfl rfl ?_
        refine yG.load xak rfl (fun _ _ => rfl) (v := yR k0) rfl rfl ?_
        refine yG.load xak rfl (fun _ _ => rfl) (v := yR k0) rfl rfl ?_
        refine yG.getO A_hq.1 (w_M_meterValue W H_k0) rfl rfl (fun r3 H_r3 O_r3 q_r3 => ?_)
        refine yG.load xik rfl (fun _ _ => rfl) (v := yI (a5)) rfl rfl ?_
        refine yG.iald A_hq.1 (v_M_meterValue W H_r3) rfl (by omega) (by omega) (fun z4 e_z4 i_z4 l_z4 u_z4 => ?_)
        refine yG.i2l rfl ⟨by omega, by omega⟩ ?_
        refine yG.invV (rest := [yJ (a7), yJ (z2), yI ((48 * a6) + p2), yR r1]) A_hq.1 (bOb (d_M W) H_k0) rfl rfl rfl rfl (c_GModel_mod W (d + 4) A_hq.1 H_k0 (z4) (by omega) (by omega) (by omega) (by omega)) (fun rv hp9 q9 => ?_)
        obtain ⟨⟨z5, rfl, l_z5, u_z5, R_z5⟩, e9⟩ := q9
        rw [e9]
        show yG _ _ _ _ _ _ _ _ _ _ (yJ z5 :: [yJ (a7), yJ (z2), yI ((48 * a6) + p2), yR r1]) _
        refine yG.lmul rfl ?_
        obtain ⟨z6, e_z6⟩ : ∃ z : Int, z = a7 * z5 := ⟨_, rfl⟩
        rw [← e_z6]
        have b_z6 : 0 ≤ z6 ∧ z6 ≤ 4611686009837453316 := e_z6 ▸ ymulb (A := 2147483646) (B := 2147483646) (by omega) (by omega) (by omega) (by omega) (by decide)
        have b2_z6 : z6 ≤ 2147483646 * z5 := e_z6 ▸ bmulx (by omega) (by omega)
        have b3_z6 : z6 ≤ 2147483646 * a7 := e_z6 ▸ bmuly (by omega) (by omega)
        refine yG.ladd rfl ?_
        refine yG.load xak rfl (fun _ _ => rfl) (v := yR k0) rfl rfl ?_
        refine yG.getJ A_hq.1 (w_M_p W H_k0) rfl rfl (fun z7 e_z7 i_z7 l_z7 u_z7 => ?_)
        rw [show (z7 : Int) = gg0 by omega]
        refine yG.lrem rfl ⟨by omega, by omega⟩ ⟨by omega, by omega⟩ (by omega) (by omega) ?_
        obtain ⟨z8, e_z8⟩ : ∃ z : Int, z = (z2 + z6) % (gg0) := ⟨_, rfl⟩
        rw [← e_z8]
        have b_z8 : 0 ≤ z8 ∧ z8 < gg0 := e_z8 ▸ ⟨Int.emod_nonneg _ (by omega), Int.emod_lt_of_pos _ (by omega)⟩
        refine yG.last A_hq.1 (v_M_matrix W H_r1) (W.2.1 _ _ H_r1 (by decide) (by decide)) rfl (by omega) (by omega) ⟨by omega, by omega⟩ (by omega) (by omega) (fun h9 T_h9 b_h9 f_h9 y_h9 => ?_)
        have A_h9 := A_hq.put T_h9 b_h9 f_h9 H_r1 (bAll_ok (by decide) _)
        have : ys h9 k0 11 = ys hq k0 11 := (y_h9 k0 11).trans (if_neg (fun e => (bRo.ne H_k0 H_r1 (by decide)) e.1))
        have qq1 : zsl h9 k0 12 = yR r1 := ((f_h9 k0 12).trans (if_neg (fun e => (bRo.ne H_k0 H_r1 (by decide)) e.1))).trans q_r1
        refine yG.iinc rfl (a := a6) rfl (L' := [(6, yI (a6 + 1)), (0, yR k0), (1, yI (p1)), (2, yI (p2)), (3, yJ (a3)), (5, yI (a5)), (7, yJ (a7))]) rfl ?_
        refine yG.goto rfl (t := 87) rfl ?_
        exact yG.mono (yG.sub (i_87 (a3) (a5) (a6 + 1) (ys h9 k0 11) h9 A_h9  rfl (by omega) (by omega) (by omega) (by omega) (by omega) (by omega) (by omega) (by omega) (by omega) (by omega) (by omega) (by omega) (by omega) (by omega) (by omega)) (ySub.cons rfl (ySub.cons rfl (ySub.cons rfl (ySub.cons rfl (ySub.cons rfl (ySub.cons rfl (ySub.nil)))))))) (by omega)
      · intro a3 a5 gg0 hq A_hq E_0 f0 f1 f2 f3 f4 f5 f6 f7 f8 f9 f10 f11 hm
        refine yG.mono (N := 41 * m + 41) ?_ (by omega)
        obtain ⟨-, -, g_0l, g_0u⟩ := (w_M_p W H_k0).long A_hq.1
        refine yG.load xik rfl (fun _ _ => rfl) (v := yI (a5)) rfl rfl ?_
        refine yG.load xik rfl (fun _ _ => rfl) (v := yI (p2)) rfl rfl ?_
        refine yG.icmp rfl (t := 292) rfl ⟨by omega, by omega⟩ ⟨by omega, by omega⟩ (fun c1 => ?_) (fun c1 => ?_)
        · have c1 : (a5 : Int) ≥ p2 := c1
          refine yG.load xlk2 rfl (fun _ _ => rfl) (v := yJ (a3)) rfl rfl ?_
          refine yG.ret rfl (fun _ _ => rfl) ?_
          exact (yP.long ⟨by omega, by omega⟩ ⟨⟨a3, rfl, by omega, by omega, trivial⟩, A_hq⟩)
        · have c1 : (a5 : Int) < p2 := c1
          refine yG.load xak rfl (fun _ _ => rfl) (v := yR k0) rfl rfl ?_
          refine yG.getO A_hq.1 (w_M_matrix W H_k0) rfl rfl (fun r2 H_r2 O_r2 q_r2 => ?_)
          refine yG.num (c := 48) rfl (fun _ _ => rfl) (by decide) ?_
          refine yG.load xik rfl (fun _ _ => rfl) (v := yI (a5)) rfl rfl ?_
          refine yG.imul rfl ?_
          refine yG.load xik rfl (fun _ _ => rfl) (v := yI (p2)) rfl rfl ?_
          refine yG.iadd rfl ?_
          refine yG.num (c := 1) rfl (fun _ _ => rfl) (by decide) ?_
          refine yG.iadd rfl ?_
          refine yG.load xik rfl (fun _ _ => rfl) (v := yI (a5)) rfl rfl ?_
          refine yG.iadd rfl ?_
          refine yG.numl (c := 1) rfl (fun _ _ => rfl) (by decide) ?_
          refine yG.last A_hq.1 (v_M_matrix W H_r2) (W.2.1 _ _ H_r2 (by decide) (by decide)) rfl (by omega) (by omega) ⟨by omega, by omega⟩ (by omega) (by omega) (fun h3 T_h3 b_h3 f_h3 y_h3 => ?_)
          have A_h3 := A_hq.put T_h3 b_h3 f_h3 H_r2 (bAll_ok (by decide) _)
          have : ys h3 k0 11 = ys hq k0 11 := (y_h3 k0 11).trans (if_neg (fun e => (bRo.ne H_k0 H_r2 (by decide)) e.1))
          refine yG.iinc rfl (a := a5) rfl (L' := [(5, yI (a5 + 1)), (0, yR k0), (2, yI (p2)), (3, yJ (a3))]) rfl ?_
          refine yG.goto rfl (t := 262) rfl ?_
          exact yG.mono (yG.sub (i_262 (a3) (a5 + 1) (ys h3 k0 11) h3 A_h3  rfl (by omega) (by omega) (by omega) (by omega) (by omega) (by omega) (by omega) (by omega) (by omega) (by omega) (by omega) (by omega) (by omega)) (ySub.cons rfl (ySub.cons rfl (ySub.cons rfl (ySub.cons rfl (ySub.nil)))))) (by omega)
  refine yC.of (M := (xt_X13_equations, (10, (2, (14, []))))) rfl rfl (N := 22305148) (yfuel (by decide)) ?_
  show yG 89 xfts (xcall 89 xfts xpools xms (d + 5)) (xpool xp_RX13) [] xt_X13_equations (yP 2 (bQj G [(85070591730234615865843651857942052864, 256)] hp 0 2147483646 (fun _ => True))) 22305148 0 [(0, yR k0), (1, yI (p1)), (2, yI (p2))] [] hp
  obtain ⟨i_5, i_75, i_87, i_135, i_202, i_262⟩ := H 544027
  obtain ⟨gg0, E_0⟩ : ∃ z : Int, ys hp k0 11 = z := ⟨_, rfl⟩
  obtain ⟨-, -, g_0l, g_0u⟩ := (w_M_p W H_k0).long hT
  refine yG.numl (c := 1) rfl (fun _ _ => rfl) (by decide) ?_
  refine yG.store2 xlk2 (L' := [(3, yJ (1)), (0, yR k0), (1, yI (p1)), (2, yI (p2))]) rfl (fun _ _ => rfl) rfl rfl ?_
  refine yG.num (c := 0) rfl (fun _ _ => rfl) (by decide) ?_
  refine yG.store1 xik (L' := [(5, yI (0)), (3, yJ (1)), (0, yR k0), (1, yI (p1)), (2, yI (p2))]) rfl (fun _ _ => rfl) rfl rfl ?_
  exact yG.mono (yG.sub (i_5 (1) (0) (ys hp k0 11) hp A_hp  rfl (by omega) (by omega) (by omega) (by omega) (by omega) (by omega) (by omega) (by omega) (by omega) (by omega) (by omega) (by omega) (by omega)) (ySub.cons rfl (ySub.cons rfl (ySub.cons rfl (ySub.cons rfl (ySub.cons rfl (ySub.nil))))))) (by omega)
theorem c_GModel_tellEstimate {hp : xH} (W : mW G) (d : Nat) (hT : zTy G hp) (M_bMm : bMm G hp) {k0 : Nat} (H_k0 : bRo G 116 k0) (p1 p2 p3 : Int) (h1l : 0 ≤ p1) (h1u : p1 ≤ 15) (h2l : 0 ≤ p2) (h2u : p2 ≤ 15) (h3l : 0 ≤ p3) (h3u : p3 ≤ 2147483646) (q0l : 1 ≤ ys hp k0 11) (q0u : ys hp k0 11 ≤ 2147483647) (q1l : 0 ≤ ys hp k0 10) (q1u : ys hp k0 10 ≤ 39) : yC (xcall 89 xfts xpools xms (d + 5)) 528 [yR k0, yI (p1), yI (p2), yJ (p3)] hp (fun rv hp' => (rv = none ∧ True) ∧ bAx G [(21267647932558653966460912964485513216, 256)] hp hp') := by
  have A_hp : bAx G [(21267647932558653966460912964485513216, 256)] hp hp := bAx.rf hT
  have H : ∀ m : Nat, (∀ a5 : Int, ∀ gg0 : Int, ∀ gg1 : Int, ∀ hq, bAx G [(21267647932558653966460912964485513216, 256)] hp hq → ys hq k0 11 = gg0 → ys hq k0 10 = gg1 → 0 ≤ a5 → (-15) ≤ 0 - a5 → 1 ≤ gg0 → (-2147483647) ≤ 0 - gg0 → 0 ≤ gg1 → (-39) ≤ 0 - gg1 → 0 ≤ p1 → (-15) ≤ 0 - p1 → 0 ≤ p2 → (-15) ≤ 0 - p2 → 0 ≤ p3 → (-2147483646) ≤ 0 - p3 → 0 ≤ 0 - a5 + p2 → 0 - 17458 * a5 + 279327 < (m : Int) → yG 89 xfts (xcall 89 xfts xpools xms (d + 4)) (xpool xp_RX13) [] xt_X13_tellEstimate (yP 0 (fun rv hp' => (rv = none ∧ True) ∧ bAx G [(21267647932558653966460912964485513216, 256)] hp hp')) (50 * m) 9 [(0, yR k0), (1, yI (p1)), (2, yI (p2)), (3, yJ (p3)), (5, yI (a5))] [] hq) ∧ (∀ a5 : Int, ∀ gg0 : Int, ∀ gg1 : Int, ∀ hq, bAx G [(21267647932558653966460912964485513216, 256)] hp hq → ys hq k0 11 = gg0 → ys hq k0 10 = gg1 → 0 ≤ a5 → (-32) ≤ 0 - a5 → 1 ≤ gg0 → (-2147483647) ≤ 0 - gg0 → 0 ≤ gg1 → (-39) ≤ 0 - gg1 → 0 ≤ p1 → (-15) ≤ 0 - p1 → 0 ≤ p2 → (-15) ≤ 0 - p2 → 0 ≤ p3 → (-2147483646) ≤ 0 - p3 → 0 - 529 * a5 + 17456 < (m : Int) → yG 89 xfts (xcall 89 xfts xpools xms (d + 4)) (xpool xp_RX13) [] xt_X13_tellEstimate (yP 0 (fun rv hp' => (rv = none ∧ True) ∧ bAx G [(21267647932558653966460912964485513216, 256)] hp hp')) (50 * m) 51 [(0, yR k0), (1, yI (p1)), (2, yI (p2)), (3, yJ (p3)), (5, yI (a5))] [] hq) ∧ (∀ a5 : Int, ∀ a6 : Int, ∀ a8 : Int, ∀ a10 : Int, ∀ gg0 : Int, ∀ gg1 : Int, ∀ hq, bAx G [(21267647932558653966460912964485513216, 256)] hp hq → ys hq k0 11 = gg0 → ys hq k0 10 = gg1 → 0 ≤ a5 → (-31) ≤ 0 - a5 → 0 ≤ a6 → (-2147483646) ≤ 0 - a6 → 0 ≤ a8 → (-2147483646) ≤ 0 - a8 → 0 ≤ a10 → (-15) ≤ 0 - a10 → 1 ≤ gg0 → (-2147483647) ≤ 0 - gg0 → 0 ≤ gg1 → (-39) ≤ 0 - gg1 → 0 ≤ p1 → (-15) ≤ 0 - p1 → 0 ≤ p2 → (-15) ≤ 0 - p2 → 0 ≤ p3 → (-2147483646) ≤ 0 - p3 → (-2147483645) ≤ a10 - a6 → (-2147483645) ≤ a10 - a8 → 1 ≤ 0 - a6 + gg0 → 1 ≤ 0 - a8 + gg0 → 0 ≤ 0 - a10 + p2 → 0 - 33 * a10 - 529 * a5 + 17455 < (m : Int) → yG 89 xfts (xcall 89 xfts xpools xms (d + 4)) (xpool xp_RX13) [] xt_X13_tellEstimate (yP 0 (fun rv hp' => (rv = none ∧ True) ∧ bAx G [(21267647932558653966460912964485513216, 256)] hp hp')) (50 * m) 82 [(0, yR k0), (1, yI (p1)), (2, yI (p2)), (3, yJ (p3)), (5, yI (a5)), (6, yJ (a6)), (8, yJ (a8)), (10, yI (a10))] [] hq) ∧ (∀ a5 : Int, ∀ a6 : Int, ∀ a8 : Int, ∀ a10 : Int, ∀ a11 : Int, ∀ a13 : Int, ∀ gg0 : Int, ∀ gg1 : Int, ∀ hq, bAx G [(21267647932558653966460912964485513216, 256)] hp hq → ys hq k0 11 = gg0 → ys hq k0 10 = gg1 → 0 ≤ a5 → (-31) ≤ 0 - a5 → 0 ≤ a6 → (-2147483646) ≤ 0 - a6 → 0 ≤ a8 → (-2147483646) ≤ 0 - a8 → 0 ≤ a10 → (-14) ≤ 0 - a10 → 0 ≤ a11 → (-2147483646) ≤ 0 - a11 → 0 ≤ a13 → (-15) ≤ 0 - a13 → 1 ≤ gg0 → (-2147483647) ≤ 0 - gg0 → 0 ≤ gg1 → (-39) ≤ 0 - gg1 → 0 ≤ p1 → (-15) ≤ 0 - p1 → 1 ≤ p2 → (-15) ≤ 0 - p2 → 0 ≤ p3 → (-2147483646) ≤ 0 - p3 → (-2147483645) ≤ 0 - a11 + a13 → 1 ≤ 0 - a6 + gg0 → 1 ≤ 0 - a8 + gg0 → 1 ≤ 0 - a11 + gg0 → 1 ≤ 0 - a10 + p2 → 0 ≤ 0 - a13 + p2 → 0 - 33 * a10 - 2 * a13 - 529 * a5 + 17454 < (m : Int) → yG 89 xfts (xcall 89 xfts xpools xms (d + 4)) (xpool xp_RX13) [] xt_X13_tellEstimate (yP 0 (fun rv hp' => (rv = none ∧ True) ∧ bAx G [(21267647932558653966460912964485513216, 256)] hp hp')) (50 * m) 130 [(0, yR k0), (1, yI (p1)), (2, yI (p2)), (3, yJ (p3)), (5, yI (a5)), (6, yJ (a6)), (8, yJ (a8)), (10, yI (a10)), (11, yJ (a11)), (13, yI (a13))] [] hq) := by
    intro m
    induction m with
    | zero =>
      refine ⟨?_, ?_, ?_, ?_⟩ <;> (intros; exfalso; omega)
    | succ m ih =>
      obtain ⟨i_9, i_51, i_82, i_130⟩ := ih
      refine ⟨?_, ?_, ?_, ?_⟩
      · intro a5 gg0 gg1 hq A_hq E_0 E_1 f0 f1 f2 f3 f4 f5 f6 f7 f8 f9 f10 f11 f12 hm
        refine yG.mono (N := 50 * m + 50) ?_ (by omega)
        obtain ⟨-, -, g_0l, g_0u⟩ := (w_M_p W H_k0).long A_hq.1
        obtain ⟨-, -, g_1l, g_1u⟩ := (w_M_usedCount W H_k0).int A_hq.1
        refine yG.load xik rfl (fun _ _ => rfl) (v := yI (a5)) rfl rfl ?_
        refine yG.load xik rfl (fun _ _ => rfl) (v := yI (p2)) rfl rfl ?_
        refine yG.icmp rfl (t := 48) rfl ⟨by omega, by omega⟩ ⟨by omega, by omega⟩ (fun c1 => ?_) (fun c1 => ?_)
        · have c1 : (a5 : Int) ≥ p2 := c1
          refine yG.num (c := 0) rfl (fun _ _ => rfl) (by decide) ?_
          refine yG.store1 xik (L' := [(5, yI (0)), (0, yR k0), (1, yI (p1)), (2, yI (p2)), (3, yJ (p3))]) rfl (fun _ _ => rfl) rfl rfl ?_
          exact yG.mono (yG.sub (i_51 (0) (ys hq k0 11) (ys hq k0 10) hq A_hq  rfl rfl (by omega) (by omega) (by omega) (by omega) (by omega) (by omega) (by omega) (by omega) (by omega) (by omega) (by omega) (by omega) (by omega)) (ySub.cons rfl (ySub.cons rfl (ySub.cons rfl (ySub.cons rfl (ySub.cons rfl (ySub.nil))))))) (by omega)
        · have c1 : (a5 : Int) < p2 := c1
          refine yG.load xak rfl (fun _ _ => rfl) (v := yR k0) rfl rfl ?_
          refine yG.num (c := 1) rfl (fun _ _ => rfl) (by decide) ?_
          refine yG.load xik rfl (fun _ _ => rfl) (v := yI (a5)) rfl rfl ?_
          refine yG.iadd rfl ?_
          refine yG.load xak rfl (fun _ _ => rfl) (v := yR k0) rfl rfl ?_
          refine yG.getO A_hq.1 (w_M_matrix W H_k0) rfl rfl (fun r2 H_r2 O_r2 q_r2 => ?_)
          refine yG.num (c := 48) rfl (fun _ _ => rfl) (by decide) ?_
          refine yG.load xik rfl (fun _ _ => rfl) (v := yI (a5)) rfl rfl ?_
          refine yG.imul rfl ?_
          refine yG.load xik rfl (fun _ _ => rfl) (v := yI (p2)) rfl rfl ?_
          refine yG.iadd rfl ?_
          refine yG.lald A_hq.1 (v_M_matrix W H_r2) rfl (by omega) (by omega) (fun z3 e_z3 i_z3 l_z3 u_z3 => ?_)
          refine yG.load xlk2 rfl (fun _ _ => rfl) (v := yJ (p3)) rfl rfl ?_
          refine yG.lmul rfl ?_
          obtain ⟨z4, e_z4⟩ : ∃ z : Int, z = z3 * p3 := ⟨_, rfl⟩
          rw [← e_z4]
          have b_z4 : 0 ≤ z4 ∧ z4 ≤ 4611686011984936962 := e_z4 ▸ ymulb (A := 2147483647) (B := 2147483646) (by omega) (by omega) (by omega) (by omega) (by decide)
          have b2_z4 : z4 ≤ 2147483647 * p3 := e_z4 ▸ bmulx (by omega) (by omega)
          have b3_z4 : z4 ≤ 2147483646 * z3 := e_z4 ▸ bmuly (by omega) (by omega)
          refine yG.load xak rfl (fun _ _ => rfl) (v := yR k0) rfl rfl ?_
          refine yG.getJ A_hq.1 (w_M_p W H_k0) rfl rfl (fun z5 e_z5 i_z5 l_z5 u_z5 => ?_)
          rw [show (z5 : Int) = gg0 by omega]
          refine yG.lrem rfl ⟨by omega, by omega⟩ ⟨by omega, by omega⟩ (by omega) (by omega) ?_
          obtain ⟨z6, e_z6⟩ : ∃ z : Int, z = (z4) % (gg0) := ⟨_, rfl⟩
          rw [← e_z6]
          have b_z6 : 0 ≤ z6 ∧ z6 < gg0 := e_z6 ▸ ⟨Int.emod_nonneg _ (by omega), Int.emod_lt_of_pos _ (by omega)⟩
          refine yG.invV (rest := []) A_hq.1 (bOb (d_M W) H_k0) rfl rfl rfl rfl (c_GModel_tell W (d + 3) A_hq.1 H_k0 (1 + a5) (z6) (by omega) (by omega) (by omega) (by omega) (by omega) (by omega)) (fun rv h7 q9 => ?_)
          obtain ⟨⟨rfl, R_z8⟩, B_h7⟩ := q9
          have A_h7 := A_hq.tr B_h7 (by decide)
          have : ys h7 k0 11 = ys hq k0 11 := B_h7.ys H_k0 (by decide)
          have : ys h7 k0 10 = ys hq k0 10 := B_h7.ys H_k0 (by decide)
          show yG _ _ _ _ _ _ _ _ _ _ [] _
          refine yG.iinc rfl (a := a5) rfl (L' := [(5, yI (a5 + 1)), (0, yR k0), (1, yI (p1)), (2, yI (p2)), (3, yJ (p3))]) rfl ?_
          refine yG.goto rfl (t := 9) rfl ?_
          exact yG.mono (yG.sub (i_9 (a5 + 1) (ys h7 k0 11) (ys h7 k0 10) h7 A_h7  rfl rfl (by omega) (by omega) (by omega) (by omega) (by omega) (by omega) (by omega) (by omega) (by omega) (by omega) (by omega) (by omega) (by omega) (by omega)) (ySub.cons rfl (ySub.cons rfl (ySub.cons rfl (ySub.cons rfl (ySub.cons rfl (ySub.nil))))))) (by omega)
      · intro a5 gg0 gg1 hq A_hq E_0 E_1 f0 f1 f2 f3 f4 f5 f6 f7 f8 f9 f10 f11 hm
        refine yG.mono (N := 50 * m + 50) ?_ (by omega)
        obtain ⟨-, -, g_0l, g_0u⟩ := (w_M_p W H_k0).long A_hq.1
        obtain ⟨-, -, g_1l, g_1u⟩ := (w_M_usedCount W H_k0).int A_hq.1
        refine yG.load xik rfl (fun _ _ => rfl) (v := yI (a5)) rfl rfl ?_
        refine yG.load xak rfl (fun _ _ => rfl) (v := yR k0) rfl rfl ?_
        refine yG.getI A_hq.1 (w_M_meters W H_k0) rfl rfl (fun z1 e_z1 i_z1 l_z1 u_z1 => ?_)
        refine yG.icmp rfl (t := 290) rfl ⟨by omega, by omega⟩ ⟨by omega, by omega⟩ (fun c2 => ?_) (fun c2 => ?_)
        · have c2 : (a5 : Int) ≥ z1 := c2
          refine yG.ret rfl (fun _ _ => rfl) ?_
          exact (yP.void ⟨⟨rfl, trivial⟩, A_hq⟩)
        · have c2 : (a5 : Int) < z1 := c2
          refine yG.load xak rfl (fun _ _ => rfl) (v := yR k0) rfl rfl ?_
          refine yG.load xik rfl (fun _ _ => rfl) (v := yI (a5)) rfl rfl ?_
          refine yG.invV (rest := []) A_hq.1 (bOb (d_M W) H_k0) rfl rfl rfl rfl (c_GModel_islandOfMeter W d A_hq.1 (M_bMm.fr A_hq (by decide)) H_k0 (a5) (by omega) (by omega)) (fun rv hp9 q9 => ?_)
          obtain ⟨⟨z3, rfl, l_z3, u_z3, R_z3⟩, e9⟩ := q9
          rw [e9]
          show yG _ _ _ _ _ _ _ _ _ _ (yI z3 :: []) _
          refine yG.load xik rfl (fun _ _ => rfl) (v := yI (p1)) rfl rfl ?_
          refine yG.icmp rfl (t := 73) rfl ⟨by omega, by omega⟩ ⟨by omega, by omega⟩ (fun c4 => ?_) (fun c4 => ?_)
          · have c4 : (z3 : Int) = p1 := c4
            refine yG.numl (c := 0) rfl (fun _ _ => rfl) (by decide) ?_
            refine yG.store2 xlk2 (L' := [(6, yJ (0)), (0, yR k0), (1, yI (p1)), (2, yI (p2)), (3, yJ (p3)), (5, yI (a5))]) rfl (fun _ _ => rfl) rfl rfl ?_
            refine yG.numl (c := 0) rfl (fun _ _ => rfl) (by decide) ?_
            refine yG.store2 xlk2 (L' := [(8, yJ (0)), (6, yJ (0)), (0, yR k0), (1, yI (p1)), (2, yI (p2)), (3, yJ (p3)), (5, yI (a5))]) rfl (fun _ _ => rfl) rfl rfl ?_
            refine yG.num (c := 0) rfl (fun _ _ => rfl) (by decide) ?_
            refine yG.store1 xik (L' := [(10, yI (0)), (8, yJ (0)), (6, yJ (0)), (0, yR k0), (1, yI (p1)), (2, yI (p2)), (3, yJ (p3)), (5, yI (a5))]) rfl (fun _ _ => rfl) rfl rfl ?_
            exact yG.mono (yG.sub (i_82 (a5) (0) (0) (0) (ys hq k0 11) (ys hq k0 10) hq A_hq  rfl rfl (by omega) (by omega) (by omega) (by omega) (by omega) (by omega) (by omega) (by omega) (by omega) (by omega) (by omega) (by omega) (by omega) (by omega) (by omega) (by omega) (by omega) (by omega) (by omega) (by omega) (by omega) (by omega) (by omega) (by omega)) (ySub.cons rfl (ySub.cons rfl (ySub.cons rfl (ySub.cons rfl (ySub.cons rfl (ySub.cons rfl (ySub.cons rfl (ySub.cons rfl (ySub.nil)))))))))) (by omega)
          · have c4 : (z3 : Int) ≠ p1 := c4
            refine yG.goto rfl (t := 284) rfl ?_
            refine yG.iinc rfl (a := a5) rfl (L' := [(5, yI (a5 + 1)), (0, yR k0), (1, yI (p1)), (2, yI (p2)), (3, yJ (p3))]) rfl ?_
            refine yG.goto rfl (t := 51) rfl ?_
            exact yG.mono (yG.sub (i_51 (a5 + 1) (ys hq k0 11) (ys hq k0 10) hq A_hq  rfl rfl (by omega) (by omega) (by omega) (by omega) (by omega) (by omega) (by omega) (by omega) (by omega) (by omega) (by omega) (by omega) (by omega)) (ySub.cons rfl (ySub.cons rfl (ySub.cons rfl (ySub.cons rfl (ySub.cons rfl (ySub.nil))))))) (by omega)
      · intro a5 a6 a8 a10 gg0 gg1 hq A_hq E_0 E_1 f0 f1 f2 f3 f4 f5 f6 f7 f8 f9 f10 f11 f12 f13 f14 f15 f16 f17 f18 f19 f20 f21 f22 hm
        refine yG.mono (N := 50 * m + 50) ?_ (by omega)
        obtain ⟨-, -, g_0l, g_0u⟩ := (w_M_p W H_k0).long A_hq.1
        obtain ⟨-, -, g_1l, g_1u⟩ := (w_M_usedCount W H_k0).int A_hq.1
        refine yG.load xik rfl (fun _ _ => rfl) (v := yI (a10)) rfl rfl ?_
        refine yG.load xik rfl (fun _ _ => rfl) (v := yI (p2)) rfl rfl ?_
        refine yG.icmp rfl (t := 215) rfl ⟨by omega, by omega⟩ ⟨by omega, by omega⟩ (fun c1 => ?_) (fun c1 => ?_)
        · have c1 : (a10 : Int) ≥ p2 := c1
          refine yG.load xak rfl (fun _ _ => rfl) (v := yR k0) rfl rfl ?_
          refine yG.num (c := 20) rfl (fun _ _ => rfl) (by decide) ?_
          refine yG.load xik rfl (fun _ _ => rfl) (v := yI (a5)) rfl rfl ?_
          refine yG.iadd rfl ?_
          refine yG.load xak rfl (fun _ _ => rfl) (v := yR k0) rfl rfl ?_
          refine yG.load xak rfl (fun _ _ => rfl) (v := yR k0) rfl rfl ?_
          refine yG.getO A_hq.1 (w_M_meterValue W H_k0) rfl rfl (fun r2 H_r2 O_r2 q_r2 => ?_)
          refine yG.load xik rfl (fun _ _ => rfl) (v := yI (a5)) rfl rfl ?_
          refine yG.iald A_hq.1 (v_M_meterValue W H_r2) rfl (by omega) (by omega) (fun z3 e_z3 i_z3 l_z3 u_z3 => ?_)
          refine yG.i2l rfl ⟨by omega, by omega⟩ ?_
          refine yG.load xlk2 rfl (fun _ _ => rfl) (v := yJ (a6)) rfl rfl ?_
          refine yG.lsub rfl ?_
          refine yG.invV (rest := [yI (20 + a5), yR k0]) A_hq.1 (bOb (d_M W) H_k0) rfl rfl rfl rfl (c_GModel_mod W (d + 3) A_hq.1 H_k0 (z3 - a6) (by omega) (by omega) (by omega) (by omega)) (fun rv hp9 q9 => ?_)
          obtain ⟨⟨z4, rfl, l_z4, u_z4, R_z4⟩, e9⟩ := q9
          rw [e9]
          show yG _ _ _ _ _ _ _ _ _ _ (yJ z4 :: [yI (20 + a5), yR k0]) _
          refine yG.load xlk2 rfl (fun _ _ => rfl) (v := yJ (p3)) rfl rfl ?_
          refine yG.lmul rfl ?_
          obtain ⟨z5, e_z5⟩ : ∃ z : Int, z = z4 * p3 := ⟨_, rfl⟩
          rw [← e_z5]
          have b_z5 : 0 ≤ z5 ∧ z5 ≤ 4611686009837453316 := e_z5 ▸ ymulb (A := 2147483646) (B := 2147483646) (by omega) (by omega) (by omega) (by omega) (by decide)
          have b2_z5 : z5 ≤ 2147483646 * p3 := e_z5 ▸ bmulx (by omega) (by omega)
          have b3_z5 : z5 ≤ 2147483646 * z4 := e_z5 ▸ bmuly (by omega) (by omega)
          refine yG.load xak rfl (fun _ _ => rfl) (v := yR k0) rfl rfl ?_
          refine yG.getJ A_hq.1 (w_M_p W H_k0) rfl rfl (fun z6 e_z6 i_z6 l_z6 u_z6 => ?_)
          rw [show (z6 : Int) = gg0 by omega]
          refine yG.lrem rfl ⟨by omega, by omega⟩ ⟨by omega, by omega⟩ (by omega) (by omega) ?_
          obtain ⟨z7, e_z7⟩ : ∃ z : Int, z = (z5) % (gg0) := ⟨_, rfl⟩
          rw [← e_z7]
          have b_z7 : 0 ≤ z7 ∧ z7 < gg0 := e_z7 ▸ ⟨Int.emod_nonneg _ (by omega), Int.emod_lt_of_pos _ (by omega)⟩
          refine yG.invV (rest := []) A_hq.1 (bOb (d_M W) H_k0) rfl rfl rfl rfl (c_GModel_tell W (d + 3) A_hq.1 H_k0 (20 + a5) (z7) (by omega) (by omega) (by omega) (by omega) (by omega) (by omega)) (fun rv h8 q9 => ?_)
          obtain ⟨⟨rfl, R_z9⟩, B_h8⟩ := q9
          have A_h8 := A_hq.tr B_h8 (by decide)
          have : ys h8 k0 11 = ys hq k0 11 := B_h8.ys H_k0 (by decide)
          have : ys h8 k0 10 = ys hq k0 10 := B_h8.ys H_k0 (by decide)
          show yG _ _ _ _ _ _ _ _ _ _ [] _
          refine yG.load xak rfl (fun _ _ => rfl) (v := yR k0) rfl rfl ?_
          refine yG.num (c := 60) rfl (fun _ _ => rfl) (by decide) ?_
          refine yG.load xik rfl (fun _ _ => rfl) (v := yI (a5)) rfl rfl ?_
          refine yG.iadd rfl ?_
          refine yG.load xak rfl (fun _ _ => rfl) (v := yR k0) rfl rfl ?_
          refine yG.numl (c := 1) rfl (fun _ _ => rfl) (by decide) ?_
          refine yG.load xak rfl (fun _ _ => rfl) (v := yR k0) rfl rfl ?_
          refine yG.getO A_h8.1 (w_M_meterWeight W H_k0) rfl rfl (fun r10 H_r10 O_r10 q_r10 => ?_)
          refine yG.load xik rfl (fun _ _ => rfl) (v := yI (a5)) rfl rfl ?_
          refine yG.iald A_h8.1 (v_M_meterWeight W H_r10) rfl (by omega) (by omega) (fun z11 e_z11 i_z11 l_z11 u_z11 => ?_)
          refine yG.i2l rfl ⟨by omega, by omega⟩ ?_
          refine yG.load xlk2 rfl (fun _ _ => rfl) (v := yJ (a8)) rfl rfl ?_
          refine yG.lmul rfl ?_
          obtain ⟨z12, e_z12⟩ : ∃ z : Int, z = z11 * a8 := ⟨_, rfl⟩
          rw [← e_z12]
          have b_z12 : 0 ≤ z12 ∧ z12 ≤ 212600880954 := e_z12 ▸ ymulb (A := 99) (B := 2147483646) (by omega) (by omega) (by omega) (by omega) (by decide)
          have b2_z12 : z12 ≤ 99 * a8 := e_z12 ▸ bmulx (by omega) (by omega)
          have b3_z12 : z12 ≤ 2147483646 * z11 := e_z12 ▸ bmuly (by omega) (by omega)
          refine yG.load xak rfl (fun _ _ => rfl) (v := yR k0) rfl rfl ?_
          refine yG.getJ A_h8.1 (w_M_p W H_k0) rfl rfl (fun z13 e_z13 i_z13 l_z13 u_z13 => ?_)
          rw [show (z13 : Int) = gg0 by omega]
          refine yG.lrem rfl ⟨by omega, by omega⟩ ⟨by omega, by omega⟩ (by omega) (by omega) ?_
          obtain ⟨z14, e_z14⟩ : ∃ z : Int, z = (z12) % (gg0) := ⟨_, rfl⟩
          rw [← e_z14]
          have b_z14 : 0 ≤ z14 ∧ z14 < gg0 := e_z14 ▸ ⟨Int.emod_nonneg _ (by omega), Int.emod_lt_of_pos _ (by omega)⟩
          refine yG.lsub rfl ?_
          refine yG.invV (rest := [yI (60 + a5), yR k0]) A_h8.1 (bOb (d_M W) H_k0) rfl rfl rfl rfl (c_GModel_mod W (d + 3) A_h8.1 H_k0 (1 - z14) (by omega) (by omega) (by omega) (by omega)) (fun rv hp9 q9 => ?_)
          obtain ⟨⟨z15, rfl, l_z15, u_z15, R_z15⟩, e9⟩ := q9
          rw [e9]
          show yG _ _ _ _ _ _ _ _ _ _ (yJ z15 :: [yI (60 + a5), yR k0]) _
          refine yG.load xlk2 rfl (fun _ _ => rfl) (v := yJ (p3)) rfl rfl ?_
          refine yG.lmul rfl ?_
          obtain ⟨z16, e_z16⟩ : ∃ z : Int, z = z15 * p3 := ⟨_, rfl⟩
          rw [← e_z16]
          have b_z16 : 0 ≤ z16 ∧ z16 ≤ 4611686009837453316 := e_z16 ▸ ymulb (A := 2147483646) (B := 2147483646) (by omega) (by omega) (by omega) (by omega) (by decide)
          have b2_z16 : z16 ≤ 2147483646 * p3 := e_z16 ▸ bmulx (by omega) (by omega)
          have b3_z16 : z16 ≤ 2147483646 * z15 := e_z16 ▸ bmuly (by omega) (by omega)
          refine yG.load xak rfl (fun _ _ => rfl) (v := yR k0) rfl rfl ?_
          refine yG.getJ A_h8.1 (w_M_p W H_k0) rfl rfl (fun z17 e_z17 i_z17 l_z17 u_z17 => ?_)
          rw [show (z17 : Int) = gg0 by omega]
          refine yG.lrem rfl ⟨by omega, by omega⟩ ⟨by omega, by omega⟩ (by omega) (by omega) ?_
          obtain ⟨z18, e_z18⟩ : ∃ z : Int, z = (z16) % (gg0) := ⟨_, rfl⟩
          rw [← e_z18]
          have b_z18 : 0 ≤ z18 ∧ z18 < gg0 := e_z18 ▸ ⟨Int.emod_nonneg _ (by omega), Int.emod_lt_of_pos _ (by omega)⟩
          refine yG.invV (rest := []) A_h8.1 (bOb (d_M W) H_k0) rfl rfl rfl rfl (c_GModel_tell W (d + 3) A_h8.1 H_k0 (60 + a5) (z18) (by omega) (by omega) (by omega) (by omega) (by omega) (by omega)) (fun rv h19 q9 => ?_)
          obtain ⟨⟨rfl, R_z20⟩, B_h19⟩ := q9
          have A_h19 := A_h8.tr B_h19 (by decide)
          have : ys h19 k0 11 = ys h8 k0 11 := B_h19.ys H_k0 (by decide)
          have : ys h19 k0 10 = ys h8 k0 10 := B_h19.ys H_k0 (by decide)
          show yG _ _ _ _ _ _ _ _ _ _ [] _
          refine yG.iinc rfl (a := a5) rfl (L' := [(5, yI (a5 + 1)), (0, yR k0), (1, yI (p1)), (2, yI (p2)), (3, yJ (p3)), (6, yJ (a6)), (8, yJ (a8)), (10, yI (a10))]) rfl ?_
          refine yG.goto rfl (t := 51) rfl ?_
          exact yG.mono (yG.sub (i_51 (a5 + 1) (ys h19 k0 11) (ys h19 k0 10) h19 A_h19  rfl rfl (by omega) (by omega) (by omega) (by omega) (by omega) (by omega) (by omega) (by omega) (by omega) (by omega) (by omega) (by omega) (by omega)) (ySub.cons rfl (ySub.cons rfl (ySub.cons rfl (ySub.cons rfl (ySub.cons rfl (ySub.nil))))))) (by omega)
        · have c1 : (a10 : Int) < p2 := c1
          refine yG.load xlk2 rfl (fun _ _ => rfl) (v := yJ (a6)) rfl rfl ?_
          refine yG.load xak rfl (fun _ _ => rfl) (v := yR k0) rfl rfl ?_
          refine yG.getO A_hq.1 (w_M_shows W H_k0) rfl rfl (fun r21 H_r21 O_r21 q_r21 => ?_)
          refine yG.num (c := 16) rfl (fun _ _ => rfl) (by decide) ?_
          refine yG.load xik rfl (fun _ _ => rfl) (v := yI (a5)) rfl rfl ?_
          refine yG.imul rfl ?_
          refine yG.load xik rfl (fun _ _ => rfl) (v := yI (a10)) rfl rfl ?_
          refine yG.iadd rfl ?_
          refine yG.lald A_hq.1 (v_M_shows W H_r21) rfl (by omega) (by omega) (fun z22 e_z22 i_z22 l_z22 u_z22 => ?_)
          refine yG.load xak rfl (fun _ _ => rfl) (v := yR k0) rfl rfl ?_
          refine yG.getO A_hq.1 (w_M_matrix W H_k0) rfl rfl (fun r23 H_r23 O_r23 q_r23 => ?_)
          refine yG.num (c := 48) rfl (fun _ _ => rfl) (by decide) ?_
          refine yG.load xik rfl (fun _ _ => rfl) (v := yI (a10)) rfl rfl ?_
          refine yG.imul rfl ?_
          refine yG.load xik rfl (fun _ _ => rfl) (v := yI (p2)) rfl rfl ?_
          refine yG.iadd rfl ?_
          refine yG.lald A_hq.1 (v_M_matrix W H_r23) rfl (by omega) (by omega) (fun z24 e_z24 i_z24 l_z24 u_z24 => ?_)
          refine yG.lmul rfl ?_
          obtain ⟨z25, e_z25⟩ : ∃ z : Int, z = z22 * z24 := ⟨_, rfl⟩
          rw [← e_z25]
          have b_z25 : 0 ≤ z25 ∧ z25 ≤ 4611686014132420609 := e_z25 ▸ ymulb (A := 2147483647) (B := 2147483647) (by omega) (by omega) (by omega) (by omega) (by decide)
          have b2_z25 : z25 ≤ 2147483647 * z24 := e_z25 ▸ bmulx (by omega) (by omega)
          have b3_z25 : z25 ≤ 2147483647 * z22 := e_z25 ▸ bmuly (by omega) (by omega)
          refine yG.ladd rfl ?_
          refine yG.load xak rfl (fun _ _ => rfl) (v := yR k0) rfl rfl ?_
          refine yG.getJ A_hq.1 (w_M_p W H_k0) rfl rfl (fun z26 e_z26 i_z26 l_z26 u_z26 => ?_)
          rw [show (z26 : Int) = gg0 by omega]
          refine yG.lrem rfl ⟨by omega, by omega⟩ ⟨by omega, by omega⟩ (by omega) (by omega) ?_
          obtain ⟨z27, e_z27⟩ : ∃ z : Int, z = (a6 + z25) % (gg0) := ⟨_, rfl⟩
          rw [← e_z27]
          have b_z27 : 0 ≤ z27 ∧ z27 < gg0 := e_z27 ▸ ⟨Int.emod_nonneg _ (by omega), Int.emod_lt_of_pos _ (by omega)⟩
          refine yG.store2 xlk2 (L' := [(6, yJ (z27)), (0, yR k0), (1, yI (p1)), (2, yI (p2)), (3, yJ (p3)), (5, yI (a5)), (8, yJ (a8)), (10, yI (a10))]) rfl (fun _ _ => rfl) rfl rfl ?_
          refine yG.numl (c := 0) rfl (fun _ _ => rfl) (by decide) ?_
          refine yG.store2 xlk2 (L' := [(11, yJ (0)), (6, yJ (z27)), (0, yR k0), (1, yI (p1)), (2, yI (p2)), (3, yJ (p3)), (5, yI (a5)), (8, yJ (a8)), (10, yI (a10))]) rfl (fun _ _ => rfl) rfl rfl ?_
          refine yG.num (c := 0) rfl (fun _ _ => rfl) (by decide) ?_
          refine yG.store1 xik (L' := [(13, yI (0)), (11, yJ (0)), (6, yJ (z27)), (0, yR k0), (1, yI (p1)), (2, yI (p2)), (3, yJ (p3)), (5, yI (a5)), (8, yJ (a8)), (10, yI (a10))]) rfl (fun _ _ => rfl) rfl rfl ?_
          exact yG.mono (yG.sub (i_130 (a5) (z27) (a8) (a10) (0) (0) (ys hq k0 11) (ys hq k0 10) hq A_hq  rfl rfl (by omega) (by omega) (by omega) (by omega) (by omega) (by omega) (by omega) (by omega) (by omega) (by omega) (by omega) (by omega) (by omega) (by omega) (by omega) (by omega) (by omega) (by omega) (by omega) (by omega) (by omega) (by omega) (by omega) (by omega) (by omega) (by omega) (by omega) (by omega) (by omega)) (ySub.cons rfl (ySub.cons rfl (ySub.cons rfl (ySub.cons rfl (ySub.cons rfl (ySub.cons rfl (ySub.cons rfl (ySub.cons rfl (ySub.cons rfl (ySub.cons rfl (ySub.nil)))))))))))) (by omega)
      · intro a5 a6 a8 a10 a11 a13 gg0 gg1 hq A_hq E_0 E_1 f0 f1 f2 f3 f4 f5 f6 f7 f8 f9 f10 f11 f12 f13 f14 f15 f16 f17 f18 f19 f20 f21 f22 f23 f24 f25 f26 f27 hm
        refine yG.mono (N := 50 * m + 50) ?_ (by omega)
        obtain ⟨-, -, g_0l, g_0u⟩ := (w_M_p W H_k0).long A_hq.1
        obtain ⟨-, -, g_1l, g_1u⟩ := (w_M_usedCount W H_k0).int A_hq.1
        refine yG.load xik rfl (fun _ _ => rfl) (v := yI (a13)) rfl rfl ?_
        refine yG.load xik rfl (fun _ _ => rfl) (v := yI (p2)) rfl rfl ?_
        refine yG.icmp rfl (t := 183) rfl ⟨by omega, by omega⟩ ⟨by omega, by omega⟩ (fun c1 => ?_) (fun c1 => ?_)
        · have c1 : (a13 : Int) ≥ p2 := c1
          refine yG.load xlk2 rfl (fun _ _ => rfl) (v := yJ (a8)) rfl rfl ?_
          refine yG.load xlk2 rfl (fun _ _ => rfl) (v := yJ (a11)) rfl rfl ?_
          refine yG.load xak rfl (fun _ _ => rfl) (v := yR k0) rfl rfl ?_
          refine yG.getO A_hq.1 (w_M_shows W H_k0) rfl rfl (fun r2 H_r2 O_r2 q_r2 => ?_)
          refine yG.num (c := 16) rfl (fun _ _ => rfl) (by decide) ?_
          refine yG.load xik rfl (fun _ _ => rfl) (v := yI (a5)) rfl rfl ?_
          refine yG.imul rfl ?_
          refine yG.load xik rfl (fun _ _ => rfl) (v := yI (a10)) rfl rfl ?_
          refine yG.iadd rfl ?_
          refine yG.lald A_hq.1 (v_M_shows W H_r2) rfl (by omega) (by omega) (fun z3 e_z3 i_z3 l_z3 u_z3 => ?_)
          refine yG.lmul rfl ?_
          obtain ⟨z4, e_z4⟩ : ∃ z : Int, z = a11 * z3 := ⟨_, rfl⟩
          rw [← e_z4]
          have b_z4 : 0 ≤ z4 ∧ z4 ≤ 4611686011984936962 := e_z4 ▸ ymulb (A := 2147483646) (B := 2147483647) (by omega) (by omega) (by omega) (by omega) (by decide)
          have b2_z4 : z4 ≤ 2147483646 * z3 := e_z4 ▸ bmulx (by omega) (by omega)
          have b3_z4 : z4 ≤ 2147483647 * a11 := e_z4 ▸ bmuly (by omega) (by omega)
          refine yG.ladd rfl ?_
          refine yG.load xak rfl (fun _ _ => rfl) (v := yR k0) rfl rfl ?_
          refine yG.getJ A_hq.1 (w_M_p W H_k0) rfl rfl (fun z5 e_z5 i_z5 l_z5 u_z5 => ?_)
          rw [show (z5 : Int) = gg0 by omega]
          refine yG.lrem rfl ⟨by omega, by omega⟩ ⟨by omega, by omega⟩ (by omega) (by omega) ?_
          obtain ⟨z6, e_z6⟩ : ∃ z : Int, z = (a8 + z4) % (gg0) := ⟨_, rfl⟩
          rw [← e_z6]
          have b_z6 : 0 ≤ z6 ∧ z6 < gg0 := e_z6 ▸ ⟨Int.emod_nonneg _ (by omega), Int.emod_lt_of_pos _ (by omega)⟩
          refine yG.store2 xlk2 (L' := [(8, yJ (z6)), (0, yR k0), (1, yI (p1)), (2, yI (p2)), (3, yJ (p3)), (5, yI (a5)), (6, yJ (a6)), (10, yI (a10)), (11, yJ (a11)), (13, yI (a13))]) rfl (fun _ _ => rfl) rfl rfl ?_
          refine yG.iinc rfl (a := a10) rfl (L' := [(10, yI (a10 + 1)), (8, yJ (z6)), (0, yR k0), (1, yI (p1)), (2, yI (p2)), (3, yJ (p3)), (5, yI (a5)), (6, yJ (a6)), (11, yJ (a11)), (13, yI (a13))]) rfl ?_
          refine yG.goto rfl (t := 82) rfl ?_
          exact yG.mono (yG.sub (i_82 (a5) (a6) (z6) (a10 + 1) (ys hq k0 11) (ys hq k0 10) hq A_hq  rfl rfl (by omega) (by omega) (by omega) (by omega) (by omega) (by omega) (by omega) (by omega) (by omega) (by omega) (by omega) (by omega) (by omega) (by omega) (by omega) (by omega) (by omega) (by omega) (by omega) (by omega) (by omega) (by omega) (by omega) (by omega)) (ySub.cons rfl (ySub.cons rfl (ySub.cons rfl (ySub.cons rfl (ySub.cons rfl (ySub.cons rfl (ySub.cons rfl (ySub.cons rfl (ySub.nil)))))))))) (by omega)
        · have c1 : (a13 : Int) < p2 := c1
          refine yG.load xlk2 rfl (fun _ _ => rfl) (v := yJ (a11)) rfl rfl ?_
          refine yG.load xak rfl (fun _ _ => rfl) (v := yR k0) rfl rfl ?_
          refine yG.getO A_hq.1 (w_M_matrix W H_k0) rfl rfl (fun r7 H_r7 O_r7 q_r7 => ?_)
          refine yG.num (c := 48) rfl (fun _ _ => rfl) (by decide) ?_
          refine yG.load xik rfl (fun _ _ => rfl) (v := yI (a10)) rfl rfl ?_
          refine yG.imul rfl ?_
          refine yG.load xik rfl (fun _ _ => rfl) (v := yI (p2)) rfl rfl ?_
          refine yG.iadd rfl ?_
          refine yG.num (c := 1) rfl (fun _ _ => rfl) (by decide) ?_
          refine yG.iadd rfl ?_
          refine yG.load xik rfl (fun _ _ => rfl) (v := yI (a13)) rfl rfl ?_
          refine yG.iadd rfl ?_
          refine yG.lald A_hq.1 (v_M_matrix W H_r7) rfl (by omega) (by omega) (fun z8 e_z8 i_z8 l_z8 u_z8 => ?_)
          refine yG.load xak rfl (fun _ _ => rfl) (v := yR k0) rfl rfl ?_
          refine yG.getO A_hq.1 (w_M_shows W H_k0) rfl rfl (fun r9 H_r9 O_r9 q_r9 => ?_)
          refine yG.num (c := 16) rfl (fun _ _ => rfl) (by decide) ?_
          refine yG.load xik rfl (fun _ _ => rfl) (v := yI (a5)) rfl rfl ?_
          refine yG.imul rfl ?_
          refine yG.load xik rfl (fun _ _ => rfl) (v := yI (a13)) rfl rfl ?_
          refine yG.iadd rfl ?_
          refine yG.lald A_hq.1 (v_M_shows W H_r9) rfl (by omega) (by omega) (fun z10 e_z10 i_z10 l_z10 u_z10 => ?_)
          refine yG.lmul rfl ?_
          obtain ⟨z11, e_z11⟩ : ∃ z : Int, z = z8 * z10 := ⟨_, rfl⟩
          rw [← e_z11]
          have b_z11 : 0 ≤ z11 ∧ z11 ≤ 4611686014132420609 := e_z11 ▸ ymulb (A := 2147483647) (B := 2147483647) (by omega) (by omega) (by omega) (by omega) (by decide)
          have b2_z11 : z11 ≤ 2147483647 * z10 := e_z11 ▸ bmulx (by omega) (by omega)
          have b3_z11 : z11 ≤ 2147483647 * z8 := e_z11 ▸ bmuly (by omega) (by omega)
          refine yG.ladd rfl ?_
          refine yG.load xak rfl (fun _ _ => rfl) (v := yR k0) rfl rfl ?_
          refine yG.getJ A_hq.1 (w_M_p W H_k0) rfl rfl (fun z12 e_z12 i_z12 l_z12 u_z12 => ?_)
          rw [show (z12 : Int) = gg0 by omega]
          refine yG.lrem rfl ⟨by omega, by omega⟩ ⟨by omega, by omega⟩ (by omega) (by omega) ?_
          obtain ⟨z13, e_z13⟩ : ∃ z : Int, z = (a11 + z11) % (gg0) := ⟨_, rfl⟩
          rw [← e_z13]
          have b_z13 : 0 ≤ z13 ∧ z13 < gg0 := e_z13 ▸ ⟨Int.emod_nonneg _ (by omega), Int.emod_lt_of_pos _ (by omega)⟩
          refine yG.store2 xlk2 (L' := [(11, yJ (z13)), (0, yR k0), (1, yI (p1)), (2, yI (p2)), (3, yJ (p3)), (5, yI (a5)), (6, yJ (a6)), (8, yJ (a8)), (10, yI (a10)), (13, yI (a13))]) rfl (fun _ _ => rfl) rfl rfl ?_
          refine yG.iinc rfl (a := a13) rfl (L' := [(13, yI (a13 + 1)), (11, yJ (z13)), (0, yR k0), (1, yI (p1)), (2, yI (p2)), (3, yJ (p3)), (5, yI (a5)), (6, yJ (a6)), (8, yJ (a8)), (10, yI (a10))]) rfl ?_
          refine yG.goto rfl (t := 130) rfl ?_
          exact yG.mono (yG.sub (i_130 (a5) (a6) (a8) (a10) (z13) (a13 + 1) (ys hq k0 11) (ys hq k0 10) hq A_hq  rfl rfl (by omega) (by omega) (by omega) (by omega) (by omega) (by omega) (by omega) (by omega) (by omega) (by omega) (by omega) (by omega) (by omega) (by omega) (by omega) (by omega) (by omega) (by omega) (by omega) (by omega) (by omega) (by omega) (by omega) (by omega) (by omega) (by omega) (by omega) (by omega) (by omega)) (ySub.cons rfl (ySub.cons rfl (ySub.cons rfl (ySub.cons rfl (ySub.cons rfl (ySub.cons rfl (ySub.cons rfl (ySub.cons rfl (ySub.cons rfl (ySub.cons rfl (ySub.nil)))))))))))) (by omega)
  refine yC.of (M := (xt_X13_tellEstimate, (14, (0, (14, []))))) rfl rfl (N := 13966500) (yfuel (by decide)) ?_
  show yG 89 xfts (xcall 89 xfts xpools xms (d + 4)) (xpool xp_RX13) [] xt_X13_tellEstimate (yP 0 (fun rv hp' => (rv = none ∧ True) ∧ bAx G [(21267647932558653966460912964485513216, 256)] hp hp')) 13966500 0 [(0, yR k0), (1, yI (p1)), (2, yI (p2)), (3, yJ (p3))] [] hp
  obtain ⟨i_9, i_51, i_82, i_130⟩ := H 279329
  obtain ⟨gg0, E_0⟩ : ∃ z : Int, ys hp k0 11 = z := ⟨_, rfl⟩
  obtain ⟨-, -, g_0l, g_0u⟩ := (w_M_p W H_k0).long hT
  obtain ⟨gg1, E_1⟩ : ∃ z : Int, ys hp k0 10 = z := ⟨_, rfl⟩
  obtain ⟨-, -, g_1l, g_1u⟩ := (w_M_usedCount W H_k0).int hT
  refine yG.load xak rfl (fun _ _ => rfl) (v := yR k0) rfl rfl ?_
  refine yG.num (c := 0) rfl (fun _ _ => rfl) (by decide) ?_
  refine yG.load xlk2 rfl (fun _ _ => rfl) (v := yJ (p3)) rfl rfl ?_
  refine yG.invV (rest := []) A_hp.1 (bOb (d_M W) H_k0) rfl rfl rfl rfl (c_GModel_tell W (d + 3) A_hp.1 H_k0 (0) (p3) (by omega) (by omega) (by omega) (by omega) (by omega) (by omega)) (fun rv h1 q9 => ?_)
  obtain ⟨⟨rfl, R_z2⟩, B_h1⟩ := q9
  have A_h1 := A_hp.tr B_h1 (by decide)
  have : ys h1 k0 11 = ys hp k0 11 := B_h1.ys H_k0 (by decide)
  have : ys h1 k0 10 = ys hp k0 10 := B_h1.ys H_k0 (by decide)
  show yG _ _ _ _ _ _ _ _ _ _ [] _
  refine yG.num (c := 0) rfl (fun _ _ => rfl) (by decide) ?_
  refine yG.store1 xik (L' := [(5, yI (0)), (0, yR k0), (1, yI (p1)), (2, yI (p2)), (3, yJ (p3))]) rfl (fun _ _ => rfl) rfl rfl ?_
  exact yG.mono (yG.sub (i_9 (0) (ys h1 k0 11) (ys h1 k0 10) h1 A_h1  rfl rfl (by omega) (by omega) (by omega) (by omega) (by omega) (by omega) (by omega) (by omega) (by omega) (by omega) (by omega) (by omega) (by omega) (by omega)) (ySub.cons rfl (ySub.cons rfl (ySub.cons rfl (ySub.cons rfl (ySub.cons rfl (ySub.nil))))))) (by omega)
theorem c_GModel_find {hp : xH} (W : mW G) (d : Nat) (hT : zTy G hp) {k0 : Nat} (H_k0 : bRo G 116 k0) : yC (xcall 89 xfts xpools xms (d + 1)) 402 [yR k0] hp (bQi G [(83076749736557242056487941267521536, 0), (83076749736557242056487941267521536, 15)] hp (-1) 423 (fun _ => True)) := by
  have A_hp : bAx G [(83076749736557242056487941267521536, 0), (83076749736557242056487941267521536, 15)] hp hp := bAx.rf hT
  have H : ∀ m : Nat, (∀ a1 : Int, ∀ a2 : Int, ∀ hq, bAx G [(83076749736557242056487941267521536, 0), (83076749736557242056487941267521536, 15)] hp hq → 0 ≤ a1 → (-4000) ≤ 0 - a1 → 0 ≤ a2 → (-5) ≤ 0 - a2 → 0 - 476 * a2 + 2855 < (m : Int) → yG 89 xfts (xcall 89 xfts xpools xms d) (xpool xp_RX13) [] xt_X13_find (yP 1 (bQi G [(83076749736557242056487941267521536, 0), (83076749736557242056487941267521536, 15)] hp (-1) 423 (fun _ => True))) (29 * m) 17 [(0, yR k0), (1, yI (a1)), (2, yI (a2))] [] hq) ∧ (∀ a1 : Int, ∀ a2 : Int, ∀ a3 : Int, ∀ hq, bAx G [(83076749736557242056487941267521536, 0), (83076749736557242056487941267521536, 15)] hp hq → 0 ≤ a1 → (-4000) ≤ 0 - a1 → 0 ≤ a2 → (-4) ≤ 0 - a2 → 0 ≤ a3 → (-24) ≤ 0 - a3 → 0 - 476 * a2 - 19 * a3 + 2854 < (m : Int) → yG 89 xfts (xcall 89 xfts xpools xms d) (xpool xp_RX13) [] xt_X13_find (yP 1 (bQi G [(83076749736557242056487941267521536, 0), (83076749736557242056487941267521536, 15)] hp (-1) 423 (fun _ => True))) (29 * m) 24 [(0, yR k0), (1, yI (a1)), (2, yI (a2)), (3, yI (a3))] [] hq) ∧ (∀ a1 : Int, ∀ a2 : Int, ∀ a3 : Int, ∀ a4 : Int, ∀ a5 : Int, ∀ hq, bAx G [(83076749736557242056487941267521536, 0), (83076749736557242056487941267521536, 15)] hp hq → 0 ≤ a1 → (-4000) ≤ 0 - a1 → 0 ≤ a2 → (-4) ≤ 0 - a2 → 0 ≤ a3 → (-23) ≤ 0 - a3 → 0 ≤ a4 → (-1) ≤ 0 - a4 → 0 ≤ a5 → (-8) ≤ 0 - a5 → 0 ≤ a1 - a5 → (-4000) ≤ 0 - a1 - 3992 * a4 → 0 - 476 * a2 - 19 * a3 - 2 * a5 + 2853 < (m : Int) → yG 89 xfts (xcall 89 xfts xpools xms d) (xpool xp_RX13) [] xt_X13_find (yP 1 (bQi G [(83076749736557242056487941267521536, 0), (83076749736557242056487941267521536, 15)] hp (-1) 423 (fun _ => True))) (29 * m) 59 [(0, yR k0), (1, yI (a1)), (2, yI (a2)), (3, yI (a3)), (4, yI (a4)), (5, yI (a5))] [] hq) := by
    intro m
    induction m with
    | zero =>
      refine ⟨?_, ?_, ?_⟩ <;> (intros; exfalso; omega)
    | succ m ih =>
      obtain ⟨i_17, i_24, i_59⟩ := ih
      refine ⟨?_, ?_, ?_⟩
      · intro a1 a2 hq A_hq f0 f1 f2 f3 hm
        refine yG.mono (N := 29 * m + 29) ?_ (by omega)
        refine yG.load xik rfl (fun _ _ => rfl) (v := yI (a2)) rfl rfl ?_
        refine yG.num (c := 5) rfl (fun _ _ => rfl) (by decide) ?_
        refine yG.icmp rfl (t := 134) rfl ⟨by omega, by omega⟩ ⟨by omega, by omega⟩ (fun c1 => ?_) (fun c1 => ?_)
        · have c1 : (a2 : Int) ≥ 5 := c1
          refine yG.num (c := -1) rfl (fun _ _ => rfl) (by decide) ?_
          refine yG.ret rfl (fun _ _ => rfl) ?_
          exact (yP.int ⟨by omega, by omega⟩ ⟨⟨(-1), rfl, by omega, by omega, trivial⟩, A_hq⟩)
        · have c1 : (a2 : Int) < 5 := c1
          refine yG.num (c := 0) rfl (fun _ _ => rfl) (by decide) ?_
          refine yG.store1 xik (L' := [(3, yI (0)), (0, yR k0), (1, yI (a1)), (2, yI (a2))]) rfl (fun _ _ => rfl) rfl rfl ?_
          exact yG.mono (yG.sub (i_24 (a1) (a2) (0)  hq A_hq   (by omega) (by omega) (by omega) (by omega) (by omega) (by omega) (by omega)) (ySub.cons rfl (ySub.cons rfl (ySub.cons rfl (ySub.cons rfl (ySub.nil)))))) (by omega)
      · intro a1 a2 a3 hq A_hq f0 f1 f2 f3 f4 f5 hm
        refine yG.mono (N := 29 * m + 29) ?_ (by omega)
        refine yG.load xik rfl (fun _ _ => rfl) (v := yI (a3)) rfl rfl ?_
        refine yG.load xak rfl (fun _ _ => rfl) (v := yR k0) rfl rfl ?_
        refine yG.getO A_hq.1 (w_M_count W H_k0) rfl rfl (fun r1 H_r1 O_r1 q_r1 => ?_)
        refine yG.load xik rfl (fun _ _ => rfl) (v := yI (a2)) rfl rfl ?_
        refine yG.ialdT A_hq.1 (v_M_count W H_r1) (yhull2 (tf := bTf 5 t_M_count) (bTf_h (A := 0) (B := 24) (by decide) (by decide) (by decide) _)) rfl (by omega) (by omega) (fun z2 lo_z2 hi_z2 e_z2 i_z2 T_z2 l_z2 u_z2 => ?_)
        obtain ⟨L_z2, U_z2⟩ := yhull (tf := bTf 5 t_M_count) (bTf_h (A := 0) (B := 24) (by decide) (by decide) (by decide) _) T_z2
        refine yG.icmp rfl (t := 128) rfl ⟨by omega, by omega⟩ ⟨by omega, by omega⟩ (fun c3 => ?_) (fun c3 => ?_)
        · have c3 : (a3 : Int) ≥ z2 := c3
          refine yG.iinc rfl (a := a2) rfl (L' := [(2, yI (a2 + 1)), (0, yR k0), (1, yI (a1)), (3, yI (a3))]) rfl ?_
          refine yG.goto rfl (t := 17) rfl ?_
          exact yG.mono (yG.sub (i_17 (a1) (a2 + 1)  hq A_hq   (by omega) (by omega) (by omega) (by omega) (by omega)) (ySub.cons rfl (ySub.cons rfl (ySub.cons rfl (ySub.nil))))) (by omega)
        · have c3 : (a3 : Int) < z2 := c3
          refine yG.load xak rfl (fun _ _ => rfl) (v := yR k0) rfl rfl ?_
          refine yG.getO A_hq.1 (w_M_nameSize W H_k0) rfl rfl (fun r4 H_r4 O_r4 q_r4 => ?_)
          refine yG.num (c := 24) rfl (fun _ _ => rfl) (by decide) ?_
          refine yG.load xik rfl (fun _ _ => rfl) (v := yI (a2)) rfl rfl ?_
          refine yG.imul rfl ?_
          refine yG.load xik rfl (fun _ _ => rfl) (v := yI (a3)) rfl rfl ?_
          refine yG.iadd rfl ?_
          refine yG.iald A_hq.1 (v_M_nameSize W H_r4) rfl (by omega) (by omega) (fun z5 e_z5 i_z5 l_z5 u_z5 => ?_)
          refine yG.load xik rfl (fun _ _ => rfl) (v := yI (a1)) rfl rfl ?_
          refine yG.icmp rfl (t := 53) rfl ⟨by omega, by omega⟩ ⟨by omega, by omega⟩ (fun c6 => ?_) (fun c6 => ?_)
          · have c6 : (z5 : Int) ≠ a1 := c6
            refine yG.num (c := 0) rfl (fun _ _ => rfl) (by decide) ?_
            refine yG.store1 xik (L' := [(4, yI (0)), (0, yR k0), (1, yI (a1)), (2, yI (a2)), (3, yI (a3))]) rfl (fun _ _ => rfl) rfl rfl ?_
            refine yG.num (c := 0) rfl (fun _ _ => rfl) (by decide) ?_
            refine yG.store1 xik (L' := [(5, yI (0)), (4, yI (0)), (0, yR k0), (1, yI (a1)), (2, yI (a2)), (3, yI (a3))]) rfl (fun _ _ => rfl) rfl rfl ?_
            exact yG.mono (yG.sub (i_59 (a1) (a2) (a3) (0) (0)  hq A_hq   (by omega) (by omega) (by omega) (by omega) (by omega) (by omega) (by omega) (by omega) (by omega) (by omega) (by omega) (by omega) (by omega)) (ySub.cons rfl (ySub.cons rfl (ySub.cons rfl (ySub.cons rfl (ySub.cons rfl (ySub.cons rfl (ySub.nil)))))))) (by omega)
          · have c6 : (z5 : Int) = a1 := c6
            refine yG.num (c := 1) rfl (fun _ _ => rfl) (by decide) ?_
            refine yG.goto rfl (t := 54) rfl ?_
            refine yG.store1 xik (L' := [(4, yI (1)), (0, yR k0), (1, yI (a1)), (2, yI (a2)), (3, yI (a3))]) rfl (fun _ _ => rfl) rfl rfl ?_
            refine yG.num (c := 0) rfl (fun _ _ => rfl) (by decide) ?_
            refine yG.store1 xik (L' := [(5, yI (0)), (4, yI (1)), (0, yR k0), (1, yI (a1)), (2, yI (a2)), (3, yI (a3))]) rfl (fun _ _ => rfl) rfl rfl ?_
            exact yG.mono (yG.sub (i_59 (a1) (a2) (a3) (1) (0)  hq A_hq   (by omega) (by omega) (by omega) (by omega) (by omega) (by omega) (by omega) (by omega) (by omega) (by omega) (by omega) (by omega) (by omega)) (ySub.cons rfl (ySub.cons rfl (ySub.cons rfl (ySub.cons rfl (ySub.cons rfl (ySub.cons rfl (ySub.nil)))))))) (by omega)
      · intro a1 a2 a3 a4 a5 hq A_hq f0 f1 f2 f3 f4 f5 f6 f7 f8 f9 f10 f11 hm
        refine yG.mono (N := 29 * m + 29) ?_ (by omega)
        refine yG.load xik rfl (fun _ _ => rfl) (v := yI (a4)) rfl rfl ?_
        refine yG.ifz rfl (t := 110) rfl ⟨by omega, by omega⟩ (fun c1 => ?_) (fun c1 => ?_)
        · have c1 : (a4 : Int) = 0 := c1
          refine yG.load xik rfl (fun _ _ => rfl) (v := yI (a4)) rfl rfl ?_
          refine yG.ifz rfl (t := 122) rfl ⟨by omega, by omega⟩ (fun c2 => ?_) (fun c2 => ?_)
          · have c2 : (a4 : Int) = 0 := c2
            refine yG.iinc rfl (a := a3) rfl (L' := [(3, yI (a3 + 1)), (0, yR k0), (1, yI (a1)), (2, yI (a2)), (4, yI (a4)), (5, yI (a5))]) rfl ?_
            refine yG.goto rfl (t := 24) rfl ?_
            exact yG.mono (yG.sub (i_24 (a1) (a2) (a3 + 1)  hq A_hq   (by omega) (by omega) (by omega) (by omega) (by omega) (by omega) (by omega)) (ySub.cons rfl (ySub.cons rfl (ySub.cons rfl (ySub.cons rfl (ySub.nil)))))) (by omega)
          · have c2 : (a4 : Int) ≠ 0 := c2
            exfalso; omega
        · have c1 : (a4 : Int) ≠ 0 := c1
          refine yG.load xik rfl (fun _ _ => rfl) (v := yI (a5)) rfl rfl ?_
          refine yG.load xik rfl (fun _ _ => rfl) (v := yI (a1)) rfl rfl ?_
          refine yG.icmp rfl (t := 110) rfl ⟨by omega, by omega⟩ ⟨by omega, by omega⟩ (fun c3 => ?_) (fun c3 => ?_)
          · have c3 : (a5 : Int) ≥ a1 := c3
            refine yG.load xik rfl (fun _ _ => rfl) (v := yI (a4)) rfl rfl ?_
            refine yG.ifz rfl (t := 122) rfl ⟨by omega, by omega⟩ (fun c4 => ?_) (fun c4 => ?_)
            · have c4 : (a4 : Int) = 0 := c4
              exfalso; omega
            · have c4 : (a4 : Int) ≠ 0 := c4
              refine yG.num (c := 100) rfl (fun _ _ => rfl) (by decide) ?_
              refine yG.load xik rfl (fun _ _ => rfl) (v := yI (a2)) rfl rfl ?_
              refine yG.imul rfl ?_
              refine yG.load xik rfl (fun _ _ => rfl) (v := yI (a3)) rfl rfl ?_
              refine yG.iadd rfl ?_
              refine yG.ret rfl (fun _ _ => rfl) ?_
              exact (yP.int ⟨by omega, by omega⟩ ⟨⟨(100 * a2) + a3, rfl, by omega, by omega, trivial⟩, A_hq⟩)
          · have c3 : (a5 : Int) < a1 := c3
            refine yG.load xak rfl (fun _ _ => rfl) (v := yR k0) rfl rfl ?_
            refine yG.getO A_hq.1 (w_M_name W H_k0) rfl rfl (fun r5 H_r5 O_r5 q_r5 => ?_)
            refine yG.num (c := 8) rfl (fun _ _ => rfl) (by decide) ?_
            refine yG.num (c := 24) rfl (fun _ _ => rfl) (by decide) ?_
            refine yG.load xik rfl (fun _ _ => rfl) (v := yI (a2)) rfl rfl ?_
            refine yG.imul rfl ?_
            refine yG.load xik rfl (fun _ _ => rfl) (v := yI (a3)) rfl rfl ?_
            refine yG.iadd rfl ?_
            refine yG.imul rfl ?_
            refine yG.load xik rfl (fun _ _ => rfl) (v := yI (a5)) rfl rfl ?_
            refine yG.iadd rfl ?_
            refine yG.iald A_hq.1 (v_M_name W H_r5) rfl (by omega) (by omega) (fun z6 e_z6 i_z6 l_z6 u_z6 => ?_)
            refine yG.load xak rfl (fun _ _ => rfl) (v := yR k0) rfl rfl ?_
            refine yG.getO A_hq.1 (w_M_tape W H_k0) rfl rfl (fun r7 H_r7 O_r7 q_r7 => ?_)
            refine yG.load xik rfl (fun _ _ => rfl) (v := yI (a5)) rfl rfl ?_
            refine yG.iald A_hq.1 (v_M_tape W H_r7) rfl (by omega) (by omega) (fun z8 e_z8 i_z8 l_z8 u_z8 => ?_)
            refine yG.icmp rfl (t := 101) rfl ⟨by omega, by omega⟩ ⟨by omega, by omega⟩ (fun c9 => ?_) (fun c9 => ?_)
            · have c9 : (z6 : Int) ≠ z8 := c9
              refine yG.num (c := 0) rfl (fun _ _ => rfl) (by decide) ?_
              refine yG.store1 xik (L' := [(4, yI (0)), (0, yR k0), (1, yI (a1)), (2, yI (a2)), (3, yI (a3)), (5, yI (a5))]) rfl (fun _ _ => rfl) rfl rfl ?_
              refine yG.iinc rfl (a := a5) rfl (L' := [(5, yI (a5 + 1)), (4, yI (0)), (0, yR k0), (1, yI (a1)), (2, yI (a2)), (3, yI (a3))]) rfl ?_
              refine yG.goto rfl (t := 59) rfl ?_
              exact yG.mono (yG.sub (i_59 (a1) (a2) (a3) (0) (a5 + 1)  hq A_hq   (by omega) (by omega) (by omega) (by omega) (by omega) (by omega) (by omega) (by omega) (by omega) (by omega) (by omega) (by omega) (by omega)) (ySub.cons rfl (ySub.cons rfl (ySub.cons rfl (ySub.cons rfl (ySub.cons rfl (ySub.cons rfl (ySub.nil)))))))) (by omega)
            · have c9 : (z6 : Int) = z8 := c9
              refine yG.num (c := 1) rfl (fun _ _ => rfl) (by decide) ?_
              refine yG.goto rfl (t := 102) rfl ?_
              refine yG.store1 xik (L' := [(4, yI (1)), (0, yR k0), (1, yI (a1)), (2, yI (a2)), (3, yI (a3)), (5, yI (a5))]) rfl (fun _ _ => rfl) rfl rfl ?_
              refine yG.iinc rfl (a := a5) rfl (L' := [(5, yI (a5 + 1)), (4, yI (1)), (0, yR k0), (1, yI (a1)), (2, yI (a2)), (3, yI (a3))]) rfl ?_
              refine yG.goto rfl (t := 59) rfl ?_
              exact yG.mono (yG.sub (i_59 (a1) (a2) (a3) (1) (a5 + 1)  hq A_hq   (by omega) (by omega) (by omega) (by omega) (by omega) (by omega) (by omega) (by omega) (by omega) (by omega) (by omega) (by omega) (by omega)) (ySub.cons rfl (ySub.cons rfl (ySub.cons rfl (ySub.cons rfl (ySub.cons rfl (ySub.cons rfl (ySub.nil)))))))) (by omega)
  refine yC.of (M := (xt_X13_find, (6, (1, (14, []))))) rfl rfl (N := 82882) (yfuel (by decide)) ?_
  show yG 89 xfts (xcall 89 xfts xpools xms d) (xpool xp_RX13) [] xt_X13_find (yP 1 (bQi G [(83076749736557242056487941267521536, 0), (83076749736557242056487941267521536, 15)] hp (-1) 423 (fun _ => True))) 82882 0 [(0, yR k0)] [] hp
  obtain ⟨i_17, i_24, i_59⟩ := H 2857
  refine yG.load xak rfl (fun _ _ => rfl) (v := yR k0) rfl rfl ?_
  refine yG.num (c := 0) rfl (fun _ _ => rfl) (by decide) ?_
  refine yG.putI A_hp.1 (w_M_thrown W H_k0) (W.2.1 _ _ H_k0 (by decide) (by decide)) rfl rfl (.inl rfl) ⟨by omega, by omega⟩ (by omega) (by omega) (fun h1 T_h1 b_h1 f_h1 y_h1 => ?_)
  have A_h1 := A_hp.put T_h1 b_h1 f_h1 H_k0 (by decide)
  refine yG.load xak rfl (fun _ _ => rfl) (v := yR k0) rfl rfl ?_
  refine yG.getI A_h1.1 (w_M_taped W H_k0) rfl rfl (fun z2 e_z2 i_z2 l_z2 u_z2 => ?_)
  refine yG.store1 xik (L' := [(1, yI (z2)), (0, yR k0)]) rfl (fun _ _ => rfl) rfl rfl ?_
  refine yG.load xak rfl (fun _ _ => rfl) (v := yR k0) rfl rfl ?_
  refine yG.num (c := 0) rfl (fun _ _ => rfl) (by decide) ?_
  refine yG.putI A_h1.1 (w_M_taped W H_k0) (W.2.1 _ _ H_k0 (by decide) (by decide)) rfl rfl (.inl rfl) ⟨by omega, by omega⟩ (by omega) (by omega) (fun h3 T_h3 b_h3 f_h3 y_h3 => ?_)
  have A_h3 := A_h1.put T_h3 b_h3 f_h3 H_k0 (by decide)
  refine yG.num (c := 0) rfl (fun _ _ => rfl) (by decide) ?_
  refine yG.store1 xik (L' := [(2, yI (0)), (1, yI (z2)), (0, yR k0)]) rfl (fun _ _ => rfl) rfl rfl ?_
  exact yG.mono (yG.sub (i_17 (z2) (0)  h3 A_h3   (by omega) (by omega) (by omega) (by omega) (by omega)) (ySub.cons rfl (ySub.cons rfl (ySub.cons rfl (ySub.nil))))) (by omega)
theorem c_GModel_name {hp : xH} (W : mW G) (d : Nat) (hT : zTy G hp) {k0 : Nat} (H_k0 : bRo G 116 k0) (p1 p2 p3 : Int) (h1l : (-2147483648) ≤ p1) (h1u : p1 ≤ 2147483647) (h2l : (-2147483648) ≤ p2) (h2u : p2 ≤ 2147483647) (h3l : (-2147483648) ≤ p3) (h3u : p3 ≤ 2147483647) : yC (xcall 89 xfts xpools xms (d + 3)) 459 [yR k0, yI (p1), yI (p2), yI (p3)] hp (bQi G [(83076749736557242056487941267521536, 0)] hp (-1) 255 (fun z => 0 ≤ p1 - z + 2147483647 ∧ 0 ≤ p2 - z + 2147483647 ∧ 0 ≤ p3 - z + 2147483647)) := by
  have A_hp : bAx G [(83076749736557242056487941267521536, 0)] hp hp := bAx.rf hT
  refine yC.of (M := (xt_X13_name, (4, (1, (14, []))))) rfl rfl (N := 120) (yfuel (by decide)) ?_
  show yG 89 xfts (xcall 89 xfts xpools xms (d + 2)) (xpool xp_RX13) [] xt_X13_name (yP 1 (bQi G [(83076749736557242056487941267521536, 0)] hp (-1) 255 (fun z => 0 ≤ p1 - z + 2147483647 ∧ 0 ≤ p2 - z + 2147483647 ∧ 0 ≤ p3 - z + 2147483647))) 120 0 [(0, yR k0), (1, yI (p1)), (2, yI (p2)), (3, yI (p3))] [] hp
  rcases (show p1 ≤ (-1) ∨ p1 ≥ 5 ∨ p1 = 0 ∨ p1 = 1 ∨ p1 = 2 ∨ p1 = 3 ∨ p1 = 4 by omega) with c1 | c1 | c1 | c1 | c1 | c1 | c1
  · skip
    refine yG.load xak rfl (fun _ _ => rfl) (v := yR k0) rfl rfl ?_
    refine yG.num (c := 0) rfl (fun _ _ => rfl) (by decide) ?_
    refine yG.putI A_hp.1 (w_M_thrown W H_k0) (W.2.1 _ _ H_k0 (by decide) (by decide)) rfl rfl (.inl rfl) ⟨by omega, by omega⟩ (by omega) (by omega) (fun h2 T_h2 b_h2 f_h2 y_h2 => ?_)
    have A_h2 := A_hp.put T_h2 b_h2 f_h2 H_k0 (by decide)
    refine yG.load xak rfl (fun _ _ => rfl) (v := yR k0) rfl rfl ?_
    refine yG.load xik rfl (fun _ _ => rfl) (v := yI (p1)) rfl rfl ?_
    refine yG.load xik rfl (fun _ _ => rfl) (v := yI (p2)) rfl rfl ?_
    refine yG.invV (rest := []) A_h2.1 (bOb (d_M W) H_k0) rfl rfl rfl rfl (c_GModel_isObject W d A_h2.1 H_k0 (p1) (p2) (by omega) (by omega) (by omega) (by omega)) (fun rv hp9 q9 => ?_)
    obtain ⟨⟨z3, rfl, l_z3, u_z3, R_z3⟩, e9⟩ := q9
    rw [e9]
    show yG _ _ _ _ _ _ _ _ _ _ (yI z3 :: []) _
    refine yG.ifz rfl (t := 56) rfl ⟨by omega, by omega⟩ (fun c4 => ?_) (fun c4 => ?_)
    · have c4 : (z3 : Int) = 0 := c4
      refine yG.num (c := -1) rfl (fun _ _ => rfl) (by decide) ?_
      refine yG.ret rfl (fun _ _ => rfl) ?_
      exact (yP.int ⟨by omega, by omega⟩ ⟨⟨(-1), rfl, by omega, by omega, by omega⟩, A_h2⟩)
    · have c4 : (z3 : Int) ≠ 0 := c4
      exfalso; omega
  · skip
    refine yG.load xak rfl (fun _ _ => rfl) (v := yR k0) rfl rfl ?_
    refine yG.num (c := 0) rfl (fun _ _ => rfl) (by decide) ?_
    refine yG.putI A_hp.1 (w_M_thrown W H_k0) (W.2.1 _ _ H_k0 (by decide) (by decide)) rfl rfl (.inl rfl) ⟨by omega, by omega⟩ (by omega) (by omega) (fun h5 T_h5 b_h5 f_h5 y_h5 => ?_)
    have A_h5 := A_hp.put T_h5 b_h5 f_h5 H_k0 (by decide)
    refine yG.load xak rfl (fun _ _ => rfl) (v := yR k0) rfl rfl ?_
    refine yG.load xik rfl (fun _ _ => rfl) (v := yI (p1)) rfl rfl ?_
    refine yG.load xik rfl (fun _ _ => rfl) (v := yI (p2)) rfl rfl ?_
    refine yG.invV (rest := []) A_h5.1 (bOb (d_M W) H_k0) rfl rfl rfl rfl (c_GModel_isObject W d A_h5.1 H_k0 (p1) (p2) (by omega) (by omega) (by omega) (by omega)) (fun rv hp9 q9 => ?_)
    obtain ⟨⟨z6, rfl, l_z6, u_z6, R_z6⟩, e9⟩ := q9
    rw [e9]
    show yG _ _ _ _ _ _ _ _ _ _ (yI z6 :: []) _
    refine yG.ifz rfl (t := 56) rfl ⟨by omega, by omega⟩ (fun c7 => ?_) (fun c7 => ?_)
    · have c7 : (z6 : Int) = 0 := c7
      refine yG.num (c := -1) rfl (fun _ _ => rfl) (by decide) ?_
      refine yG.ret rfl (fun _ _ => rfl) ?_
      exact (yP.int ⟨by omega, by omega⟩ ⟨⟨(-1), rfl, by omega, by omega, by omega⟩, A_h5⟩)
    · have c7 : (z6 : Int) ≠ 0 := c7
      exfalso; omega
  · subst c1
    refine yG.load xak rfl (fun _ _ => rfl) (v := yR k0) rfl rfl ?_
    refine yG.num (c := 0) rfl (fun _ _ => rfl) (by decide) ?_
    refine yG.putI A_hp.1 (w_M_thrown W H_k0) (W.2.1 _ _ H_k0 (by decide) (by decide)) rfl rfl (.inl rfl) ⟨by omega, by omega⟩ (by omega) (by omega) (fun h8 T_h8 b_h8 f_h8 y_h8 => ?_)
    have A_h8 := A_hp.put T_h8 b_h8 f_h8 H_k0 (by decide)
    refine yG.load xak rfl (fun _ _ => rfl) (v := yR k0) rfl rfl ?_
    refine yG.load xik rfl (fun _ _ => rfl) (v := yI (0)) rfl rfl ?_
    refine yG.load xik rfl (fun _ _ => rfl) (v := yI (p2)) rfl rfl ?_
    refine yG.invV (rest := []) A_h8.1 (bOb (d_M W) H_k0) rfl rfl rfl rfl (c_GModel_isObject W d A_h8.1 H_k0 (0) (p2) (by omega) (by omega) (by omega) (by omega)) (fun rv hp9 q9 => ?_)
    obtain ⟨⟨z9, rfl, l_z9, u_z9, R_z9⟩, e9⟩ := q9
    rw [e9]
    show yG _ _ _ _ _ _ _ _ _ _ (yI z9 :: []) _
    refine yG.ifz rfl (t := 56) rfl ⟨by omega, by omega⟩ (fun c10 => ?_) (fun c10 => ?_)
    · have c10 : (z9 : Int) = 0 := c10
      refine yG.num (c := -1) rfl (fun _ _ => rfl) (by decide) ?_
      refine yG.ret rfl (fun _ _ => rfl) ?_
      exact (yP.int ⟨by omega, by omega⟩ ⟨⟨(-1), rfl, by omega, by omega, by omega⟩, A_h8⟩)
    · have c10 : (z9 : Int) ≠ 0 := c10
      refine yG.load xik rfl (fun _ _ => rfl) (v := yI (p3)) rfl rfl ?_
      refine yG.i2l rfl ⟨by omega, by omega⟩ ?_
      refine yG.numl (c := 0) rfl (fun _ _ => rfl) (by decide) ?_
      refine yG.load xak rfl (fun _ _ => rfl) (v := yR k0) rfl rfl ?_
      refine yG.getO A_h8.1 (w_M_nameSize W H_k0) rfl rfl (fun r11 H_r11 O_r11 q_r11 => ?_)
      refine yG.num (c := 24) rfl (fun _ _ => rfl) (by decide) ?_
      refine yG.load xik rfl (fun _ _ => rfl) (v := yI (0)) rfl rfl ?_
      refine yG.imul rfl ?_
      refine yG.load xik rfl (fun _ _ => rfl) (v := yI (p2)) rfl rfl ?_
      refine yG.iadd rfl ?_
      refine yG.iald A_h8.1 (v_M_nameSize W H_r11) rfl (by omega) (by omega) (fun z12 e_z12 i_z12 l_z12 u_z12 => ?_)
      refine yG.num (c := 1) rfl (fun _ _ => rfl) (by decide) ?_
      refine yG.isub rfl ?_
      refine yG.i2l rfl ⟨by omega, by omega⟩ ?_
      refine yG.invS (rest := []) rfl rfl rfl rfl (c_GModel_in W (d + 1) A_h8.1 (p3) (0) (z12 - 1) (by omega) (by omega) (by omega) (by omega) (by omega) (by omega)) (fun rv hp9 q9 => ?_)
      obtain ⟨⟨z13, rfl, l_z13, u_z13, R_z13⟩, e9⟩ := q9
      rw [e9]
      show yG _ _ _ _ _ _ _ _ _ _ (yI z13 :: []) _
      refine yG.ifz rfl (t := 56) rfl ⟨by omega, by omega⟩ (fun c14 => ?_) (fun c14 => ?_)
      · have c14 : (z13 : Int) = 0 := c14
        refine yG.num (c := -1) rfl (fun _ _ => rfl) (by decide) ?_
        refine yG.ret rfl (fun _ _ => rfl) ?_
        exact (yP.int ⟨by omega, by omega⟩ ⟨⟨(-1), rfl, by omega, by omega, by omega⟩, A_h8⟩)
      · have c14 : (z13 : Int) ≠ 0 := c14
        refine yG.load xak rfl (fun _ _ => rfl) (v := yR k0) rfl rfl ?_
        refine yG.getO A_h8.1 (w_M_name W H_k0) rfl rfl (fun r15 H_r15 O_r15 q_r15 => ?_)
        refine yG.num (c := 8) rfl (fun _ _ => rfl) (by decide) ?_
        refine yG.num (c := 24) rfl (fun _ _ => rfl) (by decide) ?_
        refine yG.load xik rfl (fun _ _ => rfl) (v := yI (0)) rfl rfl ?_
        refine yG.imul rfl ?_
        refine yG.load xik rfl (fun _ _ => rfl) (v := yI (p2)) rfl rfl ?_
        refine yG.iadd rfl ?_
        refine yG.imul rfl ?_
        refine yG.load xik rfl (fun _ _ => rfl) (v := yI (p3)) rfl rfl ?_
        refine yG.iadd rfl ?_
        refine yG.iald A_h8.1 (v_M_name W H_r15) rfl (by omega) (by omega) (fun z16 e_z16 i_z16 l_z16 u_z16 => ?_)
        refine yG.goto rfl (t := 57) rfl ?_
        refine yG.ret rfl (fun _ _ => rfl) ?_
        exact (yP.int ⟨by omega, by omega⟩ ⟨⟨z16, rfl, by omega, by omega, by omega⟩, A_h8⟩)
  · subst c1
    refine yG.load xak rfl (fun _ _ => rfl) (v := yR k0) rfl rfl ?_
    refine yG.num (c := 0) rfl (fun _ _ => rfl) (by decide) ?_
    refine yG.putI A_hp.1 (w_M_thrown W H_k0) (W.2.1 _ _ H_k0 (by decide) (by decide)) rfl rfl (.inl rfl) ⟨by omega, by omega⟩ (by omega) (by omega) (fun h17 T_h17 b_h17 f_h17 y_h17 => ?_)
    have A_h17 := A_hp.put T_h17 b_h17 f_h17 H_k0 (by decide)
    refine yG.load xak rfl (fun _ _ => rfl) (v := yR k0) rfl rfl ?_
    refine yG.load xik rfl (fun _ _ => rfl) (v := yI (1)) rfl rfl ?_
    refine yG.load xik rfl (fun _ _ => rfl) (v := yI (p2)) rfl rfl ?_
    refine yG.invV (rest := []) A_h17.1 (bOb (d_M W) H_k0) rfl rfl rfl rfl (c_GModel_isObject W d A_h17.1 H_k0 (1) (p2) (by omega) (by omega) (by omega) (by omega)) (fun rv hp9 q9 => ?_)
    obtain ⟨⟨z18, rfl, l_z18, u_z18, R_z18⟩, e9⟩ := q9
    rw [e9]
    show yG _ _ _ _ _ _ _ _ _ _ (yI z18 :: []) _
    refine yG.ifz rfl (t := 56) rfl ⟨by omega, by omega⟩ (fun c19 => ?_) (fun c19 => ?_)
    · have c19 : (z18 : Int) = 0 := c19
      refine yG.num (c := -1) rfl (fun _ _ => rfl) (by decide) ?_
      refine yG.ret rfl (fun _ _ => rfl) ?_
      exact (yP.int ⟨by omega, by omega⟩ ⟨⟨(-1), rfl, by omega, by omega, by omega⟩, A_h17⟩)
    · have c19 : (z18 : Int) ≠ 0 := c19
      refine yG.load xik rfl (fun _ _ => rfl) (v := yI (p3)) rfl rfl ?_
      refine yG.i2l rfl ⟨by omega, by omega⟩ ?_
      refine yG.numl (c := 0) rfl (fun _ _ => rfl) (by decide) ?_
      refine yG.load xak rfl (fun _ _ => rfl) (v := yR k0) rfl rfl ?_
      refine yG.getO A_h17.1 (w_M_nameSize W H_k0) rfl rfl (fun r20 H_r20 O_r20 q_r20 => ?_)
      refine yG.num (c := 24) rfl (fun _ _ => rfl) (by decide) ?_
      refine yG.load xik rfl (fun _ _ => rfl) (v := yI (1)) rfl rfl ?_
      refine yG.imul rfl ?_
      refine yG.load xik rfl (fun _ _ => rfl) (v := yI (p2)) rfl rfl ?_
      refine yG.iadd rfl ?_
      refine yG.iald A_h17.1 (v_M_nameSize W H_r20) rfl (by omega) (by omega) (fun z21 e_z21 i_z21 l_z21 u_z21 => ?_)
      refine yG.num (c := 1) rfl (fun _ _ => rfl) (by decide) ?_
      refine yG.isub rfl ?_
      refine yG.i2l rfl ⟨by omega, by omega⟩ ?_
      refine yG.invS (rest := []) rfl rfl rfl rfl (c_GModel_in W (d + 1) A_h17.1 (p3) (0) (z21 - 1) (by omega) (by omega) (by omega) (by omega) (by omega) (by omega)) (fun rv hp9 q9 => ?_)
      obtain ⟨⟨z22, rfl, l_z22, u_z22, R_z22⟩, e9⟩ := q9
      rw [e9]
      show yG _ _ _ _ _ _ _ _ _ _ (yI z22 :: []) _
      refine yG.ifz rfl (t := 56) rfl ⟨by omega, by omega⟩ (fun c23 => ?_) (fun c23 => ?_)
      · have c23 : (z22 : Int) = 0 := c23
        refine yG.num (c := -1) rfl (fun _ _ => rfl) (by decide) ?_
        refine yG.ret rfl (fun _ _ => rfl) ?_
        exact (yP.int ⟨by omega, by omega⟩ ⟨⟨(-1), rfl, by omega, by omega, by omega⟩, A_h17⟩)
      · have c23 : (z22 : Int) ≠ 0 := c23
        refine yG.load xak rfl (fun _ _ => rfl) (v := yR k0) rfl rfl ?_
        refine yG.getO A_h17.1 (w_M_name W H_k0) rfl rfl (fun r24 H_r24 O_r24 q_r24 => ?_)
        refine yG.num (c := 8) rfl (fun _ _ => rfl) (by decide) ?_
        refine yG.num (c := 24) rfl (fun _ _ => rfl) (by decide) ?_
        refine yG.load xik rfl (fun _ _ => rfl) (v := yI (1)) rfl rfl ?_
        refine yG.imul rfl ?_
        refine yG.load xik rfl (fun _ _ => rfl) (v := yI (p2)) rfl rfl ?_
        refine yG.iadd rfl ?_
        refine yG.imul rfl ?_
        refine yG.load xik rfl (fun _ _ => rfl) (v := yI (p3)) rfl rfl ?_
        refine yG.iadd rfl ?_
        refine yG.iald A_h17.1 (v_M_name W H_r24) rfl (by omega) (by omega) (fun z25 e_z25 i_z25 l_z25 u_z25 => ?_)
        refine yG.goto rfl (t := 57) rfl ?_
        refine yG.ret rfl (fun _ _ => rfl) ?_
        exact (yP.int ⟨by omega, by omega⟩ ⟨⟨z25, rfl, by omega, by omega, by omega⟩, A_h17⟩)
  · subst c1
    refine yG.load xak rfl (fun _ _ => rfl) (v := yR k0) rfl rfl ?_
    refine yG.num (c := 0) rfl (fun _ _ => rfl) (by decide) ?_
    refine yG.putI A_hp.1 (w_M_thrown W H_k0) (W.2.1 _ _ H_k0 (by decide) (by decide)) rfl rfl (.inl rfl) ⟨by omega, by omega⟩ (by omega) (by omega) (fun h26 T_h26 b_h26 f_h26 y_h26 => ?_)
    have A_h26 := A_hp.put T_h26 b_h26 f_h26 H_k0 (by decide)
    refine yG.load xak rfl (fun _ _ => rfl) (v := yR k0) rfl rfl ?_
    refine yG.load xik rfl (fun _ _ => rfl) (v := yI (2)) rfl rfl ?_
    refine yG.load xik rfl (fun _ _ => rfl) (v := yI (p2)) rfl rfl ?_
    refine yG.invV (rest := []) A_h26.1 (bOb (d_M W) H_k0) rfl rfl rfl rfl (c_GModel_isObject W d A_h26.1 H_k0 (2) (p2) (by omega) (by omega) (by omega) (by omega)) (fun rv hp9 q9 => ?_)
    obtain ⟨⟨z27, rfl, l_z27, u_z27, R_z27⟩, e9⟩ := q9
    rw [e9]
    show yG _ _ _ _ _ _ _ _ _ _ (yI z27 :: []) _
    refine yG.ifz rfl (t := 56) rfl ⟨by omega, by omega⟩ (fun c28 => ?_) (fun c28 => ?_)
    · have c28 : (z27 : Int) = 0 := c28
      refine yG.num (c := -1) rfl (fun _ _ => rfl) (by decide) ?_
      refine yG.ret rfl (fun _ _ => rfl) ?_
      exact (yP.int ⟨by omega, by omega⟩ ⟨⟨(-1), rfl, by omega, by omega, by omega⟩, A_h26⟩)
    · have c28 : (z27 : Int) ≠ 0 := c28
      refine yG.load xik rfl (fun _ _ => rfl) (v := yI (p3)) rfl rfl ?_
      refine yG.i2l rfl ⟨by omega, by omega⟩ ?_
      refine yG.numl (c := 0) rfl (fun _ _ => rfl) (by decide) ?_
      refine yG.load xak rfl (fun _ _ => rfl) (v := yR k0) rfl rfl ?_
      refine yG.getO A_h26.1 (w_M_nameSize W H_k0) rfl rfl (fun r29 H_r29 O_r29 q_r29 => ?_)
      refine yG.num (c := 24) rfl (fun _ _ => rfl) (by decide) ?_
      refine yG.load xik rfl (fun _ _ => rfl) (v := yI (2)) rfl rfl ?_
      refine yG.imul rfl ?_
      refine yG.load xik rfl (fun _ _ => rfl) (v := yI (p2)) rfl rfl ?_
      refine yG.iadd rfl ?_
      refine yG.iald A_h26.1 (v_M_nameSize W H_r29) rfl (by omega) (by omega) (fun z30 e_z30 i_z30 l_z30 u_z30 => ?_)
      refine yG.num (c := 1) rfl (fun _ _ => rfl) (by decide) ?_
      refine yG.isub rfl ?_
      refine yG.i2l rfl ⟨by omega, by omega⟩ ?_
      refine yG.invS (rest := []) rfl rfl rfl rfl (c_GModel_in W (d + 1) A_h26.1 (p3) (0) (z30 - 1) (by omega) (by omega) (by omega) (by omega) (by omega) (by omega)) (fun rv hp9 q9 => ?_)
      obtain ⟨⟨z31, rfl, l_z31, u_z31, R_z31⟩, e9⟩ := q9
      rw [e9]
      show yG _ _ _ _ _ _ _ _ _ _ (yI z31 :: []) _
      refine yG.ifz rfl (t := 56) rfl ⟨by omega, by omega⟩ (fun c32 => ?_) (fun c32 => ?_)
      · have c32 : (z31 : Int) = 0 := c32
        refine yG.num (c := -1) rfl (fun _ _ => rfl) (by decide) ?_
        refine yG.ret rfl (fun _ _ => rfl) ?_
        exact (yP.int ⟨by omega, by omega⟩ ⟨⟨(-1), rfl, by omega, by omega, by omega⟩, A_h26⟩)
      · have c32 : (z31 : Int) ≠ 0 := c32
        refine yG.load xak rfl (fun _ _ => rfl) (v := yR k0) rfl rfl ?_
        refine yG.getO A_h26.1 (w_M_name W H_k0) rfl rfl (fun r33 H_r33 O_r33 q_r33 => ?_)
        refine yG.num (c := 8) rfl (fun _ _ => rfl) (by decide) ?_
        refine yG.num (c := 24) rfl (fun _ _ => rfl) (by decide) ?_
        refine yG.load xik rfl (fun _ _ => rfl) (v := yI (2)) rfl rfl ?_
        refine yG.imul rfl ?_
        refine yG.load xik rfl (fun _ _ => rfl) (v := yI (p2)) rfl rfl ?_
        refine yG.iadd rfl ?_
        refine yG.imul rfl ?_
        refine yG.load xik rfl (fun _ _ => rfl) (v := yI (p3)) rfl rfl ?_
        refine yG.iadd rfl ?_
        refine yG.iald A_h26.1 (v_M_name W H_r33) rfl (by omega) (by omega) (fun z34 e_z34 i_z34 l_z34 u_z34 => ?_)
        refine yG.goto rfl (t := 57) rfl ?_
        refine yG.ret rfl (fun _ _ => rfl) ?_
        exact (yP.int ⟨by omega, by omega⟩ ⟨⟨z34, rfl, by omega, by omega, by omega⟩, A_h26⟩)
  · subst c1
    refine yG.load xak rfl (fun _ _ => rfl) (v := yR k0) rfl rfl ?_
    refine yG.num (c := 0) rfl (fun _ _ => rfl) (by decide) ?_
    refine yG.putI A_hp.1 (w_M_thrown W H_k0) (W.2.1 _ _ H_k0 (by decide) (by decide)) rfl rfl (.inl rfl) ⟨by omega, by omega⟩ (by omega) (by omega) (fun h35 T_h35 b_h35 f_h35 y_h35 => ?_)
    have A_h35 := A_hp.put T_h35 b_h35 f_h35 H_k0 (by decide)
    refine yG.load xak rfl (fun _ _ => rfl) (v := yR k0) rfl rfl ?_
    refine yG.load xik rfl (fun _ _ => rfl) (v := yI (3)) rfl rfl ?_
    refine yG.load xik rfl (fun _ _ => rfl) (v := yI (p2)) rfl rfl ?_
    refine yG.invV (rest := []) A_h35.1 (bOb (d_M W) H_k0) rfl rfl rfl rfl (c_GModel_isObject W d A_h35.1 H_k0 (3) (p2) (by omega) (by omega) (by omega) (by omega)) (fun rv hp9 q9 => ?_)
    obtain ⟨⟨z36, rfl, l_z36, u_z36, R_z36⟩, e9⟩ := q9
    rw [e9]
    show yG _ _ _ _ _ _ _ _ _ _ (yI z36 :: []) _
    refine yG.ifz rfl (t := 56) rfl ⟨by omega, by omega⟩ (fun c37 => ?_) (fun c37 => ?_)
    · have c37 : (z36 : Int) = 0 := c37
      refine yG.num (c := -1) rfl (fun _ _ => rfl) (by decide) ?_
      refine yG.ret rfl (fun _ _ => rfl) ?_
      exact (yP.int ⟨by omega, by omega⟩ ⟨⟨(-1), rfl, by omega, by omega, by omega⟩, A_h35⟩)
    · have c37 : (z36 : Int) ≠ 0 := c37
      refine yG.load xik rfl (fun _ _ => rfl) (v := yI (p3)) rfl rfl ?_
      refine yG.i2l rfl ⟨by omega, by omega⟩ ?_
      refine yG.numl (c := 0) rfl (fun _ _ => rfl) (by decide) ?_
      refine yG.load xak rfl (fun _ _ => rfl) (v := yR k0) rfl rfl ?_
      refine yG.getO A_h35.1 (w_M_nameSize W H_k0) rfl rfl (fun r38 H_r38 O_r38 q_r38 => ?_)
      refine yG.num (c := 24) rfl (fun _ _ => rfl) (by decide) ?_
      refine yG.load xik rfl (fun _ _ => rfl) (v := yI (3)) rfl rfl ?_
      refine yG.imul rfl ?_
      refine yG.load xik rfl (fun _ _ => rfl) (v := yI (p2)) rfl rfl ?_
      refine yG.iadd rfl ?_
      refine yG.iald A_h35.1 (v_M_nameSize W H_r38) rfl (by omega) (by omega) (fun z39 e_z39 i_z39 l_z39 u_z39 => ?_)
      refine yG.num (c := 1) rfl (fun _ _ => rfl) (by decide) ?_
      refine yG.isub rfl ?_
      refine yG.i2l rfl ⟨by omega, by omega⟩ ?_
      refine yG.invS (rest := []) rfl rfl rfl rfl (c_GModel_in W (d + 1) A_h35.1 (p3) (0) (z39 - 1) (by omega) (by omega) (by omega) (by omega) (by omega) (by omega)) (fun rv hp9 q9 => ?_)
      obtain ⟨⟨z40, rfl, l_z40, u_z40, R_z40⟩, e9⟩ := q9
      rw [e9]
      show yG _ _ _ _ _ _ _ _ _ _ (yI z40 :: []) _
      refine yG.ifz rfl (t := 56) rfl ⟨by omega, by omega⟩ (fun c41 => ?_) (fun c41 => ?_)
      · have c41 : (z40 : Int) = 0 := c41
        refine yG.num (c := -1) rfl (fun _ _ => rfl) (by decide) ?_
        refine yG.ret rfl (fun _ _ => rfl) ?_
        exact (yP.int ⟨by omega, by omega⟩ ⟨⟨(-1), rfl, by omega, by omega, by omega⟩, A_h35⟩)
      · have c41 : (z40 : Int) ≠ 0 := c41
        refine yG.load xak rfl (fun _ _ => rfl) (v := yR k0) rfl rfl ?_
        refine yG.getO A_h35.1 (w_M_name W H_k0) rfl rfl (fun r42 H_r42 O_r42 q_r42 => ?_)
        refine yG.num (c := 8) rfl (fun _ _ => rfl) (by decide) ?_
        refine yG.num (c := 24) rfl (fun _ _ => rfl) (by decide) ?_
        refine yG.load xik rfl (fun _ _ => rfl) (v := yI (3)) rfl rfl ?_
        refine yG.imul rfl ?_
        refine yG.load xik rfl (fun _ _ => rfl) (v := yI (p2)) rfl rfl ?_
        refine yG.iadd rfl ?_
        refine yG.imul rfl ?_
        refine yG.load xik rfl (fun _ _ => rfl) (v := yI (p3)) rfl rfl ?_
        refine yG.iadd rfl ?_
        refine yG.iald A_h35.1 (v_M_name W H_r42) rfl (by omega) (by omega) (fun z43 e_z43 i_z43 l_z43 u_z43 => ?_)
        refine yG.goto rfl (t := 57) rfl ?_
        refine yG.ret rfl (fun _ _ => rfl) ?_
        exact (yP.int ⟨by omega, by omega⟩ ⟨⟨z43, rfl, by omega, by omega, by omega⟩, A_h35⟩)
  · subst c1
    refine yG.load xak rfl (fun _ _ => rfl) (v := yR k0) rfl rfl ?_
    refine yG.num (c := 0) rfl (fun _ _ => rfl) (by decide) ?_
    refine yG.putI A_hp.1 (w_M_thrown W H_k0) (W.2.1 _ _ H_k0 (by decide) (by decide)) rfl rfl (.inl rfl) ⟨by omega, by omega⟩ (by omega) (by omega) (fun h44 T_h44 b_h44 f_h44 y_h44 => ?_)
    have A_h44 := A_hp.put T_h44 b_h44 f_h44 H_k0 (by decide)
    refine yG.load xak rfl (fun _ _ => rfl) (v := yR k0) rfl rfl ?_
    refine yG.load xik rfl (fun _ _ => rfl) (v := yI (4)) rfl rfl ?_
    refine yG.load xik rfl (fun _ _ => rfl) (v := yI (p2)) rfl rfl ?_
    refine yG.invV (rest := []) A_h44.1 (bOb (d_M W) H_k0) rfl rfl rfl rfl (c_GModel_isObject W d A_h44.1 H_k0 (4) (p2) (by omega) (by omega) (by omega) (by omega)) (fun rv hp9 q9 => ?_)
    obtain ⟨⟨z45, rfl, l_z45, u_z45, R_z45⟩, e9⟩ := q9
    rw [e9]
    show yG _ _ _ _ _ _ _ _ _ _ (yI z45 :: []) _
    refine yG.ifz rfl (t := 56) rfl ⟨by omega, by omega⟩ (fun c46 => ?_) (fun c46 => ?_)
    · have c46 : (z45 : Int) = 0 := c46
      refine yG.num (c := -1) rfl (fun _ _ => rfl) (by decide) ?_
      refine yG.ret rfl (fun _ _ => rfl) ?_
      exact (yP.int ⟨by omega, by omega⟩ ⟨⟨(-1), rfl, by omega, by omega, by omega⟩, A_h44⟩)
    · have c46 : (z45 : Int) ≠ 0 := c46
      refine yG.load xik rfl (fun _ _ => rfl) (v := yI (p3)) rfl rfl ?_
      refine yG.i2l rfl ⟨by omega, by omega⟩ ?_
      refine yG.numl (c := 0) rfl (fun _ _ => rfl) (by decide) ?_
      refine yG.load xak rfl (fun _ _ => rfl) (v := yR k0) rfl rfl ?_
      refine yG.getO A_h44.1 (w_M_nameSize W H_k0) rfl rfl (fun r47 H_r47 O_r47 q_r47 => ?_)
      refine yG.num (c := 24) rfl (fun _ _ => rfl) (by decide) ?_
      refine yG.load xik rfl (fun _ _ => rfl) (v := yI (4)) rfl rfl ?_
      refine yG.imul rfl ?_
      refine yG.load xik rfl (fun _ _ => rfl) (v := yI (p2)) rfl rfl ?_
      refine yG.iadd rfl ?_
      refine yG.iald A_h44.1 (v_M_nameSize W H_r47) rfl (by omega) (by omega) (fun z48 e_z48 i_z48 l_z48 u_z48 => ?_)
      refine yG.num (c := 1) rfl (fun _ _ => rfl) (by decide) ?_
      refine yG.isub rfl ?_
      refine yG.i2l rfl ⟨by omega, by omega⟩ ?_
      refine yG.invS (rest := []) rfl rfl rfl rfl (c_GModel_in W (d + 1) A_h44.1 (p3) (0) (z48 - 1) (by omega) (by omega) (by omega) (by omega) (by omega) (by omega)) (fun rv hp9 q9 => ?_)
      obtain ⟨⟨z49, rfl, l_z49, u_z49, R_z49⟩, e9⟩ := q9
      rw [e9]
      show yG _ _ _ _ _ _ _ _ _ _ (yI z49 :: []) _
      refine yG.ifz rfl (t := 56) rfl ⟨by omega, by omega⟩ (fun c50 => ?_) (fun c50 => ?_)
      · have c50 : (z49 : Int) = 0 := c50
        refine yG.num (c := -1) rfl (fun _ _ => rfl) (by decide) ?_
        refine yG.ret rfl (fun _ _ => rfl) ?_
        exact (yP.int ⟨by omega, by omega⟩ ⟨⟨(-1), rfl, by omega, by omega, by omega⟩, A_h44⟩)
      · have c50 : (z49 : Int) ≠ 0 := c50
        refine yG.load xak rfl (fun _ _ => rfl) (v := yR k0) rfl rfl ?_
        refine yG.getO A_h44.1 (w_M_name W H_k0) rfl rfl (fun r51 H_r51 O_r51 q_r51 => ?_)
        refine yG.num (c := 8) rfl (fun _ _ => rfl) (by decide) ?_
        refine yG.num (c := 24) rfl (fun _ _ => rfl) (by decide) ?_
        refine yG.load xik rfl (fun _ _ => rfl) (v := yI (4)) rfl rfl ?_
        refine yG.imul rfl ?_
        refine yG.load xik rfl (fun _ _ => rfl) (v := yI (p2)) rfl rfl ?_
        refine yG.iadd rfl ?_
        refine yG.imul rfl ?_
        refine yG.load xik rfl (fun _ _ => rfl) (v := yI (p3)) rfl rfl ?_
        refine yG.iadd rfl ?_
        refine yG.iald A_h44.1 (v_M_name W H_r51) rfl (by omega) (by omega) (fun z52 e_z52 i_z52 l_z52 u_z52 => ?_)
        refine yG.goto rfl (t := 57) rfl ?_
        refine yG.ret rfl (fun _ _ => rfl) ?_
        exact (yP.int ⟨by omega, by omega⟩ ⟨⟨z52, rfl, by omega, by omega, by omega⟩, A_h44⟩)
theorem c_GModel_feed {hp : xH} (W : mW G) (d : Nat) (hT : zTy G hp) {k0 : Nat} (H_k0 : bRo G 116 k0) (p1 p2 p3 p4 p5 : Int) (h1l : (-2147483648) ≤ p1) (h1u : p1 ≤ 2147483647) (h2l : (-2147483648) ≤ p2) (h2u : p2 ≤ 2147483647) (h3l : (-2147483648) ≤ p3) (h3u : p3 ≤ 2147483647) (h4l : (-2147483648) ≤ p4) (h4u : p4 ≤ 2147483647) (h5l : (-2147483648) ≤ p5) (h5u : p5 ≤ 2147483647) : yC (xcall 89 xfts xpools xms (d + 1)) 397 [yR k0, yI (p1), yI (p2), yI (p3), yI (p4), yI (p5)] hp (bQi G [(83076749736557242056487941267521536, 0), (83076749736557242056487941267521536, 15), (340282366920938463463374607431768211456, 256)] hp 0 4000 (fun _ => True)) := by
  have A_hp : bAx G [(83076749736557242056487941267521536, 0), (83076749736557242056487941267521536, 15), (340282366920938463463374607431768211456, 256)] hp hp := bAx.rf hT
  have H : ∀ m : Nat, (∀ a6 : Int, ∀ gg0 : Int, ∀ hq, bAx G [(83076749736557242056487941267521536, 0), (83076749736557242056487941267521536, 15), (340282366920938463463374607431768211456, 256)] hp hq → ys hq k0 15 = gg0 → 0 ≤ a6 → (-20) ≤ 0 - a6 → 0 ≤ gg0 → (-4000) ≤ 0 - gg0 → (-2147483648) ≤ p1 → (-2147483647) ≤ 0 - p1 → (-2147483648) ≤ p2 → (-2147483647) ≤ 0 - p2 → (-2147483648) ≤ p3 → (-2147483647) ≤ 0 - p3 → (-2147483648) ≤ p4 → (-2147483647) ≤ 0 - p4 → (-2147483648) ≤ p5 → (-2147483647) ≤ 0 - p5 → (-3980) ≤ a6 - gg0 → 0 ≤ 0 - a6 + gg0 → 0 - 2 * a6 + 41 < (m : Int) → yG 89 xfts (xcall 89 xfts xpools xms d) (xpool xp_RX13) [] xt_X13_feed (yP 1 (bQi G [(83076749736557242056487941267521536, 0), (83076749736557242056487941267521536, 15), (340282366920938463463374607431768211456, 256)] hp 0 4000 (fun _ => True))) (44 * m) 34 [(0, yR k0), (1, yI (p1)), (2, yI (p2)), (3, yI (p3)), (4, yI (p4)), (5, yI (p5)), (6, yI (a6))] [] hq) := by
    intro m
    induction m with
    | zero =>
      intros; exfalso; omega
    | succ m ih =>
      have i_34 := ih
      clear ih
      intro a6 gg0 hq A_hq E_0 f0 f1 f2 f3 f4 f5 f6 f7 f8 f9 f10 f11 f12 f13 f14 f15 hm
      refine yG.mono (N := 44 * m + 44) ?_ (by omega)
      obtain ⟨-, -, g_0l, g_0u⟩ := (w_M_taped W H_k0).int A_hq.1
      refine yG.load xik rfl (fun _ _ => rfl) (v := yI (a6)) rfl rfl ?_
      refine yG.num (c := 20) rfl (fun _ _ => rfl) (by decide) ?_
      refine yG.icmp rfl (t := 131) rfl ⟨by omega, by omega⟩ ⟨by omega, by omega⟩ (fun c1 => ?_) (fun c1 => ?_)
      · have c1 : (a6 : Int) ≥ 20 := c1
        refine yG.load xak rfl (fun _ _ => rfl) (v := yR k0) rfl rfl ?_
        refine yG.getI A_hq.1 (w_M_taped W H_k0) rfl rfl (fun z2 e_z2 i_z2 l_z2 u_z2 => ?_)
        rw [show (z2 : Int) = gg0 by omega]
        refine yG.ret rfl (fun _ _ => rfl) ?_
        exact (yP.int ⟨by omega, by omega⟩ ⟨⟨gg0, rfl, by omega, by omega, trivial⟩, A_hq⟩)
      · have c1 : (a6 : Int) < 20 := c1
        refine yG.load xik rfl (fun _ _ => rfl) (v := yI (a6)) rfl rfl ?_
        refine yG.num (c := 4) rfl (fun _ _ => rfl) (by decide) ?_
        refine yG.icmp rfl (t := 51) rfl ⟨by omega, by omega⟩ ⟨by omega, by omega⟩ (fun c3 => ?_) (fun c3 => ?_)
        · have c3 : (a6 : Int) ≥ 4 := c3
          refine yG.load xik rfl (fun _ _ => rfl) (v := yI (a6)) rfl rfl ?_
          refine yG.num (c := 8) rfl (fun _ _ => rfl) (by decide) ?_
          refine yG.icmp rfl (t := 62) rfl ⟨by omega, by omega⟩ ⟨by omega, by omega⟩ (fun c4 => ?_) (fun c4 => ?_)
          · have c4 : (a6 : Int) ≥ 8 := c4
            refine yG.load xik rfl (fun _ _ => rfl) (v := yI (a6)) rfl rfl ?_
            refine yG.num (c := 12) rfl (fun _ _ => rfl) (by decide) ?_
            refine yG.icmp rfl (t := 73) rfl ⟨by omega, by omega⟩ ⟨by omega, by omega⟩ (fun c5 => ?_) (fun c5 => ?_)
            · have c5 : (a6 : Int) ≥ 12 := c5
              refine yG.load xik rfl (fun _ _ => rfl) (v := yI (a6)) rfl rfl ?_
              refine yG.num (c := 16) rfl (fun _ _ => rfl) (by decide) ?_
              refine yG.icmp rfl (t := 85) rfl ⟨by omega, by omega⟩ ⟨by omega, by omega⟩ (fun c6 => ?_) (fun c6 => ?_)
              · have c6 : (a6 : Int) ≥ 16 := c6
                refine yG.load xik rfl (fun _ _ => rfl) (v := yI (p5)) rfl rfl ?_
                refine yG.store1 xik (L' := [(7, yI (p5)), (0, yR k0), (1, yI (p1)), (2, yI (p2)), (3, yI (p3)), (4, yI (p4)), (5, yI (p5)), (6, yI (a6))]) rfl (fun _ _ => rfl) rfl rfl ?_
                refine yG.load xak rfl (fun _ _ => rfl) (v := yR k0) rfl rfl ?_
                refine yG.getO A_hq.1 (w_M_tape W H_k0) rfl rfl (fun r7 H_r7 O_r7 q_r7 => ?_)
                refine yG.load xak rfl (fun _ _ => rfl) (v := yR k0) rfl rfl ?_
                refine yG.getI A_hq.1 (w_M_taped W H_k0) rfl rfl (fun z8 e_z8 i_z8 l_z8 u_z8 => ?_)
                rw [show (z8 : Int) = gg0 by omega]
                refine yG.load xik rfl (fun _ _ => rfl) (v := yI (p5)) rfl rfl ?_
                refine yG.num (c := 24) rfl (fun _ _ => rfl) (by decide) ?_
                refine yG.num (c := 8) rfl (fun _ _ => rfl) (by decide) ?_
                refine yG.load xik rfl (fun _ _ => rfl) (v := yI (a6)) rfl rfl ?_
                refine yG.num (c := 4) rfl (fun _ _ => rfl) (by decide) ?_
                refine yG.irem rfl ⟨by omega, by omega⟩ ⟨by omega, by omega⟩ (by omega) (by omega) ?_
                obtain ⟨z9, e_z9⟩ : ∃ z : Int, z = (a6) % (4) := ⟨_, rfl⟩
                rw [← e_z9]
                refine yG.imul rfl ?_
                refine yG.isub rfl ?_
                refine yG.bit32 rfl (fun _ _ => rfl) (fun z10 e_z10 l_z10 u_z10 => ?_)
                refine yG.num (c := 255) rfl (fun _ _ => rfl) (by decide) ?_
                refine yG.bit32 rfl (fun _ _ => rfl) (fun z11 e_z11 l_z11 u_z11 => ?_)
                have b_z11 : 0 ≤ z11 ∧ z11 ≤ 255 := by rw [e_z11]; exact yiand ⟨by decide, by decide⟩ (by decide)
                refine yG.iast A_hq.1 (v_M_tape W H_r7) (W.2.1 _ _ H_r7 (by decide) (by decide)) rfl (by omega) (by omega) ⟨by omega, by omega⟩ (by omega) (by omega) (fun h12 T_h12 b_h12 f_h12 y_h12 => ?_)
                have A_h12 := A_hq.put T_h12 b_h12 f_h12 H_r7 (bAll_ok (by decide) _)
                have : ys h12 k0 15 = ys hq k0 15 := (y_h12 k0 15).trans (if_neg (fun e => (bRo.ne H_k0 H_r7 (by decide)) e.1))
                refine yG.load xak rfl (fun _ _ => rfl) (v := yR k0) rfl rfl ?_
                refine yG.step (pc' := 117) (stk' := [yR k0, yR k0]) rfl (fun _ _ => rfl) ?_
                refine yG.getI A_h12.1 (w_M_taped W H_k0) rfl rfl (fun z13 e_z13 i_z13 l_z13 u_z13 => ?_)
                rw [show (z13 : Int) = gg0 by omega]
                refine yG.num (c := 1) rfl (fun _ _ => rfl) (by decide) ?_
                refine yG.iadd rfl ?_
                refine yG.putI A_h12.1 (w_M_taped W H_k0) (W.2.1 _ _ H_k0 (by decide) (by decide)) rfl rfl (.inl rfl) ⟨by omega, by omega⟩ (by omega) (by omega) (fun h14 T_h14 b_h14 f_h14 y_h14 => ?_)
                have A_h14 := A_h12.put T_h14 b_h14 f_h14 H_k0 (by decide)
                have : ys h14 k0 15 = gg0 + 1 := (y_h14 k0 15).trans (if_pos ⟨rfl, rfl⟩)
                refine yG.iinc rfl (a := a6) rfl (L' := [(6, yI (a6 + 1)), (7, yI (p5)), (0, yR k0), (1, yI (p1)), (2, yI (p2)), (3, yI (p3)), (4, yI (p4)), (5, yI (p5))]) rfl ?_
                refine yG.goto rfl (t := 34) rfl ?_
                exact yG.mono (yG.sub (i_34 (a6 + 1) (ys h14 k0 15) h14 A_h14  rfl (by omega) (by omega) (by omega) (by omega) (by omega) (by omega) (by omega) (by omega) (by omega) (by omega) (by omega) (by omega) (by omega) (by omega) (by omega) (by omega) (by omega)) (ySub.cons rfl (ySub.cons rfl (ySub.cons rfl (ySub.cons rfl (ySub.cons rfl (ySub.cons rfl (ySub.cons rfl (ySub.nil))))))))) (by omega)
              · have c6 : (a6 : Int) < 16 := c6
                refine yG.load xik rfl (fun _ _ => rfl) (v := yI (p4)) rfl rfl ?_
                refine yG.goto rfl (t := 87) rfl ?_
                refine yG.store1 xik (L' := [(7, yI (p4)), (0, yR k0), (1, yI (p1)), (2, yI (p2)), (3, yI (p3)), (4, yI (p4)), (5, yI (p5)), (6, yI (a6))]) rfl (fun _ _ => rfl) rfl rfl ?_
                refine yG.load xak rfl (fun _ _ => rfl) (v := yR k0) rfl rfl ?_
                refine yG.getO A_hq.1 (w_M_tape W H_k0) rfl rfl (fun r15 H_r15 O_r15 q_r15 => ?_)
                refine yG.load xak rfl (fun _ _ => rfl) (v := yR k0) rfl rfl ?_
                refine yG.getI A_hq.1 (w_M_taped W H_k0) rfl rfl (fun z16 e_z16 i_z16 l_z16 u_z16 => ?_)
                rw [show (z16 : Int) = gg0 by omega]
                refine yG.load xik rfl (fun _ _ => rfl) (v := yI (p4)) rfl rfl ?_
                refine yG.num (c := 24) rfl (fun _ _ => rfl) (by decide) ?_
                refine yG.num (c := 8) rfl (fun _ _ => rfl) (by decide) ?_
                refine yG.load xik rfl (fun _ _ => rfl) (v := yI (a6)) rfl rfl ?_
                refine yG.num (c := 4) rfl (fun _ _ => rfl) (by decide) ?_
                refine yG.irem rfl ⟨by omega, by omega⟩ ⟨by omega, by omega⟩ (by omega) (by omega) ?_
                obtain ⟨z17, e_z17⟩ : ∃ z : Int, z = (a6) % (4) := ⟨_, rfl⟩
                rw [← e_z17]
                refine yG.imul rfl ?_
                refine yG.isub rfl ?_
                refine yG.bit32 rfl (fun _ _ => rfl) (fun z18 e_z18 l_z18 u_z18 => ?_)
                refine yG.num (c := 255) rfl (fun _ _ => rfl) (by decide) ?_
                refine yG.bit32 rfl (fun _ _ => rfl) (fun z19 e_z19 l_z19 u_z19 => ?_)
                have b_z19 : 0 ≤ z19 ∧ z19 ≤ 255 := by rw [e_z19]; exact yiand ⟨by decide, by decide⟩ (by decide)
                refine yG.iast A_hq.1 (v_M_tape W H_r15) (W.2.1 _ _ H_r15 (by decide) (by decide)) rfl (by omega) (by omega) ⟨by omega, by omega⟩ (by omega) (by omega) (fun h20 T_h20 b_h20 f_h20 y_h20 => ?_)
                have A_h20 := A_hq.put T_h20 b_h20 f_h20 H_r15 (bAll_ok (by decide) _)
                have : ys h20 k0 15 = ys hq k0 15 := (y_h20 k0 15).trans (if_neg (fun e => (bRo.ne H_k0 H_r15 (by decide)) e.1))
                refine yG.load xak rfl (fun _ _ => rfl) (v := yR k0) rfl rfl ?_
                refine yG.step (pc' := 117) (stk' := [yR k0, yR k0]) rfl (fun _ _ => rfl) ?_
                refine yG.getI A_h20.1 (w_M_taped W H_k0) rfl rfl (fun z21 e_z21 i_z21 l_z21 u_z21 => ?_)
                rw [show (z21 : Int) = gg0 by omega]
                refine yG.num (c := 1) rfl (fun _ _ => rfl) (by decide) ?_
                refine yG.iadd rfl ?_
                refine yG.putI A_h20.1 (w_M_taped W H_k0) (W.2.1 _ _ H_k0 (by decide) (by decide)) rfl rfl (.inl rfl) ⟨by omega, by omega⟩ (by omega) (by omega) (fun h22 T_h22 b_h22 f_h22 y_h22 => ?_)
                have A_h22 := A_h20.put T_h22 b_h22 f_h22 H_k0 (by decide)
                have : ys h22 k0 15 = gg0 + 1 := (y_h22 k0 15).trans (if_pos ⟨rfl, rfl⟩)
                refine yG.iinc rfl (a := a6) rfl (L' := [(6, yI (a6 + 1)), (7, yI (p4)), (0, yR k0), (1, yI (p1)), (2, yI (p2)), (3, yI (p3)), (4, yI (p4)), (5, yI (p5))]) rfl ?_
                refine yG.goto rfl (t := 34) rfl ?_
                exact yG.mono (yG.sub (i_34 (a6 + 1) (ys h22 k0 15) h22 A_h22  rfl (by omega) (by omega) (by omega) (by omega) (by omega) (by omega) (by omega) (by omega) (by omega) (by omega) (by omega) (by omega) (by omega) (by omega) (by omega) (by omega) (by omega)) (ySub.cons rfl (ySub.cons rfl (ySub.cons rfl (ySub.cons rfl (ySub.cons rfl (ySub.cons rfl (ySub.cons rfl (ySub.nil))))))))) (by omega)
            · have c5 : (a6 : Int) < 12 := c5
              refine yG.load xik rfl (fun _ _ => rfl) (v := yI (p3)) rfl rfl ?_
              refine yG.goto rfl (t := 87) rfl ?_
              refine yG.store1 xik (L' := [(7, yI (p3)), (0, yR k0), (1, yI (p1)), (2, yI (p2)), (3, yI (p3)), (4, yI (p4)), (5, yI (p5)), (6, yI (a6))]) rfl (fun _ _ => rfl) rfl rfl ?_
              refine yG.load xak rfl (fun _ _ => rfl) (v := yR k0) rfl rfl ?_
              refine yG.getO A_hq.1 (w_M_tape W H_k0) rfl rfl (fun r23 H_r23 O_r23 q_r23 => ?_)
              refine yG.load xak rfl (fun _ _ => rfl) (v := yR k0) rfl rfl ?_
              refine yG.getI A_hq.1 (w_M_taped W H_k0) rfl rfl (fun z24 e_z24 i_z24 l_z24 u_z24 => ?_)
              rw [show (z24 : Int) = gg0 by omega]
              refine yG.load xik rfl (fun _ _ => rfl) (v := yI (p3)) rfl rfl ?_
              refine yG.num (c := 24) rfl (fun _ _ => rfl) (by decide) ?_
              refine yG.num (c := 8) rfl (fun _ _ => rfl) (by decide) ?_
              refine yG.load xik rfl (fun _ _ => rfl) (v := yI (a6)) rfl rfl ?_
              refine yG.num (c := 4) rfl (fun _ _ => rfl) (by decide) ?_
              refine yG.irem rfl ⟨by omega, by omega⟩ ⟨by omega, by omega⟩ (by omega) (by omega) ?_
              obtain ⟨z25, e_z25⟩ : ∃ z : Int, z = (a6) % (4) := ⟨_, rfl⟩
              rw [← e_z25]
              refine yG.imul rfl ?_
              refine yG.isub rfl ?_
              refine yG.bit32 rfl (fun _ _ => rfl) (fun z26 e_z26 l_z26 u_z26 => ?_)
              refine yG.num (c := 255) rfl (fun _ _ => rfl) (by decide) ?_
              refine yG.bit32 rfl (fun _ _ => rfl) (fun z27 e_z27 l_z27 u_z27 => ?_)
              have b_z27 : 0 ≤ z27 ∧ z27 ≤ 255 := by rw [e_z27]; exact yiand ⟨by decide, by decide⟩ (by decide)
              refine yG.iast A_hq.1 (v_M_tape W H_r23) (W.2.1 _ _ H_r23 (by decide) (by decide)) rfl (by omega) (by omega) ⟨by omega, by omega⟩ (by omega) (by omega) (fun h28 T_h28 b_h28 f_h28 y_h28 => ?_)
              have A_h28 := A_hq.put T_h28 b_h28 f_h28 H_r23 (bAll_ok (by decide) _)
              have : ys h28 k0 15 = ys hq k0 15 := (y_h28 k0 15).trans (if_neg (fun e => (bRo.ne H_k0 H_r23 (by decide)) e.1))
              refine yG.load xak rfl (fun _ _ => rfl) (v := yR k0) rfl rfl ?_
              refine yG.step (pc' := 117) (stk' := [yR k0, yR k0]) rfl (fun _ _ => rfl) ?_
              refine yG.getI A_h28.1 (w_M_taped W H_k0) rfl rfl (fun z29 e_z29 i_z29 l_z29 u_z29 => ?_)
              rw [show (z29 : Int) = gg0 by omega]
              refine yG.num (c := 1) rfl (fun _ _ => rfl) (by decide) ?_
              refine yG.iadd rfl ?_
              refine yG.putI A_h28.1 (w_M_taped W H_k0) (W.2.1 _ _ H_k0 (by decide) (by decide)) rfl rfl (.inl rfl) ⟨by omega, by omega⟩ (by omega) (by omega) (fun h30 T_h30 b_h30 f_h30 y_h30 => ?_)
              have A_h30 := A_h28.put T_h30 b_h30 f_h30 H_k0 (by decide)
              have : ys h30 k0 15 = gg0 + 1 := (y_h30 k0 15).trans (if_pos ⟨rfl, rfl⟩)
              refine yG.iinc rfl (a := a6) rfl (L' := [(6, yI (a6 + 1)), (7, yI (p3)), (0, yR k0), (1, yI (p1)), (2, yI (p2)), (3, yI (p3)), (4, yI (p4)), (5, yI (p5))]) rfl ?_
              refine yG.goto rfl (t := 34) rfl ?_
              exact yG.mono (yG.sub (i_34 (a6 + 1) (ys h30 k0 15) h30 A_h30  rfl (by omega) (by omega) (by omega) (by omega) (by omega) (by omega) (by omega) (by omega) (by omega) (by omega) (by omega) (by omega) (by omega) (by omega) (by omega) (by omega) (by omega)) (ySub.cons rfl (ySub.cons rfl (ySub.cons rfl (ySub.cons rfl (ySub.cons rfl (ySub.cons rfl (ySub.cons rfl (ySub.nil))))))))) (by omega)
          · have c4 : (a6 : Int) < 8 := c4
            refine yG.load xik rfl (fun _ _ => rfl) (v := yI (p2)) rfl rfl ?_
            refine yG.goto rfl (t := 87) rfl ?_
            refine yG.store1 xik (L' := [(7, yI (p2)), (0, yR k0), (1, yI (p1)), (2, yI (p2)), (3, yI (p3)), (4, yI (p4)), (5, yI (p5)), (6, yI (a6))]) rfl (fun _ _ => rfl) rfl rfl ?_
            refine yG.load xak rfl (fun _ _ => rfl) (v := yR k0) rfl rfl ?_
            refine yG.getO A_hq.1 (w_M_tape W H_k0) rfl rfl (fun r31 H_r31 O_r31 q_r31 => ?_)
            refine yG.load xak rfl (fun _ _ => rfl) (v := yR k0) rfl rfl ?_
            refine yG.getI A_hq.1 (w_M_taped W H_k0) rfl rfl (fun z32 e_z32 i_z32 l_z32 u_z32 => ?_)
            rw [show (z32 : Int) = gg0 by omega]
            refine yG.load xik rfl (fun _ _ => rfl) (v := yI (p2)) rfl rfl ?_
            refine yG.num (c := 24) rfl (fun _ _ => rfl) (by decide) ?_
            refine yG.num (c := 8) rfl (fun _ _ => rfl) (by decide) ?_
            refine yG.load xik rfl (fun _ _ => rfl) (v := yI (a6)) rfl rfl ?_
            refine yG.num (c := 4) rfl (fun _ _ => rfl) (by decide) ?_
            refine yG.irem rfl ⟨by omega, by omega⟩ ⟨by omega, by omega⟩ (by omega) (by omega) ?_
            obtain ⟨z33, e_z33⟩ : ∃ z : Int, z = (a6) % (4) := ⟨_, rfl⟩
            rw [← e_z33]
            refine yG.imul rfl ?_
            refine yG.isub rfl ?_
            refine yG.bit32 rfl (fun _ _ => rfl) (fun z34 e_z34 l_z34 u_z34 => ?_)
            refine yG.num (c := 255) rfl (fun _ _ => rfl) (by decide) ?_
            refine yG.bit32 rfl (fun _ _ => rfl) (fun z35 e_z35 l_z35 u_z35 => ?_)
            have b_z35 : 0 ≤ z35 ∧ z35 ≤ 255 := by rw [e_z35]; exact yiand ⟨by decide, by decide⟩ (by decide)
            refine yG.iast A_hq.1 (v_M_tape W H_r31) (W.2.1 _ _ H_r31 (by decide) (by decide)) rfl (by omega) (by omega) ⟨by omega, by omega⟩ (by omega) (by omega) (fun h36 T_h36 b_h36 f_h36 y_h36 => ?_)
            have A_h36 := A_hq.put T_h36 b_h36 f_h36 H_r31 (bAll_ok (by decide) _)
            have : ys h36 k0 15 = ys hq k0 15 := (y_h36 k0 15).trans (if_neg (fun e => (bRo.ne H_k0 H_r31 (by decide)) e.1))
            refine yG.load xak rfl (fun _ _ => rfl) (v := yR k0) rfl rfl ?_
            refine yG.step (pc' := 117) (stk' := [yR k0, yR k0]) rfl (fun _ _ => rfl) ?_
            refine yG.getI A_h36.1 (w_M_taped W H_k0) rfl rfl (fun z37 e_z37 i_z37 l_z37 u_z37 => ?_)
            rw [show (z37 : Int) = gg0 by omega]
            refine yG.num (c := 1) rfl (fun _ _ => rfl) (by decide) ?_
            refine yG.iadd rfl ?_
            refine yG.putI A_h36.1 (w_M_taped W H_k0) (W.2.1 _ _ H_k0 (by decide) (by decide)) rfl rfl (.inl rfl) ⟨by omega, by omega⟩ (by omega) (by omega) (fun h38 T_h38 b_h38 f_h38 y_h38 => ?_)
            have A_h38 := A_h36.put T_h38 b_h38 f_h38 H_k0 (by decide)
            have : ys h38 k0 15 = gg0 + 1 := (y_h38 k0 15).trans (if_pos ⟨rfl, rfl⟩)
            refine yG.iinc rfl (a := a6) rfl (L' := [(6, yI (a6 + 1)), (7, yI (p2)), (0, yR k0), (1, yI (p1)), (2, yI (p2)), (3, yI (p3)), (4, yI (p4)), (5, yI (p5))]) rfl ?_
            refine yG.goto rfl (t := 34) rfl ?_
            exact yG.mono (yG.sub (i_34 (a6 + 1) (ys h38 k0 15) h38 A_h38  rfl (by omega) (by omega) (by omega) (by omega) (by omega) (by omega) (by omega) (by omega) (by omega) (by omega) (by omega) (by omega) (by omega) (by omega) (by omega) (by omega) (by omega)) (ySub.cons rfl (ySub.cons rfl (ySub.cons rfl (ySub.cons rfl (ySub.cons rfl (ySub.cons rfl (ySub.cons rfl (ySub.nil))))))))) (by omega)
        · have c3 : (a6 : Int) < 4 := c3
          refine yG.load xik rfl (fun _ _ => rfl) (v := yI (p1)) rfl rfl ?_
          refine yG.goto rfl (t := 87) rfl ?_
          refine yG.store1 xik (L' := [(7, yI (p1)), (0, yR k0), (1, yI (p1)), (2, yI (p2)), (3, yI (p3)), (4, yI (p4)), (5, yI (p5)), (6, yI (a6))]) rfl (fun _ _ => rfl) rfl rfl ?_
          refine yG.load xak rfl (fun _ _ => rfl) (v := yR k0) rfl rfl ?_
          refine yG.getO A_hq.1 (w_M_tape W H_k0) rfl rfl (fun r39 H_r39 O_r39 q_r39 => ?_)
          refine yG.load xak rfl (fun _ _ => rfl) (v := yR k0) rfl rfl ?_
          refine yG.getI A_hq.1 (w_M_taped W H_k0) rfl rfl (fun z40 e_z40 i_z40 l_z40 u_z40 => ?_)
          rw [show (z40 : Int) = gg0 by omega]
          refine yG.load xik rfl (fun _ _ => rfl) (v := yI (p1)) rfl rfl ?_
          refine yG.num (c := 24) rfl (fun _ _ => rfl) (by decide) ?_
          refine yG.num (c := 8) rfl (fun _ _ => rfl) (by decide) ?_
          refine yG.load xik rfl (fun _ _ => rfl) (v := yI (a6)) rfl rfl ?_
          refine yG.num (c := 4) rfl (fun _ _ => rfl) (by decide) ?_
          refine yG.irem rfl ⟨by omega, by omega⟩ ⟨by omega, by omega⟩ (by omega) (by omega) ?_
          obtain ⟨z41, e_z41⟩ : ∃ z : Int, z = (a6) % (4) := ⟨_, rfl⟩
          rw [← e_z41]
          refine yG.imul rfl ?_
          refine yG.isub rfl ?_
          refine yG.bit32 rfl (fun _ _ => rfl) (fun z42 e_z42 l_z42 u_z42 => ?_)
          refine yG.num (c := 255) rfl (fun _ _ => rfl) (by decide) ?_
          refine yG.bit32 rfl (fun _ _ => rfl) (fun z43 e_z43 l_z43 u_z43 => ?_)
          have b_z43 : 0 ≤ z43 ∧ z43 ≤ 255 := by rw [e_z43]; exact yiand ⟨by decide, by decide⟩ (by decide)
          refine yG.iast A_hq.1 (v_M_tape W H_r39) (W.2.1 _ _ H_r39 (by decide) (by decide)) rfl (by omega) (by omega) ⟨by omega, by omega⟩ (by omega) (by omega) (fun h44 T_h44 b_h44 f_h44 y_h44 => ?_)
          have A_h44 := A_hq.put T_h44 b_h44 f_h44 H_r39 (bAll_ok (by decide) _)
          have : ys h44 k0 15 = ys hq k0 15 := (y_h44 k0 15).trans (if_neg (fun e => (bRo.ne H_k0 H_r39 (by decide)) e.1))
          refine yG.load xak rfl (fun _ _ => rfl) (v := yR k0) rfl rfl ?_
          refine yG.step (pc' := 117) (stk' := [yR k0, yR k0]) rfl (fun _ _ => rfl) ?_
          refine yG.getI A_h44.1 (w_M_taped W H_k0) rfl rfl (fun z45 e_z45 i_z45 l_z45 u_z45 => ?_)
          rw [show (z45 : Int) = gg0 by omega]
          refine yG.num (c := 1) rfl (fun _ _ => rfl) (by decide) ?_
          refine yG.iadd rfl ?_
          refine yG.putI A_h44.1 (w_M_taped W H_k0) (W.2.1 _ _ H_k0 (by decide) (by decide)) rfl rfl (.inl rfl) ⟨by omega, by omega⟩ (by omega) (by omega) (fun h46 T_h46 b_h46 f_h46 y_h46 => ?_)
          have A_h46 := A_h44.put T_h46 b_h46 f_h46 H_k0 (by decide)
          have : ys h46 k0 15 = gg0 + 1 := (y_h46 k0 15).trans (if_pos ⟨rfl, rfl⟩)
          refine yG.iinc rfl (a := a6) rfl (L' := [(6, yI (a6 + 1)), (7, yI (p1)), (0, yR k0), (1, yI (p1)), (2, yI (p2)), (3, yI (p3)), (4, yI (p4)), (5, yI (p5))]) rfl ?_
          refine yG.goto rfl (t := 34) rfl ?_
          exact yG.mono (yG.sub (i_34 (a6 + 1) (ys h46 k0 15) h46 A_h46  rfl (by omega) (by omega) (by omega) (by omega) (by omega) (by omega) (by omega) (by omega) (by omega) (by omega) (by omega) (by omega) (by omega) (by omega) (by omega) (by omega) (by omega)) (ySub.cons rfl (ySub.cons rfl (ySub.cons rfl (ySub.cons rfl (ySub.cons rfl (ySub.cons rfl (ySub.cons rfl (ySub.nil))))))))) (by omega)
  refine yC.of (M := (xt_X13_feed, (8, (1, (14, []))))) rfl rfl (N := 1936) (yfuel (by decide)) ?_
  show yG 89 xfts (xcall 89 xfts xpools xms d) (xpool xp_RX13) [] xt_X13_feed (yP 1 (bQi G [(83076749736557242056487941267521536, 0), (83076749736557242056487941267521536, 15), (340282366920938463463374607431768211456, 256)] hp 0 4000 (fun _ => True))) 1936 0 [(0, yR k0), (1, yI (p1)), (2, yI (p2)), (3, yI (p3)), (4, yI (p4)), (5, yI (p5))] [] hp
  have i_34 := H 43
  obtain ⟨gg0, E_0⟩ : ∃ z : Int, ys hp k0 15 = z := ⟨_, rfl⟩
  obtain ⟨-, -, g_0l, g_0u⟩ := (w_M_taped W H_k0).int hT
  refine yG.load xak rfl (fun _ _ => rfl) (v := yR k0) rfl rfl ?_
  refine yG.load xak rfl (fun _ _ => rfl) (v := yR k0) rfl rfl ?_
  refine yG.getI A_hp.1 (w_M_taped W H_k0) rfl rfl (fun z1 e_z1 i_z1 l_z1 u_z1 => ?_)
  rw [show (z1 : Int) = gg0 by omega]
  refine yG.num (c := 20) rfl (fun _ _ => rfl) (by decide) ?_
  refine yG.iadd rfl ?_
  refine yG.num (c := 4000) rfl (fun _ _ => rfl) (by decide) ?_
  refine yG.icmp rfl (t := 18) rfl ⟨by omega, by omega⟩ ⟨by omega, by omega⟩ (fun c2 => ?_) (fun c2 => ?_)
  · have c2 : (gg0 + 20 : Int) ≤ 4000 := c2
    refine yG.num (c := 0) rfl (fun _ _ => rfl) (by decide) ?_
    refine yG.putI A_hp.1 (w_M_thrown W H_k0) (W.2.1 _ _ H_k0 (by decide) (by decide)) rfl rfl (.inl rfl) ⟨by omega, by omega⟩ (by omega) (by omega) (fun h3 T_h3 b_h3 f_h3 y_h3 => ?_)
    have A_h3 := A_hp.put T_h3 b_h3 f_h3 H_k0 (by decide)
    have : ys h3 k0 15 = ys hp k0 15 := (y_h3 k0 15).trans (if_neg (fun e => absurd e.2 (by decide)))
    have : ys h3 k0 0 = 0 := (y_h3 k0 0).trans (if_pos ⟨rfl, rfl⟩)
    refine yG.load xak rfl (fun _ _ => rfl) (v := yR k0) rfl rfl ?_
    refine yG.getI A_h3.1 (w_M_thrown W H_k0) rfl rfl (fun z4 e_z4 i_z4 l_z4 u_z4 => ?_)
    refine yG.ifz rfl (t := 31) rfl ⟨by omega, by omega⟩ (fun c5 => ?_) (fun c5 => ?_)
    · have c5 : (z4 : Int) ≤ 0 := c5
      refine yG.num (c := 0) rfl (fun _ _ => rfl) (by decide) ?_
      refine yG.store1 xik (L' := [(6, yI (0)), (0, yR k0), (1, yI (p1)), (2, yI (p2)), (3, yI (p3)), (4, yI (p4)), (5, yI (p5))]) rfl (fun _ _ => rfl) rfl rfl ?_
      exact yG.mono (yG.sub (i_34 (0) (ys h3 k0 15) h3 A_h3  rfl (by omega) (by omega) (by omega) (by omega) (by omega) (by omega) (by omega) (by omega) (by omega) (by omega) (by omega) (by omega) (by omega) (by omega) (by omega) (by omega) (by omega)) (ySub.cons rfl (ySub.cons rfl (ySub.cons rfl (ySub.cons rfl (ySub.cons rfl (ySub.cons rfl (ySub.cons rfl (ySub.nil))))))))) (by omega)
    · have c5 : (z4 : Int) > 0 := c5
      exfalso; omega
  · have c2 : (gg0 + 20 : Int) > 4000 := c2
    refine yG.num (c := 1) rfl (fun _ _ => rfl) (by decide) ?_
    refine yG.goto rfl (t := 19) rfl ?_
    refine yG.putI A_hp.1 (w_M_thrown W H_k0) (W.2.1 _ _ H_k0 (by decide) (by decide)) rfl rfl (.inl rfl) ⟨by omega, by omega⟩ (by omega) (by omega) (fun h6 T_h6 b_h6 f_h6 y_h6 => ?_)
    have A_h6 := A_hp.put T_h6 b_h6 f_h6 H_k0 (by decide)
    have : ys h6 k0 15 = ys hp k0 15 := (y_h6 k0 15).trans (if_neg (fun e => absurd e.2 (by decide)))
    have : ys h6 k0 0 = 1 := (y_h6 k0 0).trans (if_pos ⟨rfl, rfl⟩)
    refine yG.load xak rfl (fun _ _ => rfl) (v := yR k0) rfl rfl ?_
    refine yG.getI A_h6.1 (w_M_thrown W H_k0) rfl rfl (fun z7 e_z7 i_z7 l_z7 u_z7 => ?_)
    refine yG.ifz rfl (t := 31) rfl ⟨by omega, by omega⟩ (fun c8 => ?_) (fun c8 => ?_)
    · have c8 : (z7 : Int) ≤ 0 := c8
      exfalso; omega
    · have c8 : (z7 : Int) > 0 := c8
      refine yG.num (c := 0) rfl (fun _ _ => rfl) (by decide) ?_
      refine yG.ret rfl (fun _ _ => rfl) ?_
      exact (yP.int ⟨by omega, by omega⟩ ⟨⟨0, rfl, by omega, by omega, trivial⟩, A_h6⟩)
theorem c_GModel_end {hp : xH} (W : mW G) (d : Nat) (hT : zTy G hp) {k0 : Nat} (H_k0 : bRo G 116 k0) (p1 : Int) (h1l : (-2147483648) ≤ p1) (h1u : p1 ≤ 2147483647) : yC (xcall 89 xfts xpools xms (d + 2)) 390 [yR k0, yI (p1)] hp (fun rv hp' => (rv = none ∧ True) ∧ bAx G [(83076749736557242056487941267521536, 0), (83076749736557242056487941267521536, 15)] hp hp') := by
  have A_hp : bAx G [(83076749736557242056487941267521536, 0), (83076749736557242056487941267521536, 15)] hp hp := bAx.rf hT
  refine yC.of (M := (xt_X13_end, (2, (0, (14, []))))) rfl rfl (N := 66) (yfuel (by decide)) ?_
  show yG 89 xfts (xcall 89 xfts xpools xms (d + 1)) (xpool xp_RX13) [] xt_X13_end (yP 0 (fun rv hp' => (rv = none ∧ True) ∧ bAx G [(83076749736557242056487941267521536, 0), (83076749736557242056487941267521536, 15)] hp hp')) 66 0 [(0, yR k0), (1, yI (p1))] [] hp
  obtain ⟨gg0, E_0⟩ : ∃ z : Int, ys hp k0 15 = z := ⟨_, rfl⟩
  obtain ⟨-, -, g_0l, g_0u⟩ := (w_M_taped W H_k0).int hT
  refine yG.load xak rfl (fun _ _ => rfl) (v := yR k0) rfl rfl ?_
  refine yG.load xik rfl (fun _ _ => rfl) (v := yI (p1)) rfl rfl ?_
  refine yG.i2l rfl ⟨by omega, by omega⟩ ?_
  refine yG.numl (c := 0) rfl (fun _ _ => rfl) (by decide) ?_
  refine yG.load xak rfl (fun _ _ => rfl) (v := yR k0) rfl rfl ?_
  refine yG.getI A_hp.1 (w_M_taped W H_k0) rfl rfl (fun z1 e_z1 i_z1 l_z1 u_z1 => ?_)
  rw [show (z1 : Int) = gg0 by omega]
  refine yG.i2l rfl ⟨by omega, by omega⟩ ?_
  refine yG.invS (rest := [yR k0]) rfl rfl rfl rfl (c_GModel_in W d A_hp.1 (p1) (0) (gg0) (by omega) (by omega) (by omega) (by omega) (by omega) (by omega)) (fun rv hp9 q9 => ?_)
  obtain ⟨⟨z2, rfl, l_z2, u_z2, R_z2⟩, e9⟩ := q9
  rw [e9]
  show yG _ _ _ _ _ _ _ _ _ _ (yI z2 :: [yR k0]) _
  refine yG.ifz rfl (t := 19) rfl ⟨by omega, by omega⟩ (fun c3 => ?_) (fun c3 => ?_)
  · have c3 : (z2 : Int) = 0 := c3
    refine yG.num (c := 1) rfl (fun _ _ => rfl) (by decide) ?_
    refine yG.putI A_hp.1 (w_M_thrown W H_k0) (W.2.1 _ _ H_k0 (by decide) (by decide)) rfl rfl (.inl rfl) ⟨by omega, by omega⟩ (by omega) (by omega) (fun h4 T_h4 b_h4 f_h4 y_h4 => ?_)
    have A_h4 := A_hp.put T_h4 b_h4 f_h4 H_k0 (by decide)
    have : ys h4 k0 15 = ys hp k0 15 := (y_h4 k0 15).trans (if_neg (fun e => absurd e.2 (by decide)))
    have : ys h4 k0 0 = 1 := (y_h4 k0 0).trans (if_pos ⟨rfl, rfl⟩)
    refine yG.load xak rfl (fun _ _ => rfl) (v := yR k0) rfl rfl ?_
    refine yG.load xak rfl (fun _ _ => rfl) (v := yR k0) rfl rfl ?_
    refine yG.getI A_h4.1 (w_M_thrown W H_k0) rfl rfl (fun z5 e_z5 i_z5 l_z5 u_z5 => ?_)
    refine yG.ifz rfl (t := 35) rfl ⟨by omega, by omega⟩ (fun c6 => ?_) (fun c6 => ?_)
    · have c6 : (z5 : Int) ≠ 0 := c6
      refine yG.load xak rfl (fun _ _ => rfl) (v := yR k0) rfl rfl ?_
      refine yG.getI A_h4.1 (w_M_taped W H_k0) rfl rfl (fun z7 e_z7 i_z7 l_z7 u_z7 => ?_)
      rw [show (z7 : Int) = gg0 by omega]
      refine yG.putI A_h4.1 (w_M_taped W H_k0) (W.2.1 _ _ H_k0 (by decide) (by decide)) rfl rfl (.inl rfl) ⟨by omega, by omega⟩ (by omega) (by omega) (fun h8 T_h8 b_h8 f_h8 y_h8 => ?_)
      have A_h8 := A_h4.put T_h8 b_h8 f_h8 H_k0 (by decide)
      have : ys h8 k0 0 = ys h4 k0 0 := (y_h8 k0 0).trans (if_neg (fun e => absurd e.2 (by decide)))
      have : ys h8 k0 15 = gg0 := (y_h8 k0 15).trans (if_pos ⟨rfl, rfl⟩)
      refine yG.ret rfl (fun _ _ => rfl) ?_
      exact (yP.void ⟨⟨rfl, trivial⟩, A_h8⟩)
    · have c6 : (z5 : Int) = 0 := c6
      exfalso; omega
  · have c3 : (z2 : Int) ≠ 0 := c3
    refine yG.num (c := 0) rfl (fun _ _ => rfl) (by decide) ?_
    refine yG.goto rfl (t := 20) rfl ?_
    refine yG.putI A_hp.1 (w_M_thrown W H_k0) (W.2.1 _ _ H_k0 (by decide) (by decide)) rfl rfl (.inl rfl) ⟨by omega, by omega⟩ (by omega) (by omega) (fun h9 T_h9 b_h9 f_h9 y_h9 => ?_)
    have A_h9 := A_hp.put T_h9 b_h9 f_h9 H_k0 (by decide)
    have : ys h9 k0 15 = ys hp k0 15 := (y_h9 k0 15).trans (if_neg (fun e => absurd e.2 (by decide)))
    have : ys h9 k0 0 = 0 := (y_h9 k0 0).trans (if_pos ⟨rfl, rfl⟩)
    refine yG.load xak rfl (fun _ _ => rfl) (v := yR k0) rfl rfl ?_
    refine yG.load xak rfl (fun _ _ => rfl) (v := yR k0) rfl rfl ?_
    refine yG.getI A_h9.1 (w_M_thrown W H_k0) rfl rfl (fun z10 e_z10 i_z10 l_z10 u_z10 => ?_)
    refine yG.ifz rfl (t := 35) rfl ⟨by omega, by omega⟩ (fun c11 => ?_) (fun c11 => ?_)
    · have c11 : (z10 : Int) ≠ 0 := c11
      exfalso; omega
    · have c11 : (z10 : Int) = 0 := c11
      refine yG.load xik rfl (fun _ _ => rfl) (v := yI (p1)) rfl rfl ?_
      refine yG.goto rfl (t := 39) rfl ?_
      refine yG.putI A_h9.1 (w_M_taped W H_k0) (W.2.1 _ _ H_k0 (by decide) (by decide)) rfl rfl (.inl rfl) ⟨by omega, by omega⟩ (by omega) (by omega) (fun h12 T_h12 b_h12 f_h12 y_h12 => ?_)
      have A_h12 := A_h9.put T_h12 b_h12 f_h12 H_k0 (by decide)
      have : ys h12 k0 0 = ys h9 k0 0 := (y_h12 k0 0).trans (if_neg (fun e => absurd e.2 (by decide)))
      have : ys h12 k0 15 = p1 := (y_h12 k0 15).trans (if_pos ⟨rfl, rfl⟩)
      refine yG.ret rfl (fun _ _ => rfl) ?_
      exact (yP.void ⟨⟨rfl, trivial⟩, A_h12⟩)
theorem c_GModel_strike {hp : xH} (W : mW G) (d : Nat) (hT : zTy G hp) {k0 : Nat} (H_k0 : bRo G 116 k0) (p1 p2 : Int) (h1l : (-2147483648) ≤ p1) (h1u : p1 ≤ 2147483647) (h2l : 0 ≤ p2) (h2u : p2 ≤ 1) : yC (xcall 89 xfts xpools xms (d + 2)) 523 [yR k0, yI (p1), yI (p2)] hp (bQi G [(83076749736557242056487941267521536, 0), (83076749736557242056487941267521536, 62), (5846006549323611672814739330865132078623730171904, 256)] hp 0 1 (fun z => (z = 1 → 0 ≤ p1 ∧ 0 ≤ 0 - p1 + 31))) := by
  have A_hp : bAx G [(83076749736557242056487941267521536, 0), (83076749736557242056487941267521536, 62), (5846006549323611672814739330865132078623730171904, 256)] hp hp := bAx.rf hT
  refine yC.of (M := (xt_X13_strike, (4, (4, (14, []))))) rfl rfl (N := 102) (yfuel (by decide)) ?_
  show yG 89 xfts (xcall 89 xfts xpools xms (d + 1)) (xpool xp_RX13) [] xt_X13_strike (yP 4 (bQi G [(83076749736557242056487941267521536, 0), (83076749736557242056487941267521536, 62), (5846006549323611672814739330865132078623730171904, 256)] hp 0 1 (fun z => (z = 1 → 0 ≤ p1 ∧ 0 ≤ 0 - p1 + 31)))) 102 0 [(0, yR k0), (1, yI (p1)), (2, yI (p2))] [] hp
  refine yG.load xak rfl (fun _ _ => rfl) (v := yR k0) rfl rfl ?_
  refine yG.load xik rfl (fun _ _ => rfl) (v := yI (p1)) rfl rfl ?_
  refine yG.i2l rfl ⟨by omega, by omega⟩ ?_
  refine yG.numl (c := 0) rfl (fun _ _ => rfl) (by decide) ?_
  refine yG.load xak rfl (fun _ _ => rfl) (v := yR k0) rfl rfl ?_
  refine yG.getI A_hp.1 (w_M_meters W H_k0) rfl rfl (fun z1 e_z1 i_z1 l_z1 u_z1 => ?_)
  refine yG.num (c := 1) rfl (fun _ _ => rfl) (by decide) ?_
  refine yG.isub rfl ?_
  refine yG.i2l rfl ⟨by omega, by omega⟩ ?_
  refine yG.invS (rest := [yR k0]) rfl rfl rfl rfl (c_GModel_in W d A_hp.1 (p1) (0) (z1 - 1) (by omega) (by omega) (by omega) (by omega) (by omega) (by omega)) (fun rv hp9 q9 => ?_)
  obtain ⟨⟨z2, rfl, l_z2, u_z2, R_z2⟩, e9⟩ := q9
  rw [e9]
  show yG _ _ _ _ _ _ _ _ _ _ (yI z2 :: [yR k0]) _
  refine yG.ifz rfl (t := 21) rfl ⟨by omega, by omega⟩ (fun c3 => ?_) (fun c3 => ?_)
  · have c3 : (z2 : Int) = 0 := c3
    refine yG.num (c := 1) rfl (fun _ _ => rfl) (by decide) ?_
    refine yG.putI A_hp.1 (w_M_thrown W H_k0) (W.2.1 _ _ H_k0 (by decide) (by decide)) rfl rfl (.inl rfl) ⟨by omega, by omega⟩ (by omega) (by omega) (fun h4 T_h4 b_h4 f_h4 y_h4 => ?_)
    have A_h4 := A_hp.put T_h4 b_h4 f_h4 H_k0 (by decide)
    have : ys h4 k0 0 = 1 := (y_h4 k0 0).trans (if_pos ⟨rfl, rfl⟩)
    refine yG.load xak rfl (fun _ _ => rfl) (v := yR k0) rfl rfl ?_
    refine yG.getI A_h4.1 (w_M_thrown W H_k0) rfl rfl (fun z5 e_z5 i_z5 l_z5 u_z5 => ?_)
    refine yG.ifz rfl (t := 34) rfl ⟨by omega, by omega⟩ (fun c6 => ?_) (fun c6 => ?_)
    · have c6 : (z5 : Int) ≤ 0 := c6
      exfalso; omega
    · have c6 : (z5 : Int) > 0 := c6
      refine yG.num (c := 0) rfl (fun _ _ => rfl) (by decide) ?_
      refine yG.ret rfl (fun _ _ => rfl) ?_
      exact (yP.bool (by omega) ⟨⟨0, rfl, by omega, by omega, by omega⟩, A_h4⟩)
  · have c3 : (z2 : Int) ≠ 0 := c3
    refine yG.num (c := 0) rfl (fun _ _ => rfl) (by decide) ?_
    refine yG.goto rfl (t := 22) rfl ?_
    refine yG.putI A_hp.1 (w_M_thrown W H_k0) (W.2.1 _ _ H_k0 (by decide) (by decide)) rfl rfl (.inl rfl) ⟨by omega, by omega⟩ (by omega) (by omega) (fun h7 T_h7 b_h7 f_h7 y_h7 => ?_)
    have A_h7 := A_hp.put T_h7 b_h7 f_h7 H_k0 (by decide)
    have : ys h7 k0 0 = 0 := (y_h7 k0 0).trans (if_pos ⟨rfl, rfl⟩)
    refine yG.load xak rfl (fun _ _ => rfl) (v := yR k0) rfl rfl ?_
    refine yG.getI A_h7.1 (w_M_thrown W H_k0) rfl rfl (fun z8 e_z8 i_z8 l_z8 u_z8 => ?_)
    refine yG.ifz rfl (t := 34) rfl ⟨by omega, by omega⟩ (fun c9 => ?_) (fun c9 => ?_)
    · have c9 : (z8 : Int) ≤ 0 := c9
      refine yG.load xak rfl (fun _ _ => rfl) (v := yR k0) rfl rfl ?_
      refine yG.getO A_h7.1 (w_M_isStruck W H_k0) rfl rfl (fun r10 H_r10 O_r10 q_r10 => ?_)
      refine yG.load xik rfl (fun _ _ => rfl) (v := yI (p1)) rfl rfl ?_
      refine yG.bald A_h7.1 (v_M_isStruck W H_r10) rfl (by omega) (by omega) (fun z11 e_z11 i_z11 l_z11 u_z11 => ?_)
      refine yG.store1 xik (L' := [(3, yI (z11)), (0, yR k0), (1, yI (p1)), (2, yI (p2))]) rfl (fun _ _ => rfl) rfl rfl ?_
      refine yG.load xak rfl (fun _ _ => rfl) (v := yR k0) rfl rfl ?_
      refine yG.getS9 A_h7.1 (w_M_isStruck W H_k0) q_r10 rfl rfl ?_
      refine yG.load xik rfl (fun _ _ => rfl) (v := yI (p1)) rfl rfl ?_
      refine yG.load xik rfl (fun _ _ => rfl) (v := yI (p2)) rfl rfl ?_
      refine yG.bast A_h7.1 (v_M_isStruck W H_r10) (W.2.1 _ _ H_r10 (by decide) (by decide)) rfl (by omega) (by omega) ⟨by omega, by omega⟩ (by omega) (by omega) (fun h12 T_h12 b_h12 f_h12 y_h12 => ?_)
      have A_h12 := A_h7.put T_h12 b_h12 f_h12 H_r10 (bAll_ok (by decide) _)
      have : ys h12 k0 0 = ys h7 k0 0 := (y_h12 k0 0).trans (if_neg (fun e => (bRo.ne H_k0 H_r10 (by decide)) e.1))
      have qq1 : zsl h12 k0 61 = yR r10 := ((f_h12 k0 61).trans (if_neg (fun e => (bRo.ne H_k0 H_r10 (by decide)) e.1))).trans q_r10
      refine yG.load xak rfl (fun _ _ => rfl) (v := yR k0) rfl rfl ?_
      refine yG.num (c := 0) rfl (fun _ _ => rfl) (by decide) ?_
      refine yG.putI A_h12.1 (w_M_hasEstimates W H_k0) (W.2.1 _ _ H_k0 (by decide) (by decide)) rfl rfl (.inr ⟨rfl, rfl, rfl⟩) ⟨by omega, by omega⟩ (by omega) (by omega) (fun h13 T_h13 b_h13 f_h13 y_h13 => ?_)
      have A_h13 := A_h12.put T_h13 b_h13 f_h13 H_k0 (by decide)
      have : ys h13 k0 0 = ys h12 k0 0 := (y_h13 k0 0).trans (if_neg (fun e => absurd e.2 (by decide)))
      have qq2 : zsl h13 k0 61 = yR r10 := ((f_h13 k0 61).trans (if_neg (fun e => absurd e.2 (by decide)))).trans qq1
      refine yG.load xik rfl (fun _ _ => rfl) (v := yI (z11)) rfl rfl ?_
      refine yG.ret rfl (fun _ _ => rfl) ?_
      exact (yP.bool (by omega) ⟨⟨z11, rfl, by omega, by omega, by omega⟩, A_h13⟩)
    · have c9 : (z8 : Int) > 0 := c9
      exfalso; omega
theorem c_GModel_shortIs_0 {hp : xH} (W : mW G) (d : Nat) (hT : zTy G hp) (M_bSm : bSm G hp) {k0 : Nat} (H_k0 : bRo G 116 k0) (p1 p2 p3 p4 p5 : Int) (h1l : 0 ≤ p1) (h1u : p1 ≤ 3) (h2l : 0 ≤ p2) (h2u : p2 ≤ 0) (h3l : 0 ≤ p3) (h3u : p3 ≤ 15) (h4l : 0 ≤ p4) (h4u : p4 ≤ 15) (h5l : 0 ≤ p5) (h5u : p5 ≤ 99) : yC (xcall 89 xfts xpools xms (d + 2)) 510 [yR k0, yI (p1), yI (p2), yI (p3), yI (p4), yI (p5)] hp (fun rv hp' => (fun rv hp' => (rv = none ∧ True) ∧ bAx G [(83076749736557242056487941267521536, 40), (83076749736557242056487941267521536, 49), (83076749736557242056487941267521536, 62), (83076749736557242056487941267521536, 68), (83076749736557242056487941267521536, 69), (83076749736557242056487941267521536, 70), (83076749736557242056487941267521536, 71), (83076749736557242056487941267521536, 72), (83076749736557242056487941267521536, 73), (83076749736557242056487941267521536, 77), (83076749736557242056487941267521536, 90), (83076749736557242056487941267521536, 101)] hp hp') rv hp' ∧ bSm G hp') := by
  have A_hp : bAx G [(83076749736557242056487941267521536, 40), (83076749736557242056487941267521536, 49), (83076749736557242056487941267521536, 62), (83076749736557242056487941267521536, 68), (83076749736557242056487941267521536, 69), (83076749736557242056487941267521536, 70), (83076749736557242056487941267521536, 71), (83076749736557242056487941267521536, 72), (83076749736557242056487941267521536, 73), (83076749736557242056487941267521536, 77), (83076749736557242056487941267521536, 90), (83076749736557242056487941267521536, 101)] hp hp := bAx.rf hT
  have M_bSm_hp := M_bSm
  refine yC.of (M := (xt_X13_shortIs, (6, (0, (14, []))))) rfl rfl (N := 69) (yfuel (by decide)) ?_
  show yG 89 xfts (xcall 89 xfts xpools xms (d + 1)) (xpool xp_RX13) [] xt_X13_shortIs (yP 0 (fun rv hp' => (fun rv hp' => (rv = none ∧ True) ∧ bAx G [(83076749736557242056487941267521536, 40), (83076749736557242056487941267521536, 49), (83076749736557242056487941267521536, 62), (83076749736557242056487941267521536, 68), (83076749736557242056487941267521536, 69), (83076749736557242056487941267521536, 70), (83076749736557242056487941267521536, 71), (83076749736557242056487941267521536, 72), (83076749736557242056487941267521536, 73), (83076749736557242056487941267521536, 77), (83076749736557242056487941267521536, 90), (83076749736557242056487941267521536, 101)] hp hp') rv hp' ∧ bSm G hp')) 69 0 [(0, yR k0), (1, yI (p1)), (2, yI (p2)), (3, yI (p3)), (4, yI (p4)), (5, yI (p5))] [] hp
  refine yG.load xak rfl (fun _ _ => rfl) (v := yR k0) rfl rfl ?_
  refine yG.num (c := 1) rfl (fun _ _ => rfl) (by decide) ?_
  refine yG.putI A_hp.1 (w_M_hasShort W H_k0) (W.2.1 _ _ H_k0 (by decide) (by decide)) rfl rfl (.inr ⟨rfl, rfl, rfl⟩) ⟨by omega, by omega⟩ (by omega) (by omega) (fun h1 T_h1 b_h1 f_h1 y_h1 => ?_)
  have M_bSm_h1 := M_bSm_hp.fr (bAx.put (Wl := [(83076749736557242056487941267521536, 68)]) (bAx.rf A_hp.1) T_h1 b_h1 f_h1 H_k0 (by decide)) (by decide)
  have A_h1 := A_hp.put T_h1 b_h1 f_h1 H_k0 (by decide)
  refine yG.load xak rfl (fun _ _ => rfl) (v := yR k0) rfl rfl ?_
  refine yG.load xik rfl (fun _ _ => rfl) (v := yI (p1)) rfl rfl ?_
  refine yG.putI A_h1.1 (w_M_shortKind W H_k0) (W.2.1 _ _ H_k0 (by decide) (by decide)) rfl rfl (.inl rfl) ⟨by omega, by omega⟩ (by omega) (by omega) (fun h2 T_h2 b_h2 f_h2 y_h2 => ?_)
  have M_bSm_h2 := M_bSm_h1.fr (bAx.put (Wl := [(83076749736557242056487941267521536, 69)]) (bAx.rf A_h1.1) T_h2 b_h2 f_h2 H_k0 (by decide)) (by decide)
  have A_h2 := A_h1.put T_h2 b_h2 f_h2 H_k0 (by decide)
  refine yG.load xak rfl (fun _ _ => rfl) (v := yR k0) rfl rfl ?_
  refine yG.load xik rfl (fun _ _ => rfl) (v := yI (p2)) rfl rfl ?_
  refine yG.putI A_h2.1 (w_M_isOnLine W H_k0) (W.2.1 _ _ H_k0 (by decide) (by decide)) rfl rfl (.inr ⟨rfl, rfl, rfl⟩) ⟨by omega, by omega⟩ (by omega) (by omega) (fun h3 T_h3 b_h3 f_h3 y_h3 => ?_)
  have A_h3 := A_h2.put T_h3 b_h3 f_h3 H_k0 (by decide)
  have : ys h3 k0 70 = p2 := (y_h3 k0 70).trans (if_pos ⟨rfl, rfl⟩)
  refine yG.load xak rfl (fun _ _ => rfl) (v := yR k0) rfl rfl ?_
  refine yG.load xik rfl (fun _ _ => rfl) (v := yI (p3)) rfl rfl ?_
  refine yG.putI A_h3.1 (w_M_shortPlace W H_k0) (W.2.1 _ _ H_k0 (by decide) (by decide)) rfl rfl (.inl rfl) ⟨by omega, by omega⟩ (by omega) (by omega) (fun h4 T_h4 b_h4 f_h4 y_h4 => ?_)
  have A_h4 := A_h3.put T_h4 b_h4 f_h4 H_k0 (by decide)
  have : ys h4 k0 70 = ys h3 k0 70 := (y_h4 k0 70).trans (if_neg (fun e => absurd e.2 (by decide)))
  have : ys h4 k0 71 = p3 := (y_h4 k0 71).trans (if_pos ⟨rfl, rfl⟩)
  refine yG.load xak rfl (fun _ _ => rfl) (v := yR k0) rfl rfl ?_
  refine yG.load xik rfl (fun _ _ => rfl) (v := yI (p4)) rfl rfl ?_
  refine yG.putI A_h4.1 (w_M_shortK W H_k0) (W.2.1 _ _ H_k0 (by decide) (by decide)) rfl rfl (.inl rfl) ⟨by omega, by omega⟩ (by omega) (by omega) (fun h5 T_h5 b_h5 f_h5 y_h5 => ?_)
  have A_h5 := A_h4.put T_h5 b_h5 f_h5 H_k0 (by decide)
  have : ys h5 k0 70 = ys h4 k0 70 := (y_h5 k0 70).trans (if_neg (fun e => absurd e.2 (by decide)))
  have : ys h5 k0 71 = ys h4 k0 71 := (y_h5 k0 71).trans (if_neg (fun e => absurd e.2 (by decide)))
  refine yG.load xak rfl (fun _ _ => rfl) (v := yR k0) rfl rfl ?_
  refine yG.load xik rfl (fun _ _ => rfl) (v := yI (p5)) rfl rfl ?_
  refine yG.putI A_h5.1 (w_M_shortZ W H_k0) (W.2.1 _ _ H_k0 (by decide) (by decide)) rfl rfl (.inl rfl) ⟨by omega, by omega⟩ (by omega) (by omega) (fun h6 T_h6 b_h6 f_h6 y_h6 => ?_)
  have A_h6 := A_h5.put T_h6 b_h6 f_h6 H_k0 (by decide)
  have : ys h6 k0 70 = ys h5 k0 70 := (y_h6 k0 70).trans (if_neg (fun e => absurd e.2 (by decide)))
  have : ys h6 k0 71 = ys h5 k0 71 := (y_h6 k0 71).trans (if_neg (fun e => absurd e.2 (by decide)))
  refine yG.load xak rfl (fun _ _ => rfl) (v := yR k0) rfl rfl ?_
  refine yG.invV (rest := []) A_h6.1 (bOb (d_M W) H_k0) rfl rfl rfl rfl (c_GModel_changed W d A_h6.1 H_k0) (fun rv h7 q9 => ?_)
  obtain ⟨⟨rfl, R_z8⟩, B_h7⟩ := q9
  have A_h7 := A_h6.tr B_h7 (by decide)
  have M_bSm_h7 := M_bSm_h6.fr B_h7 (by decide)
  have : ys h7 k0 70 = ys h6 k0 70 := B_h7.ys H_k0 (by decide)
  have : ys h7 k0 71 = ys h6 k0 71 := B_h7.ys H_k0 (by decide)
  show yG _ _ _ _ _ _ _ _ _ _ [] _
  refine yG.ret rfl (fun _ _ => rfl) ?_
  have M_bSm_h7 : bSm G h7 := fun q Hq => by
    have e : q = k0 := (u_M W Hq).trans (u_M W H_k0).symm
    subst e; omega
  exact (yP.void ⟨⟨⟨rfl, trivial⟩, A_h7⟩, M_bSm_h7⟩)
theorem c_GModel_shortIs_1 {hp : xH} (W : mW G) (d : Nat) (hT : zTy G hp) (M_bSm : bSm G hp) {k0 : Nat} (H_k0 : bRo G 116 k0) (p1 p2 p3 p4 p5 : Int) (h1l : 0 ≤ p1) (h1u : p1 ≤ 3) (h2l : 1 ≤ p2) (h2u : p2 ≤ 1) (h3l : 0 ≤ p3) (h3u : p3 ≤ 19) (h4l : 0 ≤ p4) (h4u : p4 ≤ 15) (h5l : 0 ≤ p5) (h5u : p5 ≤ 99) : yC (xcall 89 xfts xpools xms (d + 2)) 510 [yR k0, yI (p1), yI (p2), yI (p3), yI (p4), yI (p5)] hp (fun rv hp' => (fun rv hp' => (rv = none ∧ True) ∧ bAx G [(83076749736557242056487941267521536, 40), (83076749736557242056487941267521536, 49), (83076749736557242056487941267521536, 62), (83076749736557242056487941267521536, 68), (83076749736557242056487941267521536, 69), (83076749736557242056487941267521536, 70), (83076749736557242056487941267521536, 71), (83076749736557242056487941267521536, 72), (83076749736557242056487941267521536, 73), (83076749736557242056487941267521536, 77), (83076749736557242056487941267521536, 90), (83076749736557242056487941267521536, 101)] hp hp') rv hp' ∧ bSm G hp') := by
  have A_hp : bAx G [(83076749736557242056487941267521536, 40), (83076749736557242056487941267521536, 49), (83076749736557242056487941267521536, 62), (83076749736557242056487941267521536, 68), (83076749736557242056487941267521536, 69), (83076749736557242056487941267521536, 70), (83076749736557242056487941267521536, 71), (83076749736557242056487941267521536, 72), (83076749736557242056487941267521536, 73), (83076749736557242056487941267521536, 77), (83076749736557242056487941267521536, 90), (83076749736557242056487941267521536, 101)] hp hp := bAx.rf hT
  have M_bSm_hp := M_bSm
  refine yC.of (M := (xt_X13_shortIs, (6, (0, (14, []))))) rfl rfl (N := 69) (yfuel (by decide)) ?_
  show yG 89 xfts (xcall 89 xfts xpools xms (d + 1)) (xpool xp_RX13) [] xt_X13_shortIs (yP 0 (fun rv hp' => (fun rv hp' => (rv = none ∧ True) ∧ bAx G [(83076749736557242056487941267521536, 40), (83076749736557242056487941267521536, 49), (83076749736557242056487941267521536, 62), (83076749736557242056487941267521536, 68), (83076749736557242056487941267521536, 69), (83076749736557242056487941267521536, 70), (83076749736557242056487941267521536, 71), (83076749736557242056487941267521536, 72), (83076749736557242056487941267521536, 73), (83076749736557242056487941267521536, 77), (83076749736557242056487941267521536, 90), (83076749736557242056487941267521536, 101)] hp hp') rv hp' ∧ bSm G hp')) 69 0 [(0, yR k0), (1, yI (p1)), (2, yI (p2)), (3, yI (p3)), (4, yI (p4)), (5, yI (p5))] [] hp
  refine yG.load xak rfl (fun _ _ => rfl) (v := yR k0) rfl rfl ?_
  refine yG.num (c := 1) rfl (fun _ _ => rfl) (by decide) ?_
  refine yG.putI A_hp.1 (w_M_hasShort W H_k0) (W.2.1 _ _ H_k0 (by decide) (by decide)) rfl rfl (.inr ⟨rfl, rfl, rfl⟩) ⟨by omega, by omega⟩ (by omega) (by omega) (fun h1 T_h1 b_h1 f_h1 y_h1 => ?_)
  have M_bSm_h1 := M_bSm_hp.fr (bAx.put (Wl := [(83076749736557242056487941267521536, 68)]) (bAx.rf A_hp.1) T_h1 b_h1 f_h1 H_k0 (by decide)) (by decide)
  have A_h1 := A_hp.put T_h1 b_h1 f_h1 H_k0 (by decide)
  refine yG.load xak rfl (fun _ _ => rfl) (v := yR k0) rfl rfl ?_
  refine yG.load xik rfl (fun _ _ => rfl) (v := yI (p1)) rfl rfl ?_
  refine yG.putI A_h1.1 (w_M_shortKind W H_k0) (W.2.1 _ _ H_k0 (by decide) (by decide)) rfl rfl (.inl rfl) ⟨by omega, by omega⟩ (by omega) (by omega) (fun h2 T_h2 b_h2 f_h2 y_h2 => ?_)
  have M_bSm_h2 := M_bSm_h1.fr (bAx.put (Wl := [(83076749736557242056487941267521536, 69)]) (bAx.rf A_h1.1) T_h2 b_h2 f_h2 H_k0 (by decide)) (by decide)
  have A_h2 := A_h1.put T_h2 b_h2 f_h2 H_k0 (by decide)
  refine yG.load xak rfl (fun _ _ => rfl) (v := yR k0) rfl rfl ?_
  refine yG.load xik rfl (fun _ _ => rfl) (v := yI (p2)) rfl rfl ?_
  refine yG.putI A_h2.1 (w_M_isOnLine W H_k0) (W.2.1 _ _ H_k0 (by decide) (by decide)) rfl rfl (.inr ⟨rfl, rfl, rfl⟩) ⟨by omega, by omega⟩ (by omega) (by omega) (fun h3 T_h3 b_h3 f_h3 y_h3 => ?_)
  have A_h3 := A_h2.put T_h3 b_h3 f_h3 H_k0 (by decide)
  have : ys h3 k0 70 = p2 := (y_h3 k0 70).trans (if_pos ⟨rfl, rfl⟩)
  refine yG.load xak rfl (fun _ _ => rfl) (v := yR k0) rfl rfl ?_
  refine yG.load xik rfl (fun _ _ => rfl) (v := yI (p3)) rfl rfl ?_
  refine yG.putI A_h3.1 (w_M_shortPlace W H_k0) (W.2.1 _ _ H_k0 (by decide) (by decide)) rfl rfl (.inl rfl) ⟨by omega, by omega⟩ (by omega) (by omega) (fun h4 T_h4 b_h4 f_h4 y_h4 => ?_)
  have A_h4 := A_h3.put T_h4 b_h4 f_h4 H_k0 (by decide)
  have : ys h4 k0 70 = ys h3 k0 70 := (y_h4 k0 70).trans (if_neg (fun e => absurd e.2 (by decide)))
  have : ys h4 k0 71 = p3 := (y_h4 k0 71).trans (if_pos ⟨rfl, rfl⟩)
  refine yG.load xak rfl (fun _ _ => rfl) (v := yR k0) rfl rfl ?_
  refine yG.load xik rfl (fun _ _ => rfl) (v := yI (p4)) rfl rfl ?_
  refine yG.putI A_h4.1 (w_M_shortK W H_k0) (W.2.1 _ _ H_k0 (by decide) (by decide)) rfl rfl (.inl rfl) ⟨by omega, by omega⟩ (by omega) (by omega) (fun h5 T_h5 b_h5 f_h5 y_h5 => ?_)
  have A_h5 := A_h4.put T_h5 b_h5 f_h5 H_k0 (by decide)
  have : ys h5 k0 70 = ys h4 k0 70 := (y_h5 k0 70).trans (if_neg (fun e => absurd e.2 (by decide)))
  have : ys h5 k0 71 = ys h4 k0 71 := (y_h5 k0 71).trans (if_neg (fun e => absurd e.2 (by decide)))
  refine yG.load xak rfl (fun _ _ => rfl) (v := yR k0) rfl rfl ?_
  refine yG.load xik rfl (fun _ _ => rfl) (v := yI (p5)) rfl rfl ?_
  refine yG.putI A_h5.1 (w_M_shortZ W H_k0) (W.2.1 _ _ H_k0 (by decide) (by decide)) rfl rfl (.inl rfl) ⟨by omega, by omega⟩ (by omega) (by omega) (fun h6 T_h6 b_h6 f_h6 y_h6 => ?_)
  have A_h6 := A_h5.put T_h6 b_h6 f_h6 H_k0 (by decide)
  have : ys h6 k0 70 = ys h5 k0 70 := (y_h6 k0 70).trans (if_neg (fun e => absurd e.2 (by decide)))
  have : ys h6 k0 71 = ys h5 k0 71 := (y_h6 k0 71).trans (if_neg (fun e => absurd e.2 (by decide)))
  refine yG.load xak rfl (fun _ _ => rfl) (v := yR k0) rfl rfl ?_
  refine yG.invV (rest := []) A_h6.1 (bOb (d_M W) H_k0) rfl rfl rfl rfl (c_GModel_changed W d A_h6.1 H_k0) (fun rv h7 q9 => ?_)
  obtain ⟨⟨rfl, R_z8⟩, B_h7⟩ := q9
  have A_h7 := A_h6.tr B_h7 (by decide)
  have M_bSm_h7 := M_bSm_h6.fr B_h7 (by decide)
  have : ys h7 k0 70 = ys h6 k0 70 := B_h7.ys H_k0 (by decide)
  have : ys h7 k0 71 = ys h6 k0 71 := B_h7.ys H_k0 (by decide)
  show yG _ _ _ _ _ _ _ _ _ _ [] _
  refine yG.ret rfl (fun _ _ => rfl) ?_
  have M_bSm_h7 : bSm G h7 := fun q Hq => by
    have e : q = k0 := (u_M W Hq).trans (u_M W H_k0).symm
    subst e; omega
  exact (yP.void ⟨⟨⟨rfl, trivial⟩, A_h7⟩, M_bSm_h7⟩)
theorem c_GModel_shortAt {hp : xH} (W : mW G) (d : Nat) (hT : zTy G hp) (M_bSm : bSm G hp) {k0 : Nat} (H_k0 : bRo G 116 k0) (p1 p2 p3 : Int) (h1l : (-2147483648) ≤ p1) (h1u : p1 ≤ 2147483647) (h2l : (-2147483648) ≤ p2) (h2u : p2 ≤ 2147483647) (h3l : (-2147483648) ≤ p3) (h3u : p3 ≤ 2147483647) : yC (xcall 89 xfts xpools xms (d + 3)) 509 [yR k0, yI (p1), yI (p2), yI (p3)] hp (fun rv hp' => (fun rv hp' => (rv = none ∧ True) ∧ bAx G [(83076749736557242056487941267521536, 0), (83076749736557242056487941267521536, 40), (83076749736557242056487941267521536, 49), (83076749736557242056487941267521536, 62), (83076749736557242056487941267521536, 68), (83076749736557242056487941267521536, 69), (83076749736557242056487941267521536, 70), (83076749736557242056487941267521536, 71), (83076749736557242056487941267521536, 72), (83076749736557242056487941267521536, 73), (83076749736557242056487941267521536, 77), (83076749736557242056487941267521536, 90), (83076749736557242056487941267521536, 101)] hp hp') rv hp' ∧ bSm G hp') := by
  have A_hp : bAx G [(83076749736557242056487941267521536, 0), (83076749736557242056487941267521536, 40), (83076749736557242056487941267521536, 49), (83076749736557242056487941267521536, 62), (83076749736557242056487941267521536, 68), (83076749736557242056487941267521536, 69), (83076749736557242056487941267521536, 70), (83076749736557242056487941267521536, 71), (83076749736557242056487941267521536, 72), (83076749736557242056487941267521536, 73), (83076749736557242056487941267521536, 77), (83076749736557242056487941267521536, 90), (83076749736557242056487941267521536, 101)] hp hp := bAx.rf hT
  have M_bSm_hp := M_bSm
  refine yC.of (M := (xt_X13_shortAt, (4, (0, (14, []))))) rfl rfl (N := 120) (yfuel (by decide)) ?_
  show yG 89 xfts (xcall 89 xfts xpools xms (d + 2)) (xpool xp_RX13) [] xt_X13_shortAt (yP 0 (fun rv hp' => (fun rv hp' => (rv = none ∧ True) ∧ bAx G [(83076749736557242056487941267521536, 0), (83076749736557242056487941267521536, 40), (83076749736557242056487941267521536, 49), (83076749736557242056487941267521536, 62), (83076749736557242056487941267521536, 68), (83076749736557242056487941267521536, 69), (83076749736557242056487941267521536, 70), (83076749736557242056487941267521536, 71), (83076749736557242056487941267521536, 72), (83076749736557242056487941267521536, 73), (83076749736557242056487941267521536, 77), (83076749736557242056487941267521536, 90), (83076749736557242056487941267521536, 101)] hp hp') rv hp' ∧ bSm G hp')) 120 0 [(0, yR k0), (1, yI (p1)), (2, yI (p2)), (3, yI (p3))] [] hp
  refine yG.load xak rfl (fun _ _ => rfl) (v := yR k0) rfl rfl ?_
  refine yG.load xik rfl (fun _ _ => rfl) (v := yI (p2)) rfl rfl ?_
  refine yG.i2l rfl ⟨by omega, by omega⟩ ?_
  refine yG.numl (c := 0) rfl (fun _ _ => rfl) (by decide) ?_
  refine yG.load xak rfl (fun _ _ => rfl) (v := yR k0) rfl rfl ?_
  refine yG.getO A_hp.1 (w_M_count W H_k0) rfl rfl (fun r1 H_r1 O_r1 q_r1 => ?_)
  refine yG.num (c := 0) rfl (fun _ _ => rfl) (by decide) ?_
  refine yG.ialdF A_hp.1 (v_M_count W H_r1) rfl rfl (by omega) (by omega) (fun z2 e_z2 i_z2 l_z2 u_z2 => ?_)
  refine yG.num (c := 1) rfl (fun _ _ => rfl) (by decide) ?_
  refine yG.isub rfl ?_
  refine yG.i2l rfl ⟨by omega, by omega⟩ ?_
  refine yG.invS (rest := [yR k0]) rfl rfl rfl rfl (c_GModel_in W (d + 1) A_hp.1 (p2) (0) (z2 - 1) (by omega) (by omega) (by omega) (by omega) (by omega) (by omega)) (fun rv hp9 q9 => ?_)
  obtain ⟨⟨z3, rfl, l_z3, u_z3, R_z3⟩, e9⟩ := q9
  rw [e9]
  show yG _ _ _ _ _ _ _ _ _ _ (yI z3 :: [yR k0]) _
  refine yG.ifz rfl (t := 23) rfl ⟨by omega, by omega⟩ (fun c4 => ?_) (fun c4 => ?_)
  · have c4 : (z3 : Int) ≠ 0 := c4
    refine yG.load xik rfl (fun _ _ => rfl) (v := yI (p1)) rfl rfl ?_
    refine yG.i2l rfl ⟨by omega, by omega⟩ ?_
    refine yG.numl (c := 0) rfl (fun _ _ => rfl) (by decide) ?_
    refine yG.numl (c := 3) rfl (fun _ _ => rfl) (by decide) ?_
    refine yG.invS (rest := [yR k0]) rfl rfl rfl rfl (c_GModel_in W (d + 1) A_hp.1 (p1) (0) (3) (by omega) (by omega) (by omega) (by omega) (by omega) (by omega)) (fun rv hp9 q9 => ?_)
    obtain ⟨⟨z5, rfl, l_z5, u_z5, R_z5⟩, e9⟩ := q9
    rw [e9]
    show yG _ _ _ _ _ _ _ _ _ _ (yI z5 :: [yR k0]) _
    refine yG.ifz rfl (t := 47) rfl ⟨by omega, by omega⟩ (fun c6 => ?_) (fun c6 => ?_)
    · have c6 : (z5 : Int) = 0 := c6
      refine yG.num (c := 2) rfl (fun _ _ => rfl) (by decide) ?_
      refine yG.goto rfl (t := 52) rfl ?_
      refine yG.putI A_hp.1 (w_M_thrown W H_k0) (W.2.1 _ _ H_k0 (by decide) (by decide)) rfl rfl (.inl rfl) ⟨by omega, by omega⟩ (by omega) (by omega) (fun h7 T_h7 b_h7 f_h7 y_h7 => ?_)
      have M_bSm_h7 := M_bSm_hp.fr (bAx.put (Wl := [(83076749736557242056487941267521536, 0)]) (bAx.rf A_hp.1) T_h7 b_h7 f_h7 H_k0 (by decide)) (by decide)
      have A_h7 := A_hp.put T_h7 b_h7 f_h7 H_k0 (by decide)
      have : ys h7 k0 0 = 2 := (y_h7 k0 0).trans (if_pos ⟨rfl, rfl⟩)
      refine yG.load xak rfl (fun _ _ => rfl) (v := yR k0) rfl rfl ?_
      refine yG.getI A_h7.1 (w_M_thrown W H_k0) rfl rfl (fun z8 e_z8 i_z8 l_z8 u_z8 => ?_)
      refine yG.ifz rfl (t := 71) rfl ⟨by omega, by omega⟩ (fun c9 => ?_) (fun c9 => ?_)
      · have c9 : (z8 : Int) ≠ 0 := c9
        refine yG.ret rfl (fun _ _ => rfl) ?_
        exact (yP.void ⟨⟨⟨rfl, trivial⟩, A_h7⟩, M_bSm_h7⟩)
      · have c9 : (z8 : Int) = 0 := c9
        exfalso; omega
    · have c6 : (z5 : Int) ≠ 0 := c6
      refine yG.load xik rfl (fun _ _ => rfl) (v := yI (p3)) rfl rfl ?_
      refine yG.i2l rfl ⟨by omega, by omega⟩ ?_
      refine yG.numl (c := 0) rfl (fun _ _ => rfl) (by decide) ?_
      refine yG.numl (c := 99) rfl (fun _ _ => rfl) (by decide) ?_
      refine yG.invS (rest := [yR k0]) rfl rfl rfl rfl (c_GModel_in W (d + 1) A_hp.1 (p3) (0) (99) (by omega) (by omega) (by omega) (by omega) (by omega) (by omega)) (fun rv hp9 q9 => ?_)
      obtain ⟨⟨z10, rfl, l_z10, u_z10, R_z10⟩, e9⟩ := q9
      rw [e9]
      show yG _ _ _ _ _ _ _ _ _ _ (yI z10 :: [yR k0]) _
      refine yG.ifz rfl (t := 51) rfl ⟨by omega, by omega⟩ (fun c11 => ?_) (fun c11 => ?_)
      · have c11 : (z10 : Int) ≠ 0 := c11
        refine yG.num (c := 0) rfl (fun _ _ => rfl) (by decide) ?_
        refine yG.putI A_hp.1 (w_M_thrown W H_k0) (W.2.1 _ _ H_k0 (by decide) (by decide)) rfl rfl (.inl rfl) ⟨by omega, by omega⟩ (by omega) (by omega) (fun h12 T_h12 b_h12 f_h12 y_h12 => ?_)
        have M_bSm_h12 := M_bSm_hp.fr (bAx.put (Wl := [(83076749736557242056487941267521536, 0)]) (bAx.rf A_hp.1) T_h12 b_h12 f_h12 H_k0 (by decide)) (by decide)
        have A_h12 := A_hp.put T_h12 b_h12 f_h12 H_k0 (by decide)
        have : ys h12 k0 0 = 0 := (y_h12 k0 0).trans (if_pos ⟨rfl, rfl⟩)
        refine yG.load xak rfl (fun _ _ => rfl) (v := yR k0) rfl rfl ?_
        refine yG.getI A_h12.1 (w_M_thrown W H_k0) rfl rfl (fun z13 e_z13 i_z13 l_z13 u_z13 => ?_)
        refine yG.ifz rfl (t := 71) rfl ⟨by omega, by omega⟩ (fun c14 => ?_) (fun c14 => ?_)
        · have c14 : (z13 : Int) ≠ 0 := c14
          exfalso; omega
        · have c14 : (z13 : Int) = 0 := c14
          refine yG.load xak rfl (fun _ _ => rfl) (v := yR k0) rfl rfl ?_
          refine yG.load xik rfl (fun _ _ => rfl) (v := yI (p1)) rfl rfl ?_
          refine yG.num (c := 0) rfl (fun _ _ => rfl) (by decide) ?_
          refine yG.load xik rfl (fun _ _ => rfl) (v := yI (p2)) rfl rfl ?_
          refine yG.num (c := 0) rfl (fun _ _ => rfl) (by decide) ?_
          refine yG.load xik rfl (fun _ _ => rfl) (v := yI (p3)) rfl rfl ?_
          refine yG.invV (rest := []) A_h12.1 (bOb (d_M W) H_k0) rfl rfl rfl rfl (c_GModel_shortIs_0 W d A_h12.1 M_bSm_h12 H_k0 (p1) (0) (p2) (0) (p3) (by omega) (by omega) (by omega) (by omega) (by omega) (by omega) (by omega) (by omega) (by omega) (by omega)) (fun rv h15 q9 => ?_)
          obtain ⟨q9, M_bSm_h15⟩ := q9
          obtain ⟨⟨rfl, R_z16⟩, B_h15⟩ := q9
          have A_h15 := A_h12.tr B_h15 (by decide)
          have : ys h15 k0 0 = ys h12 k0 0 := B_h15.ys H_k0 (by decide)
          show yG _ _ _ _ _ _ _ _ _ _ [] _
          refine yG.ret rfl (fun _ _ => rfl) ?_
          exact (yP.void ⟨⟨⟨rfl, trivial⟩, A_h15⟩, M_bSm_h15⟩)
      · have c11 : (z10 : Int) = 0 := c11
        refine yG.num (c := 2) rfl (fun _ _ => rfl) (by decide) ?_
        refine yG.goto rfl (t := 52) rfl ?_
        refine yG.putI A_hp.1 (w_M_thrown W H_k0) (W.2.1 _ _ H_k0 (by decide) (by decide)) rfl rfl (.inl rfl) ⟨by omega, by omega⟩ (by omega) (by omega) (fun h17 T_h17 b_h17 f_h17 y_h17 => ?_)
        have M_bSm_h17 := M_bSm_hp.fr (bAx.put (Wl := [(83076749736557242056487941267521536, 0)]) (bAx.rf A_hp.1) T_h17 b_h17 f_h17 H_k0 (by decide)) (by decide)
        have A_h17 := A_hp.put T_h17 b_h17 f_h17 H_k0 (by decide)
        have : ys h17 k0 0 = 2 := (y_h17 k0 0).trans (if_pos ⟨rfl, rfl⟩)
        refine yG.load xak rfl (fun _ _ => rfl) (v := yR k0) rfl rfl ?_
        refine yG.getI A_h17.1 (w_M_thrown W H_k0) rfl rfl (fun z18 e_z18 i_z18 l_z18 u_z18 => ?_)
        refine yG.ifz rfl (t := 71) rfl ⟨by omega, by omega⟩ (fun c19 => ?_) (fun c19 => ?_)
        · have c19 : (z18 : Int) ≠ 0 := c19
          refine yG.ret rfl (fun _ _ => rfl) ?_
          exact (yP.void ⟨⟨⟨rfl, trivial⟩, A_h17⟩, M_bSm_h17⟩)
        · have c19 : (z18 : Int) = 0 := c19
          exfalso; omega
  · have c4 : (z3 : Int) = 0 := c4
    refine yG.num (c := 1) rfl (fun _ _ => rfl) (by decide) ?_
    refine yG.goto rfl (t := 52) rfl ?_
    refine yG.putI A_hp.1 (w_M_thrown W H_k0) (W.2.1 _ _ H_k0 (by decide) (by decide)) rfl rfl (.inl rfl) ⟨by omega, by omega⟩ (by omega) (by omega) (fun h20 T_h20 b_h20 f_h20 y_h20 => ?_)
    have M_bSm_h20 := M_bSm_hp.fr (bAx.put (Wl := [(83076749736557242056487941267521536, 0)]) (bAx.rf A_hp.1) T_h20 b_h20 f_h20 H_k0 (by decide)) (by decide)
    have A_h20 := A_hp.put T_h20 b_h20 f_h20 H_k0 (by decide)
    have : ys h20 k0 0 = 1 := (y_h20 k0 0).trans (if_pos ⟨rfl, rfl⟩)
    refine yG.load xak rfl (fun _ _ => rfl) (v := yR k0) rfl rfl ?_
    refine yG.getI A_h20.1 (w_M_thrown W H_k0) rfl rfl (fun z21 e_z21 i_z21 l_z21 u_z21 => ?_)
    refine yG.ifz rfl (t := 71) rfl ⟨by omega, by omega⟩ (fun c22 => ?_) (fun c22 => ?_)
    · have c22 : (z21 : Int) ≠ 0 := c22
      refine yG.ret rfl (fun _ _ => rfl) ?_
      exact (yP.void ⟨⟨⟨rfl, trivial⟩, A_h20⟩, M_bSm_h20⟩)
    · have c22 : (z21 : Int) = 0 := c22
      exfalso; omega
theorem c_GModel_shortOn {hp : xH} (W : mW G) (d : Nat) (hT : zTy G hp) (M_bSm : bSm G hp) {k0 : Nat} (H_k0 : bRo G 116 k0) (p1 p2 p3 p4 : Int) (h1l : (-2147483648) ≤ p1) (h1u : p1 ≤ 2147483647) (h2l : (-2147483648) ≤ p2) (h2u : p2 ≤ 2147483647) (h3l : (-2147483648) ≤ p3) (h3u : p3 ≤ 2147483647) (h4l : (-2147483648) ≤ p4) (h4u : p4 ≤ 2147483647) : yC (xcall 89 xfts xpools xms (d + 3)) 511 [yR k0, yI (p1), yI (p2), yI (p3), yI (p4)] hp (fun rv hp' => (fun rv hp' => (rv = none ∧ True) ∧ bAx G [(83076749736557242056487941267521536, 0), (83076749736557242056487941267521536, 40), (83076749736557242056487941267521536, 49), (83076749736557242056487941267521536, 62), (83076749736557242056487941267521536, 68), (83076749736557242056487941267521536, 69), (83076749736557242056487941267521536, 70), (83076749736557242056487941267521536, 71), (83076749736557242056487941267521536, 72), (83076749736557242056487941267521536, 73), (83076749736557242056487941267521536, 77), (83076749736557242056487941267521536, 90), (83076749736557242056487941267521536, 101)] hp hp') rv hp' ∧ bSm G hp') := by
  have A_hp : bAx G [(83076749736557242056487941267521536, 0), (83076749736557242056487941267521536, 40), (83076749736557242056487941267521536, 49), (83076749736557242056487941267521536, 62), (83076749736557242056487941267521536, 68), (83076749736557242056487941267521536, 69), (83076749736557242056487941267521536, 70), (83076749736557242056487941267521536, 71), (83076749736557242056487941267521536, 72), (83076749736557242056487941267521536, 73), (83076749736557242056487941267521536, 77), (83076749736557242056487941267521536, 90), (83076749736557242056487941267521536, 101)] hp hp := bAx.rf hT
  have M_bSm_hp := M_bSm
  refine yC.of (M := (xt_X13_shortOn, (5, (0, (14, []))))) rfl rfl (N := 138) (yfuel (by decide)) ?_
  show yG 89 xfts (xcall 89 xfts xpools xms (d + 2)) (xpool xp_RX13) [] xt_X13_shortOn (yP 0 (fun rv hp' => (fun rv hp' => (rv = none ∧ True) ∧ bAx G [(83076749736557242056487941267521536, 0), (83076749736557242056487941267521536, 40), (83076749736557242056487941267521536, 49), (83076749736557242056487941267521536, 62), (83076749736557242056487941267521536, 68), (83076749736557242056487941267521536, 69), (83076749736557242056487941267521536, 70), (83076749736557242056487941267521536, 71), (83076749736557242056487941267521536, 72), (83076749736557242056487941267521536, 73), (83076749736557242056487941267521536, 77), (83076749736557242056487941267521536, 90), (83076749736557242056487941267521536, 101)] hp hp') rv hp' ∧ bSm G hp')) 138 0 [(0, yR k0), (1, yI (p1)), (2, yI (p2)), (3, yI (p3)), (4, yI (p4))] [] hp
  refine yG.load xak rfl (fun _ _ => rfl) (v := yR k0) rfl rfl ?_
  refine yG.load xik rfl (fun _ _ => rfl) (v := yI (p2)) rfl rfl ?_
  refine yG.i2l rfl ⟨by omega, by omega⟩ ?_
  refine yG.numl (c := 0) rfl (fun _ _ => rfl) (by decide) ?_
  refine yG.load xak rfl (fun _ _ => rfl) (v := yR k0) rfl rfl ?_
  refine yG.getO A_hp.1 (w_M_count W H_k0) rfl rfl (fun r1 H_r1 O_r1 q_r1 => ?_)
  refine yG.num (c := 2) rfl (fun _ _ => rfl) (by decide) ?_
  refine yG.ialdF A_hp.1 (v_M_count W H_r1) rfl rfl (by omega) (by omega) (fun z2 e_z2 i_z2 l_z2 u_z2 => ?_)
  refine yG.num (c := 1) rfl (fun _ _ => rfl) (by decide) ?_
  refine yG.isub rfl ?_
  refine yG.i2l rfl ⟨by omega, by omega⟩ ?_
  refine yG.invS (rest := [yR k0]) rfl rfl rfl rfl (c_GModel_in W (d + 1) A_hp.1 (p2) (0) (z2 - 1) (by omega) (by omega) (by omega) (by omega) (by omega) (by omega)) (fun rv hp9 q9 => ?_)
  obtain ⟨⟨z3, rfl, l_z3, u_z3, R_z3⟩, e9⟩ := q9
  rw [e9]
  show yG _ _ _ _ _ _ _ _ _ _ (yI z3 :: [yR k0]) _
  refine yG.ifz rfl (t := 23) rfl ⟨by omega, by omega⟩ (fun c4 => ?_) (fun c4 => ?_)
  · have c4 : (z3 : Int) ≠ 0 := c4
    refine yG.load xik rfl (fun _ _ => rfl) (v := yI (p1)) rfl rfl ?_
    refine yG.i2l rfl ⟨by omega, by omega⟩ ?_
    refine yG.numl (c := 0) rfl (fun _ _ => rfl) (by decide) ?_
    refine yG.numl (c := 3) rfl (fun _ _ => rfl) (by decide) ?_
    refine yG.invS (rest := [yR k0]) rfl rfl rfl rfl (c_GModel_in W (d + 1) A_hp.1 (p1) (0) (3) (by omega) (by omega) (by omega) (by omega) (by omega) (by omega)) (fun rv hp9 q9 => ?_)
    obtain ⟨⟨z5, rfl, l_z5, u_z5, R_z5⟩, e9⟩ := q9
    rw [e9]
    show yG _ _ _ _ _ _ _ _ _ _ (yI z5 :: [yR k0]) _
    refine yG.ifz rfl (t := 60) rfl ⟨by omega, by omega⟩ (fun c6 => ?_) (fun c6 => ?_)
    · have c6 : (z5 : Int) = 0 := c6
      refine yG.num (c := 2) rfl (fun _ _ => rfl) (by decide) ?_
      refine yG.goto rfl (t := 65) rfl ?_
      refine yG.putI A_hp.1 (w_M_thrown W H_k0) (W.2.1 _ _ H_k0 (by decide) (by decide)) rfl rfl (.inl rfl) ⟨by omega, by omega⟩ (by omega) (by omega) (fun h7 T_h7 b_h7 f_h7 y_h7 => ?_)
      have M_bSm_h7 := M_bSm_hp.fr (bAx.put (Wl := [(83076749736557242056487941267521536, 0)]) (bAx.rf A_hp.1) T_h7 b_h7 f_h7 H_k0 (by decide)) (by decide)
      have A_h7 := A_hp.put T_h7 b_h7 f_h7 H_k0 (by decide)
      have : ys h7 k0 0 = 2 := (y_h7 k0 0).trans (if_pos ⟨rfl, rfl⟩)
      refine yG.load xak rfl (fun _ _ => rfl) (v := yR k0) rfl rfl ?_
      refine yG.getI A_h7.1 (w_M_thrown W H_k0) rfl rfl (fun z8 e_z8 i_z8 l_z8 u_z8 => ?_)
      refine yG.ifz rfl (t := 85) rfl ⟨by omega, by omega⟩ (fun c9 => ?_) (fun c9 => ?_)
      · have c9 : (z8 : Int) ≠ 0 := c9
        refine yG.ret rfl (fun _ _ => rfl) ?_
        exact (yP.void ⟨⟨⟨rfl, trivial⟩, A_h7⟩, M_bSm_h7⟩)
      · have c9 : (z8 : Int) = 0 := c9
        exfalso; omega
    · have c6 : (z5 : Int) ≠ 0 := c6
      refine yG.load xik rfl (fun _ _ => rfl) (v := yI (p3)) rfl rfl ?_
      refine yG.i2l rfl ⟨by omega, by omega⟩ ?_
      refine yG.numl (c := 1) rfl (fun _ _ => rfl) (by decide) ?_
      refine yG.numl (c := 15) rfl (fun _ _ => rfl) (by decide) ?_
      refine yG.invS (rest := [yR k0]) rfl rfl rfl rfl (c_GModel_in W (d + 1) A_hp.1 (p3) (1) (15) (by omega) (by omega) (by omega) (by omega) (by omega) (by omega)) (fun rv hp9 q9 => ?_)
      obtain ⟨⟨z10, rfl, l_z10, u_z10, R_z10⟩, e9⟩ := q9
      rw [e9]
      show yG _ _ _ _ _ _ _ _ _ _ (yI z10 :: [yR k0]) _
      refine yG.ifz rfl (t := 60) rfl ⟨by omega, by omega⟩ (fun c11 => ?_) (fun c11 => ?_)
      · have c11 : (z10 : Int) = 0 := c11
        refine yG.num (c := 2) rfl (fun _ _ => rfl) (by decide) ?_
        refine yG.goto rfl (t := 65) rfl ?_
        refine yG.putI A_hp.1 (w_M_thrown W H_k0) (W.2.1 _ _ H_k0 (by decide) (by decide)) rfl rfl (.inl rfl) ⟨by omega, by omega⟩ (by omega) (by omega) (fun h12 T_h12 b_h12 f_h12 y_h12 => ?_)
        have M_bSm_h12 := M_bSm_hp.fr (bAx.put (Wl := [(83076749736557242056487941267521536, 0)]) (bAx.rf A_hp.1) T_h12 b_h12 f_h12 H_k0 (by decide)) (by decide)
        have A_h12 := A_hp.put T_h12 b_h12 f_h12 H_k0 (by decide)
        have : ys h12 k0 0 = 2 := (y_h12 k0 0).trans (if_pos ⟨rfl, rfl⟩)
        refine yG.load xak rfl (fun _ _ => rfl) (v := yR k0) rfl rfl ?_
        refine yG.getI A_h12.1 (w_M_thrown W H_k0) rfl rfl (fun z13 e_z13 i_z13 l_z13 u_z13 => ?_)
        refine yG.ifz rfl (t := 85) rfl ⟨by omega, by omega⟩ (fun c14 => ?_) (fun c14 => ?_)
        · have c14 : (z13 : Int) ≠ 0 := c14
          refine yG.ret rfl (fun _ _ => rfl) ?_
          exact (yP.void ⟨⟨⟨rfl, trivial⟩, A_h12⟩, M_bSm_h12⟩)
        · have c14 : (z13 : Int) = 0 := c14
          exfalso; omega
      · have c11 : (z10 : Int) ≠ 0 := c11
        refine yG.load xik rfl (fun _ _ => rfl) (v := yI (p4)) rfl rfl ?_
        refine yG.i2l rfl ⟨by omega, by omega⟩ ?_
        refine yG.numl (c := 0) rfl (fun _ _ => rfl) (by decide) ?_
        refine yG.numl (c := 99) rfl (fun _ _ => rfl) (by decide) ?_
        refine yG.invS (rest := [yR k0]) rfl rfl rfl rfl (c_GModel_in W (d + 1) A_hp.1 (p4) (0) (99) (by omega) (by omega) (by omega) (by omega) (by omega) (by omega)) (fun rv hp9 q9 => ?_)
        obtain ⟨⟨z15, rfl, l_z15, u_z15, R_z15⟩, e9⟩ := q9
        rw [e9]
        show yG _ _ _ _ _ _ _ _ _ _ (yI z15 :: [yR k0]) _
        refine yG.ifz rfl (t := 64) rfl ⟨by omega, by omega⟩ (fun c16 => ?_) (fun c16 => ?_)
        · have c16 : (z15 : Int) ≠ 0 := c16
          refine yG.num (c := 0) rfl (fun _ _ => rfl) (by decide) ?_
          refine yG.putI A_hp.1 (w_M_thrown W H_k0) (W.2.1 _ _ H_k0 (by decide) (by decide)) rfl rfl (.inl rfl) ⟨by omega, by omega⟩ (by omega) (by omega) (fun h17 T_h17 b_h17 f_h17 y_h17 => ?_)
          have M_bSm_h17 := M_bSm_hp.fr (bAx.put (Wl := [(83076749736557242056487941267521536, 0)]) (bAx.rf A_hp.1) T_h17 b_h17 f_h17 H_k0 (by decide)) (by decide)
          have A_h17 := A_hp.put T_h17 b_h17 f_h17 H_k0 (by decide)
          have : ys h17 k0 0 = 0 := (y_h17 k0 0).trans (if_pos ⟨rfl, rfl⟩)
          refine yG.load xak rfl (fun _ _ => rfl) (v := yR k0) rfl rfl ?_
          refine yG.getI A_h17.1 (w_M_thrown W H_k0) rfl rfl (fun z18 e_z18 i_z18 l_z18 u_z18 => ?_)
          refine yG.ifz rfl (t := 85) rfl ⟨by omega, by omega⟩ (fun c19 => ?_) (fun c19 => ?_)
          · have c19 : (z18 : Int) ≠ 0 := c19
            exfalso; omega
          · have c19 : (z18 : Int) = 0 := c19
            refine yG.load xak rfl (fun _ _ => rfl) (v := yR k0) rfl rfl ?_
            refine yG.load xik rfl (fun _ _ => rfl) (v := yI (p1)) rfl rfl ?_
            refine yG.num (c := 1) rfl (fun _ _ => rfl) (by decide) ?_
            refine yG.load xik rfl (fun _ _ => rfl) (v := yI (p2)) rfl rfl ?_
            refine yG.load xik rfl (fun _ _ => rfl) (v := yI (p3)) rfl rfl ?_
            refine yG.load xik rfl (fun _ _ => rfl) (v := yI (p4)) rfl rfl ?_
            refine yG.invV (rest := []) A_h17.1 (bOb (d_M W) H_k0) rfl rfl rfl rfl (c_GModel_shortIs_1 W d A_h17.1 M_bSm_h17 H_k0 (p1) (1) (p2) (p3) (p4) (by omega) (by omega) (by omega) (by omega) (by omega) (by omega) (by omega) (by omega) (by omega) (by omega)) (fun rv h20 q9 => ?_)
            obtain ⟨q9, M_bSm_h20⟩ := q9
            obtain ⟨⟨rfl, R_z21⟩, B_h20⟩ := q9
            have A_h20 := A_h17.tr B_h20 (by decide)
            have : ys h20 k0 0 = ys h17 k0 0 := B_h20.ys H_k0 (by decide)
            show yG _ _ _ _ _ _ _ _ _ _ [] _
            refine yG.ret rfl (fun _ _ => rfl) ?_
            exact (yP.void ⟨⟨⟨rfl, trivial⟩, A_h20⟩, M_bSm_h20⟩)
        · have c16 : (z15 : Int) = 0 := c16
          refine yG.num (c := 2) rfl (fun _ _ => rfl) (by decide) ?_
          refine yG.goto rfl (t := 65) rfl ?_
          refine yG.putI A_hp.1 (w_M_thrown W H_k0) (W.2.1 _ _ H_k0 (by decide) (by decide)) rfl rfl (.inl rfl) ⟨by omega, by omega⟩ (by omega) (by omega) (fun h22 T_h22 b_h22 f_h22 y_h22 => ?_)
          have M_bSm_h22 := M_bSm_hp.fr (bAx.put (Wl := [(83076749736557242056487941267521536, 0)]) (bAx.rf A_hp.1) T_h22 b_h22 f_h22 H_k0 (by decide)) (by decide)
          have A_h22 := A_hp.put T_h22 b_h22 f_h22 H_k0 (by decide)
          have : ys h22 k0 0 = 2 := (y_h22 k0 0).trans (if_pos ⟨rfl, rfl⟩)
          refine yG.load xak rfl (fun _ _ => rfl) (v := yR k0) rfl rfl ?_
          refine yG.getI A_h22.1 (w_M_thrown W H_k0) rfl rfl (fun z23 e_z23 i_z23 l_z23 u_z23 => ?_)
          refine yG.ifz rfl (t := 85) rfl ⟨by omega, by omega⟩ (fun c24 => ?_) (fun c24 => ?_)
          · have c24 : (z23 : Int) ≠ 0 := c24
            refine yG.ret rfl (fun _ _ => rfl) ?_
            exact (yP.void ⟨⟨⟨rfl, trivial⟩, A_h22⟩, M_bSm_h22⟩)
          · have c24 : (z23 : Int) = 0 := c24
            exfalso; omega
  · have c4 : (z3 : Int) = 0 := c4
    refine yG.num (c := 1) rfl (fun _ _ => rfl) (by decide) ?_
    refine yG.goto rfl (t := 65) rfl ?_
    refine yG.putI A_hp.1 (w_M_thrown W H_k0) (W.2.1 _ _ H_k0 (by decide) (by decide)) rfl rfl (.inl rfl) ⟨by omega, by omega⟩ (by omega) (by omega) (fun h25 T_h25 b_h25 f_h25 y_h25 => ?_)
    have M_bSm_h25 := M_bSm_hp.fr (bAx.put (Wl := [(83076749736557242056487941267521536, 0)]) (bAx.rf A_hp.1) T_h25 b_h25 f_h25 H_k0 (by decide)) (by decide)
    have A_h25 := A_hp.put T_h25 b_h25 f_h25 H_k0 (by decide)
    have : ys h25 k0 0 = 1 := (y_h25 k0 0).trans (if_pos ⟨rfl, rfl⟩)
    refine yG.load xak rfl (fun _ _ => rfl) (v := yR k0) rfl rfl ?_
    refine yG.getI A_h25.1 (w_M_thrown W H_k0) rfl rfl (fun z26 e_z26 i_z26 l_z26 u_z26 => ?_)
    refine yG.ifz rfl (t := 85) rfl ⟨by omega, by omega⟩ (fun c27 => ?_) (fun c27 => ?_)
    · have c27 : (z26 : Int) ≠ 0 := c27
      refine yG.ret rfl (fun _ _ => rfl) ?_
      exact (yP.void ⟨⟨⟨rfl, trivial⟩, A_h25⟩, M_bSm_h25⟩)
    · have c27 : (z26 : Int) = 0 := c27
      exfalso; omega
theorem c_GModel_clearShort {hp : xH} (W : mW G) (d : Nat) (hT : zTy G hp) {k0 : Nat} (H_k0 : bRo G 116 k0) : yC (xcall 89 xfts xpools xms (d + 2)) 370 [yR k0] hp (bQi G [(83076749736557242056487941267521536, 0), (83076749736557242056487941267521536, 40), (83076749736557242056487941267521536, 49), (83076749736557242056487941267521536, 62), (83076749736557242056487941267521536, 68), (83076749736557242056487941267521536, 77), (83076749736557242056487941267521536, 90), (83076749736557242056487941267521536, 101)] hp 0 1 (fun _ => True)) := by
  have A_hp : bAx G [(83076749736557242056487941267521536, 0), (83076749736557242056487941267521536, 40), (83076749736557242056487941267521536, 49), (83076749736557242056487941267521536, 62), (83076749736557242056487941267521536, 68), (83076749736557242056487941267521536, 77), (83076749736557242056487941267521536, 90), (83076749736557242056487941267521536, 101)] hp hp := bAx.rf hT
  refine yC.of (M := (xt_X13_clearShort, (2, (4, (14, []))))) rfl rfl (N := 45) (yfuel (by decide)) ?_
  show yG 89 xfts (xcall 89 xfts xpools xms (d + 1)) (xpool xp_RX13) [] xt_X13_clearShort (yP 4 (bQi G [(83076749736557242056487941267521536, 0), (83076749736557242056487941267521536, 40), (83076749736557242056487941267521536, 49), (83076749736557242056487941267521536, 62), (83076749736557242056487941267521536, 68), (83076749736557242056487941267521536, 77), (83076749736557242056487941267521536, 90), (83076749736557242056487941267521536, 101)] hp 0 1 (fun _ => True))) 45 0 [(0, yR k0)] [] hp
  refine yG.load xak rfl (fun _ _ => rfl) (v := yR k0) rfl rfl ?_
  refine yG.num (c := 0) rfl (fun _ _ => rfl) (by decide) ?_
  refine yG.putI A_hp.1 (w_M_thrown W H_k0) (W.2.1 _ _ H_k0 (by decide) (by decide)) rfl rfl (.inl rfl) ⟨by omega, by omega⟩ (by omega) (by omega) (fun h1 T_h1 b_h1 f_h1 y_h1 => ?_)
  have A_h1 := A_hp.put T_h1 b_h1 f_h1 H_k0 (by decide)
  refine yG.load xak rfl (fun _ _ => rfl) (v := yR k0) rfl rfl ?_
  refine yG.getI A_h1.1 (w_M_hasShort W H_k0) rfl rfl (fun z2 e_z2 i_z2 l_z2 u_z2 => ?_)
  refine yG.store1 xik (L' := [(1, yI (z2)), (0, yR k0)]) rfl (fun _ _ => rfl) rfl rfl ?_
  refine yG.load xak rfl (fun _ _ => rfl) (v := yR k0) rfl rfl ?_
  refine yG.num (c := 0) rfl (fun _ _ => rfl) (by decide) ?_
  refine yG.putI A_h1.1 (w_M_hasShort W H_k0) (W.2.1 _ _ H_k0 (by decide) (by decide)) rfl rfl (.inr ⟨rfl, rfl, rfl⟩) ⟨by omega, by omega⟩ (by omega) (by omega) (fun h3 T_h3 b_h3 f_h3 y_h3 => ?_)
  have A_h3 := A_h1.put T_h3 b_h3 f_h3 H_k0 (by decide)
  refine yG.load xak rfl (fun _ _ => rfl) (v := yR k0) rfl rfl ?_
  refine yG.invV (rest := []) A_h3.1 (bOb (d_M W) H_k0) rfl rfl rfl rfl (c_GModel_changed W d A_h3.1 H_k0) (fun rv h4 q9 => ?_)
  obtain ⟨⟨rfl, R_z5⟩, B_h4⟩ := q9
  have A_h4 := A_h3.tr B_h4 (by decide)
  show yG _ _ _ _ _ _ _ _ _ _ [] _
  refine yG.load xik rfl (fun _ _ => rfl) (v := yI (z2)) rfl rfl ?_
  refine yG.ret rfl (fun _ _ => rfl) ?_
  exact (yP.bool (by omega) ⟨⟨z2, rfl, by omega, by omega, trivial⟩, A_h4⟩)
theorem c_GModel_relay {hp : xH} (W : mW G) (d : Nat) (hT : zTy G hp) {k0 : Nat} (H_k0 : bRo G 116 k0) (p1 p2 p3 p4 : Int) (h1l : (-2147483648) ≤ p1) (h1u : p1 ≤ 2147483647) (h2l : (-2147483648) ≤ p2) (h2u : p2 ≤ 2147483647) (h3l : (-2147483648) ≤ p3) (h3u : p3 ≤ 2147483647) (h4l : (-2147483648) ≤ p4) (h4u : p4 ≤ 2147483647) : yC (xcall 89 xfts xpools xms (d + 2)) 491 [yR k0, yI (p1), yI (p2), yI (p3), yI (p4)] hp (bQi G [(83076749736557242056487941267521536, 0), (83076749736557242056487941267521536, 40), (83076749736557242056487941267521536, 49), (83076749736557242056487941267521536, 62), (83076749736557242056487941267521536, 77), (83076749736557242056487941267521536, 78), (83076749736557242056487941267521536, 90), (83076749736557242056487941267521536, 101), (11598476993858045558864442832436422043989480661057536, 256)] hp 0 15 (fun z => 0 ≤ p1 - z + 2147483648 ∧ 0 ≤ p2 - z + 2147483648 ∧ 0 ≤ p3 - z + 2147483648 ∧ 0 ≤ p4 - z + 2147483648)) := by
  have A_hp : bAx G [(83076749736557242056487941267521536, 0), (83076749736557242056487941267521536, 40), (83076749736557242056487941267521536, 49), (83076749736557242056487941267521536, 62), (83076749736557242056487941267521536, 77), (83076749736557242056487941267521536, 78), (83076749736557242056487941267521536, 90), (83076749736557242056487941267521536, 101), (11598476993858045558864442832436422043989480661057536, 256)] hp hp := bAx.rf hT
  refine yC.of (M := (xt_X13_relay, (5, (1, (14, []))))) rfl rfl (N := 273) (yfuel (by decide)) ?_
  show yG 89 xfts (xcall 89 xfts xpools xms (d + 1)) (xpool xp_RX13) [] xt_X13_relay (yP 1 (bQi G [(83076749736557242056487941267521536, 0), (83076749736557242056487941267521536, 40), (83076749736557242056487941267521536, 49), (83076749736557242056487941267521536, 62), (83076749736557242056487941267521536, 77), (83076749736557242056487941267521536, 78), (83076749736557242056487941267521536, 90), (83076749736557242056487941267521536, 101), (11598476993858045558864442832436422043989480661057536, 256)] hp 0 15 (fun z => 0 ≤ p1 - z + 2147483648 ∧ 0 ≤ p2 - z + 2147483648 ∧ 0 ≤ p3 - z + 2147483648 ∧ 0 ≤ p4 - z + 2147483648))) 273 0 [(0, yR k0), (1, yI (p1)), (2, yI (p2)), (3, yI (p3)), (4, yI (p4))] [] hp
  refine yG.load xak rfl (fun _ _ => rfl) (v := yR k0) rfl rfl ?_
  refine yG.load xik rfl (fun _ _ => rfl) (v := yI (p1)) rfl rfl ?_
  refine yG.i2l rfl ⟨by omega, by omega⟩ ?_
  refine yG.numl (c := 0) rfl (fun _ _ => rfl) (by decide) ?_
  refine yG.load xak rfl (fun _ _ => rfl) (v := yR k0) rfl rfl ?_
  refine yG.getO A_hp.1 (w_M_count W H_k0) rfl rfl (fun r1 H_r1 O_r1 q_r1 => ?_)
  refine yG.num (c := 2) rfl (fun _ _ => rfl) (by decide) ?_
  refine yG.ialdF A_hp.1 (v_M_count W H_r1) rfl rfl (by omega) (by omega) (fun z2 e_z2 i_z2 l_z2 u_z2 => ?_)
  refine yG.num (c := 1) rfl (fun _ _ => rfl) (by decide) ?_
  refine yG.isub rfl ?_
  refine yG.i2l rfl ⟨by omega, by omega⟩ ?_
  refine yG.invS (rest := [yR k0]) rfl rfl rfl rfl (c_GModel_in W d A_hp.1 (p1) (0) (z2 - 1) (by omega) (by omega) (by omega) (by omega) (by omega) (by omega)) (fun rv hp9 q9 => ?_)
  obtain ⟨⟨z3, rfl, l_z3, u_z3, R_z3⟩, e9⟩ := q9
  rw [e9]
  show yG _ _ _ _ _ _ _ _ _ _ (yI z3 :: [yR k0]) _
  refine yG.ifz rfl (t := 37) rfl ⟨by omega, by omega⟩ (fun c4 => ?_) (fun c4 => ?_)
  · have c4 : (z3 : Int) = 0 := c4
    refine yG.num (c := 1) rfl (fun _ _ => rfl) (by decide) ?_
    refine yG.goto rfl (t := 80) rfl ?_
    refine yG.putI A_hp.1 (w_M_thrown W H_k0) (W.2.1 _ _ H_k0 (by decide) (by decide)) rfl rfl (.inl rfl) ⟨by omega, by omega⟩ (by omega) (by omega) (fun h5 T_h5 b_h5 f_h5 y_h5 => ?_)
    have A_h5 := A_hp.put T_h5 b_h5 f_h5 H_k0 (by decide)
    have qq1 : zsl h5 k0 22 = yR r1 := ((f_h5 k0 22).trans (if_neg (fun e => absurd e.2 (by decide)))).trans q_r1
    have : ys h5 k0 0 = 1 := (y_h5 k0 0).trans (if_pos ⟨rfl, rfl⟩)
    refine yG.load xak rfl (fun _ _ => rfl) (v := yR k0) rfl rfl ?_
    refine yG.getI A_h5.1 (w_M_thrown W H_k0) rfl rfl (fun z6 e_z6 i_z6 l_z6 u_z6 => ?_)
    refine yG.ifz rfl (t := 92) rfl ⟨by omega, by omega⟩ (fun c7 => ?_) (fun c7 => ?_)
    · have c7 : (z6 : Int) ≤ 0 := c7
      exfalso; omega
    · have c7 : (z6 : Int) > 0 := c7
      refine yG.num (c := 0) rfl (fun _ _ => rfl) (by decide) ?_
      refine yG.ret rfl (fun _ _ => rfl) ?_
      exact (yP.int ⟨by omega, by omega⟩ ⟨⟨0, rfl, by omega, by omega, by omega⟩, A_h5⟩)
  · have c4 : (z3 : Int) ≠ 0 := c4
    refine yG.load xik rfl (fun _ _ => rfl) (v := yI (p3)) rfl rfl ?_
    refine yG.i2l rfl ⟨by omega, by omega⟩ ?_
    refine yG.numl (c := 0) rfl (fun _ _ => rfl) (by decide) ?_
    refine yG.load xak rfl (fun _ _ => rfl) (v := yR k0) rfl rfl ?_
    refine yG.getS9 A_hp.1 (w_M_count W H_k0) q_r1 rfl rfl ?_
    refine yG.num (c := 1) rfl (fun _ _ => rfl) (by decide) ?_
    refine yG.ialdF A_hp.1 (v_M_count W H_r1) rfl rfl (by omega) (by omega) (fun z8 e_z8 i_z8 l_z8 u_z8 => ?_)
    refine yG.num (c := 1) rfl (fun _ _ => rfl) (by decide) ?_
    refine yG.isub rfl ?_
    refine yG.i2l rfl ⟨by omega, by omega⟩ ?_
    refine yG.invS (rest := [yR k0]) rfl rfl rfl rfl (c_GModel_in W d A_hp.1 (p3) (0) (z8 - 1) (by omega) (by omega) (by omega) (by omega) (by omega) (by omega)) (fun rv hp9 q9 => ?_)
    obtain ⟨⟨z9, rfl, l_z9, u_z9, R_z9⟩, e9⟩ := q9
    rw [e9]
    show yG _ _ _ _ _ _ _ _ _ _ (yI z9 :: [yR k0]) _
    refine yG.ifz rfl (t := 41) rfl ⟨by omega, by omega⟩ (fun c10 => ?_) (fun c10 => ?_)
    · have c10 : (z9 : Int) ≠ 0 := c10
      refine yG.load xik rfl (fun _ _ => rfl) (v := yI (p2)) rfl rfl ?_
      refine yG.i2l rfl ⟨by omega, by omega⟩ ?_
      refine yG.numl (c := 0) rfl (fun _ _ => rfl) (by decide) ?_
      refine yG.numl (c := 1) rfl (fun _ _ => rfl) (by decide) ?_
      refine yG.invS (rest := [yR k0]) rfl rfl rfl rfl (c_GModel_in W d A_hp.1 (p2) (0) (1) (by omega) (by omega) (by omega) (by omega) (by omega) (by omega)) (fun rv hp9 q9 => ?_)
      obtain ⟨⟨z11, rfl, l_z11, u_z11, R_z11⟩, e9⟩ := q9
      rw [e9]
      show yG _ _ _ _ _ _ _ _ _ _ (yI z11 :: [yR k0]) _
      refine yG.ifz rfl (t := 62) rfl ⟨by omega, by omega⟩ (fun c12 => ?_) (fun c12 => ?_)
      · have c12 : (z11 : Int) = 0 := c12
        refine yG.num (c := 2) rfl (fun _ _ => rfl) (by decide) ?_
        refine yG.goto rfl (t := 80) rfl ?_
        refine yG.putI A_hp.1 (w_M_thrown W H_k0) (W.2.1 _ _ H_k0 (by decide) (by decide)) rfl rfl (.inl rfl) ⟨by omega, by omega⟩ (by omega) (by omega) (fun h13 T_h13 b_h13 f_h13 y_h13 => ?_)
        have A_h13 := A_hp.put T_h13 b_h13 f_h13 H_k0 (by decide)
        have qq2 : zsl h13 k0 22 = yR r1 := ((f_h13 k0 22).trans (if_neg (fun e => absurd e.2 (by decide)))).trans q_r1
        have : ys h13 k0 0 = 2 := (y_h13 k0 0).trans (if_pos ⟨rfl, rfl⟩)
        refine yG.load xak rfl (fun _ _ => rfl) (v := yR k0) rfl rfl ?_
        refine yG.getI A_h13.1 (w_M_thrown W H_k0) rfl rfl (fun z14 e_z14 i_z14 l_z14 u_z14 => ?_)
        refine yG.ifz rfl (t := 92) rfl ⟨by omega, by omega⟩ (fun c15 => ?_) (fun c15 => ?_)
        · have c15 : (z14 : Int) ≤ 0 := c15
          exfalso; omega
        · have c15 : (z14 : Int) > 0 := c15
          refine yG.num (c := 0) rfl (fun _ _ => rfl) (by decide) ?_
          refine yG.ret rfl (fun _ _ => rfl) ?_
          exact (yP.int ⟨by omega, by omega⟩ ⟨⟨0, rfl, by omega, by omega, by omega⟩, A_h13⟩)
      · have c12 : (z11 : Int) ≠ 0 := c12
        refine yG.load xik rfl (fun _ _ => rfl) (v := yI (p4)) rfl rfl ?_
        refine yG.i2l rfl ⟨by omega, by omega⟩ ?_
        refine yG.numl (c := 0) rfl (fun _ _ => rfl) (by decide) ?_
        refine yG.numl (c := 1) rfl (fun _ _ => rfl) (by decide) ?_
        refine yG.invS (rest := [yR k0]) rfl rfl rfl rfl (c_GModel_in W d A_hp.1 (p4) (0) (1) (by omega) (by omega) (by omega) (by omega) (by omega) (by omega)) (fun rv hp9 q9 => ?_)
        obtain ⟨⟨z16, rfl, l_z16, u_z16, R_z16⟩, e9⟩ := q9
        rw [e9]
        show yG _ _ _ _ _ _ _ _ _ _ (yI z16 :: [yR k0]) _
        refine yG.ifz rfl (t := 66) rfl ⟨by omega, by omega⟩ (fun c17 => ?_) (fun c17 => ?_)
        · have c17 : (z16 : Int) ≠ 0 := c17
          refine yG.load xak rfl (fun _ _ => rfl) (v := yR k0) rfl rfl ?_
          refine yG.getI A_hp.1 (w_M_relays W H_k0) rfl rfl (fun z18 e_z18 i_z18 l_z18 u_z18 => ?_)
          refine yG.num (c := 16) rfl (fun _ _ => rfl) (by decide) ?_
          refine yG.icmp rfl (t := 79) rfl ⟨by omega, by omega⟩ ⟨by omega, by omega⟩ (fun c19 => ?_) (fun c19 => ?_)
          · have c19 : (z18 : Int) ≠ 16 := c19
            refine yG.num (c := 0) rfl (fun _ _ => rfl) (by decide) ?_
            refine yG.putI A_hp.1 (w_M_thrown W H_k0) (W.2.1 _ _ H_k0 (by decide) (by decide)) rfl rfl (.inl rfl) ⟨by omega, by omega⟩ (by omega) (by omega) (fun h20 T_h20 b_h20 f_h20 y_h20 => ?_)
            have A_h20 := A_hp.put T_h20 b_h20 f_h20 H_k0 (by decide)
            have qq3 : zsl h20 k0 22 = yR r1 := ((f_h20 k0 22).trans (if_neg (fun e => absurd e.2 (by decide)))).trans q_r1
            have : ys h20 k0 78 = ys hp k0 78 := (y_h20 k0 78).trans (if_neg (fun e => absurd e.2 (by decide)))
            have : ys h20 k0 0 = 0 := (y_h20 k0 0).trans (if_pos ⟨rfl, rfl⟩)
            refine yG.load xak rfl (fun _ _ => rfl) (v := yR k0) rfl rfl ?_
            refine yG.getI A_h20.1 (w_M_thrown W H_k0) rfl rfl (fun z21 e_z21 i_z21 l_z21 u_z21 => ?_)
            refine yG.ifz rfl (t := 92) rfl ⟨by omega, by omega⟩ (fun c22 => ?_) (fun c22 => ?_)
            · have c22 : (z21 : Int) ≤ 0 := c22
              refine yG.load xak rfl (fun _ _ => rfl) (v := yR k0) rfl rfl ?_
              refine yG.getO A_h20.1 (w_M_relayLine W H_k0) rfl rfl (fun r23 H_r23 O_r23 q_r23 => ?_)
              refine yG.load xak rfl (fun _ _ => rfl) (v := yR k0) rfl rfl ?_
              refine yG.getI A_h20.1 (w_M_relays W H_k0) rfl rfl (fun z24 e_z24 i_z24 l_z24 u_z24 => ?_)
              rw [show (z24 : Int) = z18 by omega]
              refine yG.load xik rfl (fun _ _ => rfl) (v := yI (p1)) rfl rfl ?_
              refine yG.iast A_h20.1 (v_M_relayLine W H_r23) (W.2.1 _ _ H_r23 (by decide) (by decide)) rfl (by omega) (by omega) ⟨by omega, by omega⟩ (by omega) (by omega) (fun h25 T_h25 b_h25 f_h25 y_h25 => ?_)
              have A_h25 := A_h20.put T_h25 b_h25 f_h25 H_r23 (bAll_ok (by decide) _)
              have qq4 : zsl h25 k0 22 = yR r1 := ((f_h25 k0 22).trans (if_neg (fun e => (bRo.ne H_k0 H_r23 (by decide)) e.1))).trans qq3
              have : ys h25 k0 78 = ys h20 k0 78 := (y_h25 k0 78).trans (if_neg (fun e => (bRo.ne H_k0 H_r23 (by decide)) e.1))
              have : ys h25 k0 0 = ys h20 k0 0 := (y_h25 k0 0).trans (if_neg (fun e => (bRo.ne H_k0 H_r23 (by decide)) e.1))
              refine yG.load xak rfl (fun _ _ => rfl) (v := yR k0) rfl rfl ?_
              refine yG.getO A_h25.1 (w_M_relayEnd W H_k0) rfl rfl (fun r26 H_r26 O_r26 q_r26 => ?_)
              refine yG.load xak rfl (fun _ _ => rfl) (v := yR k0) rfl rfl ?_
              refine yG.getI A_h25.1 (w_M_relays W H_k0) rfl rfl (fun z27 e_z27 i_z27 l_z27 u_z27 => ?_)
              rw [show (z27 : Int) = z18 by omega]
              refine yG.load xik rfl (fun _ _ => rfl) (v := yI (p2)) rfl rfl ?_
              refine yG.iast A_h25.1 (v_M_relayEnd W H_r26) (W.2.1 _ _ H_r26 (by decide) (by decide)) rfl (by omega) (by omega) ⟨by omega, by omega⟩ (by omega) (by omega) (fun h28 T_h28 b_h28 f_h28 y_h28 => ?_)
              have A_h28 := A_h25.put T_h28 b_h28 f_h28 H_r26 (bAll_ok (by decide) _)
              have qq5 : zsl h28 k0 22 = yR r1 := ((f_h28 k0 22).trans (if_neg (fun e => (bRo.ne H_k0 H_r26 (by decide)) e.1))).trans qq4
              have : ys h28 k0 78 = ys h25 k0 78 := (y_h28 k0 78).trans (if_neg (fun e => (bRo.ne H_k0 H_r26 (by decide)) e.1))
              have : ys h28 k0 0 = ys h25 k0 0 := (y_h28 k0 0).trans (if_neg (fun e => (bRo.ne H_k0 H_r26 (by decide)) e.1))
              refine yG.load xak rfl (fun _ _ => rfl) (v := yR k0) rfl rfl ?_
              refine yG.getO A_h28.1 (w_M_relaySwitch W H_k0) rfl rfl (fun r29 H_r29 O_r29 q_r29 => ?_)
              refine yG.load xak rfl (fun _ _ => rfl) (v := yR k0) rfl rfl ?_
              refine yG.getI A_h28.1 (w_M_relays W H_k0) rfl rfl (fun z30 e_z30 i_z30 l_z30 u_z30 => ?_)
              rw [show (z30 : Int) = z18 by omega]
              refine yG.load xik rfl (fun _ _ => rfl) (v := yI (p3)) rfl rfl ?_
              refine yG.iast A_h28.1 (v_M_relaySwitch W H_r29) (W.2.1 _ _ H_r29 (by decide) (by decide)) rfl (by omega) (by omega) ⟨by omega, by omega⟩ (by omega) (by omega) (fun h31 T_h31 b_h31 f_h31 y_h31 => ?_)
              have A_h31 := A_h28.put T_h31 b_h31 f_h31 H_r29 (bAll_ok (by decide) _)
              have qq6 : zsl h31 k0 22 = yR r1 := ((f_h31 k0 22).trans (if_neg (fun e => (bRo.ne H_k0 H_r29 (by decide)) e.1))).trans qq5
              have : ys h31 k0 78 = ys h28 k0 78 := (y_h31 k0 78).trans (if_neg (fun e => (bRo.ne H_k0 H_r29 (by decide)) e.1))
              have : ys h31 k0 0 = ys h28 k0 0 := (y_h31 k0 0).trans (if_neg (fun e => (bRo.ne H_k0 H_r29 (by decide)) e.1))
              refine yG.load xak rfl (fun _ _ => rfl) (v := yR k0) rfl rfl ?_
              refine yG.getO A_h31.1 (w_M_relayKind W H_k0) rfl rfl (fun r32 H_r32 O_r32 q_r32 => ?_)
              refine yG.load xak rfl (fun _ _ => rfl) (v := yR k0) rfl rfl ?_
              refine yG.getI A_h31.1 (w_M_relays W H_k0) rfl rfl (fun z33 e_z33 i_z33 l_z33 u_z33 => ?_)
              rw [show (z33 : Int) = z18 by omega]
              refine yG.load xik rfl (fun _ _ => rfl) (v := yI (p4)) rfl rfl ?_
              refine yG.iast A_h31.1 (v_M_relayKind W H_r32) (W.2.1 _ _ H_r32 (by decide) (by decide)) rfl (by omega) (by omega) ⟨by omega, by omega⟩ (by omega) (by omega) (fun h34 T_h34 b_h34 f_h34 y_h34 => ?_)
              have A_h34 := A_h31.put T_h34 b_h34 f_h34 H_r32 (bAll_ok (by decide) _)
              have qq7 : zsl h34 k0 22 = yR r1 := ((f_h34 k0 22).trans (if_neg (fun e => (bRo.ne H_k0 H_r32 (by decide)) e.1))).trans qq6
              have : ys h34 k0 78 = ys h31 k0 78 := (y_h34 k0 78).trans (if_neg (fun e => (bRo.ne H_k0 H_r32 (by decide)) e.1))
              have : ys h34 k0 0 = ys h31 k0 0 := (y_h34 k0 0).trans (if_neg (fun e => (bRo.ne H_k0 H_r32 (by decide)) e.1))
              refine yG.load xak rfl (fun _ _ => rfl) (v := yR k0) rfl rfl ?_
              refine yG.getO A_h34.1 (w_M_rowCount W H_k0) rfl rfl (fun r35 H_r35 O_r35 q_r35 => ?_)
              refine yG.load xak rfl (fun _ _ => rfl) (v := yR k0) rfl rfl ?_
              refine yG.getI A_h34.1 (w_M_relays W H_k0) rfl rfl (fun z36 e_z36 i_z36 l_z36 u_z36 => ?_)
              rw [show (z36 : Int) = z18 by omega]
              refine yG.num (c := 0) rfl (fun _ _ => rfl) (by decide) ?_
              refine yG.iast A_h34.1 (v_M_rowCount W H_r35) (W.2.1 _ _ H_r35 (by decide) (by decide)) rfl (by omega) (by omega) ⟨by omega, by omega⟩ (by omega) (by omega) (fun h37 T_h37 b_h37 f_h37 y_h37 => ?_)
              have A_h37 := A_h34.put T_h37 b_h37 f_h37 H_r35 (bAll_ok (by decide) _)
              have qq8 : zsl h37 k0 22 = yR r1 := ((f_h37 k0 22).trans (if_neg (fun e => (bRo.ne H_k0 H_r35 (by decide)) e.1))).trans qq7
              have : ys h37 k0 78 = ys h34 k0 78 := (y_h37 k0 78).trans (if_neg (fun e => (bRo.ne H_k0 H_r35 (by decide)) e.1))
              have : ys h37 k0 0 = ys h34 k0 0 := (y_h37 k0 0).trans (if_neg (fun e => (bRo.ne H_k0 H_r35 (by decide)) e.1))
              refine yG.load xak rfl (fun _ _ => rfl) (v := yR k0) rfl rfl ?_
              refine yG.step (pc' := 145) (stk' := [yR k0, yR k0]) rfl (fun _ _ => rfl) ?_
              refine yG.getI A_h37.1 (w_M_relays W H_k0) rfl rfl (fun z38 e_z38 i_z38 l_z38 u_z38 => ?_)
              rw [show (z38 : Int) = z18 by omega]
              refine yG.num (c := 1) rfl (fun _ _ => rfl) (by decide) ?_
              refine yG.iadd rfl ?_
              refine yG.putI A_h37.1 (w_M_relays W H_k0) (W.2.1 _ _ H_k0 (by decide) (by decide)) rfl rfl (.inl rfl) ⟨by omega, by omega⟩ (by omega) (by omega) (fun h39 T_h39 b_h39 f_h39 y_h39 => ?_)
              have A_h39 := A_h37.put T_h39 b_h39 f_h39 H_k0 (by decide)
              have qq9 : zsl h39 k0 22 = yR r1 := ((f_h39 k0 22).trans (if_neg (fun e => absurd e.2 (by decide)))).trans qq8
              have : ys h39 k0 0 = ys h37 k0 0 := (y_h39 k0 0).trans (if_neg (fun e => absurd e.2 (by decide)))
              have : ys h39 k0 78 = z18 + 1 := (y_h39 k0 78).trans (if_pos ⟨rfl, rfl⟩)
              refine yG.load xak rfl (fun _ _ => rfl) (v := yR k0) rfl rfl ?_
              refine yG.invV (rest := []) A_h39.1 (bOb (d_M W) H_k0) rfl rfl rfl rfl (c_GModel_changed W d A_h39.1 H_k0) (fun rv h40 q9 => ?_)
              obtain ⟨⟨rfl, R_z41⟩, B_h40⟩ := q9
              have A_h40 := A_h39.tr B_h40 (by decide)
              have qq10 : zsl h40 k0 22 = yR r1 := (B_h40.sl H_k0 (by decide)).trans qq9
              have : ys h40 k0 0 = ys h39 k0 0 := B_h40.ys H_k0 (by decide)
              have : ys h40 k0 78 = ys h39 k0 78 := B_h40.ys H_k0 (by decide)
              show yG _ _ _ _ _ _ _ _ _ _ [] _
              refine yG.load xak rfl (fun _ _ => rfl) (v := yR k0) rfl rfl ?_
              refine yG.getI A_h40.1 (w_M_relays W H_k0) rfl rfl (fun z42 e_z42 i_z42 l_z42 u_z42 => ?_)
              refine yG.num (c := 1) rfl (fun _ _ => rfl) (by decide) ?_
              refine yG.isub rfl ?_
              refine yG.ret rfl (fun _ _ => rfl) ?_
              exact (yP.int ⟨by omega, by omega⟩ ⟨⟨z42 - 1, rfl, by omega, by omega, by omega⟩, A_h40⟩)
            · have c22 : (z21 : Int) > 0 := c22
              exfalso; omega
          · have c19 : (z18 : Int) = 16 := c19
            refine yG.num (c := 3) rfl (fun _ _ => rfl) (by decide) ?_
            refine yG.goto rfl (t := 80) rfl ?_
            refine yG.putI A_hp.1 (w_M_thrown W H_k0) (W.2.1 _ _ H_k0 (by decide) (by decide)) rfl rfl (.inl rfl) ⟨by omega, by omega⟩ (by omega) (by omega) (fun h43 T_h43 b_h43 f_h43 y_h43 => ?_)
            have A_h43 := A_hp.put T_h43 b_h43 f_h43 H_k0 (by decide)
            have qq11 : zsl h43 k0 22 = yR r1 := ((f_h43 k0 22).trans (if_neg (fun e => absurd e.2 (by decide)))).trans q_r1
            have : ys h43 k0 78 = ys hp k0 78 := (y_h43 k0 78).trans (if_neg (fun e => absurd e.2 (by decide)))
            have : ys h43 k0 0 = 3 := (y_h43 k0 0).trans (if_pos ⟨rfl, rfl⟩)
            refine yG.load xak rfl (fun _ _ => rfl) (v := yR k0) rfl rfl ?_
            refine yG.getI A_h43.1 (w_M_thrown W H_k0) rfl rfl (fun z44 e_z44 i_z44 l_z44 u_z44 => ?_)
            refine yG.ifz rfl (t := 92) rfl ⟨by omega, by omega⟩ (fun c45 => ?_) (fun c45 => ?_)
            · have c45 : (z44 : Int) ≤ 0 := c45
              exfalso; omega
            · have c45 : (z44 : Int) > 0 := c45
              refine yG.num (c := 0) rfl (fun _ _ => rfl) (by decide) ?_
              refine yG.ret rfl (fun _ _ => rfl) ?_
              exact (yP.int ⟨by omega, by omega⟩ ⟨⟨0, rfl, by omega, by omega, by omega⟩, A_h43⟩)
        · have c17 : (z16 : Int) = 0 := c17
          refine yG.num (c := 2) rfl (fun _ _ => rfl) (by decide) ?_
          refine yG.goto rfl (t := 80) rfl ?_
          refine yG.putI A_hp.1 (w_M_thrown W H_k0) (W.2.1 _ _ H_k0 (by decide) (by decide)) rfl rfl (.inl rfl) ⟨by omega, by omega⟩ (by omega) (by omega) (fun h46 T_h46 b_h46 f_h46 y_h46 => ?_)
          have A_h46 := A_hp.put T_h46 b_h46 f_h46 H_k0 (by decide)
          have qq12 : zsl h46 k0 22 = yR r1 := ((f_h46 k0 22).trans (if_neg (fun e => absurd e.2 (by decide)))).trans q_r1
          have : ys h46 k0 0 = 2 := (y_h46 k0 0).trans (if_pos ⟨rfl, rfl⟩)
          refine yG.load xak rfl (fun _ _ => rfl) (v := yR k0) rfl rfl ?_
          refine yG.getI A_h46.1 (w_M_thrown W H_k0) rfl rfl (fun z47 e_z47 i_z47 l_z47 u_z47 => ?_)
          refine yG.ifz rfl (t := 92) rfl ⟨by omega, by omega⟩ (fun c48 => ?_) (fun c48 => ?_)
          · have c48 : (z47 : Int) ≤ 0 := c48
            exfalso; omega
          · have c48 : (z47 : Int) > 0 := c48
            refine yG.num (c := 0) rfl (fun _ _ => rfl) (by decide) ?_
            refine yG.ret rfl (fun _ _ => rfl) ?_
            exact (yP.int ⟨by omega, by omega⟩ ⟨⟨0, rfl, by omega, by omega, by omega⟩, A_h46⟩)
    · have c10 : (z9 : Int) = 0 := c10
      refine yG.num (c := 1) rfl (fun _ _ => rfl) (by decide) ?_
      refine yG.goto rfl (t := 80) rfl ?_
      refine yG.putI A_hp.1 (w_M_thrown W H_k0) (W.2.1 _ _ H_k0 (by decide) (by decide)) rfl rfl (.inl rfl) ⟨by omega, by omega⟩ (by omega) (by omega) (fun h49 T_h49 b_h49 f_h49 y_h49 => ?_)
      have A_h49 := A_hp.put T_h49 b_h49 f_h49 H_k0 (by decide)
      have qq13 : zsl h49 k0 22 = yR r1 := ((f_h49 k0 22).trans (if_neg (fun e => absurd e.2 (by decide)))).trans q_r1
      have : ys h49 k0 0 = 1 := (y_h49 k0 0).trans (if_pos ⟨rfl, rfl⟩)
      refine yG.load xak rfl (fun _ _ => rfl) (v := yR k0) rfl rfl ?_
      refine yG.getI A_h49.1 (w_M_thrown W H_k0) rfl rfl (fun z50 e_z50 i_z50 l_z50 u_z50 => ?_)
      refine yG.ifz rfl (t := 92) rfl ⟨by omega, by omega⟩ (fun c51 => ?_) (fun c51 => ?_)
      · have c51 : (z50 : Int) ≤ 0 := c51
        exfalso; omega
      · have c51 : (z50 : Int) > 0 := c51
        refine yG.num (c := 0) rfl (fun _ _ => rfl) (by decide) ?_
        refine yG.ret rfl (fun _ _ => rfl) ?_
        exact (yP.int ⟨by omega, by omega⟩ ⟨⟨0, rfl, by omega, by omega, by omega⟩, A_h49⟩)
theorem c_GModel_row {hp : xH} (W : mW G) (d : Nat) (hT : zTy G hp) {k0 : Nat} (H_k0 : bRo G 116 k0) (p1 p2 p3 : Int) (h1l : (-2147483648) ≤ p1) (h1u : p1 ≤ 2147483647) (h2l : (-2147483648) ≤ p2) (h2u : p2 ≤ 2147483647) (h3l : (-2147483648) ≤ p3) (h3u : p3 ≤ 2147483647) : yC (xcall 89 xfts xpools xms (d + 2)) 495 [yR k0, yI (p1), yI (p2), yI (p3)] hp (bQi G [(83076749736557242056487941267521536, 0), (83076749736557242056487941267521536, 40), (83076749736557242056487941267521536, 49), (83076749736557242056487941267521536, 62), (83076749736557242056487941267521536, 77), (83076749736557242056487941267521536, 90), (83076749736557242056487941267521536, 101), (41904174945551648470736051523641266739574897872207872, 256)] hp 0 3 (fun z => 0 ≤ p1 - z + 2147483648 ∧ 0 ≤ p2 - z + 2147483648 ∧ 0 ≤ p3 - z + 2147483648)) := by
  have A_hp : bAx G [(83076749736557242056487941267521536, 0), (83076749736557242056487941267521536, 40), (83076749736557242056487941267521536, 49), (83076749736557242056487941267521536, 62), (83076749736557242056487941267521536, 77), (83076749736557242056487941267521536, 90), (83076749736557242056487941267521536, 101), (41904174945551648470736051523641266739574897872207872, 256)] hp hp := bAx.rf hT
  refine yC.of (M := (xt_X13_row, (5, (1, (14, []))))) rfl rfl (N := 213) (yfuel (by decide)) ?_
  show yG 89 xfts (xcall 89 xfts xpools xms (d + 1)) (xpool xp_RX13) [] xt_X13_row (yP 1 (bQi G [(83076749736557242056487941267521536, 0), (83076749736557242056487941267521536, 40), (83076749736557242056487941267521536, 49), (83076749736557242056487941267521536, 62), (83076749736557242056487941267521536, 77), (83076749736557242056487941267521536, 90), (83076749736557242056487941267521536, 101), (41904174945551648470736051523641266739574897872207872, 256)] hp 0 3 (fun z => 0 ≤ p1 - z + 2147483648 ∧ 0 ≤ p2 - z + 2147483648 ∧ 0 ≤ p3 - z + 2147483648))) 213 0 [(0, yR k0), (1, yI (p1)), (2, yI (p2)), (3, yI (p3))] [] hp
  refine yG.load xak rfl (fun _ _ => rfl) (v := yR k0) rfl rfl ?_
  refine yG.load xik rfl (fun _ _ => rfl) (v := yI (p1)) rfl rfl ?_
  refine yG.i2l rfl ⟨by omega, by omega⟩ ?_
  refine yG.numl (c := 0) rfl (fun _ _ => rfl) (by decide) ?_
  refine yG.load xak rfl (fun _ _ => rfl) (v := yR k0) rfl rfl ?_
  refine yG.getI A_hp.1 (w_M_relays W H_k0) rfl rfl (fun z1 e_z1 i_z1 l_z1 u_z1 => ?_)
  refine yG.num (c := 1) rfl (fun _ _ => rfl) (by decide) ?_
  refine yG.isub rfl ?_
  refine yG.i2l rfl ⟨by omega, by omega⟩ ?_
  refine yG.invS (rest := [yR k0]) rfl rfl rfl rfl (c_GModel_in W d A_hp.1 (p1) (0) (z1 - 1) (by omega) (by omega) (by omega) (by omega) (by omega) (by omega)) (fun rv hp9 q9 => ?_)
  obtain ⟨⟨z2, rfl, l_z2, u_z2, R_z2⟩, e9⟩ := q9
  rw [e9]
  show yG _ _ _ _ _ _ _ _ _ _ (yI z2 :: [yR k0]) _
  refine yG.ifz rfl (t := 21) rfl ⟨by omega, by omega⟩ (fun c3 => ?_) (fun c3 => ?_)
  · have c3 : (z2 : Int) ≠ 0 := c3
    refine yG.load xik rfl (fun _ _ => rfl) (v := yI (p2)) rfl rfl ?_
    refine yG.i2l rfl ⟨by omega, by omega⟩ ?_
    refine yG.numl (c := 0) rfl (fun _ _ => rfl) (by decide) ?_
    refine yG.numl (c := 99999) rfl (fun _ _ => rfl) (by decide) ?_
    refine yG.invS (rest := [yR k0]) rfl rfl rfl rfl (c_GModel_in W d A_hp.1 (p2) (0) (99999) (by omega) (by omega) (by omega) (by omega) (by omega) (by omega)) (fun rv hp9 q9 => ?_)
    obtain ⟨⟨z4, rfl, l_z4, u_z4, R_z4⟩, e9⟩ := q9
    rw [e9]
    show yG _ _ _ _ _ _ _ _ _ _ (yI z4 :: [yR k0]) _
    refine yG.ifz rfl (t := 45) rfl ⟨by omega, by omega⟩ (fun c5 => ?_) (fun c5 => ?_)
    · have c5 : (z4 : Int) = 0 := c5
      refine yG.num (c := 2) rfl (fun _ _ => rfl) (by decide) ?_
      refine yG.goto rfl (t := 64) rfl ?_
      refine yG.putI A_hp.1 (w_M_thrown W H_k0) (W.2.1 _ _ H_k0 (by decide) (by decide)) rfl rfl (.inl rfl) ⟨by omega, by omega⟩ (by omega) (by omega) (fun h6 T_h6 b_h6 f_h6 y_h6 => ?_)
      have A_h6 := A_hp.put T_h6 b_h6 f_h6 H_k0 (by decide)
      have : ys h6 k0 0 = 2 := (y_h6 k0 0).trans (if_pos ⟨rfl, rfl⟩)
      refine yG.load xak rfl (fun _ _ => rfl) (v := yR k0) rfl rfl ?_
      refine yG.getI A_h6.1 (w_M_thrown W H_k0) rfl rfl (fun z7 e_z7 i_z7 l_z7 u_z7 => ?_)
      refine yG.ifz rfl (t := 76) rfl ⟨by omega, by omega⟩ (fun c8 => ?_) (fun c8 => ?_)
      · have c8 : (z7 : Int) ≤ 0 := c8
        exfalso; omega
      · have c8 : (z7 : Int) > 0 := c8
        refine yG.num (c := 0) rfl (fun _ _ => rfl) (by decide) ?_
        refine yG.ret rfl (fun _ _ => rfl) ?_
        exact (yP.int ⟨by omega, by omega⟩ ⟨⟨0, rfl, by omega, by omega, by omega⟩, A_h6⟩)
    · have c5 : (z4 : Int) ≠ 0 := c5
      refine yG.load xik rfl (fun _ _ => rfl) (v := yI (p3)) rfl rfl ?_
      refine yG.i2l rfl ⟨by omega, by omega⟩ ?_
      refine yG.numl (c := 0) rfl (fun _ _ => rfl) (by decide) ?_
      refine yG.numl (c := 9999999) rfl (fun _ _ => rfl) (by decide) ?_
      refine yG.invS (rest := [yR k0]) rfl rfl rfl rfl (c_GModel_in W d A_hp.1 (p3) (0) (9999999) (by omega) (by omega) (by omega) (by omega) (by omega) (by omega)) (fun rv hp9 q9 => ?_)
      obtain ⟨⟨z9, rfl, l_z9, u_z9, R_z9⟩, e9⟩ := q9
      rw [e9]
      show yG _ _ _ _ _ _ _ _ _ _ (yI z9 :: [yR k0]) _
      refine yG.ifz rfl (t := 49) rfl ⟨by omega, by omega⟩ (fun c10 => ?_) (fun c10 => ?_)
      · have c10 : (z9 : Int) ≠ 0 := c10
        refine yG.load xak rfl (fun _ _ => rfl) (v := yR k0) rfl rfl ?_
        refine yG.getO A_hp.1 (w_M_rowCount W H_k0) rfl rfl (fun r11 H_r11 O_r11 q_r11 => ?_)
        refine yG.load xik rfl (fun _ _ => rfl) (v := yI (p1)) rfl rfl ?_
        refine yG.iald A_hp.1 (v_M_rowCount W H_r11) rfl (by omega) (by omega) (fun z12 e_z12 i_z12 l_z12 u_z12 => ?_)
        refine yG.num (c := 4) rfl (fun _ _ => rfl) (by decide) ?_
        refine yG.icmp rfl (t := 63) rfl ⟨by omega, by omega⟩ ⟨by omega, by omega⟩ (fun c13 => ?_) (fun c13 => ?_)
        · have c13 : (z12 : Int) ≠ 4 := c13
          refine yG.num (c := 0) rfl (fun _ _ => rfl) (by decide) ?_
          refine yG.putI A_hp.1 (w_M_thrown W H_k0) (W.2.1 _ _ H_k0 (by decide) (by decide)) rfl rfl (.inl rfl) ⟨by omega, by omega⟩ (by omega) (by omega) (fun h14 T_h14 b_h14 f_h14 y_h14 => ?_)
          have A_h14 := A_hp.put T_h14 b_h14 f_h14 H_k0 (by decide)
          have qq1 : zsl h14 k0 83 = yR r11 := ((f_h14 k0 83).trans (if_neg (fun e => absurd e.2 (by decide)))).trans q_r11
          have : ys h14 r11 (p1 : Int).toNat = ys hp r11 (p1 : Int).toNat := (y_h14 r11 (p1 : Int).toNat).trans (if_neg (fun e => (bRo.ne H_r11 H_k0 (by decide)) e.1))
          have : ys h14 k0 0 = 0 := (y_h14 k0 0).trans (if_pos ⟨rfl, rfl⟩)
          refine yG.load xak rfl (fun _ _ => rfl) (v := yR k0) rfl rfl ?_
          refine yG.getI A_h14.1 (w_M_thrown W H_k0) rfl rfl (fun z15 e_z15 i_z15 l_z15 u_z15 => ?_)
          refine yG.ifz rfl (t := 76) rfl ⟨by omega, by omega⟩ (fun c16 => ?_) (fun c16 => ?_)
          · have c16 : (z15 : Int) ≤ 0 := c16
            refine yG.load xak rfl (fun _ _ => rfl) (v := yR k0) rfl rfl ?_
            refine yG.getS9 A_h14.1 (w_M_rowCount W H_k0) qq1 rfl rfl ?_
            refine yG.load xik rfl (fun _ _ => rfl) (v := yI (p1)) rfl rfl ?_
            refine yG.iald A_h14.1 (v_M_rowCount W H_r11) rfl (by omega) (by omega) (fun z17 e_z17 i_z17 l_z17 u_z17 => ?_)
            rw [show (z17 : Int) = z12 by omega]
            refine yG.store1 xik (L' := [(4, yI (z12)), (0, yR k0), (1, yI (p1)), (2, yI (p2)), (3, yI (p3))]) rfl (fun _ _ => rfl) rfl rfl ?_
            refine yG.load xak rfl (fun _ _ => rfl) (v := yR k0) rfl rfl ?_
            refine yG.getO A_h14.1 (w_M_setting W H_k0) rfl rfl (fun r18 H_r18 O_r18 q_r18 => ?_)
            refine yG.num (c := 4) rfl (fun _ _ => rfl) (by decide) ?_
            refine yG.load xik rfl (fun _ _ => rfl) (v := yI (p1)) rfl rfl ?_
            refine yG.imul rfl ?_
            refine yG.load xik rfl (fun _ _ => rfl) (v := yI (z12)) rfl rfl ?_
            refine yG.iadd rfl ?_
            refine yG.load xik rfl (fun _ _ => rfl) (v := yI (p2)) rfl rfl ?_
            refine yG.iast A_h14.1 (v_M_setting W H_r18) (W.2.1 _ _ H_r18 (by decide) (by decide)) rfl (by omega) (by omega) ⟨by omega, by omega⟩ (by omega) (by omega) (fun h19 T_h19 b_h19 f_h19 y_h19 => ?_)
            have A_h19 := A_h14.put T_h19 b_h19 f_h19 H_r18 (bAll_ok (by decide) _)
            have qq2 : zsl h19 k0 83 = yR r11 := ((f_h19 k0 83).trans (if_neg (fun e => (bRo.ne H_k0 H_r18 (by decide)) e.1))).trans qq1
            have : ys h19 r11 (p1 : Int).toNat = ys h14 r11 (p1 : Int).toNat := (y_h19 r11 (p1 : Int).toNat).trans (if_neg (fun e => (bRo.ne H_r11 H_r18 (by decide)) e.1))
            have : ys h19 k0 0 = ys h14 k0 0 := (y_h19 k0 0).trans (if_neg (fun e => (bRo.ne H_k0 H_r18 (by decide)) e.1))
            refine yG.load xak rfl (fun _ _ => rfl) (v := yR k0) rfl rfl ?_
            refine yG.getO A_h19.1 (w_M_delay W H_k0) rfl rfl (fun r20 H_r20 O_r20 q_r20 => ?_)
            refine yG.num (c := 4) rfl (fun _ _ => rfl) (by decide) ?_
            refine yG.load xik rfl (fun _ _ => rfl) (v := yI (p1)) rfl rfl ?_
            refine yG.imul rfl ?_
            refine yG.load xik rfl (fun _ _ => rfl) (v := yI (z12)) rfl rfl ?_
            refine yG.iadd rfl ?_
            refine yG.load xik rfl (fun _ _ => rfl) (v := yI (p3)) rfl rfl ?_
            refine yG.iast A_h19.1 (v_M_delay W H_r20) (W.2.1 _ _ H_r20 (by decide) (by decide)) rfl (by omega) (by omega) ⟨by omega, by omega⟩ (by omega) (by omega) (fun h21 T_h21 b_h21 f_h21 y_h21 => ?_)
            have A_h21 := A_h19.put T_h21 b_h21 f_h21 H_r20 (bAll_ok (by decide) _)
            have qq3 : zsl h21 k0 83 = yR r11 := ((f_h21 k0 83).trans (if_neg (fun e => (bRo.ne H_k0 H_r20 (by decide)) e.1))).trans qq2
            have : ys h21 r11 (p1 : Int).toNat = ys h19 r11 (p1 : Int).toNat := (y_h21 r11 (p1 : Int).toNat).trans (if_neg (fun e => (bRo.ne H_r11 H_r20 (by decide)) e.1))
            have : ys h21 k0 0 = ys h19 k0 0 := (y_h21 k0 0).trans (if_neg (fun e => (bRo.ne H_k0 H_r20 (by decide)) e.1))
            refine yG.load xak rfl (fun _ _ => rfl) (v := yR k0) rfl rfl ?_
            refine yG.getS9 A_h21.1 (w_M_rowCount W H_k0) qq3 rfl rfl ?_
            refine yG.load xik rfl (fun _ _ => rfl) (v := yI (p1)) rfl rfl ?_
            refine yG.step (pc' := 114) (stk' := [yI (p1), yR r11, yI (p1), yR r11]) rfl (fun _ _ => rfl) ?_
            refine yG.iald A_h21.1 (v_M_rowCount W H_r11) rfl (by omega) (by omega) (fun z22 e_z22 i_z22 l_z22 u_z22 => ?_)
            rw [show (z22 : Int) = z12 by omega]
            refine yG.num (c := 1) rfl (fun _ _ => rfl) (by decide) ?_
            refine yG.iadd rfl ?_
            refine yG.iast A_h21.1 (v_M_rowCount W H_r11) (W.2.1 _ _ H_r11 (by decide) (by decide)) rfl (by omega) (by omega) ⟨by omega, by omega⟩ (by omega) (by omega) (fun h23 T_h23 b_h23 f_h23 y_h23 => ?_)
            have A_h23 := A_h21.put T_h23 b_h23 f_h23 H_r11 (bAll_ok (by decide) _)
            have qq4 : zsl h23 k0 83 = yR r11 := ((f_h23 k0 83).trans (if_neg (fun e => (bRo.ne H_k0 H_r11 (by decide)) e.1))).trans qq3
            have : ys h23 k0 0 = ys h21 k0 0 := (y_h23 k0 0).trans (if_neg (fun e => (bRo.ne H_k0 H_r11 (by decide)) e.1))
            have : ys h23 r11 (p1 : Int).toNat = z12 + 1 := (y_h23 r11 _).trans (if_pos ⟨rfl, rfl⟩)
            refine yG.load xak rfl (fun _ _ => rfl) (v := yR k0) rfl rfl ?_
            refine yG.invV (rest := []) A_h23.1 (bOb (d_M W) H_k0) rfl rfl rfl rfl (c_GModel_changed W d A_h23.1 H_k0) (fun rv h24 q9 => ?_)
            obtain ⟨⟨rfl, R_z25⟩, B_h24⟩ := q9
            have A_h24 := A_h23.tr B_h24 (by decide)
            have qq5 : zsl h24 k0 83 = yR r11 := (B_h24.sl H_k0 (by decide)).trans qq4
            have : ys h24 k0 0 = ys h23 k0 0 := B_h24.ys H_k0 (by decide)
            have : ys h24 r11 (p1 : Int).toNat = ys h23 r11 (p1 : Int).toNat := B_h24.ys H_r11 (bNo_ok (by decide) _)
            show yG _ _ _ _ _ _ _ _ _ _ [] _
            refine yG.load xik rfl (fun _ _ => rfl) (v := yI (z12)) rfl rfl ?_
            refine yG.ret rfl (fun _ _ => rfl) ?_
            exact (yP.int ⟨by omega, by omega⟩ ⟨⟨z12, rfl, by omega, by omega, by omega⟩, A_h24⟩)
          · have c16 : (z15 : Int) > 0 := c16
            exfalso; omega
        · have c13 : (z12 : Int) = 4 := c13
          refine yG.num (c := 3) rfl (fun _ _ => rfl) (by decide) ?_
          refine yG.goto rfl (t := 64) rfl ?_
          refine yG.putI A_hp.1 (w_M_thrown W H_k0) (W.2.1 _ _ H_k0 (by decide) (by decide)) rfl rfl (.inl rfl) ⟨by omega, by omega⟩ (by omega) (by omega) (fun h26 T_h26 b_h26 f_h26 y_h26 => ?_)
          have A_h26 := A_hp.put T_h26 b_h26 f_h26 H_k0 (by decide)
          have qq6 : zsl h26 k0 83 = yR r11 := ((f_h26 k0 83).trans (if_neg (fun e => absurd e.2 (by decide)))).trans q_r11
          have : ys h26 r11 (p1 : Int).toNat = ys hp r11 (p1 : Int).toNat := (y_h26 r11 (p1 : Int).toNat).trans (if_neg (fun e => (bRo.ne H_r11 H_k0 (by decide)) e.1))
          have : ys h26 k0 0 = 3 := (y_h26 k0 0).trans (if_pos ⟨rfl, rfl⟩)
          refine yG.load xak rfl (fun _ _ => rfl) (v := yR k0) rfl rfl ?_
          refine yG.getI A_h26.1 (w_M_thrown W H_k0) rfl rfl (fun z27 e_z27 i_z27 l_z27 u_z27 => ?_)
          refine yG.ifz rfl (t := 76) rfl ⟨by omega, by omega⟩ (fun c28 => ?_) (fun c28 => ?_)
          · have c28 : (z27 : Int) ≤ 0 := c28
            exfalso; omega
          · have c28 : (z27 : Int) > 0 := c28
            refine yG.num (c := 0) rfl (fun _ _ => rfl) (by decide) ?_
            refine yG.ret rfl (fun _ _ => rfl) ?_
            exact (yP.int ⟨by omega, by omega⟩ ⟨⟨0, rfl, by omega, by omega, by omega⟩, A_h26⟩)
      · have c10 : (z9 : Int) = 0 := c10
        refine yG.num (c := 2) rfl (fun _ _ => rfl) (by decide) ?_
        refine yG.goto rfl (t := 64) rfl ?_
        refine yG.putI A_hp.1 (w_M_thrown W H_k0) (W.2.1 _ _ H_k0 (by decide) (by decide)) rfl rfl (.inl rfl) ⟨by omega, by omega⟩ (by omega) (by omega) (fun h29 T_h29 b_h29 f_h29 y_h29 => ?_)
        have A_h29 := A_hp.put T_h29 b_h29 f_h29 H_k0 (by decide)
        have : ys h29 k0 0 = 2 := (y_h29 k0 0).trans (if_pos ⟨rfl, rfl⟩)
        refine yG.load xak rfl (fun _ _ => rfl) (v := yR k0) rfl rfl ?_
        refine yG.getI A_h29.1 (w_M_thrown W H_k0) rfl rfl (fun z30 e_z30 i_z30 l_z30 u_z30 => ?_)
        refine yG.ifz rfl (t := 76) rfl ⟨by omega, by omega⟩ (fun c31 => ?_) (fun c31 => ?_)
        · have c31 : (z30 : Int) ≤ 0 := c31
          exfalso; omega
        · have c31 : (z30 : Int) > 0 := c31
          refine yG.num (c := 0) rfl (fun _ _ => rfl) (by decide) ?_
          refine yG.ret rfl (fun _ _ => rfl) ?_
          exact (yP.int ⟨by omega, by omega⟩ ⟨⟨0, rfl, by omega, by omega, by omega⟩, A_h29⟩)
  · have c3 : (z2 : Int) = 0 := c3
    refine yG.num (c := 1) rfl (fun _ _ => rfl) (by decide) ?_
    refine yG.goto rfl (t := 64) rfl ?_
    refine yG.putI A_hp.1 (w_M_thrown W H_k0) (W.2.1 _ _ H_k0 (by decide) (by decide)) rfl rfl (.inl rfl) ⟨by omega, by omega⟩ (by omega) (by omega) (fun h32 T_h32 b_h32 f_h32 y_h32 => ?_)
    have A_h32 := A_hp.put T_h32 b_h32 f_h32 H_k0 (by decide)
    have : ys h32 k0 0 = 1 := (y_h32 k0 0).trans (if_pos ⟨rfl, rfl⟩)
    refine yG.load xak rfl (fun _ _ => rfl) (v := yR k0) rfl rfl ?_
    refine yG.getI A_h32.1 (w_M_thrown W H_k0) rfl rfl (fun z33 e_z33 i_z33 l_z33 u_z33 => ?_)
    refine yG.ifz rfl (t := 76) rfl ⟨by omega, by omega⟩ (fun c34 => ?_) (fun c34 => ?_)
    · have c34 : (z33 : Int) ≤ 0 := c34
      exfalso; omega
    · have c34 : (z33 : Int) > 0 := c34
      refine yG.num (c := 0) rfl (fun _ _ => rfl) (by decide) ?_
      refine yG.ret rfl (fun _ _ => rfl) ?_
      exact (yP.int ⟨by omega, by omega⟩ ⟨⟨0, rfl, by omega, by omega, by omega⟩, A_h32⟩)
theorem c_GModel_fails {hp : xH} (W : mW G) (d : Nat) (hT : zTy G hp) {k0 : Nat} (H_k0 : bRo G 116 k0) (p1 p2 : Int) (h1l : (-2147483648) ≤ p1) (h1u : p1 ≤ 2147483647) (h2l : 0 ≤ p2) (h2u : p2 ≤ 1) : yC (xcall 89 xfts xpools xms (d + 2)) 396 [yR k0, yI (p1), yI (p2)] hp (bQi G [(83076749736557242056487941267521536, 0), (83076749736557242056487941267521536, 40), (83076749736557242056487941267521536, 49), (83076749736557242056487941267521536, 62), (83076749736557242056487941267521536, 77), (83076749736557242056487941267521536, 90), (83076749736557242056487941267521536, 101), (47890485652059026823698344598447161988085597568237568, 256)] hp 0 1 (fun z => (z = 1 → 0 ≤ p1 ∧ 0 ≤ 0 - p1 + 23))) := by
  have A_hp : bAx G [(83076749736557242056487941267521536, 0), (83076749736557242056487941267521536, 40), (83076749736557242056487941267521536, 49), (83076749736557242056487941267521536, 62), (83076749736557242056487941267521536, 77), (83076749736557242056487941267521536, 90), (83076749736557242056487941267521536, 101), (47890485652059026823698344598447161988085597568237568, 256)] hp hp := bAx.rf hT
  refine yC.of (M := (xt_X13_fails, (4, (4, (14, []))))) rfl rfl (N := 105) (yfuel (by decide)) ?_
  show yG 89 xfts (xcall 89 xfts xpools xms (d + 1)) (xpool xp_RX13) [] xt_X13_fails (yP 4 (bQi G [(83076749736557242056487941267521536, 0), (83076749736557242056487941267521536, 40), (83076749736557242056487941267521536, 49), (83076749736557242056487941267521536, 62), (83076749736557242056487941267521536, 77), (83076749736557242056487941267521536, 90), (83076749736557242056487941267521536, 101), (47890485652059026823698344598447161988085597568237568, 256)] hp 0 1 (fun z => (z = 1 → 0 ≤ p1 ∧ 0 ≤ 0 - p1 + 23)))) 105 0 [(0, yR k0), (1, yI (p1)), (2, yI (p2))] [] hp
  refine yG.load xak rfl (fun _ _ => rfl) (v := yR k0) rfl rfl ?_
  refine yG.load xik rfl (fun _ _ => rfl) (v := yI (p1)) rfl rfl ?_
  refine yG.i2l rfl ⟨by omega, by omega⟩ ?_
  refine yG.numl (c := 0) rfl (fun _ _ => rfl) (by decide) ?_
  refine yG.load xak rfl (fun _ _ => rfl) (v := yR k0) rfl rfl ?_
  refine yG.getO A_hp.1 (w_M_count W H_k0) rfl rfl (fun r1 H_r1 O_r1 q_r1 => ?_)
  refine yG.num (c := 1) rfl (fun _ _ => rfl) (by decide) ?_
  refine yG.ialdF A_hp.1 (v_M_count W H_r1) rfl rfl (by omega) (by omega) (fun z2 e_z2 i_z2 l_z2 u_z2 => ?_)
  refine yG.num (c := 1) rfl (fun _ _ => rfl) (by decide) ?_
  refine yG.isub rfl ?_
  refine yG.i2l rfl ⟨by omega, by omega⟩ ?_
  refine yG.invS (rest := [yR k0]) rfl rfl rfl rfl (c_GModel_in W d A_hp.1 (p1) (0) (z2 - 1) (by omega) (by omega) (by omega) (by omega) (by omega) (by omega)) (fun rv hp9 q9 => ?_)
  obtain ⟨⟨z3, rfl, l_z3, u_z3, R_z3⟩, e9⟩ := q9
  rw [e9]
  show yG _ _ _ _ _ _ _ _ _ _ (yI z3 :: [yR k0]) _
  refine yG.ifz rfl (t := 23) rfl ⟨by omega, by omega⟩ (fun c4 => ?_) (fun c4 => ?_)
  · have c4 : (z3 : Int) = 0 := c4
    refine yG.num (c := 1) rfl (fun _ _ => rfl) (by decide) ?_
    refine yG.putI A_hp.1 (w_M_thrown W H_k0) (W.2.1 _ _ H_k0 (by decide) (by decide)) rfl rfl (.inl rfl) ⟨by omega, by omega⟩ (by omega) (by omega) (fun h5 T_h5 b_h5 f_h5 y_h5 => ?_)
    have A_h5 := A_hp.put T_h5 b_h5 f_h5 H_k0 (by decide)
    have : ys h5 k0 0 = 1 := (y_h5 k0 0).trans (if_pos ⟨rfl, rfl⟩)
    refine yG.load xak rfl (fun _ _ => rfl) (v := yR k0) rfl rfl ?_
    refine yG.getI A_h5.1 (w_M_thrown W H_k0) rfl rfl (fun z6 e_z6 i_z6 l_z6 u_z6 => ?_)
    refine yG.ifz rfl (t := 36) rfl ⟨by omega, by omega⟩ (fun c7 => ?_) (fun c7 => ?_)
    · have c7 : (z6 : Int) ≤ 0 := c7
      exfalso; omega
    · have c7 : (z6 : Int) > 0 := c7
      refine yG.num (c := 0) rfl (fun _ _ => rfl) (by decide) ?_
      refine yG.ret rfl (fun _ _ => rfl) ?_
      exact (yP.bool (by omega) ⟨⟨0, rfl, by omega, by omega, by omega⟩, A_h5⟩)
  · have c4 : (z3 : Int) ≠ 0 := c4
    refine yG.num (c := 0) rfl (fun _ _ => rfl) (by decide) ?_
    refine yG.goto rfl (t := 24) rfl ?_
    refine yG.putI A_hp.1 (w_M_thrown W H_k0) (W.2.1 _ _ H_k0 (by decide) (by decide)) rfl rfl (.inl rfl) ⟨by omega, by omega⟩ (by omega) (by omega) (fun h8 T_h8 b_h8 f_h8 y_h8 => ?_)
    have A_h8 := A_hp.put T_h8 b_h8 f_h8 H_k0 (by decide)
    have : ys h8 k0 0 = 0 := (y_h8 k0 0).trans (if_pos ⟨rfl, rfl⟩)
    refine yG.load xak rfl (fun _ _ => rfl) (v := yR k0) rfl rfl ?_
    refine yG.getI A_h8.1 (w_M_thrown W H_k0) rfl rfl (fun z9 e_z9 i_z9 l_z9 u_z9 => ?_)
    refine yG.ifz rfl (t := 36) rfl ⟨by omega, by omega⟩ (fun c10 => ?_) (fun c10 => ?_)
    · have c10 : (z9 : Int) ≤ 0 := c10
      refine yG.load xak rfl (fun _ _ => rfl) (v := yR k0) rfl rfl ?_
      refine yG.getO A_h8.1 (w_M_doesFail W H_k0) rfl rfl (fun r11 H_r11 O_r11 q_r11 => ?_)
      refine yG.load xik rfl (fun _ _ => rfl) (v := yI (p1)) rfl rfl ?_
      refine yG.bald A_h8.1 (v_M_doesFail W H_r11) rfl (by omega) (by omega) (fun z12 e_z12 i_z12 l_z12 u_z12 => ?_)
      refine yG.store1 xik (L' := [(3, yI (z12)), (0, yR k0), (1, yI (p1)), (2, yI (p2))]) rfl (fun _ _ => rfl) rfl rfl ?_
      refine yG.load xak rfl (fun _ _ => rfl) (v := yR k0) rfl rfl ?_
      refine yG.getS9 A_h8.1 (w_M_doesFail W H_k0) q_r11 rfl rfl ?_
      refine yG.load xik rfl (fun _ _ => rfl) (v := yI (p1)) rfl rfl ?_
      refine yG.load xik rfl (fun _ _ => rfl) (v := yI (p2)) rfl rfl ?_
      refine yG.bast A_h8.1 (v_M_doesFail W H_r11) (W.2.1 _ _ H_r11 (by decide) (by decide)) rfl (by omega) (by omega) ⟨by omega, by omega⟩ (by omega) (by omega) (fun h13 T_h13 b_h13 f_h13 y_h13 => ?_)
      have A_h13 := A_h8.put T_h13 b_h13 f_h13 H_r11 (bAll_ok (by decide) _)
      have : ys h13 k0 0 = ys h8 k0 0 := (y_h13 k0 0).trans (if_neg (fun e => (bRo.ne H_k0 H_r11 (by decide)) e.1))
      have qq1 : zsl h13 k0 86 = yR r11 := ((f_h13 k0 86).trans (if_neg (fun e => (bRo.ne H_k0 H_r11 (by decide)) e.1))).trans q_r11
      refine yG.load xak rfl (fun _ _ => rfl) (v := yR k0) rfl rfl ?_
      refine yG.invV (rest := []) A_h13.1 (bOb (d_M W) H_k0) rfl rfl rfl rfl (c_GModel_changed W d A_h13.1 H_k0) (fun rv h14 q9 => ?_)
      obtain ⟨⟨rfl, R_z15⟩, B_h14⟩ := q9
      have A_h14 := A_h13.tr B_h14 (by decide)
      have : ys h14 k0 0 = ys h13 k0 0 := B_h14.ys H_k0 (by decide)
      have qq2 : zsl h14 k0 86 = yR r11 := (B_h14.sl H_k0 (by decide)).trans qq1
      show yG _ _ _ _ _ _ _ _ _ _ [] _
      refine yG.load xik rfl (fun _ _ => rfl) (v := yI (z12)) rfl rfl ?_
      refine yG.ret rfl (fun _ _ => rfl) ?_
      exact (yP.bool (by omega) ⟨⟨z12, rfl, by omega, by omega, by omega⟩, A_h14⟩)
    · have c10 : (z9 : Int) > 0 := c10
      exfalso; omega
theorem c_GModel_backup {hp : xH} (W : mW G) (d : Nat) (hT : zTy G hp) {k0 : Nat} (H_k0 : bRo G 116 k0) (p1 : Int) (h1l : (-2147483648) ≤ p1) (h1u : p1 ≤ 2147483647) : yC (xcall 89 xfts xpools xms (d + 2)) 356 [yR k0, yI (p1)] hp (bQi G [(83076749736557242056487941267521536, 0), (83076749736557242056487941267521536, 40), (83076749736557242056487941267521536, 49), (83076749736557242056487941267521536, 62), (83076749736557242056487941267521536, 77), (83076749736557242056487941267521536, 87), (83076749736557242056487941267521536, 90), (83076749736557242056487941267521536, 101)] hp 0 9999999 (fun z => 0 ≤ p1 - z + 2147483648)) := by
  have A_hp : bAx G [(83076749736557242056487941267521536, 0), (83076749736557242056487941267521536, 40), (83076749736557242056487941267521536, 49), (83076749736557242056487941267521536, 62), (83076749736557242056487941267521536, 77), (83076749736557242056487941267521536, 87), (83076749736557242056487941267521536, 90), (83076749736557242056487941267521536, 101)] hp hp := bAx.rf hT
  refine yC.of (M := (xt_X13_backup, (3, (1, (14, []))))) rfl rfl (N := 75) (yfuel (by decide)) ?_
  show yG 89 xfts (xcall 89 xfts xpools xms (d + 1)) (xpool xp_RX13) [] xt_X13_backup (yP 1 (bQi G [(83076749736557242056487941267521536, 0), (83076749736557242056487941267521536, 40), (83076749736557242056487941267521536, 49), (83076749736557242056487941267521536, 62), (83076749736557242056487941267521536, 77), (83076749736557242056487941267521536, 87), (83076749736557242056487941267521536, 90), (83076749736557242056487941267521536, 101)] hp 0 9999999 (fun z => 0 ≤ p1 - z + 2147483648))) 75 0 [(0, yR k0), (1, yI (p1))] [] hp
  refine yG.load xak rfl (fun _ _ => rfl) (v := yR k0) rfl rfl ?_
  refine yG.load xik rfl (fun _ _ => rfl) (v := yI (p1)) rfl rfl ?_
  refine yG.i2l rfl ⟨by omega, by omega⟩ ?_
  refine yG.numl (c := 0) rfl (fun _ _ => rfl) (by decide) ?_
  refine yG.numl (c := 9999999) rfl (fun _ _ => rfl) (by decide) ?_
  refine yG.invS (rest := [yR k0]) rfl rfl rfl rfl (c_GModel_in W d A_hp.1 (p1) (0) (9999999) (by omega) (by omega) (by omega) (by omega) (by omega) (by omega)) (fun rv hp9 q9 => ?_)
  obtain ⟨⟨z1, rfl, l_z1, u_z1, R_z1⟩, e9⟩ := q9
  rw [e9]
  show yG _ _ _ _ _ _ _ _ _ _ (yI z1 :: [yR k0]) _
  refine yG.ifz rfl (t := 17) rfl ⟨by omega, by omega⟩ (fun c2 => ?_) (fun c2 => ?_)
  · have c2 : (z1 : Int) = 0 := c2
    refine yG.num (c := 1) rfl (fun _ _ => rfl) (by decide) ?_
    refine yG.putI A_hp.1 (w_M_thrown W H_k0) (W.2.1 _ _ H_k0 (by decide) (by decide)) rfl rfl (.inl rfl) ⟨by omega, by omega⟩ (by omega) (by omega) (fun h3 T_h3 b_h3 f_h3 y_h3 => ?_)
    have A_h3 := A_hp.put T_h3 b_h3 f_h3 H_k0 (by decide)
    have : ys h3 k0 0 = 1 := (y_h3 k0 0).trans (if_pos ⟨rfl, rfl⟩)
    refine yG.load xak rfl (fun _ _ => rfl) (v := yR k0) rfl rfl ?_
    refine yG.getI A_h3.1 (w_M_thrown W H_k0) rfl rfl (fun z4 e_z4 i_z4 l_z4 u_z4 => ?_)
    refine yG.ifz rfl (t := 30) rfl ⟨by omega, by omega⟩ (fun c5 => ?_) (fun c5 => ?_)
    · have c5 : (z4 : Int) ≤ 0 := c5
      exfalso; omega
    · have c5 : (z4 : Int) > 0 := c5
      refine yG.num (c := 0) rfl (fun _ _ => rfl) (by decide) ?_
      refine yG.ret rfl (fun _ _ => rfl) ?_
      exact (yP.int ⟨by omega, by omega⟩ ⟨⟨0, rfl, by omega, by omega, by omega⟩, A_h3⟩)
  · have c2 : (z1 : Int) ≠ 0 := c2
    refine yG.num (c := 0) rfl (fun _ _ => rfl) (by decide) ?_
    refine yG.goto rfl (t := 18) rfl ?_
    refine yG.putI A_hp.1 (w_M_thrown W H_k0) (W.2.1 _ _ H_k0 (by decide) (by decide)) rfl rfl (.inl rfl) ⟨by omega, by omega⟩ (by omega) (by omega) (fun h6 T_h6 b_h6 f_h6 y_h6 => ?_)
    have A_h6 := A_hp.put T_h6 b_h6 f_h6 H_k0 (by decide)
    have : ys h6 k0 0 = 0 := (y_h6 k0 0).trans (if_pos ⟨rfl, rfl⟩)
    refine yG.load xak rfl (fun _ _ => rfl) (v := yR k0) rfl rfl ?_
    refine yG.getI A_h6.1 (w_M_thrown W H_k0) rfl rfl (fun z7 e_z7 i_z7 l_z7 u_z7 => ?_)
    refine yG.ifz rfl (t := 30) rfl ⟨by omega, by omega⟩ (fun c8 => ?_) (fun c8 => ?_)
    · have c8 : (z7 : Int) ≤ 0 := c8
      refine yG.load xak rfl (fun _ _ => rfl) (v := yR k0) rfl rfl ?_
      refine yG.getI A_h6.1 (w_M_back W H_k0) rfl rfl (fun z9 e_z9 i_z9 l_z9 u_z9 => ?_)
      refine yG.store1 xik (L' := [(2, yI (z9)), (0, yR k0), (1, yI (p1))]) rfl (fun _ _ => rfl) rfl rfl ?_
      refine yG.load xak rfl (fun _ _ => rfl) (v := yR k0) rfl rfl ?_
      refine yG.load xik rfl (fun _ _ => rfl) (v := yI (p1)) rfl rfl ?_
      refine yG.putI A_h6.1 (w_M_back W H_k0) (W.2.1 _ _ H_k0 (by decide) (by decide)) rfl rfl (.inl rfl) ⟨by omega, by omega⟩ (by omega) (by omega) (fun h10 T_h10 b_h10 f_h10 y_h10 => ?_)
      have A_h10 := A_h6.put T_h10 b_h10 f_h10 H_k0 (by decide)
      have : ys h10 k0 0 = ys h6 k0 0 := (y_h10 k0 0).trans (if_neg (fun e => absurd e.2 (by decide)))
      refine yG.load xak rfl (fun _ _ => rfl) (v := yR k0) rfl rfl ?_
      refine yG.invV (rest := []) A_h10.1 (bOb (d_M W) H_k0) rfl rfl rfl rfl (c_GModel_changed W d A_h10.1 H_k0) (fun rv h11 q9 => ?_)
      obtain ⟨⟨rfl, R_z12⟩, B_h11⟩ := q9
      have A_h11 := A_h10.tr B_h11 (by decide)
      have : ys h11 k0 0 = ys h10 k0 0 := B_h11.ys H_k0 (by decide)
      show yG _ _ _ _ _ _ _ _ _ _ [] _
      refine yG.load xik rfl (fun _ _ => rfl) (v := yI (z9)) rfl rfl ?_
      refine yG.ret rfl (fun _ _ => rfl) ?_
      exact (yP.int ⟨by omega, by omega⟩ ⟨⟨z9, rfl, by omega, by omega, by omega⟩, A_h11⟩)
    · have c8 : (z7 : Int) > 0 := c8
      exfalso; omega
theorem c_GModel_opened {hp : xH} (W : mW G) (d : Nat) (hT : zTy G hp) {k0 : Nat} (H_k0 : bRo G 116 k0) (p1 p2 : Int) (h1l : (-2147483648) ≤ p1) (h1u : p1 ≤ 2147483647) (h2l : (-2147483648) ≤ p2) (h2u : p2 ≤ 2147483647) : yC (xcall 89 xfts xpools xms (d + 2)) 475 [yR k0, yI (p1), yI (p2)] hp (bQi G [(83076749736557242056487941267521536, 0)] hp (-2147483648) 2147483647 (fun z => 0 ≤ 0 - p1 + z + 2147483671 ∧ 0 ≤ p1 - z + 2147483647 ∧ 0 ≤ 0 - p2 + z + 2147483649 ∧ 0 ≤ p2 - z + 2147483647)) := by
  have A_hp : bAx G [(83076749736557242056487941267521536, 0)] hp hp := bAx.rf hT
  refine yC.of (M := (xt_X13_opened, (3, (1, (14, []))))) rfl rfl (N := 96) (yfuel (by decide)) ?_
  show yG 89 xfts (xcall 89 xfts xpools xms (d + 1)) (xpool xp_RX13) [] xt_X13_opened (yP 1 (bQi G [(83076749736557242056487941267521536, 0)] hp (-2147483648) 2147483647 (fun z => 0 ≤ 0 - p1 + z + 2147483671 ∧ 0 ≤ p1 - z + 2147483647 ∧ 0 ≤ 0 - p2 + z + 2147483649 ∧ 0 ≤ p2 - z + 2147483647))) 96 0 [(0, yR k0), (1, yI (p1)), (2, yI (p2))] [] hp
  refine yG.load xak rfl (fun _ _ => rfl) (v := yR k0) rfl rfl ?_
  refine yG.num (c := 0) rfl (fun _ _ => rfl) (by decide) ?_
  refine yG.putI A_hp.1 (w_M_thrown W H_k0) (W.2.1 _ _ H_k0 (by decide) (by decide)) rfl rfl (.inl rfl) ⟨by omega, by omega⟩ (by omega) (by omega) (fun h1 T_h1 b_h1 f_h1 y_h1 => ?_)
  have A_h1 := A_hp.put T_h1 b_h1 f_h1 H_k0 (by decide)
  refine yG.load xak rfl (fun _ _ => rfl) (v := yR k0) rfl rfl ?_
  refine yG.getI A_h1.1 (w_M_hasRun W H_k0) rfl rfl (fun z2 e_z2 i_z2 l_z2 u_z2 => ?_)
  refine yG.ifz rfl (t := 38) rfl ⟨by omega, by omega⟩ (fun c3 => ?_) (fun c3 => ?_)
  · have c3 : (z2 : Int) = 0 := c3
    refine yG.num (c := -1) rfl (fun _ _ => rfl) (by decide) ?_
    refine yG.ret rfl (fun _ _ => rfl) ?_
    exact (yP.int ⟨by omega, by omega⟩ ⟨⟨(-1), rfl, by omega, by omega, by omega⟩, A_h1⟩)
  · have c3 : (z2 : Int) ≠ 0 := c3
    refine yG.load xik rfl (fun _ _ => rfl) (v := yI (p1)) rfl rfl ?_
    refine yG.i2l rfl ⟨by omega, by omega⟩ ?_
    refine yG.numl (c := 0) rfl (fun _ _ => rfl) (by decide) ?_
    refine yG.load xak rfl (fun _ _ => rfl) (v := yR k0) rfl rfl ?_
    refine yG.getI A_h1.1 (w_M_openedCount W H_k0) rfl rfl (fun z4 e_z4 i_z4 l_z4 u_z4 => ?_)
    refine yG.num (c := 1) rfl (fun _ _ => rfl) (by decide) ?_
    refine yG.isub rfl ?_
    refine yG.i2l rfl ⟨by omega, by omega⟩ ?_
    refine yG.invS (rest := []) rfl rfl rfl rfl (c_GModel_in W d A_h1.1 (p1) (0) (z4 - 1) (by omega) (by omega) (by omega) (by omega) (by omega) (by omega)) (fun rv hp9 q9 => ?_)
    obtain ⟨⟨z5, rfl, l_z5, u_z5, R_z5⟩, e9⟩ := q9
    rw [e9]
    show yG _ _ _ _ _ _ _ _ _ _ (yI z5 :: []) _
    refine yG.ifz rfl (t := 38) rfl ⟨by omega, by omega⟩ (fun c6 => ?_) (fun c6 => ?_)
    · have c6 : (z5 : Int) = 0 := c6
      refine yG.num (c := -1) rfl (fun _ _ => rfl) (by decide) ?_
      refine yG.ret rfl (fun _ _ => rfl) ?_
      exact (yP.int ⟨by omega, by omega⟩ ⟨⟨(-1), rfl, by omega, by omega, by omega⟩, A_h1⟩)
    · have c6 : (z5 : Int) ≠ 0 := c6
      refine yG.load xik rfl (fun _ _ => rfl) (v := yI (p2)) rfl rfl ?_
      refine yG.i2l rfl ⟨by omega, by omega⟩ ?_
      refine yG.numl (c := 0) rfl (fun _ _ => rfl) (by decide) ?_
      refine yG.numl (c := 1) rfl (fun _ _ => rfl) (by decide) ?_
      refine yG.invS (rest := []) rfl rfl rfl rfl (c_GModel_in W d A_h1.1 (p2) (0) (1) (by omega) (by omega) (by omega) (by omega) (by omega) (by omega)) (fun rv hp9 q9 => ?_)
      obtain ⟨⟨z7, rfl, l_z7, u_z7, R_z7⟩, e9⟩ := q9
      rw [e9]
      show yG _ _ _ _ _ _ _ _ _ _ (yI z7 :: []) _
      refine yG.ifz rfl (t := 40) rfl ⟨by omega, by omega⟩ (fun c8 => ?_) (fun c8 => ?_)
      · have c8 : (z7 : Int) ≠ 0 := c8
        refine yG.load xik rfl (fun _ _ => rfl) (v := yI (p2)) rfl rfl ?_
        refine yG.ifz rfl (t := 53) rfl ⟨by omega, by omega⟩ (fun c9 => ?_) (fun c9 => ?_)
        · have c9 : (p2 : Int) ≠ 0 := c9
          refine yG.load xak rfl (fun _ _ => rfl) (v := yR k0) rfl rfl ?_
          refine yG.getO A_h1.1 (w_M_openedAt W H_k0) rfl rfl (fun r10 H_r10 O_r10 q_r10 => ?_)
          refine yG.load xik rfl (fun _ _ => rfl) (v := yI (p1)) rfl rfl ?_
          refine yG.iald A_h1.1 (v_M_openedAt W H_r10) rfl (by omega) (by omega) (fun z11 e_z11 i_z11 l_z11 u_z11 => ?_)
          refine yG.ret rfl (fun _ _ => rfl) ?_
          exact (yP.int ⟨by omega, by omega⟩ ⟨⟨z11, rfl, by omega, by omega, by omega⟩, A_h1⟩)
        · have c9 : (p2 : Int) = 0 := c9
          refine yG.load xak rfl (fun _ _ => rfl) (v := yR k0) rfl rfl ?_
          refine yG.getO A_h1.1 (w_M_openedSwitch W H_k0) rfl rfl (fun r12 H_r12 O_r12 q_r12 => ?_)
          refine yG.load xik rfl (fun _ _ => rfl) (v := yI (p1)) rfl rfl ?_
          refine yG.iald A_h1.1 (v_M_openedSwitch W H_r12) rfl (by omega) (by omega) (fun z13 e_z13 i_z13 l_z13 u_z13 => ?_)
          refine yG.goto rfl (t := 59) rfl ?_
          refine yG.ret rfl (fun _ _ => rfl) ?_
          exact (yP.int ⟨by omega, by omega⟩ ⟨⟨z13, rfl, by omega, by omega, by omega⟩, A_h1⟩)
      · have c8 : (z7 : Int) = 0 := c8
        refine yG.num (c := -1) rfl (fun _ _ => rfl) (by decide) ?_
        refine yG.ret rfl (fun _ _ => rfl) ?_
        exact (yP.int ⟨by omega, by omega⟩ ⟨⟨(-1), rfl, by omega, by omega, by omega⟩, A_h1⟩)
theorem c_GModel_ordered {hp : xH} (W : mW G) (d : Nat) (hT : zTy G hp) {k0 : Nat} (H_k0 : bRo G 116 k0) (p1 : Int) (h1l : (-2147483648) ≤ p1) (h1u : p1 ≤ 2147483647) : yC (xcall 89 xfts xpools xms (d + 2)) 477 [yR k0, yI (p1)] hp (bQi G [(83076749736557242056487941267521536, 0)] hp 0 1 (fun z => (z = 1 → 0 ≤ p1 ∧ 0 ≤ 0 - p1 + 23))) := by
  have A_hp : bAx G [(83076749736557242056487941267521536, 0)] hp hp := bAx.rf hT
  refine yC.of (M := (xt_X13_ordered, (2, (4, (14, []))))) rfl rfl (N := 84) (yfuel (by decide)) ?_
  show yG 89 xfts (xcall 89 xfts xpools xms (d + 1)) (xpool xp_RX13) [] xt_X13_ordered (yP 4 (bQi G [(83076749736557242056487941267521536, 0)] hp 0 1 (fun z => (z = 1 → 0 ≤ p1 ∧ 0 ≤ 0 - p1 + 23)))) 84 0 [(0, yR k0), (1, yI (p1))] [] hp
  refine yG.load xak rfl (fun _ _ => rfl) (v := yR k0) rfl rfl ?_
  refine yG.num (c := 0) rfl (fun _ _ => rfl) (by decide) ?_
  refine yG.putI A_hp.1 (w_M_thrown W H_k0) (W.2.1 _ _ H_k0 (by decide) (by decide)) rfl rfl (.inl rfl) ⟨by omega, by omega⟩ (by omega) (by omega) (fun h1 T_h1 b_h1 f_h1 y_h1 => ?_)
  have A_h1 := A_hp.put T_h1 b_h1 f_h1 H_k0 (by decide)
  refine yG.load xak rfl (fun _ _ => rfl) (v := yR k0) rfl rfl ?_
  refine yG.getI A_h1.1 (w_M_hasRun W H_k0) rfl rfl (fun z2 e_z2 i_z2 l_z2 u_z2 => ?_)
  refine yG.ifz rfl (t := 43) rfl ⟨by omega, by omega⟩ (fun c3 => ?_) (fun c3 => ?_)
  · have c3 : (z2 : Int) = 0 := c3
    refine yG.num (c := 0) rfl (fun _ _ => rfl) (by decide) ?_
    refine yG.ret rfl (fun _ _ => rfl) ?_
    exact (yP.bool (by omega) ⟨⟨0, rfl, by omega, by omega, by omega⟩, A_h1⟩)
  · have c3 : (z2 : Int) ≠ 0 := c3
    refine yG.load xik rfl (fun _ _ => rfl) (v := yI (p1)) rfl rfl ?_
    refine yG.i2l rfl ⟨by omega, by omega⟩ ?_
    refine yG.numl (c := 0) rfl (fun _ _ => rfl) (by decide) ?_
    refine yG.load xak rfl (fun _ _ => rfl) (v := yR k0) rfl rfl ?_
    refine yG.getO A_h1.1 (w_M_count W H_k0) rfl rfl (fun r4 H_r4 O_r4 q_r4 => ?_)
    refine yG.num (c := 1) rfl (fun _ _ => rfl) (by decide) ?_
    refine yG.ialdF A_h1.1 (v_M_count W H_r4) rfl rfl (by omega) (by omega) (fun z5 e_z5 i_z5 l_z5 u_z5 => ?_)
    refine yG.num (c := 1) rfl (fun _ _ => rfl) (by decide) ?_
    refine yG.isub rfl ?_
    refine yG.i2l rfl ⟨by omega, by omega⟩ ?_
    refine yG.invS (rest := []) rfl rfl rfl rfl (c_GModel_in W d A_h1.1 (p1) (0) (z5 - 1) (by omega) (by omega) (by omega) (by omega) (by omega) (by omega)) (fun rv hp9 q9 => ?_)
    obtain ⟨⟨z6, rfl, l_z6, u_z6, R_z6⟩, e9⟩ := q9
    rw [e9]
    show yG _ _ _ _ _ _ _ _ _ _ (yI z6 :: []) _
    refine yG.ifz rfl (t := 43) rfl ⟨by omega, by omega⟩ (fun c7 => ?_) (fun c7 => ?_)
    · have c7 : (z6 : Int) = 0 := c7
      refine yG.num (c := 0) rfl (fun _ _ => rfl) (by decide) ?_
      refine yG.ret rfl (fun _ _ => rfl) ?_
      exact (yP.bool (by omega) ⟨⟨0, rfl, by omega, by omega, by omega⟩, A_h1⟩)
    · have c7 : (z6 : Int) ≠ 0 := c7
      refine yG.load xak rfl (fun _ _ => rfl) (v := yR k0) rfl rfl ?_
      refine yG.getO A_h1.1 (w_M_hasOrder W H_k0) rfl rfl (fun r8 H_r8 O_r8 q_r8 => ?_)
      refine yG.load xik rfl (fun _ _ => rfl) (v := yI (p1)) rfl rfl ?_
      refine yG.bald A_h1.1 (v_M_hasOrder W H_r8) rfl (by omega) (by omega) (fun z9 e_z9 i_z9 l_z9 u_z9 => ?_)
      refine yG.ifz rfl (t := 43) rfl ⟨by omega, by omega⟩ (fun c10 => ?_) (fun c10 => ?_)
      · have c10 : (z9 : Int) = 0 := c10
        refine yG.num (c := 0) rfl (fun _ _ => rfl) (by decide) ?_
        refine yG.ret rfl (fun _ _ => rfl) ?_
        exact (yP.bool (by omega) ⟨⟨0, rfl, by omega, by omega, by omega⟩, A_h1⟩)
      · have c10 : (z9 : Int) ≠ 0 := c10
        refine yG.num (c := 1) rfl (fun _ _ => rfl) (by decide) ?_
        refine yG.goto rfl (t := 44) rfl ?_
        refine yG.ret rfl (fun _ _ => rfl) ?_
        exact (yP.bool (by omega) ⟨⟨1, rfl, by omega, by omega, by omega⟩, A_h1⟩)
theorem c_GModel_step {hp : xH} (W : mW G) (d : Nat) (hT : zTy G hp) {k0 : Nat} (H_k0 : bRo G 116 k0) (p1 : Int) (h1l : (-2147483648) ≤ p1) (h1u : p1 ≤ 2147483647) : yC (xcall 89 xfts xpools xms (d + 2)) 521 [yR k0, yI (p1)] hp (bQi G [(83076749736557242056487941267521536, 0)] hp (-1) 23 (fun z => 0 ≤ p1 - z + 2147483647)) := by
  have A_hp : bAx G [(83076749736557242056487941267521536, 0)] hp hp := bAx.rf hT
  refine yC.of (M := (xt_X13_step, (2, (1, (14, []))))) rfl rfl (N := 63) (yfuel (by decide)) ?_
  show yG 89 xfts (xcall 89 xfts xpools xms (d + 1)) (xpool xp_RX13) [] xt_X13_step (yP 1 (bQi G [(83076749736557242056487941267521536, 0)] hp (-1) 23 (fun z => 0 ≤ p1 - z + 2147483647))) 63 0 [(0, yR k0), (1, yI (p1))] [] hp
  refine yG.load xak rfl (fun _ _ => rfl) (v := yR k0) rfl rfl ?_
  refine yG.num (c := 0) rfl (fun _ _ => rfl) (by decide) ?_
  refine yG.putI A_hp.1 (w_M_thrown W H_k0) (W.2.1 _ _ H_k0 (by decide) (by decide)) rfl rfl (.inl rfl) ⟨by omega, by omega⟩ (by omega) (by omega) (fun h1 T_h1 b_h1 f_h1 y_h1 => ?_)
  have A_h1 := A_hp.put T_h1 b_h1 f_h1 H_k0 (by decide)
  refine yG.load xik rfl (fun _ _ => rfl) (v := yI (p1)) rfl rfl ?_
  refine yG.i2l rfl ⟨by omega, by omega⟩ ?_
  refine yG.numl (c := 0) rfl (fun _ _ => rfl) (by decide) ?_
  refine yG.load xak rfl (fun _ _ => rfl) (v := yR k0) rfl rfl ?_
  refine yG.getI A_h1.1 (w_M_restored W H_k0) rfl rfl (fun z2 e_z2 i_z2 l_z2 u_z2 => ?_)
  refine yG.num (c := 1) rfl (fun _ _ => rfl) (by decide) ?_
  refine yG.isub rfl ?_
  refine yG.i2l rfl ⟨by omega, by omega⟩ ?_
  refine yG.invS (rest := []) rfl rfl rfl rfl (c_GModel_in W d A_h1.1 (p1) (0) (z2 - 1) (by omega) (by omega) (by omega) (by omega) (by omega) (by omega)) (fun rv hp9 q9 => ?_)
  obtain ⟨⟨z3, rfl, l_z3, u_z3, R_z3⟩, e9⟩ := q9
  rw [e9]
  show yG _ _ _ _ _ _ _ _ _ _ (yI z3 :: []) _
  refine yG.ifz rfl (t := 30) rfl ⟨by omega, by omega⟩ (fun c4 => ?_) (fun c4 => ?_)
  · have c4 : (z3 : Int) = 0 := c4
    refine yG.num (c := -1) rfl (fun _ _ => rfl) (by decide) ?_
    refine yG.ret rfl (fun _ _ => rfl) ?_
    exact (yP.int ⟨by omega, by omega⟩ ⟨⟨(-1), rfl, by omega, by omega, by omega⟩, A_h1⟩)
  · have c4 : (z3 : Int) ≠ 0 := c4
    refine yG.load xak rfl (fun _ _ => rfl) (v := yR k0) rfl rfl ?_
    refine yG.getO A_h1.1 (w_M_restoredSwitch W H_k0) rfl rfl (fun r5 H_r5 O_r5 q_r5 => ?_)
    refine yG.load xik rfl (fun _ _ => rfl) (v := yI (p1)) rfl rfl ?_
    refine yG.iald A_h1.1 (v_M_restoredSwitch W H_r5) rfl (by omega) (by omega) (fun z6 e_z6 i_z6 l_z6 u_z6 => ?_)
    refine yG.goto rfl (t := 31) rfl ?_
    refine yG.ret rfl (fun _ _ => rfl) ?_
    exact (yP.int ⟨by omega, by omega⟩ ⟨⟨z6, rfl, by omega, by omega, by omega⟩, A_h1⟩)
theorem c_GModel_rowsOfShort {hp : xH} (W : mW G) (d : Nat) (hT : zTy G hp) {k0 : Nat} (H_k0 : bRo G 116 k0) : yC (xcall 89 xfts xpools xms (d + 2)) 496 [yR k0] hp (fun rv hp' => (rv = none ∧ True) ∧ bAx G [(83076749736557242056487941267521536, 38), (267608942382367477698428619271780338071764992, 256)] hp hp') := by
  have A_hp : bAx G [(83076749736557242056487941267521536, 38), (267608942382367477698428619271780338071764992, 256)] hp hp := bAx.rf hT
  refine yC.of (M := (xt_X13_rowsOfShort, (1, (0, (14, []))))) rfl rfl (N := 30) (yfuel (by decide)) ?_
  show yG 89 xfts (xcall 89 xfts xpools xms (d + 1)) (xpool xp_RX13) [] xt_X13_rowsOfShort (yP 0 (fun rv hp' => (rv = none ∧ True) ∧ bAx G [(83076749736557242056487941267521536, 38), (267608942382367477698428619271780338071764992, 256)] hp hp')) 30 0 [(0, yR k0)] [] hp
  refine yG.load xak rfl (fun _ _ => rfl) (v := yR k0) rfl rfl ?_
  refine yG.getI A_hp.1 (w_M_isVoid W H_k0) rfl rfl (fun z1 e_z1 i_z1 l_z1 u_z1 => ?_)
  refine yG.ifz rfl (t := 15) rfl ⟨by omega, by omega⟩ (fun c2 => ?_) (fun c2 => ?_)
  · have c2 : (z1 : Int) ≠ 0 := c2
    refine yG.ret rfl (fun _ _ => rfl) ?_
    exact (yP.void ⟨⟨rfl, trivial⟩, A_hp⟩)
  · have c2 : (z1 : Int) = 0 := c2
    refine yG.load xak rfl (fun _ _ => rfl) (v := yR k0) rfl rfl ?_
    refine yG.load xak rfl (fun _ _ => rfl) (v := yR k0) rfl rfl ?_
    refine yG.getI A_hp.1 (w_M_shortIsland W H_k0) rfl rfl (fun z3 e_z3 i_z3 l_z3 u_z3 => ?_)
    refine yG.invV (rest := []) A_hp.1 (bOb (d_M W) H_k0) rfl rfl rfl rfl (c_GModel_listNodes W d A_hp.1 H_k0 (z3) (by omega) (by omega)) (fun rv h4 q9 => ?_)
    obtain ⟨⟨rfl, R_z5⟩, B_h4⟩ := q9
    have A_h4 := A_hp.tr B_h4 (by decide)
    show yG _ _ _ _ _ _ _ _ _ _ [] _
    refine yG.ret rfl (fun _ _ => rfl) ?_
    exact (yP.void ⟨⟨rfl, trivial⟩, A_h4⟩)
theorem c_GModel_get {hp : xH} (W : mW G) (d : Nat) (hT : zTy G hp) {k0 : Nat} (H_k0 : bRo G 116 k0) (p1 p2 p3 : Int) (h1l : (-2147483648) ≤ p1) (h1u : p1 ≤ 2147483647) (h2l : (-2147483648) ≤ p2) (h2u : p2 ≤ 2147483647) (h3l : (-2147483648) ≤ p3) (h3u : p3 ≤ 2147483647) : yC (xcall 89 xfts xpools xms (d + 3)) 409 [yR k0, yI (p1), yI (p2), yI (p3)] hp (bQi G [(83076749736557242056487941267521536, 0)] hp 0 999999 (fun z => 0 ≤ p1 - z + 2147483648 ∧ 0 ≤ p2 - z + 2147483648 ∧ 0 ≤ p3 - z + 2147483648)) := by
  have A_hp : bAx G [(83076749736557242056487941267521536, 0)] hp hp := bAx.rf hT
  refine yC.of (M := (xt_X13_get, (4, (1, (14, []))))) rfl rfl (N := 87) (yfuel (by decide)) ?_
  show yG 89 xfts (xcall 89 xfts xpools xms (d + 2)) (xpool xp_RX13) [] xt_X13_get (yP 1 (bQi G [(83076749736557242056487941267521536, 0)] hp 0 999999 (fun z => 0 ≤ p1 - z + 2147483648 ∧ 0 ≤ p2 - z + 2147483648 ∧ 0 ≤ p3 - z + 2147483648))) 87 0 [(0, yR k0), (1, yI (p1)), (2, yI (p2)), (3, yI (p3))] [] hp
  rcases (show p1 ≤ (-1) ∨ p1 ≥ 5 ∨ p1 = 0 ∨ p1 = 1 ∨ p1 = 2 ∨ p1 = 3 ∨ p1 = 4 by omega) with c1 | c1 | c1 | c1 | c1 | c1 | c1
  · skip
    refine yG.load xak rfl (fun _ _ => rfl) (v := yR k0) rfl rfl ?_
    refine yG.load xak rfl (fun _ _ => rfl) (v := yR k0) rfl rfl ?_
    refine yG.load xik rfl (fun _ _ => rfl) (v := yI (p1)) rfl rfl ?_
    refine yG.load xik rfl (fun _ _ => rfl) (v := yI (p2)) rfl rfl ?_
    refine yG.invV (rest := [yR k0]) A_hp.1 (bOb (d_M W) H_k0) rfl rfl rfl rfl (c_GModel_isObject W d A_hp.1 H_k0 (p1) (p2) (by omega) (by omega) (by omega) (by omega)) (fun rv hp9 q9 => ?_)
    obtain ⟨⟨z2, rfl, l_z2, u_z2, R_z2⟩, e9⟩ := q9
    rw [e9]
    show yG _ _ _ _ _ _ _ _ _ _ (yI z2 :: [yR k0]) _
    refine yG.ifz rfl (t := 14) rfl ⟨by omega, by omega⟩ (fun c3 => ?_) (fun c3 => ?_)
    · have c3 : (z2 : Int) ≠ 0 := c3
      exfalso; omega
    · have c3 : (z2 : Int) = 0 := c3
      refine yG.num (c := 1) rfl (fun _ _ => rfl) (by decide) ?_
      refine yG.goto rfl (t := 35) rfl ?_
      refine yG.putI A_hp.1 (w_M_thrown W H_k0) (W.2.1 _ _ H_k0 (by decide) (by decide)) rfl rfl (.inl rfl) ⟨by omega, by omega⟩ (by omega) (by omega) (fun h4 T_h4 b_h4 f_h4 y_h4 => ?_)
      have A_h4 := A_hp.put T_h4 b_h4 f_h4 H_k0 (by decide)
      have : ys h4 k0 0 = 1 := (y_h4 k0 0).trans (if_pos ⟨rfl, rfl⟩)
      refine yG.load xak rfl (fun _ _ => rfl) (v := yR k0) rfl rfl ?_
      refine yG.getI A_h4.1 (w_M_thrown W H_k0) rfl rfl (fun z5 e_z5 i_z5 l_z5 u_z5 => ?_)
      refine yG.ifz rfl (t := 49) rfl ⟨by omega, by omega⟩ (fun c6 => ?_) (fun c6 => ?_)
      · have c6 : (z5 : Int) ≤ 0 := c6
        exfalso; omega
      · have c6 : (z5 : Int) > 0 := c6
        refine yG.num (c := 0) rfl (fun _ _ => rfl) (by decide) ?_
        refine yG.goto rfl (t := 56) rfl ?_
        refine yG.ret rfl (fun _ _ => rfl) ?_
        exact (yP.int ⟨by omega, by omega⟩ ⟨⟨0, rfl, by omega, by omega, by omega⟩, A_h4⟩)
  · skip
    refine yG.load xak rfl (fun _ _ => rfl) (v := yR k0) rfl rfl ?_
    refine yG.load xak rfl (fun _ _ => rfl) (v := yR k0) rfl rfl ?_
    refine yG.load xik rfl (fun _ _ => rfl) (v := yI (p1)) rfl rfl ?_
    refine yG.load xik rfl (fun _ _ => rfl) (v := yI (p2)) rfl rfl ?_
    refine yG.invV (rest := [yR k0]) A_hp.1 (bOb (d_M W) H_k0) rfl rfl rfl rfl (c_GModel_isObject W d A_hp.1 H_k0 (p1) (p2) (by omega) (by omega) (by omega) (by omega)) (fun rv hp9 q9 => ?_)
    obtain ⟨⟨z7, rfl, l_z7, u_z7, R_z7⟩, e9⟩ := q9
    rw [e9]
    show yG _ _ _ _ _ _ _ _ _ _ (yI z7 :: [yR k0]) _
    refine yG.ifz rfl (t := 14) rfl ⟨by omega, by omega⟩ (fun c8 => ?_) (fun c8 => ?_)
    · have c8 : (z7 : Int) ≠ 0 := c8
      exfalso; omega
    · have c8 : (z7 : Int) = 0 := c8
      refine yG.num (c := 1) rfl (fun _ _ => rfl) (by decide) ?_
      refine yG.goto rfl (t := 35) rfl ?_
      refine yG.putI A_hp.1 (w_M_thrown W H_k0) (W.2.1 _ _ H_k0 (by decide) (by decide)) rfl rfl (.inl rfl) ⟨by omega, by omega⟩ (by omega) (by omega) (fun h9 T_h9 b_h9 f_h9 y_h9 => ?_)
      have A_h9 := A_hp.put T_h9 b_h9 f_h9 H_k0 (by decide)
      have : ys h9 k0 0 = 1 := (y_h9 k0 0).trans (if_pos ⟨rfl, rfl⟩)
      refine yG.load xak rfl (fun _ _ => rfl) (v := yR k0) rfl rfl ?_
      refine yG.getI A_h9.1 (w_M_thrown W H_k0) rfl rfl (fun z10 e_z10 i_z10 l_z10 u_z10 => ?_)
      refine yG.ifz rfl (t := 49) rfl ⟨by omega, by omega⟩ (fun c11 => ?_) (fun c11 => ?_)
      · have c11 : (z10 : Int) ≤ 0 := c11
        exfalso; omega
      · have c11 : (z10 : Int) > 0 := c11
        refine yG.num (c := 0) rfl (fun _ _ => rfl) (by decide) ?_
        refine yG.goto rfl (t := 56) rfl ?_
        refine yG.ret rfl (fun _ _ => rfl) ?_
        exact (yP.int ⟨by omega, by omega⟩ ⟨⟨0, rfl, by omega, by omega, by omega⟩, A_h9⟩)
  · subst c1
    refine yG.load xak rfl (fun _ _ => rfl) (v := yR k0) rfl rfl ?_
    refine yG.load xak rfl (fun _ _ => rfl) (v := yR k0) rfl rfl ?_
    refine yG.load xik rfl (fun _ _ => rfl) (v := yI (0)) rfl rfl ?_
    refine yG.load xik rfl (fun _ _ => rfl) (v := yI (p2)) rfl rfl ?_
    refine yG.invV (rest := [yR k0]) A_hp.1 (bOb (d_M W) H_k0) rfl rfl rfl rfl (c_GModel_isObject W d A_hp.1 H_k0 (0) (p2) (by omega) (by omega) (by omega) (by omega)) (fun rv hp9 q9 => ?_)
    obtain ⟨⟨z12, rfl, l_z12, u_z12, R_z12⟩, e9⟩ := q9
    rw [e9]
    show yG _ _ _ _ _ _ _ _ _ _ (yI z12 :: [yR k0]) _
    refine yG.ifz rfl (t := 14) rfl ⟨by omega, by omega⟩ (fun c13 => ?_) (fun c13 => ?_)
    · have c13 : (z12 : Int) ≠ 0 := c13
      refine yG.load xik rfl (fun _ _ => rfl) (v := yI (p3)) rfl rfl ?_
      refine yG.i2l rfl ⟨by omega, by omega⟩ ?_
      refine yG.numl (c := 0) rfl (fun _ _ => rfl) (by decide) ?_
      refine yG.load xik rfl (fun _ _ => rfl) (v := yI (0)) rfl rfl ?_
      refine yG.invS (rest := [yJ (0), yJ (p3), yR k0]) rfl rfl rfl rfl (c_GModel_fields W (d + 1) A_hp.1 (0) (by omega) (by omega)) (fun rv hp9 q9 => ?_)
      obtain ⟨⟨z14, rfl, l_z14, u_z14, R_z14⟩, e9⟩ := q9
      rw [e9]
      show yG _ _ _ _ _ _ _ _ _ _ (yI z14 :: [yJ (0), yJ (p3), yR k0]) _
      refine yG.num (c := 1) rfl (fun _ _ => rfl) (by decide) ?_
      refine yG.isub rfl ?_
      refine yG.i2l rfl ⟨by omega, by omega⟩ ?_
      refine yG.invS (rest := [yR k0]) rfl rfl rfl rfl (c_GModel_in W (d + 1) A_hp.1 (p3) (0) (z14 - 1) (by omega) (by omega) (by omega) (by omega) (by omega) (by omega)) (fun rv hp9 q9 => ?_)
      obtain ⟨⟨z15, rfl, l_z15, u_z15, R_z15⟩, e9⟩ := q9
      rw [e9]
      show yG _ _ _ _ _ _ _ _ _ _ (yI z15 :: [yR k0]) _
      refine yG.ifz rfl (t := 34) rfl ⟨by omega, by omega⟩ (fun c16 => ?_) (fun c16 => ?_)
      · have c16 : (z15 : Int) ≠ 0 := c16
        refine yG.num (c := 0) rfl (fun _ _ => rfl) (by decide) ?_
        refine yG.putI A_hp.1 (w_M_thrown W H_k0) (W.2.1 _ _ H_k0 (by decide) (by decide)) rfl rfl (.inl rfl) ⟨by omega, by omega⟩ (by omega) (by omega) (fun h17 T_h17 b_h17 f_h17 y_h17 => ?_)
        have A_h17 := A_hp.put T_h17 b_h17 f_h17 H_k0 (by decide)
        have : ys h17 k0 0 = 0 := (y_h17 k0 0).trans (if_pos ⟨rfl, rfl⟩)
        refine yG.load xak rfl (fun _ _ => rfl) (v := yR k0) rfl rfl ?_
        refine yG.getI A_h17.1 (w_M_thrown W H_k0) rfl rfl (fun z18 e_z18 i_z18 l_z18 u_z18 => ?_)
        refine yG.ifz rfl (t := 49) rfl ⟨by omega, by omega⟩ (fun c19 => ?_) (fun c19 => ?_)
        · have c19 : (z18 : Int) ≤ 0 := c19
          refine yG.load xak rfl (fun _ _ => rfl) (v := yR k0) rfl rfl ?_
          refine yG.load xik rfl (fun _ _ => rfl) (v := yI (0)) rfl rfl ?_
          refine yG.load xik rfl (fun _ _ => rfl) (v := yI (p2)) rfl rfl ?_
          refine yG.load xik rfl (fun _ _ => rfl) (v := yI (p3)) rfl rfl ?_
          refine yG.invV (rest := []) A_h17.1 (bOb (d_M W) H_k0) rfl rfl rfl rfl (c_GModel_of_z W d A_h17.1 H_k0 (0) (p2) (p3) (by omega) (by omega) (by omega) (by omega) (by omega) (by omega)) (fun rv hp9 q9 => ?_)
          obtain ⟨⟨z20, rfl, l_z20, u_z20, R_z20⟩, e9⟩ := q9
          rw [e9]
          show yG _ _ _ _ _ _ _ _ _ _ (yI z20 :: []) _
          refine yG.ret rfl (fun _ _ => rfl) ?_
          exact (yP.int ⟨by omega, by omega⟩ ⟨⟨z20, rfl, by omega, by omega, by omega⟩, A_h17⟩)
        · have c19 : (z18 : Int) > 0 := c19
          exfalso; omega
      · have c16 : (z15 : Int) = 0 := c16
        refine yG.num (c := 2) rfl (fun _ _ => rfl) (by decide) ?_
        refine yG.goto rfl (t := 35) rfl ?_
        refine yG.putI A_hp.1 (w_M_thrown W H_k0) (W.2.1 _ _ H_k0 (by decide) (by decide)) rfl rfl (.inl rfl) ⟨by omega, by omega⟩ (by omega) (by omega) (fun h21 T_h21 b_h21 f_h21 y_h21 => ?_)
        have A_h21 := A_hp.put T_h21 b_h21 f_h21 H_k0 (by decide)
        have : ys h21 k0 0 = 2 := (y_h21 k0 0).trans (if_pos ⟨rfl, rfl⟩)
        refine yG.load xak rfl (fun _ _ => rfl) (v := yR k0) rfl rfl ?_
        refine yG.getI A_h21.1 (w_M_thrown W H_k0) rfl rfl (fun z22 e_z22 i_z22 l_z22 u_z22 => ?_)
        refine yG.ifz rfl (t := 49) rfl ⟨by omega, by omega⟩ (fun c23 => ?_) (fun c23 => ?_)
        · have c23 : (z22 : Int) ≤ 0 := c23
          exfalso; omega
        · have c23 : (z22 : Int) > 0 := c23
          refine yG.num (c := 0) rfl (fun _ _ => rfl) (by decide) ?_
          refine yG.goto rfl (t := 56) rfl ?_
          refine yG.ret rfl (fun _ _ => rfl) ?_
          exact (yP.int ⟨by omega, by omega⟩ ⟨⟨0, rfl, by omega, by omega, by omega⟩, A_h21⟩)
    · have c13 : (z12 : Int) = 0 := c13
      refine yG.num (c := 1) rfl (fun _ _ => rfl) (by decide) ?_
      refine yG.goto rfl (t := 35) rfl ?_
      refine yG.putI A_hp.1 (w_M_thrown W H_k0) (W.2.1 _ _ H_k0 (by decide) (by decide)) rfl rfl (.inl rfl) ⟨by omega, by omega⟩ (by omega) (by omega) (fun h24 T_h24 b_h24 f_h24 y_h24 => ?_)
      have A_h24 := A_hp.put T_h24 b_h24 f_h24 H_k0 (by decide)
      have : ys h24 k0 0 = 1 := (y_h24 k0 0).trans (if_pos ⟨rfl, rfl⟩)
      refine yG.load xak rfl (fun _ _ => rfl) (v := yR k0) rfl rfl ?_
      refine yG.getI A_h24.1 (w_M_thrown W H_k0) rfl rfl (fun z25 e_z25 i_z25 l_z25 u_z25 => ?_)
      refine yG.ifz rfl (t := 49) rfl ⟨by omega, by omega⟩ (fun c26 => ?_) (fun c26 => ?_)
      · have c26 : (z25 : Int) ≤ 0 := c26
        exfalso; omega
      · have c26 : (z25 : Int) > 0 := c26
        refine yG.num (c := 0) rfl (fun _ _ => rfl) (by decide) ?_
        refine yG.goto rfl (t := 56) rfl ?_
        refine yG.ret rfl (fun _ _ => rfl) ?_
        exact (yP.int ⟨by omega, by omega⟩ ⟨⟨0, rfl, by omega, by omega, by omega⟩, A_h24⟩)
  · subst c1
    refine yG.load xak rfl (fun _ _ => rfl) (v := yR k0) rfl rfl ?_
    refine yG.load xak rfl (fun _ _ => rfl) (v := yR k0) rfl rfl ?_
    refine yG.load xik rfl (fun _ _ => rfl) (v := yI (1)) rfl rfl ?_
    refine yG.load xik rfl (fun _ _ => rfl) (v := yI (p2)) rfl rfl ?_
    refine yG.invV (rest := [yR k0]) A_hp.1 (bOb (d_M W) H_k0) rfl rfl rfl rfl (c_GModel_isObject W d A_hp.1 H_k0 (1) (p2) (by omega) (by omega) (by omega) (by omega)) (fun rv hp9 q9 => ?_)
    obtain ⟨⟨z27, rfl, l_z27, u_z27, R_z27⟩, e9⟩ := q9
    rw [e9]
    show yG _ _ _ _ _ _ _ _ _ _ (yI z27 :: [yR k0]) _
    refine yG.ifz rfl (t := 14) rfl ⟨by omega, by omega⟩ (fun c28 => ?_) (fun c28 => ?_)
    · have c28 : (z27 : Int) ≠ 0 := c28
      refine yG.load xik rfl (fun _ _ => rfl) (v := yI (p3)) rfl rfl ?_
      refine yG.i2l rfl ⟨by omega, by omega⟩ ?_
      refine yG.numl (c := 0) rfl (fun _ _ => rfl) (by decide) ?_
      refine yG.load xik rfl (fun _ _ => rfl) (v := yI (1)) rfl rfl ?_
      refine yG.invS (rest := [yJ (0), yJ (p3), yR k0]) rfl rfl rfl rfl (c_GModel_fields W (d + 1) A_hp.1 (1) (by omega) (by omega)) (fun rv hp9 q9 => ?_)
      obtain ⟨⟨z29, rfl, l_z29, u_z29, R_z29⟩, e9⟩ := q9
      rw [e9]
      show yG _ _ _ _ _ _ _ _ _ _ (yI z29 :: [yJ (0), yJ (p3), yR k0]) _
      refine yG.num (c := 1) rfl (fun _ _ => rfl) (by decide) ?_
      refine yG.isub rfl ?_
      refine yG.i2l rfl ⟨by omega, by omega⟩ ?_
      refine yG.invS (rest := [yR k0]) rfl rfl rfl rfl (c_GModel_in W (d + 1) A_hp.1 (p3) (0) (z29 - 1) (by omega) (by omega) (by omega) (by omega) (by omega) (by omega)) (fun rv hp9 q9 => ?_)
      obtain ⟨⟨z30, rfl, l_z30, u_z30, R_z30⟩, e9⟩ := q9
      rw [e9]
      show yG _ _ _ _ _ _ _ _ _ _ (yI z30 :: [yR k0]) _
      refine yG.ifz rfl (t := 34) rfl ⟨by omega, by omega⟩ (fun c31 => ?_) (fun c31 => ?_)
      · have c31 : (z30 : Int) ≠ 0 := c31
        refine yG.num (c := 0) rfl (fun _ _ => rfl) (by decide) ?_
        refine yG.putI A_hp.1 (w_M_thrown W H_k0) (W.2.1 _ _ H_k0 (by decide) (by decide)) rfl rfl (.inl rfl) ⟨by omega, by omega⟩ (by omega) (by omega) (fun h32 T_h32 b_h32 f_h32 y_h32 => ?_)
        have A_h32 := A_hp.put T_h32 b_h32 f_h32 H_k0 (by decide)
        have : ys h32 k0 0 = 0 := (y_h32 k0 0).trans (if_pos ⟨rfl, rfl⟩)
        refine yG.load xak rfl (fun _ _ => rfl) (v := yR k0) rfl rfl ?_
        refine yG.getI A_h32.1 (w_M_thrown W H_k0) rfl rfl (fun z33 e_z33 i_z33 l_z33 u_z33 => ?_)
        refine yG.ifz rfl (t := 49) rfl ⟨by omega, by omega⟩ (fun c34 => ?_) (fun c34 => ?_)
        · have c34 : (z33 : Int) ≤ 0 := c34
          refine yG.load xak rfl (fun _ _ => rfl) (v := yR k0) rfl rfl ?_
          refine yG.load xik rfl (fun _ _ => rfl) (v := yI (1)) rfl rfl ?_
          refine yG.load xik rfl (fun _ _ => rfl) (v := yI (p2)) rfl rfl ?_
          refine yG.load xik rfl (fun _ _ => rfl) (v := yI (p3)) rfl rfl ?_
          refine yG.invV (rest := []) A_h32.1 (bOb (d_M W) H_k0) rfl rfl rfl rfl (c_GModel_of_z W d A_h32.1 H_k0 (1) (p2) (p3) (by omega) (by omega) (by omega) (by omega) (by omega) (by omega)) (fun rv hp9 q9 => ?_)
          obtain ⟨⟨z35, rfl, l_z35, u_z35, R_z35⟩, e9⟩ := q9
          rw [e9]
          show yG _ _ _ _ _ _ _ _ _ _ (yI z35 :: []) _
          refine yG.ret rfl (fun _ _ => rfl) ?_
          exact (yP.int ⟨by omega, by omega⟩ ⟨⟨z35, rfl, by omega, by omega, by omega⟩, A_h32⟩)
        · have c34 : (z33 : Int) > 0 := c34
          exfalso; omega
      · have c31 : (z30 : Int) = 0 := c31
        refine yG.num (c := 2) rfl (fun _ _ => rfl) (by decide) ?_
        refine yG.goto rfl (t := 35) rfl ?_
        refine yG.putI A_hp.1 (w_M_thrown W H_k0) (W.2.1 _ _ H_k0 (by decide) (by decide)) rfl rfl (.inl rfl) ⟨by omega, by omega⟩ (by omega) (by omega) (fun h36 T_h36 b_h36 f_h36 y_h36 => ?_)
        have A_h36 := A_hp.put T_h36 b_h36 f_h36 H_k0 (by decide)
        have : ys h36 k0 0 = 2 := (y_h36 k0 0).trans (if_pos ⟨rfl, rfl⟩)
        refine yG.load xak rfl (fun _ _ => rfl) (v := yR k0) rfl rfl ?_
        refine yG.getI A_h36.1 (w_M_thrown W H_k0) rfl rfl (fun z37 e_z37 i_z37 l_z37 u_z37 => ?_)
        refine yG.ifz rfl (t := 49) rfl ⟨by omega, by omega⟩ (fun c38 => ?_) (fun c38 => ?_)
        · have c38 : (z37 : Int) ≤ 0 := c38
          exfalso; omega
        · have c38 : (z37 : Int) > 0 := c38
          refine yG.num (c := 0) rfl (fun _ _ => rfl) (by decide) ?_
          refine yG.goto rfl (t := 56) rfl ?_
          refine yG.ret rfl (fun _ _ => rfl) ?_
          exact (yP.int ⟨by omega, by omega⟩ ⟨⟨0, rfl, by omega, by omega, by omega⟩, A_h36⟩)
    · have c28 : (z27 : Int) = 0 := c28
      refine yG.num (c := 1) rfl (fun _ _ => rfl) (by decide) ?_
      refine yG.goto rfl (t := 35) rfl ?_
      refine yG.putI A_hp.1 (w_M_thrown W H_k0) (W.2.1 _ _ H_k0 (by decide) (by decide)) rfl rfl (.inl rfl) ⟨by omega, by omega⟩ (by omega) (by omega) (fun h39 T_h39 b_h39 f_h39 y_h39 => ?_)
      have A_h39 := A_hp.put T_h39 b_h39 f_h39 H_k0 (by decide)
      have : ys h39 k0 0 = 1 := (y_h39 k0 0).trans (if_pos ⟨rfl, rfl⟩)
      refine yG.load xak rfl (fun _ _ => rfl) (v := yR k0) rfl rfl ?_
      refine yG.getI A_h39.1 (w_M_thrown W H_k0) rfl rfl (fun z40 e_z40 i_z40 l_z40 u_z40 => ?_)
      refine yG.ifz rfl (t := 49) rfl ⟨by omega, by omega⟩ (fun c41 => ?_) (fun c41 => ?_)
      · have c41 : (z40 : Int) ≤ 0 := c41
        exfalso; omega
      · have c41 : (z40 : Int) > 0 := c41
        refine yG.num (c := 0) rfl (fun _ _ => rfl) (by decide) ?_
        refine yG.goto rfl (t := 56) rfl ?_
        refine yG.ret rfl (fun _ _ => rfl) ?_
        exact (yP.int ⟨by omega, by omega⟩ ⟨⟨0, rfl, by omega, by omega, by omega⟩, A_h39⟩)
  · subst c1
    refine yG.load xak rfl (fun _ _ => rfl) (v := yR k0) rfl rfl ?_
    refine yG.load xak rfl (fun _ _ => rfl) (v := yR k0) rfl rfl ?_
    refine yG.load xik rfl (fun _ _ => rfl) (v := yI (2)) rfl rfl ?_
    refine yG.load xik rfl (fun _ _ => rfl) (v := yI (p2)) rfl rfl ?_
    refine yG.invV (rest := [yR k0]) A_hp.1 (bOb (d_M W) H_k0) rfl rfl rfl rfl (c_GModel_isObject W d A_hp.1 H_k0 (2) (p2) (by omega) (by omega) (by omega) (by omega)) (fun rv hp9 q9 => ?_)
    obtain ⟨⟨z42, rfl, l_z42, u_z42, R_z42⟩, e9⟩ := q9
    rw [e9]
    show yG _ _ _ _ _ _ _ _ _ _ (yI z42 :: [yR k0]) _
    refine yG.ifz rfl (t := 14) rfl ⟨by omega, by omega⟩ (fun c43 => ?_) (fun c43 => ?_)
    · have c43 : (z42 : Int) ≠ 0 := c43
      refine yG.load xik rfl (fun _ _ => rfl) (v := yI (p3)) rfl rfl ?_
      refine yG.i2l rfl ⟨by omega, by omega⟩ ?_
      refine yG.numl (c := 0) rfl (fun _ _ => rfl) (by decide) ?_
      refine yG.load xik rfl (fun _ _ => rfl) (v := yI (2)) rfl rfl ?_
      refine yG.invS (rest := [yJ (0), yJ (p3), yR k0]) rfl rfl rfl rfl (c_GModel_fields W (d + 1) A_hp.1 (2) (by omega) (by omega)) (fun rv hp9 q9 => ?_)
      obtain ⟨⟨z44, rfl, l_z44, u_z44, R_z44⟩, e9⟩ := q9
      rw [e9]
      show yG _ _ _ _ _ _ _ _ _ _ (yI z44 :: [yJ (0), yJ (p3), yR k0]) _
      refine yG.num (c := 1) rfl (fun _ _ => rfl) (by decide) ?_
      refine yG.isub rfl ?_
      refine yG.i2l rfl ⟨by omega, by omega⟩ ?_
      refine yG.invS (rest := [yR k0]) rfl rfl rfl rfl (c_GModel_in W (d + 1) A_hp.1 (p3) (0) (z44 - 1) (by omega) (by omega) (by omega) (by omega) (by omega) (by omega)) (fun rv hp9 q9 => ?_)
      obtain ⟨⟨z45, rfl, l_z45, u_z45, R_z45⟩, e9⟩ := q9
      rw [e9]
      show yG _ _ _ _ _ _ _ _ _ _ (yI z45 :: [yR k0]) _
      refine yG.ifz rfl (t := 34) rfl ⟨by omega, by omega⟩ (fun c46 => ?_) (fun c46 => ?_)
      · have c46 : (z45 : Int) ≠ 0 := c46
        refine yG.num (c := 0) rfl (fun _ _ => rfl) (by decide) ?_
        refine yG.putI A_hp.1 (w_M_thrown W H_k0) (W.2.1 _ _ H_k0 (by decide) (by decide)) rfl rfl (.inl rfl) ⟨by omega, by omega⟩ (by omega) (by omega) (fun h47 T_h47 b_h47 f_h47 y_h47 => ?_)
        have A_h47 := A_hp.put T_h47 b_h47 f_h47 H_k0 (by decide)
        have : ys h47 k0 0 = 0 := (y_h47 k0 0).trans (if_pos ⟨rfl, rfl⟩)
        refine yG.load xak rfl (fun _ _ => rfl) (v := yR k0) rfl rfl ?_
        refine yG.getI A_h47.1 (w_M_thrown W H_k0) rfl rfl (fun z48 e_z48 i_z48 l_z48 u_z48 => ?_)
        refine yG.ifz rfl (t := 49) rfl ⟨by omega, by omega⟩ (fun c49 => ?_) (fun c49 => ?_)
        · have c49 : (z48 : Int) ≤ 0 := c49
          refine yG.load xak rfl (fun _ _ => rfl) (v := yR k0) rfl rfl ?_
          refine yG.load xik rfl (fun _ _ => rfl) (v := yI (2)) rfl rfl ?_
          refine yG.load xik rfl (fun _ _ => rfl) (v := yI (p2)) rfl rfl ?_
          refine yG.load xik rfl (fun _ _ => rfl) (v := yI (p3)) rfl rfl ?_
          refine yG.invV (rest := []) A_h47.1 (bOb (d_M W) H_k0) rfl rfl rfl rfl (c_GModel_of_z W d A_h47.1 H_k0 (2) (p2) (p3) (by omega) (by omega) (by omega) (by omega) (by omega) (by omega)) (fun rv hp9 q9 => ?_)
          obtain ⟨⟨z50, rfl, l_z50, u_z50, R_z50⟩, e9⟩ := q9
          rw [e9]
          show yG _ _ _ _ _ _ _ _ _ _ (yI z50 :: []) _
          refine yG.ret rfl (fun _ _ => rfl) ?_
          exact (yP.int ⟨by omega, by omega⟩ ⟨⟨z50, rfl, by omega, by omega, by omega⟩, A_h47⟩)
        · have c49 : (z48 : Int) > 0 := c49
          exfalso; omega
      · have c46 : (z45 : Int) = 0 := c46
        refine yG.num (c := 2) rfl (fun _ _ => rfl) (by decide) ?_
        refine yG.goto rfl (t := 35) rfl ?_
        refine yG.putI A_hp.1 (w_M_thrown W H_k0) (W.2.1 _ _ H_k0 (by decide) (by decide)) rfl rfl (.inl rfl) ⟨by omega, by omega⟩ (by omega) (by omega) (fun h51 T_h51 b_h51 f_h51 y_h51 => ?_)
        have A_h51 := A_hp.put T_h51 b_h51 f_h51 H_k0 (by decide)
        have : ys h51 k0 0 = 2 := (y_h51 k0 0).trans (if_pos ⟨rfl, rfl⟩)
        refine yG.load xak rfl (fun _ _ => rfl) (v := yR k0) rfl rfl ?_
        refine yG.getI A_h51.1 (w_M_thrown W H_k0) rfl rfl (fun z52 e_z52 i_z52 l_z52 u_z52 => ?_)
        refine yG.ifz rfl (t := 49) rfl ⟨by omega, by omega⟩ (fun c53 => ?_) (fun c53 => ?_)
        · have c53 : (z52 : Int) ≤ 0 := c53
          exfalso; omega
        · have c53 : (z52 : Int) > 0 := c53
          refine yG.num (c := 0) rfl (fun _ _ => rfl) (by decide) ?_
          refine yG.goto rfl (t := 56) rfl ?_
          refine yG.ret rfl (fun _ _ => rfl) ?_
          exact (yP.int ⟨by omega, by omega⟩ ⟨⟨0, rfl, by omega, by omega, by omega⟩, A_h51⟩)
    · have c43 : (z42 : Int) = 0 := c43
      refine yG.num (c := 1) rfl (fun _ _ => rfl) (by decide) ?_
      refine yG.goto rfl (t := 35) rfl ?_
      refine yG.putI A_hp.1 (w_M_thrown W H_k0) (W.2.1 _ _ H_k0 (by decide) (by decide)) rfl rfl (.inl rfl) ⟨by omega, by omega⟩ (by omega) (by omega) (fun h54 T_h54 b_h54 f_h54 y_h54 => ?_)
      have A_h54 := A_hp.put T_h54 b_h54 f_h54 H_k0 (by decide)
      have : ys h54 k0 0 = 1 := (y_h54 k0 0).trans (if_pos ⟨rfl, rfl⟩)
      refine yG.load xak rfl (fun _ _ => rfl) (v := yR k0) rfl rfl ?_
      refine yG.getI A_h54.1 (w_M_thrown W H_k0) rfl rfl (fun z55 e_z55 i_z55 l_z55 u_z55 => ?_)
      refine yG.ifz rfl (t := 49) rfl ⟨by omega, by omega⟩ (fun c56 => ?_) (fun c56 => ?_)
      · have c56 : (z55 : Int) ≤ 0 := c56
        exfalso; omega
      · have c56 : (z55 : Int) > 0 := c56
        refine yG.num (c := 0) rfl (fun _ _ => rfl) (by decide) ?_
        refine yG.goto rfl (t := 56) rfl ?_
        refine yG.ret rfl (fun _ _ => rfl) ?_
        exact (yP.int ⟨by omega, by omega⟩ ⟨⟨0, rfl, by omega, by omega, by omega⟩, A_h54⟩)
  · subst c1
    refine yG.load xak rfl (fun _ _ => rfl) (v := yR k0) rfl rfl ?_
    refine yG.load xak rfl (fun _ _ => rfl) (v := yR k0) rfl rfl ?_
    refine yG.load xik rfl (fun _ _ => rfl) (v := yI (3)) rfl rfl ?_
    refine yG.load xik rfl (fun _ _ => rfl) (v := yI (p2)) rfl rfl ?_
    refine yG.invV (rest := [yR k0]) A_hp.1 (bOb (d_M W) H_k0) rfl rfl rfl rfl (c_GModel_isObject W d A_hp.1 H_k0 (3) (p2) (by omega) (by omega) (by omega) (by omega)) (fun rv hp9 q9 => ?_)
    obtain ⟨⟨z57, rfl, l_z57, u_z57, R_z57⟩, e9⟩ := q9
    rw [e9]
    show yG _ _ _ _ _ _ _ _ _ _ (yI z57 :: [yR k0]) _
    refine yG.ifz rfl (t := 14) rfl ⟨by omega, by omega⟩ (fun c58 => ?_) (fun c58 => ?_)
    · have c58 : (z57 : Int) ≠ 0 := c58
      refine yG.load xik rfl (fun _ _ => rfl) (v := yI (p3)) rfl rfl ?_
      refine yG.i2l rfl ⟨by omega, by omega⟩ ?_
      refine yG.numl (c := 0) rfl (fun _ _ => rfl) (by decide) ?_
      refine yG.load xik rfl (fun _ _ => rfl) (v := yI (3)) rfl rfl ?_
      refine yG.invS (rest := [yJ (0), yJ (p3), yR k0]) rfl rfl rfl rfl (c_GModel_fields W (d + 1) A_hp.1 (3) (by omega) (by omega)) (fun rv hp9 q9 => ?_)
      obtain ⟨⟨z59, rfl, l_z59, u_z59, R_z59⟩, e9⟩ := q9
      rw [e9]
      show yG _ _ _ _ _ _ _ _ _ _ (yI z59 :: [yJ (0), yJ (p3), yR k0]) _
      refine yG.num (c := 1) rfl (fun _ _ => rfl) (by decide) ?_
      refine yG.isub rfl ?_
      refine yG.i2l rfl ⟨by omega, by omega⟩ ?_
      refine yG.invS (rest := [yR k0]) rfl rfl rfl rfl (c_GModel_in W (d + 1) A_hp.1 (p3) (0) (z59 - 1) (by omega) (by omega) (by omega) (by omega) (by omega) (by omega)) (fun rv hp9 q9 => ?_)
      obtain ⟨⟨z60, rfl, l_z60, u_z60, R_z60⟩, e9⟩ := q9
      rw [e9]
      show yG _ _ _ _ _ _ _ _ _ _ (yI z60 :: [yR k0]) _
      refine yG.ifz rfl (t := 34) rfl ⟨by omega, by omega⟩ (fun c61 => ?_) (fun c61 => ?_)
      · have c61 : (z60 : Int) ≠ 0 := c61
        refine yG.num (c := 0) rfl (fun _ _ => rfl) (by decide) ?_
        refine yG.putI A_hp.1 (w_M_thrown W H_k0) (W.2.1 _ _ H_k0 (by decide) (by decide)) rfl rfl (.inl rfl) ⟨by omega, by omega⟩ (by omega) (by omega) (fun h62 T_h62 b_h62 f_h62 y_h62 => ?_)
        have A_h62 := A_hp.put T_h62 b_h62 f_h62 H_k0 (by decide)
        have : ys h62 k0 0 = 0 := (y_h62 k0 0).trans (if_pos ⟨rfl, rfl⟩)
        refine yG.load xak rfl (fun _ _ => rfl) (v := yR k0) rfl rfl ?_
        refine yG.getI A_h62.1 (w_M_thrown W H_k0) rfl rfl (fun z63 e_z63 i_z63 l_z63 u_z63 => ?_)
        refine yG.ifz rfl (t := 49) rfl ⟨by omega, by omega⟩ (fun c64 => ?_) (fun c64 => ?_)
        · have c64 : (z63 : Int) ≤ 0 := c64
          refine yG.load xak rfl (fun _ _ => rfl) (v := yR k0) rfl rfl ?_
          refine yG.load xik rfl (fun _ _ => rfl) (v := yI (3)) rfl rfl ?_
          refine yG.load xik rfl (fun _ _ => rfl) (v := yI (p2)) rfl rfl ?_
          refine yG.load xik rfl (fun _ _ => rfl) (v := yI (p3)) rfl rfl ?_
          refine yG.invV (rest := []) A_h62.1 (bOb (d_M W) H_k0) rfl rfl rfl rfl (c_GModel_of_z W d A_h62.1 H_k0 (3) (p2) (p3) (by omega) (by omega) (by omega) (by omega) (by omega) (by omega)) (fun rv hp9 q9 => ?_)
          obtain ⟨⟨z65, rfl, l_z65, u_z65, R_z65⟩, e9⟩ := q9
          rw [e9]
          show yG _ _ _ _ _ _ _ _ _ _ (yI z65 :: []) _
          refine yG.ret rfl (fun _ _ => rfl) ?_
          exact (yP.int ⟨by omega, by omega⟩ ⟨⟨z65, rfl, by omega, by omega, by omega⟩, A_h62⟩)
        · have c64 : (z63 : Int) > 0 := c64
          exfalso; omega
      · have c61 : (z60 : Int) = 0 := c61
        refine yG.num (c := 2) rfl (fun _ _ => rfl) (by decide) ?_
        refine yG.goto rfl (t := 35) rfl ?_
        refine yG.putI A_hp.1 (w_M_thrown W H_k0) (W.2.1 _ _ H_k0 (by decide) (by decide)) rfl rfl (.inl rfl) ⟨by omega, by omega⟩ (by omega) (by omega) (fun h66 T_h66 b_h66 f_h66 y_h66 => ?_)
        have A_h66 := A_hp.put T_h66 b_h66 f_h66 H_k0 (by decide)
        have : ys h66 k0 0 = 2 := (y_h66 k0 0).trans (if_pos ⟨rfl, rfl⟩)
        refine yG.load xak rfl (fun _ _ => rfl) (v := yR k0) rfl rfl ?_
        refine yG.getI A_h66.1 (w_M_thrown W H_k0) rfl rfl (fun z67 e_z67 i_z67 l_z67 u_z67 => ?_)
        refine yG.ifz rfl (t := 49) rfl ⟨by omega, by omega⟩ (fun c68 => ?_) (fun c68 => ?_)
        · have c68 : (z67 : Int) ≤ 0 := c68
          exfalso; omega
        · have c68 : (z67 : Int) > 0 := c68
          refine yG.num (c := 0) rfl (fun _ _ => rfl) (by decide) ?_
          refine yG.goto rfl (t := 56) rfl ?_
          refine yG.ret rfl (fun _ _ => rfl) ?_
          exact (yP.int ⟨by omega, by omega⟩ ⟨⟨0, rfl, by omega, by omega, by omega⟩, A_h66⟩)
    · have c58 : (z57 : Int) = 0 := c58
      refine yG.num (c := 1) rfl (fun _ _ => rfl) (by decide) ?_
      refine yG.goto rfl (t := 35) rfl ?_
      refine yG.putI A_hp.1 (w_M_thrown W H_k0) (W.2.1 _ _ H_k0 (by decide) (by decide)) rfl rfl (.inl rfl) ⟨by omega, by omega⟩ (by omega) (by omega) (fun h69 T_h69 b_h69 f_h69 y_h69 => ?_)
      have A_h69 := A_hp.put T_h69 b_h69 f_h69 H_k0 (by decide)
      have : ys h69 k0 0 = 1 := (y_h69 k0 0).trans (if_pos ⟨rfl, rfl⟩)
      refine yG.load xak rfl (fun _ _ => rfl) (v := yR k0) rfl rfl ?_
      refine yG.getI A_h69.1 (w_M_thrown W H_k0) rfl rfl (fun z70 e_z70 i_z70 l_z70 u_z70 => ?_)
      refine yG.ifz rfl (t := 49) rfl ⟨by omega, by omega⟩ (fun c71 => ?_) (fun c71 => ?_)
      · have c71 : (z70 : Int) ≤ 0 := c71
        exfalso; omega
      · have c71 : (z70 : Int) > 0 := c71
        refine yG.num (c := 0) rfl (fun _ _ => rfl) (by decide) ?_
        refine yG.goto rfl (t := 56) rfl ?_
        refine yG.ret rfl (fun _ _ => rfl) ?_
        exact (yP.int ⟨by omega, by omega⟩ ⟨⟨0, rfl, by omega, by omega, by omega⟩, A_h69⟩)
  · subst c1
    refine yG.load xak rfl (fun _ _ => rfl) (v := yR k0) rfl rfl ?_
    refine yG.load xak rfl (fun _ _ => rfl) (v := yR k0) rfl rfl ?_
    refine yG.load xik rfl (fun _ _ => rfl) (v := yI (4)) rfl rfl ?_
    refine yG.load xik rfl (fun _ _ => rfl) (v := yI (p2)) rfl rfl ?_
    refine yG.invV (rest := [yR k0]) A_hp.1 (bOb (d_M W) H_k0) rfl rfl rfl rfl (c_GModel_isObject W d A_hp.1 H_k0 (4) (p2) (by omega) (by omega) (by omega) (by omega)) (fun rv hp9 q9 => ?_)
    obtain ⟨⟨z72, rfl, l_z72, u_z72, R_z72⟩, e9⟩ := q9
    rw [e9]
    show yG _ _ _ _ _ _ _ _ _ _ (yI z72 :: [yR k0]) _
    refine yG.ifz rfl (t := 14) rfl ⟨by omega, by omega⟩ (fun c73 => ?_) (fun c73 => ?_)
    · have c73 : (z72 : Int) ≠ 0 := c73
      refine yG.load xik rfl (fun _ _ => rfl) (v := yI (p3)) rfl rfl ?_
      refine yG.i2l rfl ⟨by omega, by omega⟩ ?_
      refine yG.numl (c := 0) rfl (fun _ _ => rfl) (by decide) ?_
      refine yG.load xik rfl (fun _ _ => rfl) (v := yI (4)) rfl rfl ?_
      refine yG.invS (rest := [yJ (0), yJ (p3), yR k0]) rfl rfl rfl rfl (c_GModel_fields W (d + 1) A_hp.1 (4) (by omega) (by omega)) (fun rv hp9 q9 => ?_)
      obtain ⟨⟨z74, rfl, l_z74, u_z74, R_z74⟩, e9⟩ := q9
      rw [e9]
      show yG _ _ _ _ _ _ _ _ _ _ (yI z74 :: [yJ (0), yJ (p3), yR k0]) _
      refine yG.num (c := 1) rfl (fun _ _ => rfl) (by decide) ?_
      refine yG.isub rfl ?_
      refine yG.i2l rfl ⟨by omega, by omega⟩ ?_
      refine yG.invS (rest := [yR k0]) rfl rfl rfl rfl (c_GModel_in W (d + 1) A_hp.1 (p3) (0) (z74 - 1) (by omega) (by omega) (by omega) (by omega) (by omega) (by omega)) (fun rv hp9 q9 => ?_)
      obtain ⟨⟨z75, rfl, l_z75, u_z75, R_z75⟩, e9⟩ := q9
      rw [e9]
      show yG _ _ _ _ _ _ _ _ _ _ (yI z75 :: [yR k0]) _
      refine yG.ifz rfl (t := 34) rfl ⟨by omega, by omega⟩ (fun c76 => ?_) (fun c76 => ?_)
      · have c76 : (z75 : Int) ≠ 0 := c76
        refine yG.num (c := 0) rfl (fun _ _ => rfl) (by decide) ?_
        refine yG.putI A_hp.1 (w_M_thrown W H_k0) (W.2.1 _ _ H_k0 (by decide) (by decide)) rfl rfl (.inl rfl) ⟨by omega, by omega⟩ (by omega) (by omega) (fun h77 T_h77 b_h77 f_h77 y_h77 => ?_)
        have A_h77 := A_hp.put T_h77 b_h77 f_h77 H_k0 (by decide)
        have : ys h77 k0 0 = 0 := (y_h77 k0 0).trans (if_pos ⟨rfl, rfl⟩)
        refine yG.load xak rfl (fun _ _ => rfl) (v := yR k0) rfl rfl ?_
        refine yG.getI A_h77.1 (w_M_thrown W H_k0) rfl rfl (fun z78 e_z78 i_z78 l_z78 u_z78 => ?_)
        refine yG.ifz rfl (t := 49) rfl ⟨by omega, by omega⟩ (fun c79 => ?_) (fun c79 => ?_)
        · have c79 : (z78 : Int) ≤ 0 := c79
          refine yG.load xak rfl (fun _ _ => rfl) (v := yR k0) rfl rfl ?_
          refine yG.load xik rfl (fun _ _ => rfl) (v := yI (4)) rfl rfl ?_
          refine yG.load xik rfl (fun _ _ => rfl) (v := yI (p2)) rfl rfl ?_
          refine yG.load xik rfl (fun _ _ => rfl) (v := yI (p3)) rfl rfl ?_
          refine yG.invV (rest := []) A_h77.1 (bOb (d_M W) H_k0) rfl rfl rfl rfl (c_GModel_of_z W d A_h77.1 H_k0 (4) (p2) (p3) (by omega) (by omega) (by omega) (by omega) (by omega) (by omega)) (fun rv hp9 q9 => ?_)
          obtain ⟨⟨z80, rfl, l_z80, u_z80, R_z80⟩, e9⟩ := q9
          rw [e9]
          show yG _ _ _ _ _ _ _ _ _ _ (yI z80 :: []) _
          refine yG.ret rfl (fun _ _ => rfl) ?_
          exact (yP.int ⟨by omega, by omega⟩ ⟨⟨z80, rfl, by omega, by omega, by omega⟩, A_h77⟩)
        · have c79 : (z78 : Int) > 0 := c79
          exfalso; omega
      · have c76 : (z75 : Int) = 0 := c76
        refine yG.num (c := 2) rfl (fun _ _ => rfl) (by decide) ?_
        refine yG.goto rfl (t := 35) rfl ?_
        refine yG.putI A_hp.1 (w_M_thrown W H_k0) (W.2.1 _ _ H_k0 (by decide) (by decide)) rfl rfl (.inl rfl) ⟨by omega, by omega⟩ (by omega) (by omega) (fun h81 T_h81 b_h81 f_h81 y_h81 => ?_)
        have A_h81 := A_hp.put T_h81 b_h81 f_h81 H_k0 (by decide)
        have : ys h81 k0 0 = 2 := (y_h81 k0 0).trans (if_pos ⟨rfl, rfl⟩)
        refine yG.load xak rfl (fun _ _ => rfl) (v := yR k0) rfl rfl ?_
        refine yG.getI A_h81.1 (w_M_thrown W H_k0) rfl rfl (fun z82 e_z82 i_z82 l_z82 u_z82 => ?_)
        refine yG.ifz rfl (t := 49) rfl ⟨by omega, by omega⟩ (fun c83 => ?_) (fun c83 => ?_)
        · have c83 : (z82 : Int) ≤ 0 := c83
          exfalso; omega
        · have c83 : (z82 : Int) > 0 := c83
          refine yG.num (c := 0) rfl (fun _ _ => rfl) (by decide) ?_
          refine yG.goto rfl (t := 56) rfl ?_
          refine yG.ret rfl (fun _ _ => rfl) ?_
          exact (yP.int ⟨by omega, by omega⟩ ⟨⟨0, rfl, by omega, by omega, by omega⟩, A_h81⟩)
    · have c73 : (z72 : Int) = 0 := c73
      refine yG.num (c := 1) rfl (fun _ _ => rfl) (by decide) ?_
      refine yG.goto rfl (t := 35) rfl ?_
      refine yG.putI A_hp.1 (w_M_thrown W H_k0) (W.2.1 _ _ H_k0 (by decide) (by decide)) rfl rfl (.inl rfl) ⟨by omega, by omega⟩ (by omega) (by omega) (fun h84 T_h84 b_h84 f_h84 y_h84 => ?_)
      have A_h84 := A_hp.put T_h84 b_h84 f_h84 H_k0 (by decide)
      have : ys h84 k0 0 = 1 := (y_h84 k0 0).trans (if_pos ⟨rfl, rfl⟩)
      refine yG.load xak rfl (fun _ _ => rfl) (v := yR k0) rfl rfl ?_
      refine yG.getI A_h84.1 (w_M_thrown W H_k0) rfl rfl (fun z85 e_z85 i_z85 l_z85 u_z85 => ?_)
      refine yG.ifz rfl (t := 49) rfl ⟨by omega, by omega⟩ (fun c86 => ?_) (fun c86 => ?_)
      · have c86 : (z85 : Int) ≤ 0 := c86
        exfalso; omega
      · have c86 : (z85 : Int) > 0 := c86
        refine yG.num (c := 0) rfl (fun _ _ => rfl) (by decide) ?_
        refine yG.goto rfl (t := 56) rfl ?_
        refine yG.ret rfl (fun _ _ => rfl) ?_
        exact (yP.int ⟨by omega, by omega⟩ ⟨⟨0, rfl, by omega, by omega, by omega⟩, A_h84⟩)
theorem c_GModel_wrong {hp : xH} (W : mW G) (d : Nat) (hT : zTy G hp) {k0 : Nat} (H_k0 : bRo G 116 k0) : yC (xcall 89 xfts xpools xms (d + 1)) 546 [yR k0] hp (fun rv hp' => (rv = none ∧ True) ∧ bAx G [(83076749736557242056487941267521536, 21)] hp hp') := by
  have A_hp : bAx G [(83076749736557242056487941267521536, 21)] hp hp := bAx.rf hT
  refine yC.of (M := (xt_X13_wrong, (1, (0, (14, []))))) rfl rfl (N := 57) (yfuel (by decide)) ?_
  show yG 89 xfts (xcall 89 xfts xpools xms d) (xpool xp_RX13) [] xt_X13_wrong (yP 0 (fun rv hp' => (rv = none ∧ True) ∧ bAx G [(83076749736557242056487941267521536, 21)] hp hp')) 57 0 [(0, yR k0)] [] hp
  refine yG.load xak rfl (fun _ _ => rfl) (v := yR k0) rfl rfl ?_
  refine yG.getI A_hp.1 (w_M_fault W H_k0) rfl rfl (fun z1 e_z1 i_z1 l_z1 u_z1 => ?_)
  refine yG.ifz rfl (t := 38) rfl ⟨by omega, by omega⟩ (fun c2 => ?_) (fun c2 => ?_)
  · have c2 : (z1 : Int) ≥ 0 := c2
    refine yG.ret rfl (fun _ _ => rfl) ?_
    exact (yP.void ⟨⟨rfl, trivial⟩, A_hp⟩)
  · have c2 : (z1 : Int) < 0 := c2
    refine yG.load xak rfl (fun _ _ => rfl) (v := yR k0) rfl rfl ?_
    refine yG.load xak rfl (fun _ _ => rfl) (v := yR k0) rfl rfl ?_
    refine yG.getI A_hp.1 (w_M_at W H_k0) rfl rfl (fun z3 e_z3 i_z3 l_z3 u_z3 => ?_)
    refine yG.load xak rfl (fun _ _ => rfl) (v := yR k0) rfl rfl ?_
    refine yG.getI A_hp.1 (w_M_words W H_k0) rfl rfl (fun z4 e_z4 i_z4 l_z4 u_z4 => ?_)
    refine yG.icmp rfl (t := 31) rfl ⟨by omega, by omega⟩ ⟨by omega, by omega⟩ (fun c5 => ?_) (fun c5 => ?_)
    · have c5 : (z3 : Int) ≥ z4 := c5
      refine yG.load xak rfl (fun _ _ => rfl) (v := yR k0) rfl rfl ?_
      refine yG.getI A_hp.1 (w_M_textSize W H_k0) rfl rfl (fun z6 e_z6 i_z6 l_z6 u_z6 => ?_)
      refine yG.putI A_hp.1 (w_M_fault W H_k0) (W.2.1 _ _ H_k0 (by decide) (by decide)) rfl rfl (.inl rfl) ⟨by omega, by omega⟩ (by omega) (by omega) (fun h7 T_h7 b_h7 f_h7 y_h7 => ?_)
      have A_h7 := A_hp.put T_h7 b_h7 f_h7 H_k0 (by decide)
      have : ys h7 k0 19 = ys hp k0 19 := (y_h7 k0 19).trans (if_neg (fun e => absurd e.2 (by decide)))
      refine yG.ret rfl (fun _ _ => rfl) ?_
      exact (yP.void ⟨⟨rfl, trivial⟩, A_h7⟩)
    · have c5 : (z3 : Int) < z4 := c5
      refine yG.load xak rfl (fun _ _ => rfl) (v := yR k0) rfl rfl ?_
      refine yG.getO A_hp.1 (w_M_wordAt W H_k0) rfl rfl (fun r8 H_r8 O_r8 q_r8 => ?_)
      refine yG.load xak rfl (fun _ _ => rfl) (v := yR k0) rfl rfl ?_
      refine yG.getI A_hp.1 (w_M_at W H_k0) rfl rfl (fun z9 e_z9 i_z9 l_z9 u_z9 => ?_)
      rw [show (z9 : Int) = z3 by omega]
      refine yG.iald A_hp.1 (v_M_wordAt W H_r8) rfl (by omega) (by omega) (fun z10 e_z10 i_z10 l_z10 u_z10 => ?_)
      refine yG.goto rfl (t := 35) rfl ?_
      refine yG.putI A_hp.1 (w_M_fault W H_k0) (W.2.1 _ _ H_k0 (by decide) (by decide)) rfl rfl (.inl rfl) ⟨by omega, by omega⟩ (by omega) (by omega) (fun h11 T_h11 b_h11 f_h11 y_h11 => ?_)
      have A_h11 := A_hp.put T_h11 b_h11 f_h11 H_k0 (by decide)
      have : ys h11 k0 19 = ys hp k0 19 := (y_h11 k0 19).trans (if_neg (fun e => absurd e.2 (by decide)))
      refine yG.ret rfl (fun _ _ => rfl) ?_
      exact (yP.void ⟨⟨rfl, trivial⟩, A_h11⟩)
theorem c_GModel_cell {hp : xH} (W : mW G) (d : Nat) (hT : zTy G hp) {k0 : Nat} (H_k0 : bRo G 116 k0) (p1 : Int) (h1l : 0 ≤ p1) (h1u : p1 ≤ 63) : yC (xcall 89 xfts xpools xms (d + 4)) 365 [yR k0, yI (p1)] hp (fun rv hp' => (rv = none ∧ True) ∧ bAx G [(343279001153959104272269734081669257130597563369126887424, 256)] hp hp') := by
  have A_hp : bAx G [(343279001153959104272269734081669257130597563369126887424, 256)] hp hp := bAx.rf hT
  have H : ∀ m : Nat, (∀ a2 : Int, ∀ hq, bAx G [(343279001153959104272269734081669257130597563369126887424, 256)] hp hq → 0 ≤ a2 → (-6) ≤ 0 - a2 → 0 ≤ p1 → (-63) ≤ 0 - p1 → 0 - 2 * a2 + 13 < (m : Int) → yG 89 xfts (xcall 89 xfts xpools xms (d + 3)) (xpool xp_RX13) [] xt_X13_cell (yP 0 (fun rv hp' => (rv = none ∧ True) ∧ bAx G [(343279001153959104272269734081669257130597563369126887424, 256)] hp hp')) (74 * m) 2 [(0, yR k0), (1, yI (p1)), (2, yI (a2))] [] hq) := by
    intro m
    induction m with
    | zero =>
      intros; exfalso; omega
    | succ m ih =>
      have i_2 := ih
      clear ih
      intro a2 hq A_hq f0 f1 f2 f3 hm
      refine yG.mono (N := 74 * m + 74) ?_ (by omega)
      refine yG.load xik rfl (fun _ _ => rfl) (v := yI (a2)) rfl rfl ?_
      refine yG.load xak rfl (fun _ _ => rfl) (v := yR k0) rfl rfl ?_
      refine yG.getI A_hq.1 (w_M_machines W H_k0) rfl rfl (fun z1 e_z1 i_z1 l_z1 u_z1 => ?_)
      refine yG.icmp rfl (t := 177) rfl ⟨by omega, by omega⟩ ⟨by omega, by omega⟩ (fun c2 => ?_) (fun c2 => ?_)
      · have c2 : (a2 : Int) ≥ z1 := c2
        refine yG.ret rfl (fun _ _ => rfl) ?_
        exact (yP.void ⟨⟨rfl, trivial⟩, A_hq⟩)
      · have c2 : (a2 : Int) < z1 := c2
        refine yG.load xak rfl (fun _ _ => rfl) (v := yR k0) rfl rfl ?_
        refine yG.getO A_hq.1 (w_M_machineAt W H_k0) rfl rfl (fun r3 H_r3 O_r3 q_r3 => ?_)
        refine yG.load xik rfl (fun _ _ => rfl) (v := yI (a2)) rfl rfl ?_
        refine yG.iald A_hq.1 (v_M_machineAt W H_r3) rfl (by omega) (by omega) (fun z4 e_z4 i_z4 l_z4 u_z4 => ?_)
        refine yG.store1 xik (L' := [(3, yI (z4)), (0, yR k0), (1, yI (p1)), (2, yI (a2))]) rfl (fun _ _ => rfl) rfl rfl ?_
        refine yG.load xak rfl (fun _ _ => rfl) (v := yR k0) rfl rfl ?_
        refine yG.load xik rfl (fun _ _ => rfl) (v := yI (a2)) rfl rfl ?_
        refine yG.invV (rest := []) A_hq.1 (bOb (d_M W) H_k0) rfl rfl rfl rfl (c_GModel_turns W d A_hq.1 H_k0 (a2) (by omega) (by omega)) (fun rv hp9 q9 => ?_)
        obtain ⟨⟨z5, rfl, l_z5, u_z5, R_z5⟩, e9⟩ := q9
        rw [e9]
        show yG _ _ _ _ _ _ _ _ _ _ (yI z5 :: []) _
        refine yG.ifz rfl (t := 42) rfl ⟨by omega, by omega⟩ (fun c6 => ?_) (fun c6 => ?_)
        · have c6 : (z5 : Int) = 0 := c6
          refine yG.load xak rfl (fun _ _ => rfl) (v := yR k0) rfl rfl ?_
          refine yG.num (c := 3) rfl (fun _ _ => rfl) (by decide) ?_
          refine yG.load xik rfl (fun _ _ => rfl) (v := yI (z4)) rfl rfl ?_
          refine yG.num (c := 7) rfl (fun _ _ => rfl) (by decide) ?_
          refine yG.invV (rest := []) A_hq.1 (bOb (d_M W) H_k0) rfl rfl rfl rfl (c_GModel_of_3_7 W (d + 1) A_hq.1 H_k0 (z4) (by omega) (by omega)) (fun rv hp9 q9 => ?_)
          obtain ⟨⟨z7, rfl, l_z7, u_z7, R_z7⟩, e9⟩ := q9
          rw [e9]
          show yG _ _ _ _ _ _ _ _ _ _ (yI z7 :: []) _
          refine yG.load xak rfl (fun _ _ => rfl) (v := yR k0) rfl rfl ?_
          refine yG.num (c := 3) rfl (fun _ _ => rfl) (by decide) ?_
          refine yG.load xik rfl (fun _ _ => rfl) (v := yI (z4)) rfl rfl ?_
          refine yG.num (c := 4) rfl (fun _ _ => rfl) (by decide) ?_
          refine yG.invV (rest := [yI (z7)]) A_hq.1 (bOb (d_M W) H_k0) rfl rfl rfl rfl (c_GModel_of_3_4 W (d + 1) A_hq.1 H_k0 (z4) (by omega) (by omega)) (fun rv hp9 q9 => ?_)
          obtain ⟨⟨z8, rfl, l_z8, u_z8, R_z8⟩, e9⟩ := q9
          rw [e9]
          show yG _ _ _ _ _ _ _ _ _ _ (yI z8 :: [yI (z7)]) _
          refine yG.icmp rfl (t := 64) rfl ⟨by omega, by omega⟩ ⟨by omega, by omega⟩ (fun c9 => ?_) (fun c9 => ?_)
          · have c9 : (z7 : Int) > z8 := c9
            refine yG.num (c := 0) rfl (fun _ _ => rfl) (by decide) ?_
            refine yG.store1 xik (L' := [(4, yI (0)), (3, yI (z4)), (0, yR k0), (1, yI (p1)), (2, yI (a2))]) rfl (fun _ _ => rfl) rfl rfl ?_
            refine yG.load xak rfl (fun _ _ => rfl) (v := yR k0) rfl rfl ?_
            refine yG.getO A_hq.1 (w_M_low W H_k0) rfl rfl (fun r10 H_r10 O_r10 q_r10 => ?_)
            refine yG.load xik rfl (fun _ _ => rfl) (v := yI (a2)) rfl rfl ?_
            refine yG.load xak rfl (fun _ _ => rfl) (v := yR k0) rfl rfl ?_
            refine yG.load xik rfl (fun _ _ => rfl) (v := yI (a2)) rfl rfl ?_
            refine yG.invV (rest := [yI (a2), yR r10]) A_hq.1 (bOb (d_M W) H_k0) rfl rfl rfl rfl (c_GModel_turns W d A_hq.1 H_k0 (a2) (by omega) (by omega)) (fun rv hp9 q9 => ?_)
            obtain ⟨⟨z11, rfl, l_z11, u_z11, R_z11⟩, e9⟩ := q9
            rw [e9]
            show yG _ _ _ _ _ _ _ _ _ _ (yI z11 :: [yI (a2), yR r10]) _
            refine yG.ifz rfl (t := 96) rfl ⟨by omega, by omega⟩ (fun c12 => ?_) (fun c12 => ?_)
            · have c12 : (z11 : Int) = 0 := c12
              refine yG.load xak rfl (fun _ _ => rfl) (v := yR k0) rfl rfl ?_
              refine yG.num (c := 3) rfl (fun _ _ => rfl) (by decide) ?_
              refine yG.load xik rfl (fun _ _ => rfl) (v := yI (z4)) rfl rfl ?_
              refine yG.num (c := 4) rfl (fun _ _ => rfl) (by decide) ?_
              refine yG.invV (rest := [yI (a2), yR r10]) A_hq.1 (bOb (d_M W) H_k0) rfl rfl rfl rfl (c_GModel_of_3_4 W (d + 1) A_hq.1 H_k0 (z4) (by omega) (by omega)) (fun rv hp9 q9 => ?_)
              obtain ⟨⟨z13, rfl, l_z13, u_z13, R_z13⟩, e9⟩ := q9
              rw [e9]
              show yG _ _ _ _ _ _ _ _ _ _ (yI z13 :: [yI (a2), yR r10]) _
              refine yG.iast A_hq.1 (v_M_low W H_r10) (W.2.1 _ _ H_r10 (by decide) (by decide)) rfl (by omega) (by omega) ⟨by omega, by omega⟩ (by omega) (by omega) (fun h14 T_h14 b_h14 f_h14 y_h14 => ?_)
              have A_h14 := A_hq.put T_h14 b_h14 f_h14 H_r10 (bAll_ok (by decide) _)
              refine yG.load xak rfl (fun _ _ => rfl) (v := yR k0) rfl rfl ?_
              refine yG.getO A_h14.1 (w_M_high W H_k0) rfl rfl (fun r15 H_r15 O_r15 q_r15 => ?_)
              refine yG.load xik rfl (fun _ _ => rfl) (v := yI (a2)) rfl rfl ?_
              refine yG.load xak rfl (fun _ _ => rfl) (v := yR k0) rfl rfl ?_
              refine yG.load xik rfl (fun _ _ => rfl) (v := yI (a2)) rfl rfl ?_
              refine yG.invV (rest := [yI (a2), yR r15]) A_h14.1 (bOb (d_M W) H_k0) rfl rfl rfl rfl (c_GModel_turns W d A_h14.1 H_k0 (a2) (by omega) (by omega)) (fun rv hp9 q9 => ?_)
              obtain ⟨⟨z16, rfl, l_z16, u_z16, R_z16⟩, e9⟩ := q9
              rw [e9]
              show yG _ _ _ _ _ _ _ _ _ _ (yI z16 :: [yI (a2), yR r15]) _
              refine yG.ifz rfl (t := 133) rfl ⟨by omega, by omega⟩ (fun c17 => ?_) (fun c17 => ?_)
              · have c17 : (z16 : Int) = 0 := c17
                refine yG.load xak rfl (fun _ _ => rfl) (v := yR k0) rfl rfl ?_
                refine yG.num (c := 3) rfl (fun _ _ => rfl) (by decide) ?_
                refine yG.load xik rfl (fun _ _ => rfl) (v := yI (z4)) rfl rfl ?_
                refine yG.num (c := 5) rfl (fun _ _ => rfl) (by decide) ?_
                refine yG.invV (rest := [yI (a2), yR r15]) A_h14.1 (bOb (d_M W) H_k0) rfl rfl rfl rfl (c_GModel_of_3_5 W (d + 1) A_h14.1 H_k0 (z4) (by omega) (by omega)) (fun rv hp9 q9 => ?_)
                obtain ⟨⟨z18, rfl, l_z18, u_z18, R_z18⟩, e9⟩ := q9
                rw [e9]
                show yG _ _ _ _ _ _ _ _ _ _ (yI z18 :: [yI (a2), yR r15]) _
                refine yG.iast A_h14.1 (v_M_high W H_r15) (W.2.1 _ _ H_r15 (by decide) (by decide)) rfl (by omega) (by omega) ⟨by omega, by omega⟩ (by omega) (by omega) (fun h19 T_h19 b_h19 f_h19 y_h19 => ?_)
                have A_h19 := A_h14.put T_h19 b_h19 f_h19 H_r15 (bAll_ok (by decide) _)
                refine yG.load xak rfl (fun _ _ => rfl) (v := yR k0) rfl rfl ?_
                refine yG.getO A_h19.1 (w_M_slope W H_k0) rfl rfl (fun r20 H_r20 O_r20 q_r20 => ?_)
                refine yG.load xik rfl (fun _ _ => rfl) (v := yI (a2)) rfl rfl ?_
                refine yG.load xik rfl (fun _ _ => rfl) (v := yI (0)) rfl rfl ?_
                refine yG.ifz rfl (t := 162) rfl ⟨by omega, by omega⟩ (fun c21 => ?_) (fun c21 => ?_)
                · have c21 : (0 : Int) = 0 := c21
                  refine yG.load xak rfl (fun _ _ => rfl) (v := yR k0) rfl rfl ?_
                  refine yG.num (c := 3) rfl (fun _ _ => rfl) (by decide) ?_
                  refine yG.load xik rfl (fun _ _ => rfl) (v := yI (z4)) rfl rfl ?_
                  refine yG.num (c := 6) rfl (fun _ _ => rfl) (by decide) ?_
                  refine yG.invV (rest := [yI (a2), yR r20]) A_h19.1 (bOb (d_M W) H_k0) rfl rfl rfl rfl (c_GModel_of_3_6 W (d + 1) A_h19.1 H_k0 (z4) (by omega) (by omega)) (fun rv hp9 q9 => ?_)
                  obtain ⟨⟨z22, rfl, l_z22, u_z22, R_z22⟩, e9⟩ := q9
                  rw [e9]
                  show yG _ _ _ _ _ _ _ _ _ _ (yI z22 :: [yI (a2), yR r20]) _
                  refine yG.iast A_h19.1 (v_M_slope W H_r20) (W.2.1 _ _ H_r20 (by decide) (by decide)) rfl (by omega) (by omega) ⟨by omega, by omega⟩ (by omega) (by omega) (fun h23 T_h23 b_h23 f_h23 y_h23 => ?_)
                  have A_h23 := A_h19.put T_h23 b_h23 f_h23 H_r20 (bAll_ok (by decide) _)
                  refine yG.iinc rfl (a := a2) rfl (L' := [(2, yI (a2 + 1)), (4, yI (0)), (3, yI (z4)), (0, yR k0), (1, yI (p1))]) rfl ?_
                  refine yG.goto rfl (t := 2) rfl ?_
                  exact yG.mono (yG.sub (i_2 (a2 + 1)  h23 A_h23   (by omega) (by omega) (by omega) (by omega) (by omega)) (ySub.cons rfl (ySub.cons rfl (ySub.cons rfl (ySub.nil))))) (by omega)
                · have c21 : (0 : Int) ≠ 0 := c21
                  exfalso; omega
              · have c17 : (z16 : Int) ≠ 0 := c17
                refine yG.load xik rfl (fun _ _ => rfl) (v := yI (0)) rfl rfl ?_
                refine yG.ifz rfl (t := 133) rfl ⟨by omega, by omega⟩ (fun c24 => ?_) (fun c24 => ?_)
                · have c24 : (0 : Int) ≠ 0 := c24
                  exfalso; omega
                · have c24 : (0 : Int) = 0 := c24
                  refine yG.load xak rfl (fun _ _ => rfl) (v := yR k0) rfl rfl ?_
                  refine yG.num (c := 3) rfl (fun _ _ => rfl) (by decide) ?_
                  refine yG.load xik rfl (fun _ _ => rfl) (v := yI (z4)) rfl rfl ?_
                  refine yG.num (c := 7) rfl (fun _ _ => rfl) (by decide) ?_
                  refine yG.invV (rest := [yI (a2), yR r15]) A_h14.1 (bOb (d_M W) H_k0) rfl rfl rfl rfl (c_GModel_of_3_7 W (d + 1) A_h14.1 H_k0 (z4) (by omega) (by omega)) (fun rv hp9 q9 => ?_)
                  obtain ⟨⟨z25, rfl, l_z25, u_z25, R_z25⟩, e9⟩ := q9
                  rw [e9]
                  show yG _ _ _ _ _ _ _ _ _ _ (yI z25 :: [yI (a2), yR r15]) _
                  refine yG.goto rfl (t := 140) rfl ?_
                  refine yG.iast A_h14.1 (v_M_high W H_r15) (W.2.1 _ _ H_r15 (by decide) (by decide)) rfl (by omega) (by omega) ⟨by omega, by omega⟩ (by omega) (by omega) (fun h26 T_h26 b_h26 f_h26 y_h26 => ?_)
                  have A_h26 := A_h14.put T_h26 b_h26 f_h26 H_r15 (bAll_ok (by decide) _)
                  refine yG.load xak rfl (fun _ _ => rfl) (v := yR k0) rfl rfl ?_
                  refine yG.getO A_h26.1 (w_M_slope W H_k0) rfl rfl (fun r27 H_r27 O_r27 q_r27 => ?_)
                  refine yG.load xik rfl (fun _ _ => rfl) (v := yI (a2)) rfl rfl ?_
                  refine yG.load xik rfl (fun _ _ => rfl) (v := yI (0)) rfl rfl ?_
                  refine yG.ifz rfl (t := 162) rfl ⟨by omega, by omega⟩ (fun c28 => ?_) (fun c28 => ?_)
                  · have c28 : (0 : Int) = 0 := c28
                    refine yG.load xak rfl (fun _ _ => rfl) (v := yR k0) rfl rfl ?_
                    refine yG.num (c := 3) rfl (fun _ _ => rfl) (by decide) ?_
                    refine yG.load xik rfl (fun _ _ => rfl) (v := yI (z4)) rfl rfl ?_
                    refine yG.num (c := 6) rfl (fun _ _ => rfl) (by decide) ?_
                    refine yG.invV (rest := [yI (a2), yR r27]) A_h26.1 (bOb (d_M W) H_k0) rfl rfl rfl rfl (c_GModel_of_3_6 W (d + 1) A_h26.1 H_k0 (z4) (by omega) (by omega)) (fun rv hp9 q9 => ?_)
                    obtain ⟨⟨z29, rfl, l_z29, u_z29, R_z29⟩, e9⟩ := q9
                    rw [e9]
                    show yG _ _ _ _ _ _ _ _ _ _ (yI z29 :: [yI (a2), yR r27]) _
                    refine yG.iast A_h26.1 (v_M_slope W H_r27) (W.2.1 _ _ H_r27 (by decide) (by decide)) rfl (by omega) (by omega) ⟨by omega, by omega⟩ (by omega) (by omega) (fun h30 T_h30 b_h30 f_h30 y_h30 => ?_)
                    have A_h30 := A_h26.put T_h30 b_h30 f_h30 H_r27 (bAll_ok (by decide) _)
                    refine yG.iinc rfl (a := a2) rfl (L' := [(2, yI (a2 + 1)), (4, yI (0)), (3, yI (z4)), (0, yR k0), (1, yI (p1))]) rfl ?_
                    refine yG.goto rfl (t := 2) rfl ?_
                    exact yG.mono (yG.sub (i_2 (a2 + 1)  h30 A_h30   (by omega) (by omega) (by omega) (by omega) (by omega)) (ySub.cons rfl (ySub.cons rfl (ySub.cons rfl (ySub.nil))))) (by omega)
                  · have c28 : (0 : Int) ≠ 0 := c28
                    exfalso; omega
            · have c12 : (z11 : Int) ≠ 0 := c12
              refine yG.load xik rfl (fun _ _ => rfl) (v := yI (0)) rfl rfl ?_
              refine yG.ifz rfl (t := 96) rfl ⟨by omega, by omega⟩ (fun c31 => ?_) (fun c31 => ?_)
              · have c31 : (0 : Int) = 0 := c31
                refine yG.load xak rfl (fun _ _ => rfl) (v := yR k0) rfl rfl ?_
                refine yG.num (c := 3) rfl (fun _ _ => rfl) (by decide) ?_
                refine yG.load xik rfl (fun _ _ => rfl) (v := yI (z4)) rfl rfl ?_
                refine yG.num (c := 4) rfl (fun _ _ => rfl) (by decide) ?_
                refine yG.invV (rest := [yI (a2), yR r10]) A_hq.1 (bOb (d_M W) H_k0) rfl rfl rfl rfl (c_GModel_of_3_4 W (d + 1) A_hq.1 H_k0 (z4) (by omega) (by omega)) (fun rv hp9 q9 => ?_)
                obtain ⟨⟨z32, rfl, l_z32, u_z32, R_z32⟩, e9⟩ := q9
                rw [e9]
                show yG _ _ _ _ _ _ _ _ _ _ (yI z32 :: [yI (a2), yR r10]) _
                refine yG.iast A_hq.1 (v_M_low W H_r10) (W.2.1 _ _ H_r10 (by decide) (by decide)) rfl (by omega) (by omega) ⟨by omega, by omega⟩ (by omega) (by omega) (fun h33 T_h33 b_h33 f_h33 y_h33 => ?_)
                have A_h33 := A_hq.put T_h33 b_h33 f_h33 H_r10 (bAll_ok (by decide) _)
                refine yG.load xak rfl (fun _ _ => rfl) (v := yR k0) rfl rfl ?_
                refine yG.getO A_h33.1 (w_M_high W H_k0) rfl rfl (fun r34 H_r34 O_r34 q_r34 => ?_)
                refine yG.load xik rfl (fun _ _ => rfl) (v := yI (a2)) rfl rfl ?_
                refine yG.load xak rfl (fun _ _ => rfl) (v := yR k0) rfl rfl ?_
                refine yG.load xik rfl (fun _ _ => rfl) (v := yI (a2)) rfl rfl ?_
                refine yG.invV (rest := [yI (a2), yR r34]) A_h33.1 (bOb (d_M W) H_k0) rfl rfl rfl rfl (c_GModel_turns W d A_h33.1 H_k0 (a2) (by omega) (by omega)) (fun rv hp9 q9 => ?_)
                obtain ⟨⟨z35, rfl, l_z35, u_z35, R_z35⟩, e9⟩ := q9
                rw [e9]
                show yG _ _ _ _ _ _ _ _ _ _ (yI z35 :: [yI (a2), yR r34]) _
                refine yG.ifz rfl (t := 133) rfl ⟨by omega, by omega⟩ (fun c36 => ?_) (fun c36 => ?_)
                · have c36 : (z35 : Int) = 0 := c36
                  refine yG.load xak rfl (fun _ _ => rfl) (v := yR k0) rfl rfl ?_
                  refine yG.num (c := 3) rfl (fun _ _ => rfl) (by decide) ?_
                  refine yG.load xik rfl (fun _ _ => rfl) (v := yI (z4)) rfl rfl ?_
                  refine yG.num (c := 5) rfl (fun _ _ => rfl) (by decide) ?_
                  refine yG.invV (rest := [yI (a2), yR r34]) A_h33.1 (bOb (d_M W) H_k0) rfl rfl rfl rfl (c_GModel_of_3_5 W (d + 1) A_h33.1 H_k0 (z4) (by omega) (by omega)) (fun rv hp9 q9 => ?_)
                  obtain ⟨⟨z37, rfl, l_z37, u_z37, R_z37⟩, e9⟩ := q9
                  rw [e9]
                  show yG _ _ _ _ _ _ _ _ _ _ (yI z37 :: [yI (a2), yR r34]) _
                  refine yG.iast A_h33.1 (v_M_high W H_r34) (W.2.1 _ _ H_r34 (by decide) (by decide)) rfl (by omega) (by omega) ⟨by omega, by omega⟩ (by omega) (by omega) (fun h38 T_h38 b_h38 f_h38 y_h38 => ?_)
                  have A_h38 := A_h33.put T_h38 b_h38 f_h38 H_r34 (bAll_ok (by decide) _)
                  refine yG.load xak rfl (fun _ _ => rfl) (v := yR k0) rfl rfl ?_
                  refine yG.getO A_h38.1 (w_M_slope W H_k0) rfl rfl (fun r39 H_r39 O_r39 q_r39 => ?_)
                  refine yG.load xik rfl (fun _ _ => rfl) (v := yI (a2)) rfl rfl ?_
                  refine yG.load xik rfl (fun _ _ => rfl) (v := yI (0)) rfl rfl ?_
                  refine yG.ifz rfl (t := 162) rfl ⟨by omega, by omega⟩ (fun c40 => ?_) (fun c40 => ?_)
                  · have c40 : (0 : Int) = 0 := c40
                    refine yG.load xak rfl (fun _ _ => rfl) (v := yR k0) rfl rfl ?_
                    refine yG.num (c := 3) rfl (fun _ _ => rfl) (by decide) ?_
                    refine yG.load xik rfl (fun _ _ => rfl) (v := yI (z4)) rfl rfl ?_
                    refine yG.num (c := 6) rfl (fun _ _ => rfl) (by decide) ?_
                    refine yG.invV (rest := [yI (a2), yR r39]) A_h38.1 (bOb (d_M W) H_k0) rfl rfl rfl rfl (c_GModel_of_3_6 W (d + 1) A_h38.1 H_k0 (z4) (by omega) (by omega)) (fun rv hp9 q9 => ?_)
                    obtain ⟨⟨z41, rfl, l_z41, u_z41, R_z41⟩, e9⟩ := q9
                    rw [e9]
                    show yG _ _ _ _ _ _ _ _ _ _ (yI z41 :: [yI (a2), yR r39]) _
                    refine yG.iast A_h38.1 (v_M_slope W H_r39) (W.2.1 _ _ H_r39 (by decide) (by decide)) rfl (by omega) (by omega) ⟨by omega, by omega⟩ (by omega) (by omega) (fun h42 T_h42 b_h42 f_h42 y_h42 => ?_)
                    have A_h42 := A_h38.put T_h42 b_h42 f_h42 H_r39 (bAll_ok (by decide) _)
                    refine yG.iinc rfl (a := a2) rfl (L' := [(2, yI (a2 + 1)), (4, yI (0)), (3, yI (z4)), (0, yR k0), (1, yI (p1))]) rfl ?_
                    refine yG.goto rfl (t := 2) rfl ?_
                    exact yG.mono (yG.sub (i_2 (a2 + 1)  h42 A_h42   (by omega) (by omega) (by omega) (by omega) (by omega)) (ySub.cons rfl (ySub.cons rfl (ySub.cons rfl (ySub.nil))))) (by omega)
                  · have c40 : (0 : Int) ≠ 0 := c40
                    exfalso; omega
                · have c36 : (z35 : Int) ≠ 0 := c36
                  refine yG.load xik rfl (fun _ _ => rfl) (v := yI (0)) rfl rfl ?_
                  refine yG.ifz rfl (t := 133) rfl ⟨by omega, by omega⟩ (fun c43 => ?_) (fun c43 => ?_)
                  · have c43 : (0 : Int) ≠ 0 := c43
                    exfalso; omega
                  · have c43 : (0 : Int) = 0 := c43
                    refine yG.load xak rfl (fun _ _ => rfl) (v := yR k0) rfl rfl ?_
                    refine yG.num (c := 3) rfl (fun _ _ => rfl) (by decide) ?_
                    refine yG.load xik rfl (fun _ _ => rfl) (v := yI (z4)) rfl rfl ?_
                    refine yG.num (c := 7) rfl (fun _ _ => rfl) (by decide) ?_
                    refine yG.invV (rest := [yI (a2), yR r34]) A_h33.1 (bOb (d_M W) H_k0) rfl rfl rfl rfl (c_GModel_of_3_7 W (d + 1) A_h33.1 H_k0 (z4) (by omega) (by omega)) (fun rv hp9 q9 => ?_)
                    obtain ⟨⟨z44, rfl, l_z44, u_z44, R_z44⟩, e9⟩ := q9
                    rw [e9]
                    show yG _ _ _ _ _ _ _ _ _ _ (yI z44 :: [yI (a2), yR r34]) _
                    refine yG.goto rfl (t := 140) rfl ?_
                    refine yG.iast A_h33.1 (v_M_high W H_r34) (W.2.1 _ _ H_r34 (by decide) (by decide)) rfl (by omega) (by omega) ⟨by omega, by omega⟩ (by omega) (by omega) (fun h45 T_h45 b_h45 f_h45 y_h45 => ?_)
                    have A_h45 := A_h33.put T_h45 b_h45 f_h45 H_r34 (bAll_ok (by decide) _)
                    refine yG.load xak rfl (fun _ _ => rfl) (v := yR k0) rfl rfl ?_
                    refine yG.getO A_h45.1 (w_M_slope W H_k0) rfl rfl (fun r46 H_r46 O_r46 q_r46 => ?_)
                    refine yG.load xik rfl (fun _ _ => rfl) (v := yI (a2)) rfl rfl ?_
                    refine yG.load xik rfl (fun _ _ => rfl) (v := yI (0)) rfl rfl ?_
                    refine yG.ifz rfl (t := 162) rfl ⟨by omega, by omega⟩ (fun c47 => ?_) (fun c47 => ?_)
                    · have c47 : (0 : Int) = 0 := c47
                      refine yG.load xak rfl (fun _ _ => rfl) (v := yR k0) rfl rfl ?_
                      refine yG.num (c := 3) rfl (fun _ _ => rfl) (by decide) ?_
                      refine yG.load xik rfl (fun _ _ => rfl) (v := yI (z4)) rfl rfl ?_
                      refine yG.num (c := 6) rfl (fun _ _ => rfl) (by decide) ?_
                      refine yG.invV (rest := [yI (a2), yR r46]) A_h45.1 (bOb (d_M W) H_k0) rfl rfl rfl rfl (c_GModel_of_3_6 W (d + 1) A_h45.1 H_k0 (z4) (by omega) (by omega)) (fun rv hp9 q9 => ?_)
                      obtain ⟨⟨z48, rfl, l_z48, u_z48, R_z48⟩, e9⟩ := q9
                      rw [e9]
                      show yG _ _ _ _ _ _ _ _ _ _ (yI z48 :: [yI (a2), yR r46]) _
                      refine yG.iast A_h45.1 (v_M_slope W H_r46) (W.2.1 _ _ H_r46 (by decide) (by decide)) rfl (by omega) (by omega) ⟨by omega, by omega⟩ (by omega) (by omega) (fun h49 T_h49 b_h49 f_h49 y_h49 => ?_)
                      have A_h49 := A_h45.put T_h49 b_h49 f_h49 H_r46 (bAll_ok (by decide) _)
                      refine yG.iinc rfl (a := a2) rfl (L' := [(2, yI (a2 + 1)), (4, yI (0)), (3, yI (z4)), (0, yR k0), (1, yI (p1))]) rfl ?_
                      refine yG.goto rfl (t := 2) rfl ?_
                      exact yG.mono (yG.sub (i_2 (a2 + 1)  h49 A_h49   (by omega) (by omega) (by omega) (by omega) (by omega)) (ySub.cons rfl (ySub.cons rfl (ySub.cons rfl (ySub.nil))))) (by omega)
                    · have c47 : (0 : Int) ≠ 0 := c47
                      exfalso; omega
              · have c31 : (0 : Int) ≠ 0 := c31
                exfalso; omega
          · have c9 : (z7 : Int) ≤ z8 := c9
            refine yG.num (c := 1) rfl (fun _ _ => rfl) (by decide) ?_
            refine yG.goto rfl (t := 65) rfl ?_
            refine yG.store1 xik (L' := [(4, yI (1)), (3, yI (z4)), (0, yR k0), (1, yI (p1)), (2, yI (a2))]) rfl (fun _ _ => rfl) rfl rfl ?_
            refine yG.load xak rfl (fun _ _ => rfl) (v := yR k0) rfl rfl ?_
            refine yG.getO A_hq.1 (w_M_low W H_k0) rfl rfl (fun r50 H_r50 O_r50 q_r50 => ?_)
            refine yG.load xik rfl (fun _ _ => rfl) (v := yI (a2)) rfl rfl ?_
            refine yG.load xak rfl (fun _ _ => rfl) (v := yR k0) rfl rfl ?_
            refine yG.load xik rfl (fun _ _ => rfl) (v := yI (a2)) rfl rfl ?_
            refine yG.invV (rest := [yI (a2), yR r50]) A_hq.1 (bOb (d_M W) H_k0) rfl rfl rfl rfl (c_GModel_turns W d A_hq.1 H_k0 (a2) (by omega) (by omega)) (fun rv hp9 q9 => ?_)
            obtain ⟨⟨z51, rfl, l_z51, u_z51, R_z51⟩, e9⟩ := q9
            rw [e9]
            show yG _ _ _ _ _ _ _ _ _ _ (yI z51 :: [yI (a2), yR r50]) _
            refine yG.ifz rfl (t := 96) rfl ⟨by omega, by omega⟩ (fun c52 => ?_) (fun c52 => ?_)
            · have c52 : (z51 : Int) = 0 := c52
              refine yG.load xak rfl (fun _ _ => rfl) (v := yR k0) rfl rfl ?_
              refine yG.num (c := 3) rfl (fun _ _ => rfl) (by decide) ?_
              refine yG.load xik rfl (fun _ _ => rfl) (v := yI (z4)) rfl rfl ?_
              refine yG.num (c := 4) rfl (fun _ _ => rfl) (by decide) ?_
              refine yG.invV (rest := [yI (a2), yR r50]) A_hq.1 (bOb (d_M W) H_k0) rfl rfl rfl rfl (c_GModel_of_3_4 W (d + 1) A_hq.1 H_k0 (z4) (by omega) (by omega)) (fun rv hp9 q9 => ?_)
              obtain ⟨⟨z53, rfl, l_z53, u_z53, R_z53⟩, e9⟩ := q9
              rw [e9]
              show yG _ _ _ _ _ _ _ _ _ _ (yI z53 :: [yI (a2), yR r50]) _
              refine yG.iast A_hq.1 (v_M_low W H_r50) (W.2.1 _ _ H_r50 (by decide) (by decide)) rfl (by omega) (by omega) ⟨by omega, by omega⟩ (by omega) (by omega) (fun h54 T_h54 b_h54 f_h54 y_h54 => ?_)
              have A_h54 := A_hq.put T_h54 b_h54 f_h54 H_r50 (bAll_ok (by decide) _)
              refine yG.load xak rfl (fun _ _ => rfl) (v := yR k0) rfl rfl ?_
              refine yG.getO A_h54.1 (w_M_high W H_k0) rfl rfl (fun r55 H_r55 O_r55 q_r55 => ?_)
              refine yG.load xik rfl (fun _ _ => rfl) (v := yI (a2)) rfl rfl ?_
              refine yG.load xak rfl (fun _ _ => rfl) (v := yR k0) rfl rfl ?_
              refine yG.load xik rfl (fun _ _ => rfl) (v := yI (a2)) rfl rfl ?_
              refine yG.invV (rest := [yI (a2), yR r55]) A_h54.1 (bOb (d_M W) H_k0) rfl rfl rfl rfl (c_GModel_turns W d A_h54.1 H_k0 (a2) (by omega) (by omega)) (fun rv hp9 q9 => ?_)
              obtain ⟨⟨z56, rfl, l_z56, u_z56, R_z56⟩, e9⟩ := q9
              rw [e9]
              show yG _ _ _ _ _ _ _ _ _ _ (yI z56 :: [yI (a2), yR r55]) _
              refine yG.ifz rfl (t := 133) rfl ⟨by omega, by omega⟩ (fun c57 => ?_) (fun c57 => ?_)
              · have c57 : (z56 : Int) = 0 := c57
                refine yG.load xak rfl (fun _ _ => rfl) (v := yR k0) rfl rfl ?_
                refine yG.num (c := 3) rfl (fun _ _ => rfl) (by decide) ?_
                refine yG.load xik rfl (fun _ _ => rfl) (v := yI (z4)) rfl rfl ?_
                refine yG.num (c := 5) rfl (fun _ _ => rfl) (by decide) ?_
                refine yG.invV (rest := [yI (a2), yR r55]) A_h54.1 (bOb (d_M W) H_k0) rfl rfl rfl rfl (c_GModel_of_3_5 W (d + 1) A_h54.1 H_k0 (z4) (by omega) (by omega)) (fun rv hp9 q9 => ?_)
                obtain ⟨⟨z58, rfl, l_z58, u_z58, R_z58⟩, e9⟩ := q9
                rw [e9]
                show yG _ _ _ _ _ _ _ _ _ _ (yI z58 :: [yI (a2), yR r55]) _
                refine yG.iast A_h54.1 (v_M_high W H_r55) (W.2.1 _ _ H_r55 (by decide) (by decide)) rfl (by omega) (by omega) ⟨by omega, by omega⟩ (by omega) (by omega) (fun h59 T_h59 b_h59 f_h59 y_h59 => ?_)
                have A_h59 := A_h54.put T_h59 b_h59 f_h59 H_r55 (bAll_ok (by decide) _)
                refine yG.load xak rfl (fun _ _ => rfl) (v := yR k0) rfl rfl ?_
                refine yG.getO A_h59.1 (w_M_slope W H_k0) rfl rfl (fun r60 H_r60 O_r60 q_r60 => ?_)
                refine yG.load xik rfl (fun _ _ => rfl) (v := yI (a2)) rfl rfl ?_
                refine yG.load xik rfl (fun _ _ => rfl) (v := yI (1)) rfl rfl ?_
                refine yG.ifz rfl (t := 162) rfl ⟨by omega, by omega⟩ (fun c61 => ?_) (fun c61 => ?_)
                · have c61 : (1 : Int) = 0 := c61
                  exfalso; omega
                · have c61 : (1 : Int) ≠ 0 := c61
                  refine yG.load xak rfl (fun _ _ => rfl) (v := yR k0) rfl rfl ?_
                  refine yG.num (c := 3) rfl (fun _ _ => rfl) (by decide) ?_
                  refine yG.load xik rfl (fun _ _ => rfl) (v := yI (z4)) rfl rfl ?_
                  refine yG.num (c := 8) rfl (fun _ _ => rfl) (by decide) ?_
                  refine yG.invV (rest := [yI (a2), yR r60]) A_h59.1 (bOb (d_M W) H_k0) rfl rfl rfl rfl (c_GModel_of_3_8 W (d + 1) A_h59.1 H_k0 (z4) (by omega) (by omega)) (fun rv hp9 q9 => ?_)
                  obtain ⟨⟨z62, rfl, l_z62, u_z62, R_z62⟩, e9⟩ := q9
                  rw [e9]
                  show yG _ _ _ _ _ _ _ _ _ _ (yI z62 :: [yI (a2), yR r60]) _
                  refine yG.goto rfl (t := 170) rfl ?_
                  refine yG.iast A_h59.1 (v_M_slope W H_r60) (W.2.1 _ _ H_r60 (by decide) (by decide)) rfl (by omega) (by omega) ⟨by omega, by omega⟩ (by omega) (by omega) (fun h63 T_h63 b_h63 f_h63 y_h63 => ?_)
                  have A_h63 := A_h59.put T_h63 b_h63 f_h63 H_r60 (bAll_ok (by decide) _)
                  refine yG.iinc rfl (a := a2) rfl (L' := [(2, yI (a2 + 1)), (4, yI (1)), (3, yI (z4)), (0, yR k0), (1, yI (p1))]) rfl ?_
                  refine yG.goto rfl (t := 2) rfl ?_
                  exact yG.mono (yG.sub (i_2 (a2 + 1)  h63 A_h63   (by omega) (by omega) (by omega) (by omega) (by omega)) (ySub.cons rfl (ySub.cons rfl (ySub.cons rfl (ySub.nil))))) (by omega)
              · have c57 : (z56 : Int) ≠ 0 := c57
                refine yG.load xik rfl (fun _ _ => rfl) (v := yI (1)) rfl rfl ?_
                refine yG.ifz rfl (t := 133) rfl ⟨by omega, by omega⟩ (fun c64 => ?_) (fun c64 => ?_)
                · have c64 : (1 : Int) ≠ 0 := c64
                  refine yG.load xak rfl (fun _ _ => rfl) (v := yR k0) rfl rfl ?_
                  refine yG.num (c := 3) rfl (fun _ _ => rfl) (by decide) ?_
                  refine yG.load xik rfl (fun _ _ => rfl) (v := yI (z4)) rfl rfl ?_
                  refine yG.num (c := 5) rfl (fun _ _ => rfl) (by decide) ?_
                  refine yG.invV (rest := [yI (a2), yR r55]) A_h54.1 (bOb (d_M W) H_k0) rfl rfl rfl rfl (c_GModel_of_3_5 W (d + 1) A_h54.1 H_k0 (z4) (by omega) (by omega)) (fun rv hp9 q9 => ?_)
                  obtain ⟨⟨z65, rfl, l_z65, u_z65, R_z65⟩, e9⟩ := q9
                  rw [e9]
                  show yG _ _ _ _ _ _ _ _ _ _ (yI z65 :: [yI (a2), yR r55]) _
                  refine yG.iast A_h54.1 (v_M_high W H_r55) (W.2.1 _ _ H_r55 (by decide) (by decide)) rfl (by omega) (by omega) ⟨by omega, by omega⟩ (by omega) (by omega) (fun h66 T_h66 b_h66 f_h66 y_h66 => ?_)
                  have A_h66 := A_h54.put T_h66 b_h66 f_h66 H_r55 (bAll_ok (by decide) _)
                  refine yG.load xak rfl (fun _ _ => rfl) (v := yR k0) rfl rfl ?_
                  refine yG.getO A_h66.1 (w_M_slope W H_k0) rfl rfl (fun r67 H_r67 O_r67 q_r67 => ?_)
                  refine yG.load xik rfl (fun _ _ => rfl) (v := yI (a2)) rfl rfl ?_
                  refine yG.load xik rfl (fun _ _ => rfl) (v := yI (1)) rfl rfl ?_
                  refine yG.ifz rfl (t := 162) rfl ⟨by omega, by omega⟩ (fun c68 => ?_) (fun c68 => ?_)
                  · have c68 : (1 : Int) = 0 := c68
                    exfalso; omega
                  · have c68 : (1 : Int) ≠ 0 := c68
                    refine yG.load xak rfl (fun _ _ => rfl) (v := yR k0) rfl rfl ?_
                    refine yG.num (c := 3) rfl (fun _ _ => rfl) (by decide) ?_
                    refine yG.load xik rfl (fun _ _ => rfl) (v := yI (z4)) rfl rfl ?_
                    refine yG.num (c := 8) rfl (fun _ _ => rfl) (by decide) ?_
                    refine yG.invV (rest := [yI (a2), yR r67]) A_h66.1 (bOb (d_M W) H_k0) rfl rfl rfl rfl (c_GModel_of_3_8 W (d + 1) A_h66.1 H_k0 (z4) (by omega) (by omega)) (fun rv hp9 q9 => ?_)
                    obtain ⟨⟨z69, rfl, l_z69, u_z69, R_z69⟩, e9⟩ := q9
                    rw [e9]
                    show yG _ _ _ _ _ _ _ _ _ _ (yI z69 :: [yI (a2), yR r67]) _
                    refine yG.goto rfl (t := 170) rfl ?_
                    refine yG.iast A_h66.1 (v_M_slope W H_r67) (W.2.1 _ _ H_r67 (by decide) (by decide)) rfl (by omega) (by omega) ⟨by omega, by omega⟩ (by omega) (by omega) (fun h70 T_h70 b_h70 f_h70 y_h70 => ?_)
                    have A_h70 := A_h66.put T_h70 b_h70 f_h70 H_r67 (bAll_ok (by decide) _)
                    refine yG.iinc rfl (a := a2) rfl (L' := [(2, yI (a2 + 1)), (4, yI (1)), (3, yI (z4)), (0, yR k0), (1, yI (p1))]) rfl ?_
                    refine yG.goto rfl (t := 2) rfl ?_
                    exact yG.mono (yG.sub (i_2 (a2 + 1)  h70 A_h70   (by omega) (by omega) (by omega) (by omega) (by omega)) (ySub.cons rfl (ySub.cons rfl (ySub.cons rfl (ySub.nil))))) (by omega)
                · have c64 : (1 : Int) = 0 := c64
                  exfalso; omega
            · have c52 : (z51 : Int) ≠ 0 := c52
              refine yG.load xik rfl (fun _ _ => rfl) (v := yI (1)) rfl rfl ?_
              refine yG.ifz rfl (t := 96) rfl ⟨by omega, by omega⟩ (fun c71 => ?_) (fun c71 => ?_)
              · have c71 : (1 : Int) = 0 := c71
                exfalso; omega
              · have c71 : (1 : Int) ≠ 0 := c71
                refine yG.load xak rfl (fun _ _ => rfl) (v := yR k0) rfl rfl ?_
                refine yG.num (c := 3) rfl (fun _ _ => rfl) (by decide) ?_
                refine yG.load xik rfl (fun _ _ => rfl) (v := yI (z4)) rfl rfl ?_
                refine yG.num (c := 7) rfl (fun _ _ => rfl) (by decide) ?_
                refine yG.invV (rest := [yI (a2), yR r50]) A_hq.1 (bOb (d_M W) H_k0) rfl rfl rfl rfl (c_GModel_of_3_7 W (d + 1) A_hq.1 H_k0 (z4) (by omega) (by omega)) (fun rv hp9 q9 => ?_)
                obtain ⟨⟨z72, rfl, l_z72, u_z72, R_z72⟩, e9⟩ := q9
                rw [e9]
                show yG _ _ _ _ _ _ _ _ _ _ (yI z72 :: [yI (a2), yR r50]) _
                refine yG.goto rfl (t := 103) rfl ?_
                refine yG.iast A_hq.1 (v_M_low W H_r50) (W.2.1 _ _ H_r50 (by decide) (by decide)) rfl (by omega) (by omega) ⟨by omega, by omega⟩ (by omega) (by omega) (fun h73 T_h73 b_h73 f_h73 y_h73 => ?_)
                have A_h73 := A_hq.put T_h73 b_h73 f_h73 H_r50 (bAll_ok (by decide) _)
                refine yG.load xak rfl (fun _ _ => rfl) (v := yR k0) rfl rfl ?_
                refine yG.getO A_h73.1 (w_M_high W H_k0) rfl rfl (fun r74 H_r74 O_r74 q_r74 => ?_)
                refine yG.load xik rfl (fun _ _ => rfl) (v := yI (a2)) rfl rfl ?_
                refine yG.load xak rfl (fun _ _ => rfl) (v := yR k0) rfl rfl ?_
                refine yG.load xik rfl (fun _ _ => rfl) (v := yI (a2)) rfl rfl ?_
                refine yG.invV (rest := [yI (a2), yR r74]) A_h73.1 (bOb (d_M W) H_k0) rfl rfl rfl rfl (c_GModel_turns W d A_h73.1 H_k0 (a2) (by omega) (by omega)) (fun rv hp9 q9 => ?_)
                obtain ⟨⟨z75, rfl, l_z75, u_z75, R_z75⟩, e9⟩ := q9
                rw [e9]
                show yG _ _ _ _ _ _ _ _ _ _ (yI z75 :: [yI (a2), yR r74]) _
                refine yG.ifz rfl (t := 133) rfl ⟨by omega, by omega⟩ (fun c76 => ?_) (fun c76 => ?_)
                · have c76 : (z75 : Int) = 0 := c76
                  refine yG.load xak rfl (fun _ _ => rfl) (v := yR k0) rfl rfl ?_
                  refine yG.num (c := 3) rfl (fun _ _ => rfl) (by decide) ?_
                  refine yG.load xik rfl (fun _ _ => rfl) (v := yI (z4)) rfl rfl ?_
                  refine yG.num (c := 5) rfl (fun _ _ => rfl) (by decide) ?_
                  refine yG.invV (rest := [yI (a2), yR r74]) A_h73.1 (bOb (d_M W) H_k0) rfl rfl rfl rfl (c_GModel_of_3_5 W (d + 1) A_h73.1 H_k0 (z4) (by omega) (by omega)) (fun rv hp9 q9 => ?_)
                  obtain ⟨⟨z77, rfl, l_z77, u_z77, R_z77⟩, e9⟩ := q9
                  rw [e9]
                  show yG _ _ _ _ _ _ _ _ _ _ (yI z77 :: [yI (a2), yR r74]) _
                  refine yG.iast A_h73.1 (v_M_high W H_r74) (W.2.1 _ _ H_r74 (by decide) (by decide)) rfl (by omega) (by omega) ⟨by omega, by omega⟩ (by omega) (by omega) (fun h78 T_h78 b_h78 f_h78 y_h78 => ?_)
                  have A_h78 := A_h73.put T_h78 b_h78 f_h78 H_r74 (bAll_ok (by decide) _)
                  refine yG.load xak rfl (fun _ _ => rfl) (v := yR k0) rfl rfl ?_
                  refine yG.getO A_h78.1 (w_M_slope W H_k0) rfl rfl (fun r79 H_r79 O_r79 q_r79 => ?_)
                  refine yG.load xik rfl (fun _ _ => rfl) (v := yI (a2)) rfl rfl ?_
                  refine yG.load xik rfl (fun _ _ => rfl) (v := yI (1)) rfl rfl ?_
                  refine yG.ifz rfl (t := 162) rfl ⟨by omega, by omega⟩ (fun c80 => ?_) (fun c80 => ?_)
                  · have c80 : (1 : Int) = 0 := c80
                    exfalso; omega
                  · have c80 : (1 : Int) ≠ 0 := c80
                    refine yG.load xak rfl (fun _ _ => rfl) (v := yR k0) rfl rfl ?_
                    refine yG.num (c := 3) rfl (fun _ _ => rfl) (by decide) ?_
                    refine yG.load xik rfl (fun _ _ => rfl) (v := yI (z4)) rfl rfl ?_
                    refine yG.num (c := 8) rfl (fun _ _ => rfl) (by decide) ?_
                    refine yG.invV (rest := [yI (a2), yR r79]) A_h78.1 (bOb (d_M W) H_k0) rfl rfl rfl rfl (c_GModel_of_3_8 W (d + 1) A_h78.1 H_k0 (z4) (by omega) (by omega)) (fun rv hp9 q9 => ?_)
                    obtain ⟨⟨z81, rfl, l_z81, u_z81, R_z81⟩, e9⟩ := q9
                    rw [e9]
                    show yG _ _ _ _ _ _ _ _ _ _ (yI z81 :: [yI (a2), yR r79]) _
                    refine yG.goto rfl (t := 170) rfl ?_
                    refine yG.iast A_h78.1 (v_M_slope W H_r79) (W.2.1 _ _ H_r79 (by decide) (by decide)) rfl (by omega) (by omega) ⟨by omega, by omega⟩ (by omega) (by omega) (fun h82 T_h82 b_h82 f_h82 y_h82 => ?_)
                    have A_h82 := A_h78.put T_h82 b_h82 f_h82 H_r79 (bAll_ok (by decide) _)
                    refine yG.iinc rfl (a := a2) rfl (L' := [(2, yI (a2 + 1)), (4, yI (1)), (3, yI (z4)), (0, yR k0), (1, yI (p1))]) rfl ?_
                    refine yG.goto rfl (t := 2) rfl ?_
                    exact yG.mono (yG.sub (i_2 (a2 + 1)  h82 A_h82   (by omega) (by omega) (by omega) (by omega) (by omega)) (ySub.cons rfl (ySub.cons rfl (ySub.cons rfl (ySub.nil))))) (by omega)
                · have c76 : (z75 : Int) ≠ 0 := c76
                  refine yG.load xik rfl (fun _ _ => rfl) (v := yI (1)) rfl rfl ?_
                  refine yG.ifz rfl (t := 133) rfl ⟨by omega, by omega⟩ (fun c83 => ?_) (fun c83 => ?_)
                  · have c83 : (1 : Int) ≠ 0 := c83
                    refine yG.load xak rfl (fun _ _ => rfl) (v := yR k0) rfl rfl ?_
                    refine yG.num (c := 3) rfl (fun _ _ => rfl) (by decide) ?_
                    refine yG.load xik rfl (fun _ _ => rfl) (v := yI (z4)) rfl rfl ?_
                    refine yG.num (c := 5) rfl (fun _ _ => rfl) (by decide) ?_
                    refine yG.invV (rest := [yI (a2), yR r74]) A_h73.1 (bOb (d_M W) H_k0) rfl rfl rfl rfl (c_GModel_of_3_5 W (d + 1) A_h73.1 H_k0 (z4) (by omega) (by omega)) (fun rv hp9 q9 => ?_)
                    obtain ⟨⟨z84, rfl, l_z84, u_z84, R_z84⟩, e9⟩ := q9
                    rw [e9]
                    show yG _ _ _ _ _ _ _ _ _ _ (yI z84 :: [yI (a2), yR r74]) _
                    refine yG.iast A_h73.1 (v_M_high W H_r74) (W.2.1 _ _ H_r74 (by decide) (by decide)) rfl (by omega) (by omega) ⟨by omega, by omega⟩ (by omega) (by omega) (fun h85 T_h85 b_h85 f_h85 y_h85 => ?_)
                    have A_h85 := A_h73.put T_h85 b_h85 f_h85 H_r74 (bAll_ok (by decide) _)
                    refine yG.load xak rfl (fun _ _ => rfl) (v := yR k0) rfl rfl ?_
                    refine yG.getO A_h85.1 (w_M_slope W H_k0) rfl rfl (fun r86 H_r86 O_r86 q_r86 => ?_)
                    refine yG.load xik rfl (fun _ _ => rfl) (v := yI (a2)) rfl rfl ?_
                    refine yG.load xik rfl (fun _ _ => rfl) (v := yI (1)) rfl rfl ?_
                    refine yG.ifz rfl (t := 162) rfl ⟨by omega, by omega⟩ (fun c87 => ?_) (fun c87 => ?_)
                    · have c87 : (1 : Int) = 0 := c87
                      exfalso; omega
                    · have c87 : (1 : Int) ≠ 0 := c87
                      refine yG.load xak rfl (fun _ _ => rfl) (v := yR k0) rfl rfl ?_
                      refine yG.num (c := 3) rfl (fun _ _ => rfl) (by decide) ?_
                      refine yG.load xik rfl (fun _ _ => rfl) (v := yI (z4)) rfl rfl ?_
                      refine yG.num (c := 8) rfl (fun _ _ => rfl) (by decide) ?_
                      refine yG.invV (rest := [yI (a2), yR r86]) A_h85.1 (bOb (d_M W) H_k0) rfl rfl rfl rfl (c_GModel_of_3_8 W (d + 1) A_h85.1 H_k0 (z4) (by omega) (by omega)) (fun rv hp9 q9 => ?_)
                      obtain ⟨⟨z88, rfl, l_z88, u_z88, R_z88⟩, e9⟩ := q9
                      rw [e9]
                      show yG _ _ _ _ _ _ _ _ _ _ (yI z88 :: [yI (a2), yR r86]) _
                      refine yG.goto rfl (t := 170) rfl ?_
                      refine yG.iast A_h85.1 (v_M_slope W H_r86) (W.2.1 _ _ H_r86 (by decide) (by decide)) rfl (by omega) (by omega) ⟨by omega, by omega⟩ (by omega) (by omega) (fun h89 T_h89 b_h89 f_h89 y_h89 => ?_)
                      have A_h89 := A_h85.put T_h89 b_h89 f_h89 H_r86 (bAll_ok (by decide) _)
                      refine yG.iinc rfl (a := a2) rfl (L' := [(2, yI (a2 + 1)), (4, yI (1)), (3, yI (z4)), (0, yR k0), (1, yI (p1))]) rfl ?_
                      refine yG.goto rfl (t := 2) rfl ?_
                      exact yG.mono (yG.sub (i_2 (a2 + 1)  h89 A_h89   (by omega) (by omega) (by omega) (by omega) (by omega)) (ySub.cons rfl (ySub.cons rfl (ySub.cons rfl (ySub.nil))))) (by omega)
                  · have c83 : (1 : Int) = 0 := c83
                    exfalso; omega
        · have c6 : (z5 : Int) ≠ 0 := c6
          refine yG.load xik rfl (fun _ _ => rfl) (v := yI (p1)) rfl rfl ?_
          refine yG.load xik rfl (fun _ _ => rfl) (v := yI (a2)) rfl rfl ?_
          refine yG.bit32 rfl (fun _ _ => rfl) (fun z90 e_z90 l_z90 u_z90 => ?_)
          refine yG.num (c := 1) rfl (fun _ _ => rfl) (by decide) ?_
          refine yG.bit32 rfl (fun _ _ => rfl) (fun z91 e_z91 l_z91 u_z91 => ?_)
          have b_z91 : 0 ≤ z91 ∧ z91 ≤ 1 := by rw [e_z91]; exact yiand ⟨by decide, by decide⟩ (by decide)
          refine yG.num (c := 1) rfl (fun _ _ => rfl) (by decide) ?_
          refine yG.icmp rfl (t := 38) rfl ⟨by omega, by omega⟩ ⟨by omega, by omega⟩ (fun c92 => ?_) (fun c92 => ?_)
          · have c92 : (z91 : Int) ≠ 1 := c92
            refine yG.num (c := 0) rfl (fun _ _ => rfl) (by decide) ?_
            refine yG.goto rfl (t := 65) rfl ?_
            refine yG.store1 xik (L' := [(4, yI (0)), (3, yI (z4)), (0, yR k0), (1, yI (p1)), (2, yI (a2))]) rfl (fun _ _ => rfl) rfl rfl ?_
            refine yG.load xak rfl (fun _ _ => rfl) (v := yR k0) rfl rfl ?_
            refine yG.getO A_hq.1 (w_M_low W H_k0) rfl rfl (fun r93 H_r93 O_r93 q_r93 => ?_)
            refine yG.load xik rfl (fun _ _ => rfl) (v := yI (a2)) rfl rfl ?_
            refine yG.load xak rfl (fun _ _ => rfl) (v := yR k0) rfl rfl ?_
            refine yG.load xik rfl (fun _ _ => rfl) (v := yI (a2)) rfl rfl ?_
            refine yG.invV (rest := [yI (a2), yR r93]) A_hq.1 (bOb (d_M W) H_k0) rfl rfl rfl rfl (c_GModel_turns W d A_hq.1 H_k0 (a2) (by omega) (by omega)) (fun rv hp9 q9 => ?_)
            obtain ⟨⟨z94, rfl, l_z94, u_z94, R_z94⟩, e9⟩ := q9
            rw [e9]
            show yG _ _ _ _ _ _ _ _ _ _ (yI z94 :: [yI (a2), yR r93]) _
            refine yG.ifz rfl (t := 96) rfl ⟨by omega, by omega⟩ (fun c95 => ?_) (fun c95 => ?_)
            · have c95 : (z94 : Int) = 0 := c95
              refine yG.load xak rfl (fun _ _ => rfl) (v := yR k0) rfl rfl ?_
              refine yG.num (c := 3) rfl (fun _ _ => rfl) (by decide) ?_
              refine yG.load xik rfl (fun _ _ => rfl) (v := yI (z4)) rfl rfl ?_
              refine yG.num (c := 4) rfl (fun _ _ => rfl) (by decide) ?_
              refine yG.invV (rest := [yI (a2), yR r93]) A_hq.1 (bOb (d_M W) H_k0) rfl rfl rfl rfl (c_GModel_of_3_4 W (d + 1) A_hq.1 H_k0 (z4) (by omega) (by omega)) (fun rv hp9 q9 => ?_)
              obtain ⟨⟨z96, rfl, l_z96, u_z96, R_z96⟩, e9⟩ := q9
              rw [e9]
              show yG _ _ _ _ _ _ _ _ _ _ (yI z96 :: [yI (a2), yR r93]) _
              refine yG.iast A_hq.1 (v_M_low W H_r93) (W.2.1 _ _ H_r93 (by decide) (by decide)) rfl (by omega) (by omega) ⟨by omega, by omega⟩ (by omega) (by omega) (fun h97 T_h97 b_h97 f_h97 y_h97 => ?_)
              have A_h97 := A_hq.put T_h97 b_h97 f_h97 H_r93 (bAll_ok (by decide) _)
              refine yG.load xak rfl (fun _ _ => rfl) (v := yR k0) rfl rfl ?_
              refine yG.getO A_h97.1 (w_M_high W H_k0) rfl rfl (fun r98 H_r98 O_r98 q_r98 => ?_)
              refine yG.load xik rfl (fun _ _ => rfl) (v := yI (a2)) rfl rfl ?_
              refine yG.load xak rfl (fun _ _ => rfl) (v := yR k0) rfl rfl ?_
              refine yG.load xik rfl (fun _ _ => rfl) (v := yI (a2)) rfl rfl ?_
              refine yG.invV (rest := [yI (a2), yR r98]) A_h97.1 (bOb (d_M W) H_k0) rfl rfl rfl rfl (c_GModel_turns W d A_h97.1 H_k0 (a2) (by omega) (by omega)) (fun rv hp9 q9 => ?_)
              obtain ⟨⟨z99, rfl, l_z99, u_z99, R_z99⟩, e9⟩ := q9
              rw [e9]
              show yG _ _ _ _ _ _ _ _ _ _ (yI z99 :: [yI (a2), yR r98]) _
              refine yG.ifz rfl (t := 133) rfl ⟨by omega, by omega⟩ (fun c100 => ?_) (fun c100 => ?_)
              · have c100 : (z99 : Int) = 0 := c100
                refine yG.load xak rfl (fun _ _ => rfl) (v := yR k0) rfl rfl ?_
                refine yG.num (c := 3) rfl (fun _ _ => rfl) (by decide) ?_
                refine yG.load xik rfl (fun _ _ => rfl) (v := yI (z4)) rfl rfl ?_
                refine yG.num (c := 5) rfl (fun _ _ => rfl) (by decide) ?_
                refine yG.invV (rest := [yI (a2), yR r98]) A_h97.1 (bOb (d_M W) H_k0) rfl rfl rfl rfl (c_GModel_of_3_5 W (d + 1) A_h97.1 H_k0 (z4) (by omega) (by omega)) (fun rv hp9 q9 => ?_)
                obtain ⟨⟨z101, rfl, l_z101, u_z101, R_z101⟩, e9⟩ := q9
                rw [e9]
                show yG _ _ _ _ _ _ _ _ _ _ (yI z101 :: [yI (a2), yR r98]) _
                refine yG.iast A_h97.1 (v_M_high W H_r98) (W.2.1 _ _ H_r98 (by decide) (by decide)) rfl (by omega) (by omega) ⟨by omega, by omega⟩ (by omega) (by omega) (fun h102 T_h102 b_h102 f_h102 y_h102 => ?_)
                have A_h102 := A_h97.put T_h102 b_h102 f_h102 H_r98 (bAll_ok (by decide) _)
                refine yG.load xak rfl (fun _ _ => rfl) (v := yR k0) rfl rfl ?_
                refine yG.getO A_h102.1 (w_M_slope W H_k0) rfl rfl (fun r103 H_r103 O_r103 q_r103 => ?_)
                refine yG.load xik rfl (fun _ _ => rfl) (v := yI (a2)) rfl rfl ?_
                refine yG.load xik rfl (fun _ _ => rfl) (v := yI (0)) rfl rfl ?_
                refine yG.ifz rfl (t := 162) rfl ⟨by omega, by omega⟩ (fun c104 => ?_) (fun c104 => ?_)
                · have c104 : (0 : Int) = 0 := c104
                  refine yG.load xak rfl (fun _ _ => rfl) (v := yR k0) rfl rfl ?_
                  refine yG.num (c := 3) rfl (fun _ _ => rfl) (by decide) ?_
                  refine yG.load xik rfl (fun _ _ => rfl) (v := yI (z4)) rfl rfl ?_
                  refine yG.num (c := 6) rfl (fun _ _ => rfl) (by decide) ?_
                  refine yG.invV (rest := [yI (a2), yR r103]) A_h102.1 (bOb (d_M W) H_k0) rfl rfl rfl rfl (c_GModel_of_3_6 W (d + 1) A_h102.1 H_k0 (z4) (by omega) (by omega)) (fun rv hp9 q9 => ?_)
                  obtain ⟨⟨z105, rfl, l_z105, u_z105, R_z105⟩, e9⟩ := q9
                  rw [e9]
                  show yG _ _ _ _ _ _ _ _ _ _ (yI z105 :: [yI (a2), yR r103]) _
                  refine yG.iast A_h102.1 (v_M_slope W H_r103) (W.2.1 _ _ H_r103 (by decide) (by decide)) rfl (by omega) (by omega) ⟨by omega, by omega⟩ (by omega) (by omega) (fun h106 T_h106 b_h106 f_h106 y_h106 => ?_)
                  have A_h106 := A_h102.put T_h106 b_h106 f_h106 H_r103 (bAll_ok (by decide) _)
                  refine yG.iinc rfl (a := a2) rfl (L' := [(2, yI (a2 + 1)), (4, yI (0)), (3, yI (z4)), (0, yR k0), (1, yI (p1))]) rfl ?_
                  refine yG.goto rfl (t := 2) rfl ?_
                  exact yG.mono (yG.sub (i_2 (a2 + 1)  h106 A_h106   (by omega) (by omega) (by omega) (by omega) (by omega)) (ySub.cons rfl (ySub.cons rfl (ySub.cons rfl (ySub.nil))))) (by omega)
                · have c104 : (0 : Int) ≠ 0 := c104
                  exfalso; omega
              · have c100 : (z99 : Int) ≠ 0 := c100
                refine yG.load xik rfl (fun _ _ => rfl) (v := yI (0)) rfl rfl ?_
                refine yG.ifz rfl (t := 133) rfl ⟨by omega, by omega⟩ (fun c107 => ?_) (fun c107 => ?_)
                · have c107 : (0 : Int) ≠ 0 := c107
                  exfalso; omega
                · have c107 : (0 : Int) = 0 := c107
                  refine yG.load xak rfl (fun _ _ => rfl) (v := yR k0) rfl rfl ?_
                  refine yG.num (c := 3) rfl (fun _ _ => rfl) (by decide) ?_
                  refine yG.load xik rfl (fun _ _ => rfl) (v := yI (z4)) rfl rfl ?_
                  refine yG.num (c := 7) rfl (fun _ _ => rfl) (by decide) ?_
                  refine yG.invV (rest := [yI (a2), yR r98]) A_h97.1 (bOb (d_M W) H_k0) rfl rfl rfl rfl (c_GModel_of_3_7 W (d + 1) A_h97.1 H_k0 (z4) (by omega) (by omega)) (fun rv hp9 q9 => ?_)
                  obtain ⟨⟨z108, rfl, l_z108, u_z108, R_z108⟩, e9⟩ := q9
                  rw [e9]
                  show yG _ _ _ _ _ _ _ _ _ _ (yI z108 :: [yI (a2), yR r98]) _
                  refine yG.goto rfl (t := 140) rfl ?_
                  refine yG.iast A_h97.1 (v_M_high W H_r98) (W.2.1 _ _ H_r98 (by decide) (by decide)) rfl (by omega) (by omega) ⟨by omega, by omega⟩ (by omega) (by omega) (fun h109 T_h109 b_h109 f_h109 y_h109 => ?_)
                  have A_h109 := A_h97.put T_h109 b_h109 f_h109 H_r98 (bAll_ok (by decide) _)
                  refine yG.load xak rfl (fun _ _ => rfl) (v := yR k0) rfl rfl ?_
                  refine yG.getO A_h109.1 (w_M_slope W H_k0) rfl rfl (fun r110 H_r110 O_r110 q_r110 => ?_)
                  refine yG.load xik rfl (fun _ _ => rfl) (v := yI (a2)) rfl rfl ?_
                  refine yG.load xik rfl (fun _ _ => rfl) (v := yI (0)) rfl rfl ?_
                  refine yG.ifz rfl (t := 162) rfl ⟨by omega, by omega⟩ (fun c111 => ?_) (fun c111 => ?_)
                  · have c111 : (0 : Int) = 0 := c111
                    refine yG.load xak rfl (fun _ _ => rfl) (v := yR k0) rfl rfl ?_
                    refine yG.num (c := 3) rfl (fun _ _ => rfl) (by decide) ?_
                    refine yG.load xik rfl (fun _ _ => rfl) (v := yI (z4)) rfl rfl ?_
                    refine yG.num (c := 6) rfl (fun _ _ => rfl) (by decide) ?_
                    refine yG.invV (rest := [yI (a2), yR r110]) A_h109.1 (bOb (d_M W) H_k0) rfl rfl rfl rfl (c_GModel_of_3_6 W (d + 1) A_h109.1 H_k0 (z4) (by omega) (by omega)) (fun rv hp9 q9 => ?_)
                    obtain ⟨⟨z112, rfl, l_z112, u_z112, R_z112⟩, e9⟩ := q9
                    rw [e9]
                    show yG _ _ _ _ _ _ _ _ _ _ (yI z112 :: [yI (a2), yR r110]) _
                    refine yG.iast A_h109.1 (v_M_slope W H_r110) (W.2.1 _ _ H_r110 (by decide) (by decide)) rfl (by omega) (by omega) ⟨by omega, by omega⟩ (by omega) (by omega) (fun h113 T_h113 b_h113 f_h113 y_h113 => ?_)
                    have A_h113 := A_h109.put T_h113 b_h113 f_h113 H_r110 (bAll_ok (by decide) _)
                    refine yG.iinc rfl (a := a2) rfl (L' := [(2, yI (a2 + 1)), (4, yI (0)), (3, yI (z4)), (0, yR k0), (1, yI (p1))]) rfl ?_
                    refine yG.goto rfl (t := 2) rfl ?_
                    exact yG.mono (yG.sub (i_2 (a2 + 1)  h113 A_h113   (by omega) (by omega) (by omega) (by omega) (by omega)) (ySub.cons rfl (ySub.cons rfl (ySub.cons rfl (ySub.nil))))) (by omega)
                  · have c111 : (0 : Int) ≠ 0 := c111
                    exfalso; omega
            · have c95 : (z94 : Int) ≠ 0 := c95
              refine yG.load xik rfl (fun _ _ => rfl) (v := yI (0)) rfl rfl ?_
              refine yG.ifz rfl (t := 96) rfl ⟨by omega, by omega⟩ (fun c114 => ?_) (fun c114 => ?_)
              · have c114 : (0 : Int) = 0 := c114
                refine yG.load xak rfl (fun _ _ => rfl) (v := yR k0) rfl rfl ?_
                refine yG.num (c := 3) rfl (fun _ _ => rfl) (by decide) ?_
                refine yG.load xik rfl (fun _ _ => rfl) (v := yI (z4)) rfl rfl ?_
                refine yG.num (c := 4) rfl (fun _ _ => rfl) (by decide) ?_
                refine yG.invV (rest := [yI (a2), yR r93]) A_hq.1 (bOb (d_M W) H_k0) rfl rfl rfl rfl (c_GModel_of_3_4 W (d + 1) A_hq.1 H_k0 (z4) (by omega) (by omega)) (fun rv hp9 q9 => ?_)
                obtain ⟨⟨z115, rfl, l_z115, u_z115, R_z115⟩, e9⟩ := q9
                rw [e9]
                show yG _ _ _ _ _ _ _ _ _ _ (yI z115 :: [yI (a2), yR r93]) _
                refine yG.iast A_hq.1 (v_M_low W H_r93) (W.2.1 _ _ H_r93 (by decide) (by decide)) rfl (by omega) (by omega) ⟨by omega, by omega⟩ (by omega) (by omega) (fun h116 T_h116 b_h116 f_h116 y_h116 => ?_)
                have A_h116 := A_hq.put T_h116 b_h116 f_h116 H_r93 (bAll_ok (by decide) _)
                refine yG.load xak rfl (fun _ _ => rfl) (v := yR k0) rfl rfl ?_
                refine yG.getO A_h116.1 (w_M_high W H_k0) rfl rfl (fun r117 H_r117 O_r117 q_r117 => ?_)
                refine yG.load xik rfl (fun _ _ => rfl) (v := yI (a2)) rfl rfl ?_
                refine yG.load xak rfl (fun _ _ => rfl) (v := yR k0) rfl rfl ?_
                refine yG.load xik rfl (fun _ _ => rfl) (v := yI (a2)) rfl rfl ?_
                refine yG.invV (rest := [yI (a2), yR r117]) A_h116.1 (bOb (d_M W) H_k0) rfl rfl rfl rfl (c_GModel_turns W d A_h116.1 H_k0 (a2) (by omega) (by omega)) (fun rv hp9 q9 => ?_)
                obtain ⟨⟨z118, rfl, l_z118, u_z118, R_z118⟩, e9⟩ := q9
                rw [e9]
                show yG _ _ _ _ _ _ _ _ _ _ (yI z118 :: [yI (a2), yR r117]) _
                refine yG.ifz rfl (t := 133) rfl ⟨by omega, by omega⟩ (fun c119 => ?_) (fun c119 => ?_)
                · have c119 : (z118 : Int) = 0 := c119
                  refine yG.load xak rfl (fun _ _ => rfl) (v := yR k0) rfl rfl ?_
                  refine yG.num (c := 3) rfl (fun _ _ => rfl) (by decide) ?_
                  refine yG.load xik rfl (fun _ _ => rfl) (v := yI (z4)) rfl rfl ?_
                  refine yG.num (c := 5) rfl (fun _ _ => rfl) (by decide) ?_
                  refine yG.invV (rest := [yI (a2), yR r117]) A_h116.1 (bOb (d_M W) H_k0) rfl rfl rfl rfl (c_GModel_of_3_5 W (d + 1) A_h116.1 H_k0 (z4) (by omega) (by omega)) (fun rv hp9 q9 => ?_)
                  obtain ⟨⟨z120, rfl, l_z120, u_z120, R_z120⟩, e9⟩ := q9
                  rw [e9]
                  show yG _ _ _ _ _ _ _ _ _ _ (yI z120 :: [yI (a2), yR r117]) _
                  refine yG.iast A_h116.1 (v_M_high W H_r117) (W.2.1 _ _ H_r117 (by decide) (by decide)) rfl (by omega) (by omega) ⟨by omega, by omega⟩ (by omega) (by omega) (fun h121 T_h121 b_h121 f_h121 y_h121 => ?_)
                  have A_h121 := A_h116.put T_h121 b_h121 f_h121 H_r117 (bAll_ok (by decide) _)
                  refine yG.load xak rfl (fun _ _ => rfl) (v := yR k0) rfl rfl ?_
                  refine yG.getO A_h121.1 (w_M_slope W H_k0) rfl rfl (fun r122 H_r122 O_r122 q_r122 => ?_)
                  refine yG.load xik rfl (fun _ _ => rfl) (v := yI (a2)) rfl rfl ?_
                  refine yG.load xik rfl (fun _ _ => rfl) (v := yI (0)) rfl rfl ?_
                  refine yG.ifz rfl (t := 162) rfl ⟨by omega, by omega⟩ (fun c123 => ?_) (fun c123 => ?_)
                  · have c123 : (0 : Int) = 0 := c123
                    refine yG.load xak rfl (fun _ _ => rfl) (v := yR k0) rfl rfl ?_
                    refine yG.num (c := 3) rfl (fun _ _ => rfl) (by decide) ?_
                    refine yG.load xik rfl (fun _ _ => rfl) (v := yI (z4)) rfl rfl ?_
                    refine yG.num (c := 6) rfl (fun _ _ => rfl) (by decide) ?_
                    refine yG.invV (rest := [yI (a2), yR r122]) A_h121.1 (bOb (d_M W) H_k0) rfl rfl rfl rfl (c_GModel_of_3_6 W (d + 1) A_h121.1 H_k0 (z4) (by omega) (by omega)) (fun rv hp9 q9 => ?_)
                    obtain ⟨⟨z124, rfl, l_z124, u_z124, R_z124⟩, e9⟩ := q9
                    rw [e9]
                    show yG _ _ _ _ _ _ _ _ _ _ (yI z124 :: [yI (a2), yR r122]) _
                    refine yG.iast A_h121.1 (v_M_slope W H_r122) (W.2.1 _ _ H_r122 (by decide) (by decide)) rfl (by omega) (by omega) ⟨by omega, by omega⟩ (by omega) (by omega) (fun h125 T_h125 b_h125 f_h125 y_h125 => ?_)
                    have A_h125 := A_h121.put T_h125 b_h125 f_h125 H_r122 (bAll_ok (by decide) _)
                    refine yG.iinc rfl (a := a2) rfl (L' := [(2, yI (a2 + 1)), (4, yI (0)), (3, yI (z4)), (0, yR k0), (1, yI (p1))]) rfl ?_
                    refine yG.goto rfl (t := 2) rfl ?_
                    exact yG.mono (yG.sub (i_2 (a2 + 1)  h125 A_h125   (by omega) (by omega) (by omega) (by omega) (by omega)) (ySub.cons rfl (ySub.cons rfl (ySub.cons rfl (ySub.nil))))) (by omega)
                  · have c123 : (0 : Int) ≠ 0 := c123
                    exfalso; omega
                · have c119 : (z118 : Int) ≠ 0 := c119
                  refine yG.load xik rfl (fun _ _ => rfl) (v := yI (0)) rfl rfl ?_
                  refine yG.ifz rfl (t := 133) rfl ⟨by omega, by omega⟩ (fun c126 => ?_) (fun c126 => ?_)
                  · have c126 : (0 : Int) ≠ 0 := c126
                    exfalso; omega
                  · have c126 : (0 : Int) = 0 := c126
                    refine yG.load xak rfl (fun _ _ => rfl) (v := yR k0) rfl rfl ?_
                    refine yG.num (c := 3) rfl (fun _ _ => rfl) (by decide) ?_
                    refine yG.load xik rfl (fun _ _ => rfl) (v := yI (z4)) rfl rfl ?_
                    refine yG.num (c := 7) rfl (fun _ _ => rfl) (by decide) ?_
                    refine yG.invV (rest := [yI (a2), yR r117]) A_h116.1 (bOb (d_M W) H_k0) rfl rfl rfl rfl (c_GModel_of_3_7 W (d + 1) A_h116.1 H_k0 (z4) (by omega) (by omega)) (fun rv hp9 q9 => ?_)
                    obtain ⟨⟨z127, rfl, l_z127, u_z127, R_z127⟩, e9⟩ := q9
                    rw [e9]
                    show yG _ _ _ _ _ _ _ _ _ _ (yI z127 :: [yI (a2), yR r117]) _
                    refine yG.goto rfl (t := 140) rfl ?_
                    refine yG.iast A_h116.1 (v_M_high W H_r117) (W.2.1 _ _ H_r117 (by decide) (by decide)) rfl (by omega) (by omega) ⟨by omega, by omega⟩ (by omega) (by omega) (fun h128 T_h128 b_h128 f_h128 y_h128 => ?_)
                    have A_h128 := A_h116.put T_h128 b_h128 f_h128 H_r117 (bAll_ok (by decide) _)
                    refine yG.load xak rfl (fun _ _ => rfl) (v := yR k0) rfl rfl ?_
                    refine yG.getO A_h128.1 (w_M_slope W H_k0) rfl rfl (fun r129 H_r129 O_r129 q_r129 => ?_)
                    refine yG.load xik rfl (fun _ _ => rfl) (v := yI (a2)) rfl rfl ?_
                    refine yG.load xik rfl (fun _ _ => rfl) (v := yI (0)) rfl rfl ?_
                    refine yG.ifz rfl (t := 162) rfl ⟨by omega, by omega⟩ (fun c130 => ?_) (fun c130 => ?_)
                    · have c130 : (0 : Int) = 0 := c130
                      refine yG.load xak rfl (fun _ _ => rfl) (v := yR k0) rfl rfl ?_
                      refine yG.num (c := 3) rfl (fun _ _ => rfl) (by decide) ?_
                      refine yG.load xik rfl (fun _ _ => rfl) (v := yI (z4)) rfl rfl ?_
                      refine yG.num (c := 6) rfl (fun _ _ => rfl) (by decide) ?_
                      refine yG.invV (rest := [yI (a2), yR r129]) A_h128.1 (bOb (d_M W) H_k0) rfl rfl rfl rfl (c_GModel_of_3_6 W (d + 1) A_h128.1 H_k0 (z4) (by omega) (by omega)) (fun rv hp9 q9 => ?_)
                      obtain ⟨⟨z131, rfl, l_z131, u_z131, R_z131⟩, e9⟩ := q9
                      rw [e9]
                      show yG _ _ _ _ _ _ _ _ _ _ (yI z131 :: [yI (a2), yR r129]) _
                      refine yG.iast A_h128.1 (v_M_slope W H_r129) (W.2.1 _ _ H_r129 (by decide) (by decide)) rfl (by omega) (by omega) ⟨by omega, by omega⟩ (by omega) (by omega) (fun h132 T_h132 b_h132 f_h132 y_h132 => ?_)
                      have A_h132 := A_h128.put T_h132 b_h132 f_h132 H_r129 (bAll_ok (by decide) _)
                      refine yG.iinc rfl (a := a2) rfl (L' := [(2, yI (a2 + 1)), (4, yI (0)), (3, yI (z4)), (0, yR k0), (1, yI (p1))]) rfl ?_
                      refine yG.goto rfl (t := 2) rfl ?_
                      exact yG.mono (yG.sub (i_2 (a2 + 1)  h132 A_h132   (by omega) (by omega) (by omega) (by omega) (by omega)) (ySub.cons rfl (ySub.cons rfl (ySub.cons rfl (ySub.nil))))) (by omega)
                    · have c130 : (0 : Int) ≠ 0 := c130
                      exfalso; omega
              · have c114 : (0 : Int) ≠ 0 := c114
                exfalso; omega
          · have c92 : (z91 : Int) = 1 := c92
            refine yG.num (c := 1) rfl (fun _ _ => rfl) (by decide) ?_
            refine yG.goto rfl (t := 65) rfl ?_
            refine yG.store1 xik (L' := [(4, yI (1)), (3, yI (z4)), (0, yR k0), (1, yI (p1)), (2, yI (a2))]) rfl (fun _ _ => rfl) rfl rfl ?_
            refine yG.load xak rfl (fun _ _ => rfl) (v := yR k0) rfl rfl ?_
            refine yG.getO A_hq.1 (w_M_low W H_k0) rfl rfl (fun r133 H_r133 O_r133 q_r133 => ?_)
            refine yG.load xik rfl (fun _ _ => rfl) (v := yI (a2)) rfl rfl ?_
            refine yG.load xak rfl (fun _ _ => rfl) (v := yR k0) rfl rfl ?_
            refine yG.load xik rfl (fun _ _ => rfl) (v := yI (a2)) rfl rfl ?_
            refine yG.invV (rest := [yI (a2), yR r133]) A_hq.1 (bOb (d_M W) H_k0) rfl rfl rfl rfl (c_GModel_turns W d A_hq.1 H_k0 (a2) (by omega) (by omega)) (fun rv hp9 q9 => ?_)
            obtain ⟨⟨z134, rfl, l_z134, u_z134, R_z134⟩, e9⟩ := q9
            rw [e9]
            show yG _ _ _ _ _ _ _ _ _ _ (yI z134 :: [yI (a2), yR r133]) _
            refine yG.ifz rfl (t := 96) rfl ⟨by omega, by omega⟩ (fun c135 => ?_) (fun c135 => ?_)
            · have c135 : (z134 : Int) = 0 := c135
              refine yG.load xak rfl (fun _ _ => rfl) (v := yR k0) rfl rfl ?_
              refine yG.num (c := 3) rfl (fun _ _ => rfl) (by decide) ?_
              refine yG.load xik rfl (fun _ _ => rfl) (v := yI (z4)) rfl rfl ?_
              refine yG.num (c := 4) rfl (fun _ _ => rfl) (by decide) ?_
              refine yG.invV (rest := [yI (a2), yR r133]) A_hq.1 (bOb (d_M W) H_k0) rfl rfl rfl rfl (c_GModel_of_3_4 W (d + 1) A_hq.1 H_k0 (z4) (by omega) (by omega)) (fun rv hp9 q9 => ?_)
              obtain ⟨⟨z136, rfl, l_z136, u_z136, R_z136⟩, e9⟩ := q9
              rw [e9]
              show yG _ _ _ _ _ _ _ _ _ _ (yI z136 :: [yI (a2), yR r133]) _
              refine yG.iast A_hq.1 (v_M_low W H_r133) (W.2.1 _ _ H_r133 (by decide) (by decide)) rfl (by omega) (by omega) ⟨by omega, by omega⟩ (by omega) (by omega) (fun h137 T_h137 b_h137 f_h137 y_h137 => ?_)
              have A_h137 := A_hq.put T_h137 b_h137 f_h137 H_r133 (bAll_ok (by decide) _)
              refine yG.load xak rfl (fun _ _ => rfl) (v := yR k0) rfl rfl ?_
              refine yG.getO A_h137.1 (w_M_high W H_k0) rfl rfl (fun r138 H_r138 O_r138 q_r138 => ?_)
              refine yG.load xik rfl (fun _ _ => rfl) (v := yI (a2)) rfl rfl ?_
              refine yG.load xak rfl (fun _ _ => rfl) (v := yR k0) rfl rfl ?_
              refine yG.load xik rfl (fun _ _ => rfl) (v := yI (a2)) rfl rfl ?_
              refine yG.invV (rest := [yI (a2), yR r138]) A_h137.1 (bOb (d_M W) H_k0) rfl rfl rfl rfl (c_GModel_turns W d A_h137.1 H_k0 (a2) (by omega) (by omega)) (fun rv hp9 q9 => ?_)
              obtain ⟨⟨z139, rfl, l_z139, u_z139, R_z139⟩, e9⟩ := q9
              rw [e9]
              show yG _ _ _ _ _ _ _ _ _ _ (yI z139 :: [yI (a2), yR r138]) _
              refine yG.ifz rfl (t := 133) rfl ⟨by omega, by omega⟩ (fun c140 => ?_) (fun c140 => ?_)
              · have c140 : (z139 : Int) = 0 := c140
                refine yG.load xak rfl (fun _ _ => rfl) (v := yR k0) rfl rfl ?_
                refine yG.num (c := 3) rfl (fun _ _ => rfl) (by decide) ?_
                refine yG.load xik rfl (fun _ _ => rfl) (v := yI (z4)) rfl rfl ?_
                refine yG.num (c := 5) rfl (fun _ _ => rfl) (by decide) ?_
                refine yG.invV (rest := [yI (a2), yR r138]) A_h137.1 (bOb (d_M W) H_k0) rfl rfl rfl rfl (c_GModel_of_3_5 W (d + 1) A_h137.1 H_k0 (z4) (by omega) (by omega)) (fun rv hp9 q9 => ?_)
                obtain ⟨⟨z141, rfl, l_z141, u_z141, R_z141⟩, e9⟩ := q9
                rw [e9]
                show yG _ _ _ _ _ _ _ _ _ _ (yI z141 :: [yI (a2), yR r138]) _
                refine yG.iast A_h137.1 (v_M_high W H_r138) (W.2.1 _ _ H_r138 (by decide) (by decide)) rfl (by omega) (by omega) ⟨by omega, by omega⟩ (by omega) (by omega) (fun h142 T_h142 b_h142 f_h142 y_h142 => ?_)
                have A_h142 := A_h137.put T_h142 b_h142 f_h142 H_r138 (bAll_ok (by decide) _)
                refine yG.load xak rfl (fun _ _ => rfl) (v := yR k0) rfl rfl ?_
                refine yG.getO A_h142.1 (w_M_slope W H_k0) rfl rfl (fun r143 H_r143 O_r143 q_r143 => ?_)
                refine yG.load xik rfl (fun _ _ => rfl) (v := yI (a2)) rfl rfl ?_
                refine yG.load xik rfl (fun _ _ => rfl) (v := yI (1)) rfl rfl ?_
                refine yG.ifz rfl (t := 162) rfl ⟨by omega, by omega⟩ (fun c144 => ?_) (fun c144 => ?_)
                · have c144 : (1 : Int) = 0 := c144
                  exfalso; omega
                · have c144 : (1 : Int) ≠ 0 := c144
                  refine yG.load xak rfl (fun _ _ => rfl) (v := yR k0) rfl rfl ?_
                  refine yG.num (c := 3) rfl (fun _ _ => rfl) (by decide) ?_
                  refine yG.load xik rfl (fun _ _ => rfl) (v := yI (z4)) rfl rfl ?_
                  refine yG.num (c := 8) rfl (fun _ _ => rfl) (by decide) ?_
                  refine yG.invV (rest := [yI (a2), yR r143]) A_h142.1 (bOb (d_M W) H_k0) rfl rfl rfl rfl (c_GModel_of_3_8 W (d + 1) A_h142.1 H_k0 (z4) (by omega) (by omega)) (fun rv hp9 q9 => ?_)
                  obtain ⟨⟨z145, rfl, l_z145, u_z145, R_z145⟩, e9⟩ := q9
                  rw [e9]
                  show yG _ _ _ _ _ _ _ _ _ _ (yI z145 :: [yI (a2), yR r143]) _
                  refine yG.goto rfl (t := 170) rfl ?_
                  refine yG.iast A_h142.1 (v_M_slope W H_r143) (W.2.1 _ _ H_r143 (by decide) (by decide)) rfl (by omega) (by omega) ⟨by omega, by omega⟩ (by omega) (by omega) (fun h146 T_h146 b_h146 f_h146 y_h146 => ?_)
                  have A_h146 := A_h142.put T_h146 b_h146 f_h146 H_r143 (bAll_ok (by decide) _)
                  refine yG.iinc rfl (a := a2) rfl (L' := [(2, yI (a2 + 1)), (4, yI (1)), (3, yI (z4)), (0, yR k0), (1, yI (p1))]) rfl ?_
                  refine yG.goto rfl (t := 2) rfl ?_
                  exact yG.mono (yG.sub (i_2 (a2 + 1)  h146 A_h146   (by omega) (by omega) (by omega) (by omega) (by omega)) (ySub.cons rfl (ySub.cons rfl (ySub.cons rfl (ySub.nil))))) (by omega)
              · have c140 : (z139 : Int) ≠ 0 := c140
                refine yG.load xik rfl (fun _ _ => rfl) (v := yI (1)) rfl rfl ?_
                refine yG.ifz rfl (t := 133) rfl ⟨by omega, by omega⟩ (fun c147 => ?_) (fun c147 => ?_)
                · have c147 : (1 : Int) ≠ 0 := c147
                  refine yG.load xak rfl (fun _ _ => rfl) (v := yR k0) rfl rfl ?_
                  refine yG.num (c := 3) rfl (fun _ _ => rfl) (by decide) ?_
                  refine yG.load xik rfl (fun _ _ => rfl) (v := yI (z4)) rfl rfl ?_
                  refine yG.num (c := 5) rfl (fun _ _ => rfl) (by decide) ?_
                  refine yG.invV (rest := [yI (a2), yR r138]) A_h137.1 (bOb (d_M W) H_k0) rfl rfl rfl rfl (c_GModel_of_3_5 W (d + 1) A_h137.1 H_k0 (z4) (by omega) (by omega)) (fun rv hp9 q9 => ?_)
                  obtain ⟨⟨z148, rfl, l_z148, u_z148, R_z148⟩, e9⟩ := q9
                  rw [e9]
                  show yG _ _ _ _ _ _ _ _ _ _ (yI z148 :: [yI (a2), yR r138]) _
                  refine yG.iast A_h137.1 (v_M_high W H_r138) (W.2.1 _ _ H_r138 (by decide) (by decide)) rfl (by omega) (by omega) ⟨by omega, by omega⟩ (by omega) (by omega) (fun h149 T_h149 b_h149 f_h149 y_h149 => ?_)
                  have A_h149 := A_h137.put T_h149 b_h149 f_h149 H_r138 (bAll_ok (by decide) _)
                  refine yG.load xak rfl (fun _ _ => rfl) (v := yR k0) rfl rfl ?_
                  refine yG.getO A_h149.1 (w_M_slope W H_k0) rfl rfl (fun r150 H_r150 O_r150 q_r150 => ?_)
                  refine yG.load xik rfl (fun _ _ => rfl) (v := yI (a2)) rfl rfl ?_
                  refine yG.load xik rfl (fun _ _ => rfl) (v := yI (1)) rfl rfl ?_
                  refine yG.ifz rfl (t := 162) rfl ⟨by omega, by omega⟩ (fun c151 => ?_) (fun c151 => ?_)
                  · have c151 : (1 : Int) = 0 := c151
                    exfalso; omega
                  · have c151 : (1 : Int) ≠ 0 := c151
                    refine yG.load xak rfl (fun _ _ => rfl) (v := yR k0) rfl rfl ?_
                    refine yG.num (c := 3) rfl (fun _ _ => rfl) (by decide) ?_
                    refine yG.load xik rfl (fun _ _ => rfl) (v := yI (z4)) rfl rfl ?_
                    refine yG.num (c := 8) rfl (fun _ _ => rfl) (by decide) ?_
                    refine yG.invV (rest := [yI (a2), yR r150]) A_h149.1 (bOb (d_M W) H_k0) rfl rfl rfl rfl (c_GModel_of_3_8 W (d + 1) A_h149.1 H_k0 (z4) (by omega) (by omega)) (fun rv hp9 q9 => ?_)
                    obtain ⟨⟨z152, rfl, l_z152, u_z152, R_z152⟩, e9⟩ := q9
                    rw [e9]
                    show yG _ _ _ _ _ _ _ _ _ _ (yI z152 :: [yI (a2), yR r150]) _
                    refine yG.goto rfl (t := 170) rfl ?_
                    refine yG.iast A_h149.1 (v_M_slope W H_r150) (W.2.1 _ _ H_r150 (by decide) (by decide)) rfl (by omega) (by omega) ⟨by omega, by omega⟩ (by omega) (by omega) (fun h153 T_h153 b_h153 f_h153 y_h153 => ?_)
                    have A_h153 := A_h149.put T_h153 b_h153 f_h153 H_r150 (bAll_ok (by decide) _)
                    refine yG.iinc rfl (a := a2) rfl (L' := [(2, yI (a2 + 1)), (4, yI (1)), (3, yI (z4)), (0, yR k0), (1, yI (p1))]) rfl ?_
                    refine yG.goto rfl (t := 2) rfl ?_
                    exact yG.mono (yG.sub (i_2 (a2 + 1)  h153 A_h153   (by omega) (by omega) (by omega) (by omega) (by omega)) (ySub.cons rfl (ySub.cons rfl (ySub.cons rfl (ySub.nil))))) (by omega)
                · have c147 : (1 : Int) = 0 := c147
                  exfalso; omega
            · have c135 : (z134 : Int) ≠ 0 := c135
              refine yG.load xik rfl (fun _ _ => rfl) (v := yI (1)) rfl rfl ?_
              refine yG.ifz rfl (t := 96) rfl ⟨by omega, by omega⟩ (fun c154 => ?_) (fun c154 => ?_)
              · have c154 : (1 : Int) = 0 := c154
                exfalso; omega
              · have c154 : (1 : Int) ≠ 0 := c154
                refine yG.load xak rfl (fun _ _ => rfl) (v := yR k0) rfl rfl ?_
                refine yG.num (c := 3) rfl (fun _ _ => rfl) (by decide) ?_
                refine yG.load xik rfl (fun _ _ => rfl) (v := yI (z4)) rfl rfl ?_
                refine yG.num (c := 7) rfl (fun _ _ => rfl) (by decide) ?_
                refine yG.invV (rest := [yI (a2), yR r133]) A_hq.1 (bOb (d_M W) H_k0) rfl rfl rfl rfl (c_GModel_of_3_7 W (d + 1) A_hq.1 H_k0 (z4) (by omega) (by omega)) (fun rv hp9 q9 => ?_)
                obtain ⟨⟨z155, rfl, l_z155, u_z155, R_z155⟩, e9⟩ := q9
                rw [e9]
                show yG _ _ _ _ _ _ _ _ _ _ (yI z155 :: [yI (a2), yR r133]) _
                refine yG.goto rfl (t := 103) rfl ?_
                refine yG.iast A_hq.1 (v_M_low W H_r133) (W.2.1 _ _ H_r133 (by decide) (by decide)) rfl (by omega) (by omega) ⟨by omega, by omega⟩ (by omega) (by omega) (fun h156 T_h156 b_h156 f_h156 y_h156 => ?_)
                have A_h156 := A_hq.put T_h156 b_h156 f_h156 H_r133 (bAll_ok (by decide) _)
                refine yG.load xak rfl (fun _ _ => rfl) (v := yR k0) rfl rfl ?_
                refine yG.getO A_h156.1 (w_M_high W H_k0) rfl rfl (fun r157 H_r157 O_r157 q_r157 => ?_)
                refine yG.load xik rfl (fun _ _ => rfl) (v := yI (a2)) rfl rfl ?_
                refine yG.load xak rfl (fun _ _ => rfl) (v := yR k0) rfl rfl ?_
                refine yG.load xik rfl (fun _ _ => rfl) (v := yI (a2)) rfl rfl ?_
                refine yG.invV (rest := [yI (a2), yR r157]) A_h156.1 (bOb (d_M W) H_k0) rfl rfl rfl rfl (c_GModel_turns W d A_h156.1 H_k0 (a2) (by omega) (by omega)) (fun rv hp9 q9 => ?_)
                obtain ⟨⟨z158, rfl, l_z158, u_z158, R_z158⟩, e9⟩ := q9
                rw [e9]
                show yG _ _ _ _ _ _ _ _ _ _ (yI z158 :: [yI (a2), yR r157]) _
                refine yG.ifz rfl (t := 133) rfl ⟨by omega, by omega⟩ (fun c159 => ?_) (fun c159 => ?_)
                · have c159 : (z158 : Int) = 0 := c159
                  refine yG.load xak rfl (fun _ _ => rfl) (v := yR k0) rfl rfl ?_
                  refine yG.num (c := 3) rfl (fun _ _ => rfl) (by decide) ?_
                  refine yG.load xik rfl (fun _ _ => rfl) (v := yI (z4)) rfl rfl ?_
                  refine yG.num (c := 5) rfl (fun _ _ => rfl) (by decide) ?_
                  refine yG.invV (rest := [yI (a2), yR r157]) A_h156.1 (bOb (d_M W) H_k0) rfl rfl rfl rfl (c_GModel_of_3_5 W (d + 1) A_h156.1 H_k0 (z4) (by omega) (by omega)) (fun rv hp9 q9 => ?_)
                  obtain ⟨⟨z160, rfl, l_z160, u_z160, R_z160⟩, e9⟩ := q9
                  rw [e9]
                  show yG _ _ _ _ _ _ _ _ _ _ (yI z160 :: [yI (a2), yR r157]) _
                  refine yG.iast A_h156.1 (v_M_high W H_r157) (W.2.1 _ _ H_r157 (by decide) (by decide)) rfl (by omega) (by omega) ⟨by omega, by omega⟩ (by omega) (by omega) (fun h161 T_h161 b_h161 f_h161 y_h161 => ?_)
                  have A_h161 := A_h156.put T_h161 b_h161 f_h161 H_r157 (bAll_ok (by decide) _)
                  refine yG.load xak rfl (fun _ _ => rfl) (v := yR k0) rfl rfl ?_
                  refine yG.getO A_h161.1 (w_M_slope W H_k0) rfl rfl (fun r162 H_r162 O_r162 q_r162 => ?_)
                  refine yG.load xik rfl (fun _ _ => rfl) (v := yI (a2)) rfl rfl ?_
                  refine yG.load xik rfl (fun _ _ => rfl) (v := yI (1)) rfl rfl ?_
                  refine yG.ifz rfl (t := 162) rfl ⟨by omega, by omega⟩ (fun c163 => ?_) (fun c163 => ?_)
                  · have c163 : (1 : Int) = 0 := c163
                    exfalso; omega
                  · have c163 : (1 : Int) ≠ 0 := c163
                    refine yG.load xak rfl (fun _ _ => rfl) (v := yR k0) rfl rfl ?_
                    refine yG.num (c := 3) rfl (fun _ _ => rfl) (by decide) ?_
                    refine yG.load xik rfl (fun _ _ => rfl) (v := yI (z4)) rfl rfl ?_
                    refine yG.num (c := 8) rfl (fun _ _ => rfl) (by decide) ?_
                    refine yG.invV (rest := [yI (a2), yR r162]) A_h161.1 (bOb (d_M W) H_k0) rfl rfl rfl rfl (c_GModel_of_3_8 W (d + 1) A_h161.1 H_k0 (z4) (by omega) (by omega)) (fun rv hp9 q9 => ?_)
                    obtain ⟨⟨z164, rfl, l_z164, u_z164, R_z164⟩, e9⟩ := q9
                    rw [e9]
                    show yG _ _ _ _ _ _ _ _ _ _ (yI z164 :: [yI (a2), yR r162]) _
                    refine yG.goto rfl (t := 170) rfl ?_
                    refine yG.iast A_h161.1 (v_M_slope W H_r162) (W.2.1 _ _ H_r162 (by decide) (by decide)) rfl (by omega) (by omega) ⟨by omega, by omega⟩ (by omega) (by omega) (fun h165 T_h165 b_h165 f_h165 y_h165 => ?_)
                    have A_h165 := A_h161.put T_h165 b_h165 f_h165 H_r162 (bAll_ok (by decide) _)
                    refine yG.iinc rfl (a := a2) rfl (L' := [(2, yI (a2 + 1)), (4, yI (1)), (3, yI (z4)), (0, yR k0), (1, yI (p1))]) rfl ?_
                    refine yG.goto rfl (t := 2) rfl ?_
                    exact yG.mono (yG.sub (i_2 (a2 + 1)  h165 A_h165   (by omega) (by omega) (by omega) (by omega) (by omega)) (ySub.cons rfl (ySub.cons rfl (ySub.cons rfl (ySub.nil))))) (by omega)
                · have c159 : (z158 : Int) ≠ 0 := c159
                  refine yG.load xik rfl (fun _ _ => rfl) (v := yI (1)) rfl rfl ?_
                  refine yG.ifz rfl (t := 133) rfl ⟨by omega, by omega⟩ (fun c166 => ?_) (fun c166 => ?_)
                  · have c166 : (1 : Int) ≠ 0 := c166
                    refine yG.load xak rfl (fun _ _ => rfl) (v := yR k0) rfl rfl ?_
                    refine yG.num (c := 3) rfl (fun _ _ => rfl) (by decide) ?_
                    refine yG.load xik rfl (fun _ _ => rfl) (v := yI (z4)) rfl rfl ?_
                    refine yG.num (c := 5) rfl (fun _ _ => rfl) (by decide) ?_
                    refine yG.invV (rest := [yI (a2), yR r157]) A_h156.1 (bOb (d_M W) H_k0) rfl rfl rfl rfl (c_GModel_of_3_5 W (d + 1) A_h156.1 H_k0 (z4) (by omega) (by omega)) (fun rv hp9 q9 => ?_)
                    obtain ⟨⟨z167, rfl, l_z167, u_z167, R_z167⟩, e9⟩ := q9
                    rw [e9]
                    show yG _ _ _ _ _ _ _ _ _ _ (yI z167 :: [yI (a2), yR r157]) _
                    refine yG.iast A_h156.1 (v_M_high W H_r157) (W.2.1 _ _ H_r157 (by decide) (by decide)) rfl (by omega) (by omega) ⟨by omega, by omega⟩ (by omega) (by omega) (fun h168 T_h168 b_h168 f_h168 y_h168 => ?_)
                    have A_h168 := A_h156.put T_h168 b_h168 f_h168 H_r157 (bAll_ok (by decide) _)
                    refine yG.load xak rfl (fun _ _ => rfl) (v := yR k0) rfl rfl ?_
                    refine yG.getO A_h168.1 (w_M_slope W H_k0) rfl rfl (fun r169 H_r169 O_r169 q_r169 => ?_)
                    refine yG.load xik rfl (fun _ _ => rfl) (v := yI (a2)) rfl rfl ?_
                    refine yG.load xik rfl (fun _ _ => rfl) (v := yI (1)) rfl rfl ?_
                    refine yG.ifz rfl (t := 162) rfl ⟨by omega, by omega⟩ (fun c170 => ?_) (fun c170 => ?_)
                    · have c170 : (1 : Int) = 0 := c170
                      exfalso; omega
                    · have c170 : (1 : Int) ≠ 0 := c170
                      refine yG.load xak rfl (fun _ _ => rfl) (v := yR k0) rfl rfl ?_
                      refine yG.num (c := 3) rfl (fun _ _ => rfl) (by decide) ?_
                      refine yG.load xik rfl (fun _ _ => rfl) (v := yI (z4)) rfl rfl ?_
                      refine yG.num (c := 8) rfl (fun _ _ => rfl) (by decide) ?_
                      refine yG.invV (rest := [yI (a2), yR r169]) A_h168.1 (bOb (d_M W) H_k0) rfl rfl rfl rfl (c_GModel_of_3_8 W (d + 1) A_h168.1 H_k0 (z4) (by omega) (by omega)) (fun rv hp9 q9 => ?_)
                      obtain ⟨⟨z171, rfl, l_z171, u_z171, R_z171⟩, e9⟩ := q9
                      rw [e9]
                      show yG _ _ _ _ _ _ _ _ _ _ (yI z171 :: [yI (a2), yR r169]) _
                      refine yG.goto rfl (t := 170) rfl ?_
                      refine yG.iast A_h168.1 (v_M_slope W H_r169) (W.2.1 _ _ H_r169 (by decide) (by decide)) rfl (by omega) (by omega) ⟨by omega, by omega⟩ (by omega) (by omega) (fun h172 T_h172 b_h172 f_h172 y_h172 => ?_)
                      have A_h172 := A_h168.put T_h172 b_h172 f_h172 H_r169 (bAll_ok (by decide) _)
                      refine yG.iinc rfl (a := a2) rfl (L' := [(2, yI (a2 + 1)), (4, yI (1)), (3, yI (z4)), (0, yR k0), (1, yI (p1))]) rfl ?_
                      refine yG.goto rfl (t := 2) rfl ?_
                      exact yG.mono (yG.sub (i_2 (a2 + 1)  h172 A_h172   (by omega) (by omega) (by omega) (by omega) (by omega)) (ySub.cons rfl (ySub.cons rfl (ySub.cons rfl (ySub.nil))))) (by omega)
                  · have c166 : (1 : Int) = 0 := c166
                    exfalso; omega
  refine yC.of (M := (xt_X13_cell, (5, (0, (14, []))))) rfl rfl (N := 1184) (yfuel (by decide)) ?_
  show yG 89 xfts (xcall 89 xfts xpools xms (d + 3)) (xpool xp_RX13) [] xt_X13_cell (yP 0 (fun rv hp' => (rv = none ∧ True) ∧ bAx G [(343279001153959104272269734081669257130597563369126887424, 256)] hp hp')) 1184 0 [(0, yR k0), (1, yI (p1))] [] hp
  have i_2 := H 15
  refine yG.num (c := 0) rfl (fun _ _ => rfl) (by decide) ?_
  refine yG.store1 xik (L' := [(2, yI (0)), (0, yR k0), (1, yI (p1))]) rfl (fun _ _ => rfl) rfl rfl ?_
  exact yG.mono (yG.sub (i_2 (0)  hp A_hp   (by omega) (by omega) (by omega) (by omega) (by omega)) (ySub.cons rfl (ySub.cons rfl (ySub.cons rfl (ySub.nil))))) (by omega)
theorem c_GModel_addShown {hp : xH} (W : mW G) (d : Nat) (hT : zTy G hp) {k0 : Nat} (H_k0 : bRo G 116 k0) (p1 p2 p3 : Int) (h1l : 0 ≤ p1) (h1u : p1 ≤ 31) (h2l : 0 ≤ p2) (h2u : p2 ≤ 15) (h3l : (-2147483647) ≤ p3) (h3u : p3 ≤ 2147483647) (q0l : 1 ≤ ys hp k0 11) (q0u : ys hp k0 11 ≤ 2147483647) : yC (xcall 89 xfts xpools xms (d + 2)) 346 [yR k0, yI (p1), yI (p2), yJ (p3)] hp (fun rv hp' => (rv = none ∧ True) ∧ bAx G [(46768052394588893382517914646921056628989841375232, 256)] hp hp') := by
  have A_hp : bAx G [(46768052394588893382517914646921056628989841375232, 256)] hp hp := bAx.rf hT
  refine yC.of (M := (xt_X13_addShown, (6, (0, (14, []))))) rfl rfl (N := 90) (yfuel (by decide)) ?_
  show yG 89 xfts (xcall 89 xfts xpools xms (d + 1)) (xpool xp_RX13) [] xt_X13_addShown (yP 0 (fun rv hp' => (rv = none ∧ True) ∧ bAx G [(46768052394588893382517914646921056628989841375232, 256)] hp hp')) 90 0 [(0, yR k0), (1, yI (p1)), (2, yI (p2)), (3, yJ (p3))] [] hp
  obtain ⟨gg0, E_0⟩ : ∃ z : Int, ys hp k0 11 = z := ⟨_, rfl⟩
  obtain ⟨-, -, g_0l, g_0u⟩ := (w_M_p W H_k0).long hT
  refine yG.load xak rfl (fun _ _ => rfl) (v := yR k0) rfl rfl ?_
  refine yG.getO A_hp.1 (w_M_placeOf W H_k0) rfl rfl (fun r1 H_r1 O_r1 q_r1 => ?_)
  refine yG.load xik rfl (fun _ _ => rfl) (v := yI (p2)) rfl rfl ?_
  refine yG.iald A_hp.1 (v_M_placeOf W H_r1) rfl (by omega) (by omega) (fun z2 e_z2 i_z2 l_z2 u_z2 => ?_)
  refine yG.store1 xik (L' := [(5, yI (z2)), (0, yR k0), (1, yI (p1)), (2, yI (p2)), (3, yJ (p3))]) rfl (fun _ _ => rfl) rfl rfl ?_
  refine yG.load xik rfl (fun _ _ => rfl) (v := yI (z2)) rfl rfl ?_
  refine yG.ifz rfl (t := 43) rfl ⟨by omega, by omega⟩ (fun c3 => ?_) (fun c3 => ?_)
  · have c3 : (z2 : Int) < 0 := c3
    refine yG.ret rfl (fun _ _ => rfl) ?_
    exact (yP.void ⟨⟨rfl, trivial⟩, A_hp⟩)
  · have c3 : (z2 : Int) ≥ 0 := c3
    refine yG.load xak rfl (fun _ _ => rfl) (v := yR k0) rfl rfl ?_
    refine yG.getO A_hp.1 (w_M_shows W H_k0) rfl rfl (fun r4 H_r4 O_r4 q_r4 => ?_)
    refine yG.num (c := 16) rfl (fun _ _ => rfl) (by decide) ?_
    refine yG.load xik rfl (fun _ _ => rfl) (v := yI (p1)) rfl rfl ?_
    refine yG.imul rfl ?_
    refine yG.load xik rfl (fun _ _ => rfl) (v := yI (z2)) rfl rfl ?_
    refine yG.iadd rfl ?_
    refine yG.load xak rfl (fun _ _ => rfl) (v := yR k0) rfl rfl ?_
    refine yG.load xak rfl (fun _ _ => rfl) (v := yR k0) rfl rfl ?_
    refine yG.getS9 A_hp.1 (w_M_shows W H_k0) q_r4 rfl rfl ?_
    refine yG.num (c := 16) rfl (fun _ _ => rfl) (by decide) ?_
    refine yG.load xik rfl (fun _ _ => rfl) (v := yI (p1)) rfl rfl ?_
    refine yG.imul rfl ?_
    refine yG.load xik rfl (fun _ _ => rfl) (v := yI (z2)) rfl rfl ?_
    refine yG.iadd rfl ?_
    refine yG.lald A_hp.1 (v_M_shows W H_r4) rfl (by omega) (by omega) (fun z5 e_z5 i_z5 l_z5 u_z5 => ?_)
    refine yG.load xlk2 rfl (fun _ _ => rfl) (v := yJ (p3)) rfl rfl ?_
    refine yG.ladd rfl ?_
    refine yG.invV (rest := [yI ((16 * p1) + z2), yR r4]) A_hp.1 (bOb (d_M W) H_k0) rfl rfl rfl rfl (c_GModel_mod W d A_hp.1 H_k0 (z5 + p3) (by omega) (by omega) (by omega) (by omega)) (fun rv hp9 q9 => ?_)
    obtain ⟨⟨z6, rfl, l_z6, u_z6, R_z6⟩, e9⟩ := q9
    rw [e9]
    show yG _ _ _ _ _ _ _ _ _ _ (yJ z6 :: [yI ((16 * p1) + z2), yR r4]) _
    refine yG.last A_hp.1 (v_M_shows W H_r4) (W.2.1 _ _ H_r4 (by decide) (by decide)) rfl (by omega) (by omega) ⟨by omega, by omega⟩ (by omega) (by omega) (fun h7 T_h7 b_h7 f_h7 y_h7 => ?_)
    have A_h7 := A_hp.put T_h7 b_h7 f_h7 H_r4 (bAll_ok (by decide) _)
    have : ys h7 k0 11 = ys hp k0 11 := (y_h7 k0 11).trans (if_neg (fun e => (bRo.ne H_k0 H_r4 (by decide)) e.1))
    have qq1 : zsl h7 k0 65 = yR r4 := ((f_h7 k0 65).trans (if_neg (fun e => (bRo.ne H_k0 H_r4 (by decide)) e.1))).trans q_r4
    refine yG.ret rfl (fun _ _ => rfl) ?_
    exact (yP.void ⟨⟨rfl, trivial⟩, A_h7⟩)
theorem c_GModel_joinLines {hp : xH} (W : mW G) (d : Nat) (hT : zTy G hp) {k0 : Nat} (H_k0 : bRo G 116 k0) (p1 : Int) (h1l : 0 ≤ p1) (h1u : p1 ≤ 15) (q0l : 1 ≤ ys hp k0 11) (q0u : ys hp k0 11 ≤ 2147483647) : yC (xcall 89 xfts xpools xms (d + 5)) 440 [yR k0, yI (p1)] hp (bQj G [(85070591730234615865843651857942052864, 256)] hp 0 2147483646 (fun _ => True)) := by
  have A_hp : bAx G [(85070591730234615865843651857942052864, 256)] hp hp := bAx.rf hT
  have H : ∀ m : Nat, (∀ a2 : Int, ∀ a4 : Int, ∀ gg0 : Int, ∀ hq, bAx G [(85070591730234615865843651857942052864, 256)] hp hq → ys hq k0 11 = gg0 → 0 ≤ a2 → (-2147483646) ≤ 0 - a2 → 0 ≤ a4 → (-20) ≤ 0 - a4 → 1 ≤ gg0 → (-2147483647) ≤ 0 - gg0 → 0 ≤ p1 → (-15) ≤ 0 - p1 → (-2147483645) ≤ 0 - a2 + a4 → 0 ≤ 0 - a2 + gg0 → 0 - 2 * a4 + 41 < (m : Int) → yG 89 xfts (xcall 89 xfts xpools xms (d + 4)) (xpool xp_RX13) [] xt_X13_joinLines (yP 2 (bQj G [(85070591730234615865843651857942052864, 256)] hp 0 2147483646 (fun _ => True))) (52 * m) 5 [(0, yR k0), (1, yI (p1)), (2, yJ (a2)), (4, yI (a4))] [] hq) := by
    intro m
    induction m with
    | zero =>
      intros; exfalso; omega
    | succ m ih =>
      have i_5 := ih
      clear ih
      intro a2 a4 gg0 hq A_hq E_0 f0 f1 f2 f3 f4 f5 f6 f7 f8 f9 hm
      refine yG.mono (N := 52 * m + 52) ?_ (by omega)
      obtain ⟨-, -, g_0l, g_0u⟩ := (w_M_p W H_k0).long A_hq.1
      refine yG.load xik rfl (fun _ _ => rfl) (v := yI (a4)) rfl rfl ?_
      refine yG.load xak rfl (fun _ _ => rfl) (v := yR k0) rfl rfl ?_
      refine yG.getO A_hq.1 (w_M_count W H_k0) rfl rfl (fun r1 H_r1 O_r1 q_r1 => ?_)
      refine yG.num (c := 2) rfl (fun _ _ => rfl) (by decide) ?_
      refine yG.ialdF A_hq.1 (v_M_count W H_r1) rfl rfl (by omega) (by omega) (fun z2 e_z2 i_z2 l_z2 u_z2 => ?_)
      refine yG.icmp rfl (t := 96) rfl ⟨by omega, by omega⟩ ⟨by omega, by omega⟩ (fun c3 => ?_) (fun c3 => ?_)
      · have c3 : (a4 : Int) ≥ z2 := c3
        refine yG.load xlk2 rfl (fun _ _ => rfl) (v := yJ (a2)) rfl rfl ?_
        refine yG.ret rfl (fun _ _ => rfl) ?_
        exact (yP.long ⟨by omega, by omega⟩ ⟨⟨a2, rfl, by omega, by omega, trivial⟩, A_hq⟩)
      · have c3 : (a4 : Int) < z2 := c3
        refine yG.load xak rfl (fun _ _ => rfl) (v := yR k0) rfl rfl ?_
        refine yG.load xik rfl (fun _ _ => rfl) (v := yI (a4)) rfl rfl ?_
        refine yG.invV (rest := []) A_hq.1 (bOb (d_M W) H_k0) rfl rfl rfl rfl (c_GModel_islandOfLine W (d + 1) A_hq.1 H_k0 (a4) (by omega) (by omega)) (fun rv hp9 q9 => ?_)
        obtain ⟨⟨z4, rfl, l_z4, u_z4, R_z4⟩, e9⟩ := q9
        rw [e9]
        show yG _ _ _ _ _ _ _ _ _ _ (yI z4 :: []) _
        refine yG.load xik rfl (fun _ _ => rfl) (v := yI (p1)) rfl rfl ?_
        refine yG.icmp rfl (t := 90) rfl ⟨by omega, by omega⟩ ⟨by omega, by omega⟩ (fun c5 => ?_) (fun c5 => ?_)
        · have c5 : (z4 : Int) ≠ p1 := c5
          refine yG.iinc rfl (a := a4) rfl (L' := [(4, yI (a4 + 1)), (0, yR k0), (1, yI (p1)), (2, yJ (a2))]) rfl ?_
          refine yG.goto rfl (t := 5) rfl ?_
          exact yG.mono (yG.sub (i_5 (a2) (a4 + 1) (ys hq k0 11) hq A_hq  rfl (by omega) (by omega) (by omega) (by omega) (by omega) (by omega) (by omega) (by omega) (by omega) (by omega) (by omega)) (ySub.cons rfl (ySub.cons rfl (ySub.cons rfl (ySub.cons rfl (ySub.nil)))))) (by omega)
        · have c5 : (z4 : Int) = p1 := c5
          refine yG.load xak rfl (fun _ _ => rfl) (v := yR k0) rfl rfl ?_
          refine yG.load xik rfl (fun _ _ => rfl) (v := yI (a4)) rfl rfl ?_
          refine yG.invV (rest := []) A_hq.1 (bOb (d_M W) H_k0) rfl rfl rfl rfl (c_GModel_isBetween W d A_hq.1 H_k0 (a4) (by omega) (by omega)) (fun rv hp9 q9 => ?_)
          obtain ⟨⟨z6, rfl, l_z6, u_z6, R_z6⟩, e9⟩ := q9
          rw [e9]
          show yG _ _ _ _ _ _ _ _ _ _ (yI z6 :: []) _
          refine yG.ifz rfl (t := 90) rfl ⟨by omega, by omega⟩ (fun c7 => ?_) (fun c7 => ?_)
          · have c7 : (z6 : Int) = 0 := c7
            refine yG.iinc rfl (a := a4) rfl (L' := [(4, yI (a4 + 1)), (0, yR k0), (1, yI (p1)), (2, yJ (a2))]) rfl ?_
            refine yG.goto rfl (t := 5) rfl ?_
            exact yG.mono (yG.sub (i_5 (a2) (a4 + 1) (ys hq k0 11) hq A_hq  rfl (by omega) (by omega) (by omega) (by omega) (by omega) (by omega) (by omega) (by omega) (by omega) (by omega) (by omega)) (ySub.cons rfl (ySub.cons rfl (ySub.cons rfl (ySub.cons rfl (ySub.nil)))))) (by omega)
          · have c7 : (z6 : Int) ≠ 0 := c7
            refine yG.load xak rfl (fun _ _ => rfl) (v := yR k0) rfl rfl ?_
            refine yG.num (c := 2) rfl (fun _ _ => rfl) (by decide) ?_
            refine yG.load xik rfl (fun _ _ => rfl) (v := yI (a4)) rfl rfl ?_
            refine yG.num (c := 1) rfl (fun _ _ => rfl) (by decide) ?_
            refine yG.invV (rest := []) A_hq.1 (bOb (d_M W) H_k0) rfl rfl rfl rfl (c_GModel_of_2_1 W (d + 2) A_hq.1 H_k0 (a4) (by omega) (by omega)) (fun rv hp9 q9 => ?_)
            obtain ⟨⟨z8, rfl, l_z8, u_z8, R_z8⟩, e9⟩ := q9
            rw [e9]
            show yG _ _ _ _ _ _ _ _ _ _ (yI z8 :: []) _
            refine yG.i2l rfl ⟨by omega, by omega⟩ ?_
            refine yG.store2 xlk2 (L' := [(5, yJ (z8)), (0, yR k0), (1, yI (p1)), (2, yJ (a2)), (4, yI (a4))]) rfl (fun _ _ => rfl) rfl rfl ?_
            refine yG.load xak rfl (fun _ _ => rfl) (v := yR k0) rfl rfl ?_
            refine yG.load xak rfl (fun _ _ => rfl) (v := yR k0) rfl rfl ?_
            refine yG.getO A_hq.1 (w_M_placeOf W H_k0) rfl rfl (fun r9 H_r9 O_r9 q_r9 => ?_)
            refine yG.load xak rfl (fun _ _ => rfl) (v := yR k0) rfl rfl ?_
            refine yG.load xik rfl (fun _ _ => rfl) (v := yI (a4)) rfl rfl ?_
            refine yG.num (c := 0) rfl (fun _ _ => rfl) (by decide) ?_
            refine yG.invV (rest := [yR r9, yR k0]) A_hq.1 (bOb (d_M W) H_k0) rfl rfl rfl rfl (c_GModel_nodeOfLine W (d + 1) A_hq.1 H_k0 (a4) (0) (by omega) (by omega) (by omega) (by omega)) (fun rv hp9 q9 => ?_)
            obtain ⟨⟨z10, rfl, l_z10, u_z10, R_z10⟩, e9⟩ := q9
            rw [e9]
            show yG _ _ _ _ _ _ _ _ _ _ (yI z10 :: [yR r9, yR k0]) _
            refine yG.iald A_hq.1 (v_M_placeOf W H_r9) rfl (by omega) (by omega) (fun z11 e_z11 i_z11 l_z11 u_z11 => ?_)
            refine yG.load xak rfl (fun _ _ => rfl) (v := yR k0) rfl rfl ?_
            refine yG.getS9 A_hq.1 (w_M_placeOf W H_k0) q_r9 rfl rfl ?_
            refine yG.load xak rfl (fun _ _ => rfl) (v := yR k0) rfl rfl ?_
            refine yG.load xik rfl (fun _ _ => rfl) (v := yI (a4)) rfl rfl ?_
            refine yG.num (c := 1) rfl (fun _ _ => rfl) (by decide) ?_
            refine yG.invV (rest := [yR r9, yI (z11), yR k0]) A_hq.1 (bOb (d_M W) H_k0) rfl rfl rfl rfl (c_GModel_nodeOfLine W (d + 1) A_hq.1 H_k0 (a4) (1) (by omega) (by omega) (by omega) (by omega)) (fun rv hp9 q9 => ?_)
            obtain ⟨⟨z12, rfl, l_z12, u_z12, R_z12⟩, e9⟩ := q9
            rw [e9]
            show yG _ _ _ _ _ _ _ _ _ _ (yI z12 :: [yR r9, yI (z11), yR k0]) _
            refine yG.iald A_hq.1 (v_M_placeOf W H_r9) rfl (by omega) (by omega) (fun z13 e_z13 i_z13 l_z13 u_z13 => ?_)
            refine yG.load xak rfl (fun _ _ => rfl) (v := yR k0) rfl rfl ?_
            refine yG.load xlk2 rfl (fun _ _ => rfl) (v := yJ (z8)) rfl rfl ?_
            refine yG.invV (rest := [yI (z13), yI (z11), yR k0]) A_hq.1 (bOb (d_M W) H_k0) rfl rfl rfl rfl (c_GModel_inverse_ W (d + 2) A_hq.1 H_k0 (z8) (by omega) (by omega) (by omega) (by omega)) (fun rv hp9 q9 => ?_)
            obtain ⟨⟨z14, rfl, l_z14, u_z14, R_z14⟩, e9⟩ := q9
            rw [e9]
            show yG _ _ _ _ _ _ _ _ _ _ (yJ z14 :: [yI (z13), yI (z11), yR k0]) _
            refine yG.invV (rest := []) A_hq.1 (bOb (d_M W) H_k0) rfl rfl rfl rfl (c_GModel_join W (d + 2) A_hq.1 H_k0 (z11) (z13) (z14) (by omega) (by omega) (by omega) (by omega) (by omega) (by omega) (by omega) (by omega)) (fun rv h15 q9 => ?_)
            obtain ⟨⟨rfl, R_z16⟩, B_h15⟩ := q9
            have A_h15 := A_hq.tr B_h15 (by decide)
            have : ys h15 k0 11 = ys hq k0 11 := B_h15.ys H_k0 (by decide)
            have qq1 : zsl h15 k0 39 = yR r9 := (B_h15.sl H_k0 (by decide)).trans q_r9
            show yG _ _ _ _ _ _ _ _ _ _ [] _
            refine yG.load xlk2 rfl (fun _ _ => rfl) (v := yJ (a2)) rfl rfl ?_
            refine yG.load xlk2 rfl (fun _ _ => rfl) (v := yJ (z8)) rfl rfl ?_
            refine yG.lmul rfl ?_
            obtain ⟨z17, e_z17⟩ : ∃ z : Int, z = a2 * z8 := ⟨_, rfl⟩
            rw [← e_z17]
            have b_z17 : 0 ≤ z17 ∧ z17 ≤ 212600880954 := e_z17 ▸ ymulb (A := 2147483646) (B := 99) (by omega) (by omega) (by omega) (by omega) (by decide)
            have b2_z17 : z17 ≤ 2147483646 * z8 := e_z17 ▸ bmulx (by omega) (by omega)
            have b3_z17 : z17 ≤ 99 * a2 := e_z17 ▸ bmuly (by omega) (by omega)
            refine yG.load xak rfl (fun _ _ => rfl) (v := yR k0) rfl rfl ?_
            refine yG.getJ A_h15.1 (w_M_p W H_k0) rfl rfl (fun z18 e_z18 i_z18 l_z18 u_z18 => ?_)
            rw [show (z18 : Int) = gg0 by omega]
            refine yG.lrem rfl ⟨by omega, by omega⟩ ⟨by omega, by omega⟩ (by omega) (by omega) ?_
            obtain ⟨z19, e_z19⟩ : ∃ z : Int, z = (z17) % (gg0) := ⟨_, rfl⟩
            rw [← e_z19]
            have b_z19 : 0 ≤ z19 ∧ z19 < gg0 := e_z19 ▸ ⟨Int.emod_nonneg _ (by omega), Int.emod_lt_of_pos _ (by omega)⟩
            refine yG.store2 xlk2 (L' := [(2, yJ (z19)), (5, yJ (z8)), (0, yR k0), (1, yI (p1)), (4, yI (a4))]) rfl (fun _ _ => rfl) rfl rfl ?_
            refine yG.iinc rfl (a := a4) rfl (L' := [(4, yI (a4 + 1)), (2, yJ (z19)), (5, yJ (z8)), (0, yR k0), (1, yI (p1))]) rfl ?_
            refine yG.goto rfl (t := 5) rfl ?_
            exact yG.mono (yG.sub (i_5 (z19) (a4 + 1) (ys h15 k0 11) h15 A_h15  rfl (by omega) (by omega) (by omega) (by omega) (by omega) (by omega) (by omega) (by omega) (by omega) (by omega) (by omega)) (ySub.cons rfl (ySub.cons rfl (ySub.cons rfl (ySub.cons rfl (ySub.nil)))))) (by omega)
  refine yC.of (M := (xt_X13_joinLines, (7, (2, (14, []))))) rfl rfl (N := 2288) (yfuel (by decide)) ?_
  show yG 89 xfts (xcall 89 xfts xpools xms (d + 4)) (xpool xp_RX13) [] xt_X13_joinLines (yP 2 (bQj G [(85070591730234615865843651857942052864, 256)] hp 0 2147483646 (fun _ => True))) 2288 0 [(0, yR k0), (1, yI (p1))] [] hp
  have i_5 := H 43
  obtain ⟨gg0, E_0⟩ : ∃ z : Int, ys hp k0 11 = z := ⟨_, rfl⟩
  obtain ⟨-, -, g_0l, g_0u⟩ := (w_M_p W H_k0).long hT
  refine yG.numl (c := 1) rfl (fun _ _ => rfl) (by decide) ?_
  refine yG.store2 xlk2 (L' := [(2, yJ (1)), (0, yR k0), (1, yI (p1))]) rfl (fun _ _ => rfl) rfl rfl ?_
  refine yG.num (c := 0) rfl (fun _ _ => rfl) (by decide) ?_
  refine yG.store1 xik (L' := [(4, yI (0)), (2, yJ (1)), (0, yR k0), (1, yI (p1))]) rfl (fun _ _ => rfl) rfl rfl ?_
  exact yG.mono (yG.sub (i_5 (1) (0) (ys hp k0 11) hp A_hp  rfl (by omega) (by omega) (by omega) (by omega) (by omega) (by omega) (by omega) (by omega) (by omega) (by omega) (by omega)) (ySub.cons rfl (ySub.cons rfl (ySub.cons rfl (ySub.cons rfl (ySub.nil)))))) (by omega)
theorem c_GModel_see {hp : xH} (W : mW G) (d : Nat) (hT : zTy G hp) {k0 : Nat} (H_k0 : bRo G 116 k0) (p1 : Int) (h1l : 0 ≤ p1) (h1u : p1 ≤ 1) : yC (xcall 89 xfts xpools xms (d + 4)) 502 [yR k0, yI (p1)] hp (fun rv hp' => (rv = none ∧ True) ∧ bAx G [(83076749736557242056487941267521536, 40), (202474193576632774804702611279292652591248485523144298083647488, 256)] hp hp') := by
  have A_hp : bAx G [(83076749736557242056487941267521536, 40), (202474193576632774804702611279292652591248485523144298083647488, 256)] hp hp := bAx.rf hT
  have H : ∀ m : Nat, (∀ a2 : Int, ∀ a3 : Int, ∀ a4 : Int, ∀ hq, bAx G [(83076749736557242056487941267521536, 40), (202474193576632774804702611279292652591248485523144298083647488, 256)] hp hq → 0 ≤ a2 → (-24) ≤ 0 - a2 → 0 ≤ a3 → 0 ≤ 0 - a3 → 0 ≤ a4 → (-24) ≤ 0 - a4 → 0 ≤ p1 → (-1) ≤ 0 - p1 → 0 ≤ 0 - a2 + a4 → 0 - 12266542 * a4 + 306663549 < (m : Int) → yG 89 xfts (xcall 89 xfts xpools xms (d + 3)) (xpool xp_RX13) [] xt_X13_see (yP 0 (fun rv hp' => (rv = none ∧ True) ∧ bAx G [(83076749736557242056487941267521536, 40), (202474193576632774804702611279292652591248485523144298083647488, 256)] hp hp')) (48 * m) 20 [(0, yR k0), (1, yI (p1)), (2, yI (a2)), (3, yI (a3)), (4, yI (a4))] [] hq) ∧ (∀ a2 : Int, ∀ a3 : Int, ∀ a4 : Int, ∀ hq, bAx G [(83076749736557242056487941267521536, 40), (202474193576632774804702611279292652591248485523144298083647488, 256)] hp hq → 0 ≤ a2 → (-44) ≤ 0 - a2 → 0 ≤ a3 → 0 ≤ 0 - a3 → 0 ≤ a4 → (-20) ≤ 0 - a4 → 0 ≤ p1 → (-1) ≤ 0 - p1 → (-24) ≤ 0 - a2 + a4 → 0 - 584121 * a4 + 12266540 < (m : Int) → yG 89 xfts (xcall 89 xfts xpools xms (d + 3)) (xpool xp_RX13) [] xt_X13_see (yP 0 (fun rv hp' => (rv = none ∧ True) ∧ bAx G [(83076749736557242056487941267521536, 40), (202474193576632774804702611279292652591248485523144298083647488, 256)] hp hp')) (48 * m) 59 [(0, yR k0), (1, yI (p1)), (2, yI (a2)), (3, yI (a3)), (4, yI (a4))] [] hq) ∧ (∀ a2 : Int, ∀ a3 : Int, ∀ a4 : Int, ∀ hq, bAx G [(83076749736557242056487941267521536, 40), (202474193576632774804702611279292652591248485523144298083647488, 256)] hp hq → 0 ≤ a2 → (-44) ≤ 0 - a2 → 0 ≤ a3 → (-16) ≤ 0 - a3 → 0 ≤ a4 → (-16) ≤ 0 - a4 → 0 ≤ p1 → (-1) ≤ 0 - p1 → 0 ≤ 0 - a3 + a4 → 0 - 34360 * a4 + 584119 < (m : Int) → yG 89 xfts (xcall 89 xfts xpools xms (d + 3)) (xpool xp_RX13) [] xt_X13_see (yP 0 (fun rv hp' => (rv = none ∧ True) ∧ bAx G [(83076749736557242056487941267521536, 40), (202474193576632774804702611279292652591248485523144298083647488, 256)] hp hp')) (48 * m) 89 [(0, yR k0), (1, yI (p1)), (2, yI (a2)), (3, yI (a3)), (4, yI (a4))] [] hq) ∧ (∀ a4 : Int, ∀ hq, bAx G [(83076749736557242056487941267521536, 40), (202474193576632774804702611279292652591248485523144298083647488, 256)] hp hq → 0 ≤ a4 → (-12) ≤ 0 - a4 → 0 ≤ p1 → (-1) ≤ 0 - p1 → 0 - 2643 * a4 + 34358 < (m : Int) → yG 89 xfts (xcall 89 xfts xpools xms (d + 3)) (xpool xp_RX13) [] xt_X13_see (yP 0 (fun rv hp' => (rv = none ∧ True) ∧ bAx G [(83076749736557242056487941267521536, 40), (202474193576632774804702611279292652591248485523144298083647488, 256)] hp hp')) (48 * m) 195 [(0, yR k0), (1, yI (p1)), (4, yI (a4))] [] hq) ∧ (∀ a4 : Int, ∀ hq, bAx G [(83076749736557242056487941267521536, 40), (202474193576632774804702611279292652591248485523144298083647488, 256)] hp hq → 0 ≤ a4 → (-1320) ≤ 0 - a4 → 0 ≤ p1 → (-1) ≤ 0 - p1 → 0 - 2 * a4 + 2641 < (m : Int) → yG 89 xfts (xcall 89 xfts xpools xms (d + 3)) (xpool xp_RX13) [] xt_X13_see (yP 0 (fun rv hp' => (rv = none ∧ True) ∧ bAx G [(83076749736557242056487941267521536, 40), (202474193576632774804702611279292652591248485523144298083647488, 256)] hp hp')) (48 * m) 264 [(0, yR k0), (1, yI (p1)), (4, yI (a4))] [] hq) := by
    intro m
    induction m with
    | zero =>
      refine ⟨?_, ?_, ?_, ?_, ?_⟩ <;> (intros; exfalso; omega)
    | succ m ih =>
      obtain ⟨i_20, i_59, i_89, i_195, i_264⟩ := ih
      refine ⟨?_, ?_, ?_, ?_, ?_⟩
      · intro a2 a3 a4 hq A_hq f0 f1 f2 f3 f4 f5 f6 f7 f8 hm
        refine yG.mono (N := 48 * m + 48) ?_ (by omega)
        refine yG.load xik rfl (fun _ _ => rfl) (v := yI (a4)) rfl rfl ?_
        refine yG.load xak rfl (fun _ _ => rfl) (v := yR k0) rfl rfl ?_
        refine yG.getO A_hq.1 (w_M_count W H_k0) rfl rfl (fun r1 H_r1 O_r1 q_r1 => ?_)
        refine yG.num (c := 1) rfl (fun _ _ => rfl) (by decide) ?_
        refine yG.ialdF A_hq.1 (v_M_count W H_r1) rfl rfl (by omega) (by omega) (fun z2 e_z2 i_z2 l_z2 u_z2 => ?_)
        refine yG.icmp rfl (t := 56) rfl ⟨by omega, by omega⟩ ⟨by omega, by omega⟩ (fun c3 => ?_) (fun c3 => ?_)
        · have c3 : (a4 : Int) ≥ z2 := c3
          refine yG.num (c := 0) rfl (fun _ _ => rfl) (by decide) ?_
          refine yG.store1 xik (L' := [(4, yI (0)), (0, yR k0), (1, yI (p1)), (2, yI (a2)), (3, yI (a3))]) rfl (fun _ _ => rfl) rfl rfl ?_
          exact yG.mono (yG.sub (i_59 (a2) (a3) (0)  hq A_hq   (by omega) (by omega) (by omega) (by omega) (by omega) (by omega) (by omega) (by omega) (by omega) (by omega)) (ySub.cons rfl (ySub.cons rfl (ySub.cons rfl (ySub.cons rfl (ySub.cons rfl (ySub.nil))))))) (by omega)
        · have c3 : (a4 : Int) < z2 := c3
          refine yG.load xik rfl (fun _ _ => rfl) (v := yI (a2)) rfl rfl ?_
          refine yG.load xak rfl (fun _ _ => rfl) (v := yR k0) rfl rfl ?_
          refine yG.getO A_hq.1 (w_M_stateNow W H_k0) rfl rfl (fun r4 H_r4 O_r4 q_r4 => ?_)
          refine yG.load xik rfl (fun _ _ => rfl) (v := yI (a4)) rfl rfl ?_
          refine yG.iald A_hq.1 (v_M_stateNow W H_r4) rfl (by omega) (by omega) (fun z5 e_z5 i_z5 l_z5 u_z5 => ?_)
          refine yG.num (c := 1) rfl (fun _ _ => rfl) (by decide) ?_
          refine yG.icmp rfl (t := 47) rfl ⟨by omega, by omega⟩ ⟨by omega, by omega⟩ (fun c6 => ?_) (fun c6 => ?_)
          · have c6 : (z5 : Int) ≠ 1 := c6
            refine yG.num (c := 0) rfl (fun _ _ => rfl) (by decide) ?_
            refine yG.iadd rfl ?_
            obtain ⟨z7, e_z7⟩ : ∃ z : Int, z = a2 + 0 := ⟨_, rfl⟩
            rw [← e_z7]
            refine yG.store1 xik (L' := [(2, yI (z7)), (0, yR k0), (1, yI (p1)), (3, yI (a3)), (4, yI (a4))]) rfl (fun _ _ => rfl) rfl rfl ?_
            refine yG.iinc rfl (a := a4) rfl (L' := [(4, yI (a4 + 1)), (2, yI (z7)), (0, yR k0), (1, yI (p1)), (3, yI (a3))]) rfl ?_
            refine yG.goto rfl (t := 20) rfl ?_
            exact yG.mono (yG.sub (i_20 (z7) (a3) (a4 + 1)  hq A_hq   (by omega) (by omega) (by omega) (by omega) (by omega) (by omega) (by omega) (by omega) (by omega) (by omega)) (ySub.cons rfl (ySub.cons rfl (ySub.cons rfl (ySub.cons rfl (ySub.cons rfl (ySub.nil))))))) (by omega)
          · have c6 : (z5 : Int) = 1 := c6
            refine yG.num (c := 1) rfl (fun _ _ => rfl) (by decide) ?_
            refine yG.goto rfl (t := 48) rfl ?_
            refine yG.iadd rfl ?_
            obtain ⟨z8, e_z8⟩ : ∃ z : Int, z = a2 + 1 := ⟨_, rfl⟩
            rw [← e_z8]
            refine yG.store1 xik (L' := [(2, yI (z8)), (0, yR k0), (1, yI (p1)), (3, yI (a3)), (4, yI (a4))]) rfl (fun _ _ => rfl) rfl rfl ?_
            refine yG.iinc rfl (a := a4) rfl (L' := [(4, yI (a4 + 1)), (2, yI (z8)), (0, yR k0), (1, yI (p1)), (3, yI (a3))]) rfl ?_
            refine yG.goto rfl (t := 20) rfl ?_
            exact yG.mono (yG.sub (i_20 (z8) (a3) (a4 + 1)  hq A_hq   (by omega) (by omega) (by omega) (by omega) (by omega) (by omega) (by omega) (by omega) (by omega) (by omega)) (ySub.cons rfl (ySub.cons rfl (ySub.cons rfl (ySub.cons rfl (ySub.cons rfl (ySub.nil))))))) (by omega)
      · intro a2 a3 a4 hq A_hq f0 f1 f2 f3 f4 f5 f6 f7 f8 hm
        refine yG.mono (N := 48 * m + 48) ?_ (by omega)
        refine yG.load xik rfl (fun _ _ => rfl) (v := yI (a4)) rfl rfl ?_
        refine yG.load xak rfl (fun _ _ => rfl) (v := yR k0) rfl rfl ?_
        refine yG.getO A_hq.1 (w_M_count W H_k0) rfl rfl (fun r1 H_r1 O_r1 q_r1 => ?_)
        refine yG.num (c := 2) rfl (fun _ _ => rfl) (by decide) ?_
        refine yG.ialdF A_hq.1 (v_M_count W H_r1) rfl rfl (by omega) (by omega) (fun z2 e_z2 i_z2 l_z2 u_z2 => ?_)
        refine yG.icmp rfl (t := 86) rfl ⟨by omega, by omega⟩ ⟨by omega, by omega⟩ (fun c3 => ?_) (fun c3 => ?_)
        · have c3 : (a4 : Int) ≥ z2 := c3
          refine yG.num (c := 0) rfl (fun _ _ => rfl) (by decide) ?_
          refine yG.store1 xik (L' := [(4, yI (0)), (0, yR k0), (1, yI (p1)), (2, yI (a2)), (3, yI (a3))]) rfl (fun _ _ => rfl) rfl rfl ?_
          exact yG.mono (yG.sub (i_89 (a2) (a3) (0)  hq A_hq   (by omega) (by omega) (by omega) (by omega) (by omega) (by omega) (by omega) (by omega) (by omega) (by omega)) (ySub.cons rfl (ySub.cons rfl (ySub.cons rfl (ySub.cons rfl (ySub.cons rfl (ySub.nil))))))) (by omega)
        · have c3 : (a4 : Int) < z2 := c3
          refine yG.load xik rfl (fun _ _ => rfl) (v := yI (a2)) rfl rfl ?_
          refine yG.load xak rfl (fun _ _ => rfl) (v := yR k0) rfl rfl ?_
          refine yG.getO A_hq.1 (w_M_inNow W H_k0) rfl rfl (fun r4 H_r4 O_r4 q_r4 => ?_)
          refine yG.load xik rfl (fun _ _ => rfl) (v := yI (a4)) rfl rfl ?_
          refine yG.iald A_hq.1 (v_M_inNow W H_r4) rfl (by omega) (by omega) (fun z5 e_z5 i_z5 l_z5 u_z5 => ?_)
          refine yG.iadd rfl ?_
          obtain ⟨z6, e_z6⟩ : ∃ z : Int, z = a2 + z5 := ⟨_, rfl⟩
          rw [← e_z6]
          refine yG.store1 xik (L' := [(2, yI (z6)), (0, yR k0), (1, yI (p1)), (3, yI (a3)), (4, yI (a4))]) rfl (fun _ _ => rfl) rfl rfl ?_
          refine yG.iinc rfl (a := a4) rfl (L' := [(4, yI (a4 + 1)), (2, yI (z6)), (0, yR k0), (1, yI (p1)), (3, yI (a3))]) rfl ?_
          refine yG.goto rfl (t := 59) rfl ?_
          exact yG.mono (yG.sub (i_59 (z6) (a3) (a4 + 1)  hq A_hq   (by omega) (by omega) (by omega) (by omega) (by omega) (by omega) (by omega) (by omega) (by omega) (by omega)) (ySub.cons rfl (ySub.cons rfl (ySub.cons rfl (ySub.cons rfl (ySub.cons rfl (ySub.nil))))))) (by omega)
      · intro a2 a3 a4 hq A_hq f0 f1 f2 f3 f4 f5 f6 f7 f8 hm
        refine yG.mono (N := 48 * m + 48) ?_ (by omega)
        refine yG.load xik rfl (fun _ _ => rfl) (v := yI (a4)) rfl rfl ?_
        refine yG.load xak rfl (fun _ _ => rfl) (v := yR k0) rfl rfl ?_
        refine yG.getO A_hq.1 (w_M_count W H_k0) rfl rfl (fun r1 H_r1 O_r1 q_r1 => ?_)
        refine yG.num (c := 0) rfl (fun _ _ => rfl) (by decide) ?_
        refine yG.ialdF A_hq.1 (v_M_count W H_r1) rfl rfl (by omega) (by omega) (fun z2 e_z2 i_z2 l_z2 u_z2 => ?_)
        refine yG.icmp rfl (t := 169) rfl ⟨by omega, by omega⟩ ⟨by omega, by omega⟩ (fun c3 => ?_) (fun c3 => ?_)
        · have c3 : (a4 : Int) ≥ z2 := c3
          refine yG.load xak rfl (fun _ _ => rfl) (v := yR k0) rfl rfl ?_
          refine yG.getO A_hq.1 (w_M_seenLoops W H_k0) rfl rfl (fun r4 H_r4 O_r4 q_r4 => ?_)
          refine yG.load xik rfl (fun _ _ => rfl) (v := yI (p1)) rfl rfl ?_
          refine yG.load xik rfl (fun _ _ => rfl) (v := yI (a2)) rfl rfl ?_
          refine yG.load xak rfl (fun _ _ => rfl) (v := yR k0) rfl rfl ?_
          refine yG.getS9 A_hq.1 (w_M_count W H_k0) q_r1 rfl rfl ?_
          refine yG.num (c := 0) rfl (fun _ _ => rfl) (by decide) ?_
          refine yG.ialdF A_hq.1 (v_M_count W H_r1) rfl rfl (by omega) (by omega) (fun z5 e_z5 i_z5 l_z5 u_z5 => ?_)
          rw [show (z5 : Int) = z2 by omega]
          refine yG.load xik rfl (fun _ _ => rfl) (v := yI (a3)) rfl rfl ?_
          refine yG.isub rfl ?_
          refine yG.isub rfl ?_
          refine yG.iast A_hq.1 (v_M_seenLoops W H_r4) (W.2.1 _ _ H_r4 (by decide) (by decide)) rfl (by omega) (by omega) ⟨by omega, by omega⟩ (by omega) (by omega) (fun h6 T_h6 b_h6 f_h6 y_h6 => ?_)
          have A_h6 := A_hq.put T_h6 b_h6 f_h6 H_r4 (bAll_ok (by decide) _)
          have qq1 : zsl h6 k0 22 = yR r1 := ((f_h6 k0 22).trans (if_neg (fun e => (bRo.ne H_k0 H_r4 (by decide)) e.1))).trans q_r1
          have : ys h6 r1 (0 : Int).toNat = ys hq r1 (0 : Int).toNat := (y_h6 r1 (0 : Int).toNat).trans (if_neg (fun e => (bRo.ne H_r1 H_r4 (by decide)) e.1))
          refine yG.load xak rfl (fun _ _ => rfl) (v := yR k0) rfl rfl ?_
          refine yG.getO A_h6.1 (w_M_seenLost W H_k0) rfl rfl (fun r7 H_r7 O_r7 q_r7 => ?_)
          refine yG.load xik rfl (fun _ _ => rfl) (v := yI (p1)) rfl rfl ?_
          refine yG.num (c := 0) rfl (fun _ _ => rfl) (by decide) ?_
          refine yG.iast A_h6.1 (v_M_seenLost W H_r7) (W.2.1 _ _ H_r7 (by decide) (by decide)) rfl (by omega) (by omega) ⟨by omega, by omega⟩ (by omega) (by omega) (fun h8 T_h8 b_h8 f_h8 y_h8 => ?_)
          have A_h8 := A_h6.put T_h8 b_h8 f_h8 H_r7 (bAll_ok (by decide) _)
          have qq2 : zsl h8 k0 22 = yR r1 := ((f_h8 k0 22).trans (if_neg (fun e => (bRo.ne H_k0 H_r7 (by decide)) e.1))).trans qq1
          have : ys h8 r1 (0 : Int).toNat = ys h6 r1 (0 : Int).toNat := (y_h8 r1 (0 : Int).toNat).trans (if_neg (fun e => (bRo.ne H_r1 H_r7 (by decide)) e.1))
          refine yG.num (c := 0) rfl (fun _ _ => rfl) (by decide) ?_
          refine yG.store1 xik (L' := [(4, yI (0)), (0, yR k0), (1, yI (p1)), (2, yI (a2)), (3, yI (a3))]) rfl (fun _ _ => rfl) rfl rfl ?_
          exact yG.mono (yG.sub (i_195 (0)  h8 A_h8   (by omega) (by omega) (by omega) (by omega) (by omega)) (ySub.cons rfl (ySub.cons rfl (ySub.cons rfl (ySub.nil))))) (by omega)
        · have c3 : (a4 : Int) < z2 := c3
          refine yG.load xik rfl (fun _ _ => rfl) (v := yI (a3)) rfl rfl ?_
          refine yG.load xak rfl (fun _ _ => rfl) (v := yR k0) rfl rfl ?_
          refine yG.getO A_hq.1 (w_M_island W H_k0) rfl rfl (fun r9 H_r9 O_r9 q_r9 => ?_)
          refine yG.load xik rfl (fun _ _ => rfl) (v := yI (a4)) rfl rfl ?_
          refine yG.iald A_hq.1 (v_M_island W H_r9) rfl (by omega) (by omega) (fun z10 e_z10 i_z10 l_z10 u_z10 => ?_)
          refine yG.load xik rfl (fun _ _ => rfl) (v := yI (a4)) rfl rfl ?_
          refine yG.icmp rfl (t := 117) rfl ⟨by omega, by omega⟩ ⟨by omega, by omega⟩ (fun c11 => ?_) (fun c11 => ?_)
          · have c11 : (z10 : Int) ≠ a4 := c11
            refine yG.num (c := 0) rfl (fun _ _ => rfl) (by decide) ?_
            refine yG.iadd rfl ?_
            obtain ⟨z12, e_z12⟩ : ∃ z : Int, z = a3 + 0 := ⟨_, rfl⟩
            rw [← e_z12]
            refine yG.store1 xik (L' := [(3, yI (z12)), (0, yR k0), (1, yI (p1)), (2, yI (a2)), (4, yI (a4))]) rfl (fun _ _ => rfl) rfl rfl ?_
            refine yG.load xak rfl (fun _ _ => rfl) (v := yR k0) rfl rfl ?_
            refine yG.getO A_hq.1 (w_M_seenNode W H_k0) rfl rfl (fun r13 H_r13 O_r13 q_r13 => ?_)
            refine yG.num (c := 16) rfl (fun _ _ => rfl) (by decide) ?_
            refine yG.load xik rfl (fun _ _ => rfl) (v := yI (p1)) rfl rfl ?_
            refine yG.imul rfl ?_
            refine yG.load xik rfl (fun _ _ => rfl) (v := yI (a4)) rfl rfl ?_
            refine yG.iadd rfl ?_
            refine yG.load xak rfl (fun _ _ => rfl) (v := yR k0) rfl rfl ?_
            refine yG.getO A_hq.1 (w_M_node W H_k0) rfl rfl (fun r14 H_r14 O_r14 q_r14 => ?_)
            refine yG.load xik rfl (fun _ _ => rfl) (v := yI (a4)) rfl rfl ?_
            refine yG.iald A_hq.1 (v_M_node W H_r14) rfl (by omega) (by omega) (fun z15 e_z15 i_z15 l_z15 u_z15 => ?_)
            refine yG.iast A_hq.1 (v_M_seenNode W H_r13) (W.2.1 _ _ H_r13 (by decide) (by decide)) rfl (by omega) (by omega) ⟨by omega, by omega⟩ (by omega) (by omega) (fun h16 T_h16 b_h16 f_h16 y_h16 => ?_)
            have A_h16 := A_hq.put T_h16 b_h16 f_h16 H_r13 (bAll_ok (by decide) _)
            have qq3 : zsl h16 k0 22 = yR r1 := ((f_h16 k0 22).trans (if_neg (fun e => (bRo.ne H_k0 H_r13 (by decide)) e.1))).trans q_r1
            have : ys h16 r1 (0 : Int).toNat = ys hq r1 (0 : Int).toNat := (y_h16 r1 (0 : Int).toNat).trans (if_neg (fun e => (bRo.ne H_r1 H_r13 (by decide)) e.1))
            have qq4 : zsl h16 k0 35 = yR r9 := ((f_h16 k0 35).trans (if_neg (fun e => (bRo.ne H_k0 H_r13 (by decide)) e.1))).trans q_r9
            have : ys h16 r9 (a4 : Int).toNat = ys hq r9 (a4 : Int).toNat := (y_h16 r9 (a4 : Int).toNat).trans (if_neg (fun e => (bRo.ne H_r9 H_r13 (by decide)) e.1))
            refine yG.load xak rfl (fun _ _ => rfl) (v := yR k0) rfl rfl ?_
            refine yG.getO A_h16.1 (w_M_seenLive W H_k0) rfl rfl (fun r17 H_r17 O_r17 q_r17 => ?_)
            refine yG.num (c := 16) rfl (fun _ _ => rfl) (by decide) ?_
            refine yG.load xik rfl (fun _ _ => rfl) (v := yI (p1)) rfl rfl ?_
            refine yG.imul rfl ?_
            refine yG.load xik rfl (fun _ _ => rfl) (v := yI (a4)) rfl rfl ?_
            refine yG.iadd rfl ?_
            refine yG.load xak rfl (fun _ _ => rfl) (v := yR k0) rfl rfl ?_
            refine yG.getO A_h16.1 (w_M_isLive W H_k0) rfl rfl (fun r18 H_r18 O_r18 q_r18 => ?_)
            refine yG.load xak rfl (fun _ _ => rfl) (v := yR k0) rfl rfl ?_
            refine yG.getS9 A_h16.1 (w_M_island W H_k0) qq4 rfl rfl ?_
            refine yG.load xik rfl (fun _ _ => rfl) (v := yI (a4)) rfl rfl ?_
            refine yG.iald A_h16.1 (v_M_island W H_r9) rfl (by omega) (by omega) (fun z19 e_z19 i_z19 l_z19 u_z19 => ?_)
            rw [show (z19 : Int) = z10 by omega]
            refine yG.bald A_h16.1 (v_M_isLive W H_r18) rfl (by omega) (by omega) (fun z20 e_z20 i_z20 l_z20 u_z20 => ?_)
            refine yG.bast A_h16.1 (v_M_seenLive W H_r17) (W.2.1 _ _ H_r17 (by decide) (by decide)) rfl (by omega) (by omega) ⟨by omega, by omega⟩ (by omega) (by omega) (fun h21 T_h21 b_h21 f_h21 y_h21 => ?_)
            have A_h21 := A_h16.put T_h21 b_h21 f_h21 H_r17 (bAll_ok (by decide) _)
            have qq5 : zsl h21 k0 22 = yR r1 := ((f_h21 k0 22).trans (if_neg (fun e => (bRo.ne H_k0 H_r17 (by decide)) e.1))).trans qq3
            have : ys h21 r1 (0 : Int).toNat = ys h16 r1 (0 : Int).toNat := (y_h21 r1 (0 : Int).toNat).trans (if_neg (fun e => (bRo.ne H_r1 H_r17 (by decide)) e.1))
            have qq6 : zsl h21 k0 35 = yR r9 := ((f_h21 k0 35).trans (if_neg (fun e => (bRo.ne H_k0 H_r17 (by decide)) e.1))).trans qq4
            have : ys h21 r9 (a4 : Int).toNat = ys h16 r9 (a4 : Int).toNat := (y_h21 r9 (a4 : Int).toNat).trans (if_neg (fun e => (bRo.ne H_r9 H_r17 (by decide)) e.1))
            refine yG.iinc rfl (a := a4) rfl (L' := [(4, yI (a4 + 1)), (3, yI (z12)), (0, yR k0), (1, yI (p1)), (2, yI (a2))]) rfl ?_
            refine yG.goto rfl (t := 89) rfl ?_
            exact yG.mono (yG.sub (i_89 (a2) (z12) (a4 + 1)  h21 A_h21   (by omega) (by omega) (by omega) (by omega) (by omega) (by omega) (by omega) (by omega) (by omega) (by omega)) (ySub.cons rfl (ySub.cons rfl (ySub.cons rfl (ySub.cons rfl (ySub.cons rfl (ySub.nil))))))) (by omega)
          · have c11 : (z10 : Int) = a4 := c11
            refine yG.num (c := 1) rfl (fun _ _ => rfl) (by decide) ?_
            refine yG.goto rfl (t := 118) rfl ?_
            refine yG.iadd rfl ?_
            obtain ⟨z22, e_z22⟩ : ∃ z : Int, z = a3 + 1 := ⟨_, rfl⟩
            rw [← e_z22]
            refine yG.store1 xik (L' := [(3, yI (z22)), (0, yR k0), (1, yI (p1)), (2, yI (a2)), (4, yI (a4))]) rfl (fun _ _ => rfl) rfl rfl ?_
            refine yG.load xak rfl (fun _ _ => rfl) (v := yR k0) rfl rfl ?_
            refine yG.getO A_hq.1 (w_M_seenNode W H_k0) rfl rfl (fun r23 H_r23 O_r23 q_r23 => ?_)
            refine yG.num (c := 16) rfl (fun _ _ => rfl) (by decide) ?_
            refine yG.load xik rfl (fun _ _ => rfl) (v := yI (p1)) rfl rfl ?_
            refine yG.imul rfl ?_
            refine yG.load xik rfl (fun _ _ => rfl) (v := yI (a4)) rfl rfl ?_
            refine yG.iadd rfl ?_
            refine yG.load xak rfl (fun _ _ => rfl) (v := yR k0) rfl rfl ?_
            refine yG.getO A_hq.1 (w_M_node W H_k0) rfl rfl (fun r24 H_r24 O_r24 q_r24 => ?_)
            refine yG.load xik rfl (fun _ _ => rfl) (v := yI (a4)) rfl rfl ?_
            refine yG.iald A_hq.1 (v_M_node W H_r24) rfl (by omega) (by omega) (fun z25 e_z25 i_z25 l_z25 u_z25 => ?_)
            refine yG.iast A_hq.1 (v_M_seenNode W H_r23) (W.2.1 _ _ H_r23 (by decide) (by decide)) rfl (by omega) (by omega) ⟨by omega, by omega⟩ (by omega) (by omega) (fun h26 T_h26 b_h26 f_h26 y_h26 => ?_)
            have A_h26 := A_hq.put T_h26 b_h26 f_h26 H_r23 (bAll_ok (by decide) _)
            have qq7 : zsl h26 k0 22 = yR r1 := ((f_h26 k0 22).trans (if_neg (fun e => (bRo.ne H_k0 H_r23 (by decide)) e.1))).trans q_r1
            have : ys h26 r1 (0 : Int).toNat = ys hq r1 (0 : Int).toNat := (y_h26 r1 (0 : Int).toNat).trans (if_neg (fun e => (bRo.ne H_r1 H_r23 (by decide)) e.1))
            have qq8 : zsl h26 k0 35 = yR r9 := ((f_h26 k0 35).trans (if_neg (fun e => (bRo.ne H_k0 H_r23 (by decide)) e.1))).trans q_r9
            have : ys h26 r9 (a4 : Int).toNat = ys hq r9 (a4 : Int).toNat := (y_h26 r9 (a4 : Int).toNat).trans (if_neg (fun e => (bRo.ne H_r9 H_r23 (by decide)) e.1))
            refine yG.load xak rfl (fun _ _ => rfl) (v := yR k0) rfl rfl ?_
            refine yG.getO A_h26.1 (w_M_seenLive W H_k0) rfl rfl (fun r27 H_r27 O_r27 q_r27 => ?_)
            refine yG.num (c := 16) rfl (fun _ _ => rfl) (by decide) ?_
            refine yG.load xik rfl (fun _ _ => rfl) (v := yI (p1)) rfl rfl ?_
            refine yG.imul rfl ?_
            refine yG.load xik rfl (fun _ _ => rfl) (v := yI (a4)) rfl rfl ?_
            refine yG.iadd rfl ?_
            refine yG.load xak rfl (fun _ _ => rfl) (v := yR k0) rfl rfl ?_
            refine yG.getO A_h26.1 (w_M_isLive W H_k0) rfl rfl (fun r28 H_r28 O_r28 q_r28 => ?_)
            refine yG.load xak rfl (fun _ _ => rfl) (v := yR k0) rfl rfl ?_
            refine yG.getS9 A_h26.1 (w_M_island W H_k0) qq8 rfl rfl ?_
            refine yG.load xik rfl (fun _ _ => rfl) (v := yI (a4)) rfl rfl ?_
            refine yG.iald A_h26.1 (v_M_island W H_r9) rfl (by omega) (by omega) (fun z29 e_z29 i_z29 l_z29 u_z29 => ?_)
            rw [show (z29 : Int) = z10 by omega]
            refine yG.bald A_h26.1 (v_M_isLive W H_r28) rfl (by omega) (by omega) (fun z30 e_z30 i_z30 l_z30 u_z30 => ?_)
            refine yG.bast A_h26.1 (v_M_seenLive W H_r27) (W.2.1 _ _ H_r27 (by decide) (by decide)) rfl (by omega) (by omega) ⟨by omega, by omega⟩ (by omega) (by omega) (fun h31 T_h31 b_h31 f_h31 y_h31 => ?_)
            have A_h31 := A_h26.put T_h31 b_h31 f_h31 H_r27 (bAll_ok (by decide) _)
            have qq9 : zsl h31 k0 22 = yR r1 := ((f_h31 k0 22).trans (if_neg (fun e => (bRo.ne H_k0 H_r27 (by decide)) e.1))).trans qq7
            have : ys h31 r1 (0 : Int).toNat = ys h26 r1 (0 : Int).toNat := (y_h31 r1 (0 : Int).toNat).trans (if_neg (fun e => (bRo.ne H_r1 H_r27 (by decide)) e.1))
            have qq10 : zsl h31 k0 35 = yR r9 := ((f_h31 k0 35).trans (if_neg (fun e => (bRo.ne H_k0 H_r27 (by decide)) e.1))).trans qq8
            have : ys h31 r9 (a4 : Int).toNat = ys h26 r9 (a4 : Int).toNat := (y_h31 r9 (a4 : Int).toNat).trans (if_neg (fun e => (bRo.ne H_r9 H_r27 (by decide)) e.1))
            refine yG.iinc rfl (a := a4) rfl (L' := [(4, yI (a4 + 1)), (3, yI (z22)), (0, yR k0), (1, yI (p1)), (2, yI (a2))]) rfl ?_
            refine yG.goto rfl (t := 89) rfl ?_
            exact yG.mono (yG.sub (i_89 (a2) (z22) (a4 + 1)  h31 A_h31   (by omega) (by omega) (by omega) (by omega) (by omega) (by omega) (by omega) (by omega) (by omega) (by omega)) (ySub.cons rfl (ySub.cons rfl (ySub.cons rfl (ySub.cons rfl (ySub.cons rfl (ySub.nil))))))) (by omega)
      · intro a4 hq A_hq f0 f1 f2 f3 hm
        refine yG.mono (N := 48 * m + 48) ?_ (by omega)
        refine yG.load xik rfl (fun _ _ => rfl) (v := yI (a4)) rfl rfl ?_
        refine yG.load xak rfl (fun _ _ => rfl) (v := yR k0) rfl rfl ?_
        refine yG.getO A_hq.1 (w_M_count W H_k0) rfl rfl (fun r1 H_r1 O_r1 q_r1 => ?_)
        refine yG.num (c := 4) rfl (fun _ _ => rfl) (by decide) ?_
        refine yG.ialdF A_hq.1 (v_M_count W H_r1) rfl rfl (by omega) (by omega) (fun z2 e_z2 i_z2 l_z2 u_z2 => ?_)
        refine yG.icmp rfl (t := 254) rfl ⟨by omega, by omega⟩ ⟨by omega, by omega⟩ (fun c3 => ?_) (fun c3 => ?_)
        · have c3 : (a4 : Int) ≥ z2 := c3
          refine yG.load xak rfl (fun _ _ => rfl) (v := yR k0) rfl rfl ?_
          refine yG.getO A_hq.1 (w_M_seenOver W H_k0) rfl rfl (fun r4 H_r4 O_r4 q_r4 => ?_)
          refine yG.load xik rfl (fun _ _ => rfl) (v := yI (p1)) rfl rfl ?_
          refine yG.num (c := -1) rfl (fun _ _ => rfl) (by decide) ?_
          refine yG.iast A_hq.1 (v_M_seenOver W H_r4) (W.2.1 _ _ H_r4 (by decide) (by decide)) rfl (by omega) (by omega) ⟨by omega, by omega⟩ (by omega) (by omega) (fun h5 T_h5 b_h5 f_h5 y_h5 => ?_)
          have A_h5 := A_hq.put T_h5 b_h5 f_h5 H_r4 (bAll_ok (by decide) _)
          refine yG.num (c := 0) rfl (fun _ _ => rfl) (by decide) ?_
          refine yG.store1 xik (L' := [(4, yI (0)), (0, yR k0), (1, yI (p1))]) rfl (fun _ _ => rfl) rfl rfl ?_
          exact yG.mono (yG.sub (i_264 (0)  h5 A_h5   (by omega) (by omega) (by omega) (by omega) (by omega)) (ySub.cons rfl (ySub.cons rfl (ySub.cons rfl (ySub.nil))))) (by omega)
        · have c3 : (a4 : Int) < z2 := c3
          refine yG.load xak rfl (fun _ _ => rfl) (v := yR k0) rfl rfl ?_
          refine yG.getO A_hq.1 (w_M_seenLost W H_k0) rfl rfl (fun r6 H_r6 O_r6 q_r6 => ?_)
          refine yG.load xik rfl (fun _ _ => rfl) (v := yI (p1)) rfl rfl ?_
          refine yG.step (pc' := 212) (stk' := [yI (p1), yR r6, yI (p1), yR r6]) rfl (fun _ _ => rfl) ?_
          refine yG.iald A_hq.1 (v_M_seenLost W H_r6) rfl (by omega) (by omega) (fun z7 e_z7 i_z7 l_z7 u_z7 => ?_)
          refine yG.load xak rfl (fun _ _ => rfl) (v := yR k0) rfl rfl ?_
          refine yG.getO A_hq.1 (w_M_isLive W H_k0) rfl rfl (fun r8 H_r8 O_r8 q_r8 => ?_)
          refine yG.load xak rfl (fun _ _ => rfl) (v := yR k0) rfl rfl ?_
          refine yG.getO A_hq.1 (w_M_island W H_k0) rfl rfl (fun r9 H_r9 O_r9 q_r9 => ?_)
          refine yG.load xak rfl (fun _ _ => rfl) (v := yR k0) rfl rfl ?_
          refine yG.num (c := 4) rfl (fun _ _ => rfl) (by decide) ?_
          refine yG.load xik rfl (fun _ _ => rfl) (v := yI (a4)) rfl rfl ?_
          refine yG.num (c := 1) rfl (fun _ _ => rfl) (by decide) ?_
          refine yG.invV (rest := [yR r9, yR r8, yI (z7), yI (p1), yR r6]) A_hq.1 (bOb (d_M W) H_k0) rfl rfl rfl rfl (c_GModel_of_4_1 W (d + 1) A_hq.1 H_k0 (a4) (by omega) (by omega)) (fun rv hp9 q9 => ?_)
          obtain ⟨⟨z10, rfl, l_z10, u_z10, R_z10⟩, e9⟩ := q9
          rw [e9]
          show yG _ _ _ _ _ _ _ _ _ _ (yI z10 :: [yR r9, yR r8, yI (z7), yI (p1), yR r6]) _
          refine yG.iald A_hq.1 (v_M_island W H_r9) rfl (by omega) (by omega) (fun z11 e_z11 i_z11 l_z11 u_z11 => ?_)
          refine yG.bald A_hq.1 (v_M_isLive W H_r8) rfl (by omega) (by omega) (fun z12 e_z12 i_z12 l_z12 u_z12 => ?_)
          refine yG.ifz rfl (t := 238) rfl ⟨by omega, by omega⟩ (fun c13 => ?_) (fun c13 => ?_)
          · have c13 : (z12 : Int) = 0 := c13
            refine yG.load xak rfl (fun _ _ => rfl) (v := yR k0) rfl rfl ?_
            refine yG.num (c := 4) rfl (fun _ _ => rfl) (by decide) ?_
            refine yG.load xik rfl (fun _ _ => rfl) (v := yI (a4)) rfl rfl ?_
            refine yG.num (c := 0) rfl (fun _ _ => rfl) (by decide) ?_
            refine yG.invV (rest := [yI (z7), yI (p1), yR r6]) A_hq.1 (bOb (d_M W) H_k0) rfl rfl rfl rfl (c_GModel_of_4_0 W (d + 1) A_hq.1 H_k0 (a4) (by omega) (by omega)) (fun rv hp9 q9 => ?_)
            obtain ⟨⟨z14, rfl, l_z14, u_z14, R_z14⟩, e9⟩ := q9
            rw [e9]
            show yG _ _ _ _ _ _ _ _ _ _ (yI z14 :: [yI (z7), yI (p1), yR r6]) _
            refine yG.iadd rfl ?_
            obtain ⟨z15, e_z15, l_z15, u_z15⟩ := ywI (z7 + z14)
            rw [e_z15]
            refine yG.iast A_hq.1 (v_M_seenLost W H_r6) (W.2.1 _ _ H_r6 (by decide) (by decide)) rfl (by omega) (by omega) ⟨by omega, by omega⟩ (by omega) (by omega) (fun h16 T_h16 b_h16 f_h16 y_h16 => ?_)
            have A_h16 := A_hq.put T_h16 b_h16 f_h16 H_r6 (bAll_ok (by decide) _)
            refine yG.iinc rfl (a := a4) rfl (L' := [(4, yI (a4 + 1)), (0, yR k0), (1, yI (p1))]) rfl ?_
            refine yG.goto rfl (t := 195) rfl ?_
            exact yG.mono (yG.sub (i_195 (a4 + 1)  h16 A_h16   (by omega) (by omega) (by omega) (by omega) (by omega)) (ySub.cons rfl (ySub.cons rfl (ySub.cons rfl (ySub.nil))))) (by omega)
          · have c13 : (z12 : Int) ≠ 0 := c13
            refine yG.num (c := 0) rfl (fun _ _ => rfl) (by decide) ?_
            refine yG.goto rfl (t := 246) rfl ?_
            refine yG.iadd rfl ?_
            refine yG.iast A_hq.1 (v_M_seenLost W H_r6) (W.2.1 _ _ H_r6 (by decide) (by decide)) rfl (by omega) (by omega) ⟨by omega, by omega⟩ (by omega) (by omega) (fun h17 T_h17 b_h17 f_h17 y_h17 => ?_)
            have A_h17 := A_hq.put T_h17 b_h17 f_h17 H_r6 (bAll_ok (by decide) _)
            refine yG.iinc rfl (a := a4) rfl (L' := [(4, yI (a4 + 1)), (0, yR k0), (1, yI (p1))]) rfl ?_
            refine yG.goto rfl (t := 195) rfl ?_
            exact yG.mono (yG.sub (i_195 (a4 + 1)  h17 A_h17   (by omega) (by omega) (by omega) (by omega) (by omega)) (ySub.cons rfl (ySub.cons rfl (ySub.cons rfl (ySub.nil))))) (by omega)
      · intro a4 hq A_hq f0 f1 f2 f3 hm
        refine yG.mono (N := 48 * m + 48) ?_ (by omega)
        refine yG.load xik rfl (fun _ _ => rfl) (v := yI (a4)) rfl rfl ?_
        refine yG.num (c := 1320) rfl (fun _ _ => rfl) (by decide) ?_
        refine yG.icmp rfl (t := 298) rfl ⟨by omega, by omega⟩ ⟨by omega, by omega⟩ (fun c1 => ?_) (fun c1 => ?_)
        · have c1 : (a4 : Int) ≥ 1320 := c1
          refine yG.ret rfl (fun _ _ => rfl) ?_
          exact (yP.void ⟨⟨rfl, trivial⟩, A_hq⟩)
        · have c1 : (a4 : Int) < 1320 := c1
          refine yG.load xak rfl (fun _ _ => rfl) (v := yR k0) rfl rfl ?_
          refine yG.getO A_hq.1 (w_M_seenField W H_k0) rfl rfl (fun r2 H_r2 O_r2 q_r2 => ?_)
          refine yG.num (c := 1320) rfl (fun _ _ => rfl) (by decide) ?_
          refine yG.load xik rfl (fun _ _ => rfl) (v := yI (p1)) rfl rfl ?_
          refine yG.imul rfl ?_
          refine yG.load xik rfl (fun _ _ => rfl) (v := yI (a4)) rfl rfl ?_
          refine yG.iadd rfl ?_
          refine yG.load xak rfl (fun _ _ => rfl) (v := yR k0) rfl rfl ?_
          refine yG.getO A_hq.1 (w_M_field W H_k0) rfl rfl (fun r3 H_r3 O_r3 q_r3 => ?_)
          refine yG.load xik rfl (fun _ _ => rfl) (v := yI (a4)) rfl rfl ?_
          refine yG.ialdT A_hq.1 (v_M_field W H_r3) (yhull2 (tf := yfT) (yfT_h _)) rfl (by omega) (by omega) (fun z4 lo_z4 hi_z4 e_z4 i_z4 T_z4 l_z4 u_z4 => ?_)
          obtain ⟨L_z4, U_z4⟩ := yhull (tf := yfT) (yfT_h _) T_z4
          refine yG.iastF A_hq.1 (v_M_seenField W H_r2) ((show (fun j => yfT (j % 1320)) (((1320 * p1) + a4 : Int).toNat) = yfT ((a4 : Int).toNat) from congrArg yfT (by omega)).trans T_z4) (W.2.1 _ _ H_r2 (by decide) (by decide)) rfl (by omega) (by omega) ⟨by omega, by omega⟩ (by omega) (by omega) (fun h5 T_h5 b_h5 f_h5 y_h5 => ?_)
          have A_h5 := A_hq.put T_h5 b_h5 f_h5 H_r2 (bAll_ok (by decide) _)
          refine yG.iinc rfl (a := a4) rfl (L' := [(4, yI (a4 + 1)), (0, yR k0), (1, yI (p1))]) rfl ?_
          refine yG.goto rfl (t := 264) rfl ?_
          exact yG.mono (yG.sub (i_264 (a4 + 1)  h5 A_h5   (by omega) (by omega) (by omega) (by omega) (by omega)) (ySub.cons rfl (ySub.cons rfl (ySub.cons rfl (ySub.nil))))) (by omega)
  refine yC.of (M := (xt_X13_see, (5, (0, (14, []))))) rfl rfl (N := 14719850496) (yfuel (by decide)) ?_
  show yG 89 xfts (xcall 89 xfts xpools xms (d + 3)) (xpool xp_RX13) [] xt_X13_see (yP 0 (fun rv hp' => (rv = none ∧ True) ∧ bAx G [(83076749736557242056487941267521536, 40), (202474193576632774804702611279292652591248485523144298083647488, 256)] hp hp')) 14719850496 0 [(0, yR k0), (1, yI (p1))] [] hp
  obtain ⟨i_20, i_59, i_89, i_195, i_264⟩ := H 306663551
  refine yG.load xak rfl (fun _ _ => rfl) (v := yR k0) rfl rfl ?_
  refine yG.num (c := 0) rfl (fun _ _ => rfl) (by decide) ?_
  refine yG.putI A_hp.1 (w_M_hasFlows W H_k0) (W.2.1 _ _ H_k0 (by decide) (by decide)) rfl rfl (.inr ⟨rfl, rfl, rfl⟩) ⟨by omega, by omega⟩ (by omega) (by omega) (fun h1 T_h1 b_h1 f_h1 y_h1 => ?_)
  have A_h1 := A_hp.put T_h1 b_h1 f_h1 H_k0 (by decide)
  refine yG.load xak rfl (fun _ _ => rfl) (v := yR k0) rfl rfl ?_
  refine yG.invV (rest := []) A_h1.1 (bOb (d_M W) H_k0) rfl rfl rfl rfl (c_GModel_asItIs W d A_h1.1 H_k0) (fun rv h2 q9 => ?_)
  obtain ⟨⟨rfl, R_z3⟩, B_h2⟩ := q9
  have A_h2 := A_h1.tr B_h2 (by decide)
  show yG _ _ _ _ _ _ _ _ _ _ [] _
  refine yG.load xak rfl (fun _ _ => rfl) (v := yR k0) rfl rfl ?_
  refine yG.invV (rest := []) A_h2.1 (bOb (d_M W) H_k0) rfl rfl rfl rfl (c_GModel_topology W d A_h2.1 H_k0) (fun rv h4 q9 => ?_)
  obtain ⟨⟨rfl, R_z5⟩, B_h4⟩ := q9
  have A_h4 := A_h2.tr B_h4 (by decide)
  show yG _ _ _ _ _ _ _ _ _ _ [] _
  refine yG.num (c := 0) rfl (fun _ _ => rfl) (by decide) ?_
  refine yG.store1 xik (L' := [(2, yI (0)), (0, yR k0), (1, yI (p1))]) rfl (fun _ _ => rfl) rfl rfl ?_
  refine yG.num (c := 0) rfl (fun _ _ => rfl) (by decide) ?_
  refine yG.store1 xik (L' := [(3, yI (0)), (2, yI (0)), (0, yR k0), (1, yI (p1))]) rfl (fun _ _ => rfl) rfl rfl ?_
  refine yG.num (c := 0) rfl (fun _ _ => rfl) (by decide) ?_
  refine yG.store1 xik (L' := [(4, yI (0)), (3, yI (0)), (2, yI (0)), (0, yR k0), (1, yI (p1))]) rfl (fun _ _ => rfl) rfl rfl ?_
  exact yG.mono (yG.sub (i_20 (0) (0) (0)  h4 A_h4   (by omega) (by omega) (by omega) (by omega) (by omega) (by omega) (by omega) (by omega) (by omega) (by omega)) (ySub.cons rfl (ySub.cons rfl (ySub.cons rfl (ySub.cons rfl (ySub.cons rfl (ySub.nil))))))) (by omega)
theorem c_GModel_tellLines {hp : xH} (W : mW G) (d : Nat) (hT : zTy G hp) {k0 : Nat} (H_k0 : bRo G 116 k0) (p1 p2 p3 : Int) (h1l : 0 ≤ p1) (h1u : p1 ≤ 15) (h2l : 0 ≤ p2) (h2u : p2 ≤ 15) (h3l : 0 ≤ p3) (h3u : p3 ≤ 2147483646) (q0l : 1 ≤ ys hp k0 11) (q0u : ys hp k0 11 ≤ 2147483647) (q1l : 0 ≤ ys hp k0 10) (q1u : ys hp k0 10 ≤ 39) : yC (xcall 89 xfts xpools xms (d + 5)) 529 [yR k0, yI (p1), yI (p2), yJ (p3)] hp (fun rv hp' => (rv = none ∧ True) ∧ bAx G [(21267647932558653966460912964485513216, 256)] hp hp') := by
  have A_hp : bAx G [(21267647932558653966460912964485513216, 256)] hp hp := bAx.rf hT
  have H : ∀ m : Nat, (∀ a5 : Int, ∀ gg0 : Int, ∀ gg1 : Int, ∀ hq, bAx G [(21267647932558653966460912964485513216, 256)] hp hq → ys hq k0 11 = gg0 → ys hq k0 10 = gg1 → 0 ≤ a5 → (-20) ≤ 0 - a5 → 1 ≤ gg0 → (-2147483647) ≤ 0 - gg0 → 0 ≤ gg1 → (-39) ≤ 0 - gg1 → 0 ≤ p1 → (-15) ≤ 0 - p1 → 0 ≤ p2 → (-15) ≤ 0 - p2 → 0 ≤ p3 → (-2147483646) ≤ 0 - p3 → 0 - 2 * a5 + 41 < (m : Int) → yG 89 xfts (xcall 89 xfts xpools xms (d + 4)) (xpool xp_RX13) [] xt_X13_tellLines (yP 0 (fun rv hp' => (rv = none ∧ True) ∧ bAx G [(21267647932558653966460912964485513216, 256)] hp hp')) (60 * m) 3 [(0, yR k0), (1, yI (p1)), (2, yI (p2)), (3, yJ (p3)), (5, yI (a5))] [] hq) := by
    intro m
    induction m with
    | zero =>
      intros; exfalso; omega
    | succ m ih =>
      have i_3 := ih
      clear ih
      intro a5 gg0 gg1 hq A_hq E_0 E_1 f0 f1 f2 f3 f4 f5 f6 f7 f8 f9 f10 f11 hm
      refine yG.mono (N := 60 * m + 60) ?_ (by omega)
      obtain ⟨-, -, g_0l, g_0u⟩ := (w_M_p W H_k0).long A_hq.1
      obtain ⟨-, -, g_1l, g_1u⟩ := (w_M_usedCount W H_k0).int A_hq.1
      refine yG.load xik rfl (fun _ _ => rfl) (v := yI (a5)) rfl rfl ?_
      refine yG.load xak rfl (fun _ _ => rfl) (v := yR k0) rfl rfl ?_
      refine yG.getO A_hq.1 (w_M_count W H_k0) rfl rfl (fun r1 H_r1 O_r1 q_r1 => ?_)
      refine yG.num (c := 2) rfl (fun _ _ => rfl) (by decide) ?_
      refine yG.ialdF A_hq.1 (v_M_count W H_r1) rfl rfl (by omega) (by omega) (fun z2 e_z2 i_z2 l_z2 u_z2 => ?_)
      refine yG.icmp rfl (t := 107) rfl ⟨by omega, by omega⟩ ⟨by omega, by omega⟩ (fun c3 => ?_) (fun c3 => ?_)
      · have c3 : (a5 : Int) ≥ z2 := c3
        refine yG.ret rfl (fun _ _ => rfl) ?_
        exact (yP.void ⟨⟨rfl, trivial⟩, A_hq⟩)
      · have c3 : (a5 : Int) < z2 := c3
        refine yG.load xak rfl (fun _ _ => rfl) (v := yR k0) rfl rfl ?_
        refine yG.load xik rfl (fun _ _ => rfl) (v := yI (a5)) rfl rfl ?_
        refine yG.invV (rest := []) A_hq.1 (bOb (d_M W) H_k0) rfl rfl rfl rfl (c_GModel_islandOfLine W (d + 1) A_hq.1 H_k0 (a5) (by omega) (by omega)) (fun rv hp9 q9 => ?_)
        obtain ⟨⟨z4, rfl, l_z4, u_z4, R_z4⟩, e9⟩ := q9
        rw [e9]
        show yG _ _ _ _ _ _ _ _ _ _ (yI z4 :: []) _
        refine yG.load xik rfl (fun _ _ => rfl) (v := yI (p1)) rfl rfl ?_
        refine yG.icmp rfl (t := 101) rfl ⟨by omega, by omega⟩ ⟨by omega, by omega⟩ (fun c5 => ?_) (fun c5 => ?_)
        · have c5 : (z4 : Int) ≠ p1 := c5
          refine yG.iinc rfl (a := a5) rfl (L' := [(5, yI (a5 + 1)), (0, yR k0), (1, yI (p1)), (2, yI (p2)), (3, yJ (p3))]) rfl ?_
          refine yG.goto rfl (t := 3) rfl ?_
          exact yG.mono (yG.sub (i_3 (a5 + 1) (ys hq k0 11) (ys hq k0 10) hq A_hq  rfl rfl (by omega) (by omega) (by omega) (by omega) (by omega) (by omega) (by omega) (by omega) (by omega) (by omega) (by omega) (by omega) (by omega)) (ySub.cons rfl (ySub.cons rfl (ySub.cons rfl (ySub.cons rfl (ySub.cons rfl (ySub.nil))))))) (by omega)
        · have c5 : (z4 : Int) = p1 := c5
          refine yG.load xak rfl (fun _ _ => rfl) (v := yR k0) rfl rfl ?_
          refine yG.load xik rfl (fun _ _ => rfl) (v := yI (a5)) rfl rfl ?_
          refine yG.invV (rest := []) A_hq.1 (bOb (d_M W) H_k0) rfl rfl rfl rfl (c_GModel_isBetween W d A_hq.1 H_k0 (a5) (by omega) (by omega)) (fun rv hp9 q9 => ?_)
          obtain ⟨⟨z6, rfl, l_z6, u_z6, R_z6⟩, e9⟩ := q9
          rw [e9]
          show yG _ _ _ _ _ _ _ _ _ _ (yI z6 :: []) _
          refine yG.ifz rfl (t := 101) rfl ⟨by omega, by omega⟩ (fun c7 => ?_) (fun c7 => ?_)
          · have c7 : (z6 : Int) = 0 := c7
            refine yG.iinc rfl (a := a5) rfl (L' := [(5, yI (a5 + 1)), (0, yR k0), (1, yI (p1)), (2, yI (p2)), (3, yJ (p3))]) rfl ?_
            refine yG.goto rfl (t := 3) rfl ?_
            exact yG.mono (yG.sub (i_3 (a5 + 1) (ys hq k0 11) (ys hq k0 10) hq A_hq  rfl rfl (by omega) (by omega) (by omega) (by omega) (by omega) (by omega) (by omega) (by omega) (by omega) (by omega) (by omega) (by omega) (by omega)) (ySub.cons rfl (ySub.cons rfl (ySub.cons rfl (ySub.cons rfl (ySub.cons rfl (ySub.nil))))))) (by omega)
          · have c7 : (z6 : Int) ≠ 0 := c7
            refine yG.load xak rfl (fun _ _ => rfl) (v := yR k0) rfl rfl ?_
            refine yG.load xak rfl (fun _ _ => rfl) (v := yR k0) rfl rfl ?_
            refine yG.load xak rfl (fun _ _ => rfl) (v := yR k0) rfl rfl ?_
            refine yG.load xik rfl (fun _ _ => rfl) (v := yI (a5)) rfl rfl ?_
            refine yG.num (c := 0) rfl (fun _ _ => rfl) (by decide) ?_
            refine yG.invV (rest := [yR k0, yR k0]) A_hq.1 (bOb (d_M W) H_k0) rfl rfl rfl rfl (c_GModel_nodeOfLine W (d + 1) A_hq.1 H_k0 (a5) (0) (by omega) (by omega) (by omega) (by omega)) (fun rv hp9 q9 => ?_)
            obtain ⟨⟨z8, rfl, l_z8, u_z8, R_z8⟩, e9⟩ := q9
            rw [e9]
            show yG _ _ _ _ _ _ _ _ _ _ (yI z8 :: [yR k0, yR k0]) _
            refine yG.load xik rfl (fun _ _ => rfl) (v := yI (p2)) rfl rfl ?_
            refine yG.invV (rest := [yR k0]) A_hq.1 (bOb (d_M W) H_k0) rfl rfl rfl rfl (c_GModel_angleAt W (d + 3) A_hq.1 H_k0 (z8) (p2) (by omega) (by omega) (by omega) (by omega)) (fun rv hp9 q9 => ?_)
            obtain ⟨⟨z9, rfl, l_z9, u_z9, R_z9⟩, e9⟩ := q9
            rw [e9]
            show yG _ _ _ _ _ _ _ _ _ _ (yJ z9 :: [yR k0]) _
            refine yG.load xak rfl (fun _ _ => rfl) (v := yR k0) rfl rfl ?_
            refine yG.load xak rfl (fun _ _ => rfl) (v := yR k0) rfl rfl ?_
            refine yG.load xik rfl (fun _ _ => rfl) (v := yI (a5)) rfl rfl ?_
            refine yG.num (c := 1) rfl (fun _ _ => rfl) (by decide) ?_
            refine yG.invV (rest := [yR k0, yJ (z9), yR k0]) A_hq.1 (bOb (d_M W) H_k0) rfl rfl rfl rfl (c_GModel_nodeOfLine W (d + 1) A_hq.1 H_k0 (a5) (1) (by omega) (by omega) (by omega) (by omega)) (fun rv hp9 q9 => ?_)
            obtain ⟨⟨z10, rfl, l_z10, u_z10, R_z10⟩, e9⟩ := q9
            rw [e9]
            show yG _ _ _ _ _ _ _ _ _ _ (yI z10 :: [yR k0, yJ (z9), yR k0]) _
            refine yG.load xik rfl (fun _ _ => rfl) (v := yI (p2)) rfl rfl ?_
            refine yG.invV (rest := [yJ (z9), yR k0]) A_hq.1 (bOb (d_M W) H_k0) rfl rfl rfl rfl (c_GModel_angleAt W (d + 3) A_hq.1 H_k0 (z10) (p2) (by omega) (by omega) (by omega) (by omega)) (fun rv hp9 q9 => ?_)
            obtain ⟨⟨z11, rfl, l_z11, u_z11, R_z11⟩, e9⟩ := q9
            rw [e9]
            show yG _ _ _ _ _ _ _ _ _ _ (yJ z11 :: [yJ (z9), yR k0]) _
            refine yG.lsub rfl ?_
            refine yG.invV (rest := []) A_hq.1 (bOb (d_M W) H_k0) rfl rfl rfl rfl (c_GModel_mod W (d + 3) A_hq.1 H_k0 (z9 - z11) (by omega) (by omega) (by omega) (by omega)) (fun rv hp9 q9 => ?_)
            obtain ⟨⟨z12, rfl, l_z12, u_z12, R_z12⟩, e9⟩ := q9
            rw [e9]
            show yG _ _ _ _ _ _ _ _ _ _ (yJ z12 :: []) _
            refine yG.store2 xlk2 (L' := [(6, yJ (z12)), (0, yR k0), (1, yI (p1)), (2, yI (p2)), (3, yJ (p3)), (5, yI (a5))]) rfl (fun _ _ => rfl) rfl rfl ?_
            refine yG.load xak rfl (fun _ _ => rfl) (v := yR k0) rfl rfl ?_
            refine yG.num (c := 20) rfl (fun _ _ => rfl) (by decide) ?_
            refine yG.load xik rfl (fun _ _ => rfl) (v := yI (a5)) rfl rfl ?_
            refine yG.iadd rfl ?_
            refine yG.load xlk2 rfl (fun _ _ => rfl) (v := yJ (z12)) rfl rfl ?_
            refine yG.load xak rfl (fun _ _ => rfl) (v := yR k0) rfl rfl ?_
            refine yG.load xak rfl (fun _ _ => rfl) (v := yR k0) rfl rfl ?_
            refine yG.num (c := 2) rfl (fun _ _ => rfl) (by decide) ?_
            refine yG.load xik rfl (fun _ _ => rfl) (v := yI (a5)) rfl rfl ?_
            refine yG.num (c := 1) rfl (fun _ _ => rfl) (by decide) ?_
            refine yG.invV (rest := [yR k0, yJ (z12), yI (20 + a5), yR k0]) A_hq.1 (bOb (d_M W) H_k0) rfl rfl rfl rfl (c_GModel_of_2_1 W (d + 2) A_hq.1 H_k0 (a5) (by omega) (by omega)) (fun rv hp9 q9 => ?_)
            obtain ⟨⟨z13, rfl, l_z13, u_z13, R_z13⟩, e9⟩ := q9
            rw [e9]
            show yG _ _ _ _ _ _ _ _ _ _ (yI z13 :: [yR k0, yJ (z12), yI (20 + a5), yR k0]) _
            refine yG.i2l rfl ⟨by omega, by omega⟩ ?_
            refine yG.invV (rest := [yJ (z12), yI (20 + a5), yR k0]) A_hq.1 (bOb (d_M W) H_k0) rfl rfl rfl rfl (c_GModel_inverse_ W (d + 2) A_hq.1 H_k0 (z13) (by omega) (by omega) (by omega) (by omega)) (fun rv hp9 q9 => ?_)
            obtain ⟨⟨z14, rfl, l_z14, u_z14, R_z14⟩, e9⟩ := q9
            rw [e9]
            show yG _ _ _ _ _ _ _ _ _ _ (yJ z14 :: [yJ (z12), yI (20 + a5), yR k0]) _
            refine yG.lmul rfl ?_
            obtain ⟨z15, e_z15⟩ : ∃ z : Int, z = z12 * z14 := ⟨_, rfl⟩
            rw [← e_z15]
            have b_z15 : 0 ≤ z15 ∧ z15 ≤ 4611686009837453316 := e_z15 ▸ ymulb (A := 2147483646) (B := 2147483646) (by omega) (by omega) (by omega) (by omega) (by decide)
            have b2_z15 : z15 ≤ 2147483646 * z14 := e_z15 ▸ bmulx (by omega) (by omega)
            have b3_z15 : z15 ≤ 2147483646 * z12 := e_z15 ▸ bmuly (by omega) (by omega)
            refine yG.load xak rfl (fun _ _ => rfl) (v := yR k0) rfl rfl ?_
            refine yG.getJ A_hq.1 (w_M_p W H_k0) rfl rfl (fun z16 e_z16 i_z16 l_z16 u_z16 => ?_)
            rw [show (z16 : Int) = gg0 by omega]
            refine yG.lrem rfl ⟨by omega, by omega⟩ ⟨by omega, by omega⟩ (by omega) (by omega) ?_
            obtain ⟨z17, e_z17⟩ : ∃ z : Int, z = (z15) % (gg0) := ⟨_, rfl⟩
            rw [← e_z17]
            have b_z17 : 0 ≤ z17 ∧ z17 < gg0 := e_z17 ▸ ⟨Int.emod_nonneg _ (by omega), Int.emod_lt_of_pos _ (by omega)⟩
            refine yG.load xlk2 rfl (fun _ _ => rfl) (v := yJ (p3)) rfl rfl ?_
            refine yG.lmul rfl ?_
            obtain ⟨z18, e_z18⟩ : ∃ z : Int, z = z17 * p3 := ⟨_, rfl⟩
            rw [← e_z18]
            have b_z18 : 0 ≤ z18 ∧ z18 ≤ 4611686009837453316 := e_z18 ▸ ymulb (A := 2147483646) (B := 2147483646) (by omega) (by omega) (by omega) (by omega) (by decide)
            have b2_z18 : z18 ≤ 2147483646 * p3 := e_z18 ▸ bmulx (by omega) (by omega)
            have b3_z18 : z18 ≤ 2147483646 * z17 := e_z18 ▸ bmuly (by omega) (by omega)
            refine yG.load xak rfl (fun _ _ => rfl) (v := yR k0) rfl rfl ?_
            refine yG.getJ A_hq.1 (w_M_p W H_k0) rfl rfl (fun z19 e_z19 i_z19 l_z19 u_z19 => ?_)
            rw [show (z19 : Int) = gg0 by omega]
            refine yG.lrem rfl ⟨by omega, by omega⟩ ⟨by omega, by omega⟩ (by omega) (by omega) ?_
            obtain ⟨z20, e_z20⟩ : ∃ z : Int, z = (z18) % (gg0) := ⟨_, rfl⟩
            rw [← e_z20]
            have b_z20 : 0 ≤ z20 ∧ z20 < gg0 := e_z20 ▸ ⟨Int.emod_nonneg _ (by omega), Int.emod_lt_of_pos _ (by omega)⟩
            refine yG.invV (rest := []) A_hq.1 (bOb (d_M W) H_k0) rfl rfl rfl rfl (c_GModel_tell W (d + 3) A_hq.1 H_k0 (20 + a5) (z20) (by omega) (by omega) (by omega) (by omega) (by omega) (by omega)) (fun rv h21 q9 => ?_)
            obtain ⟨⟨rfl, R_z22⟩, B_h21⟩ := q9
            have A_h21 := A_hq.tr B_h21 (by decide)
            have : ys h21 k0 11 = ys hq k0 11 := B_h21.ys H_k0 (by decide)
            have : ys h21 k0 10 = ys hq k0 10 := B_h21.ys H_k0 (by decide)
            show yG _ _ _ _ _ _ _ _ _ _ [] _
            refine yG.iinc rfl (a := a5) rfl (L' := [(5, yI (a5 + 1)), (6, yJ (z12)), (0, yR k0), (1, yI (p1)), (2, yI (p2)), (3, yJ (p3))]) rfl ?_
            refine yG.goto rfl (t := 3) rfl ?_
            exact yG.mono (yG.sub (i_3 (a5 + 1) (ys h21 k0 11) (ys h21 k0 10) h21 A_h21  rfl rfl (by omega) (by omega) (by omega) (by omega) (by omega) (by omega) (by omega) (by omega) (by omega) (by omega) (by omega) (by omega) (by omega)) (ySub.cons rfl (ySub.cons rfl (ySub.cons rfl (ySub.cons rfl (ySub.cons rfl (ySub.nil))))))) (by omega)
  refine yC.of (M := (xt_X13_tellLines, (8, (0, (14, []))))) rfl rfl (N := 2640) (yfuel (by decide)) ?_
  show yG 89 xfts (xcall 89 xfts xpools xms (d + 4)) (xpool xp_RX13) [] xt_X13_tellLines (yP 0 (fun rv hp' => (rv = none ∧ True) ∧ bAx G [(21267647932558653966460912964485513216, 256)] hp hp')) 2640 0 [(0, yR k0), (1, yI (p1)), (2, yI (p2)), (3, yJ (p3))] [] hp
  have i_3 := H 43
  obtain ⟨gg0, E_0⟩ : ∃ z : Int, ys hp k0 11 = z := ⟨_, rfl⟩
  obtain ⟨-, -, g_0l, g_0u⟩ := (w_M_p W H_k0).long hT
  obtain ⟨gg1, E_1⟩ : ∃ z : Int, ys hp k0 10 = z := ⟨_, rfl⟩
  obtain ⟨-, -, g_1l, g_1u⟩ := (w_M_usedCount W H_k0).int hT
  refine yG.num (c := 0) rfl (fun _ _ => rfl) (by decide) ?_
  refine yG.store1 xik (L' := [(5, yI (0)), (0, yR k0), (1, yI (p1)), (2, yI (p2)), (3, yJ (p3))]) rfl (fun _ _ => rfl) rfl rfl ?_
  exact yG.mono (yG.sub (i_3 (0) (ys hp k0 11) (ys hp k0 10) hp A_hp  rfl rfl (by omega) (by omega) (by omega) (by omega) (by omega) (by omega) (by omega) (by omega) (by omega) (by omega) (by omega) (by omega) (by omega)) (ySub.cons rfl (ySub.cons rfl (ySub.cons rfl (ySub.cons rfl (ySub.cons rfl (ySub.nil))))))) (by omega)
theorem c_GModel_fieldOf {hp : xH} (W : mW G) (d : Nat) (hT : zTy G hp) (p0 p1 : Int) (h0l : 0 ≤ p0) (h0u : p0 ≤ 5) (h1l : 0 ≤ p1) (h1u : p1 ≤ 23) : yC (xcall 89 xfts xpools xms (d + 2)) 398 [yI (p0), yI (p1)] hp (bQpi hp 0 519 (fun z => 0 ≤ 0 - p0 + z + 3 ∧ 0 ≤ p0 - z + 517 ∧ 0 ≤ 0 - p1 + z ∧ 0 ≤ p1 - z + 496)) := by
  have A_hp : bAx G [] hp hp := bAx.rf hT
  refine yC.of (M := (xt_X13_fieldOf, (2, (1, (14, []))))) rfl rfl (N := 48) (yfuel (by decide)) ?_
  show yG 89 xfts (xcall 89 xfts xpools xms (d + 1)) (xpool xp_RX13) [] xt_X13_fieldOf (yP 1 (bQpi hp 0 519 (fun z => 0 ≤ 0 - p0 + z + 3 ∧ 0 ≤ p0 - z + 517 ∧ 0 ≤ 0 - p1 + z ∧ 0 ≤ p1 - z + 496))) 48 0 [(0, yI (p0)), (1, yI (p1))] [] hp
  refine yG.load xik rfl (fun _ _ => rfl) (v := yI (p0)) rfl rfl ?_
  refine yG.invS (rest := []) rfl rfl rfl rfl (c_GModel_isOfBar W d A_hp.1 (p0) (by omega) (by omega)) (fun rv hp9 q9 => ?_)
  obtain ⟨⟨z1, rfl, l_z1, u_z1, R_z1⟩, e9⟩ := q9
  rw [e9]
  show yG _ _ _ _ _ _ _ _ _ _ (yI z1 :: []) _
  refine yG.ifz rfl (t := 16) rfl ⟨by omega, by omega⟩ (fun c2 => ?_) (fun c2 => ?_)
  · have c2 : (z1 : Int) = 0 := c2
    refine yG.num (c := 1) rfl (fun _ _ => rfl) (by decide) ?_
    refine yG.load xik rfl (fun _ _ => rfl) (v := yI (p1)) rfl rfl ?_
    refine yG.load xik rfl (fun _ _ => rfl) (v := yI (p0)) rfl rfl ?_
    refine yG.ifz rfl (t := 27) rfl ⟨by omega, by omega⟩ (fun c3 => ?_) (fun c3 => ?_)
    · have c3 : (p0 : Int) = 0 := c3
      refine yG.num (c := 0) rfl (fun _ _ => rfl) (by decide) ?_
      refine yG.goto rfl (t := 32) rfl ?_
      refine yG.invS (rest := []) rfl rfl rfl rfl (c_GModel_f W d A_hp.1 (1) (p1) (0) (by omega) (by omega) (by omega) (by omega) (by omega) (by omega)) (fun rv hp9 q9 => ?_)
      obtain ⟨⟨z4, rfl, l_z4, u_z4, R_z4⟩, e9⟩ := q9
      rw [e9]
      show yG _ _ _ _ _ _ _ _ _ _ (yI z4 :: []) _
      refine yG.ret rfl (fun _ _ => rfl) ?_
      exact (yP.int ⟨by omega, by omega⟩ ⟨⟨z4, rfl, by omega, by omega, by omega⟩, rfl⟩)
    · have c3 : (p0 : Int) ≠ 0 := c3
      refine yG.load xik rfl (fun _ _ => rfl) (v := yI (p0)) rfl rfl ?_
      refine yG.num (c := 1) rfl (fun _ _ => rfl) (by decide) ?_
      refine yG.icmp rfl (t := 31) rfl ⟨by omega, by omega⟩ ⟨by omega, by omega⟩ (fun c5 => ?_) (fun c5 => ?_)
      · have c5 : (p0 : Int) ≠ 1 := c5
        refine yG.num (c := 2) rfl (fun _ _ => rfl) (by decide) ?_
        refine yG.invS (rest := []) rfl rfl rfl rfl (c_GModel_f W d A_hp.1 (1) (p1) (2) (by omega) (by omega) (by omega) (by omega) (by omega) (by omega)) (fun rv hp9 q9 => ?_)
        obtain ⟨⟨z6, rfl, l_z6, u_z6, R_z6⟩, e9⟩ := q9
        rw [e9]
        show yG _ _ _ _ _ _ _ _ _ _ (yI z6 :: []) _
        refine yG.ret rfl (fun _ _ => rfl) ?_
        exact (yP.int ⟨by omega, by omega⟩ ⟨⟨z6, rfl, by omega, by omega, by omega⟩, rfl⟩)
      · have c5 : (p0 : Int) = 1 := c5
        refine yG.num (c := 0) rfl (fun _ _ => rfl) (by decide) ?_
        refine yG.goto rfl (t := 32) rfl ?_
        refine yG.invS (rest := []) rfl rfl rfl rfl (c_GModel_f W d A_hp.1 (1) (p1) (0) (by omega) (by omega) (by omega) (by omega) (by omega) (by omega)) (fun rv hp9 q9 => ?_)
        obtain ⟨⟨z7, rfl, l_z7, u_z7, R_z7⟩, e9⟩ := q9
        rw [e9]
        show yG _ _ _ _ _ _ _ _ _ _ (yI z7 :: []) _
        refine yG.ret rfl (fun _ _ => rfl) ?_
        exact (yP.int ⟨by omega, by omega⟩ ⟨⟨z7, rfl, by omega, by omega, by omega⟩, rfl⟩)
  · have c2 : (z1 : Int) ≠ 0 := c2
    refine yG.num (c := 0) rfl (fun _ _ => rfl) (by decide) ?_
    refine yG.load xik rfl (fun _ _ => rfl) (v := yI (p1)) rfl rfl ?_
    refine yG.num (c := 0) rfl (fun _ _ => rfl) (by decide) ?_
    refine yG.invS (rest := []) rfl rfl rfl rfl (c_GModel_f W d A_hp.1 (0) (p1) (0) (by omega) (by omega) (by omega) (by omega) (by omega) (by omega)) (fun rv hp9 q9 => ?_)
    obtain ⟨⟨z8, rfl, l_z8, u_z8, R_z8⟩, e9⟩ := q9
    rw [e9]
    show yG _ _ _ _ _ _ _ _ _ _ (yI z8 :: []) _
    refine yG.goto rfl (t := 35) rfl ?_
    refine yG.ret rfl (fun _ _ => rfl) ?_
    exact (yP.int ⟨by omega, by omega⟩ ⟨⟨z8, rfl, by omega, by omega, by omega⟩, rfl⟩)
theorem c_GModel_backUp {hp : xH} (W : mW G) (d : Nat) (hT : zTy G hp) {k0 : Nat} (H_k0 : bRo G 116 k0) (p1 p2 : Int) (h1l : 0 ≤ p1) (h1u : p1 ≤ 23) (h2l : 0 ≤ p2) (h2u : p2 ≤ 2147483647) : yC (xcall 89 xfts xpools xms (d + 5)) 355 [yR k0, yI (p1), yJ (p2)] hp (fun rv hp' => (rv = none ∧ True) ∧ bAx G [(83076749736557242056487941267521536, 40), (83076749736557242056487941267521536, 77), (1340933598344068138707859813429971443972909132746326016, 256)] hp hp') := by
  have A_hp : bAx G [(83076749736557242056487941267521536, 40), (83076749736557242056487941267521536, 77), (1340933598344068138707859813429971443972909132746326016, 256)] hp hp := bAx.rf hT
  have H : ∀ m : Nat, (∀ a4 : Int, ∀ a5 : Int, ∀ a6 : Int, ∀ hq, bAx G [(83076749736557242056487941267521536, 40), (83076749736557242056487941267521536, 77), (1340933598344068138707859813429971443972909132746326016, 256)] hp hq → 0 ≤ a4 → (-15) ≤ 0 - a4 → 0 ≤ a5 → (-15) ≤ 0 - a5 → 0 ≤ a6 → (-24) ≤ 0 - a6 → 0 ≤ p1 → (-23) ≤ 0 - p1 → 0 ≤ p2 → (-2147483647) ≤ 0 - p2 → 0 - 3 * a6 + 74 < (m : Int) → yG 89 xfts (xcall 89 xfts xpools xms (d + 4)) (xpool xp_RX13) [] xt_X13_backUp (yP 0 (fun rv hp' => (rv = none ∧ True) ∧ bAx G [(83076749736557242056487941267521536, 40), (83076749736557242056487941267521536, 77), (1340933598344068138707859813429971443972909132746326016, 256)] hp hp')) (43 * m) 39 [(0, yR k0), (1, yI (p1)), (2, yJ (p2)), (4, yI (a4)), (5, yI (a5)), (6, yI (a6))] [] hq) ∧ (∀ a4 : Int, ∀ a5 : Int, ∀ a6 : Int, ∀ hq, bAx G [(83076749736557242056487941267521536, 40), (83076749736557242056487941267521536, 77), (1340933598344068138707859813429971443972909132746326016, 256)] hp hq → 0 ≤ a4 → (-15) ≤ 0 - a4 → 0 ≤ a5 → (-15) ≤ 0 - a5 → 0 ≤ a6 → (-23) ≤ 0 - a6 → 0 ≤ p1 → (-23) ≤ 0 - p1 → 0 ≤ p2 → (-2147483647) ≤ 0 - p2 → 0 - 3 * a6 + 73 < (m : Int) → yG 89 xfts (xcall 89 xfts xpools xms (d + 4)) (xpool xp_RX13) [] xt_X13_backUp (yP 0 (fun rv hp' => (rv = none ∧ True) ∧ bAx G [(83076749736557242056487941267521536, 40), (83076749736557242056487941267521536, 77), (1340933598344068138707859813429971443972909132746326016, 256)] hp hp')) (43 * m) 114 [(0, yR k0), (1, yI (p1)), (2, yJ (p2)), (4, yI (a4)), (5, yI (a5)), (6, yI (a6))] [] hq) := by
    intro m
    induction m with
    | zero =>
      refine ⟨?_, ?_⟩ <;> (intros; exfalso; omega)
    | succ m ih =>
      obtain ⟨i_39, i_114⟩ := ih
      refine ⟨?_, ?_⟩
      · intro a4 a5 a6 hq A_hq f0 f1 f2 f3 f4 f5 f6 f7 f8 f9 hm
        refine yG.mono (N := 43 * m + 43) ?_ (by omega)
        refine yG.load xik rfl (fun _ _ => rfl) (v := yI (a6)) rfl rfl ?_
        refine yG.load xak rfl (fun _ _ => rfl) (v := yR k0) rfl rfl ?_
        refine yG.getO A_hq.1 (w_M_count W H_k0) rfl rfl (fun r1 H_r1 O_r1 q_r1 => ?_)
        refine yG.num (c := 1) rfl (fun _ _ => rfl) (by decide) ?_
        refine yG.ialdF A_hq.1 (v_M_count W H_r1) rfl rfl (by omega) (by omega) (fun z2 e_z2 i_z2 l_z2 u_z2 => ?_)
        refine yG.icmp rfl (t := 129) rfl ⟨by omega, by omega⟩ ⟨by omega, by omega⟩ (fun c3 => ?_) (fun c3 => ?_)
        · have c3 : (a6 : Int) ≥ z2 := c3
          refine yG.ret rfl (fun _ _ => rfl) ?_
          exact (yP.void ⟨⟨rfl, trivial⟩, A_hq⟩)
        · have c3 : (a6 : Int) < z2 := c3
          refine yG.load xak rfl (fun _ _ => rfl) (v := yR k0) rfl rfl ?_
          refine yG.getO A_hq.1 (w_M_node W H_k0) rfl rfl (fun r4 H_r4 O_r4 q_r4 => ?_)
          refine yG.load xak rfl (fun _ _ => rfl) (v := yR k0) rfl rfl ?_
          refine yG.num (c := 1) rfl (fun _ _ => rfl) (by decide) ?_
          refine yG.load xik rfl (fun _ _ => rfl) (v := yI (a6)) rfl rfl ?_
          refine yG.num (c := 3) rfl (fun _ _ => rfl) (by decide) ?_
          refine yG.invV (rest := [yR r4]) A_hq.1 (bOb (d_M W) H_k0) rfl rfl rfl rfl (c_GModel_of_1_3 W (d + 2) A_hq.1 H_k0 (a6) (by omega) (by omega)) (fun rv hp9 q9 => ?_)
          obtain ⟨⟨z5, rfl, l_z5, u_z5, R_z5⟩, e9⟩ := q9
          rw [e9]
          show yG _ _ _ _ _ _ _ _ _ _ (yI z5 :: [yR r4]) _
          refine yG.iald A_hq.1 (v_M_node W H_r4) rfl (by omega) (by omega) (fun z6 e_z6 i_z6 l_z6 u_z6 => ?_)
          refine yG.store1 xik (L' := [(7, yI (z6)), (0, yR k0), (1, yI (p1)), (2, yJ (p2)), (4, yI (a4)), (5, yI (a5)), (6, yI (a6))]) rfl (fun _ _ => rfl) rfl rfl ?_
          refine yG.load xak rfl (fun _ _ => rfl) (v := yR k0) rfl rfl ?_
          refine yG.getS9 A_hq.1 (w_M_node W H_k0) q_r4 rfl rfl ?_
          refine yG.load xak rfl (fun _ _ => rfl) (v := yR k0) rfl rfl ?_
          refine yG.num (c := 1) rfl (fun _ _ => rfl) (by decide) ?_
          refine yG.load xik rfl (fun _ _ => rfl) (v := yI (a6)) rfl rfl ?_
          refine yG.num (c := 4) rfl (fun _ _ => rfl) (by decide) ?_
          refine yG.invV (rest := [yR r4]) A_hq.1 (bOb (d_M W) H_k0) rfl rfl rfl rfl (c_GModel_of_1_4 W (d + 2) A_hq.1 H_k0 (a6) (by omega) (by omega)) (fun rv hp9 q9 => ?_)
          obtain ⟨⟨z7, rfl, l_z7, u_z7, R_z7⟩, e9⟩ := q9
          rw [e9]
          show yG _ _ _ _ _ _ _ _ _ _ (yI z7 :: [yR r4]) _
          refine yG.iald A_hq.1 (v_M_node W H_r4) rfl (by omega) (by omega) (fun z8 e_z8 i_z8 l_z8 u_z8 => ?_)
          refine yG.store1 xik (L' := [(8, yI (z8)), (7, yI (z6)), (0, yR k0), (1, yI (p1)), (2, yJ (p2)), (4, yI (a4)), (5, yI (a5)), (6, yI (a6))]) rfl (fun _ _ => rfl) rfl rfl ?_
          refine yG.load xik rfl (fun _ _ => rfl) (v := yI (a6)) rfl rfl ?_
          refine yG.load xik rfl (fun _ _ => rfl) (v := yI (p1)) rfl rfl ?_
          refine yG.icmp rfl (t := 123) rfl ⟨by omega, by omega⟩ ⟨by omega, by omega⟩ (fun c9 => ?_) (fun c9 => ?_)
          · have c9 : (a6 : Int) = p1 := c9
            refine yG.iinc rfl (a := a6) rfl (L' := [(6, yI (a6 + 1)), (8, yI (z8)), (7, yI (z6)), (0, yR k0), (1, yI (p1)), (2, yJ (p2)), (4, yI (a4)), (5, yI (a5))]) rfl ?_
            refine yG.goto rfl (t := 39) rfl ?_
            exact yG.mono (yG.sub (i_39 (a4) (a5) (a6 + 1)  hq A_hq   (by omega) (by omega) (by omega) (by omega) (by omega) (by omega) (by omega) (by omega) (by omega) (by omega) (by omega)) (ySub.cons rfl (ySub.cons rfl (ySub.cons rfl (ySub.cons rfl (ySub.cons rfl (ySub.cons rfl (ySub.nil)))))))) (by omega)
          · have c9 : (a6 : Int) ≠ p1 := c9
            refine yG.load xik rfl (fun _ _ => rfl) (v := yI (z6)) rfl rfl ?_
            refine yG.load xik rfl (fun _ _ => rfl) (v := yI (a4)) rfl rfl ?_
            refine yG.icmp rfl (t := 114) rfl ⟨by omega, by omega⟩ ⟨by omega, by omega⟩ (fun c10 => ?_) (fun c10 => ?_)
            · have c10 : (z6 : Int) = a4 := c10
              exact yG.mono (yG.sub (i_114 (a4) (a5) (a6)  hq A_hq   (by omega) (by omega) (by omega) (by omega) (by omega) (by omega) (by omega) (by omega) (by omega) (by omega) (by omega)) (ySub.cons rfl (ySub.cons rfl (ySub.cons rfl (ySub.cons rfl (ySub.cons rfl (ySub.cons rfl (ySub.nil)))))))) (by omega)
            · have c10 : (z6 : Int) ≠ a4 := c10
              refine yG.load xik rfl (fun _ _ => rfl) (v := yI (z6)) rfl rfl ?_
              refine yG.load xik rfl (fun _ _ => rfl) (v := yI (a5)) rfl rfl ?_
              refine yG.icmp rfl (t := 114) rfl ⟨by omega, by omega⟩ ⟨by omega, by omega⟩ (fun c11 => ?_) (fun c11 => ?_)
              · have c11 : (z6 : Int) = a5 := c11
                exact yG.mono (yG.sub (i_114 (a4) (a5) (a6)  hq A_hq   (by omega) (by omega) (by omega) (by omega) (by omega) (by omega) (by omega) (by omega) (by omega) (by omega) (by omega)) (ySub.cons rfl (ySub.cons rfl (ySub.cons rfl (ySub.cons rfl (ySub.cons rfl (ySub.cons rfl (ySub.nil)))))))) (by omega)
              · have c11 : (z6 : Int) ≠ a5 := c11
                refine yG.load xik rfl (fun _ _ => rfl) (v := yI (z8)) rfl rfl ?_
                refine yG.load xik rfl (fun _ _ => rfl) (v := yI (a4)) rfl rfl ?_
                refine yG.icmp rfl (t := 114) rfl ⟨by omega, by omega⟩ ⟨by omega, by omega⟩ (fun c12 => ?_) (fun c12 => ?_)
                · have c12 : (z8 : Int) = a4 := c12
                  exact yG.mono (yG.sub (i_114 (a4) (a5) (a6)  hq A_hq   (by omega) (by omega) (by omega) (by omega) (by omega) (by omega) (by omega) (by omega) (by omega) (by omega) (by omega)) (ySub.cons rfl (ySub.cons rfl (ySub.cons rfl (ySub.cons rfl (ySub.cons rfl (ySub.cons rfl (ySub.nil)))))))) (by omega)
                · have c12 : (z8 : Int) ≠ a4 := c12
                  refine yG.load xik rfl (fun _ _ => rfl) (v := yI (z8)) rfl rfl ?_
                  refine yG.load xik rfl (fun _ _ => rfl) (v := yI (a5)) rfl rfl ?_
                  refine yG.icmp rfl (t := 123) rfl ⟨by omega, by omega⟩ ⟨by omega, by omega⟩ (fun c13 => ?_) (fun c13 => ?_)
                  · have c13 : (z8 : Int) ≠ a5 := c13
                    refine yG.iinc rfl (a := a6) rfl (L' := [(6, yI (a6 + 1)), (8, yI (z8)), (7, yI (z6)), (0, yR k0), (1, yI (p1)), (2, yJ (p2)), (4, yI (a4)), (5, yI (a5))]) rfl ?_
                    refine yG.goto rfl (t := 39) rfl ?_
                    exact yG.mono (yG.sub (i_39 (a4) (a5) (a6 + 1)  hq A_hq   (by omega) (by omega) (by omega) (by omega) (by omega) (by omega) (by omega) (by omega) (by omega) (by omega) (by omega)) (ySub.cons rfl (ySub.cons rfl (ySub.cons rfl (ySub.cons rfl (ySub.cons rfl (ySub.cons rfl (ySub.nil)))))))) (by omega)
                  · have c13 : (z8 : Int) = a5 := c13
                    exact yG.mono (yG.sub (i_114 (a4) (a5) (a6)  hq A_hq   (by omega) (by omega) (by omega) (by omega) (by omega) (by omega) (by omega) (by omega) (by omega) (by omega) (by omega)) (ySub.cons rfl (ySub.cons rfl (ySub.cons rfl (ySub.cons rfl (ySub.cons rfl (ySub.cons rfl (ySub.nil)))))))) (by omega)
      · intro a4 a5 a6 hq A_hq f0 f1 f2 f3 f4 f5 f6 f7 f8 f9 hm
        refine yG.mono (N := 43 * m + 43) ?_ (by omega)
        refine yG.load xak rfl (fun _ _ => rfl) (v := yR k0) rfl rfl ?_
        refine yG.load xik rfl (fun _ _ => rfl) (v := yI (a6)) rfl rfl ?_
        refine yG.load xlk2 rfl (fun _ _ => rfl) (v := yJ (p2)) rfl rfl ?_
        refine yG.invV (rest := []) A_hq.1 (bOb (d_M W) H_k0) rfl rfl rfl rfl (c_GModel_giveOrder W (d + 1) A_hq.1 H_k0 (a6) (p2) (by omega) (by omega) (by omega) (by omega)) (fun rv h1 q9 => ?_)
        obtain ⟨⟨z2, rfl, l_z2, u_z2, R_z2⟩, B_h1⟩ := q9
        have A_h1 := A_hq.tr B_h1 (by decide)
        show yG _ _ _ _ _ _ _ _ _ _ (yI z2 :: []) _
        refine yG.store1 xik (L' := [(9, yI (z2)), (0, yR k0), (1, yI (p1)), (2, yJ (p2)), (4, yI (a4)), (5, yI (a5)), (6, yI (a6))]) rfl (fun _ _ => rfl) rfl rfl ?_
        refine yG.iinc rfl (a := a6) rfl (L' := [(6, yI (a6 + 1)), (9, yI (z2)), (0, yR k0), (1, yI (p1)), (2, yJ (p2)), (4, yI (a4)), (5, yI (a5))]) rfl ?_
        refine yG.goto rfl (t := 39) rfl ?_
        exact yG.mono (yG.sub (i_39 (a4) (a5) (a6 + 1)  h1 A_h1   (by omega) (by omega) (by omega) (by omega) (by omega) (by omega) (by omega) (by omega) (by omega) (by omega) (by omega)) (ySub.cons rfl (ySub.cons rfl (ySub.cons rfl (ySub.cons rfl (ySub.cons rfl (ySub.cons rfl (ySub.nil)))))))) (by omega)
  refine yC.of (M := (xt_X13_backUp, (10, (0, (14, []))))) rfl rfl (N := 3311) (yfuel (by decide)) ?_
  show yG 89 xfts (xcall 89 xfts xpools xms (d + 4)) (xpool xp_RX13) [] xt_X13_backUp (yP 0 (fun rv hp' => (rv = none ∧ True) ∧ bAx G [(83076749736557242056487941267521536, 40), (83076749736557242056487941267521536, 77), (1340933598344068138707859813429971443972909132746326016, 256)] hp hp')) 3311 0 [(0, yR k0), (1, yI (p1)), (2, yJ (p2))] [] hp
  obtain ⟨i_39, i_114⟩ := H 76
  refine yG.load xak rfl (fun _ _ => rfl) (v := yR k0) rfl rfl ?_
  refine yG.invV (rest := []) A_hp.1 (bOb (d_M W) H_k0) rfl rfl rfl rfl (c_GModel_asInRun W d A_hp.1 H_k0) (fun rv h1 q9 => ?_)
  obtain ⟨⟨rfl, R_z2⟩, B_h1⟩ := q9
  have A_h1 := A_hp.tr B_h1 (by decide)
  show yG _ _ _ _ _ _ _ _ _ _ [] _
  refine yG.load xak rfl (fun _ _ => rfl) (v := yR k0) rfl rfl ?_
  refine yG.invV (rest := []) A_h1.1 (bOb (d_M W) H_k0) rfl rfl rfl rfl (c_GModel_topology W (d + 1) A_h1.1 H_k0) (fun rv h3 q9 => ?_)
  obtain ⟨⟨rfl, R_z4⟩, B_h3⟩ := q9
  have A_h3 := A_h1.tr B_h3 (by decide)
  show yG _ _ _ _ _ _ _ _ _ _ [] _
  refine yG.load xak rfl (fun _ _ => rfl) (v := yR k0) rfl rfl ?_
  refine yG.getO A_h3.1 (w_M_node W H_k0) rfl rfl (fun r5 H_r5 O_r5 q_r5 => ?_)
  refine yG.load xak rfl (fun _ _ => rfl) (v := yR k0) rfl rfl ?_
  refine yG.num (c := 1) rfl (fun _ _ => rfl) (by decide) ?_
  refine yG.load xik rfl (fun _ _ => rfl) (v := yI (p1)) rfl rfl ?_
  refine yG.num (c := 3) rfl (fun _ _ => rfl) (by decide) ?_
  refine yG.invV (rest := [yR r5]) A_h3.1 (bOb (d_M W) H_k0) rfl rfl rfl rfl (c_GModel_of_1_3 W (d + 2) A_h3.1 H_k0 (p1) (by omega) (by omega)) (fun rv hp9 q9 => ?_)
  obtain ⟨⟨z6, rfl, l_z6, u_z6, R_z6⟩, e9⟩ := q9
  rw [e9]
  show yG _ _ _ _ _ _ _ _ _ _ (yI z6 :: [yR r5]) _
  refine yG.iald A_h3.1 (v_M_node W H_r5) rfl (by omega) (by omega) (fun z7 e_z7 i_z7 l_z7 u_z7 => ?_)
  refine yG.store1 xik (L' := [(4, yI (z7)), (0, yR k0), (1, yI (p1)), (2, yJ (p2))]) rfl (fun _ _ => rfl) rfl rfl ?_
  refine yG.load xak rfl (fun _ _ => rfl) (v := yR k0) rfl rfl ?_
  refine yG.getS9 A_h3.1 (w_M_node W H_k0) q_r5 rfl rfl ?_
  refine yG.load xak rfl (fun _ _ => rfl) (v := yR k0) rfl rfl ?_
  refine yG.num (c := 1) rfl (fun _ _ => rfl) (by decide) ?_
  refine yG.load xik rfl (fun _ _ => rfl) (v := yI (p1)) rfl rfl ?_
  refine yG.num (c := 4) rfl (fun _ _ => rfl) (by decide) ?_
  refine yG.invV (rest := [yR r5]) A_h3.1 (bOb (d_M W) H_k0) rfl rfl rfl rfl (c_GModel_of_1_4 W (d + 2) A_h3.1 H_k0 (p1) (by omega) (by omega)) (fun rv hp9 q9 => ?_)
  obtain ⟨⟨z8, rfl, l_z8, u_z8, R_z8⟩, e9⟩ := q9
  rw [e9]
  show yG _ _ _ _ _ _ _ _ _ _ (yI z8 :: [yR r5]) _
  refine yG.iald A_h3.1 (v_M_node W H_r5) rfl (by omega) (by omega) (fun z9 e_z9 i_z9 l_z9 u_z9 => ?_)
  refine yG.store1 xik (L' := [(5, yI (z9)), (4, yI (z7)), (0, yR k0), (1, yI (p1)), (2, yJ (p2))]) rfl (fun _ _ => rfl) rfl rfl ?_
  refine yG.num (c := 0) rfl (fun _ _ => rfl) (by decide) ?_
  refine yG.store1 xik (L' := [(6, yI (0)), (5, yI (z9)), (4, yI (z7)), (0, yR k0), (1, yI (p1)), (2, yJ (p2))]) rfl (fun _ _ => rfl) rfl rfl ?_
  exact yG.mono (yG.sub (i_39 (z7) (z9) (0)  h3 A_h3   (by omega) (by omega) (by omega) (by omega) (by omega) (by omega) (by omega) (by omega) (by omega) (by omega) (by omega)) (ySub.cons rfl (ySub.cons rfl (ySub.cons rfl (ySub.cons rfl (ySub.cons rfl (ySub.cons rfl (ySub.nil)))))))) (by omega)
theorem c_GModel_objectOf {hp : xH} (W : mW G) (d : Nat) (hT : zTy G hp) {k0 : Nat} (H_k0 : bRo G 116 k0) (p1 p2 : Int) (h1l : (-3) ≤ p1) (h1u : p1 ≤ 23) (h2l : 0 ≤ p2) (h2u : p2 ≤ 23) : yC (xcall 89 xfts xpools xms (d + 3)) 470 [yR k0, yI (p1), yI (p2)] hp (bQpi hp (-2) 23 (fun z => 0 ≤ 0 - p1 + z ∧ 0 ≤ p1 - z + 24)) := by
  have A_hp : bAx G [] hp hp := bAx.rf hT
  refine yC.of (M := (xt_X13_objectOf, (3, (1, (14, []))))) rfl rfl (N := 54) (yfuel (by decide)) ?_
  show yG 89 xfts (xcall 89 xfts xpools xms (d + 2)) (xpool xp_RX13) [] xt_X13_objectOf (yP 1 (bQpi hp (-2) 23 (fun z => 0 ≤ 0 - p1 + z ∧ 0 ≤ p1 - z + 24))) 54 0 [(0, yR k0), (1, yI (p1)), (2, yI (p2))] [] hp
  refine yG.load xik rfl (fun _ _ => rfl) (v := yI (p1)) rfl rfl ?_
  refine yG.num (c := -1) rfl (fun _ _ => rfl) (by decide) ?_
  refine yG.icmp rfl (t := 9) rfl ⟨by omega, by omega⟩ ⟨by omega, by omega⟩ (fun c1 => ?_) (fun c1 => ?_)
  · have c1 : (p1 : Int) ≠ (-1) := c1
    refine yG.load xik rfl (fun _ _ => rfl) (v := yI (p1)) rfl rfl ?_
    refine yG.num (c := -2) rfl (fun _ _ => rfl) (by decide) ?_
    refine yG.icmp rfl (t := 25) rfl ⟨by omega, by omega⟩ ⟨by omega, by omega⟩ (fun c2 => ?_) (fun c2 => ?_)
    · have c2 : (p1 : Int) ≠ (-2) := c2
      refine yG.load xik rfl (fun _ _ => rfl) (v := yI (p1)) rfl rfl ?_
      refine yG.num (c := -3) rfl (fun _ _ => rfl) (by decide) ?_
      refine yG.icmp rfl (t := 41) rfl ⟨by omega, by omega⟩ ⟨by omega, by omega⟩ (fun c3 => ?_) (fun c3 => ?_)
      · have c3 : (p1 : Int) ≠ (-3) := c3
        refine yG.load xik rfl (fun _ _ => rfl) (v := yI (p1)) rfl rfl ?_
        refine yG.ret rfl (fun _ _ => rfl) ?_
        exact (yP.int ⟨by omega, by omega⟩ ⟨⟨p1, rfl, by omega, by omega, by omega⟩, rfl⟩)
      · have c3 : (p1 : Int) = (-3) := c3
        refine yG.load xak rfl (fun _ _ => rfl) (v := yR k0) rfl rfl ?_
        refine yG.num (c := 1) rfl (fun _ _ => rfl) (by decide) ?_
        refine yG.load xik rfl (fun _ _ => rfl) (v := yI (p2)) rfl rfl ?_
        refine yG.num (c := 4) rfl (fun _ _ => rfl) (by decide) ?_
        refine yG.invV (rest := []) A_hp.1 (bOb (d_M W) H_k0) rfl rfl rfl rfl (c_GModel_of_1_4 W d A_hp.1 H_k0 (p2) (by omega) (by omega)) (fun rv hp9 q9 => ?_)
        obtain ⟨⟨z4, rfl, l_z4, u_z4, R_z4⟩, e9⟩ := q9
        rw [e9]
        show yG _ _ _ _ _ _ _ _ _ _ (yI z4 :: []) _
        refine yG.goto rfl (t := 42) rfl ?_
        refine yG.ret rfl (fun _ _ => rfl) ?_
        exact (yP.int ⟨by omega, by omega⟩ ⟨⟨z4, rfl, by omega, by omega, by omega⟩, rfl⟩)
    · have c2 : (p1 : Int) = (-2) := c2
      refine yG.load xak rfl (fun _ _ => rfl) (v := yR k0) rfl rfl ?_
      refine yG.num (c := 1) rfl (fun _ _ => rfl) (by decide) ?_
      refine yG.load xik rfl (fun _ _ => rfl) (v := yI (p2)) rfl rfl ?_
      refine yG.num (c := 3) rfl (fun _ _ => rfl) (by decide) ?_
      refine yG.invV (rest := []) A_hp.1 (bOb (d_M W) H_k0) rfl rfl rfl rfl (c_GModel_of_1_3 W d A_hp.1 H_k0 (p2) (by omega) (by omega)) (fun rv hp9 q9 => ?_)
      obtain ⟨⟨z5, rfl, l_z5, u_z5, R_z5⟩, e9⟩ := q9
      rw [e9]
      show yG _ _ _ _ _ _ _ _ _ _ (yI z5 :: []) _
      refine yG.goto rfl (t := 42) rfl ?_
      refine yG.ret rfl (fun _ _ => rfl) ?_
      exact (yP.int ⟨by omega, by omega⟩ ⟨⟨z5, rfl, by omega, by omega, by omega⟩, rfl⟩)
  · have c1 : (p1 : Int) = (-1) := c1
    refine yG.load xik rfl (fun _ _ => rfl) (v := yI (p2)) rfl rfl ?_
    refine yG.goto rfl (t := 42) rfl ?_
    refine yG.ret rfl (fun _ _ => rfl) ?_
    exact (yP.int ⟨by omega, by omega⟩ ⟨⟨p2, rfl, by omega, by omega, by omega⟩, rfl⟩)
theorem c_GModel_sharesBy {hp : xH} (W : mW G) (d : Nat) (hT : zTy G hp) {k0 : Nat} (H_k0 : bRo G 116 k0) (p1 p2 : Int) (h1l : 0 ≤ p1) (h1u : p1 ≤ 15) (h2l : 0 ≤ p2) (h2u : p2 ≤ 15) (q0l : 1 ≤ ys hp k0 11) (q0u : ys hp k0 11 ≤ 2147483647) : yC (xcall 89 xfts xpools xms (d + 6)) 507 [yR k0, yI (p1), yI (p2)] hp (bQj G [(85070591730234615865843651857942052864, 256)] hp 0 2147483646 (fun _ => True)) := by
  have A_hp : bAx G [(85070591730234615865843651857942052864, 256)] hp hp := bAx.rf hT
  have H : ∀ m : Nat, (∀ a3 : Int, ∀ a5 : Int, ∀ gg0 : Int, ∀ hq, bAx G [(85070591730234615865843651857942052864, 256)] hp hq → ys hq k0 11 = gg0 → 0 ≤ a3 → (-2147483646) ≤ 0 - a3 → 0 ≤ a5 → (-6) ≤ 0 - a5 → 1 ≤ gg0 → (-2147483647) ≤ 0 - gg0 → 0 ≤ p1 → (-15) ≤ 0 - p1 → 0 ≤ p2 → (-15) ≤ 0 - p2 → 0 - 40 * a5 + 279 < (m : Int) → yG 89 xfts (xcall 89 xfts xpools xms (d + 5)) (xpool xp_RX13) [] xt_X13_sharesBy (yP 2 (bQj G [(85070591730234615865843651857942052864, 256)] hp 0 2147483646 (fun _ => True))) (71 * m) 22 [(0, yR k0), (1, yI (p1)), (2, yI (p2)), (3, yJ (a3)), (5, yI (a5))] [] hq) ∧ (∀ a3 : Int, ∀ a5 : Int, ∀ gg0 : Int, ∀ hq, bAx G [(85070591730234615865843651857942052864, 256)] hp hq → ys hq k0 11 = gg0 → 0 ≤ a3 → (-2147483646) ≤ 0 - a3 → 0 ≤ a5 → (-12) ≤ 0 - a5 → 1 ≤ gg0 → (-2147483647) ≤ 0 - gg0 → 0 ≤ p1 → (-15) ≤ 0 - p1 → 0 ≤ p2 → (-15) ≤ 0 - p2 → 0 - 3 * a5 + 38 < (m : Int) → yG 89 xfts (xcall 89 xfts xpools xms (d + 5)) (xpool xp_RX13) [] xt_X13_sharesBy (yP 2 (bQj G [(85070591730234615865843651857942052864, 256)] hp 0 2147483646 (fun _ => True))) (71 * m) 87 [(0, yR k0), (1, yI (p1)), (2, yI (p2)), (3, yJ (a3)), (5, yI (a5))] [] hq) ∧ (∀ a3 : Int, ∀ gg0 : Int, ∀ hq, bAx G [(85070591730234615865843651857942052864, 256)] hp hq → ys hq k0 11 = gg0 → 0 ≤ a3 → (-2147483646) ≤ 0 - a3 → 1 ≤ gg0 → (-2147483647) ≤ 0 - gg0 → 0 ≤ p1 → (-15) ≤ 0 - p1 → 0 ≤ p2 → (-15) ≤ 0 - p2 → 1 < (m : Int) → yG 89 xfts (xcall 89 xfts xpools xms (d + 5)) (xpool xp_RX13) [] xt_X13_sharesBy (yP 2 (bQj G [(85070591730234615865843651857942052864, 256)] hp 0 2147483646 (fun _ => True))) (71 * m) 308 [(0, yR k0), (2, yI (p2)), (3, yJ (a3))] [] hq) := by
    intro m
    induction m with
    | zero =>
      refine ⟨?_, ?_, ?_⟩ <;> (intros; exfalso; omega)
    | succ m ih =>
      obtain ⟨i_22, i_87, i_308⟩ := ih
      refine ⟨?_, ?_, ?_⟩
      · intro a3 a5 gg0 hq A_hq E_0 f0 f1 f2 f3 f4 f5 f6 f7 f8 f9 hm
        refine yG.mono (N := 71 * m + 71) ?_ (by omega)
        obtain ⟨-, -, g_0l, g_0u⟩ := (w_M_p W H_k0).long A_hq.1
        refine yG.load xik rfl (fun _ _ => rfl) (v := yI (a5)) rfl rfl ?_
        refine yG.load xak rfl (fun _ _ => rfl) (v := yR k0) rfl rfl ?_
        refine yG.getI A_hq.1 (w_M_machines W H_k0) rfl rfl (fun z1 e_z1 i_z1 l_z1 u_z1 => ?_)
        refine yG.icmp rfl (t := 84) rfl ⟨by omega, by omega⟩ ⟨by omega, by omega⟩ (fun c2 => ?_) (fun c2 => ?_)
        · have c2 : (a5 : Int) ≥ z1 := c2
          refine yG.num (c := 0) rfl (fun _ _ => rfl) (by decide) ?_
          refine yG.store1 xik (L' := [(5, yI (0)), (0, yR k0), (1, yI (p1)), (2, yI (p2)), (3, yJ (a3))]) rfl (fun _ _ => rfl) rfl rfl ?_
          exact yG.mono (yG.sub (i_87 (a3) (0) (ys hq k0 11) hq A_hq  rfl (by omega) (by omega) (by omega) (by omega) (by omega) (by omega) (by omega) (by omega) (by omega) (by omega) (by omega)) (ySub.cons rfl (ySub.cons rfl (ySub.cons rfl (ySub.cons rfl (ySub.cons rfl (ySub.nil))))))) (by omega)
        · have c2 : (a5 : Int) < z1 := c2
          refine yG.load xak rfl (fun _ _ => rfl) (v := yR k0) rfl rfl ?_
          refine yG.getO A_hq.1 (w_M_placeOf W H_k0) rfl rfl (fun r3 H_r3 O_r3 q_r3 => ?_)
          refine yG.load xak rfl (fun _ _ => rfl) (v := yR k0) rfl rfl ?_
          refine yG.getO A_hq.1 (w_M_node W H_k0) rfl rfl (fun r4 H_r4 O_r4 q_r4 => ?_)
          refine yG.load xak rfl (fun _ _ => rfl) (v := yR k0) rfl rfl ?_
          refine yG.num (c := 3) rfl (fun _ _ => rfl) (by decide) ?_
          refine yG.load xak rfl (fun _ _ => rfl) (v := yR k0) rfl rfl ?_
          refine yG.getO A_hq.1 (w_M_machineAt W H_k0) rfl rfl (fun r5 H_r5 O_r5 q_r5 => ?_)
          refine yG.load xik rfl (fun _ _ => rfl) (v := yI (a5)) rfl rfl ?_
          refine yG.iald A_hq.1 (v_M_machineAt W H_r5) rfl (by omega) (by omega) (fun z6 e_z6 i_z6 l_z6 u_z6 => ?_)
          refine yG.num (c := 10) rfl (fun _ _ => rfl) (by decide) ?_
          refine yG.invV (rest := [yR r4, yR r3]) A_hq.1 (bOb (d_M W) H_k0) rfl rfl rfl rfl (c_GModel_of_3_10 W (d + 3) A_hq.1 H_k0 (z6) (by omega) (by omega)) (fun rv hp9 q9 => ?_)
          obtain ⟨⟨z7, rfl, l_z7, u_z7, R_z7⟩, e9⟩ := q9
          rw [e9]
          show yG _ _ _ _ _ _ _ _ _ _ (yI z7 :: [yR r4, yR r3]) _
          refine yG.iald A_hq.1 (v_M_node W H_r4) rfl (by omega) (by omega) (fun z8 e_z8 i_z8 l_z8 u_z8 => ?_)
          refine yG.iald A_hq.1 (v_M_placeOf W H_r3) rfl (by omega) (by omega) (fun z9 e_z9 i_z9 l_z9 u_z9 => ?_)
          refine yG.store1 xik (L' := [(6, yI (z9)), (0, yR k0), (1, yI (p1)), (2, yI (p2)), (3, yJ (a3)), (5, yI (a5))]) rfl (fun _ _ => rfl) rfl rfl ?_
          refine yG.load xik rfl (fun _ _ => rfl) (v := yI (z9)) rfl rfl ?_
          refine yG.ifz rfl (t := 78) rfl ⟨by omega, by omega⟩ (fun c10 => ?_) (fun c10 => ?_)
          · have c10 : (z9 : Int) < 0 := c10
            refine yG.iinc rfl (a := a5) rfl (L' := [(5, yI (a5 + 1)), (6, yI (z9)), (0, yR k0), (1, yI (p1)), (2, yI (p2)), (3, yJ (a3))]) rfl ?_
            refine yG.goto rfl (t := 22) rfl ?_
            exact yG.mono (yG.sub (i_22 (a3) (a5 + 1) (ys hq k0 11) hq A_hq  rfl (by omega) (by omega) (by omega) (by omega) (by omega) (by omega) (by omega) (by omega) (by omega) (by omega) (by omega)) (ySub.cons rfl (ySub.cons rfl (ySub.cons rfl (ySub.cons rfl (ySub.cons rfl (ySub.nil))))))) (by omega)
          · have c10 : (z9 : Int) ≥ 0 := c10
            refine yG.load xak rfl (fun _ _ => rfl) (v := yR k0) rfl rfl ?_
            refine yG.getO A_hq.1 (w_M_matrix W H_k0) rfl rfl (fun r11 H_r11 O_r11 q_r11 => ?_)
            refine yG.num (c := 48) rfl (fun _ _ => rfl) (by decide) ?_
            refine yG.load xik rfl (fun _ _ => rfl) (v := yI (z9)) rfl rfl ?_
            refine yG.imul rfl ?_
            refine yG.load xik rfl (fun _ _ => rfl) (v := yI (p2)) rfl rfl ?_
            refine yG.iadd rfl ?_
            refine yG.load xik rfl (fun _ _ => rfl) (v := yI (a5)) rfl rfl ?_
            refine yG.iadd rfl ?_
            refine yG.numl (c := 1) rfl (fun _ _ => rfl) (by decide) ?_
            refine yG.last A_hq.1 (v_M_matrix W H_r11) (W.2.1 _ _ H_r11 (by decide) (by decide)) rfl (by omega) (by omega) ⟨by omega, by omega⟩ (by omega) (by omega) (fun h12 T_h12 b_h12 f_h12 y_h12 => ?_)
            have A_h12 := A_hq.put T_h12 b_h12 f_h12 H_r11 (bAll_ok (by decide) _)
            have : ys h12 k0 11 = ys hq k0 11 := (y_h12 k0 11).trans (if_neg (fun e => (bRo.ne H_k0 H_r11 (by decide)) e.1))
            refine yG.iinc rfl (a := a5) rfl (L' := [(5, yI (a5 + 1)), (6, yI (z9)), (0, yR k0), (1, yI (p1)), (2, yI (p2)), (3, yJ (a3))]) rfl ?_
            refine yG.goto rfl (t := 22) rfl ?_
            exact yG.mono (yG.sub (i_22 (a3) (a5 + 1) (ys h12 k0 11) h12 A_h12  rfl (by omega) (by omega) (by omega) (by omega) (by omega) (by omega) (by omega) (by omega) (by omega) (by omega) (by omega)) (ySub.cons rfl (ySub.cons rfl (ySub.cons rfl (ySub.cons rfl (ySub.cons rfl (ySub.nil))))))) (by omega)
      · intro a3 a5 gg0 hq A_hq E_0 f0 f1 f2 f3 f4 f5 f6 f7 f8 f9 hm
        refine yG.mono (N := 71 * m + 71) ?_ (by omega)
        obtain ⟨-, -, g_0l, g_0u⟩ := (w_M_p W H_k0).long A_hq.1
        refine yG.load xik rfl (fun _ _ => rfl) (v := yI (a5)) rfl rfl ?_
        refine yG.load xak rfl (fun _ _ => rfl) (v := yR k0) rfl rfl ?_
        refine yG.getO A_hq.1 (w_M_count W H_k0) rfl rfl (fun r1 H_r1 O_r1 q_r1 => ?_)
        refine yG.num (c := 4) rfl (fun _ _ => rfl) (by decide) ?_
        refine yG.ialdF A_hq.1 (v_M_count W H_r1) rfl rfl (by omega) (by omega) (fun z2 e_z2 i_z2 l_z2 u_z2 => ?_)
        refine yG.icmp rfl (t := 196) rfl ⟨by omega, by omega⟩ ⟨by omega, by omega⟩ (fun c3 => ?_) (fun c3 => ?_)
        · have c3 : (a5 : Int) ≥ z2 := c3
          refine yG.load xak rfl (fun _ _ => rfl) (v := yR k0) rfl rfl ?_
          refine yG.getO A_hq.1 (w_M_island W H_k0) rfl rfl (fun r4 H_r4 O_r4 q_r4 => ?_)
          refine yG.load xak rfl (fun _ _ => rfl) (v := yR k0) rfl rfl ?_
          refine yG.getI A_hq.1 (w_M_moreAt W H_k0) rfl rfl (fun z5 e_z5 i_z5 l_z5 u_z5 => ?_)
          refine yG.iald A_hq.1 (v_M_island W H_r4) rfl (by omega) (by omega) (fun z6 e_z6 i_z6 l_z6 u_z6 => ?_)
          refine yG.load xik rfl (fun _ _ => rfl) (v := yI (p1)) rfl rfl ?_
          refine yG.icmp rfl (t := 241) rfl ⟨by omega, by omega⟩ ⟨by omega, by omega⟩ (fun c7 => ?_) (fun c7 => ?_)
          · have c7 : (z6 : Int) ≠ p1 := c7
            refine yG.numl (c := 0) rfl (fun _ _ => rfl) (by decide) ?_
            refine yG.store2 xlk2 (L' := [(5, yJ (0)), (0, yR k0), (1, yI (p1)), (2, yI (p2)), (3, yJ (a3))]) rfl (fun _ _ => rfl) rfl rfl ?_
            refine yG.load xlk2 rfl (fun _ _ => rfl) (v := yJ (0)) rfl rfl ?_
            refine yG.numl (c := 0) rfl (fun _ _ => rfl) (by decide) ?_
            refine yG.lcmp rfl ⟨by omega, by omega⟩ ⟨by omega, by omega⟩ (fun z8 e_z8 => ?_)
            refine yG.ifz rfl (t := 308) rfl ⟨by omega, by omega⟩ (fun c9 => ?_) (fun c9 => ?_)
            · have c9 : (z8 : Int) ≤ 0 := c9
              exact yG.mono (yG.sub (i_308 (a3) (ys hq k0 11) hq A_hq  rfl (by omega) (by omega) (by omega) (by omega) (by omega) (by omega) (by omega) (by omega) (by omega)) (ySub.cons rfl (ySub.cons rfl (ySub.cons rfl (ySub.nil))))) (by omega)
            · have c9 : (z8 : Int) > 0 := c9
              exfalso; omega
          · have c7 : (z6 : Int) = p1 := c7
            refine yG.load xak rfl (fun _ _ => rfl) (v := yR k0) rfl rfl ?_
            refine yG.getI A_hq.1 (w_M_moreBy W H_k0) rfl rfl (fun z10 e_z10 i_z10 l_z10 u_z10 => ?_)
            refine yG.ifz rfl (t := 241) rfl ⟨by omega, by omega⟩ (fun c11 => ?_) (fun c11 => ?_)
            · have c11 : (z10 : Int) ≤ 0 := c11
              refine yG.numl (c := 0) rfl (fun _ _ => rfl) (by decide) ?_
              refine yG.store2 xlk2 (L' := [(5, yJ (0)), (0, yR k0), (1, yI (p1)), (2, yI (p2)), (3, yJ (a3))]) rfl (fun _ _ => rfl) rfl rfl ?_
              refine yG.load xlk2 rfl (fun _ _ => rfl) (v := yJ (0)) rfl rfl ?_
              refine yG.numl (c := 0) rfl (fun _ _ => rfl) (by decide) ?_
              refine yG.lcmp rfl ⟨by omega, by omega⟩ ⟨by omega, by omega⟩ (fun z12 e_z12 => ?_)
              refine yG.ifz rfl (t := 308) rfl ⟨by omega, by omega⟩ (fun c13 => ?_) (fun c13 => ?_)
              · have c13 : (z12 : Int) ≤ 0 := c13
                exact yG.mono (yG.sub (i_308 (a3) (ys hq k0 11) hq A_hq  rfl (by omega) (by omega) (by omega) (by omega) (by omega) (by omega) (by omega) (by omega) (by omega)) (ySub.cons rfl (ySub.cons rfl (ySub.cons rfl (ySub.nil))))) (by omega)
              · have c13 : (z12 : Int) > 0 := c13
                exfalso; omega
            · have c11 : (z10 : Int) > 0 := c11
              refine yG.load xak rfl (fun _ _ => rfl) (v := yR k0) rfl rfl ?_
              refine yG.getO A_hq.1 (w_M_placeOf W H_k0) rfl rfl (fun r14 H_r14 O_r14 q_r14 => ?_)
              refine yG.load xak rfl (fun _ _ => rfl) (v := yR k0) rfl rfl ?_
              refine yG.getO A_hq.1 (w_M_node W H_k0) rfl rfl (fun r15 H_r15 O_r15 q_r15 => ?_)
              refine yG.load xak rfl (fun _ _ => rfl) (v := yR k0) rfl rfl ?_
              refine yG.getI A_hq.1 (w_M_moreAt W H_k0) rfl rfl (fun z16 e_z16 i_z16 l_z16 u_z16 => ?_)
              rw [show (z16 : Int) = z5 by omega]
              refine yG.iald A_hq.1 (v_M_node W H_r15) rfl (by omega) (by omega) (fun z17 e_z17 i_z17 l_z17 u_z17 => ?_)
              refine yG.iald A_hq.1 (v_M_placeOf W H_r14) rfl (by omega) (by omega) (fun z18 e_z18 i_z18 l_z18 u_z18 => ?_)
              refine yG.ifz rfl (t := 241) rfl ⟨by omega, by omega⟩ (fun c19 => ?_) (fun c19 => ?_)
              · have c19 : (z18 : Int) < 0 := c19
                refine yG.numl (c := 0) rfl (fun _ _ => rfl) (by decide) ?_
                refine yG.store2 xlk2 (L' := [(5, yJ (0)), (0, yR k0), (1, yI (p1)), (2, yI (p2)), (3, yJ (a3))]) rfl (fun _ _ => rfl) rfl rfl ?_
                refine yG.load xlk2 rfl (fun _ _ => rfl) (v := yJ (0)) rfl rfl ?_
                refine yG.numl (c := 0) rfl (fun _ _ => rfl) (by decide) ?_
                refine yG.lcmp rfl ⟨by omega, by omega⟩ ⟨by omega, by omega⟩ (fun z20 e_z20 => ?_)
                refine yG.ifz rfl (t := 308) rfl ⟨by omega, by omega⟩ (fun c21 => ?_) (fun c21 => ?_)
                · have c21 : (z20 : Int) ≤ 0 := c21
                  exact yG.mono (yG.sub (i_308 (a3) (ys hq k0 11) hq A_hq  rfl (by omega) (by omega) (by omega) (by omega) (by omega) (by omega) (by omega) (by omega) (by omega)) (ySub.cons rfl (ySub.cons rfl (ySub.cons rfl (ySub.nil))))) (by omega)
                · have c21 : (z20 : Int) > 0 := c21
                  exfalso; omega
              · have c19 : (z18 : Int) ≥ 0 := c19
                refine yG.load xak rfl (fun _ _ => rfl) (v := yR k0) rfl rfl ?_
                refine yG.getI A_hq.1 (w_M_moreBy W H_k0) rfl rfl (fun z22 e_z22 i_z22 l_z22 u_z22 => ?_)
                rw [show (z22 : Int) = z10 by omega]
                refine yG.i2l rfl ⟨by omega, by omega⟩ ?_
                refine yG.goto rfl (t := 242) rfl ?_
                refine yG.store2 xlk2 (L' := [(5, yJ (z10)), (0, yR k0), (1, yI (p1)), (2, yI (p2)), (3, yJ (a3))]) rfl (fun _ _ => rfl) rfl rfl ?_
                refine yG.load xlk2 rfl (fun _ _ => rfl) (v := yJ (z10)) rfl rfl ?_
                refine yG.numl (c := 0) rfl (fun _ _ => rfl) (by decide) ?_
                refine yG.lcmp rfl ⟨by omega, by omega⟩ ⟨by omega, by omega⟩ (fun z23 e_z23 => ?_)
                refine yG.ifz rfl (t := 308) rfl ⟨by omega, by omega⟩ (fun c24 => ?_) (fun c24 => ?_)
                · have c24 : (z23 : Int) ≤ 0 := c24
                  exfalso; omega
                · have c24 : (z23 : Int) > 0 := c24
                  refine yG.load xak rfl (fun _ _ => rfl) (v := yR k0) rfl rfl ?_
                  refine yG.getS9 A_hq.1 (w_M_placeOf W H_k0) q_r14 rfl rfl ?_
                  refine yG.load xak rfl (fun _ _ => rfl) (v := yR k0) rfl rfl ?_
                  refine yG.getS9 A_hq.1 (w_M_node W H_k0) q_r15 rfl rfl ?_
                  refine yG.load xak rfl (fun _ _ => rfl) (v := yR k0) rfl rfl ?_
                  refine yG.getI A_hq.1 (w_M_moreAt W H_k0) rfl rfl (fun z25 e_z25 i_z25 l_z25 u_z25 => ?_)
                  rw [show (z25 : Int) = z5 by omega]
                  refine yG.iald A_hq.1 (v_M_node W H_r15) rfl (by omega) (by omega) (fun z26 e_z26 i_z26 l_z26 u_z26 => ?_)
                  rw [show (z26 : Int) = z17 by omega]
                  refine yG.iald A_hq.1 (v_M_placeOf W H_r14) rfl (by omega) (by omega) (fun z27 e_z27 i_z27 l_z27 u_z27 => ?_)
                  rw [show (z27 : Int) = z18 by omega]
                  refine yG.store1 xik (L' := [(7, yI (z18)), (5, yJ (z10)), (0, yR k0), (1, yI (p1)), (2, yI (p2)), (3, yJ (a3))]) rfl (fun _ _ => rfl) rfl rfl ?_
                  refine yG.load xak rfl (fun _ _ => rfl) (v := yR k0) rfl rfl ?_
                  refine yG.getO A_hq.1 (w_M_matrix W H_k0) rfl rfl (fun r28 H_r28 O_r28 q_r28 => ?_)
                  refine yG.num (c := 48) rfl (fun _ _ => rfl) (by decide) ?_
                  refine yG.load xik rfl (fun _ _ => rfl) (v := yI (z18)) rfl rfl ?_
                  refine yG.imul rfl ?_
                  refine yG.load xik rfl (fun _ _ => rfl) (v := yI (p2)) rfl rfl ?_
                  refine yG.iadd rfl ?_
                  refine yG.load xak rfl (fun _ _ => rfl) (v := yR k0) rfl rfl ?_
                  refine yG.getI A_hq.1 (w_M_machines W H_k0) rfl rfl (fun z29 e_z29 i_z29 l_z29 u_z29 => ?_)
                  refine yG.iadd rfl ?_
                  refine yG.load xak rfl (fun _ _ => rfl) (v := yR k0) rfl rfl ?_
                  refine yG.load xak rfl (fun _ _ => rfl) (v := yR k0) rfl rfl ?_
                  refine yG.getS9 A_hq.1 (w_M_matrix W H_k0) q_r28 rfl rfl ?_
                  refine yG.num (c := 48) rfl (fun _ _ => rfl) (by decide) ?_
                  refine yG.load xik rfl (fun _ _ => rfl) (v := yI (z18)) rfl rfl ?_
                  refine yG.imul rfl ?_
                  refine yG.load xik rfl (fun _ _ => rfl) (v := yI (p2)) rfl rfl ?_
                  refine yG.iadd rfl ?_
                  refine yG.load xak rfl (fun _ _ => rfl) (v := yR k0) rfl rfl ?_
                  refine yG.getI A_hq.1 (w_M_machines W H_k0) rfl rfl (fun z30 e_z30 i_z30 l_z30 u_z30 => ?_)
                  rw [show (z30 : Int) = z29 by omega]
                  refine yG.iadd rfl ?_
                  refine yG.lald A_hq.1 (v_M_matrix W H_r28) rfl (by omega) (by omega) (fun z31 e_z31 i_z31 l_z31 u_z31 => ?_)
                  refine yG.load xlk2 rfl (fun _ _ => rfl) (v := yJ (z10)) rfl rfl ?_
                  refine yG.lsub rfl ?_
                  refine yG.invV (rest := [yI (((48 * z18) + p2) + z29), yR r28]) A_hq.1 (bOb (d_M W) H_k0) rfl rfl rfl rfl (c_GModel_mod W (d + 4) A_hq.1 H_k0 (z31 - z10) (by omega) (by omega) (by omega) (by omega)) (fun rv hp9 q9 => ?_)
                  obtain ⟨⟨z32, rfl, l_z32, u_z32, R_z32⟩, e9⟩ := q9
                  rw [e9]
                  show yG _ _ _ _ _ _ _ _ _ _ (yJ z32 :: [yI (((48 * z18) + p2) + z29), yR r28]) _
                  refine yG.last A_hq.1 (v_M_matrix W H_r28) (W.2.1 _ _ H_r28 (by decide) (by decide)) rfl (by omega) (by omega) ⟨by omega, by omega⟩ (by omega) (by omega) (fun h33 T_h33 b_h33 f_h33 y_h33 => ?_)
                  have A_h33 := A_hq.put T_h33 b_h33 f_h33 H_r28 (bAll_ok (by decide) _)
                  have : ys h33 k0 11 = ys hq k0 11 := (y_h33 k0 11).trans (if_neg (fun e => (bRo.ne H_k0 H_r28 (by decide)) e.1))
                  have : ys h33 k0 112 = ys hq k0 112 := (y_h33 k0 112).trans (if_neg (fun e => (bRo.ne H_k0 H_r28 (by decide)) e.1))
                  have : ys h33 k0 113 = ys hq k0 113 := (y_h33 k0 113).trans (if_neg (fun e => (bRo.ne H_k0 H_r28 (by decide)) e.1))
                  have qq1 : zsl h33 k0 39 = yR r14 := ((f_h33 k0 39).trans (if_neg (fun e => (bRo.ne H_k0 H_r28 (by decide)) e.1))).trans q_r14
                  have qq2 : zsl h33 k0 34 = yR r15 := ((f_h33 k0 34).trans (if_neg (fun e => (bRo.ne H_k0 H_r28 (by decide)) e.1))).trans q_r15
                  have : ys h33 r15 (z5 : Int).toNat = ys hq r15 (z5 : Int).toNat := (y_h33 r15 (z5 : Int).toNat).trans (if_neg (fun e => (bRo.ne H_r15 H_r28 (by decide)) e.1))
                  have : ys h33 r14 (z17 : Int).toNat = ys hq r14 (z17 : Int).toNat := (y_h33 r14 (z17 : Int).toNat).trans (if_neg (fun e => (bRo.ne H_r14 H_r28 (by decide)) e.1))
                  have qq3 : zsl h33 k0 12 = yR r28 := ((f_h33 k0 12).trans (if_neg (fun e => (bRo.ne H_k0 H_r28 (by decide)) e.1))).trans q_r28
                  have : ys h33 k0 102 = ys hq k0 102 := (y_h33 k0 102).trans (if_neg (fun e => (bRo.ne H_k0 H_r28 (by decide)) e.1))
                  exact yG.mono (yG.sub (i_308 (a3) (ys h33 k0 11) h33 A_h33  rfl (by omega) (by omega) (by omega) (by omega) (by omega) (by omega) (by omega) (by omega) (by omega)) (ySub.cons rfl (ySub.cons rfl (ySub.cons rfl (ySub.nil))))) (by omega)
        · have c3 : (a5 : Int) < z2 := c3
          refine yG.load xak rfl (fun _ _ => rfl) (v := yR k0) rfl rfl ?_
          refine yG.num (c := 4) rfl (fun _ _ => rfl) (by decide) ?_
          refine yG.load xik rfl (fun _ _ => rfl) (v := yI (a5)) rfl rfl ?_
          refine yG.num (c := 1) rfl (fun _ _ => rfl) (by decide) ?_
          refine yG.invV (rest := []) A_hq.1 (bOb (d_M W) H_k0) rfl rfl rfl rfl (c_GModel_of_4_1 W (d + 3) A_hq.1 H_k0 (a5) (by omega) (by omega)) (fun rv hp9 q9 => ?_)
          obtain ⟨⟨z34, rfl, l_z34, u_z34, R_z34⟩, e9⟩ := q9
          rw [e9]
          show yG _ _ _ _ _ _ _ _ _ _ (yI z34 :: []) _
          refine yG.store1 xik (L' := [(6, yI (z34)), (0, yR k0), (1, yI (p1)), (2, yI (p2)), (3, yJ (a3)), (5, yI (a5))]) rfl (fun _ _ => rfl) rfl rfl ?_
          refine yG.load xak rfl (fun _ _ => rfl) (v := yR k0) rfl rfl ?_
          refine yG.getO A_hq.1 (w_M_island W H_k0) rfl rfl (fun r35 H_r35 O_r35 q_r35 => ?_)
          refine yG.load xik rfl (fun _ _ => rfl) (v := yI (z34)) rfl rfl ?_
          refine yG.iald A_hq.1 (v_M_island W H_r35) rfl (by omega) (by omega) (fun z36 e_z36 i_z36 l_z36 u_z36 => ?_)
          refine yG.load xik rfl (fun _ _ => rfl) (v := yI (p1)) rfl rfl ?_
          refine yG.icmp rfl (t := 134) rfl ⟨by omega, by omega⟩ ⟨by omega, by omega⟩ (fun c37 => ?_) (fun c37 => ?_)
          · have c37 : (z36 : Int) ≠ p1 := c37
            refine yG.num (c := -1) rfl (fun _ _ => rfl) (by decide) ?_
            refine yG.store1 xik (L' := [(7, yI ((-1))), (6, yI (z34)), (0, yR k0), (1, yI (p1)), (2, yI (p2)), (3, yJ (a3)), (5, yI (a5))]) rfl (fun _ _ => rfl) rfl rfl ?_
            refine yG.load xik rfl (fun _ _ => rfl) (v := yI ((-1))) rfl rfl ?_
            refine yG.ifz rfl (t := 190) rfl ⟨by omega, by omega⟩ (fun c38 => ?_) (fun c38 => ?_)
            · have c38 : ((-1) : Int) < 0 := c38
              refine yG.iinc rfl (a := a5) rfl (L' := [(5, yI (a5 + 1)), (7, yI ((-1))), (6, yI (z34)), (0, yR k0), (1, yI (p1)), (2, yI (p2)), (3, yJ (a3))]) rfl ?_
              refine yG.goto rfl (t := 87) rfl ?_
              exact yG.mono (yG.sub (i_87 (a3) (a5 + 1) (ys hq k0 11) hq A_hq  rfl (by omega) (by omega) (by omega) (by omega) (by omega) (by omega) (by omega) (by omega) (by omega) (by omega) (by omega)) (ySub.cons rfl (ySub.cons rfl (ySub.cons rfl (ySub.cons rfl (ySub.cons rfl (ySub.nil))))))) (by omega)
            · have c38 : ((-1) : Int) ≥ 0 := c38
              exfalso; omega
          · have c37 : (z36 : Int) = p1 := c37
            refine yG.load xak rfl (fun _ _ => rfl) (v := yR k0) rfl rfl ?_
            refine yG.getO A_hq.1 (w_M_placeOf W H_k0) rfl rfl (fun r39 H_r39 O_r39 q_r39 => ?_)
            refine yG.load xak rfl (fun _ _ => rfl) (v := yR k0) rfl rfl ?_
            refine yG.getO A_hq.1 (w_M_node W H_k0) rfl rfl (fun r40 H_r40 O_r40 q_r40 => ?_)
            refine yG.load xik rfl (fun _ _ => rfl) (v := yI (z34)) rfl rfl ?_
            refine yG.iald A_hq.1 (v_M_node W H_r40) rfl (by omega) (by omega) (fun z41 e_z41 i_z41 l_z41 u_z41 => ?_)
            refine yG.iald A_hq.1 (v_M_placeOf W H_r39) rfl (by omega) (by omega) (fun z42 e_z42 i_z42 l_z42 u_z42 => ?_)
            refine yG.goto rfl (t := 135) rfl ?_
            refine yG.store1 xik (L' := [(7, yI (z42)), (6, yI (z34)), (0, yR k0), (1, yI (p1)), (2, yI (p2)), (3, yJ (a3)), (5, yI (a5))]) rfl (fun _ _ => rfl) rfl rfl ?_
            refine yG.load xik rfl (fun _ _ => rfl) (v := yI (z42)) rfl rfl ?_
            refine yG.ifz rfl (t := 190) rfl ⟨by omega, by omega⟩ (fun c43 => ?_) (fun c43 => ?_)
            · have c43 : (z42 : Int) < 0 := c43
              refine yG.iinc rfl (a := a5) rfl (L' := [(5, yI (a5 + 1)), (7, yI (z42)), (6, yI (z34)), (0, yR k0), (1, yI (p1)), (2, yI (p2)), (3, yJ (a3))]) rfl ?_
              refine yG.goto rfl (t := 87) rfl ?_
              exact yG.mono (yG.sub (i_87 (a3) (a5 + 1) (ys hq k0 11) hq A_hq  rfl (by omega) (by omega) (by omega) (by omega) (by omega) (by omega) (by omega) (by omega) (by omega) (by omega) (by omega)) (ySub.cons rfl (ySub.cons rfl (ySub.cons rfl (ySub.cons rfl (ySub.cons rfl (ySub.nil))))))) (by omega)
            · have c43 : (z42 : Int) ≥ 0 := c43
              refine yG.load xak rfl (fun _ _ => rfl) (v := yR k0) rfl rfl ?_
              refine yG.getO A_hq.1 (w_M_matrix W H_k0) rfl rfl (fun r44 H_r44 O_r44 q_r44 => ?_)
              refine yG.num (c := 48) rfl (fun _ _ => rfl) (by decide) ?_
              refine yG.load xik rfl (fun _ _ => rfl) (v := yI (z42)) rfl rfl ?_
              refine yG.imul rfl ?_
              refine yG.load xik rfl (fun _ _ => rfl) (v := yI (p2)) rfl rfl ?_
              refine yG.iadd rfl ?_
              refine yG.load xak rfl (fun _ _ => rfl) (v := yR k0) rfl rfl ?_
              refine yG.getI A_hq.1 (w_M_machines W H_k0) rfl rfl (fun z45 e_z45 i_z45 l_z45 u_z45 => ?_)
              refine yG.iadd rfl ?_
              refine yG.load xak rfl (fun _ _ => rfl) (v := yR k0) rfl rfl ?_
              refine yG.load xak rfl (fun _ _ => rfl) (v := yR k0) rfl rfl ?_
              refine yG.getS9 A_hq.1 (w_M_matrix W H_k0) q_r44 rfl rfl ?_
              refine yG.num (c := 48) rfl (fun _ _ => rfl) (by decide) ?_
              refine yG.load xik rfl (fun _ _ => rfl) (v := yI (z42)) rfl rfl ?_
              refine yG.imul rfl ?_
              refine yG.load xik rfl (fun _ _ => rfl) (v := yI (p2)) rfl rfl ?_
              refine yG.iadd rfl ?_
              refine yG.load xak rfl (fun _ _ => rfl) (v := yR k0) rfl rfl ?_
              refine yG.getI A_hq.1 (w_M_machines W H_k0) rfl rfl (fun z46 e_z46 i_z46 l_z46 u_z46 => ?_)
              rw [show (z46 : Int) = z45 by omega]
              refine yG.iadd rfl ?_
              refine yG.lald A_hq.1 (v_M_matrix W H_r44) rfl (by omega) (by omega) (fun z47 e_z47 i_z47 l_z47 u_z47 => ?_)
              refine yG.load xak rfl (fun _ _ => rfl) (v := yR k0) rfl rfl ?_
              refine yG.num (c := 4) rfl (fun _ _ => rfl) (by decide) ?_
              refine yG.load xik rfl (fun _ _ => rfl) (v := yI (a5)) rfl rfl ?_
              refine yG.num (c := 0) rfl (fun _ _ => rfl) (by decide) ?_
              refine yG.invV (rest := [yJ (z47), yR k0, yI (((48 * z42) + p2) + z45), yR r44]) A_hq.1 (bOb (d_M W) H_k0) rfl rfl rfl rfl (c_GModel_of_4_0 W (d + 3) A_hq.1 H_k0 (a5) (by omega) (by omega)) (fun rv hp9 q9 => ?_)
              obtain ⟨⟨z48, rfl, l_z48, u_z48, R_z48⟩, e9⟩ := q9
              rw [e9]
              show yG _ _ _ _ _ _ _ _ _ _ (yI z48 :: [yJ (z47), yR k0, yI (((48 * z42) + p2) + z45), yR r44]) _
              refine yG.i2l rfl ⟨by omega, by omega⟩ ?_
              refine yG.lsub rfl ?_
              refine yG.invV (rest := [yI (((48 * z42) + p2) + z45), yR r44]) A_hq.1 (bOb (d_M W) H_k0) rfl rfl rfl rfl (c_GModel_mod W (d + 4) A_hq.1 H_k0 (z47 - z48) (by omega) (by omega) (by omega) (by omega)) (fun rv hp9 q9 => ?_)
              obtain ⟨⟨z49, rfl, l_z49, u_z49, R_z49⟩, e9⟩ := q9
              rw [e9]
              show yG _ _ _ _ _ _ _ _ _ _ (yJ z49 :: [yI (((48 * z42) + p2) + z45), yR r44]) _
              refine yG.last A_hq.1 (v_M_matrix W H_r44) (W.2.1 _ _ H_r44 (by decide) (by decide)) rfl (by omega) (by omega) ⟨by omega, by omega⟩ (by omega) (by omega) (fun h50 T_h50 b_h50 f_h50 y_h50 => ?_)
              have A_h50 := A_hq.put T_h50 b_h50 f_h50 H_r44 (bAll_ok (by decide) _)
              have : ys h50 k0 11 = ys hq k0 11 := (y_h50 k0 11).trans (if_neg (fun e => (bRo.ne H_k0 H_r44 (by decide)) e.1))
              have qq4 : zsl h50 k0 39 = yR r39 := ((f_h50 k0 39).trans (if_neg (fun e => (bRo.ne H_k0 H_r44 (by decide)) e.1))).trans q_r39
              have qq5 : zsl h50 k0 34 = yR r40 := ((f_h50 k0 34).trans (if_neg (fun e => (bRo.ne H_k0 H_r44 (by decide)) e.1))).trans q_r40
              have qq6 : zsl h50 k0 12 = yR r44 := ((f_h50 k0 12).trans (if_neg (fun e => (bRo.ne H_k0 H_r44 (by decide)) e.1))).trans q_r44
              have : ys h50 k0 102 = ys hq k0 102 := (y_h50 k0 102).trans (if_neg (fun e => (bRo.ne H_k0 H_r44 (by decide)) e.1))
              refine yG.iinc rfl (a := a5) rfl (L' := [(5, yI (a5 + 1)), (7, yI (z42)), (6, yI (z34)), (0, yR k0), (1, yI (p1)), (2, yI (p2)), (3, yJ (a3))]) rfl ?_
              refine yG.goto rfl (t := 87) rfl ?_
              exact yG.mono (yG.sub (i_87 (a3) (a5 + 1) (ys h50 k0 11) h50 A_h50  rfl (by omega) (by omega) (by omega) (by omega) (by omega) (by omega) (by omega) (by omega) (by omega) (by omega) (by omega)) (ySub.cons rfl (ySub.cons rfl (ySub.cons rfl (ySub.cons rfl (ySub.cons rfl (ySub.nil))))))) (by omega)
      · intro a3 gg0 hq A_hq E_0 f0 f1 f2 f3 f4 f5 f6 f7 hm
        refine yG.mono (N := 71 * m + 71) ?_ (by omega)
        obtain ⟨-, -, g_0l, g_0u⟩ := (w_M_p W H_k0).long A_hq.1
        refine yG.load xak rfl (fun _ _ => rfl) (v := yR k0) rfl rfl ?_
        refine yG.load xik rfl (fun _ _ => rfl) (v := yI (p2)) rfl rfl ?_
        refine yG.load xik rfl (fun _ _ => rfl) (v := yI (p2)) rfl rfl ?_
        refine yG.load xak rfl (fun _ _ => rfl) (v := yR k0) rfl rfl ?_
        refine yG.getI A_hq.1 (w_M_machines W H_k0) rfl rfl (fun z1 e_z1 i_z1 l_z1 u_z1 => ?_)
        refine yG.iadd rfl ?_
        refine yG.num (c := 1) rfl (fun _ _ => rfl) (by decide) ?_
        refine yG.iadd rfl ?_
        refine yG.invV (rest := []) A_hq.1 (bOb (d_M W) H_k0) rfl rfl rfl rfl (c_GModel_solve W (d + 1) A_hq.1 H_k0 (p2) ((p2 + z1) + 1) (by omega) (by omega) (by omega) (by omega) (by omega) (by omega)) (fun rv h2 q9 => ?_)
        obtain ⟨⟨z3, rfl, l_z3, u_z3, R_z3⟩, B_h2⟩ := q9
        have A_h2 := A_hq.tr B_h2 (by decide)
        have : ys h2 k0 11 = ys hq k0 11 := B_h2.ys H_k0 (by decide)
        show yG _ _ _ _ _ _ _ _ _ _ (yJ z3 :: []) _
        refine yG.load xlk2 rfl (fun _ _ => rfl) (v := yJ (a3)) rfl rfl ?_
        refine yG.lmul rfl ?_
        obtain ⟨z4, e_z4⟩ : ∃ z : Int, z = z3 * a3 := ⟨_, rfl⟩
        rw [← e_z4]
        have b_z4 : 0 ≤ z4 ∧ z4 ≤ 4611686009837453316 := e_z4 ▸ ymulb (A := 2147483646) (B := 2147483646) (by omega) (by omega) (by omega) (by omega) (by decide)
        have b2_z4 : z4 ≤ 2147483646 * a3 := e_z4 ▸ bmulx (by omega) (by omega)
        have b3_z4 : z4 ≤ 2147483646 * z3 := e_z4 ▸ bmuly (by omega) (by omega)
        refine yG.load xak rfl (fun _ _ => rfl) (v := yR k0) rfl rfl ?_
        refine yG.getJ A_h2.1 (w_M_p W H_k0) rfl rfl (fun z5 e_z5 i_z5 l_z5 u_z5 => ?_)
        rw [show (z5 : Int) = gg0 by omega]
        refine yG.lrem rfl ⟨by omega, by omega⟩ ⟨by omega, by omega⟩ (by omega) (by omega) ?_
        obtain ⟨z6, e_z6⟩ : ∃ z : Int, z = (z4) % (gg0) := ⟨_, rfl⟩
        rw [← e_z6]
        have b_z6 : 0 ≤ z6 ∧ z6 < gg0 := e_z6 ▸ ⟨Int.emod_nonneg _ (by omega), Int.emod_lt_of_pos _ (by omega)⟩
        refine yG.ret rfl (fun _ _ => rfl) ?_
        exact (yP.long ⟨by omega, by omega⟩ ⟨⟨z6, rfl, by omega, by omega, trivial⟩, A_h2⟩)
  refine yC.of (M := (xt_X13_sharesBy, (8, (2, (14, []))))) rfl rfl (N := 20022) (yfuel (by decide)) ?_
  show yG 89 xfts (xcall 89 xfts xpools xms (d + 5)) (xpool xp_RX13) [] xt_X13_sharesBy (yP 2 (bQj G [(85070591730234615865843651857942052864, 256)] hp 0 2147483646 (fun _ => True))) 20022 0 [(0, yR k0), (1, yI (p1)), (2, yI (p2))] [] hp
  obtain ⟨i_22, i_87, i_308⟩ := H 281
  obtain ⟨gg0, E_0⟩ : ∃ z : Int, ys hp k0 11 = z := ⟨_, rfl⟩
  obtain ⟨-, -, g_0l, g_0u⟩ := (w_M_p W H_k0).long hT
  refine yG.load xak rfl (fun _ _ => rfl) (v := yR k0) rfl rfl ?_
  refine yG.load xik rfl (fun _ _ => rfl) (v := yI (p2)) rfl rfl ?_
  refine yG.load xik rfl (fun _ _ => rfl) (v := yI (p2)) rfl rfl ?_
  refine yG.load xak rfl (fun _ _ => rfl) (v := yR k0) rfl rfl ?_
  refine yG.getI A_hp.1 (w_M_machines W H_k0) rfl rfl (fun z1 e_z1 i_z1 l_z1 u_z1 => ?_)
  refine yG.iadd rfl ?_
  refine yG.num (c := 1) rfl (fun _ _ => rfl) (by decide) ?_
  refine yG.iadd rfl ?_
  refine yG.invV (rest := []) A_hp.1 (bOb (d_M W) H_k0) rfl rfl rfl rfl (c_GModel_clearMatrix W (d + 4) A_hp.1 H_k0 (p2) ((p2 + z1) + 1) (by omega) (by omega) (by omega) (by omega)) (fun rv h2 q9 => ?_)
  obtain ⟨⟨rfl, R_z3⟩, B_h2⟩ := q9
  have A_h2 := A_hp.tr B_h2 (by decide)
  have : ys h2 k0 11 = ys hp k0 11 := B_h2.ys H_k0 (by decide)
  show yG _ _ _ _ _ _ _ _ _ _ [] _
  refine yG.load xak rfl (fun _ _ => rfl) (v := yR k0) rfl rfl ?_
  refine yG.load xik rfl (fun _ _ => rfl) (v := yI (p1)) rfl rfl ?_
  refine yG.invV (rest := []) A_h2.1 (bOb (d_M W) H_k0) rfl rfl rfl rfl (c_GModel_joinLines W d A_h2.1 H_k0 (p1) (by omega) (by omega) (by omega) (by omega)) (fun rv h4 q9 => ?_)
  obtain ⟨⟨z5, rfl, l_z5, u_z5, R_z5⟩, B_h4⟩ := q9
  have A_h4 := A_h2.tr B_h4 (by decide)
  have : ys h4 k0 11 = ys h2 k0 11 := B_h4.ys H_k0 (by decide)
  show yG _ _ _ _ _ _ _ _ _ _ (yJ z5 :: []) _
  refine yG.store2 xlk2 (L' := [(3, yJ (z5)), (0, yR k0), (1, yI (p1)), (2, yI (p2))]) rfl (fun _ _ => rfl) rfl rfl ?_
  refine yG.num (c := 0) rfl (fun _ _ => rfl) (by decide) ?_
  refine yG.store1 xik (L' := [(5, yI (0)), (3, yJ (z5)), (0, yR k0), (1, yI (p1)), (2, yI (p2))]) rfl (fun _ _ => rfl) rfl rfl ?_
  exact yG.mono (yG.sub (i_22 (z5) (0) (ys h4 k0 11) h4 A_h4  rfl (by omega) (by omega) (by omega) (by omega) (by omega) (by omega) (by omega) (by omega) (by omega) (by omega) (by omega)) (ySub.cons rfl (ySub.cons rfl (ySub.cons rfl (ySub.cons rfl (ySub.cons rfl (ySub.nil))))))) (by omega)
theorem c_GModel_joinParts {hp : xH} (W : mW G) (d : Nat) (hT : zTy G hp) {k0 : Nat} (H_k0 : bRo G 116 k0) (p1 p2 : Int) (h1l : 0 ≤ p1) (h1u : p1 ≤ 19) (h2l : 1 ≤ p2) (h2u : p2 ≤ 2) (q0l : 1 ≤ ys hp k0 11) (q0u : ys hp k0 11 ≤ 2147483647) : yC (xcall 89 xfts xpools xms (d + 4)) 441 [yR k0, yI (p1), yI (p2)] hp (bQj G [(85070591730234615865843651857942052864, 256)] hp 0 2147483646 (fun _ => True)) := by
  have A_hp : bAx G [(85070591730234615865843651857942052864, 256)] hp hp := bAx.rf hT
  refine yC.of (M := (xt_X13_joinParts, (11, (2, (14, []))))) rfl rfl (N := 249) (yfuel (by decide)) ?_
  show yG 89 xfts (xcall 89 xfts xpools xms (d + 3)) (xpool xp_RX13) [] xt_X13_joinParts (yP 2 (bQj G [(85070591730234615865843651857942052864, 256)] hp 0 2147483646 (fun _ => True))) 249 0 [(0, yR k0), (1, yI (p1)), (2, yI (p2))] [] hp
  obtain ⟨gg0, E_0⟩ : ∃ z : Int, ys hp k0 11 = z := ⟨_, rfl⟩
  obtain ⟨-, -, g_0l, g_0u⟩ := (w_M_p W H_k0).long hT
  refine yG.load xak rfl (fun _ _ => rfl) (v := yR k0) rfl rfl ?_
  refine yG.getO A_hp.1 (w_M_placeOf W H_k0) rfl rfl (fun r1 H_r1 O_r1 q_r1 => ?_)
  refine yG.load xak rfl (fun _ _ => rfl) (v := yR k0) rfl rfl ?_
  refine yG.load xik rfl (fun _ _ => rfl) (v := yI (p1)) rfl rfl ?_
  refine yG.num (c := 0) rfl (fun _ _ => rfl) (by decide) ?_
  refine yG.invV (rest := [yR r1]) A_hp.1 (bOb (d_M W) H_k0) rfl rfl rfl rfl (c_GModel_nodeOfLine W d A_hp.1 H_k0 (p1) (0) (by omega) (by omega) (by omega) (by omega)) (fun rv hp9 q9 => ?_)
  obtain ⟨⟨z2, rfl, l_z2, u_z2, R_z2⟩, e9⟩ := q9
  rw [e9]
  show yG _ _ _ _ _ _ _ _ _ _ (yI z2 :: [yR r1]) _
  refine yG.iald A_hp.1 (v_M_placeOf W H_r1) rfl (by omega) (by omega) (fun z3 e_z3 i_z3 l_z3 u_z3 => ?_)
  refine yG.num (c := 1) rfl (fun _ _ => rfl) (by decide) ?_
  refine yG.iadd rfl ?_
  obtain ⟨z4, e_z4⟩ : ∃ z : Int, z = z3 + 1 := ⟨_, rfl⟩
  rw [← e_z4]
  refine yG.store1 xik (L' := [(3, yI (z4)), (0, yR k0), (1, yI (p1)), (2, yI (p2))]) rfl (fun _ _ => rfl) rfl rfl ?_
  refine yG.load xak rfl (fun _ _ => rfl) (v := yR k0) rfl rfl ?_
  refine yG.getS9 A_hp.1 (w_M_placeOf W H_k0) q_r1 rfl rfl ?_
  refine yG.load xak rfl (fun _ _ => rfl) (v := yR k0) rfl rfl ?_
  refine yG.load xik rfl (fun _ _ => rfl) (v := yI (p1)) rfl rfl ?_
  refine yG.num (c := 1) rfl (fun _ _ => rfl) (by decide) ?_
  refine yG.invV (rest := [yR r1]) A_hp.1 (bOb (d_M W) H_k0) rfl rfl rfl rfl (c_GModel_nodeOfLine W d A_hp.1 H_k0 (p1) (1) (by omega) (by omega) (by omega) (by omega)) (fun rv hp9 q9 => ?_)
  obtain ⟨⟨z5, rfl, l_z5, u_z5, R_z5⟩, e9⟩ := q9
  rw [e9]
  show yG _ _ _ _ _ _ _ _ _ _ (yI z5 :: [yR r1]) _
  refine yG.iald A_hp.1 (v_M_placeOf W H_r1) rfl (by omega) (by omega) (fun z6 e_z6 i_z6 l_z6 u_z6 => ?_)
  refine yG.num (c := 1) rfl (fun _ _ => rfl) (by decide) ?_
  refine yG.iadd rfl ?_
  obtain ⟨z7, e_z7⟩ : ∃ z : Int, z = z6 + 1 := ⟨_, rfl⟩
  rw [← e_z7]
  refine yG.store1 xik (L' := [(4, yI (z7)), (3, yI (z4)), (0, yR k0), (1, yI (p1)), (2, yI (p2))]) rfl (fun _ _ => rfl) rfl rfl ?_
  refine yG.load xak rfl (fun _ _ => rfl) (v := yR k0) rfl rfl ?_
  refine yG.num (c := 2) rfl (fun _ _ => rfl) (by decide) ?_
  refine yG.load xik rfl (fun _ _ => rfl) (v := yI (p1)) rfl rfl ?_
  refine yG.load xik rfl (fun _ _ => rfl) (v := yI (p2)) rfl rfl ?_
  refine yG.invV (rest := []) A_hp.1 (bOb (d_M W) H_k0) rfl rfl rfl rfl (c_GModel_of_z W (d + 1) A_hp.1 H_k0 (2) (p1) (p2) (by omega) (by omega) (by omega) (by omega) (by omega) (by omega)) (fun rv hp9 q9 => ?_)
  obtain ⟨⟨z8, rfl, l_z8, u_z8, R_z8⟩, e9⟩ := q9
  rw [e9]
  show yG _ _ _ _ _ _ _ _ _ _ (yI z8 :: []) _
  refine yG.i2l rfl ⟨by omega, by omega⟩ ?_
  refine yG.store2 xlk2 (L' := [(5, yJ (z8)), (4, yI (z7)), (3, yI (z4)), (0, yR k0), (1, yI (p1)), (2, yI (p2))]) rfl (fun _ _ => rfl) rfl rfl ?_
  refine yG.load xak rfl (fun _ _ => rfl) (v := yR k0) rfl rfl ?_
  refine yG.getI A_hp.1 (w_M_isOnLine W H_k0) rfl rfl (fun z9 e_z9 i_z9 l_z9 u_z9 => ?_)
  refine yG.ifz rfl (t := 137) rfl ⟨by omega, by omega⟩ (fun c10 => ?_) (fun c10 => ?_)
  · have c10 : (z9 : Int) = 0 := c10
    refine yG.load xik rfl (fun _ _ => rfl) (v := yI (z4)) rfl rfl ?_
    refine yG.load xik rfl (fun _ _ => rfl) (v := yI (z7)) rfl rfl ?_
    refine yG.icmp rfl (t := 159) rfl ⟨by omega, by omega⟩ ⟨by omega, by omega⟩ (fun c11 => ?_) (fun c11 => ?_)
    · have c11 : (z4 : Int) = z7 := c11
      refine yG.numl (c := 1) rfl (fun _ _ => rfl) (by decide) ?_
      refine yG.ret rfl (fun _ _ => rfl) ?_
      exact (yP.long ⟨by omega, by omega⟩ ⟨⟨1, rfl, by omega, by omega, trivial⟩, A_hp⟩)
    · have c11 : (z4 : Int) ≠ z7 := c11
      refine yG.load xak rfl (fun _ _ => rfl) (v := yR k0) rfl rfl ?_
      refine yG.load xik rfl (fun _ _ => rfl) (v := yI (z4)) rfl rfl ?_
      refine yG.load xik rfl (fun _ _ => rfl) (v := yI (z7)) rfl rfl ?_
      refine yG.load xak rfl (fun _ _ => rfl) (v := yR k0) rfl rfl ?_
      refine yG.load xlk2 rfl (fun _ _ => rfl) (v := yJ (z8)) rfl rfl ?_
      refine yG.invV (rest := [yI (z7), yI (z4), yR k0]) A_hp.1 (bOb (d_M W) H_k0) rfl rfl rfl rfl (c_GModel_inverse_ W (d + 1) A_hp.1 H_k0 (z8) (by omega) (by omega) (by omega) (by omega)) (fun rv hp9 q9 => ?_)
      obtain ⟨⟨z12, rfl, l_z12, u_z12, R_z12⟩, e9⟩ := q9
      rw [e9]
      show yG _ _ _ _ _ _ _ _ _ _ (yJ z12 :: [yI (z7), yI (z4), yR k0]) _
      refine yG.invV (rest := []) A_hp.1 (bOb (d_M W) H_k0) rfl rfl rfl rfl (c_GModel_join W (d + 1) A_hp.1 H_k0 (z4) (z7) (z12) (by omega) (by omega) (by omega) (by omega) (by omega) (by omega) (by omega) (by omega)) (fun rv h13 q9 => ?_)
      obtain ⟨⟨rfl, R_z14⟩, B_h13⟩ := q9
      have A_h13 := A_hp.tr B_h13 (by decide)
      have : ys h13 k0 11 = ys hp k0 11 := B_h13.ys H_k0 (by decide)
      have qq1 : zsl h13 k0 39 = yR r1 := (B_h13.sl H_k0 (by decide)).trans q_r1
      show yG _ _ _ _ _ _ _ _ _ _ [] _
      refine yG.load xlk2 rfl (fun _ _ => rfl) (v := yJ (z8)) rfl rfl ?_
      refine yG.ret rfl (fun _ _ => rfl) ?_
      exact (yP.long ⟨by omega, by omega⟩ ⟨⟨z8, rfl, by omega, by omega, trivial⟩, A_h13⟩)
  · have c10 : (z9 : Int) ≠ 0 := c10
    refine yG.load xik rfl (fun _ _ => rfl) (v := yI (p1)) rfl rfl ?_
    refine yG.load xak rfl (fun _ _ => rfl) (v := yR k0) rfl rfl ?_
    refine yG.getI A_hp.1 (w_M_shortPlace W H_k0) rfl rfl (fun z15 e_z15 i_z15 l_z15 u_z15 => ?_)
    refine yG.icmp rfl (t := 137) rfl ⟨by omega, by omega⟩ ⟨by omega, by omega⟩ (fun c16 => ?_) (fun c16 => ?_)
    · have c16 : (p1 : Int) ≠ z15 := c16
      refine yG.load xik rfl (fun _ _ => rfl) (v := yI (z4)) rfl rfl ?_
      refine yG.load xik rfl (fun _ _ => rfl) (v := yI (z7)) rfl rfl ?_
      refine yG.icmp rfl (t := 159) rfl ⟨by omega, by omega⟩ ⟨by omega, by omega⟩ (fun c17 => ?_) (fun c17 => ?_)
      · have c17 : (z4 : Int) = z7 := c17
        refine yG.numl (c := 1) rfl (fun _ _ => rfl) (by decide) ?_
        refine yG.ret rfl (fun _ _ => rfl) ?_
        exact (yP.long ⟨by omega, by omega⟩ ⟨⟨1, rfl, by omega, by omega, trivial⟩, A_hp⟩)
      · have c17 : (z4 : Int) ≠ z7 := c17
        refine yG.load xak rfl (fun _ _ => rfl) (v := yR k0) rfl rfl ?_
        refine yG.load xik rfl (fun _ _ => rfl) (v := yI (z4)) rfl rfl ?_
        refine yG.load xik rfl (fun _ _ => rfl) (v := yI (z7)) rfl rfl ?_
        refine yG.load xak rfl (fun _ _ => rfl) (v := yR k0) rfl rfl ?_
        refine yG.load xlk2 rfl (fun _ _ => rfl) (v := yJ (z8)) rfl rfl ?_
        refine yG.invV (rest := [yI (z7), yI (z4), yR k0]) A_hp.1 (bOb (d_M W) H_k0) rfl rfl rfl rfl (c_GModel_inverse_ W (d + 1) A_hp.1 H_k0 (z8) (by omega) (by omega) (by omega) (by omega)) (fun rv hp9 q9 => ?_)
        obtain ⟨⟨z18, rfl, l_z18, u_z18, R_z18⟩, e9⟩ := q9
        rw [e9]
        show yG _ _ _ _ _ _ _ _ _ _ (yJ z18 :: [yI (z7), yI (z4), yR k0]) _
        refine yG.invV (rest := []) A_hp.1 (bOb (d_M W) H_k0) rfl rfl rfl rfl (c_GModel_join W (d + 1) A_hp.1 H_k0 (z4) (z7) (z18) (by omega) (by omega) (by omega) (by omega) (by omega) (by omega) (by omega) (by omega)) (fun rv h19 q9 => ?_)
        obtain ⟨⟨rfl, R_z20⟩, B_h19⟩ := q9
        have A_h19 := A_hp.tr B_h19 (by decide)
        have : ys h19 k0 11 = ys hp k0 11 := B_h19.ys H_k0 (by decide)
        have qq2 : zsl h19 k0 39 = yR r1 := (B_h19.sl H_k0 (by decide)).trans q_r1
        show yG _ _ _ _ _ _ _ _ _ _ [] _
        refine yG.load xlk2 rfl (fun _ _ => rfl) (v := yJ (z8)) rfl rfl ?_
        refine yG.ret rfl (fun _ _ => rfl) ?_
        exact (yP.long ⟨by omega, by omega⟩ ⟨⟨z8, rfl, by omega, by omega, trivial⟩, A_h19⟩)
    · have c16 : (p1 : Int) = z15 := c16
      refine yG.load xlk2 rfl (fun _ _ => rfl) (v := yJ (z8)) rfl rfl ?_
      refine yG.load xak rfl (fun _ _ => rfl) (v := yR k0) rfl rfl ?_
      refine yG.getI A_hp.1 (w_M_shortK W H_k0) rfl rfl (fun z21 e_z21 i_z21 l_z21 u_z21 => ?_)
      refine yG.i2l rfl ⟨by omega, by omega⟩ ?_
      refine yG.lmul rfl ?_
      obtain ⟨z22, e_z22⟩ : ∃ z : Int, z = z8 * z21 := ⟨_, rfl⟩
      rw [← e_z22]
      have b_z22 : 0 ≤ z22 ∧ z22 ≤ 14999985 := e_z22 ▸ ymulb (A := 999999) (B := 15) (by omega) (by omega) (by omega) (by omega) (by decide)
      have b2_z22 : z22 ≤ 999999 * z21 := e_z22 ▸ bmulx (by omega) (by omega)
      have b3_z22 : z22 ≤ 15 * z8 := e_z22 ▸ bmuly (by omega) (by omega)
      refine yG.store2 xlk2 (L' := [(7, yJ (z22)), (5, yJ (z8)), (4, yI (z7)), (3, yI (z4)), (0, yR k0), (1, yI (p1)), (2, yI (p2))]) rfl (fun _ _ => rfl) rfl rfl ?_
      refine yG.load xlk2 rfl (fun _ _ => rfl) (v := yJ (z8)) rfl rfl ?_
      refine yG.num (c := 16) rfl (fun _ _ => rfl) (by decide) ?_
      refine yG.load xak rfl (fun _ _ => rfl) (v := yR k0) rfl rfl ?_
      refine yG.getI A_hp.1 (w_M_shortK W H_k0) rfl rfl (fun z23 e_z23 i_z23 l_z23 u_z23 => ?_)
      rw [show (z23 : Int) = z21 by omega]
      refine yG.isub rfl ?_
      refine yG.i2l rfl ⟨by omega, by omega⟩ ?_
      refine yG.lmul rfl ?_
      obtain ⟨z24, e_z24⟩ : ∃ z : Int, z = z8 * (16 - z21) := ⟨_, rfl⟩
      rw [← e_z24]
      have b_z24 : 0 ≤ z24 ∧ z24 ≤ 15999984 := e_z24 ▸ ymulb (A := 999999) (B := 16) (by omega) (by omega) (by omega) (by omega) (by decide)
      have b2_z24 : z24 ≤ 999999 * (16 - z21) := e_z24 ▸ bmulx (by omega) (by omega)
      have b3_z24 : z24 ≤ 16 * z8 := e_z24 ▸ bmuly (by omega) (by omega)
      refine yG.store2 xlk2 (L' := [(9, yJ (z24)), (7, yJ (z22)), (5, yJ (z8)), (4, yI (z7)), (3, yI (z4)), (0, yR k0), (1, yI (p1)), (2, yI (p2))]) rfl (fun _ _ => rfl) rfl rfl ?_
      refine yG.load xak rfl (fun _ _ => rfl) (v := yR k0) rfl rfl ?_
      refine yG.load xik rfl (fun _ _ => rfl) (v := yI (z4)) rfl rfl ?_
      refine yG.load xak rfl (fun _ _ => rfl) (v := yR k0) rfl rfl ?_
      refine yG.getI A_hp.1 (w_M_nodes W H_k0) rfl rfl (fun z25 e_z25 i_z25 l_z25 u_z25 => ?_)
      refine yG.numl (c := 16) rfl (fun _ _ => rfl) (by decide) ?_
      refine yG.load xak rfl (fun _ _ => rfl) (v := yR k0) rfl rfl ?_
      refine yG.load xlk2 rfl (fun _ _ => rfl) (v := yJ (z22)) rfl rfl ?_
      refine yG.invV (rest := [yJ (16), yI (z25), yI (z4), yR k0]) A_hp.1 (bOb (d_M W) H_k0) rfl rfl rfl rfl (c_GModel_inverse_ W (d + 1) A_hp.1 H_k0 (z22) (by omega) (by omega) (by omega) (by omega)) (fun rv hp9 q9 => ?_)
      obtain ⟨⟨z26, rfl, l_z26, u_z26, R_z26⟩, e9⟩ := q9
      rw [e9]
      show yG _ _ _ _ _ _ _ _ _ _ (yJ z26 :: [yJ (16), yI (z25), yI (z4), yR k0]) _
      refine yG.lmul rfl ?_
      refine yG.load xak rfl (fun _ _ => rfl) (v := yR k0) rfl rfl ?_
      refine yG.getJ A_hp.1 (w_M_p W H_k0) rfl rfl (fun z27 e_z27 i_z27 l_z27 u_z27 => ?_)
      rw [show (z27 : Int) = gg0 by omega]
      refine yG.lrem rfl ⟨by omega, by omega⟩ ⟨by omega, by omega⟩ (by omega) (by omega) ?_
      obtain ⟨z28, e_z28⟩ : ∃ z : Int, z = (16 * z26) % (gg0) := ⟨_, rfl⟩
      rw [← e_z28]
      have b_z28 : 0 ≤ z28 ∧ z28 < gg0 := e_z28 ▸ ⟨Int.emod_nonneg _ (by omega), Int.emod_lt_of_pos _ (by omega)⟩
      refine yG.invV (rest := []) A_hp.1 (bOb (d_M W) H_k0) rfl rfl rfl rfl (c_GModel_join W (d + 1) A_hp.1 H_k0 (z4) (z25) (z28) (by omega) (by omega) (by omega) (by omega) (by omega) (by omega) (by omega) (by omega)) (fun rv h29 q9 => ?_)
      obtain ⟨⟨rfl, R_z30⟩, B_h29⟩ := q9
      have A_h29 := A_hp.tr B_h29 (by decide)
      have : ys h29 k0 11 = ys hp k0 11 := B_h29.ys H_k0 (by decide)
      have qq3 : zsl h29 k0 39 = yR r1 := (B_h29.sl H_k0 (by decide)).trans q_r1
      have : ys h29 k0 72 = ys hp k0 72 := B_h29.ys H_k0 (by decide)
      have : ys h29 k0 38 = ys hp k0 38 := B_h29.ys H_k0 (by decide)
      show yG _ _ _ _ _ _ _ _ _ _ [] _
      refine yG.load xak rfl (fun _ _ => rfl) (v := yR k0) rfl rfl ?_
      refine yG.load xik rfl (fun _ _ => rfl) (v := yI (z7)) rfl rfl ?_
      refine yG.load xak rfl (fun _ _ => rfl) (v := yR k0) rfl rfl ?_
      refine yG.getI A_h29.1 (w_M_nodes W H_k0) rfl rfl (fun z31 e_z31 i_z31 l_z31 u_z31 => ?_)
      rw [show (z31 : Int) = z25 by omega]
      refine yG.numl (c := 16) rfl (fun _ _ => rfl) (by decide) ?_
      refine yG.load xak rfl (fun _ _ => rfl) (v := yR k0) rfl rfl ?_
      refine yG.load xlk2 rfl (fun _ _ => rfl) (v := yJ (z24)) rfl rfl ?_
      refine yG.invV (rest := [yJ (16), yI (z25), yI (z7), yR k0]) A_h29.1 (bOb (d_M W) H_k0) rfl rfl rfl rfl (c_GModel_inverse_ W (d + 1) A_h29.1 H_k0 (z24) (by omega) (by omega) (by omega) (by omega)) (fun rv hp9 q9 => ?_)
      obtain ⟨⟨z32, rfl, l_z32, u_z32, R_z32⟩, e9⟩ := q9
      rw [e9]
      show yG _ _ _ _ _ _ _ _ _ _ (yJ z32 :: [yJ (16), yI (z25), yI (z7), yR k0]) _
      refine yG.lmul rfl ?_
      refine yG.load xak rfl (fun _ _ => rfl) (v := yR k0) rfl rfl ?_
      refine yG.getJ A_h29.1 (w_M_p W H_k0) rfl rfl (fun z33 e_z33 i_z33 l_z33 u_z33 => ?_)
      rw [show (z33 : Int) = gg0 by omega]
      refine yG.lrem rfl ⟨by omega, by omega⟩ ⟨by omega, by omega⟩ (by omega) (by omega) ?_
      obtain ⟨z34, e_z34⟩ : ∃ z : Int, z = (16 * z32) % (gg0) := ⟨_, rfl⟩
      rw [← e_z34]
      have b_z34 : 0 ≤ z34 ∧ z34 < gg0 := e_z34 ▸ ⟨Int.emod_nonneg _ (by omega), Int.emod_lt_of_pos _ (by omega)⟩
      refine yG.invV (rest := []) A_h29.1 (bOb (d_M W) H_k0) rfl rfl rfl rfl (c_GModel_join W (d + 1) A_h29.1 H_k0 (z7) (z25) (z34) (by omega) (by omega) (by omega) (by omega) (by omega) (by omega) (by omega) (by omega)) (fun rv h35 q9 => ?_)
      obtain ⟨⟨rfl, R_z36⟩, B_h35⟩ := q9
      have A_h35 := A_h29.tr B_h35 (by decide)
      have : ys h35 k0 11 = ys h29 k0 11 := B_h35.ys H_k0 (by decide)
      have qq4 : zsl h35 k0 39 = yR r1 := (B_h35.sl H_k0 (by decide)).trans qq3
      have : ys h35 k0 72 = ys h29 k0 72 := B_h35.ys H_k0 (by decide)
      have : ys h35 k0 38 = ys h29 k0 38 := B_h35.ys H_k0 (by decide)
      show yG _ _ _ _ _ _ _ _ _ _ [] _
      refine yG.load xlk2 rfl (fun _ _ => rfl) (v := yJ (z22)) rfl rfl ?_
      refine yG.load xlk2 rfl (fun _ _ => rfl) (v := yJ (z24)) rfl rfl ?_
      refine yG.lmul rfl ?_
      obtain ⟨z37, e_z37⟩ : ∃ z : Int, z = z22 * z24 := ⟨_, rfl⟩
      rw [← e_z37]
      have b_z37 : 0 ≤ z37 ∧ z37 ≤ 239999520000240 := e_z37 ▸ ymulb (A := 14999985) (B := 15999984) (by omega) (by omega) (by omega) (by omega) (by decide)
      have b2_z37 : z37 ≤ 14999985 * z24 := e_z37 ▸ bmulx (by omega) (by omega)
      have b3_z37 : z37 ≤ 15999984 * z22 := e_z37 ▸ bmuly (by omega) (by omega)
      refine yG.load xak rfl (fun _ _ => rfl) (v := yR k0) rfl rfl ?_
      refine yG.getJ A_h35.1 (w_M_p W H_k0) rfl rfl (fun z38 e_z38 i_z38 l_z38 u_z38 => ?_)
      rw [show (z38 : Int) = gg0 by omega]
      refine yG.lrem rfl ⟨by omega, by omega⟩ ⟨by omega, by omega⟩ (by omega) (by omega) ?_
      obtain ⟨z39, e_z39⟩ : ∃ z : Int, z = (z37) % (gg0) := ⟨_, rfl⟩
      rw [← e_z39]
      have b_z39 : 0 ≤ z39 ∧ z39 < gg0 := e_z39 ▸ ⟨Int.emod_nonneg _ (by omega), Int.emod_lt_of_pos _ (by omega)⟩
      refine yG.ret rfl (fun _ _ => rfl) ?_
      exact (yP.long ⟨by omega, by omega⟩ ⟨⟨z39, rfl, by omega, by omega, trivial⟩, A_h35⟩)
theorem c_GModel_remember {hp : xH} (W : mW G) (d : Nat) (hT : zTy G hp) {k0 : Nat} (H_k0 : bRo G 116 k0) : yC (xcall 89 xfts xpools xms (d + 1)) 492 [yR k0] hp (fun rv hp' => (rv = none ∧ True) ∧ bAx G [(411376139330301510538742295639337626245683966408394965837152256, 256)] hp hp') := by
  have A_hp : bAx G [(411376139330301510538742295639337626245683966408394965837152256, 256)] hp hp := bAx.rf hT
  have H : ∀ m : Nat, (∀ a1 : Int, ∀ hq, bAx G [(411376139330301510538742295639337626245683966408394965837152256, 256)] hp hq → 0 ≤ a1 → (-1320) ≤ 0 - a1 → 0 - 2 * a1 + 2641 < (m : Int) → yG 89 xfts (xcall 89 xfts xpools xms d) (xpool xp_RX13) [] xt_X13_remember (yP 0 (fun rv hp' => (rv = none ∧ True) ∧ bAx G [(411376139330301510538742295639337626245683966408394965837152256, 256)] hp hp')) (15 * m) 2 [(0, yR k0), (1, yI (a1))] [] hq) := by
    intro m
    induction m with
    | zero =>
      intros; exfalso; omega
    | succ m ih =>
      have i_2 := ih
      clear ih
      intro a1 hq A_hq f0 f1 hm
      refine yG.mono (N := 15 * m + 15) ?_ (by omega)
      refine yG.load xik rfl (fun _ _ => rfl) (v := yI (a1)) rfl rfl ?_
      refine yG.num (c := 1320) rfl (fun _ _ => rfl) (by decide) ?_
      refine yG.icmp rfl (t := 27) rfl ⟨by omega, by omega⟩ ⟨by omega, by omega⟩ (fun c1 => ?_) (fun c1 => ?_)
      · have c1 : (a1 : Int) ≥ 1320 := c1
        refine yG.ret rfl (fun _ _ => rfl) ?_
        exact (yP.void ⟨⟨rfl, trivial⟩, A_hq⟩)
      · have c1 : (a1 : Int) < 1320 := c1
        refine yG.load xak rfl (fun _ _ => rfl) (v := yR k0) rfl rfl ?_
        refine yG.getO A_hq.1 (w_M_fieldsBefore W H_k0) rfl rfl (fun r2 H_r2 O_r2 q_r2 => ?_)
        refine yG.load xik rfl (fun _ _ => rfl) (v := yI (a1)) rfl rfl ?_
        refine yG.load xak rfl (fun _ _ => rfl) (v := yR k0) rfl rfl ?_
        refine yG.getO A_hq.1 (w_M_field W H_k0) rfl rfl (fun r3 H_r3 O_r3 q_r3 => ?_)
        refine yG.load xik rfl (fun _ _ => rfl) (v := yI (a1)) rfl rfl ?_
        refine yG.ialdT A_hq.1 (v_M_field W H_r3) (yhull2 (tf := yfT) (yfT_h _)) rfl (by omega) (by omega) (fun z4 lo_z4 hi_z4 e_z4 i_z4 T_z4 l_z4 u_z4 => ?_)
        obtain ⟨L_z4, U_z4⟩ := yhull (tf := yfT) (yfT_h _) T_z4
        refine yG.iastF A_hq.1 (v_M_fieldsBefore W H_r2) ((show yfT ((a1 : Int).toNat) = yfT ((a1 : Int).toNat) from congrArg yfT (by omega)).trans T_z4) (W.2.1 _ _ H_r2 (by decide) (by decide)) rfl (by omega) (by omega) ⟨by omega, by omega⟩ (by omega) (by omega) (fun h5 T_h5 b_h5 f_h5 y_h5 => ?_)
        have A_h5 := A_hq.put T_h5 b_h5 f_h5 H_r2 (bAll_ok (by decide) _)
        refine yG.iinc rfl (a := a1) rfl (L' := [(1, yI (a1 + 1)), (0, yR k0)]) rfl ?_
        refine yG.goto rfl (t := 2) rfl ?_
        exact yG.mono (yG.sub (i_2 (a1 + 1)  h5 A_h5   (by omega) (by omega) (by omega)) (ySub.cons rfl (ySub.cons rfl (ySub.nil)))) (by omega)
  refine yC.of (M := (xt_X13_remember, (2, (0, (14, []))))) rfl rfl (N := 39660) (yfuel (by decide)) ?_
  show yG 89 xfts (xcall 89 xfts xpools xms d) (xpool xp_RX13) [] xt_X13_remember (yP 0 (fun rv hp' => (rv = none ∧ True) ∧ bAx G [(411376139330301510538742295639337626245683966408394965837152256, 256)] hp hp')) 39660 0 [(0, yR k0)] [] hp
  have i_2 := H 2643
  refine yG.num (c := 0) rfl (fun _ _ => rfl) (by decide) ?_
  refine yG.store1 xik (L' := [(1, yI (0)), (0, yR k0)]) rfl (fun _ _ => rfl) rfl rfl ?_
  exact yG.mono (yG.sub (i_2 (0)  hp A_hp   (by omega) (by omega) (by omega)) (ySub.cons rfl (ySub.cons rfl (ySub.nil)))) (by omega)
theorem c_GModel_findWords {hp : xH} (W : mW G) (d : Nat) (hT : zTy G hp) {k0 : Nat} (H_k0 : bRo G 116 k0) : yC (xcall 89 xfts xpools xms (d + 2)) 403 [yR k0] hp (fun rv hp' => (rv = none ∧ True) ∧ bAx G [(83076749736557242056487941267521536, 15), (83076749736557242056487941267521536, 18), (83076749736557242056487941267521536, 19), (83076749736557242056487941267521536, 20), (83076749736557242056487941267521536, 21), (2041694201525630780780247644590609268736, 256)] hp hp') := by
  have A_hp : bAx G [(83076749736557242056487941267521536, 15), (83076749736557242056487941267521536, 18), (83076749736557242056487941267521536, 19), (83076749736557242056487941267521536, 20), (83076749736557242056487941267521536, 21), (2041694201525630780780247644590609268736, 256)] hp hp := bAx.rf hT
  have H : ∀ m : Nat, (∀ a1 : Int, ∀ gg0 : Int, ∀ gg1 : Int, ∀ hq, bAx G [(83076749736557242056487941267521536, 15), (83076749736557242056487941267521536, 18), (83076749736557242056487941267521536, 19), (83076749736557242056487941267521536, 20), (83076749736557242056487941267521536, 21), (2041694201525630780780247644590609268736, 256)] hp hq → ys hq k0 18 = gg0 → ys hq k0 15 = gg1 → 0 ≤ a1 → (-4000) ≤ 0 - a1 → 0 ≤ gg0 → (-4000) ≤ 0 - gg0 → 0 ≤ gg1 → (-4000) ≤ 0 - gg1 → 0 ≤ a1 - gg0 → 0 ≤ 0 - a1 + gg1 → 0 - 16005 * a1 + 16005 * gg1 + 16004 < (m : Int) → yG 89 xfts (xcall 89 xfts xpools xms (d + 1)) (xpool xp_RX13) [] xt_X13_findWords (yP 0 (fun rv hp' => (rv = none ∧ True) ∧ bAx G [(83076749736557242056487941267521536, 15), (83076749736557242056487941267521536, 18), (83076749736557242056487941267521536, 19), (83076749736557242056487941267521536, 20), (83076749736557242056487941267521536, 21), (2041694201525630780780247644590609268736, 256)] hp hp')) (23 * m) 15 [(0, yR k0), (1, yI (a1))] [] hq) ∧ (∀ a1 : Int, ∀ a2 : Int, ∀ gg0 : Int, ∀ gg1 : Int, ∀ hq, bAx G [(83076749736557242056487941267521536, 15), (83076749736557242056487941267521536, 18), (83076749736557242056487941267521536, 19), (83076749736557242056487941267521536, 20), (83076749736557242056487941267521536, 21), (2041694201525630780780247644590609268736, 256)] hp hq → ys hq k0 18 = gg0 → ys hq k0 15 = gg1 → 0 ≤ a1 → (-4000) ≤ 0 - a1 → 0 ≤ a2 → (-3999) ≤ 0 - a2 → 0 ≤ gg0 → (-3999) ≤ 0 - gg0 → 1 ≤ gg1 → (-4000) ≤ 0 - gg1 → 0 ≤ a1 - a2 → 0 ≤ a2 - gg0 → 0 ≤ 0 - a1 + gg1 → 1 ≤ 0 - a2 + gg1 → 0 - 4 * a1 - 16005 * a2 + 16005 * gg1 + 16003 < (m : Int) → yG 89 xfts (xcall 89 xfts xpools xms (d + 1)) (xpool xp_RX13) [] xt_X13_findWords (yP 0 (fun rv hp' => (rv = none ∧ True) ∧ bAx G [(83076749736557242056487941267521536, 15), (83076749736557242056487941267521536, 18), (83076749736557242056487941267521536, 19), (83076749736557242056487941267521536, 20), (83076749736557242056487941267521536, 21), (2041694201525630780780247644590609268736, 256)] hp hp')) (23 * m) 25 [(0, yR k0), (1, yI (a1)), (2, yI (a2))] [] hq) ∧ (∀ a1 : Int, ∀ a2 : Int, ∀ gg0 : Int, ∀ gg1 : Int, ∀ hq, bAx G [(83076749736557242056487941267521536, 15), (83076749736557242056487941267521536, 18), (83076749736557242056487941267521536, 19), (83076749736557242056487941267521536, 20), (83076749736557242056487941267521536, 21), (2041694201525630780780247644590609268736, 256)] hp hq → ys hq k0 18 = gg0 → ys hq k0 15 = gg1 → 0 ≤ a1 → (-4000) ≤ 0 - a1 → 0 ≤ a2 → (-3999) ≤ 0 - a2 → 0 ≤ gg0 → (-3999) ≤ 0 - gg0 → 1 ≤ gg1 → (-4000) ≤ 0 - gg1 → 0 ≤ a1 - a2 → 0 ≤ a2 - gg0 → 0 ≤ 0 - a1 + gg1 → 1 ≤ 0 - a2 + gg1 → 0 - 16005 * a2 + 16005 * gg1 + 2 < (m : Int) → yG 89 xfts (xcall 89 xfts xpools xms (d + 1)) (xpool xp_RX13) [] xt_X13_findWords (yP 0 (fun rv hp' => (rv = none ∧ True) ∧ bAx G [(83076749736557242056487941267521536, 15), (83076749736557242056487941267521536, 18), (83076749736557242056487941267521536, 19), (83076749736557242056487941267521536, 20), (83076749736557242056487941267521536, 21), (2041694201525630780780247644590609268736, 256)] hp hp')) (23 * m) 63 [(0, yR k0), (1, yI (a1)), (2, yI (a2))] [] hq) ∧ (∀ a1 : Int, ∀ a2 : Int, ∀ gg0 : Int, ∀ gg1 : Int, ∀ hq, bAx G [(83076749736557242056487941267521536, 15), (83076749736557242056487941267521536, 18), (83076749736557242056487941267521536, 19), (83076749736557242056487941267521536, 20), (83076749736557242056487941267521536, 21), (2041694201525630780780247644590609268736, 256)] hp hq → ys hq k0 18 = gg0 → ys hq k0 15 = gg1 → 1 ≤ a1 → (-4000) ≤ 0 - a1 → 0 ≤ a2 → (-3999) ≤ 0 - a2 → 0 ≤ gg0 → (-3999) ≤ 0 - gg0 → 1 ≤ gg1 → (-4000) ≤ 0 - gg1 → 1 ≤ a1 - a2 → 0 ≤ a2 - gg0 → 0 ≤ 0 - a1 + gg1 → 0 - 16005 * a2 + 16005 * gg1 + 1 < (m : Int) → yG 89 xfts (xcall 89 xfts xpools xms (d + 1)) (xpool xp_RX13) [] xt_X13_findWords (yP 0 (fun rv hp' => (rv = none ∧ True) ∧ bAx G [(83076749736557242056487941267521536, 15), (83076749736557242056487941267521536, 18), (83076749736557242056487941267521536, 19), (83076749736557242056487941267521536, 20), (83076749736557242056487941267521536, 21), (2041694201525630780780247644590609268736, 256)] hp hp')) (23 * m) 96 [(0, yR k0), (1, yI (a1)), (2, yI (a2))] [] hq) := by
    intro m
    induction m with
    | zero =>
      refine ⟨?_, ?_, ?_, ?_⟩ <;> (intros; exfalso; omega)
    | succ m ih =>
      obtain ⟨i_15, i_25, i_63, i_96⟩ := ih
      refine ⟨?_, ?_, ?_, ?_⟩
      · intro a1 gg0 gg1 hq A_hq E_0 E_1 f0 f1 f2 f3 f4 f5 f6 f7 hm
        refine yG.mono (N := 23 * m + 23) ?_ (by omega)
        obtain ⟨-, -, g_0l, g_0u⟩ := (w_M_words W H_k0).int A_hq.1
        obtain ⟨-, -, g_1l, g_1u⟩ := (w_M_taped W H_k0).int A_hq.1
        refine yG.load xik rfl (fun _ _ => rfl) (v := yI (a1)) rfl rfl ?_
        refine yG.load xak rfl (fun _ _ => rfl) (v := yR k0) rfl rfl ?_
        refine yG.getI A_hq.1 (w_M_taped W H_k0) rfl rfl (fun z1 e_z1 i_z1 l_z1 u_z1 => ?_)
        rw [show (z1 : Int) = gg1 by omega]
        refine yG.icmp rfl (t := 131) rfl ⟨by omega, by omega⟩ ⟨by omega, by omega⟩ (fun c2 => ?_) (fun c2 => ?_)
        · have c2 : (a1 : Int) ≥ gg1 := c2
          refine yG.load xak rfl (fun _ _ => rfl) (v := yR k0) rfl rfl ?_
          refine yG.num (c := 0) rfl (fun _ _ => rfl) (by decide) ?_
          refine yG.putI A_hq.1 (w_M_taped W H_k0) (W.2.1 _ _ H_k0 (by decide) (by decide)) rfl rfl (.inl rfl) ⟨by omega, by omega⟩ (by omega) (by omega) (fun h3 T_h3 b_h3 f_h3 y_h3 => ?_)
          have A_h3 := A_hq.put T_h3 b_h3 f_h3 H_k0 (by decide)
          have : ys h3 k0 18 = ys hq k0 18 := (y_h3 k0 18).trans (if_neg (fun e => absurd e.2 (by decide)))
          have : ys h3 k0 15 = 0 := (y_h3 k0 15).trans (if_pos ⟨rfl, rfl⟩)
          refine yG.load xak rfl (fun _ _ => rfl) (v := yR k0) rfl rfl ?_
          refine yG.num (c := 0) rfl (fun _ _ => rfl) (by decide) ?_
          refine yG.putI A_h3.1 (w_M_at W H_k0) (W.2.1 _ _ H_k0 (by decide) (by decide)) rfl rfl (.inl rfl) ⟨by omega, by omega⟩ (by omega) (by omega) (fun h4 T_h4 b_h4 f_h4 y_h4 => ?_)
          have A_h4 := A_h3.put T_h4 b_h4 f_h4 H_k0 (by decide)
          have : ys h4 k0 18 = ys h3 k0 18 := (y_h4 k0 18).trans (if_neg (fun e => absurd e.2 (by decide)))
          have : ys h4 k0 15 = ys h3 k0 15 := (y_h4 k0 15).trans (if_neg (fun e => absurd e.2 (by decide)))
          refine yG.load xak rfl (fun _ _ => rfl) (v := yR k0) rfl rfl ?_
          refine yG.num (c := -1) rfl (fun _ _ => rfl) (by decide) ?_
          refine yG.putI A_h4.1 (w_M_fault W H_k0) (W.2.1 _ _ H_k0 (by decide) (by decide)) rfl rfl (.inl rfl) ⟨by omega, by omega⟩ (by omega) (by omega) (fun h5 T_h5 b_h5 f_h5 y_h5 => ?_)
          have A_h5 := A_h4.put T_h5 b_h5 f_h5 H_k0 (by decide)
          have : ys h5 k0 18 = ys h4 k0 18 := (y_h5 k0 18).trans (if_neg (fun e => absurd e.2 (by decide)))
          have : ys h5 k0 15 = ys h4 k0 15 := (y_h5 k0 15).trans (if_neg (fun e => absurd e.2 (by decide)))
          refine yG.ret rfl (fun _ _ => rfl) ?_
          exact (yP.void ⟨⟨rfl, trivial⟩, A_h5⟩)
        · have c2 : (a1 : Int) < gg1 := c2
          refine yG.load xik rfl (fun _ _ => rfl) (v := yI (a1)) rfl rfl ?_
          refine yG.store1 xik (L' := [(2, yI (a1)), (0, yR k0), (1, yI (a1))]) rfl (fun _ _ => rfl) rfl rfl ?_
          exact yG.mono (yG.sub (i_25 (a1) (a1) (ys hq k0 18) (ys hq k0 15) hq A_hq  rfl rfl (by omega) (by omega) (by omega) (by omega) (by omega) (by omega) (by omega) (by omega) (by omega) (by omega) (by omega) (by omega) (by omega)) (ySub.cons rfl (ySub.cons rfl (ySub.cons rfl (ySub.nil))))) (by omega)
      · intro a1 a2 gg0 gg1 hq A_hq E_0 E_1 f0 f1 f2 f3 f4 f5 f6 f7 f8 f9 f10 f11 hm
        refine yG.mono (N := 23 * m + 23) ?_ (by omega)
        obtain ⟨-, -, g_0l, g_0u⟩ := (w_M_words W H_k0).int A_hq.1
        obtain ⟨-, -, g_1l, g_1u⟩ := (w_M_taped W H_k0).int A_hq.1
        refine yG.load xik rfl (fun _ _ => rfl) (v := yI (a1)) rfl rfl ?_
        refine yG.load xak rfl (fun _ _ => rfl) (v := yR k0) rfl rfl ?_
        refine yG.getI A_hq.1 (w_M_taped W H_k0) rfl rfl (fun z1 e_z1 i_z1 l_z1 u_z1 => ?_)
        rw [show (z1 : Int) = gg1 by omega]
        refine yG.icmp rfl (t := 63) rfl ⟨by omega, by omega⟩ ⟨by omega, by omega⟩ (fun c2 => ?_) (fun c2 => ?_)
        · have c2 : (a1 : Int) ≥ gg1 := c2
          exact yG.mono (yG.sub (i_63 (a1) (a2) (ys hq k0 18) (ys hq k0 15) hq A_hq  rfl rfl (by omega) (by omega) (by omega) (by omega) (by omega) (by omega) (by omega) (by omega) (by omega) (by omega) (by omega) (by omega) (by omega)) (ySub.cons rfl (ySub.cons rfl (ySub.cons rfl (ySub.nil))))) (by omega)
        · have c2 : (a1 : Int) < gg1 := c2
          refine yG.load xak rfl (fun _ _ => rfl) (v := yR k0) rfl rfl ?_
          refine yG.getO A_hq.1 (w_M_tape W H_k0) rfl rfl (fun r3 H_r3 O_r3 q_r3 => ?_)
          refine yG.load xik rfl (fun _ _ => rfl) (v := yI (a1)) rfl rfl ?_
          refine yG.iald A_hq.1 (v_M_tape W H_r3) rfl (by omega) (by omega) (fun z4 e_z4 i_z4 l_z4 u_z4 => ?_)
          refine yG.invS (rest := []) rfl rfl rfl rfl (c_GModel_isLetter W d A_hq.1 (z4) (by omega) (by omega)) (fun rv hp9 q9 => ?_)
          obtain ⟨⟨z5, rfl, l_z5, u_z5, R_z5⟩, e9⟩ := q9
          rw [e9]
          show yG _ _ _ _ _ _ _ _ _ _ (yI z5 :: []) _
          refine yG.ifz rfl (t := 57) rfl ⟨by omega, by omega⟩ (fun c6 => ?_) (fun c6 => ?_)
          · have c6 : (z5 : Int) ≠ 0 := c6
            refine yG.iinc rfl (a := a1) rfl (L' := [(1, yI (a1 + 1)), (0, yR k0), (2, yI (a2))]) rfl ?_
            refine yG.goto rfl (t := 25) rfl ?_
            exact yG.mono (yG.sub (i_25 (a1 + 1) (a2) (ys hq k0 18) (ys hq k0 15) hq A_hq  rfl rfl (by omega) (by omega) (by omega) (by omega) (by omega) (by omega) (by omega) (by omega) (by omega) (by omega) (by omega) (by omega) (by omega)) (ySub.cons rfl (ySub.cons rfl (ySub.cons rfl (ySub.nil))))) (by omega)
          · have c6 : (z5 : Int) = 0 := c6
            refine yG.load xak rfl (fun _ _ => rfl) (v := yR k0) rfl rfl ?_
            refine yG.getS9 A_hq.1 (w_M_tape W H_k0) q_r3 rfl rfl ?_
            refine yG.load xik rfl (fun _ _ => rfl) (v := yI (a1)) rfl rfl ?_
            refine yG.iald A_hq.1 (v_M_tape W H_r3) rfl (by omega) (by omega) (fun z7 e_z7 i_z7 l_z7 u_z7 => ?_)
            rw [show (z7 : Int) = z4 by omega]
            refine yG.invS (rest := []) rfl rfl rfl rfl (c_GModel_isFigure W d A_hq.1 (z4) (by omega) (by omega)) (fun rv hp9 q9 => ?_)
            obtain ⟨⟨z8, rfl, l_z8, u_z8, R_z8⟩, e9⟩ := q9
            rw [e9]
            show yG _ _ _ _ _ _ _ _ _ _ (yI z8 :: []) _
            refine yG.ifz rfl (t := 63) rfl ⟨by omega, by omega⟩ (fun c9 => ?_) (fun c9 => ?_)
            · have c9 : (z8 : Int) = 0 := c9
              exact yG.mono (yG.sub (i_63 (a1) (a2) (ys hq k0 18) (ys hq k0 15) hq A_hq  rfl rfl (by omega) (by omega) (by omega) (by omega) (by omega) (by omega) (by omega) (by omega) (by omega) (by omega) (by omega) (by omega) (by omega)) (ySub.cons rfl (ySub.cons rfl (ySub.cons rfl (ySub.nil))))) (by omega)
            · have c9 : (z8 : Int) ≠ 0 := c9
              refine yG.iinc rfl (a := a1) rfl (L' := [(1, yI (a1 + 1)), (0, yR k0), (2, yI (a2))]) rfl ?_
              refine yG.goto rfl (t := 25) rfl ?_
              exact yG.mono (yG.sub (i_25 (a1 + 1) (a2) (ys hq k0 18) (ys hq k0 15) hq A_hq  rfl rfl (by omega) (by omega) (by omega) (by omega) (by omega) (by omega) (by omega) (by omega) (by omega) (by omega) (by omega) (by omega) (by omega)) (ySub.cons rfl (ySub.cons rfl (ySub.cons rfl (ySub.nil))))) (by omega)
      · intro a1 a2 gg0 gg1 hq A_hq E_0 E_1 f0 f1 f2 f3 f4 f5 f6 f7 f8 f9 f10 f11 hm
        refine yG.mono (N := 23 * m + 23) ?_ (by omega)
        obtain ⟨-, -, g_0l, g_0u⟩ := (w_M_words W H_k0).int A_hq.1
        obtain ⟨-, -, g_1l, g_1u⟩ := (w_M_taped W H_k0).int A_hq.1
        refine yG.load xik rfl (fun _ _ => rfl) (v := yI (a1)) rfl rfl ?_
        refine yG.load xik rfl (fun _ _ => rfl) (v := yI (a2)) rfl rfl ?_
        refine yG.icmp rfl (t := 96) rfl ⟨by omega, by omega⟩ ⟨by omega, by omega⟩ (fun c1 => ?_) (fun c1 => ?_)
        · have c1 : (a1 : Int) ≠ a2 := c1
          exact yG.mono (yG.sub (i_96 (a1) (a2) (ys hq k0 18) (ys hq k0 15) hq A_hq  rfl rfl (by omega) (by omega) (by omega) (by omega) (by omega) (by omega) (by omega) (by omega) (by omega) (by omega) (by omega) (by omega)) (ySub.cons rfl (ySub.cons rfl (ySub.cons rfl (ySub.nil))))) (by omega)
        · have c1 : (a1 : Int) = a2 := c1
          refine yG.iinc rfl (a := a1) rfl (L' := [(1, yI (a1 + 1)), (0, yR k0), (2, yI (a2))]) rfl ?_
          refine yG.load xak rfl (fun _ _ => rfl) (v := yR k0) rfl rfl ?_
          refine yG.getO A_hq.1 (w_M_tape W H_k0) rfl rfl (fun r2 H_r2 O_r2 q_r2 => ?_)
          refine yG.load xik rfl (fun _ _ => rfl) (v := yI (a2)) rfl rfl ?_
          refine yG.iald A_hq.1 (v_M_tape W H_r2) rfl (by omega) (by omega) (fun z3 e_z3 i_z3 l_z3 u_z3 => ?_)
          refine yG.num (c := 32) rfl (fun _ _ => rfl) (by decide) ?_
          refine yG.icmp rfl (t := 15) rfl ⟨by omega, by omega⟩ ⟨by omega, by omega⟩ (fun c4 => ?_) (fun c4 => ?_)
          · have c4 : (z3 : Int) = 32 := c4
            exact yG.mono (yG.sub (i_15 (a1 + 1) (ys hq k0 18) (ys hq k0 15) hq A_hq  rfl rfl (by omega) (by omega) (by omega) (by omega) (by omega) (by omega) (by omega) (by omega) (by omega)) (ySub.cons rfl (ySub.cons rfl (ySub.nil)))) (by omega)
          · have c4 : (z3 : Int) ≠ 32 := c4
            refine yG.load xak rfl (fun _ _ => rfl) (v := yR k0) rfl rfl ?_
            refine yG.getS9 A_hq.1 (w_M_tape W H_k0) q_r2 rfl rfl ?_
            refine yG.load xik rfl (fun _ _ => rfl) (v := yI (a2)) rfl rfl ?_
            refine yG.iald A_hq.1 (v_M_tape W H_r2) rfl (by omega) (by omega) (fun z5 e_z5 i_z5 l_z5 u_z5 => ?_)
            rw [show (z5 : Int) = z3 by omega]
            refine yG.num (c := 10) rfl (fun _ _ => rfl) (by decide) ?_
            refine yG.icmp rfl (t := 96) rfl ⟨by omega, by omega⟩ ⟨by omega, by omega⟩ (fun c6 => ?_) (fun c6 => ?_)
            · have c6 : (z3 : Int) ≠ 10 := c6
              exact yG.mono (yG.sub (i_96 (a1 + 1) (a2) (ys hq k0 18) (ys hq k0 15) hq A_hq  rfl rfl (by omega) (by omega) (by omega) (by omega) (by omega) (by omega) (by omega) (by omega) (by omega) (by omega) (by omega) (by omega)) (ySub.cons rfl (ySub.cons rfl (ySub.cons rfl (ySub.nil))))) (by omega)
            · have c6 : (z3 : Int) = 10 := c6
              refine yG.goto rfl (t := 15) rfl ?_
              exact yG.mono (yG.sub (i_15 (a1 + 1) (ys hq k0 18) (ys hq k0 15) hq A_hq  rfl rfl (by omega) (by omega) (by omega) (by omega) (by omega) (by omega) (by omega) (by omega) (by omega)) (ySub.cons rfl (ySub.cons rfl (ySub.nil)))) (by omega)
      · intro a1 a2 gg0 gg1 hq A_hq E_0 E_1 f0 f1 f2 f3 f4 f5 f6 f7 f8 f9 f10 hm
        refine yG.mono (N := 23 * m + 23) ?_ (by omega)
        obtain ⟨-, -, g_0l, g_0u⟩ := (w_M_words W H_k0).int A_hq.1
        obtain ⟨-, -, g_1l, g_1u⟩ := (w_M_taped W H_k0).int A_hq.1
        refine yG.load xak rfl (fun _ _ => rfl) (v := yR k0) rfl rfl ?_
        refine yG.getO A_hq.1 (w_M_wordAt W H_k0) rfl rfl (fun r1 H_r1 O_r1 q_r1 => ?_)
        refine yG.load xak rfl (fun _ _ => rfl) (v := yR k0) rfl rfl ?_
        refine yG.getI A_hq.1 (w_M_words W H_k0) rfl rfl (fun z2 e_z2 i_z2 l_z2 u_z2 => ?_)
        rw [show (z2 : Int) = gg0 by omega]
        refine yG.load xik rfl (fun _ _ => rfl) (v := yI (a2)) rfl rfl ?_
        refine yG.iast A_hq.1 (v_M_wordAt W H_r1) (W.2.1 _ _ H_r1 (by decide) (by decide)) rfl (by omega) (by omega) ⟨by omega, by omega⟩ (by omega) (by omega) (fun h3 T_h3 b_h3 f_h3 y_h3 => ?_)
        have A_h3 := A_hq.put T_h3 b_h3 f_h3 H_r1 (bAll_ok (by decide) _)
        have : ys h3 k0 18 = ys hq k0 18 := (y_h3 k0 18).trans (if_neg (fun e => (bRo.ne H_k0 H_r1 (by decide)) e.1))
        have : ys h3 k0 15 = ys hq k0 15 := (y_h3 k0 15).trans (if_neg (fun e => (bRo.ne H_k0 H_r1 (by decide)) e.1))
        refine yG.load xak rfl (fun _ _ => rfl) (v := yR k0) rfl rfl ?_
        refine yG.getO A_h3.1 (w_M_wordSize W H_k0) rfl rfl (fun r4 H_r4 O_r4 q_r4 => ?_)
        refine yG.load xak rfl (fun _ _ => rfl) (v := yR k0) rfl rfl ?_
        refine yG.getI A_h3.1 (w_M_words W H_k0) rfl rfl (fun z5 e_z5 i_z5 l_z5 u_z5 => ?_)
        rw [show (z5 : Int) = gg0 by omega]
        refine yG.load xik rfl (fun _ _ => rfl) (v := yI (a1)) rfl rfl ?_
        refine yG.load xik rfl (fun _ _ => rfl) (v := yI (a2)) rfl rfl ?_
        refine yG.isub rfl ?_
        refine yG.iast A_h3.1 (v_M_wordSize W H_r4) (W.2.1 _ _ H_r4 (by decide) (by decide)) rfl (by omega) (by omega) ⟨by omega, by omega⟩ (by omega) (by omega) (fun h6 T_h6 b_h6 f_h6 y_h6 => ?_)
        have A_h6 := A_h3.put T_h6 b_h6 f_h6 H_r4 (bAll_ok (by decide) _)
        have : ys h6 k0 18 = ys h3 k0 18 := (y_h6 k0 18).trans (if_neg (fun e => (bRo.ne H_k0 H_r4 (by decide)) e.1))
        have : ys h6 k0 15 = ys h3 k0 15 := (y_h6 k0 15).trans (if_neg (fun e => (bRo.ne H_k0 H_r4 (by decide)) e.1))
        refine yG.load xak rfl (fun _ _ => rfl) (v := yR k0) rfl rfl ?_
        refine yG.step (pc' := 120) (stk' := [yR k0, yR k0]) rfl (fun _ _ => rfl) ?_
        refine yG.getI A_h6.1 (w_M_words W H_k0) rfl rfl (fun z7 e_z7 i_z7 l_z7 u_z7 => ?_)
        rw [show (z7 : Int) = gg0 by omega]
        refine yG.num (c := 1) rfl (fun _ _ => rfl) (by decide) ?_
        refine yG.iadd rfl ?_
        refine yG.putI A_h6.1 (w_M_words W H_k0) (W.2.1 _ _ H_k0 (by decide) (by decide)) rfl rfl (.inl rfl) ⟨by omega, by omega⟩ (by omega) (by omega) (fun h8 T_h8 b_h8 f_h8 y_h8 => ?_)
        have A_h8 := A_h6.put T_h8 b_h8 f_h8 H_k0 (by decide)
        have : ys h8 k0 15 = ys h6 k0 15 := (y_h8 k0 15).trans (if_neg (fun e => absurd e.2 (by decide)))
        have : ys h8 k0 18 = gg0 + 1 := (y_h8 k0 18).trans (if_pos ⟨rfl, rfl⟩)
        refine yG.goto rfl (t := 15) rfl ?_
        exact yG.mono (yG.sub (i_15 (a1) (ys h8 k0 18) (ys h8 k0 15) h8 A_h8  rfl rfl (by omega) (by omega) (by omega) (by omega) (by omega) (by omega) (by omega) (by omega) (by omega)) (ySub.cons rfl (ySub.cons rfl (ySub.nil)))) (by omega)
  refine yC.of (M := (xt_X13_findWords, (3, (0, (14, []))))) rfl rfl (N := 1472828161) (yfuel (by decide)) ?_
  show yG 89 xfts (xcall 89 xfts xpools xms (d + 1)) (xpool xp_RX13) [] xt_X13_findWords (yP 0 (fun rv hp' => (rv = none ∧ True) ∧ bAx G [(83076749736557242056487941267521536, 15), (83076749736557242056487941267521536, 18), (83076749736557242056487941267521536, 19), (83076749736557242056487941267521536, 20), (83076749736557242056487941267521536, 21), (2041694201525630780780247644590609268736, 256)] hp hp')) 1472828161 0 [(0, yR k0)] [] hp
  obtain ⟨i_15, i_25, i_63, i_96⟩ := H 64036006
  obtain ⟨gg0, E_0⟩ : ∃ z : Int, ys hp k0 18 = z := ⟨_, rfl⟩
  obtain ⟨-, -, g_0l, g_0u⟩ := (w_M_words W H_k0).int hT
  obtain ⟨gg1, E_1⟩ : ∃ z : Int, ys hp k0 15 = z := ⟨_, rfl⟩
  obtain ⟨-, -, g_1l, g_1u⟩ := (w_M_taped W H_k0).int hT
  refine yG.load xak rfl (fun _ _ => rfl) (v := yR k0) rfl rfl ?_
  refine yG.load xak rfl (fun _ _ => rfl) (v := yR k0) rfl rfl ?_
  refine yG.getI A_hp.1 (w_M_taped W H_k0) rfl rfl (fun z1 e_z1 i_z1 l_z1 u_z1 => ?_)
  rw [show (z1 : Int) = gg1 by omega]
  refine yG.putI A_hp.1 (w_M_textSize W H_k0) (W.2.1 _ _ H_k0 (by decide) (by decide)) rfl rfl (.inl rfl) ⟨by omega, by omega⟩ (by omega) (by omega) (fun h2 T_h2 b_h2 f_h2 y_h2 => ?_)
  have A_h2 := A_hp.put T_h2 b_h2 f_h2 H_k0 (by decide)
  have : ys h2 k0 18 = ys hp k0 18 := (y_h2 k0 18).trans (if_neg (fun e => absurd e.2 (by decide)))
  have : ys h2 k0 15 = ys hp k0 15 := (y_h2 k0 15).trans (if_neg (fun e => absurd e.2 (by decide)))
  refine yG.load xak rfl (fun _ _ => rfl) (v := yR k0) rfl rfl ?_
  refine yG.num (c := 0) rfl (fun _ _ => rfl) (by decide) ?_
  refine yG.putI A_h2.1 (w_M_words W H_k0) (W.2.1 _ _ H_k0 (by decide) (by decide)) rfl rfl (.inl rfl) ⟨by omega, by omega⟩ (by omega) (by omega) (fun h3 T_h3 b_h3 f_h3 y_h3 => ?_)
  have A_h3 := A_h2.put T_h3 b_h3 f_h3 H_k0 (by decide)
  have : ys h3 k0 15 = ys h2 k0 15 := (y_h3 k0 15).trans (if_neg (fun e => absurd e.2 (by decide)))
  have : ys h3 k0 18 = 0 := (y_h3 k0 18).trans (if_pos ⟨rfl, rfl⟩)
  refine yG.num (c := 0) rfl (fun _ _ => rfl) (by decide) ?_
  refine yG.store1 xik (L' := [(1, yI (0)), (0, yR k0)]) rfl (fun _ _ => rfl) rfl rfl ?_
  exact yG.mono (yG.sub (i_15 (0) (ys h3 k0 18) (ys h3 k0 15) h3 A_h3  rfl rfl (by omega) (by omega) (by omega) (by omega) (by omega) (by omega) (by omega) (by omega) (by omega)) (ySub.cons rfl (ySub.cons rfl (ySub.nil)))) (by omega)
theorem c_GModel_add {hp : xH} (W : mW G) (d : Nat) (hT : zTy G hp) {k0 : Nat} (H_k0 : bRo G 116 k0) (p1 p2 p3 p4 : Int) (h1l : 0 ≤ p1) (h1u : p1 ≤ 11) (h2l : 0 ≤ p2) (h2u : p2 ≤ 1) (h3l : (-3) ≤ p3) (h3u : p3 ≤ 23) (h4l : 0 ≤ p4) (h4u : p4 ≤ 999999) (q0l : 0 ≤ ys hp k0 119) (q0u : ys hp k0 119 ≤ 2499) : yC (xcall 89 xfts xpools xms (d + 1)) 344 [yR k0, yI (p1), yI (p2), yI (p3), yI (p4)] hp (fun rv hp' => (rv = none ∧ True) ∧ bAx G [(83076749736557242056487941267521536, 119), (100433627766186892221372630771322662657637687111424552206336, 256)] hp hp') := by
  have A_hp : bAx G [(83076749736557242056487941267521536, 119), (100433627766186892221372630771322662657637687111424552206336, 256)] hp hp := bAx.rf hT
  refine yC.of (M := (xt_X13_add, (5, (0, (14, []))))) rfl rfl (N := 150) (yfuel (by decide)) ?_
  show yG 89 xfts (xcall 89 xfts xpools xms d) (xpool xp_RX13) [] xt_X13_add (yP 0 (fun rv hp' => (rv = none ∧ True) ∧ bAx G [(83076749736557242056487941267521536, 119), (100433627766186892221372630771322662657637687111424552206336, 256)] hp hp')) 150 0 [(0, yR k0), (1, yI (p1)), (2, yI (p2)), (3, yI (p3)), (4, yI (p4))] [] hp
  obtain ⟨gg0, E_0⟩ : ∃ z : Int, ys hp k0 119 = z := ⟨_, rfl⟩
  obtain ⟨-, -, g_0l, g_0u⟩ := (w_M_codes W H_k0).int hT
  refine yG.load xak rfl (fun _ _ => rfl) (v := yR k0) rfl rfl ?_
  refine yG.getO A_hp.1 (w_M_newCode W H_k0) rfl rfl (fun r1 H_r1 O_r1 q_r1 => ?_)
  refine yG.num (c := 4) rfl (fun _ _ => rfl) (by decide) ?_
  refine yG.load xak rfl (fun _ _ => rfl) (v := yR k0) rfl rfl ?_
  refine yG.getI A_hp.1 (w_M_codes W H_k0) rfl rfl (fun z2 e_z2 i_z2 l_z2 u_z2 => ?_)
  rw [show (z2 : Int) = gg0 by omega]
  refine yG.imul rfl ?_
  refine yG.load xik rfl (fun _ _ => rfl) (v := yI (p1)) rfl rfl ?_
  refine yG.iastF A_hp.1 (v_M_newCode W H_r1) ((bTf_m (m := 0) (by omega) (by decide)).trans rfl) (W.2.1 _ _ H_r1 (by decide) (by decide)) rfl (by omega) (by omega) ⟨by omega, by omega⟩ (by omega) (by omega) (fun h3 T_h3 b_h3 f_h3 y_h3 => ?_)
  have A_h3 := A_hp.put T_h3 b_h3 f_h3 H_r1 (bAll_ok (by decide) _)
  have : ys h3 k0 119 = ys hp k0 119 := (y_h3 k0 119).trans (if_neg (fun e => (bRo.ne H_k0 H_r1 (by decide)) e.1))
  have qq1 : zsl h3 k0 122 = yR r1 := ((f_h3 k0 122).trans (if_neg (fun e => (bRo.ne H_k0 H_r1 (by decide)) e.1))).trans q_r1
  refine yG.load xak rfl (fun _ _ => rfl) (v := yR k0) rfl rfl ?_
  refine yG.getS9 A_h3.1 (w_M_newCode W H_k0) qq1 rfl rfl ?_
  refine yG.num (c := 4) rfl (fun _ _ => rfl) (by decide) ?_
  refine yG.load xak rfl (fun _ _ => rfl) (v := yR k0) rfl rfl ?_
  refine yG.getI A_h3.1 (w_M_codes W H_k0) rfl rfl (fun z4 e_z4 i_z4 l_z4 u_z4 => ?_)
  rw [show (z4 : Int) = gg0 by omega]
  refine yG.imul rfl ?_
  refine yG.num (c := 1) rfl (fun _ _ => rfl) (by decide) ?_
  refine yG.iadd rfl ?_
  refine yG.load xik rfl (fun _ _ => rfl) (v := yI (p2)) rfl rfl ?_
  refine yG.ifz rfl (t := 32) rfl ⟨by omega, by omega⟩ (fun c5 => ?_) (fun c5 => ?_)
  · have c5 : (p2 : Int) = 0 := c5
    refine yG.num (c := 0) rfl (fun _ _ => rfl) (by decide) ?_
    refine yG.iastF A_h3.1 (v_M_newCode W H_r1) ((bTf_m (m := 1) (by omega) (by decide)).trans rfl) (W.2.1 _ _ H_r1 (by decide) (by decide)) rfl (by omega) (by omega) ⟨by omega, by omega⟩ (by omega) (by omega) (fun h6 T_h6 b_h6 f_h6 y_h6 => ?_)
    have A_h6 := A_h3.put T_h6 b_h6 f_h6 H_r1 (bAll_ok (by decide) _)
    have : ys h6 k0 119 = ys h3 k0 119 := (y_h6 k0 119).trans (if_neg (fun e => (bRo.ne H_k0 H_r1 (by decide)) e.1))
    have qq2 : zsl h6 k0 122 = yR r1 := ((f_h6 k0 122).trans (if_neg (fun e => (bRo.ne H_k0 H_r1 (by decide)) e.1))).trans qq1
    refine yG.load xak rfl (fun _ _ => rfl) (v := yR k0) rfl rfl ?_
    refine yG.getS9 A_h6.1 (w_M_newCode W H_k0) qq2 rfl rfl ?_
    refine yG.num (c := 4) rfl (fun _ _ => rfl) (by decide) ?_
    refine yG.load xak rfl (fun _ _ => rfl) (v := yR k0) rfl rfl ?_
    refine yG.getI A_h6.1 (w_M_codes W H_k0) rfl rfl (fun z7 e_z7 i_z7 l_z7 u_z7 => ?_)
    rw [show (z7 : Int) = gg0 by omega]
    refine yG.imul rfl ?_
    refine yG.num (c := 2) rfl (fun _ _ => rfl) (by decide) ?_
    refine yG.iadd rfl ?_
    refine yG.load xik rfl (fun _ _ => rfl) (v := yI (p3)) rfl rfl ?_
    refine yG.iastF A_h6.1 (v_M_newCode W H_r1) ((bTf_m (m := 2) (by omega) (by decide)).trans rfl) (W.2.1 _ _ H_r1 (by decide) (by decide)) rfl (by omega) (by omega) ⟨by omega, by omega⟩ (by omega) (by omega) (fun h8 T_h8 b_h8 f_h8 y_h8 => ?_)
    have A_h8 := A_h6.put T_h8 b_h8 f_h8 H_r1 (bAll_ok (by decide) _)
    have : ys h8 k0 119 = ys h6 k0 119 := (y_h8 k0 119).trans (if_neg (fun e => (bRo.ne H_k0 H_r1 (by decide)) e.1))
    have qq3 : zsl h8 k0 122 = yR r1 := ((f_h8 k0 122).trans (if_neg (fun e => (bRo.ne H_k0 H_r1 (by decide)) e.1))).trans qq2
    refine yG.load xak rfl (fun _ _ => rfl) (v := yR k0) rfl rfl ?_
    refine yG.getS9 A_h8.1 (w_M_newCode W H_k0) qq3 rfl rfl ?_
    refine yG.num (c := 4) rfl (fun _ _ => rfl) (by decide) ?_
    refine yG.load xak rfl (fun _ _ => rfl) (v := yR k0) rfl rfl ?_
    refine yG.getI A_h8.1 (w_M_codes W H_k0) rfl rfl (fun z9 e_z9 i_z9 l_z9 u_z9 => ?_)
    rw [show (z9 : Int) = gg0 by omega]
    refine yG.imul rfl ?_
    refine yG.num (c := 3) rfl (fun _ _ => rfl) (by decide) ?_
    refine yG.iadd rfl ?_
    refine yG.load xik rfl (fun _ _ => rfl) (v := yI (p4)) rfl rfl ?_
    refine yG.iastF A_h8.1 (v_M_newCode W H_r1) ((bTf_m (m := 3) (by omega) (by decide)).trans rfl) (W.2.1 _ _ H_r1 (by decide) (by decide)) rfl (by omega) (by omega) ⟨by omega, by omega⟩ (by omega) (by omega) (fun h10 T_h10 b_h10 f_h10 y_h10 => ?_)
    have A_h10 := A_h8.put T_h10 b_h10 f_h10 H_r1 (bAll_ok (by decide) _)
    have : ys h10 k0 119 = ys h8 k0 119 := (y_h10 k0 119).trans (if_neg (fun e => (bRo.ne H_k0 H_r1 (by decide)) e.1))
    have qq4 : zsl h10 k0 122 = yR r1 := ((f_h10 k0 122).trans (if_neg (fun e => (bRo.ne H_k0 H_r1 (by decide)) e.1))).trans qq3
    refine yG.load xak rfl (fun _ _ => rfl) (v := yR k0) rfl rfl ?_
    refine yG.step (pc' := 65) (stk' := [yR k0, yR k0]) rfl (fun _ _ => rfl) ?_
    refine yG.getI A_h10.1 (w_M_codes W H_k0) rfl rfl (fun z11 e_z11 i_z11 l_z11 u_z11 => ?_)
    rw [show (z11 : Int) = gg0 by omega]
    refine yG.num (c := 1) rfl (fun _ _ => rfl) (by decide) ?_
    refine yG.iadd rfl ?_
    refine yG.putI A_h10.1 (w_M_codes W H_k0) (W.2.1 _ _ H_k0 (by decide) (by decide)) rfl rfl (.inl rfl) ⟨by omega, by omega⟩ (by omega) (by omega) (fun h12 T_h12 b_h12 f_h12 y_h12 => ?_)
    have A_h12 := A_h10.put T_h12 b_h12 f_h12 H_k0 (by decide)
    have qq5 : zsl h12 k0 122 = yR r1 := ((f_h12 k0 122).trans (if_neg (fun e => absurd e.2 (by decide)))).trans qq4
    have : ys h12 k0 119 = gg0 + 1 := (y_h12 k0 119).trans (if_pos ⟨rfl, rfl⟩)
    refine yG.ret rfl (fun _ _ => rfl) ?_
    exact (yP.void ⟨⟨rfl, trivial⟩, A_h12⟩)
  · have c5 : (p2 : Int) ≠ 0 := c5
    refine yG.num (c := 1) rfl (fun _ _ => rfl) (by decide) ?_
    refine yG.goto rfl (t := 33) rfl ?_
    refine yG.iastF A_h3.1 (v_M_newCode W H_r1) ((bTf_m (m := 1) (by omega) (by decide)).trans rfl) (W.2.1 _ _ H_r1 (by decide) (by decide)) rfl (by omega) (by omega) ⟨by omega, by omega⟩ (by omega) (by omega) (fun h13 T_h13 b_h13 f_h13 y_h13 => ?_)
    have A_h13 := A_h3.put T_h13 b_h13 f_h13 H_r1 (bAll_ok (by decide) _)
    have : ys h13 k0 119 = ys h3 k0 119 := (y_h13 k0 119).trans (if_neg (fun e => (bRo.ne H_k0 H_r1 (by decide)) e.1))
    have qq6 : zsl h13 k0 122 = yR r1 := ((f_h13 k0 122).trans (if_neg (fun e => (bRo.ne H_k0 H_r1 (by decide)) e.1))).trans qq1
    refine yG.load xak rfl (fun _ _ => rfl) (v := yR k0) rfl rfl ?_
    refine yG.getS9 A_h13.1 (w_M_newCode W H_k0) qq6 rfl rfl ?_
    refine yG.num (c := 4) rfl (fun _ _ => rfl) (by decide) ?_
    refine yG.load xak rfl (fun _ _ => rfl) (v := yR k0) rfl rfl ?_
    refine yG.getI A_h13.1 (w_M_codes W H_k0) rfl rfl (fun z14 e_z14 i_z14 l_z14 u_z14 => ?_)
    rw [show (z14 : Int) = gg0 by omega]
    refine yG.imul rfl ?_
    refine yG.num (c := 2) rfl (fun _ _ => rfl) (by decide) ?_
    refine yG.iadd rfl ?_
    refine yG.load xik rfl (fun _ _ => rfl) (v := yI (p3)) rfl rfl ?_
    refine yG.iastF A_h13.1 (v_M_newCode W H_r1) ((bTf_m (m := 2) (by omega) (by decide)).trans rfl) (W.2.1 _ _ H_r1 (by decide) (by decide)) rfl (by omega) (by omega) ⟨by omega, by omega⟩ (by omega) (by omega) (fun h15 T_h15 b_h15 f_h15 y_h15 => ?_)
    have A_h15 := A_h13.put T_h15 b_h15 f_h15 H_r1 (bAll_ok (by decide) _)
    have : ys h15 k0 119 = ys h13 k0 119 := (y_h15 k0 119).trans (if_neg (fun e => (bRo.ne H_k0 H_r1 (by decide)) e.1))
    have qq7 : zsl h15 k0 122 = yR r1 := ((f_h15 k0 122).trans (if_neg (fun e => (bRo.ne H_k0 H_r1 (by decide)) e.1))).trans qq6
    refine yG.load xak rfl (fun _ _ => rfl) (v := yR k0) rfl rfl ?_
    refine yG.getS9 A_h15.1 (w_M_newCode W H_k0) qq7 rfl rfl ?_
    refine yG.num (c := 4) rfl (fun _ _ => rfl) (by decide) ?_
    refine yG.load xak rfl (fun _ _ => rfl) (v := yR k0) rfl rfl ?_
    refine yG.getI A_h15.1 (w_M_codes W H_k0) rfl rfl (fun z16 e_z16 i_z16 l_z16 u_z16 => ?_)
    rw [show (z16 : Int) = gg0 by omega]
    refine yG.imul rfl ?_
    refine yG.num (c := 3) rfl (fun _ _ => rfl) (by decide) ?_
    refine yG.iadd rfl ?_
    refine yG.load xik rfl (fun _ _ => rfl) (v := yI (p4)) rfl rfl ?_
    refine yG.iastF A_h15.1 (v_M_newCode W H_r1) ((bTf_m (m := 3) (by omega) (by decide)).trans rfl) (W.2.1 _ _ H_r1 (by decide) (by decide)) rfl (by omega) (by omega) ⟨by omega, by omega⟩ (by omega) (by omega) (fun h17 T_h17 b_h17 f_h17 y_h17 => ?_)
    have A_h17 := A_h15.put T_h17 b_h17 f_h17 H_r1 (bAll_ok (by decide) _)
    have : ys h17 k0 119 = ys h15 k0 119 := (y_h17 k0 119).trans (if_neg (fun e => (bRo.ne H_k0 H_r1 (by decide)) e.1))
    have qq8 : zsl h17 k0 122 = yR r1 := ((f_h17 k0 122).trans (if_neg (fun e => (bRo.ne H_k0 H_r1 (by decide)) e.1))).trans qq7
    refine yG.load xak rfl (fun _ _ => rfl) (v := yR k0) rfl rfl ?_
    refine yG.step (pc' := 65) (stk' := [yR k0, yR k0]) rfl (fun _ _ => rfl) ?_
    refine yG.getI A_h17.1 (w_M_codes W H_k0) rfl rfl (fun z18 e_z18 i_z18 l_z18 u_z18 => ?_)
    rw [show (z18 : Int) = gg0 by omega]
    refine yG.num (c := 1) rfl (fun _ _ => rfl) (by decide) ?_
    refine yG.iadd rfl ?_
    refine yG.putI A_h17.1 (w_M_codes W H_k0) (W.2.1 _ _ H_k0 (by decide) (by decide)) rfl rfl (.inl rfl) ⟨by omega, by omega⟩ (by omega) (by omega) (fun h19 T_h19 b_h19 f_h19 y_h19 => ?_)
    have A_h19 := A_h17.put T_h19 b_h19 f_h19 H_k0 (by decide)
    have qq9 : zsl h19 k0 122 = yR r1 := ((f_h19 k0 122).trans (if_neg (fun e => absurd e.2 (by decide)))).trans qq8
    have : ys h19 k0 119 = gg0 + 1 := (y_h19 k0 119).trans (if_pos ⟨rfl, rfl⟩)
    refine yG.ret rfl (fun _ _ => rfl) ?_
    exact (yP.void ⟨⟨rfl, trivial⟩, A_h19⟩)
theorem c_GModel_mayBe_0_0 {hp : xH} (W : mW G) (d : Nat) (hT : zTy G hp) {k0 : Nat} (H_k0 : bRo G 116 k0) (p2 p4 : Int) (h2l : 0 ≤ p2) (h2u : p2 ≤ 23) (h4l : (-2147483648) ≤ p4) (h4u : p4 ≤ 2147483647) : yC (xcall 89 xfts xpools xms (d + 1)) 453 [yR k0, yI (0), yI (p2), yI (0), yI (p4)] hp (bQpi hp 0 0 (fun _ => True)) := by
  have A_hp : bAx G [] hp hp := bAx.rf hT
  refine yC.of (M := (xt_X13_mayBe, (5, (4, (14, []))))) rfl rfl (N := 45) (yfuel (by decide)) ?_
  show yG 89 xfts (xcall 89 xfts xpools xms d) (xpool xp_RX13) [] xt_X13_mayBe (yP 4 (bQpi hp 0 0 (fun _ => True))) 45 0 [(0, yR k0), (1, yI (0)), (2, yI (p2)), (3, yI (0)), (4, yI (p4))] [] hp
  refine yG.load xik rfl (fun _ _ => rfl) (v := yI (0)) rfl rfl ?_
  refine yG.num (c := 1) rfl (fun _ _ => rfl) (by decide) ?_
  refine yG.icmp rfl (t := 46) rfl ⟨by omega, by omega⟩ ⟨by omega, by omega⟩ (fun c1 => ?_) (fun c1 => ?_)
  · have c1 : (0 : Int) ≠ 1 := c1
    refine yG.load xik rfl (fun _ _ => rfl) (v := yI (0)) rfl rfl ?_
    refine yG.num (c := 2) rfl (fun _ _ => rfl) (by decide) ?_
    refine yG.icmp rfl (t := 126) rfl ⟨by omega, by omega⟩ ⟨by omega, by omega⟩ (fun c2 => ?_) (fun c2 => ?_)
    · have c2 : (0 : Int) ≠ 2 := c2
      refine yG.load xik rfl (fun _ _ => rfl) (v := yI (0)) rfl rfl ?_
      refine yG.num (c := 4) rfl (fun _ _ => rfl) (by decide) ?_
      refine yG.icmp rfl (t := 154) rfl ⟨by omega, by omega⟩ ⟨by omega, by omega⟩ (fun c3 => ?_) (fun c3 => ?_)
      · have c3 : (0 : Int) ≠ 4 := c3
        refine yG.load xik rfl (fun _ _ => rfl) (v := yI (0)) rfl rfl ?_
        refine yG.ifz rfl (t := 160) rfl ⟨by omega, by omega⟩ (fun c4 => ?_) (fun c4 => ?_)
        · have c4 : (0 : Int) ≠ 0 := c4
          exfalso; omega
        · have c4 : (0 : Int) = 0 := c4
          refine yG.num (c := 0) rfl (fun _ _ => rfl) (by decide) ?_
          refine yG.ret rfl (fun _ _ => rfl) ?_
          exact (yP.bool (by omega) ⟨⟨0, rfl, by omega, by omega, trivial⟩, rfl⟩)
      · have c3 : (0 : Int) = 4 := c3
        exfalso; omega
    · have c2 : (0 : Int) = 2 := c2
      exfalso; omega
  · have c1 : (0 : Int) = 1 := c1
    exfalso; omega
theorem c_GModel_mayBe_0_1 {hp : xH} (W : mW G) (d : Nat) (hT : zTy G hp) {k0 : Nat} (H_k0 : bRo G 116 k0) (p2 p4 : Int) (h2l : 0 ≤ p2) (h2u : p2 ≤ 23) (h4l : (-2147483648) ≤ p4) (h4u : p4 ≤ 2147483647) : yC (xcall 89 xfts xpools xms (d + 1)) 453 [yR k0, yI (0), yI (p2), yI (1), yI (p4)] hp (bQpi hp 0 0 (fun _ => True)) := by
  have A_hp : bAx G [] hp hp := bAx.rf hT
  refine yC.of (M := (xt_X13_mayBe, (5, (4, (14, []))))) rfl rfl (N := 45) (yfuel (by decide)) ?_
  show yG 89 xfts (xcall 89 xfts xpools xms d) (xpool xp_RX13) [] xt_X13_mayBe (yP 4 (bQpi hp 0 0 (fun _ => True))) 45 0 [(0, yR k0), (1, yI (0)), (2, yI (p2)), (3, yI (1)), (4, yI (p4))] [] hp
  refine yG.load xik rfl (fun _ _ => rfl) (v := yI (0)) rfl rfl ?_
  refine yG.num (c := 1) rfl (fun _ _ => rfl) (by decide) ?_
  refine yG.icmp rfl (t := 46) rfl ⟨by omega, by omega⟩ ⟨by omega, by omega⟩ (fun c1 => ?_) (fun c1 => ?_)
  · have c1 : (0 : Int) ≠ 1 := c1
    refine yG.load xik rfl (fun _ _ => rfl) (v := yI (0)) rfl rfl ?_
    refine yG.num (c := 2) rfl (fun _ _ => rfl) (by decide) ?_
    refine yG.icmp rfl (t := 126) rfl ⟨by omega, by omega⟩ ⟨by omega, by omega⟩ (fun c2 => ?_) (fun c2 => ?_)
    · have c2 : (0 : Int) ≠ 2 := c2
      refine yG.load xik rfl (fun _ _ => rfl) (v := yI (0)) rfl rfl ?_
      refine yG.num (c := 4) rfl (fun _ _ => rfl) (by decide) ?_
      refine yG.icmp rfl (t := 154) rfl ⟨by omega, by omega⟩ ⟨by omega, by omega⟩ (fun c3 => ?_) (fun c3 => ?_)
      · have c3 : (0 : Int) ≠ 4 := c3
        refine yG.load xik rfl (fun _ _ => rfl) (v := yI (0)) rfl rfl ?_
        refine yG.ifz rfl (t := 160) rfl ⟨by omega, by omega⟩ (fun c4 => ?_) (fun c4 => ?_)
        · have c4 : (0 : Int) ≠ 0 := c4
          exfalso; omega
        · have c4 : (0 : Int) = 0 := c4
          refine yG.num (c := 0) rfl (fun _ _ => rfl) (by decide) ?_
          refine yG.ret rfl (fun _ _ => rfl) ?_
          exact (yP.bool (by omega) ⟨⟨0, rfl, by omega, by omega, trivial⟩, rfl⟩)
      · have c3 : (0 : Int) = 4 := c3
        exfalso; omega
    · have c2 : (0 : Int) = 2 := c2
      exfalso; omega
  · have c1 : (0 : Int) = 1 := c1
    exfalso; omega
theorem c_GModel_mayBe_0_2 {hp : xH} (W : mW G) (d : Nat) (hT : zTy G hp) {k0 : Nat} (H_k0 : bRo G 116 k0) (p2 p4 : Int) (h2l : 0 ≤ p2) (h2u : p2 ≤ 23) (h4l : (-2147483648) ≤ p4) (h4u : p4 ≤ 2147483647) : yC (xcall 89 xfts xpools xms (d + 1)) 453 [yR k0, yI (0), yI (p2), yI (2), yI (p4)] hp (bQpi hp 0 0 (fun _ => True)) := by
  have A_hp : bAx G [] hp hp := bAx.rf hT
  refine yC.of (M := (xt_X13_mayBe, (5, (4, (14, []))))) rfl rfl (N := 45) (yfuel (by decide)) ?_
  show yG 89 xfts (xcall 89 xfts xpools xms d) (xpool xp_RX13) [] xt_X13_mayBe (yP 4 (bQpi hp 0 0 (fun _ => True))) 45 0 [(0, yR k0), (1, yI (0)), (2, yI (p2)), (3, yI (2)), (4, yI (p4))] [] hp
  refine yG.load xik rfl (fun _ _ => rfl) (v := yI (0)) rfl rfl ?_
  refine yG.num (c := 1) rfl (fun _ _ => rfl) (by decide) ?_
  refine yG.icmp rfl (t := 46) rfl ⟨by omega, by omega⟩ ⟨by omega, by omega⟩ (fun c1 => ?_) (fun c1 => ?_)
  · have c1 : (0 : Int) ≠ 1 := c1
    refine yG.load xik rfl (fun _ _ => rfl) (v := yI (0)) rfl rfl ?_
    refine yG.num (c := 2) rfl (fun _ _ => rfl) (by decide) ?_
    refine yG.icmp rfl (t := 126) rfl ⟨by omega, by omega⟩ ⟨by omega, by omega⟩ (fun c2 => ?_) (fun c2 => ?_)
    · have c2 : (0 : Int) ≠ 2 := c2
      refine yG.load xik rfl (fun _ _ => rfl) (v := yI (0)) rfl rfl ?_
      refine yG.num (c := 4) rfl (fun _ _ => rfl) (by decide) ?_
      refine yG.icmp rfl (t := 154) rfl ⟨by omega, by omega⟩ ⟨by omega, by omega⟩ (fun c3 => ?_) (fun c3 => ?_)
      · have c3 : (0 : Int) ≠ 4 := c3
        refine yG.load xik rfl (fun _ _ => rfl) (v := yI (0)) rfl rfl ?_
        refine yG.ifz rfl (t := 160) rfl ⟨by omega, by omega⟩ (fun c4 => ?_) (fun c4 => ?_)
        · have c4 : (0 : Int) ≠ 0 := c4
          exfalso; omega
        · have c4 : (0 : Int) = 0 := c4
          refine yG.num (c := 0) rfl (fun _ _ => rfl) (by decide) ?_
          refine yG.ret rfl (fun _ _ => rfl) ?_
          exact (yP.bool (by omega) ⟨⟨0, rfl, by omega, by omega, trivial⟩, rfl⟩)
      · have c3 : (0 : Int) = 4 := c3
        exfalso; omega
    · have c2 : (0 : Int) = 2 := c2
      exfalso; omega
  · have c1 : (0 : Int) = 1 := c1
    exfalso; omega
theorem c_GModel_mayBe_0_3 {hp : xH} (W : mW G) (d : Nat) (hT : zTy G hp) {k0 : Nat} (H_k0 : bRo G 116 k0) (p2 p4 : Int) (h2l : 0 ≤ p2) (h2u : p2 ≤ 23) (h4l : (-2147483648) ≤ p4) (h4u : p4 ≤ 2147483647) : yC (xcall 89 xfts xpools xms (d + 1)) 453 [yR k0, yI (0), yI (p2), yI (3), yI (p4)] hp (bQpi hp 0 0 (fun _ => True)) := by
  have A_hp : bAx G [] hp hp := bAx.rf hT
  refine yC.of (M := (xt_X13_mayBe, (5, (4, (14, []))))) rfl rfl (N := 45) (yfuel (by decide)) ?_
  show yG 89 xfts (xcall 89 xfts xpools xms d) (xpool xp_RX13) [] xt_X13_mayBe (yP 4 (bQpi hp 0 0 (fun _ => True))) 45 0 [(0, yR k0), (1, yI (0)), (2, yI (p2)), (3, yI (3)), (4, yI (p4))] [] hp
  refine yG.load xik rfl (fun _ _ => rfl) (v := yI (0)) rfl rfl ?_
  refine yG.num (c := 1) rfl (fun _ _ => rfl) (by decide) ?_
  refine yG.icmp rfl (t := 46) rfl ⟨by omega, by omega⟩ ⟨by omega, by omega⟩ (fun c1 => ?_) (fun c1 => ?_)
  · have c1 : (0 : Int) ≠ 1 := c1
    refine yG.load xik rfl (fun _ _ => rfl) (v := yI (0)) rfl rfl ?_
    refine yG.num (c := 2) rfl (fun _ _ => rfl) (by decide) ?_
    refine yG.icmp rfl (t := 126) rfl ⟨by omega, by omega⟩ ⟨by omega, by omega⟩ (fun c2 => ?_) (fun c2 => ?_)
    · have c2 : (0 : Int) ≠ 2 := c2
      refine yG.load xik rfl (fun _ _ => rfl) (v := yI (0)) rfl rfl ?_
      refine yG.num (c := 4) rfl (fun _ _ => rfl) (by decide) ?_
      refine yG.icmp rfl (t := 154) rfl ⟨by omega, by omega⟩ ⟨by omega, by omega⟩ (fun c3 => ?_) (fun c3 => ?_)
      · have c3 : (0 : Int) ≠ 4 := c3
        refine yG.load xik rfl (fun _ _ => rfl) (v := yI (0)) rfl rfl ?_
        refine yG.ifz rfl (t := 160) rfl ⟨by omega, by omega⟩ (fun c4 => ?_) (fun c4 => ?_)
        · have c4 : (0 : Int) ≠ 0 := c4
          exfalso; omega
        · have c4 : (0 : Int) = 0 := c4
          refine yG.num (c := 0) rfl (fun _ _ => rfl) (by decide) ?_
          refine yG.ret rfl (fun _ _ => rfl) ?_
          exact (yP.bool (by omega) ⟨⟨0, rfl, by omega, by omega, trivial⟩, rfl⟩)
      · have c3 : (0 : Int) = 4 := c3
        exfalso; omega
    · have c2 : (0 : Int) = 2 := c2
      exfalso; omega
  · have c1 : (0 : Int) = 1 := c1
    exfalso; omega
theorem c_GModel_mayBe_0_4 {hp : xH} (W : mW G) (d : Nat) (hT : zTy G hp) {k0 : Nat} (H_k0 : bRo G 116 k0) (p2 p4 : Int) (h2l : 0 ≤ p2) (h2u : p2 ≤ 23) (h4l : (-2147483648) ≤ p4) (h4u : p4 ≤ 2147483647) : yC (xcall 89 xfts xpools xms (d + 1)) 453 [yR k0, yI (0), yI (p2), yI (4), yI (p4)] hp (bQpi hp 0 0 (fun _ => True)) := by
  have A_hp : bAx G [] hp hp := bAx.rf hT
  refine yC.of (M := (xt_X13_mayBe, (5, (4, (14, []))))) rfl rfl (N := 45) (yfuel (by decide)) ?_
  show yG 89 xfts (xcall 89 xfts xpools xms d) (xpool xp_RX13) [] xt_X13_mayBe (yP 4 (bQpi hp 0 0 (fun _ => True))) 45 0 [(0, yR k0), (1, yI (0)), (2, yI (p2)), (3, yI (4)), (4, yI (p4))] [] hp
  refine yG.load xik rfl (fun _ _ => rfl) (v := yI (0)) rfl rfl ?_
  refine yG.num (c := 1) rfl (fun _ _ => rfl) (by decide) ?_
  refine yG.icmp rfl (t := 46) rfl ⟨by omega, by omega⟩ ⟨by omega, by omega⟩ (fun c1 => ?_) (fun c1 => ?_)
  · have c1 : (0 : Int) ≠ 1 := c1
    refine yG.load xik rfl (fun _ _ => rfl) (v := yI (0)) rfl rfl ?_
    refine yG.num (c := 2) rfl (fun _ _ => rfl) (by decide) ?_
    refine yG.icmp rfl (t := 126) rfl ⟨by omega, by omega⟩ ⟨by omega, by omega⟩ (fun c2 => ?_) (fun c2 => ?_)
    · have c2 : (0 : Int) ≠ 2 := c2
      refine yG.load xik rfl (fun _ _ => rfl) (v := yI (0)) rfl rfl ?_
      refine yG.num (c := 4) rfl (fun _ _ => rfl) (by decide) ?_
      refine yG.icmp rfl (t := 154) rfl ⟨by omega, by omega⟩ ⟨by omega, by omega⟩ (fun c3 => ?_) (fun c3 => ?_)
      · have c3 : (0 : Int) ≠ 4 := c3
        refine yG.load xik rfl (fun _ _ => rfl) (v := yI (0)) rfl rfl ?_
        refine yG.ifz rfl (t := 160) rfl ⟨by omega, by omega⟩ (fun c4 => ?_) (fun c4 => ?_)
        · have c4 : (0 : Int) ≠ 0 := c4
          exfalso; omega
        · have c4 : (0 : Int) = 0 := c4
          refine yG.num (c := 0) rfl (fun _ _ => rfl) (by decide) ?_
          refine yG.ret rfl (fun _ _ => rfl) ?_
          exact (yP.bool (by omega) ⟨⟨0, rfl, by omega, by omega, trivial⟩, rfl⟩)
      · have c3 : (0 : Int) = 4 := c3
        exfalso; omega
    · have c2 : (0 : Int) = 2 := c2
      exfalso; omega
  · have c1 : (0 : Int) = 1 := c1
    exfalso; omega
theorem c_GModel_mayBe_0_5 {hp : xH} (W : mW G) (d : Nat) (hT : zTy G hp) {k0 : Nat} (H_k0 : bRo G 116 k0) (p2 p4 : Int) (h2l : 0 ≤ p2) (h2u : p2 ≤ 23) (h4l : (-2147483648) ≤ p4) (h4u : p4 ≤ 2147483647) : yC (xcall 89 xfts xpools xms (d + 1)) 453 [yR k0, yI (0), yI (p2), yI (5), yI (p4)] hp (bQpi hp 0 0 (fun _ => True)) := by
  have A_hp : bAx G [] hp hp := bAx.rf hT
  refine yC.of (M := (xt_X13_mayBe, (5, (4, (14, []))))) rfl rfl (N := 45) (yfuel (by decide)) ?_
  show yG 89 xfts (xcall 89 xfts xpools xms d) (xpool xp_RX13) [] xt_X13_mayBe (yP 4 (bQpi hp 0 0 (fun _ => True))) 45 0 [(0, yR k0), (1, yI (0)), (2, yI (p2)), (3, yI (5)), (4, yI (p4))] [] hp
  refine yG.load xik rfl (fun _ _ => rfl) (v := yI (0)) rfl rfl ?_
  refine yG.num (c := 1) rfl (fun _ _ => rfl) (by decide) ?_
  refine yG.icmp rfl (t := 46) rfl ⟨by omega, by omega⟩ ⟨by omega, by omega⟩ (fun c1 => ?_) (fun c1 => ?_)
  · have c1 : (0 : Int) ≠ 1 := c1
    refine yG.load xik rfl (fun _ _ => rfl) (v := yI (0)) rfl rfl ?_
    refine yG.num (c := 2) rfl (fun _ _ => rfl) (by decide) ?_
    refine yG.icmp rfl (t := 126) rfl ⟨by omega, by omega⟩ ⟨by omega, by omega⟩ (fun c2 => ?_) (fun c2 => ?_)
    · have c2 : (0 : Int) ≠ 2 := c2
      refine yG.load xik rfl (fun _ _ => rfl) (v := yI (0)) rfl rfl ?_
      refine yG.num (c := 4) rfl (fun _ _ => rfl) (by decide) ?_
      refine yG.icmp rfl (t := 154) rfl ⟨by omega, by omega⟩ ⟨by omega, by omega⟩ (fun c3 => ?_) (fun c3 => ?_)
      · have c3 : (0 : Int) ≠ 4 := c3
        refine yG.load xik rfl (fun _ _ => rfl) (v := yI (0)) rfl rfl ?_
        refine yG.ifz rfl (t := 160) rfl ⟨by omega, by omega⟩ (fun c4 => ?_) (fun c4 => ?_)
        · have c4 : (0 : Int) ≠ 0 := c4
          exfalso; omega
        · have c4 : (0 : Int) = 0 := c4
          refine yG.num (c := 0) rfl (fun _ _ => rfl) (by decide) ?_
          refine yG.ret rfl (fun _ _ => rfl) ?_
          exact (yP.bool (by omega) ⟨⟨0, rfl, by omega, by omega, trivial⟩, rfl⟩)
      · have c3 : (0 : Int) = 4 := c3
        exfalso; omega
    · have c2 : (0 : Int) = 2 := c2
      exfalso; omega
  · have c1 : (0 : Int) = 1 := c1
    exfalso; omega
theorem c_GModel_mayBe_0_6 {hp : xH} (W : mW G) (d : Nat) (hT : zTy G hp) {k0 : Nat} (H_k0 : bRo G 116 k0) (p2 p4 : Int) (h2l : 0 ≤ p2) (h2u : p2 ≤ 23) (h4l : (-2147483648) ≤ p4) (h4u : p4 ≤ 2147483647) : yC (xcall 89 xfts xpools xms (d + 1)) 453 [yR k0, yI (0), yI (p2), yI (6), yI (p4)] hp (bQpi hp 0 0 (fun _ => True)) := by
  have A_hp : bAx G [] hp hp := bAx.rf hT
  refine yC.of (M := (xt_X13_mayBe, (5, (4, (14, []))))) rfl rfl (N := 45) (yfuel (by decide)) ?_
  show yG 89 xfts (xcall 89 xfts xpools xms d) (xpool xp_RX13) [] xt_X13_mayBe (yP 4 (bQpi hp 0 0 (fun _ => True))) 45 0 [(0, yR k0), (1, yI (0)), (2, yI (p2)), (3, yI (6)), (4, yI (p4))] [] hp
  refine yG.load xik rfl (fun _ _ => rfl) (v := yI (0)) rfl rfl ?_
  refine yG.num (c := 1) rfl (fun _ _ => rfl) (by decide) ?_
  refine yG.icmp rfl (t := 46) rfl ⟨by omega, by omega⟩ ⟨by omega, by omega⟩ (fun c1 => ?_) (fun c1 => ?_)
  · have c1 : (0 : Int) ≠ 1 := c1
    refine yG.load xik rfl (fun _ _ => rfl) (v := yI (0)) rfl rfl ?_
    refine yG.num (c := 2) rfl (fun _ _ => rfl) (by decide) ?_
    refine yG.icmp rfl (t := 126) rfl ⟨by omega, by omega⟩ ⟨by omega, by omega⟩ (fun c2 => ?_) (fun c2 => ?_)
    · have c2 : (0 : Int) ≠ 2 := c2
      refine yG.load xik rfl (fun _ _ => rfl) (v := yI (0)) rfl rfl ?_
      refine yG.num (c := 4) rfl (fun _ _ => rfl) (by decide) ?_
      refine yG.icmp rfl (t := 154) rfl ⟨by omega, by omega⟩ ⟨by omega, by omega⟩ (fun c3 => ?_) (fun c3 => ?_)
      · have c3 : (0 : Int) ≠ 4 := c3
        refine yG.load xik rfl (fun _ _ => rfl) (v := yI (0)) rfl rfl ?_
        refine yG.ifz rfl (t := 160) rfl ⟨by omega, by omega⟩ (fun c4 => ?_) (fun c4 => ?_)
        · have c4 : (0 : Int) ≠ 0 := c4
          exfalso; omega
        · have c4 : (0 : Int) = 0 := c4
          refine yG.num (c := 0) rfl (fun _ _ => rfl) (by decide) ?_
          refine yG.ret rfl (fun _ _ => rfl) ?_
          exact (yP.bool (by omega) ⟨⟨0, rfl, by omega, by omega, trivial⟩, rfl⟩)
      · have c3 : (0 : Int) = 4 := c3
        exfalso; omega
    · have c2 : (0 : Int) = 2 := c2
      exfalso; omega
  · have c1 : (0 : Int) = 1 := c1
    exfalso; omega
theorem c_GModel_mayBe_0_7 {hp : xH} (W : mW G) (d : Nat) (hT : zTy G hp) {k0 : Nat} (H_k0 : bRo G 116 k0) (p2 p4 : Int) (h2l : 0 ≤ p2) (h2u : p2 ≤ 23) (h4l : (-2147483648) ≤ p4) (h4u : p4 ≤ 2147483647) : yC (xcall 89 xfts xpools xms (d + 1)) 453 [yR k0, yI (0), yI (p2), yI (7), yI (p4)] hp (bQpi hp 0 0 (fun _ => True)) := by
  have A_hp : bAx G [] hp hp := bAx.rf hT
  refine yC.of (M := (xt_X13_mayBe, (5, (4, (14, []))))) rfl rfl (N := 45) (yfuel (by decide)) ?_
  show yG 89 xfts (xcall 89 xfts xpools xms d) (xpool xp_RX13) [] xt_X13_mayBe (yP 4 (bQpi hp 0 0 (fun _ => True))) 45 0 [(0, yR k0), (1, yI (0)), (2, yI (p2)), (3, yI (7)), (4, yI (p4))] [] hp
  refine yG.load xik rfl (fun _ _ => rfl) (v := yI (0)) rfl rfl ?_
  refine yG.num (c := 1) rfl (fun _ _ => rfl) (by decide) ?_
  refine yG.icmp rfl (t := 46) rfl ⟨by omega, by omega⟩ ⟨by omega, by omega⟩ (fun c1 => ?_) (fun c1 => ?_)
  · have c1 : (0 : Int) ≠ 1 := c1
    refine yG.load xik rfl (fun _ _ => rfl) (v := yI (0)) rfl rfl ?_
    refine yG.num (c := 2) rfl (fun _ _ => rfl) (by decide) ?_
    refine yG.icmp rfl (t := 126) rfl ⟨by omega, by omega⟩ ⟨by omega, by omega⟩ (fun c2 => ?_) (fun c2 => ?_)
    · have c2 : (0 : Int) ≠ 2 := c2
      refine yG.load xik rfl (fun _ _ => rfl) (v := yI (0)) rfl rfl ?_
      refine yG.num (c := 4) rfl (fun _ _ => rfl) (by decide) ?_
      refine yG.icmp rfl (t := 154) rfl ⟨by omega, by omega⟩ ⟨by omega, by omega⟩ (fun c3 => ?_) (fun c3 => ?_)
      · have c3 : (0 : Int) ≠ 4 := c3
        refine yG.load xik rfl (fun _ _ => rfl) (v := yI (0)) rfl rfl ?_
        refine yG.ifz rfl (t := 160) rfl ⟨by omega, by omega⟩ (fun c4 => ?_) (fun c4 => ?_)
        · have c4 : (0 : Int) ≠ 0 := c4
          exfalso; omega
        · have c4 : (0 : Int) = 0 := c4
          refine yG.num (c := 0) rfl (fun _ _ => rfl) (by decide) ?_
          refine yG.ret rfl (fun _ _ => rfl) ?_
          exact (yP.bool (by omega) ⟨⟨0, rfl, by omega, by omega, trivial⟩, rfl⟩)
      · have c3 : (0 : Int) = 4 := c3
        exfalso; omega
    · have c2 : (0 : Int) = 2 := c2
      exfalso; omega
  · have c1 : (0 : Int) = 1 := c1
    exfalso; omega
theorem c_GModel_mayBe_0_8 {hp : xH} (W : mW G) (d : Nat) (hT : zTy G hp) {k0 : Nat} (H_k0 : bRo G 116 k0) (p2 p4 : Int) (h2l : 0 ≤ p2) (h2u : p2 ≤ 23) (h4l : (-2147483648) ≤ p4) (h4u : p4 ≤ 2147483647) : yC (xcall 89 xfts xpools xms (d + 1)) 453 [yR k0, yI (0), yI (p2), yI (8), yI (p4)] hp (bQpi hp 0 0 (fun _ => True)) := by
  have A_hp : bAx G [] hp hp := bAx.rf hT
  refine yC.of (M := (xt_X13_mayBe, (5, (4, (14, []))))) rfl rfl (N := 45) (yfuel (by decide)) ?_
  show yG 89 xfts (xcall 89 xfts xpools xms d) (xpool xp_RX13) [] xt_X13_mayBe (yP 4 (bQpi hp 0 0 (fun _ => True))) 45 0 [(0, yR k0), (1, yI (0)), (2, yI (p2)), (3, yI (8)), (4, yI (p4))] [] hp
  refine yG.load xik rfl (fun _ _ => rfl) (v := yI (0)) rfl rfl ?_
  refine yG.num (c := 1) rfl (fun _ _ => rfl) (by decide) ?_
  refine yG.icmp rfl (t := 46) rfl ⟨by omega, by omega⟩ ⟨by omega, by omega⟩ (fun c1 => ?_) (fun c1 => ?_)
  · have c1 : (0 : Int) ≠ 1 := c1
    refine yG.load xik rfl (fun _ _ => rfl) (v := yI (0)) rfl rfl ?_
    refine yG.num (c := 2) rfl (fun _ _ => rfl) (by decide) ?_
    refine yG.icmp rfl (t := 126) rfl ⟨by omega, by omega⟩ ⟨by omega, by omega⟩ (fun c2 => ?_) (fun c2 => ?_)
    · have c2 : (0 : Int) ≠ 2 := c2
      refine yG.load xik rfl (fun _ _ => rfl) (v := yI (0)) rfl rfl ?_
      refine yG.num (c := 4) rfl (fun _ _ => rfl) (by decide) ?_
      refine yG.icmp rfl (t := 154) rfl ⟨by omega, by omega⟩ ⟨by omega, by omega⟩ (fun c3 => ?_) (fun c3 => ?_)
      · have c3 : (0 : Int) ≠ 4 := c3
        refine yG.load xik rfl (fun _ _ => rfl) (v := yI (0)) rfl rfl ?_
        refine yG.ifz rfl (t := 160) rfl ⟨by omega, by omega⟩ (fun c4 => ?_) (fun c4 => ?_)
        · have c4 : (0 : Int) ≠ 0 := c4
          exfalso; omega
        · have c4 : (0 : Int) = 0 := c4
          refine yG.num (c := 0) rfl (fun _ _ => rfl) (by decide) ?_
          refine yG.ret rfl (fun _ _ => rfl) ?_
          exact (yP.bool (by omega) ⟨⟨0, rfl, by omega, by omega, trivial⟩, rfl⟩)
      · have c3 : (0 : Int) = 4 := c3
        exfalso; omega
    · have c2 : (0 : Int) = 2 := c2
      exfalso; omega
  · have c1 : (0 : Int) = 1 := c1
    exfalso; omega
theorem c_GModel_mayBe_0_9 {hp : xH} (W : mW G) (d : Nat) (hT : zTy G hp) {k0 : Nat} (H_k0 : bRo G 116 k0) (p2 p4 : Int) (h2l : 0 ≤ p2) (h2u : p2 ≤ 23) (h4l : (-2147483648) ≤ p4) (h4u : p4 ≤ 2147483647) : yC (xcall 89 xfts xpools xms (d + 1)) 453 [yR k0, yI (0), yI (p2), yI (9), yI (p4)] hp (bQpi hp 0 0 (fun _ => True)) := by
  have A_hp : bAx G [] hp hp := bAx.rf hT
  refine yC.of (M := (xt_X13_mayBe, (5, (4, (14, []))))) rfl rfl (N := 45) (yfuel (by decide)) ?_
  show yG 89 xfts (xcall 89 xfts xpools xms d) (xpool xp_RX13) [] xt_X13_mayBe (yP 4 (bQpi hp 0 0 (fun _ => True))) 45 0 [(0, yR k0), (1, yI (0)), (2, yI (p2)), (3, yI (9)), (4, yI (p4))] [] hp
  refine yG.load xik rfl (fun _ _ => rfl) (v := yI (0)) rfl rfl ?_
  refine yG.num (c := 1) rfl (fun _ _ => rfl) (by decide) ?_
  refine yG.icmp rfl (t := 46) rfl ⟨by omega, by omega⟩ ⟨by omega, by omega⟩ (fun c1 => ?_) (fun c1 => ?_)
  · have c1 : (0 : Int) ≠ 1 := c1
    refine yG.load xik rfl (fun _ _ => rfl) (v := yI (0)) rfl rfl ?_
    refine yG.num (c := 2) rfl (fun _ _ => rfl) (by decide) ?_
    refine yG.icmp rfl (t := 126) rfl ⟨by omega, by omega⟩ ⟨by omega, by omega⟩ (fun c2 => ?_) (fun c2 => ?_)
    · have c2 : (0 : Int) ≠ 2 := c2
      refine yG.load xik rfl (fun _ _ => rfl) (v := yI (0)) rfl rfl ?_
      refine yG.num (c := 4) rfl (fun _ _ => rfl) (by decide) ?_
      refine yG.icmp rfl (t := 154) rfl ⟨by omega, by omega⟩ ⟨by omega, by omega⟩ (fun c3 => ?_) (fun c3 => ?_)
      · have c3 : (0 : Int) ≠ 4 := c3
        refine yG.load xik rfl (fun _ _ => rfl) (v := yI (0)) rfl rfl ?_
        refine yG.ifz rfl (t := 160) rfl ⟨by omega, by omega⟩ (fun c4 => ?_) (fun c4 => ?_)
        · have c4 : (0 : Int) ≠ 0 := c4
          exfalso; omega
        · have c4 : (0 : Int) = 0 := c4
          refine yG.num (c := 0) rfl (fun _ _ => rfl) (by decide) ?_
          refine yG.ret rfl (fun _ _ => rfl) ?_
          exact (yP.bool (by omega) ⟨⟨0, rfl, by omega, by omega, trivial⟩, rfl⟩)
      · have c3 : (0 : Int) = 4 := c3
        exfalso; omega
    · have c2 : (0 : Int) = 2 := c2
      exfalso; omega
  · have c1 : (0 : Int) = 1 := c1
    exfalso; omega
theorem c_GModel_mayBe_0_10 {hp : xH} (W : mW G) (d : Nat) (hT : zTy G hp) {k0 : Nat} (H_k0 : bRo G 116 k0) (p2 p4 : Int) (h2l : 0 ≤ p2) (h2u : p2 ≤ 23) (h4l : (-2147483648) ≤ p4) (h4u : p4 ≤ 2147483647) : yC (xcall 89 xfts xpools xms (d + 1)) 453 [yR k0, yI (0), yI (p2), yI (10), yI (p4)] hp (bQpi hp 0 0 (fun _ => True)) := by
  have A_hp : bAx G [] hp hp := bAx.rf hT
  refine yC.of (M := (xt_X13_mayBe, (5, (4, (14, []))))) rfl rfl (N := 45) (yfuel (by decide)) ?_
  show yG 89 xfts (xcall 89 xfts xpools xms d) (xpool xp_RX13) [] xt_X13_mayBe (yP 4 (bQpi hp 0 0 (fun _ => True))) 45 0 [(0, yR k0), (1, yI (0)), (2, yI (p2)), (3, yI (10)), (4, yI (p4))] [] hp
  refine yG.load xik rfl (fun _ _ => rfl) (v := yI (0)) rfl rfl ?_
  refine yG.num (c := 1) rfl (fun _ _ => rfl) (by decide) ?_
  refine yG.icmp rfl (t := 46) rfl ⟨by omega, by omega⟩ ⟨by omega, by omega⟩ (fun c1 => ?_) (fun c1 => ?_)
  · have c1 : (0 : Int) ≠ 1 := c1
    refine yG.load xik rfl (fun _ _ => rfl) (v := yI (0)) rfl rfl ?_
    refine yG.num (c := 2) rfl (fun _ _ => rfl) (by decide) ?_
    refine yG.icmp rfl (t := 126) rfl ⟨by omega, by omega⟩ ⟨by omega, by omega⟩ (fun c2 => ?_) (fun c2 => ?_)
    · have c2 : (0 : Int) ≠ 2 := c2
      refine yG.load xik rfl (fun _ _ => rfl) (v := yI (0)) rfl rfl ?_
      refine yG.num (c := 4) rfl (fun _ _ => rfl) (by decide) ?_
      refine yG.icmp rfl (t := 154) rfl ⟨by omega, by omega⟩ ⟨by omega, by omega⟩ (fun c3 => ?_) (fun c3 => ?_)
      · have c3 : (0 : Int) ≠ 4 := c3
        refine yG.load xik rfl (fun _ _ => rfl) (v := yI (0)) rfl rfl ?_
        refine yG.ifz rfl (t := 160) rfl ⟨by omega, by omega⟩ (fun c4 => ?_) (fun c4 => ?_)
        · have c4 : (0 : Int) ≠ 0 := c4
          exfalso; omega
        · have c4 : (0 : Int) = 0 := c4
          refine yG.num (c := 0) rfl (fun _ _ => rfl) (by decide) ?_
          refine yG.ret rfl (fun _ _ => rfl) ?_
          exact (yP.bool (by omega) ⟨⟨0, rfl, by omega, by omega, trivial⟩, rfl⟩)
      · have c3 : (0 : Int) = 4 := c3
        exfalso; omega
    · have c2 : (0 : Int) = 2 := c2
      exfalso; omega
  · have c1 : (0 : Int) = 1 := c1
    exfalso; omega
theorem c_GModel_mayBe_0_l {hp : xH} (W : mW G) (d : Nat) (hT : zTy G hp) {k0 : Nat} (H_k0 : bRo G 116 k0) (p2 p3 p4 : Int) (h2l : 0 ≤ p2) (h2u : p2 ≤ 23) (h3l : (-2147483648) ≤ p3) (h3u : p3 ≤ (-1)) (h4l : (-2147483648) ≤ p4) (h4u : p4 ≤ 2147483647) : yC (xcall 89 xfts xpools xms (d + 1)) 453 [yR k0, yI (0), yI (p2), yI (p3), yI (p4)] hp (bQpi hp 0 0 (fun _ => True)) := by
  have A_hp : bAx G [] hp hp := bAx.rf hT
  refine yC.of (M := (xt_X13_mayBe, (5, (4, (14, []))))) rfl rfl (N := 45) (yfuel (by decide)) ?_
  show yG 89 xfts (xcall 89 xfts xpools xms d) (xpool xp_RX13) [] xt_X13_mayBe (yP 4 (bQpi hp 0 0 (fun _ => True))) 45 0 [(0, yR k0), (1, yI (0)), (2, yI (p2)), (3, yI (p3)), (4, yI (p4))] [] hp
  refine yG.load xik rfl (fun _ _ => rfl) (v := yI (0)) rfl rfl ?_
  refine yG.num (c := 1) rfl (fun _ _ => rfl) (by decide) ?_
  refine yG.icmp rfl (t := 46) rfl ⟨by omega, by omega⟩ ⟨by omega, by omega⟩ (fun c1 => ?_) (fun c1 => ?_)
  · have c1 : (0 : Int) ≠ 1 := c1
    refine yG.load xik rfl (fun _ _ => rfl) (v := yI (0)) rfl rfl ?_
    refine yG.num (c := 2) rfl (fun _ _ => rfl) (by decide) ?_
    refine yG.icmp rfl (t := 126) rfl ⟨by omega, by omega⟩ ⟨by omega, by omega⟩ (fun c2 => ?_) (fun c2 => ?_)
    · have c2 : (0 : Int) ≠ 2 := c2
      refine yG.load xik rfl (fun _ _ => rfl) (v := yI (0)) rfl rfl ?_
      refine yG.num (c := 4) rfl (fun _ _ => rfl) (by decide) ?_
      refine yG.icmp rfl (t := 154) rfl ⟨by omega, by omega⟩ ⟨by omega, by omega⟩ (fun c3 => ?_) (fun c3 => ?_)
      · have c3 : (0 : Int) ≠ 4 := c3
        refine yG.load xik rfl (fun _ _ => rfl) (v := yI (0)) rfl rfl ?_
        refine yG.ifz rfl (t := 160) rfl ⟨by omega, by omega⟩ (fun c4 => ?_) (fun c4 => ?_)
        · have c4 : (0 : Int) ≠ 0 := c4
          exfalso; omega
        · have c4 : (0 : Int) = 0 := c4
          refine yG.num (c := 0) rfl (fun _ _ => rfl) (by decide) ?_
          refine yG.ret rfl (fun _ _ => rfl) ?_
          exact (yP.bool (by omega) ⟨⟨0, rfl, by omega, by omega, trivial⟩, rfl⟩)
      · have c3 : (0 : Int) = 4 := c3
        exfalso; omega
    · have c2 : (0 : Int) = 2 := c2
      exfalso; omega
  · have c1 : (0 : Int) = 1 := c1
    exfalso; omega
theorem c_GModel_mayBe_0_h {hp : xH} (W : mW G) (d : Nat) (hT : zTy G hp) {k0 : Nat} (H_k0 : bRo G 116 k0) (p2 p3 p4 : Int) (h2l : 0 ≤ p2) (h2u : p2 ≤ 23) (h3l : 11 ≤ p3) (h3u : p3 ≤ 2147483647) (h4l : (-2147483648) ≤ p4) (h4u : p4 ≤ 2147483647) : yC (xcall 89 xfts xpools xms (d + 1)) 453 [yR k0, yI (0), yI (p2), yI (p3), yI (p4)] hp (bQpi hp 0 0 (fun _ => True)) := by
  have A_hp : bAx G [] hp hp := bAx.rf hT
  refine yC.of (M := (xt_X13_mayBe, (5, (4, (14, []))))) rfl rfl (N := 45) (yfuel (by decide)) ?_
  show yG 89 xfts (xcall 89 xfts xpools xms d) (xpool xp_RX13) [] xt_X13_mayBe (yP 4 (bQpi hp 0 0 (fun _ => True))) 45 0 [(0, yR k0), (1, yI (0)), (2, yI (p2)), (3, yI (p3)), (4, yI (p4))] [] hp
  refine yG.load xik rfl (fun _ _ => rfl) (v := yI (0)) rfl rfl ?_
  refine yG.num (c := 1) rfl (fun _ _ => rfl) (by decide) ?_
  refine yG.icmp rfl (t := 46) rfl ⟨by omega, by omega⟩ ⟨by omega, by omega⟩ (fun c1 => ?_) (fun c1 => ?_)
  · have c1 : (0 : Int) ≠ 1 := c1
    refine yG.load xik rfl (fun _ _ => rfl) (v := yI (0)) rfl rfl ?_
    refine yG.num (c := 2) rfl (fun _ _ => rfl) (by decide) ?_
    refine yG.icmp rfl (t := 126) rfl ⟨by omega, by omega⟩ ⟨by omega, by omega⟩ (fun c2 => ?_) (fun c2 => ?_)
    · have c2 : (0 : Int) ≠ 2 := c2
      refine yG.load xik rfl (fun _ _ => rfl) (v := yI (0)) rfl rfl ?_
      refine yG.num (c := 4) rfl (fun _ _ => rfl) (by decide) ?_
      refine yG.icmp rfl (t := 154) rfl ⟨by omega, by omega⟩ ⟨by omega, by omega⟩ (fun c3 => ?_) (fun c3 => ?_)
      · have c3 : (0 : Int) ≠ 4 := c3
        refine yG.load xik rfl (fun _ _ => rfl) (v := yI (0)) rfl rfl ?_
        refine yG.ifz rfl (t := 160) rfl ⟨by omega, by omega⟩ (fun c4 => ?_) (fun c4 => ?_)
        · have c4 : (0 : Int) ≠ 0 := c4
          exfalso; omega
        · have c4 : (0 : Int) = 0 := c4
          refine yG.num (c := 0) rfl (fun _ _ => rfl) (by decide) ?_
          refine yG.ret rfl (fun _ _ => rfl) ?_
          exact (yP.bool (by omega) ⟨⟨0, rfl, by omega, by omega, trivial⟩, rfl⟩)
      · have c3 : (0 : Int) = 4 := c3
        exfalso; omega
    · have c2 : (0 : Int) = 2 := c2
      exfalso; omega
  · have c1 : (0 : Int) = 1 := c1
    exfalso; omega
theorem c_GModel_mayBe_1_0 {hp : xH} (W : mW G) (d : Nat) (hT : zTy G hp) {k0 : Nat} (H_k0 : bRo G 116 k0) (p2 p4 : Int) (h2l : 0 ≤ p2) (h2u : p2 ≤ 23) (h4l : (-2147483648) ≤ p4) (h4u : p4 ≤ 2147483647) : yC (xcall 89 xfts xpools xms (d + 2)) 453 [yR k0, yI (1), yI (p2), yI (0), yI (p4)] hp (bQpi hp 0 1 (fun _ => True)) := by
  have A_hp : bAx G [] hp hp := bAx.rf hT
  refine yC.of (M := (xt_X13_mayBe, (5, (4, (14, []))))) rfl rfl (N := 42) (yfuel (by decide)) ?_
  show yG 89 xfts (xcall 89 xfts xpools xms (d + 1)) (xpool xp_RX13) [] xt_X13_mayBe (yP 4 (bQpi hp 0 1 (fun _ => True))) 42 0 [(0, yR k0), (1, yI (1)), (2, yI (p2)), (3, yI (0)), (4, yI (p4))] [] hp
  refine yG.load xik rfl (fun _ _ => rfl) (v := yI (1)) rfl rfl ?_
  refine yG.num (c := 1) rfl (fun _ _ => rfl) (by decide) ?_
  refine yG.icmp rfl (t := 46) rfl ⟨by omega, by omega⟩ ⟨by omega, by omega⟩ (fun c1 => ?_) (fun c1 => ?_)
  · have c1 : (1 : Int) ≠ 1 := c1
    exfalso; omega
  · have c1 : (1 : Int) = 1 := c1
    refine yG.load xik rfl (fun _ _ => rfl) (v := yI (0)) rfl rfl ?_
    refine yG.ifz rfl (t := 22) rfl ⟨by omega, by omega⟩ (fun c2 => ?_) (fun c2 => ?_)
    · have c2 : (0 : Int) ≠ 0 := c2
      exfalso; omega
    · have c2 : (0 : Int) = 0 := c2
      refine yG.load xik rfl (fun _ _ => rfl) (v := yI (p4)) rfl rfl ?_
      refine yG.i2l rfl ⟨by omega, by omega⟩ ?_
      refine yG.numl (c := 0) rfl (fun _ _ => rfl) (by decide) ?_
      refine yG.numl (c := 2) rfl (fun _ _ => rfl) (by decide) ?_
      refine yG.invS (rest := []) rfl rfl rfl rfl (c_GModel_in W d A_hp.1 (p4) (0) (2) (by omega) (by omega) (by omega) (by omega) (by omega) (by omega)) (fun rv hp9 q9 => ?_)
      obtain ⟨⟨z3, rfl, l_z3, u_z3, R_z3⟩, e9⟩ := q9
      rw [e9]
      show yG _ _ _ _ _ _ _ _ _ _ (yI z3 :: []) _
      refine yG.goto rfl (t := 45) rfl ?_
      refine yG.ret rfl (fun _ _ => rfl) ?_
      exact (yP.bool (by omega) ⟨⟨z3, rfl, by omega, by omega, trivial⟩, rfl⟩)
theorem c_GModel_mayBe_1_1 {hp : xH} (W : mW G) (d : Nat) (hT : zTy G hp) {k0 : Nat} (H_k0 : bRo G 116 k0) (p2 p4 : Int) (h2l : 0 ≤ p2) (h2u : p2 ≤ 23) (h4l : (-2147483648) ≤ p4) (h4u : p4 ≤ 2147483647) : yC (xcall 89 xfts xpools xms (d + 2)) 453 [yR k0, yI (1), yI (p2), yI (1), yI (p4)] hp (bQpi hp 0 1 (fun z => (z = 1 → 0 ≤ p4 - 1 ∧ 0 ≤ 0 - p4 + 999999))) := by
  have A_hp : bAx G [] hp hp := bAx.rf hT
  refine yC.of (M := (xt_X13_mayBe, (5, (4, (14, []))))) rfl rfl (N := 57) (yfuel (by decide)) ?_
  show yG 89 xfts (xcall 89 xfts xpools xms (d + 1)) (xpool xp_RX13) [] xt_X13_mayBe (yP 4 (bQpi hp 0 1 (fun z => (z = 1 → 0 ≤ p4 - 1 ∧ 0 ≤ 0 - p4 + 999999)))) 57 0 [(0, yR k0), (1, yI (1)), (2, yI (p2)), (3, yI (1)), (4, yI (p4))] [] hp
  refine yG.load xik rfl (fun _ _ => rfl) (v := yI (1)) rfl rfl ?_
  refine yG.num (c := 1) rfl (fun _ _ => rfl) (by decide) ?_
  refine yG.icmp rfl (t := 46) rfl ⟨by omega, by omega⟩ ⟨by omega, by omega⟩ (fun c1 => ?_) (fun c1 => ?_)
  · have c1 : (1 : Int) ≠ 1 := c1
    exfalso; omega
  · have c1 : (1 : Int) = 1 := c1
    refine yG.load xik rfl (fun _ _ => rfl) (v := yI (1)) rfl rfl ?_
    refine yG.ifz rfl (t := 22) rfl ⟨by omega, by omega⟩ (fun c2 => ?_) (fun c2 => ?_)
    · have c2 : (1 : Int) ≠ 0 := c2
      refine yG.load xik rfl (fun _ _ => rfl) (v := yI (1)) rfl rfl ?_
      refine yG.num (c := 1) rfl (fun _ _ => rfl) (by decide) ?_
      refine yG.icmp rfl (t := 44) rfl ⟨by omega, by omega⟩ ⟨by omega, by omega⟩ (fun c3 => ?_) (fun c3 => ?_)
      · have c3 : (1 : Int) ≠ 1 := c3
        exfalso; omega
      · have c3 : (1 : Int) = 1 := c3
        refine yG.load xik rfl (fun _ _ => rfl) (v := yI (p4)) rfl rfl ?_
        refine yG.i2l rfl ⟨by omega, by omega⟩ ?_
        refine yG.numl (c := 1) rfl (fun _ _ => rfl) (by decide) ?_
        refine yG.numl (c := 999999) rfl (fun _ _ => rfl) (by decide) ?_
        refine yG.invS (rest := []) rfl rfl rfl rfl (c_GModel_in W d A_hp.1 (p4) (1) (999999) (by omega) (by omega) (by omega) (by omega) (by omega) (by omega)) (fun rv hp9 q9 => ?_)
        obtain ⟨⟨z4, rfl, l_z4, u_z4, R_z4⟩, e9⟩ := q9
        rw [e9]
        show yG _ _ _ _ _ _ _ _ _ _ (yI z4 :: []) _
        refine yG.ifz rfl (t := 44) rfl ⟨by omega, by omega⟩ (fun c5 => ?_) (fun c5 => ?_)
        · have c5 : (z4 : Int) = 0 := c5
          refine yG.num (c := 0) rfl (fun _ _ => rfl) (by decide) ?_
          refine yG.ret rfl (fun _ _ => rfl) ?_
          exact (yP.bool (by omega) ⟨⟨0, rfl, by omega, by omega, by omega⟩, rfl⟩)
        · have c5 : (z4 : Int) ≠ 0 := c5
          refine yG.num (c := 1) rfl (fun _ _ => rfl) (by decide) ?_
          refine yG.goto rfl (t := 45) rfl ?_
          refine yG.ret rfl (fun _ _ => rfl) ?_
          exact (yP.bool (by omega) ⟨⟨1, rfl, by omega, by omega, by omega⟩, rfl⟩)
    · have c2 : (1 : Int) = 0 := c2
      exfalso; omega
theorem c_GModel_mayBe_1_2 {hp : xH} (W : mW G) (d : Nat) (hT : zTy G hp) {k0 : Nat} (H_k0 : bRo G 116 k0) (p2 p4 : Int) (h2l : 0 ≤ p2) (h2u : p2 ≤ 23) (h4l : (-2147483648) ≤ p4) (h4u : p4 ≤ 2147483647) : yC (xcall 89 xfts xpools xms (d + 1)) 453 [yR k0, yI (1), yI (p2), yI (2), yI (p4)] hp (bQpi hp 0 0 (fun _ => True)) := by
  have A_hp : bAx G [] hp hp := bAx.rf hT
  refine yC.of (M := (xt_X13_mayBe, (5, (4, (14, []))))) rfl rfl (N := 36) (yfuel (by decide)) ?_
  show yG 89 xfts (xcall 89 xfts xpools xms d) (xpool xp_RX13) [] xt_X13_mayBe (yP 4 (bQpi hp 0 0 (fun _ => True))) 36 0 [(0, yR k0), (1, yI (1)), (2, yI (p2)), (3, yI (2)), (4, yI (p4))] [] hp
  refine yG.load xik rfl (fun _ _ => rfl) (v := yI (1)) rfl rfl ?_
  refine yG.num (c := 1) rfl (fun _ _ => rfl) (by decide) ?_
  refine yG.icmp rfl (t := 46) rfl ⟨by omega, by omega⟩ ⟨by omega, by omega⟩ (fun c1 => ?_) (fun c1 => ?_)
  · have c1 : (1 : Int) ≠ 1 := c1
    exfalso; omega
  · have c1 : (1 : Int) = 1 := c1
    refine yG.load xik rfl (fun _ _ => rfl) (v := yI (2)) rfl rfl ?_
    refine yG.ifz rfl (t := 22) rfl ⟨by omega, by omega⟩ (fun c2 => ?_) (fun c2 => ?_)
    · have c2 : (2 : Int) ≠ 0 := c2
      refine yG.load xik rfl (fun _ _ => rfl) (v := yI (2)) rfl rfl ?_
      refine yG.num (c := 1) rfl (fun _ _ => rfl) (by decide) ?_
      refine yG.icmp rfl (t := 44) rfl ⟨by omega, by omega⟩ ⟨by omega, by omega⟩ (fun c3 => ?_) (fun c3 => ?_)
      · have c3 : (2 : Int) ≠ 1 := c3
        refine yG.num (c := 0) rfl (fun _ _ => rfl) (by decide) ?_
        refine yG.ret rfl (fun _ _ => rfl) ?_
        exact (yP.bool (by omega) ⟨⟨0, rfl, by omega, by omega, trivial⟩, rfl⟩)
      · have c3 : (2 : Int) = 1 := c3
        exfalso; omega
    · have c2 : (2 : Int) = 0 := c2
      exfalso; omega
theorem c_GModel_mayBe_1_3 {hp : xH} (W : mW G) (d : Nat) (hT : zTy G hp) {k0 : Nat} (H_k0 : bRo G 116 k0) (p2 p4 : Int) (h2l : 0 ≤ p2) (h2u : p2 ≤ 23) (h4l : (-2147483648) ≤ p4) (h4u : p4 ≤ 2147483647) : yC (xcall 89 xfts xpools xms (d + 1)) 453 [yR k0, yI (1), yI (p2), yI (3), yI (p4)] hp (bQpi hp 0 0 (fun _ => True)) := by
  have A_hp : bAx G [] hp hp := bAx.rf hT
  refine yC.of (M := (xt_X13_mayBe, (5, (4, (14, []))))) rfl rfl (N := 36) (yfuel (by decide)) ?_
  show yG 89 xfts (xcall 89 xfts xpools xms d) (xpool xp_RX13) [] xt_X13_mayBe (yP 4 (bQpi hp 0 0 (fun _ => True))) 36 0 [(0, yR k0), (1, yI (1)), (2, yI (p2)), (3, yI (3)), (4, yI (p4))] [] hp
  refine yG.load xik rfl (fun _ _ => rfl) (v := yI (1)) rfl rfl ?_
  refine yG.num (c := 1) rfl (fun _ _ => rfl) (by decide) ?_
  refine yG.icmp rfl (t := 46) rfl ⟨by omega, by omega⟩ ⟨by omega, by omega⟩ (fun c1 => ?_) (fun c1 => ?_)
  · have c1 : (1 : Int) ≠ 1 := c1
    exfalso; omega
  · have c1 : (1 : Int) = 1 := c1
    refine yG.load xik rfl (fun _ _ => rfl) (v := yI (3)) rfl rfl ?_
    refine yG.ifz rfl (t := 22) rfl ⟨by omega, by omega⟩ (fun c2 => ?_) (fun c2 => ?_)
    · have c2 : (3 : Int) ≠ 0 := c2
      refine yG.load xik rfl (fun _ _ => rfl) (v := yI (3)) rfl rfl ?_
      refine yG.num (c := 1) rfl (fun _ _ => rfl) (by decide) ?_
      refine yG.icmp rfl (t := 44) rfl ⟨by omega, by omega⟩ ⟨by omega, by omega⟩ (fun c3 => ?_) (fun c3 => ?_)
      · have c3 : (3 : Int) ≠ 1 := c3
        refine yG.num (c := 0) rfl (fun _ _ => rfl) (by decide) ?_
        refine yG.ret rfl (fun _ _ => rfl) ?_
        exact (yP.bool (by omega) ⟨⟨0, rfl, by omega, by omega, trivial⟩, rfl⟩)
      · have c3 : (3 : Int) = 1 := c3
        exfalso; omega
    · have c2 : (3 : Int) = 0 := c2
      exfalso; omega
theorem c_GModel_mayBe_1_4 {hp : xH} (W : mW G) (d : Nat) (hT : zTy G hp) {k0 : Nat} (H_k0 : bRo G 116 k0) (p2 p4 : Int) (h2l : 0 ≤ p2) (h2u : p2 ≤ 23) (h4l : (-2147483648) ≤ p4) (h4u : p4 ≤ 2147483647) : yC (xcall 89 xfts xpools xms (d + 1)) 453 [yR k0, yI (1), yI (p2), yI (4), yI (p4)] hp (bQpi hp 0 0 (fun _ => True)) := by
  have A_hp : bAx G [] hp hp := bAx.rf hT
  refine yC.of (M := (xt_X13_mayBe, (5, (4, (14, []))))) rfl rfl (N := 36) (yfuel (by decide)) ?_
  show yG 89 xfts (xcall 89 xfts xpools xms d) (xpool xp_RX13) [] xt_X13_mayBe (yP 4 (bQpi hp 0 0 (fun _ => True))) 36 0 [(0, yR k0), (1, yI (1)), (2, yI (p2)), (3, yI (4)), (4, yI (p4))] [] hp
  refine yG.load xik rfl (fun _ _ => rfl) (v := yI (1)) rfl rfl ?_
  refine yG.num (c := 1) rfl (fun _ _ => rfl) (by decide) ?_
  refine yG.icmp rfl (t := 46) rfl ⟨by omega, by omega⟩ ⟨by omega, by omega⟩ (fun c1 => ?_) (fun c1 => ?_)
  · have c1 : (1 : Int) ≠ 1 := c1
    exfalso; omega
  · have c1 : (1 : Int) = 1 := c1
    refine yG.load xik rfl (fun _ _ => rfl) (v := yI (4)) rfl rfl ?_
    refine yG.ifz rfl (t := 22) rfl ⟨by omega, by omega⟩ (fun c2 => ?_) (fun c2 => ?_)
    · have c2 : (4 : Int) ≠ 0 := c2
      refine yG.load xik rfl (fun _ _ => rfl) (v := yI (4)) rfl rfl ?_
      refine yG.num (c := 1) rfl (fun _ _ => rfl) (by decide) ?_
      refine yG.icmp rfl (t := 44) rfl ⟨by omega, by omega⟩ ⟨by omega, by omega⟩ (fun c3 => ?_) (fun c3 => ?_)
      · have c3 : (4 : Int) ≠ 1 := c3
        refine yG.num (c := 0) rfl (fun _ _ => rfl) (by decide) ?_
        refine yG.ret rfl (fun _ _ => rfl) ?_
        exact (yP.bool (by omega) ⟨⟨0, rfl, by omega, by omega, trivial⟩, rfl⟩)
      · have c3 : (4 : Int) = 1 := c3
        exfalso; omega
    · have c2 : (4 : Int) = 0 := c2
      exfalso; omega
theorem c_GModel_mayBe_1_5 {hp : xH} (W : mW G) (d : Nat) (hT : zTy G hp) {k0 : Nat} (H_k0 : bRo G 116 k0) (p2 p4 : Int) (h2l : 0 ≤ p2) (h2u : p2 ≤ 23) (h4l : (-2147483648) ≤ p4) (h4u : p4 ≤ 2147483647) : yC (xcall 89 xfts xpools xms (d + 1)) 453 [yR k0, yI (1), yI (p2), yI (5), yI (p4)] hp (bQpi hp 0 0 (fun _ => True)) := by
  have A_hp : bAx G [] hp hp := bAx.rf hT
  refine yC.of (M := (xt_X13_mayBe, (5, (4, (14, []))))) rfl rfl (N := 36) (yfuel (by decide)) ?_
  show yG 89 xfts (xcall 89 xfts xpools xms d) (xpool xp_RX13) [] xt_X13_mayBe (yP 4 (bQpi hp 0 0 (fun _ => True))) 36 0 [(0, yR k0), (1, yI (1)), (2, yI (p2)), (3, yI (5)), (4, yI (p4))] [] hp
  refine yG.load xik rfl (fun _ _ => rfl) (v := yI (1)) rfl rfl ?_
  refine yG.num (c := 1) rfl (fun _ _ => rfl) (by decide) ?_
  refine yG.icmp rfl (t := 46) rfl ⟨by omega, by omega⟩ ⟨by omega, by omega⟩ (fun c1 => ?_) (fun c1 => ?_)
  · have c1 : (1 : Int) ≠ 1 := c1
    exfalso; omega
  · have c1 : (1 : Int) = 1 := c1
    refine yG.load xik rfl (fun _ _ => rfl) (v := yI (5)) rfl rfl ?_
    refine yG.ifz rfl (t := 22) rfl ⟨by omega, by omega⟩ (fun c2 => ?_) (fun c2 => ?_)
    · have c2 : (5 : Int) ≠ 0 := c2
      refine yG.load xik rfl (fun _ _ => rfl) (v := yI (5)) rfl rfl ?_
      refine yG.num (c := 1) rfl (fun _ _ => rfl) (by decide) ?_
      refine yG.icmp rfl (t := 44) rfl ⟨by omega, by omega⟩ ⟨by omega, by omega⟩ (fun c3 => ?_) (fun c3 => ?_)
      · have c3 : (5 : Int) ≠ 1 := c3
        refine yG.num (c := 0) rfl (fun _ _ => rfl) (by decide) ?_
        refine yG.ret rfl (fun _ _ => rfl) ?_
        exact (yP.bool (by omega) ⟨⟨0, rfl, by omega, by omega, trivial⟩, rfl⟩)
      · have c3 : (5 : Int) = 1 := c3
        exfalso; omega
    · have c2 : (5 : Int) = 0 := c2
      exfalso; omega
theorem c_GModel_mayBe_1_6 {hp : xH} (W : mW G) (d : Nat) (hT : zTy G hp) {k0 : Nat} (H_k0 : bRo G 116 k0) (p2 p4 : Int) (h2l : 0 ≤ p2) (h2u : p2 ≤ 23) (h4l : (-2147483648) ≤ p4) (h4u : p4 ≤ 2147483647) : yC (xcall 89 xfts xpools xms (d + 1)) 453 [yR k0, yI (1), yI (p2), yI (6), yI (p4)] hp (bQpi hp 0 0 (fun _ => True)) := by
  have A_hp : bAx G [] hp hp := bAx.rf hT
  refine yC.of (M := (xt_X13_mayBe, (5, (4, (14, []))))) rfl rfl (N := 36) (yfuel (by decide)) ?_
  show yG 89 xfts (xcall 89 xfts xpools xms d) (xpool xp_RX13) [] xt_X13_mayBe (yP 4 (bQpi hp 0 0 (fun _ => True))) 36 0 [(0, yR k0), (1, yI (1)), (2, yI (p2)), (3, yI (6)), (4, yI (p4))] [] hp
  refine yG.load xik rfl (fun _ _ => rfl) (v := yI (1)) rfl rfl ?_
  refine yG.num (c := 1) rfl (fun _ _ => rfl) (by decide) ?_
  refine yG.icmp rfl (t := 46) rfl ⟨by omega, by omega⟩ ⟨by omega, by omega⟩ (fun c1 => ?_) (fun c1 => ?_)
  · have c1 : (1 : Int) ≠ 1 := c1
    exfalso; omega
  · have c1 : (1 : Int) = 1 := c1
    refine yG.load xik rfl (fun _ _ => rfl) (v := yI (6)) rfl rfl ?_
    refine yG.ifz rfl (t := 22) rfl ⟨by omega, by omega⟩ (fun c2 => ?_) (fun c2 => ?_)
    · have c2 : (6 : Int) ≠ 0 := c2
      refine yG.load xik rfl (fun _ _ => rfl) (v := yI (6)) rfl rfl ?_
      refine yG.num (c := 1) rfl (fun _ _ => rfl) (by decide) ?_
      refine yG.icmp rfl (t := 44) rfl ⟨by omega, by omega⟩ ⟨by omega, by omega⟩ (fun c3 => ?_) (fun c3 => ?_)
      · have c3 : (6 : Int) ≠ 1 := c3
        refine yG.num (c := 0) rfl (fun _ _ => rfl) (by decide) ?_
        refine yG.ret rfl (fun _ _ => rfl) ?_
        exact (yP.bool (by omega) ⟨⟨0, rfl, by omega, by omega, trivial⟩, rfl⟩)
      · have c3 : (6 : Int) = 1 := c3
        exfalso; omega
    · have c2 : (6 : Int) = 0 := c2
      exfalso; omega
theorem c_GModel_mayBe_1_7 {hp : xH} (W : mW G) (d : Nat) (hT : zTy G hp) {k0 : Nat} (H_k0 : bRo G 116 k0) (p2 p4 : Int) (h2l : 0 ≤ p2) (h2u : p2 ≤ 23) (h4l : (-2147483648) ≤ p4) (h4u : p4 ≤ 2147483647) : yC (xcall 89 xfts xpools xms (d + 1)) 453 [yR k0, yI (1), yI (p2), yI (7), yI (p4)] hp (bQpi hp 0 0 (fun _ => True)) := by
  have A_hp : bAx G [] hp hp := bAx.rf hT
  refine yC.of (M := (xt_X13_mayBe, (5, (4, (14, []))))) rfl rfl (N := 36) (yfuel (by decide)) ?_
  show yG 89 xfts (xcall 89 xfts xpools xms d) (xpool xp_RX13) [] xt_X13_mayBe (yP 4 (bQpi hp 0 0 (fun _ => True))) 36 0 [(0, yR k0), (1, yI (1)), (2, yI (p2)), (3, yI (7)), (4, yI (p4))] [] hp
  refine yG.load xik rfl (fun _ _ => rfl) (v := yI (1)) rfl rfl ?_
  refine yG.num (c := 1) rfl (fun _ _ => rfl) (by decide) ?_
  refine yG.icmp rfl (t := 46) rfl ⟨by omega, by omega⟩ ⟨by omega, by omega⟩ (fun c1 => ?_) (fun c1 => ?_)
  · have c1 : (1 : Int) ≠ 1 := c1
    exfalso; omega
  · have c1 : (1 : Int) = 1 := c1
    refine yG.load xik rfl (fun _ _ => rfl) (v := yI (7)) rfl rfl ?_
    refine yG.ifz rfl (t := 22) rfl ⟨by omega, by omega⟩ (fun c2 => ?_) (fun c2 => ?_)
    · have c2 : (7 : Int) ≠ 0 := c2
      refine yG.load xik rfl (fun _ _ => rfl) (v := yI (7)) rfl rfl ?_
      refine yG.num (c := 1) rfl (fun _ _ => rfl) (by decide) ?_
      refine yG.icmp rfl (t := 44) rfl ⟨by omega, by omega⟩ ⟨by omega, by omega⟩ (fun c3 => ?_) (fun c3 => ?_)
      · have c3 : (7 : Int) ≠ 1 := c3
        refine yG.num (c := 0) rfl (fun _ _ => rfl) (by decide) ?_
        refine yG.ret rfl (fun _ _ => rfl) ?_
        exact (yP.bool (by omega) ⟨⟨0, rfl, by omega, by omega, trivial⟩, rfl⟩)
      · have c3 : (7 : Int) = 1 := c3
        exfalso; omega
    · have c2 : (7 : Int) = 0 := c2
      exfalso; omega
theorem c_GModel_mayBe_1_8 {hp : xH} (W : mW G) (d : Nat) (hT : zTy G hp) {k0 : Nat} (H_k0 : bRo G 116 k0) (p2 p4 : Int) (h2l : 0 ≤ p2) (h2u : p2 ≤ 23) (h4l : (-2147483648) ≤ p4) (h4u : p4 ≤ 2147483647) : yC (xcall 89 xfts xpools xms (d + 1)) 453 [yR k0, yI (1), yI (p2), yI (8), yI (p4)] hp (bQpi hp 0 0 (fun _ => True)) := by
  have A_hp : bAx G [] hp hp := bAx.rf hT
  refine yC.of (M := (xt_X13_mayBe, (5, (4, (14, []))))) rfl rfl (N := 36) (yfuel (by decide)) ?_
  show yG 89 xfts (xcall 89 xfts xpools xms d) (xpool xp_RX13) [] xt_X13_mayBe (yP 4 (bQpi hp 0 0 (fun _ => True))) 36 0 [(0, yR k0), (1, yI (1)), (2, yI (p2)), (3, yI (8)), (4, yI (p4))] [] hp
  refine yG.load xik rfl (fun _ _ => rfl) (v := yI (1)) rfl rfl ?_
  refine yG.num (c := 1) rfl (fun _ _ => rfl) (by decide) ?_
  refine yG.icmp rfl (t := 46) rfl ⟨by omega, by omega⟩ ⟨by omega, by omega⟩ (fun c1 => ?_) (fun c1 => ?_)
  · have c1 : (1 : Int) ≠ 1 := c1
    exfalso; omega
  · have c1 : (1 : Int) = 1 := c1
    refine yG.load xik rfl (fun _ _ => rfl) (v := yI (8)) rfl rfl ?_
    refine yG.ifz rfl (t := 22) rfl ⟨by omega, by omega⟩ (fun c2 => ?_) (fun c2 => ?_)
    · have c2 : (8 : Int) ≠ 0 := c2
      refine yG.load xik rfl (fun _ _ => rfl) (v := yI (8)) rfl rfl ?_
      refine yG.num (c := 1) rfl (fun _ _ => rfl) (by decide) ?_
      refine yG.icmp rfl (t := 44) rfl ⟨by omega, by omega⟩ ⟨by omega, by omega⟩ (fun c3 => ?_) (fun c3 => ?_)
      · have c3 : (8 : Int) ≠ 1 := c3
        refine yG.num (c := 0) rfl (fun _ _ => rfl) (by decide) ?_
        refine yG.ret rfl (fun _ _ => rfl) ?_
        exact (yP.bool (by omega) ⟨⟨0, rfl, by omega, by omega, trivial⟩, rfl⟩)
      · have c3 : (8 : Int) = 1 := c3
        exfalso; omega
    · have c2 : (8 : Int) = 0 := c2
      exfalso; omega
theorem c_GModel_mayBe_1_9 {hp : xH} (W : mW G) (d : Nat) (hT : zTy G hp) {k0 : Nat} (H_k0 : bRo G 116 k0) (p2 p4 : Int) (h2l : 0 ≤ p2) (h2u : p2 ≤ 23) (h4l : (-2147483648) ≤ p4) (h4u : p4 ≤ 2147483647) : yC (xcall 89 xfts xpools xms (d + 1)) 453 [yR k0, yI (1), yI (p2), yI (9), yI (p4)] hp (bQpi hp 0 0 (fun _ => True)) := by
  have A_hp : bAx G [] hp hp := bAx.rf hT
  refine yC.of (M := (xt_X13_mayBe, (5, (4, (14, []))))) rfl rfl (N := 36) (yfuel (by decide)) ?_
  show yG 89 xfts (xcall 89 xfts xpools xms d) (xpool xp_RX13) [] xt_X13_mayBe (yP 4 (bQpi hp 0 0 (fun _ => True))) 36 0 [(0, yR k0), (1, yI (1)), (2, yI (p2)), (3, yI (9)), (4, yI (p4))] [] hp
  refine yG.load xik rfl (fun _ _ => rfl) (v := yI (1)) rfl rfl ?_
  refine yG.num (c := 1) rfl (fun _ _ => rfl) (by decide) ?_
  refine yG.icmp rfl (t := 46) rfl ⟨by omega, by omega⟩ ⟨by omega, by omega⟩ (fun c1 => ?_) (fun c1 => ?_)
  · have c1 : (1 : Int) ≠ 1 := c1
    exfalso; omega
  · have c1 : (1 : Int) = 1 := c1
    refine yG.load xik rfl (fun _ _ => rfl) (v := yI (9)) rfl rfl ?_
    refine yG.ifz rfl (t := 22) rfl ⟨by omega, by omega⟩ (fun c2 => ?_) (fun c2 => ?_)
    · have c2 : (9 : Int) ≠ 0 := c2
      refine yG.load xik rfl (fun _ _ => rfl) (v := yI (9)) rfl rfl ?_
      refine yG.num (c := 1) rfl (fun _ _ => rfl) (by decide) ?_
      refine yG.icmp rfl (t := 44) rfl ⟨by omega, by omega⟩ ⟨by omega, by omega⟩ (fun c3 => ?_) (fun c3 => ?_)
      · have c3 : (9 : Int) ≠ 1 := c3
        refine yG.num (c := 0) rfl (fun _ _ => rfl) (by decide) ?_
        refine yG.ret rfl (fun _ _ => rfl) ?_
        exact (yP.bool (by omega) ⟨⟨0, rfl, by omega, by omega, trivial⟩, rfl⟩)
      · have c3 : (9 : Int) = 1 := c3
        exfalso; omega
    · have c2 : (9 : Int) = 0 := c2
      exfalso; omega
theorem c_GModel_mayBe_1_10 {hp : xH} (W : mW G) (d : Nat) (hT : zTy G hp) {k0 : Nat} (H_k0 : bRo G 116 k0) (p2 p4 : Int) (h2l : 0 ≤ p2) (h2u : p2 ≤ 23) (h4l : (-2147483648) ≤ p4) (h4u : p4 ≤ 2147483647) : yC (xcall 89 xfts xpools xms (d + 1)) 453 [yR k0, yI (1), yI (p2), yI (10), yI (p4)] hp (bQpi hp 0 0 (fun _ => True)) := by
  have A_hp : bAx G [] hp hp := bAx.rf hT
  refine yC.of (M := (xt_X13_mayBe, (5, (4, (14, []))))) rfl rfl (N := 36) (yfuel (by decide)) ?_
  show yG 89 xfts (xcall 89 xfts xpools xms d) (xpool xp_RX13) [] xt_X13_mayBe (yP 4 (bQpi hp 0 0 (fun _ => True))) 36 0 [(0, yR k0), (1, yI (1)), (2, yI (p2)), (3, yI (10)), (4, yI (p4))] [] hp
  refine yG.load xik rfl (fun _ _ => rfl) (v := yI (1)) rfl rfl ?_
  refine yG.num (c := 1) rfl (fun _ _ => rfl) (by decide) ?_
  refine yG.icmp rfl (t := 46) rfl ⟨by omega, by omega⟩ ⟨by omega, by omega⟩ (fun c1 => ?_) (fun c1 => ?_)
  · have c1 : (1 : Int) ≠ 1 := c1
    exfalso; omega
  · have c1 : (1 : Int) = 1 := c1
    refine yG.load xik rfl (fun _ _ => rfl) (v := yI (10)) rfl rfl ?_
    refine yG.ifz rfl (t := 22) rfl ⟨by omega, by omega⟩ (fun c2 => ?_) (fun c2 => ?_)
    · have c2 : (10 : Int) ≠ 0 := c2
      refine yG.load xik rfl (fun _ _ => rfl) (v := yI (10)) rfl rfl ?_
      refine yG.num (c := 1) rfl (fun _ _ => rfl) (by decide) ?_
      refine yG.icmp rfl (t := 44) rfl ⟨by omega, by omega⟩ ⟨by omega, by omega⟩ (fun c3 => ?_) (fun c3 => ?_)
      · have c3 : (10 : Int) ≠ 1 := c3
        refine yG.num (c := 0) rfl (fun _ _ => rfl) (by decide) ?_
        refine yG.ret rfl (fun _ _ => rfl) ?_
        exact (yP.bool (by omega) ⟨⟨0, rfl, by omega, by omega, trivial⟩, rfl⟩)
      · have c3 : (10 : Int) = 1 := c3
        exfalso; omega
    · have c2 : (10 : Int) = 0 := c2
      exfalso; omega
theorem c_GModel_mayBe_1_l {hp : xH} (W : mW G) (d : Nat) (hT : zTy G hp) {k0 : Nat} (H_k0 : bRo G 116 k0) (p2 p3 p4 : Int) (h2l : 0 ≤ p2) (h2u : p2 ≤ 23) (h3l : (-2147483648) ≤ p3) (h3u : p3 ≤ (-1)) (h4l : (-2147483648) ≤ p4) (h4u : p4 ≤ 2147483647) : yC (xcall 89 xfts xpools xms (d + 1)) 453 [yR k0, yI (1), yI (p2), yI (p3), yI (p4)] hp (bQpi hp 0 0 (fun _ => True)) := by
  have A_hp : bAx G [] hp hp := bAx.rf hT
  refine yC.of (M := (xt_X13_mayBe, (5, (4, (14, []))))) rfl rfl (N := 36) (yfuel (by decide)) ?_
  show yG 89 xfts (xcall 89 xfts xpools xms d) (xpool xp_RX13) [] xt_X13_mayBe (yP 4 (bQpi hp 0 0 (fun _ => True))) 36 0 [(0, yR k0), (1, yI (1)), (2, yI (p2)), (3, yI (p3)), (4, yI (p4))] [] hp
  refine yG.load xik rfl (fun _ _ => rfl) (v := yI (1)) rfl rfl ?_
  refine yG.num (c := 1) rfl (fun _ _ => rfl) (by decide) ?_
  refine yG.icmp rfl (t := 46) rfl ⟨by omega, by omega⟩ ⟨by omega, by omega⟩ (fun c1 => ?_) (fun c1 => ?_)
  · have c1 : (1 : Int) ≠ 1 := c1
    exfalso; omega
  · have c1 : (1 : Int) = 1 := c1
    refine yG.load xik rfl (fun _ _ => rfl) (v := yI (p3)) rfl rfl ?_
    refine yG.ifz rfl (t := 22) rfl ⟨by omega, by omega⟩ (fun c2 => ?_) (fun c2 => ?_)
    · have c2 : (p3 : Int) ≠ 0 := c2
      refine yG.load xik rfl (fun _ _ => rfl) (v := yI (p3)) rfl rfl ?_
      refine yG.num (c := 1) rfl (fun _ _ => rfl) (by decide) ?_
      refine yG.icmp rfl (t := 44) rfl ⟨by omega, by omega⟩ ⟨by omega, by omega⟩ (fun c3 => ?_) (fun c3 => ?_)
      · have c3 : (p3 : Int) ≠ 1 := c3
        refine yG.num (c := 0) rfl (fun _ _ => rfl) (by decide) ?_
        refine yG.ret rfl (fun _ _ => rfl) ?_
        exact (yP.bool (by omega) ⟨⟨0, rfl, by omega, by omega, trivial⟩, rfl⟩)
      · have c3 : (p3 : Int) = 1 := c3
        exfalso; omega
    · have c2 : (p3 : Int) = 0 := c2
      exfalso; omega
theorem c_GModel_mayBe_1_h {hp : xH} (W : mW G) (d : Nat) (hT : zTy G hp) {k0 : Nat} (H_k0 : bRo G 116 k0) (p2 p3 p4 : Int) (h2l : 0 ≤ p2) (h2u : p2 ≤ 23) (h3l : 11 ≤ p3) (h3u : p3 ≤ 2147483647) (h4l : (-2147483648) ≤ p4) (h4u : p4 ≤ 2147483647) : yC (xcall 89 xfts xpools xms (d + 1)) 453 [yR k0, yI (1), yI (p2), yI (p3), yI (p4)] hp (bQpi hp 0 0 (fun _ => True)) := by
  have A_hp : bAx G [] hp hp := bAx.rf hT
  refine yC.of (M := (xt_X13_mayBe, (5, (4, (14, []))))) rfl rfl (N := 36) (yfuel (by decide)) ?_
  show yG 89 xfts (xcall 89 xfts xpools xms d) (xpool xp_RX13) [] xt_X13_mayBe (yP 4 (bQpi hp 0 0 (fun _ => True))) 36 0 [(0, yR k0), (1, yI (1)), (2, yI (p2)), (3, yI (p3)), (4, yI (p4))] [] hp
  refine yG.load xik rfl (fun _ _ => rfl) (v := yI (1)) rfl rfl ?_
  refine yG.num (c := 1) rfl (fun _ _ => rfl) (by decide) ?_
  refine yG.icmp rfl (t := 46) rfl ⟨by omega, by omega⟩ ⟨by omega, by omega⟩ (fun c1 => ?_) (fun c1 => ?_)
  · have c1 : (1 : Int) ≠ 1 := c1
    exfalso; omega
  · have c1 : (1 : Int) = 1 := c1
    refine yG.load xik rfl (fun _ _ => rfl) (v := yI (p3)) rfl rfl ?_
    refine yG.ifz rfl (t := 22) rfl ⟨by omega, by omega⟩ (fun c2 => ?_) (fun c2 => ?_)
    · have c2 : (p3 : Int) ≠ 0 := c2
      refine yG.load xik rfl (fun _ _ => rfl) (v := yI (p3)) rfl rfl ?_
      refine yG.num (c := 1) rfl (fun _ _ => rfl) (by decide) ?_
      refine yG.icmp rfl (t := 44) rfl ⟨by omega, by omega⟩ ⟨by omega, by omega⟩ (fun c3 => ?_) (fun c3 => ?_)
      · have c3 : (p3 : Int) ≠ 1 := c3
        refine yG.num (c := 0) rfl (fun _ _ => rfl) (by decide) ?_
        refine yG.ret rfl (fun _ _ => rfl) ?_
        exact (yP.bool (by omega) ⟨⟨0, rfl, by omega, by omega, trivial⟩, rfl⟩)
      · have c3 : (p3 : Int) = 1 := c3
        exfalso; omega
    · have c2 : (p3 : Int) = 0 := c2
      exfalso; omega
theorem c_GModel_mayBe_2_0 {hp : xH} (W : mW G) (d : Nat) (hT : zTy G hp) {k0 : Nat} (H_k0 : bRo G 116 k0) (p2 p4 : Int) (h2l : 0 ≤ p2) (h2u : p2 ≤ 23) (h4l : (-2147483648) ≤ p4) (h4u : p4 ≤ 2147483647) : yC (xcall 89 xfts xpools xms (d + 2)) 453 [yR k0, yI (2), yI (p2), yI (0), yI (p4)] hp (bQpi hp 0 1 (fun _ => True)) := by
  have A_hp : bAx G [] hp hp := bAx.rf hT
  refine yC.of (M := (xt_X13_mayBe, (5, (4, (14, []))))) rfl rfl (N := 51) (yfuel (by decide)) ?_
  show yG 89 xfts (xcall 89 xfts xpools xms (d + 1)) (xpool xp_RX13) [] xt_X13_mayBe (yP 4 (bQpi hp 0 1 (fun _ => True))) 51 0 [(0, yR k0), (1, yI (2)), (2, yI (p2)), (3, yI (0)), (4, yI (p4))] [] hp
  refine yG.load xik rfl (fun _ _ => rfl) (v := yI (2)) rfl rfl ?_
  refine yG.num (c := 1) rfl (fun _ _ => rfl) (by decide) ?_
  refine yG.icmp rfl (t := 46) rfl ⟨by omega, by omega⟩ ⟨by omega, by omega⟩ (fun c1 => ?_) (fun c1 => ?_)
  · have c1 : (2 : Int) ≠ 1 := c1
    refine yG.load xik rfl (fun _ _ => rfl) (v := yI (2)) rfl rfl ?_
    refine yG.num (c := 2) rfl (fun _ _ => rfl) (by decide) ?_
    refine yG.icmp rfl (t := 126) rfl ⟨by omega, by omega⟩ ⟨by omega, by omega⟩ (fun c2 => ?_) (fun c2 => ?_)
    · have c2 : (2 : Int) ≠ 2 := c2
      exfalso; omega
    · have c2 : (2 : Int) = 2 := c2
      refine yG.load xik rfl (fun _ _ => rfl) (v := yI (0)) rfl rfl ?_
      refine yG.ifz rfl (t := 66) rfl ⟨by omega, by omega⟩ (fun c3 => ?_) (fun c3 => ?_)
      · have c3 : (0 : Int) ≠ 0 := c3
        exfalso; omega
      · have c3 : (0 : Int) = 0 := c3
        refine yG.load xik rfl (fun _ _ => rfl) (v := yI (p4)) rfl rfl ?_
        refine yG.i2l rfl ⟨by omega, by omega⟩ ?_
        refine yG.numl (c := 0) rfl (fun _ _ => rfl) (by decide) ?_
        refine yG.numl (c := 1) rfl (fun _ _ => rfl) (by decide) ?_
        refine yG.invS (rest := []) rfl rfl rfl rfl (c_GModel_in W d A_hp.1 (p4) (0) (1) (by omega) (by omega) (by omega) (by omega) (by omega) (by omega)) (fun rv hp9 q9 => ?_)
        obtain ⟨⟨z4, rfl, l_z4, u_z4, R_z4⟩, e9⟩ := q9
        rw [e9]
        show yG _ _ _ _ _ _ _ _ _ _ (yI z4 :: []) _
        refine yG.goto rfl (t := 125) rfl ?_
        refine yG.ret rfl (fun _ _ => rfl) ?_
        exact (yP.bool (by omega) ⟨⟨z4, rfl, by omega, by omega, trivial⟩, rfl⟩)
  · have c1 : (2 : Int) = 1 := c1
    exfalso; omega
theorem c_GModel_mayBe_2_1 {hp : xH} (W : mW G) (d : Nat) (hT : zTy G hp) {k0 : Nat} (H_k0 : bRo G 116 k0) (p2 p4 : Int) (h2l : 0 ≤ p2) (h2u : p2 ≤ 23) (h4l : (-2147483648) ≤ p4) (h4u : p4 ≤ 2147483647) : yC (xcall 89 xfts xpools xms (d + 2)) 453 [yR k0, yI (2), yI (p2), yI (1), yI (p4)] hp (bQpi hp 0 1 (fun _ => True)) := by
  have A_hp : bAx G [] hp hp := bAx.rf hT
  refine yC.of (M := (xt_X13_mayBe, (5, (4, (14, []))))) rfl rfl (N := 60) (yfuel (by decide)) ?_
  show yG 89 xfts (xcall 89 xfts xpools xms (d + 1)) (xpool xp_RX13) [] xt_X13_mayBe (yP 4 (bQpi hp 0 1 (fun _ => True))) 60 0 [(0, yR k0), (1, yI (2)), (2, yI (p2)), (3, yI (1)), (4, yI (p4))] [] hp
  refine yG.load xik rfl (fun _ _ => rfl) (v := yI (2)) rfl rfl ?_
  refine yG.num (c := 1) rfl (fun _ _ => rfl) (by decide) ?_
  refine yG.icmp rfl (t := 46) rfl ⟨by omega, by omega⟩ ⟨by omega, by omega⟩ (fun c1 => ?_) (fun c1 => ?_)
  · have c1 : (2 : Int) ≠ 1 := c1
    refine yG.load xik rfl (fun _ _ => rfl) (v := yI (2)) rfl rfl ?_
    refine yG.num (c := 2) rfl (fun _ _ => rfl) (by decide) ?_
    refine yG.icmp rfl (t := 126) rfl ⟨by omega, by omega⟩ ⟨by omega, by omega⟩ (fun c2 => ?_) (fun c2 => ?_)
    · have c2 : (2 : Int) ≠ 2 := c2
      exfalso; omega
    · have c2 : (2 : Int) = 2 := c2
      refine yG.load xik rfl (fun _ _ => rfl) (v := yI (1)) rfl rfl ?_
      refine yG.ifz rfl (t := 66) rfl ⟨by omega, by omega⟩ (fun c3 => ?_) (fun c3 => ?_)
      · have c3 : (1 : Int) ≠ 0 := c3
        refine yG.load xik rfl (fun _ _ => rfl) (v := yI (1)) rfl rfl ?_
        refine yG.num (c := 1) rfl (fun _ _ => rfl) (by decide) ?_
        refine yG.icmp rfl (t := 84) rfl ⟨by omega, by omega⟩ ⟨by omega, by omega⟩ (fun c4 => ?_) (fun c4 => ?_)
        · have c4 : (1 : Int) ≠ 1 := c4
          exfalso; omega
        · have c4 : (1 : Int) = 1 := c4
          refine yG.load xik rfl (fun _ _ => rfl) (v := yI (p4)) rfl rfl ?_
          refine yG.i2l rfl ⟨by omega, by omega⟩ ?_
          refine yG.numl (c := 1) rfl (fun _ _ => rfl) (by decide) ?_
          refine yG.numl (c := 99) rfl (fun _ _ => rfl) (by decide) ?_
          refine yG.invS (rest := []) rfl rfl rfl rfl (c_GModel_in W d A_hp.1 (p4) (1) (99) (by omega) (by omega) (by omega) (by omega) (by omega) (by omega)) (fun rv hp9 q9 => ?_)
          obtain ⟨⟨z5, rfl, l_z5, u_z5, R_z5⟩, e9⟩ := q9
          rw [e9]
          show yG _ _ _ _ _ _ _ _ _ _ (yI z5 :: []) _
          refine yG.goto rfl (t := 125) rfl ?_
          refine yG.ret rfl (fun _ _ => rfl) ?_
          exact (yP.bool (by omega) ⟨⟨z5, rfl, by omega, by omega, trivial⟩, rfl⟩)
      · have c3 : (1 : Int) = 0 := c3
        exfalso; omega
  · have c1 : (2 : Int) = 1 := c1
    exfalso; omega
theorem c_GModel_mayBe_2_2 {hp : xH} (W : mW G) (d : Nat) (hT : zTy G hp) {k0 : Nat} (H_k0 : bRo G 116 k0) (p2 p4 : Int) (h2l : 0 ≤ p2) (h2u : p2 ≤ 23) (h4l : (-2147483648) ≤ p4) (h4u : p4 ≤ 2147483647) : yC (xcall 89 xfts xpools xms (d + 2)) 453 [yR k0, yI (2), yI (p2), yI (2), yI (p4)] hp (bQpi hp 0 1 (fun _ => True)) := by
  have A_hp : bAx G [] hp hp := bAx.rf hT
  refine yC.of (M := (xt_X13_mayBe, (5, (4, (14, []))))) rfl rfl (N := 69) (yfuel (by decide)) ?_
  show yG 89 xfts (xcall 89 xfts xpools xms (d + 1)) (xpool xp_RX13) [] xt_X13_mayBe (yP 4 (bQpi hp 0 1 (fun _ => True))) 69 0 [(0, yR k0), (1, yI (2)), (2, yI (p2)), (3, yI (2)), (4, yI (p4))] [] hp
  refine yG.load xik rfl (fun _ _ => rfl) (v := yI (2)) rfl rfl ?_
  refine yG.num (c := 1) rfl (fun _ _ => rfl) (by decide) ?_
  refine yG.icmp rfl (t := 46) rfl ⟨by omega, by omega⟩ ⟨by omega, by omega⟩ (fun c1 => ?_) (fun c1 => ?_)
  · have c1 : (2 : Int) ≠ 1 := c1
    refine yG.load xik rfl (fun _ _ => rfl) (v := yI (2)) rfl rfl ?_
    refine yG.num (c := 2) rfl (fun _ _ => rfl) (by decide) ?_
    refine yG.icmp rfl (t := 126) rfl ⟨by omega, by omega⟩ ⟨by omega, by omega⟩ (fun c2 => ?_) (fun c2 => ?_)
    · have c2 : (2 : Int) ≠ 2 := c2
      exfalso; omega
    · have c2 : (2 : Int) = 2 := c2
      refine yG.load xik rfl (fun _ _ => rfl) (v := yI (2)) rfl rfl ?_
      refine yG.ifz rfl (t := 66) rfl ⟨by omega, by omega⟩ (fun c3 => ?_) (fun c3 => ?_)
      · have c3 : (2 : Int) ≠ 0 := c3
        refine yG.load xik rfl (fun _ _ => rfl) (v := yI (2)) rfl rfl ?_
        refine yG.num (c := 1) rfl (fun _ _ => rfl) (by decide) ?_
        refine yG.icmp rfl (t := 84) rfl ⟨by omega, by omega⟩ ⟨by omega, by omega⟩ (fun c4 => ?_) (fun c4 => ?_)
        · have c4 : (2 : Int) ≠ 1 := c4
          refine yG.load xik rfl (fun _ _ => rfl) (v := yI (2)) rfl rfl ?_
          refine yG.num (c := 2) rfl (fun _ _ => rfl) (by decide) ?_
          refine yG.icmp rfl (t := 102) rfl ⟨by omega, by omega⟩ ⟨by omega, by omega⟩ (fun c5 => ?_) (fun c5 => ?_)
          · have c5 : (2 : Int) ≠ 2 := c5
            exfalso; omega
          · have c5 : (2 : Int) = 2 := c5
            refine yG.load xik rfl (fun _ _ => rfl) (v := yI (p4)) rfl rfl ?_
            refine yG.i2l rfl ⟨by omega, by omega⟩ ?_
            refine yG.numl (c := 1) rfl (fun _ _ => rfl) (by decide) ?_
            refine yG.numl (c := 299) rfl (fun _ _ => rfl) (by decide) ?_
            refine yG.invS (rest := []) rfl rfl rfl rfl (c_GModel_in W d A_hp.1 (p4) (1) (299) (by omega) (by omega) (by omega) (by omega) (by omega) (by omega)) (fun rv hp9 q9 => ?_)
            obtain ⟨⟨z6, rfl, l_z6, u_z6, R_z6⟩, e9⟩ := q9
            rw [e9]
            show yG _ _ _ _ _ _ _ _ _ _ (yI z6 :: []) _
            refine yG.goto rfl (t := 125) rfl ?_
            refine yG.ret rfl (fun _ _ => rfl) ?_
            exact (yP.bool (by omega) ⟨⟨z6, rfl, by omega, by omega, trivial⟩, rfl⟩)
        · have c4 : (2 : Int) = 1 := c4
          exfalso; omega
      · have c3 : (2 : Int) = 0 := c3
        exfalso; omega
  · have c1 : (2 : Int) = 1 := c1
    exfalso; omega
theorem c_GModel_mayBe_2_3 {hp : xH} (W : mW G) (d : Nat) (hT : zTy G hp) {k0 : Nat} (H_k0 : bRo G 116 k0) (p2 p4 : Int) (h2l : 0 ≤ p2) (h2u : p2 ≤ 23) (h4l : (-2147483648) ≤ p4) (h4u : p4 ≤ 2147483647) : yC (xcall 89 xfts xpools xms (d + 2)) 453 [yR k0, yI (2), yI (p2), yI (3), yI (p4)] hp (bQpi hp 0 1 (fun z => (z = 1 → 0 ≤ p4 ∧ 0 ≤ 0 - p4 + 9999))) := by
  have A_hp : bAx G [] hp hp := bAx.rf hT
  refine yC.of (M := (xt_X13_mayBe, (5, (4, (14, []))))) rfl rfl (N := 84) (yfuel (by decide)) ?_
  show yG 89 xfts (xcall 89 xfts xpools xms (d + 1)) (xpool xp_RX13) [] xt_X13_mayBe (yP 4 (bQpi hp 0 1 (fun z => (z = 1 → 0 ≤ p4 ∧ 0 ≤ 0 - p4 + 9999)))) 84 0 [(0, yR k0), (1, yI (2)), (2, yI (p2)), (3, yI (3)), (4, yI (p4))] [] hp
  refine yG.load xik rfl (fun _ _ => rfl) (v := yI (2)) rfl rfl ?_
  refine yG.num (c := 1) rfl (fun _ _ => rfl) (by decide) ?_
  refine yG.icmp rfl (t := 46) rfl ⟨by omega, by omega⟩ ⟨by omega, by omega⟩ (fun c1 => ?_) (fun c1 => ?_)
  · have c1 : (2 : Int) ≠ 1 := c1
    refine yG.load xik rfl (fun _ _ => rfl) (v := yI (2)) rfl rfl ?_
    refine yG.num (c := 2) rfl (fun _ _ => rfl) (by decide) ?_
    refine yG.icmp rfl (t := 126) rfl ⟨by omega, by omega⟩ ⟨by omega, by omega⟩ (fun c2 => ?_) (fun c2 => ?_)
    · have c2 : (2 : Int) ≠ 2 := c2
      exfalso; omega
    · have c2 : (2 : Int) = 2 := c2
      refine yG.load xik rfl (fun _ _ => rfl) (v := yI (3)) rfl rfl ?_
      refine yG.ifz rfl (t := 66) rfl ⟨by omega, by omega⟩ (fun c3 => ?_) (fun c3 => ?_)
      · have c3 : (3 : Int) ≠ 0 := c3
        refine yG.load xik rfl (fun _ _ => rfl) (v := yI (3)) rfl rfl ?_
        refine yG.num (c := 1) rfl (fun _ _ => rfl) (by decide) ?_
        refine yG.icmp rfl (t := 84) rfl ⟨by omega, by omega⟩ ⟨by omega, by omega⟩ (fun c4 => ?_) (fun c4 => ?_)
        · have c4 : (3 : Int) ≠ 1 := c4
          refine yG.load xik rfl (fun _ _ => rfl) (v := yI (3)) rfl rfl ?_
          refine yG.num (c := 2) rfl (fun _ _ => rfl) (by decide) ?_
          refine yG.icmp rfl (t := 102) rfl ⟨by omega, by omega⟩ ⟨by omega, by omega⟩ (fun c5 => ?_) (fun c5 => ?_)
          · have c5 : (3 : Int) ≠ 2 := c5
            refine yG.load xik rfl (fun _ _ => rfl) (v := yI (3)) rfl rfl ?_
            refine yG.num (c := 3) rfl (fun _ _ => rfl) (by decide) ?_
            refine yG.icmp rfl (t := 124) rfl ⟨by omega, by omega⟩ ⟨by omega, by omega⟩ (fun c6 => ?_) (fun c6 => ?_)
            · have c6 : (3 : Int) ≠ 3 := c6
              exfalso; omega
            · have c6 : (3 : Int) = 3 := c6
              refine yG.load xik rfl (fun _ _ => rfl) (v := yI (p4)) rfl rfl ?_
              refine yG.i2l rfl ⟨by omega, by omega⟩ ?_
              refine yG.numl (c := 0) rfl (fun _ _ => rfl) (by decide) ?_
              refine yG.numl (c := 9999) rfl (fun _ _ => rfl) (by decide) ?_
              refine yG.invS (rest := []) rfl rfl rfl rfl (c_GModel_in W d A_hp.1 (p4) (0) (9999) (by omega) (by omega) (by omega) (by omega) (by omega) (by omega)) (fun rv hp9 q9 => ?_)
              obtain ⟨⟨z7, rfl, l_z7, u_z7, R_z7⟩, e9⟩ := q9
              rw [e9]
              show yG _ _ _ _ _ _ _ _ _ _ (yI z7 :: []) _
              refine yG.ifz rfl (t := 124) rfl ⟨by omega, by omega⟩ (fun c8 => ?_) (fun c8 => ?_)
              · have c8 : (z7 : Int) = 0 := c8
                refine yG.num (c := 0) rfl (fun _ _ => rfl) (by decide) ?_
                refine yG.ret rfl (fun _ _ => rfl) ?_
                exact (yP.bool (by omega) ⟨⟨0, rfl, by omega, by omega, by omega⟩, rfl⟩)
              · have c8 : (z7 : Int) ≠ 0 := c8
                refine yG.num (c := 1) rfl (fun _ _ => rfl) (by decide) ?_
                refine yG.goto rfl (t := 125) rfl ?_
                refine yG.ret rfl (fun _ _ => rfl) ?_
                exact (yP.bool (by omega) ⟨⟨1, rfl, by omega, by omega, by omega⟩, rfl⟩)
          · have c5 : (3 : Int) = 2 := c5
            exfalso; omega
        · have c4 : (3 : Int) = 1 := c4
          exfalso; omega
      · have c3 : (3 : Int) = 0 := c3
        exfalso; omega
  · have c1 : (2 : Int) = 1 := c1
    exfalso; omega
theorem c_GModel_mayBe_2_4 {hp : xH} (W : mW G) (d : Nat) (hT : zTy G hp) {k0 : Nat} (H_k0 : bRo G 116 k0) (p2 p4 : Int) (h2l : 0 ≤ p2) (h2u : p2 ≤ 23) (h4l : (-2147483648) ≤ p4) (h4u : p4 ≤ 2147483647) : yC (xcall 89 xfts xpools xms (d + 1)) 453 [yR k0, yI (2), yI (p2), yI (4), yI (p4)] hp (bQpi hp 0 0 (fun _ => True)) := by
  have A_hp : bAx G [] hp hp := bAx.rf hT
  refine yC.of (M := (xt_X13_mayBe, (5, (4, (14, []))))) rfl rfl (N := 63) (yfuel (by decide)) ?_
  show yG 89 xfts (xcall 89 xfts xpools xms d) (xpool xp_RX13) [] xt_X13_mayBe (yP 4 (bQpi hp 0 0 (fun _ => True))) 63 0 [(0, yR k0), (1, yI (2)), (2, yI (p2)), (3, yI (4)), (4, yI (p4))] [] hp
  refine yG.load xik rfl (fun _ _ => rfl) (v := yI (2)) rfl rfl ?_
  refine yG.num (c := 1) rfl (fun _ _ => rfl) (by decide) ?_
  refine yG.icmp rfl (t := 46) rfl ⟨by omega, by omega⟩ ⟨by omega, by omega⟩ (fun c1 => ?_) (fun c1 => ?_)
  · have c1 : (2 : Int) ≠ 1 := c1
    refine yG.load xik rfl (fun _ _ => rfl) (v := yI (2)) rfl rfl ?_
    refine yG.num (c := 2) rfl (fun _ _ => rfl) (by decide) ?_
    refine yG.icmp rfl (t := 126) rfl ⟨by omega, by omega⟩ ⟨by omega, by omega⟩ (fun c2 => ?_) (fun c2 => ?_)
    · have c2 : (2 : Int) ≠ 2 := c2
      exfalso; omega
    · have c2 : (2 : Int) = 2 := c2
      refine yG.load xik rfl (fun _ _ => rfl) (v := yI (4)) rfl rfl ?_
      refine yG.ifz rfl (t := 66) rfl ⟨by omega, by omega⟩ (fun c3 => ?_) (fun c3 => ?_)
      · have c3 : (4 : Int) ≠ 0 := c3
        refine yG.load xik rfl (fun _ _ => rfl) (v := yI (4)) rfl rfl ?_
        refine yG.num (c := 1) rfl (fun _ _ => rfl) (by decide) ?_
        refine yG.icmp rfl (t := 84) rfl ⟨by omega, by omega⟩ ⟨by omega, by omega⟩ (fun c4 => ?_) (fun c4 => ?_)
        · have c4 : (4 : Int) ≠ 1 := c4
          refine yG.load xik rfl (fun _ _ => rfl) (v := yI (4)) rfl rfl ?_
          refine yG.num (c := 2) rfl (fun _ _ => rfl) (by decide) ?_
          refine yG.icmp rfl (t := 102) rfl ⟨by omega, by omega⟩ ⟨by omega, by omega⟩ (fun c5 => ?_) (fun c5 => ?_)
          · have c5 : (4 : Int) ≠ 2 := c5
            refine yG.load xik rfl (fun _ _ => rfl) (v := yI (4)) rfl rfl ?_
            refine yG.num (c := 3) rfl (fun _ _ => rfl) (by decide) ?_
            refine yG.icmp rfl (t := 124) rfl ⟨by omega, by omega⟩ ⟨by omega, by omega⟩ (fun c6 => ?_) (fun c6 => ?_)
            · have c6 : (4 : Int) ≠ 3 := c6
              refine yG.num (c := 0) rfl (fun _ _ => rfl) (by decide) ?_
              refine yG.ret rfl (fun _ _ => rfl) ?_
              exact (yP.bool (by omega) ⟨⟨0, rfl, by omega, by omega, trivial⟩, rfl⟩)
            · have c6 : (4 : Int) = 3 := c6
              exfalso; omega
          · have c5 : (4 : Int) = 2 := c5
            exfalso; omega
        · have c4 : (4 : Int) = 1 := c4
          exfalso; omega
      · have c3 : (4 : Int) = 0 := c3
        exfalso; omega
  · have c1 : (2 : Int) = 1 := c1
    exfalso; omega
theorem c_GModel_mayBe_2_5 {hp : xH} (W : mW G) (d : Nat) (hT : zTy G hp) {k0 : Nat} (H_k0 : bRo G 116 k0) (p2 p4 : Int) (h2l : 0 ≤ p2) (h2u : p2 ≤ 23) (h4l : (-2147483648) ≤ p4) (h4u : p4 ≤ 2147483647) : yC (xcall 89 xfts xpools xms (d + 1)) 453 [yR k0, yI (2), yI (p2), yI (5), yI (p4)] hp (bQpi hp 0 0 (fun _ => True)) := by
  have A_hp : bAx G [] hp hp := bAx.rf hT
  refine yC.of (M := (xt_X13_mayBe, (5, (4, (14, []))))) rfl rfl (N := 63) (yfuel (by decide)) ?_
  show yG 89 xfts (xcall 89 xfts xpools xms d) (xpool xp_RX13) [] xt_X13_mayBe (yP 4 (bQpi hp 0 0 (fun _ => True))) 63 0 [(0, yR k0), (1, yI (2)), (2, yI (p2)), (3, yI (5)), (4, yI (p4))] [] hp
  refine yG.load xik rfl (fun _ _ => rfl) (v := yI (2)) rfl rfl ?_
  refine yG.num (c := 1) rfl (fun _ _ => rfl) (by decide) ?_
  refine yG.icmp rfl (t := 46) rfl ⟨by omega, by omega⟩ ⟨by omega, by omega⟩ (fun c1 => ?_) (fun c1 => ?_)
  · have c1 : (2 : Int) ≠ 1 := c1
    refine yG.load xik rfl (fun _ _ => rfl) (v := yI (2)) rfl rfl ?_
    refine yG.num (c := 2) rfl (fun _ _ => rfl) (by decide) ?_
    refine yG.icmp rfl (t := 126) rfl ⟨by omega, by omega⟩ ⟨by omega, by omega⟩ (fun c2 => ?_) (fun c2 => ?_)
    · have c2 : (2 : Int) ≠ 2 := c2
      exfalso; omega
    · have c2 : (2 : Int) = 2 := c2
      refine yG.load xik rfl (fun _ _ => rfl) (v := yI (5)) rfl rfl ?_
      refine yG.ifz rfl (t := 66) rfl ⟨by omega, by omega⟩ (fun c3 => ?_) (fun c3 => ?_)
      · have c3 : (5 : Int) ≠ 0 := c3
        refine yG.load xik rfl (fun _ _ => rfl) (v := yI (5)) rfl rfl ?_
        refine yG.num (c := 1) rfl (fun _ _ => rfl) (by decide) ?_
        refine yG.icmp rfl (t := 84) rfl ⟨by omega, by omega⟩ ⟨by omega, by omega⟩ (fun c4 => ?_) (fun c4 => ?_)
        · have c4 : (5 : Int) ≠ 1 := c4
          refine yG.load xik rfl (fun _ _ => rfl) (v := yI (5)) rfl rfl ?_
          refine yG.num (c := 2) rfl (fun _ _ => rfl) (by decide) ?_
          refine yG.icmp rfl (t := 102) rfl ⟨by omega, by omega⟩ ⟨by omega, by omega⟩ (fun c5 => ?_) (fun c5 => ?_)
          · have c5 : (5 : Int) ≠ 2 := c5
            refine yG.load xik rfl (fun _ _ => rfl) (v := yI (5)) rfl rfl ?_
            refine yG.num (c := 3) rfl (fun _ _ => rfl) (by decide) ?_
            refine yG.icmp rfl (t := 124) rfl ⟨by omega, by omega⟩ ⟨by omega, by omega⟩ (fun c6 => ?_) (fun c6 => ?_)
            · have c6 : (5 : Int) ≠ 3 := c6
              refine yG.num (c := 0) rfl (fun _ _ => rfl) (by decide) ?_
              refine yG.ret rfl (fun _ _ => rfl) ?_
              exact (yP.bool (by omega) ⟨⟨0, rfl, by omega, by omega, trivial⟩, rfl⟩)
            · have c6 : (5 : Int) = 3 := c6
              exfalso; omega
          · have c5 : (5 : Int) = 2 := c5
            exfalso; omega
        · have c4 : (5 : Int) = 1 := c4
          exfalso; omega
      · have c3 : (5 : Int) = 0 := c3
        exfalso; omega
  · have c1 : (2 : Int) = 1 := c1
    exfalso; omega
theorem c_GModel_mayBe_2_6 {hp : xH} (W : mW G) (d : Nat) (hT : zTy G hp) {k0 : Nat} (H_k0 : bRo G 116 k0) (p2 p4 : Int) (h2l : 0 ≤ p2) (h2u : p2 ≤ 23) (h4l : (-2147483648) ≤ p4) (h4u : p4 ≤ 2147483647) : yC (xcall 89 xfts xpools xms (d + 1)) 453 [yR k0, yI (2), yI (p2), yI (6), yI (p4)] hp (bQpi hp 0 0 (fun _ => True)) := by
  have A_hp : bAx G [] hp hp := bAx.rf hT
  refine yC.of (M := (xt_X13_mayBe, (5, (4, (14, []))))) rfl rfl (N := 63) (yfuel (by decide)) ?_
  show yG 89 xfts (xcall 89 xfts xpools xms d) (xpool xp_RX13) [] xt_X13_mayBe (yP 4 (bQpi hp 0 0 (fun _ => True))) 63 0 [(0, yR k0), (1, yI (2)), (2, yI (p2)), (3, yI (6)), (4, yI (p4))] [] hp
  refine yG.load xik rfl (fun _ _ => rfl) (v := yI (2)) rfl rfl ?_
  refine yG.num (c := 1) rfl (fun _ _ => rfl) (by decide) ?_
  refine yG.icmp rfl (t := 46) rfl ⟨by omega, by omega⟩ ⟨by omega, by omega⟩ (fun c1 => ?_) (fun c1 => ?_)
  · have c1 : (2 : Int) ≠ 1 := c1
    refine yG.load xik rfl (fun _ _ => rfl) (v := yI (2)) rfl rfl ?_
    refine yG.num (c := 2) rfl (fun _ _ => rfl) (by decide) ?_
    refine yG.icmp rfl (t := 126) rfl ⟨by omega, by omega⟩ ⟨by omega, by omega⟩ (fun c2 => ?_) (fun c2 => ?_)
    · have c2 : (2 : Int) ≠ 2 := c2
      exfalso; omega
    · have c2 : (2 : Int) = 2 := c2
      refine yG.load xik rfl (fun _ _ => rfl) (v := yI (6)) rfl rfl ?_
      refine yG.ifz rfl (t := 66) rfl ⟨by omega, by omega⟩ (fun c3 => ?_) (fun c3 => ?_)
      · have c3 : (6 : Int) ≠ 0 := c3
        refine yG.load xik rfl (fun _ _ => rfl) (v := yI (6)) rfl rfl ?_
        refine yG.num (c := 1) rfl (fun _ _ => rfl) (by decide) ?_
        refine yG.icmp rfl (t := 84) rfl ⟨by omega, by omega⟩ ⟨by omega, by omega⟩ (fun c4 => ?_) (fun c4 => ?_)
        · have c4 : (6 : Int) ≠ 1 := c4
          refine yG.load xik rfl (fun _ _ => rfl) (v := yI (6)) rfl rfl ?_
          refine yG.num (c := 2) rfl (fun _ _ => rfl) (by decide) ?_
          refine yG.icmp rfl (t := 102) rfl ⟨by omega, by omega⟩ ⟨by omega, by omega⟩ (fun c5 => ?_) (fun c5 => ?_)
          · have c5 : (6 : Int) ≠ 2 := c5
            refine yG.load xik rfl (fun _ _ => rfl) (v := yI (6)) rfl rfl ?_
            refine yG.num (c := 3) rfl (fun _ _ => rfl) (by decide) ?_
            refine yG.icmp rfl (t := 124) rfl ⟨by omega, by omega⟩ ⟨by omega, by omega⟩ (fun c6 => ?_) (fun c6 => ?_)
            · have c6 : (6 : Int) ≠ 3 := c6
              refine yG.num (c := 0) rfl (fun _ _ => rfl) (by decide) ?_
              refine yG.ret rfl (fun _ _ => rfl) ?_
              exact (yP.bool (by omega) ⟨⟨0, rfl, by omega, by omega, trivial⟩, rfl⟩)
            · have c6 : (6 : Int) = 3 := c6
              exfalso; omega
          · have c5 : (6 : Int) = 2 := c5
            exfalso; omega
        · have c4 : (6 : Int) = 1 := c4
          exfalso; omega
      · have c3 : (6 : Int) = 0 := c3
        exfalso; omega
  · have c1 : (2 : Int) = 1 := c1
    exfalso; omega
theorem c_GModel_mayBe_2_7 {hp : xH} (W : mW G) (d : Nat) (hT : zTy G hp) {k0 : Nat} (H_k0 : bRo G 116 k0) (p2 p4 : Int) (h2l : 0 ≤ p2) (h2u : p2 ≤ 23) (h4l : (-2147483648) ≤ p4) (h4u : p4 ≤ 2147483647) : yC (xcall 89 xfts xpools xms (d + 1)) 453 [yR k0, yI (2), yI (p2), yI (7), yI (p4)] hp (bQpi hp 0 0 (fun _ => True)) := by
  have A_hp : bAx G [] hp hp := bAx.rf hT
  refine yC.of (M := (xt_X13_mayBe, (5, (4, (14, []))))) rfl rfl (N := 63) (yfuel (by decide)) ?_
  show yG 89 xfts (xcall 89 xfts xpools xms d) (xpool xp_RX13) [] xt_X13_mayBe (yP 4 (bQpi hp 0 0 (fun _ => True))) 63 0 [(0, yR k0), (1, yI (2)), (2, yI (p2)), (3, yI (7)), (4, yI (p4))] [] hp
  refine yG.load xik rfl (fun _ _ => rfl) (v := yI (2)) rfl rfl ?_
  refine yG.num (c := 1) rfl (fun _ _ => rfl) (by decide) ?_
  refine yG.icmp rfl (t := 46) rfl ⟨by omega, by omega⟩ ⟨by omega, by omega⟩ (fun c1 => ?_) (fun c1 => ?_)
  · have c1 : (2 : Int) ≠ 1 := c1
    refine yG.load xik rfl (fun _ _ => rfl) (v := yI (2)) rfl rfl ?_
    refine yG.num (c := 2) rfl (fun _ _ => rfl) (by decide) ?_
    refine yG.icmp rfl (t := 126) rfl ⟨by omega, by omega⟩ ⟨by omega, by omega⟩ (fun c2 => ?_) (fun c2 => ?_)
    · have c2 : (2 : Int) ≠ 2 := c2
      exfalso; omega
    · have c2 : (2 : Int) = 2 := c2
      refine yG.load xik rfl (fun _ _ => rfl) (v := yI (7)) rfl rfl ?_
      refine yG.ifz rfl (t := 66) rfl ⟨by omega, by omega⟩ (fun c3 => ?_) (fun c3 => ?_)
      · have c3 : (7 : Int) ≠ 0 := c3
        refine yG.load xik rfl (fun _ _ => rfl) (v := yI (7)) rfl rfl ?_
        refine yG.num (c := 1) rfl (fun _ _ => rfl) (by decide) ?_
        refine yG.icmp rfl (t := 84) rfl ⟨by omega, by omega⟩ ⟨by omega, by omega⟩ (fun c4 => ?_) (fun c4 => ?_)
        · have c4 : (7 : Int) ≠ 1 := c4
          refine yG.load xik rfl (fun _ _ => rfl) (v := yI (7)) rfl rfl ?_
          refine yG.num (c := 2) rfl (fun _ _ => rfl) (by decide) ?_
          refine yG.icmp rfl (t := 102) rfl ⟨by omega, by omega⟩ ⟨by omega, by omega⟩ (fun c5 => ?_) (fun c5 => ?_)
          · have c5 : (7 : Int) ≠ 2 := c5
            refine yG.load xik rfl (fun _ _ => rfl) (v := yI (7)) rfl rfl ?_
            refine yG.num (c := 3) rfl (fun _ _ => rfl) (by decide) ?_
            refine yG.icmp rfl (t := 124) rfl ⟨by omega, by omega⟩ ⟨by omega, by omega⟩ (fun c6 => ?_) (fun c6 => ?_)
            · have c6 : (7 : Int) ≠ 3 := c6
              refine yG.num (c := 0) rfl (fun _ _ => rfl) (by decide) ?_
              refine yG.ret rfl (fun _ _ => rfl) ?_
              exact (yP.bool (by omega) ⟨⟨0, rfl, by omega, by omega, trivial⟩, rfl⟩)
            · have c6 : (7 : Int) = 3 := c6
              exfalso; omega
          · have c5 : (7 : Int) = 2 := c5
            exfalso; omega
        · have c4 : (7 : Int) = 1 := c4
          exfalso; omega
      · have c3 : (7 : Int) = 0 := c3
        exfalso; omega
  · have c1 : (2 : Int) = 1 := c1
    exfalso; omega
theorem c_GModel_mayBe_2_8 {hp : xH} (W : mW G) (d : Nat) (hT : zTy G hp) {k0 : Nat} (H_k0 : bRo G 116 k0) (p2 p4 : Int) (h2l : 0 ≤ p2) (h2u : p2 ≤ 23) (h4l : (-2147483648) ≤ p4) (h4u : p4 ≤ 2147483647) : yC (xcall 89 xfts xpools xms (d + 1)) 453 [yR k0, yI (2), yI (p2), yI (8), yI (p4)] hp (bQpi hp 0 0 (fun _ => True)) := by
  have A_hp : bAx G [] hp hp := bAx.rf hT
  refine yC.of (M := (xt_X13_mayBe, (5, (4, (14, []))))) rfl rfl (N := 63) (yfuel (by decide)) ?_
  show yG 89 xfts (xcall 89 xfts xpools xms d) (xpool xp_RX13) [] xt_X13_mayBe (yP 4 (bQpi hp 0 0 (fun _ => True))) 63 0 [(0, yR k0), (1, yI (2)), (2, yI (p2)), (3, yI (8)), (4, yI (p4))] [] hp
  refine yG.load xik rfl (fun _ _ => rfl) (v := yI (2)) rfl rfl ?_
  refine yG.num (c := 1) rfl (fun _ _ => rfl) (by decide) ?_
  refine yG.icmp rfl (t := 46) rfl ⟨by omega, by omega⟩ ⟨by omega, by omega⟩ (fun c1 => ?_) (fun c1 => ?_)
  · have c1 : (2 : Int) ≠ 1 := c1
    refine yG.load xik rfl (fun _ _ => rfl) (v := yI (2)) rfl rfl ?_
    refine yG.num (c := 2) rfl (fun _ _ => rfl) (by decide) ?_
    refine yG.icmp rfl (t := 126) rfl ⟨by omega, by omega⟩ ⟨by omega, by omega⟩ (fun c2 => ?_) (fun c2 => ?_)
    · have c2 : (2 : Int) ≠ 2 := c2
      exfalso; omega
    · have c2 : (2 : Int) = 2 := c2
      refine yG.load xik rfl (fun _ _ => rfl) (v := yI (8)) rfl rfl ?_
      refine yG.ifz rfl (t := 66) rfl ⟨by omega, by omega⟩ (fun c3 => ?_) (fun c3 => ?_)
      · have c3 : (8 : Int) ≠ 0 := c3
        refine yG.load xik rfl (fun _ _ => rfl) (v := yI (8)) rfl rfl ?_
        refine yG.num (c := 1) rfl (fun _ _ => rfl) (by decide) ?_
        refine yG.icmp rfl (t := 84) rfl ⟨by omega, by omega⟩ ⟨by omega, by omega⟩ (fun c4 => ?_) (fun c4 => ?_)
        · have c4 : (8 : Int) ≠ 1 := c4
          refine yG.load xik rfl (fun _ _ => rfl) (v := yI (8)) rfl rfl ?_
          refine yG.num (c := 2) rfl (fun _ _ => rfl) (by decide) ?_
          refine yG.icmp rfl (t := 102) rfl ⟨by omega, by omega⟩ ⟨by omega, by omega⟩ (fun c5 => ?_) (fun c5 => ?_)
          · have c5 : (8 : Int) ≠ 2 := c5
            refine yG.load xik rfl (fun _ _ => rfl) (v := yI (8)) rfl rfl ?_
            refine yG.num (c := 3) rfl (fun _ _ => rfl) (by decide) ?_
            refine yG.icmp rfl (t := 124) rfl ⟨by omega, by omega⟩ ⟨by omega, by omega⟩ (fun c6 => ?_) (fun c6 => ?_)
            · have c6 : (8 : Int) ≠ 3 := c6
              refine yG.num (c := 0) rfl (fun _ _ => rfl) (by decide) ?_
              refine yG.ret rfl (fun _ _ => rfl) ?_
              exact (yP.bool (by omega) ⟨⟨0, rfl, by omega, by omega, trivial⟩, rfl⟩)
            · have c6 : (8 : Int) = 3 := c6
              exfalso; omega
          · have c5 : (8 : Int) = 2 := c5
            exfalso; omega
        · have c4 : (8 : Int) = 1 := c4
          exfalso; omega
      · have c3 : (8 : Int) = 0 := c3
        exfalso; omega
  · have c1 : (2 : Int) = 1 := c1
    exfalso; omega
theorem c_GModel_mayBe_2_9 {hp : xH} (W : mW G) (d : Nat) (hT : zTy G hp) {k0 : Nat} (H_k0 : bRo G 116 k0) (p2 p4 : Int) (h2l : 0 ≤ p2) (h2u : p2 ≤ 23) (h4l : (-2147483648) ≤ p4) (h4u : p4 ≤ 2147483647) : yC (xcall 89 xfts xpools xms (d + 1)) 453 [yR k0, yI (2), yI (p2), yI (9), yI (p4)] hp (bQpi hp 0 0 (fun _ => True)) := by
  have A_hp : bAx G [] hp hp := bAx.rf hT
  refine yC.of (M := (xt_X13_mayBe, (5, (4, (14, []))))) rfl rfl (N := 63) (yfuel (by decide)) ?_
  show yG 89 xfts (xcall 89 xfts xpools xms d) (xpool xp_RX13) [] xt_X13_mayBe (yP 4 (bQpi hp 0 0 (fun _ => True))) 63 0 [(0, yR k0), (1, yI (2)), (2, yI (p2)), (3, yI (9)), (4, yI (p4))] [] hp
  refine yG.load xik rfl (fun _ _ => rfl) (v := yI (2)) rfl rfl ?_
  refine yG.num (c := 1) rfl (fun _ _ => rfl) (by decide) ?_
  refine yG.icmp rfl (t := 46) rfl ⟨by omega, by omega⟩ ⟨by omega, by omega⟩ (fun c1 => ?_) (fun c1 => ?_)
  · have c1 : (2 : Int) ≠ 1 := c1
    refine yG.load xik rfl (fun _ _ => rfl) (v := yI (2)) rfl rfl ?_
    refine yG.num (c := 2) rfl (fun _ _ => rfl) (by decide) ?_
    refine yG.icmp rfl (t := 126) rfl ⟨by omega, by omega⟩ ⟨by omega, by omega⟩ (fun c2 => ?_) (fun c2 => ?_)
    · have c2 : (2 : Int) ≠ 2 := c2
      exfalso; omega
    · have c2 : (2 : Int) = 2 := c2
      refine yG.load xik rfl (fun _ _ => rfl) (v := yI (9)) rfl rfl ?_
      refine yG.ifz rfl (t := 66) rfl ⟨by omega, by omega⟩ (fun c3 => ?_) (fun c3 => ?_)
      · have c3 : (9 : Int) ≠ 0 := c3
        refine yG.load xik rfl (fun _ _ => rfl) (v := yI (9)) rfl rfl ?_
        refine yG.num (c := 1) rfl (fun _ _ => rfl) (by decide) ?_
        refine yG.icmp rfl (t := 84) rfl ⟨by omega, by omega⟩ ⟨by omega, by omega⟩ (fun c4 => ?_) (fun c4 => ?_)
        · have c4 : (9 : Int) ≠ 1 := c4
          refine yG.load xik rfl (fun _ _ => rfl) (v := yI (9)) rfl rfl ?_
          refine yG.num (c := 2) rfl (fun _ _ => rfl) (by decide) ?_
          refine yG.icmp rfl (t := 102) rfl ⟨by omega, by omega⟩ ⟨by omega, by omega⟩ (fun c5 => ?_) (fun c5 => ?_)
          · have c5 : (9 : Int) ≠ 2 := c5
            refine yG.load xik rfl (fun _ _ => rfl) (v := yI (9)) rfl rfl ?_
            refine yG.num (c := 3) rfl (fun _ _ => rfl) (by decide) ?_
            refine yG.icmp rfl (t := 124) rfl ⟨by omega, by omega⟩ ⟨by omega, by omega⟩ (fun c6 => ?_) (fun c6 => ?_)
            · have c6 : (9 : Int) ≠ 3 := c6
              refine yG.num (c := 0) rfl (fun _ _ => rfl) (by decide) ?_
              refine yG.ret rfl (fun _ _ => rfl) ?_
              exact (yP.bool (by omega) ⟨⟨0, rfl, by omega, by omega, trivial⟩, rfl⟩)
            · have c6 : (9 : Int) = 3 := c6
              exfalso; omega
          · have c5 : (9 : Int) = 2 := c5
            exfalso; omega
        · have c4 : (9 : Int) = 1 := c4
          exfalso; omega
      · have c3 : (9 : Int) = 0 := c3
        exfalso; omega
  · have c1 : (2 : Int) = 1 := c1
    exfalso; omega
theorem c_GModel_mayBe_2_10 {hp : xH} (W : mW G) (d : Nat) (hT : zTy G hp) {k0 : Nat} (H_k0 : bRo G 116 k0) (p2 p4 : Int) (h2l : 0 ≤ p2) (h2u : p2 ≤ 23) (h4l : (-2147483648) ≤ p4) (h4u : p4 ≤ 2147483647) : yC (xcall 89 xfts xpools xms (d + 1)) 453 [yR k0, yI (2), yI (p2), yI (10), yI (p4)] hp (bQpi hp 0 0 (fun _ => True)) := by
  have A_hp : bAx G [] hp hp := bAx.rf hT
  refine yC.of (M := (xt_X13_mayBe, (5, (4, (14, []))))) rfl rfl (N := 63) (yfuel (by decide)) ?_
  show yG 89 xfts (xcall 89 xfts xpools xms d) (xpool xp_RX13) [] xt_X13_mayBe (yP 4 (bQpi hp 0 0 (fun _ => True))) 63 0 [(0, yR k0), (1, yI (2)), (2, yI (p2)), (3, yI (10)), (4, yI (p4))] [] hp
  refine yG.load xik rfl (fun _ _ => rfl) (v := yI (2)) rfl rfl ?_
  refine yG.num (c := 1) rfl (fun _ _ => rfl) (by decide) ?_
  refine yG.icmp rfl (t := 46) rfl ⟨by omega, by omega⟩ ⟨by omega, by omega⟩ (fun c1 => ?_) (fun c1 => ?_)
  · have c1 : (2 : Int) ≠ 1 := c1
    refine yG.load xik rfl (fun _ _ => rfl) (v := yI (2)) rfl rfl ?_
    refine yG.num (c := 2) rfl (fun _ _ => rfl) (by decide) ?_
    refine yG.icmp rfl (t := 126) rfl ⟨by omega, by omega⟩ ⟨by omega, by omega⟩ (fun c2 => ?_) (fun c2 => ?_)
    · have c2 : (2 : Int) ≠ 2 := c2
      exfalso; omega
    · have c2 : (2 : Int) = 2 := c2
      refine yG.load xik rfl (fun _ _ => rfl) (v := yI (10)) rfl rfl ?_
      refine yG.ifz rfl (t := 66) rfl ⟨by omega, by omega⟩ (fun c3 => ?_) (fun c3 => ?_)
      · have c3 : (10 : Int) ≠ 0 := c3
        refine yG.load xik rfl (fun _ _ => rfl) (v := yI (10)) rfl rfl ?_
        refine yG.num (c := 1) rfl (fun _ _ => rfl) (by decide) ?_
        refine yG.icmp rfl (t := 84) rfl ⟨by omega, by omega⟩ ⟨by omega, by omega⟩ (fun c4 => ?_) (fun c4 => ?_)
        · have c4 : (10 : Int) ≠ 1 := c4
          refine yG.load xik rfl (fun _ _ => rfl) (v := yI (10)) rfl rfl ?_
          refine yG.num (c := 2) rfl (fun _ _ => rfl) (by decide) ?_
          refine yG.icmp rfl (t := 102) rfl ⟨by omega, by omega⟩ ⟨by omega, by omega⟩ (fun c5 => ?_) (fun c5 => ?_)
          · have c5 : (10 : Int) ≠ 2 := c5
            refine yG.load xik rfl (fun _ _ => rfl) (v := yI (10)) rfl rfl ?_
            refine yG.num (c := 3) rfl (fun _ _ => rfl) (by decide) ?_
            refine yG.icmp rfl (t := 124) rfl ⟨by omega, by omega⟩ ⟨by omega, by omega⟩ (fun c6 => ?_) (fun c6 => ?_)
            · have c6 : (10 : Int) ≠ 3 := c6
              refine yG.num (c := 0) rfl (fun _ _ => rfl) (by decide) ?_
              refine yG.ret rfl (fun _ _ => rfl) ?_
              exact (yP.bool (by omega) ⟨⟨0, rfl, by omega, by omega, trivial⟩, rfl⟩)
            · have c6 : (10 : Int) = 3 := c6
              exfalso; omega
          · have c5 : (10 : Int) = 2 := c5
            exfalso; omega
        · have c4 : (10 : Int) = 1 := c4
          exfalso; omega
      · have c3 : (10 : Int) = 0 := c3
        exfalso; omega
  · have c1 : (2 : Int) = 1 := c1
    exfalso; omega
theorem c_GModel_mayBe_2_l {hp : xH} (W : mW G) (d : Nat) (hT : zTy G hp) {k0 : Nat} (H_k0 : bRo G 116 k0) (p2 p3 p4 : Int) (h2l : 0 ≤ p2) (h2u : p2 ≤ 23) (h3l : (-2147483648) ≤ p3) (h3u : p3 ≤ (-1)) (h4l : (-2147483648) ≤ p4) (h4u : p4 ≤ 2147483647) : yC (xcall 89 xfts xpools xms (d + 1)) 453 [yR k0, yI (2), yI (p2), yI (p3), yI (p4)] hp (bQpi hp 0 0 (fun _ => True)) := by
  have A_hp : bAx G [] hp hp := bAx.rf hT
  refine yC.of (M := (xt_X13_mayBe, (5, (4, (14, []))))) rfl rfl (N := 63) (yfuel (by decide)) ?_
  show yG 89 xfts (xcall 89 xfts xpools xms d) (xpool xp_RX13) [] xt_X13_mayBe (yP 4 (bQpi hp 0 0 (fun _ => True))) 63 0 [(0, yR k0), (1, yI (2)), (2, yI (p2)), (3, yI (p3)), (4, yI (p4))] [] hp
  refine yG.load xik rfl (fun _ _ => rfl) (v := yI (2)) rfl rfl ?_
  refine yG.num (c := 1) rfl (fun _ _ => rfl) (by decide) ?_
  refine yG.icmp rfl (t := 46) rfl ⟨by omega, by omega⟩ ⟨by omega, by omega⟩ (fun c1 => ?_) (fun c1 => ?_)
  · have c1 : (2 : Int) ≠ 1 := c1
    refine yG.load xik rfl (fun _ _ => rfl) (v := yI (2)) rfl rfl ?_
    refine yG.num (c := 2) rfl (fun _ _ => rfl) (by decide) ?_
    refine yG.icmp rfl (t := 126) rfl ⟨by omega, by omega⟩ ⟨by omega, by omega⟩ (fun c2 => ?_) (fun c2 => ?_)
    · have c2 : (2 : Int) ≠ 2 := c2
      exfalso; omega
    · have c2 : (2 : Int) = 2 := c2
      refine yG.load xik rfl (fun _ _ => rfl) (v := yI (p3)) rfl rfl ?_
      refine yG.ifz rfl (t := 66) rfl ⟨by omega, by omega⟩ (fun c3 => ?_) (fun c3 => ?_)
      · have c3 : (p3 : Int) ≠ 0 := c3
        refine yG.load xik rfl (fun _ _ => rfl) (v := yI (p3)) rfl rfl ?_
        refine yG.num (c := 1) rfl (fun _ _ => rfl) (by decide) ?_
        refine yG.icmp rfl (t := 84) rfl ⟨by omega, by omega⟩ ⟨by omega, by omega⟩ (fun c4 => ?_) (fun c4 => ?_)
        · have c4 : (p3 : Int) ≠ 1 := c4
          refine yG.load xik rfl (fun _ _ => rfl) (v := yI (p3)) rfl rfl ?_
          refine yG.num (c := 2) rfl (fun _ _ => rfl) (by decide) ?_
          refine yG.icmp rfl (t := 102) rfl ⟨by omega, by omega⟩ ⟨by omega, by omega⟩ (fun c5 => ?_) (fun c5 => ?_)
          · have c5 : (p3 : Int) ≠ 2 := c5
            refine yG.load xik rfl (fun _ _ => rfl) (v := yI (p3)) rfl rfl ?_
            refine yG.num (c := 3) rfl (fun _ _ => rfl) (by decide) ?_
            refine yG.icmp rfl (t := 124) rfl ⟨by omega, by omega⟩ ⟨by omega, by omega⟩ (fun c6 => ?_) (fun c6 => ?_)
            · have c6 : (p3 : Int) ≠ 3 := c6
              refine yG.num (c := 0) rfl (fun _ _ => rfl) (by decide) ?_
              refine yG.ret rfl (fun _ _ => rfl) ?_
              exact (yP.bool (by omega) ⟨⟨0, rfl, by omega, by omega, trivial⟩, rfl⟩)
            · have c6 : (p3 : Int) = 3 := c6
              exfalso; omega
          · have c5 : (p3 : Int) = 2 := c5
            exfalso; omega
        · have c4 : (p3 : Int) = 1 := c4
          exfalso; omega
      · have c3 : (p3 : Int) = 0 := c3
        exfalso; omega
  · have c1 : (2 : Int) = 1 := c1
    exfalso; omega
theorem c_GModel_mayBe_2_h {hp : xH} (W : mW G) (d : Nat) (hT : zTy G hp) {k0 : Nat} (H_k0 : bRo G 116 k0) (p2 p3 p4 : Int) (h2l : 0 ≤ p2) (h2u : p2 ≤ 23) (h3l : 11 ≤ p3) (h3u : p3 ≤ 2147483647) (h4l : (-2147483648) ≤ p4) (h4u : p4 ≤ 2147483647) : yC (xcall 89 xfts xpools xms (d + 1)) 453 [yR k0, yI (2), yI (p2), yI (p3), yI (p4)] hp (bQpi hp 0 0 (fun _ => True)) := by
  have A_hp : bAx G [] hp hp := bAx.rf hT
  refine yC.of (M := (xt_X13_mayBe, (5, (4, (14, []))))) rfl rfl (N := 63) (yfuel (by decide)) ?_
  show yG 89 xfts (xcall 89 xfts xpools xms d) (xpool xp_RX13) [] xt_X13_mayBe (yP 4 (bQpi hp 0 0 (fun _ => True))) 63 0 [(0, yR k0), (1, yI (2)), (2, yI (p2)), (3, yI (p3)), (4, yI (p4))] [] hp
  refine yG.load xik rfl (fun _ _ => rfl) (v := yI (2)) rfl rfl ?_
  refine yG.num (c := 1) rfl (fun _ _ => rfl) (by decide) ?_
  refine yG.icmp rfl (t := 46) rfl ⟨by omega, by omega⟩ ⟨by omega, by omega⟩ (fun c1 => ?_) (fun c1 => ?_)
  · have c1 : (2 : Int) ≠ 1 := c1
    refine yG.load xik rfl (fun _ _ => rfl) (v := yI (2)) rfl rfl ?_
    refine yG.num (c := 2) rfl (fun _ _ => rfl) (by decide) ?_
    refine yG.icmp rfl (t := 126) rfl ⟨by omega, by omega⟩ ⟨by omega, by omega⟩ (fun c2 => ?_) (fun c2 => ?_)
    · have c2 : (2 : Int) ≠ 2 := c2
      exfalso; omega
    · have c2 : (2 : Int) = 2 := c2
      refine yG.load xik rfl (fun _ _ => rfl) (v := yI (p3)) rfl rfl ?_
      refine yG.ifz rfl (t := 66) rfl ⟨by omega, by omega⟩ (fun c3 => ?_) (fun c3 => ?_)
      · have c3 : (p3 : Int) ≠ 0 := c3
        refine yG.load xik rfl (fun _ _ => rfl) (v := yI (p3)) rfl rfl ?_
        refine yG.num (c := 1) rfl (fun _ _ => rfl) (by decide) ?_
        refine yG.icmp rfl (t := 84) rfl ⟨by omega, by omega⟩ ⟨by omega, by omega⟩ (fun c4 => ?_) (fun c4 => ?_)
        · have c4 : (p3 : Int) ≠ 1 := c4
          refine yG.load xik rfl (fun _ _ => rfl) (v := yI (p3)) rfl rfl ?_
          refine yG.num (c := 2) rfl (fun _ _ => rfl) (by decide) ?_
          refine yG.icmp rfl (t := 102) rfl ⟨by omega, by omega⟩ ⟨by omega, by omega⟩ (fun c5 => ?_) (fun c5 => ?_)
          · have c5 : (p3 : Int) ≠ 2 := c5
            refine yG.load xik rfl (fun _ _ => rfl) (v := yI (p3)) rfl rfl ?_
            refine yG.num (c := 3) rfl (fun _ _ => rfl) (by decide) ?_
            refine yG.icmp rfl (t := 124) rfl ⟨by omega, by omega⟩ ⟨by omega, by omega⟩ (fun c6 => ?_) (fun c6 => ?_)
            · have c6 : (p3 : Int) ≠ 3 := c6
              refine yG.num (c := 0) rfl (fun _ _ => rfl) (by decide) ?_
              refine yG.ret rfl (fun _ _ => rfl) ?_
              exact (yP.bool (by omega) ⟨⟨0, rfl, by omega, by omega, trivial⟩, rfl⟩)
            · have c6 : (p3 : Int) = 3 := c6
              exfalso; omega
          · have c5 : (p3 : Int) = 2 := c5
            exfalso; omega
        · have c4 : (p3 : Int) = 1 := c4
          exfalso; omega
      · have c3 : (p3 : Int) = 0 := c3
        exfalso; omega
  · have c1 : (2 : Int) = 1 := c1
    exfalso; omega
theorem c_GModel_mayBe_3_0 {hp : xH} (W : mW G) (d : Nat) (hT : zTy G hp) {k0 : Nat} (H_k0 : bRo G 116 k0) (p2 p4 : Int) (h2l : 0 ≤ p2) (h2u : p2 ≤ 23) (h4l : (-2147483648) ≤ p4) (h4u : p4 ≤ 2147483647) : yC (xcall 89 xfts xpools xms (d + 2)) 453 [yR k0, yI (3), yI (p2), yI (0), yI (p4)] hp (bQpi hp 0 1 (fun _ => True)) := by
  have A_hp : bAx G [] hp hp := bAx.rf hT
  refine yC.of (M := (xt_X13_mayBe, (5, (4, (14, []))))) rfl rfl (N := 63) (yfuel (by decide)) ?_
  show yG 89 xfts (xcall 89 xfts xpools xms (d + 1)) (xpool xp_RX13) [] xt_X13_mayBe (yP 4 (bQpi hp 0 1 (fun _ => True))) 63 0 [(0, yR k0), (1, yI (3)), (2, yI (p2)), (3, yI (0)), (4, yI (p4))] [] hp
  refine yG.load xik rfl (fun _ _ => rfl) (v := yI (3)) rfl rfl ?_
  refine yG.num (c := 1) rfl (fun _ _ => rfl) (by decide) ?_
  refine yG.icmp rfl (t := 46) rfl ⟨by omega, by omega⟩ ⟨by omega, by omega⟩ (fun c1 => ?_) (fun c1 => ?_)
  · have c1 : (3 : Int) ≠ 1 := c1
    refine yG.load xik rfl (fun _ _ => rfl) (v := yI (3)) rfl rfl ?_
    refine yG.num (c := 2) rfl (fun _ _ => rfl) (by decide) ?_
    refine yG.icmp rfl (t := 126) rfl ⟨by omega, by omega⟩ ⟨by omega, by omega⟩ (fun c2 => ?_) (fun c2 => ?_)
    · have c2 : (3 : Int) ≠ 2 := c2
      refine yG.load xik rfl (fun _ _ => rfl) (v := yI (3)) rfl rfl ?_
      refine yG.num (c := 4) rfl (fun _ _ => rfl) (by decide) ?_
      refine yG.icmp rfl (t := 154) rfl ⟨by omega, by omega⟩ ⟨by omega, by omega⟩ (fun c3 => ?_) (fun c3 => ?_)
      · have c3 : (3 : Int) ≠ 4 := c3
        refine yG.load xik rfl (fun _ _ => rfl) (v := yI (3)) rfl rfl ?_
        refine yG.ifz rfl (t := 160) rfl ⟨by omega, by omega⟩ (fun c4 => ?_) (fun c4 => ?_)
        · have c4 : (3 : Int) ≠ 0 := c4
          refine yG.load xik rfl (fun _ _ => rfl) (v := yI (0)) rfl rfl ?_
          rcases (show (0 < (0 : Int) ∨ (8 : Int) < 0) ∨ 0 = (0 : Int) ∨ 0 = (1 : Int) ∨ 0 = (2 : Int) ∨ 0 = (3 : Int) ∨ 0 = (4 : Int) ∨ 0 = (5 : Int) ∨ 0 = (6 : Int) ∨ 0 = (7 : Int) ∨ 0 = (8 : Int) by omega) with c5 | c5 | c5 | c5 | c5 | c5 | c5 | c5 | c5 | c5
          · skip
            exfalso; omega
          · skip
            refine yG.tswC (i := 0) (t := 212) rfl ⟨by omega, by omega⟩ (by omega) (by omega) rfl rfl ?_
            refine yG.load xik rfl (fun _ _ => rfl) (v := yI (p4)) rfl rfl ?_
            refine yG.i2l rfl ⟨by omega, by omega⟩ ?_
            refine yG.numl (c := 0) rfl (fun _ _ => rfl) (by decide) ?_
            refine yG.numl (c := 1) rfl (fun _ _ => rfl) (by decide) ?_
            refine yG.invS (rest := []) rfl rfl rfl rfl (c_GModel_in W d A_hp.1 (p4) (0) (1) (by omega) (by omega) (by omega) (by omega) (by omega) (by omega)) (fun rv hp9 q9 => ?_)
            obtain ⟨⟨z6, rfl, l_z6, u_z6, R_z6⟩, e9⟩ := q9
            rw [e9]
            show yG _ _ _ _ _ _ _ _ _ _ (yI z6 :: []) _
            refine yG.ret rfl (fun _ _ => rfl) ?_
            exact (yP.bool (by omega) ⟨⟨z6, rfl, by omega, by omega, trivial⟩, rfl⟩)
          · skip
            exfalso; omega
          · skip
            exfalso; omega
          · skip
            exfalso; omega
          · skip
            exfalso; omega
          · skip
            exfalso; omega
          · skip
            exfalso; omega
          · skip
            exfalso; omega
          · skip
            exfalso; omega
        · have c4 : (3 : Int) = 0 := c4
          exfalso; omega
      · have c3 : (3 : Int) = 4 := c3
        exfalso; omega
    · have c2 : (3 : Int) = 2 := c2
      exfalso; omega
  · have c1 : (3 : Int) = 1 := c1
    exfalso; omega
theorem c_GModel_mayBe_3_1 {hp : xH} (W : mW G) (d : Nat) (hT : zTy G hp) {k0 : Nat} (H_k0 : bRo G 116 k0) (p2 p4 : Int) (h2l : 0 ≤ p2) (h2u : p2 ≤ 23) (h4l : (-2147483648) ≤ p4) (h4u : p4 ≤ 2147483647) : yC (xcall 89 xfts xpools xms (d + 2)) 453 [yR k0, yI (3), yI (p2), yI (1), yI (p4)] hp (bQpi hp 0 1 (fun _ => True)) := by
  have A_hp : bAx G [] hp hp := bAx.rf hT
  refine yC.of (M := (xt_X13_mayBe, (5, (4, (14, []))))) rfl rfl (N := 63) (yfuel (by decide)) ?_
  show yG 89 xfts (xcall 89 xfts xpools xms (d + 1)) (xpool xp_RX13) [] xt_X13_mayBe (yP 4 (bQpi hp 0 1 (fun _ => True))) 63 0 [(0, yR k0), (1, yI (3)), (2, yI (p2)), (3, yI (1)), (4, yI (p4))] [] hp
  refine yG.load xik rfl (fun _ _ => rfl) (v := yI (3)) rfl rfl ?_
  refine yG.num (c := 1) rfl (fun _ _ => rfl) (by decide) ?_
  refine yG.icmp rfl (t := 46) rfl ⟨by omega, by omega⟩ ⟨by omega, by omega⟩ (fun c1 => ?_) (fun c1 => ?_)
  · have c1 : (3 : Int) ≠ 1 := c1
    refine yG.load xik rfl (fun _ _ => rfl) (v := yI (3)) rfl rfl ?_
    refine yG.num (c := 2) rfl (fun _ _ => rfl) (by decide) ?_
    refine yG.icmp rfl (t := 126) rfl ⟨by omega, by omega⟩ ⟨by omega, by omega⟩ (fun c2 => ?_) (fun c2 => ?_)
    · have c2 : (3 : Int) ≠ 2 := c2
      refine yG.load xik rfl (fun _ _ => rfl) (v := yI (3)) rfl rfl ?_
      refine yG.num (c := 4) rfl (fun _ _ => rfl) (by decide) ?_
      refine yG.icmp rfl (t := 154) rfl ⟨by omega, by omega⟩ ⟨by omega, by omega⟩ (fun c3 => ?_) (fun c3 => ?_)
      · have c3 : (3 : Int) ≠ 4 := c3
        refine yG.load xik rfl (fun _ _ => rfl) (v := yI (3)) rfl rfl ?_
        refine yG.ifz rfl (t := 160) rfl ⟨by omega, by omega⟩ (fun c4 => ?_) (fun c4 => ?_)
        · have c4 : (3 : Int) ≠ 0 := c4
          refine yG.load xik rfl (fun _ _ => rfl) (v := yI (1)) rfl rfl ?_
          rcases (show (1 < (0 : Int) ∨ (8 : Int) < 1) ∨ 1 = (0 : Int) ∨ 1 = (1 : Int) ∨ 1 = (2 : Int) ∨ 1 = (3 : Int) ∨ 1 = (4 : Int) ∨ 1 = (5 : Int) ∨ 1 = (6 : Int) ∨ 1 = (7 : Int) ∨ 1 = (8 : Int) by omega) with c5 | c5 | c5 | c5 | c5 | c5 | c5 | c5 | c5 | c5
          · skip
            exfalso; omega
          · skip
            exfalso; omega
          · skip
            refine yG.tswC (i := 1) (t := 221) rfl ⟨by omega, by omega⟩ (by omega) (by omega) rfl rfl ?_
            refine yG.load xik rfl (fun _ _ => rfl) (v := yI (p4)) rfl rfl ?_
            refine yG.i2l rfl ⟨by omega, by omega⟩ ?_
            refine yG.numl (c := 0) rfl (fun _ _ => rfl) (by decide) ?_
            refine yG.numl (c := 9999) rfl (fun _ _ => rfl) (by decide) ?_
            refine yG.invS (rest := []) rfl rfl rfl rfl (c_GModel_in W d A_hp.1 (p4) (0) (9999) (by omega) (by omega) (by omega) (by omega) (by omega) (by omega)) (fun rv hp9 q9 => ?_)
            obtain ⟨⟨z6, rfl, l_z6, u_z6, R_z6⟩, e9⟩ := q9
            rw [e9]
            show yG _ _ _ _ _ _ _ _ _ _ (yI z6 :: []) _
            refine yG.ret rfl (fun _ _ => rfl) ?_
            exact (yP.bool (by omega) ⟨⟨z6, rfl, by omega, by omega, trivial⟩, rfl⟩)
          · skip
            exfalso; omega
          · skip
            exfalso; omega
          · skip
            exfalso; omega
          · skip
            exfalso; omega
          · skip
            exfalso; omega
          · skip
            exfalso; omega
          · skip
            exfalso; omega
        · have c4 : (3 : Int) = 0 := c4
          exfalso; omega
      · have c3 : (3 : Int) = 4 := c3
        exfalso; omega
    · have c2 : (3 : Int) = 2 := c2
      exfalso; omega
  · have c1 : (3 : Int) = 1 := c1
    exfalso; omega
theorem c_GModel_mayBe_3_2 {hp : xH} (W : mW G) (d : Nat) (hT : zTy G hp) {k0 : Nat} (H_k0 : bRo G 116 k0) (p2 p4 : Int) (h2l : 0 ≤ p2) (h2u : p2 ≤ 23) (h4l : (-2147483648) ≤ p4) (h4u : p4 ≤ 2147483647) : yC (xcall 89 xfts xpools xms (d + 2)) 453 [yR k0, yI (3), yI (p2), yI (2), yI (p4)] hp (bQpi hp 0 1 (fun _ => True)) := by
  have A_hp : bAx G [] hp hp := bAx.rf hT
  refine yC.of (M := (xt_X13_mayBe, (5, (4, (14, []))))) rfl rfl (N := 63) (yfuel (by decide)) ?_
  show yG 89 xfts (xcall 89 xfts xpools xms (d + 1)) (xpool xp_RX13) [] xt_X13_mayBe (yP 4 (bQpi hp 0 1 (fun _ => True))) 63 0 [(0, yR k0), (1, yI (3)), (2, yI (p2)), (3, yI (2)), (4, yI (p4))] [] hp
  refine yG.load xik rfl (fun _ _ => rfl) (v := yI (3)) rfl rfl ?_
  refine yG.num (c := 1) rfl (fun _ _ => rfl) (by decide) ?_
  refine yG.icmp rfl (t := 46) rfl ⟨by omega, by omega⟩ ⟨by omega, by omega⟩ (fun c1 => ?_) (fun c1 => ?_)
  · have c1 : (3 : Int) ≠ 1 := c1
    refine yG.load xik rfl (fun _ _ => rfl) (v := yI (3)) rfl rfl ?_
    refine yG.num (c := 2) rfl (fun _ _ => rfl) (by decide) ?_
    refine yG.icmp rfl (t := 126) rfl ⟨by omega, by omega⟩ ⟨by omega, by omega⟩ (fun c2 => ?_) (fun c2 => ?_)
    · have c2 : (3 : Int) ≠ 2 := c2
      refine yG.load xik rfl (fun _ _ => rfl) (v := yI (3)) rfl rfl ?_
      refine yG.num (c := 4) rfl (fun _ _ => rfl) (by decide) ?_
      refine yG.icmp rfl (t := 154) rfl ⟨by omega, by omega⟩ ⟨by omega, by omega⟩ (fun c3 => ?_) (fun c3 => ?_)
      · have c3 : (3 : Int) ≠ 4 := c3
        refine yG.load xik rfl (fun _ _ => rfl) (v := yI (3)) rfl rfl ?_
        refine yG.ifz rfl (t := 160) rfl ⟨by omega, by omega⟩ (fun c4 => ?_) (fun c4 => ?_)
        · have c4 : (3 : Int) ≠ 0 := c4
          refine yG.load xik rfl (fun _ _ => rfl) (v := yI (2)) rfl rfl ?_
          rcases (show (2 < (0 : Int) ∨ (8 : Int) < 2) ∨ 2 = (0 : Int) ∨ 2 = (1 : Int) ∨ 2 = (2 : Int) ∨ 2 = (3 : Int) ∨ 2 = (4 : Int) ∨ 2 = (5 : Int) ∨ 2 = (6 : Int) ∨ 2 = (7 : Int) ∨ 2 = (8 : Int) by omega) with c5 | c5 | c5 | c5 | c5 | c5 | c5 | c5 | c5 | c5
          · skip
            exfalso; omega
          · skip
            exfalso; omega
          · skip
            exfalso; omega
          · skip
            refine yG.tswC (i := 2) (t := 232) rfl ⟨by omega, by omega⟩ (by omega) (by omega) rfl rfl ?_
            refine yG.load xik rfl (fun _ _ => rfl) (v := yI (p4)) rfl rfl ?_
            refine yG.i2l rfl ⟨by omega, by omega⟩ ?_
            refine yG.numl (c := 1) rfl (fun _ _ => rfl) (by decide) ?_
            refine yG.numl (c := 99) rfl (fun _ _ => rfl) (by decide) ?_
            refine yG.invS (rest := []) rfl rfl rfl rfl (c_GModel_in W d A_hp.1 (p4) (1) (99) (by omega) (by omega) (by omega) (by omega) (by omega) (by omega)) (fun rv hp9 q9 => ?_)
            obtain ⟨⟨z6, rfl, l_z6, u_z6, R_z6⟩, e9⟩ := q9
            rw [e9]
            show yG _ _ _ _ _ _ _ _ _ _ (yI z6 :: []) _
            refine yG.ret rfl (fun _ _ => rfl) ?_
            exact (yP.bool (by omega) ⟨⟨z6, rfl, by omega, by omega, trivial⟩, rfl⟩)
          · skip
            exfalso; omega
          · skip
            exfalso; omega
          · skip
            exfalso; omega
          · skip
            exfalso; omega
          · skip
            exfalso; omega
          · skip
            exfalso; omega
        · have c4 : (3 : Int) = 0 := c4
          exfalso; omega
      · have c3 : (3 : Int) = 4 := c3
        exfalso; omega
    · have c2 : (3 : Int) = 2 := c2
      exfalso; omega
  · have c1 : (3 : Int) = 1 := c1
    exfalso; omega
theorem c_GModel_mayBe_3_3 {hp : xH} (W : mW G) (d : Nat) (hT : zTy G hp) {k0 : Nat} (H_k0 : bRo G 116 k0) (p2 p4 : Int) (h2l : 0 ≤ p2) (h2u : p2 ≤ 23) (h4l : (-2147483648) ≤ p4) (h4u : p4 ≤ 2147483647) : yC (xcall 89 xfts xpools xms (d + 2)) 453 [yR k0, yI (3), yI (p2), yI (3), yI (p4)] hp (bQpi hp 0 1 (fun _ => True)) := by
  have A_hp : bAx G [] hp hp := bAx.rf hT
  refine yC.of (M := (xt_X13_mayBe, (5, (4, (14, []))))) rfl rfl (N := 63) (yfuel (by decide)) ?_
  show yG 89 xfts (xcall 89 xfts xpools xms (d + 1)) (xpool xp_RX13) [] xt_X13_mayBe (yP 4 (bQpi hp 0 1 (fun _ => True))) 63 0 [(0, yR k0), (1, yI (3)), (2, yI (p2)), (3, yI (3)), (4, yI (p4))] [] hp
  refine yG.load xik rfl (fun _ _ => rfl) (v := yI (3)) rfl rfl ?_
  refine yG.num (c := 1) rfl (fun _ _ => rfl) (by decide) ?_
  refine yG.icmp rfl (t := 46) rfl ⟨by omega, by omega⟩ ⟨by omega, by omega⟩ (fun c1 => ?_) (fun c1 => ?_)
  · have c1 : (3 : Int) ≠ 1 := c1
    refine yG.load xik rfl (fun _ _ => rfl) (v := yI (3)) rfl rfl ?_
    refine yG.num (c := 2) rfl (fun _ _ => rfl) (by decide) ?_
    refine yG.icmp rfl (t := 126) rfl ⟨by omega, by omega⟩ ⟨by omega, by omega⟩ (fun c2 => ?_) (fun c2 => ?_)
    · have c2 : (3 : Int) ≠ 2 := c2
      refine yG.load xik rfl (fun _ _ => rfl) (v := yI (3)) rfl rfl ?_
      refine yG.num (c := 4) rfl (fun _ _ => rfl) (by decide) ?_
      refine yG.icmp rfl (t := 154) rfl ⟨by omega, by omega⟩ ⟨by omega, by omega⟩ (fun c3 => ?_) (fun c3 => ?_)
      · have c3 : (3 : Int) ≠ 4 := c3
        refine yG.load xik rfl (fun _ _ => rfl) (v := yI (3)) rfl rfl ?_
        refine yG.ifz rfl (t := 160) rfl ⟨by omega, by omega⟩ (fun c4 => ?_) (fun c4 => ?_)
        · have c4 : (3 : Int) ≠ 0 := c4
          refine yG.load xik rfl (fun _ _ => rfl) (v := yI (3)) rfl rfl ?_
          rcases (show (3 < (0 : Int) ∨ (8 : Int) < 3) ∨ 3 = (0 : Int) ∨ 3 = (1 : Int) ∨ 3 = (2 : Int) ∨ 3 = (3 : Int) ∨ 3 = (4 : Int) ∨ 3 = (5 : Int) ∨ 3 = (6 : Int) ∨ 3 = (7 : Int) ∨ 3 = (8 : Int) by omega) with c5 | c5 | c5 | c5 | c5 | c5 | c5 | c5 | c5 | c5
          · skip
            exfalso; omega
          · skip
            exfalso; omega
          · skip
            exfalso; omega
          · skip
            exfalso; omega
          · skip
            refine yG.tswC (i := 3) (t := 243) rfl ⟨by omega, by omega⟩ (by omega) (by omega) rfl rfl ?_
            refine yG.load xik rfl (fun _ _ => rfl) (v := yI (p4)) rfl rfl ?_
            refine yG.i2l rfl ⟨by omega, by omega⟩ ?_
            refine yG.numl (c := 0) rfl (fun _ _ => rfl) (by decide) ?_
            refine yG.numl (c := 299) rfl (fun _ _ => rfl) (by decide) ?_
            refine yG.invS (rest := []) rfl rfl rfl rfl (c_GModel_in W d A_hp.1 (p4) (0) (299) (by omega) (by omega) (by omega) (by omega) (by omega) (by omega)) (fun rv hp9 q9 => ?_)
            obtain ⟨⟨z6, rfl, l_z6, u_z6, R_z6⟩, e9⟩ := q9
            rw [e9]
            show yG _ _ _ _ _ _ _ _ _ _ (yI z6 :: []) _
            refine yG.ret rfl (fun _ _ => rfl) ?_
            exact (yP.bool (by omega) ⟨⟨z6, rfl, by omega, by omega, trivial⟩, rfl⟩)
          · skip
            exfalso; omega
          · skip
            exfalso; omega
          · skip
            exfalso; omega
          · skip
            exfalso; omega
          · skip
            exfalso; omega
        · have c4 : (3 : Int) = 0 := c4
          exfalso; omega
      · have c3 : (3 : Int) = 4 := c3
        exfalso; omega
    · have c2 : (3 : Int) = 2 := c2
      exfalso; omega
  · have c1 : (3 : Int) = 1 := c1
    exfalso; omega
theorem c_GModel_mayBe_3_4 {hp : xH} (W : mW G) (d : Nat) (hT : zTy G hp) {k0 : Nat} (H_k0 : bRo G 116 k0) (p2 p4 : Int) (h2l : 0 ≤ p2) (h2u : p2 ≤ 23) (h4l : (-2147483648) ≤ p4) (h4u : p4 ≤ 2147483647) : yC (xcall 89 xfts xpools xms (d + 3)) 453 [yR k0, yI (3), yI (p2), yI (4), yI (p4)] hp (bQpi hp 0 1 (fun _ => True)) := by
  have A_hp : bAx G [] hp hp := bAx.rf hT
  refine yC.of (M := (xt_X13_mayBe, (5, (4, (14, []))))) rfl rfl (N := 78) (yfuel (by decide)) ?_
  show yG 89 xfts (xcall 89 xfts xpools xms (d + 2)) (xpool xp_RX13) [] xt_X13_mayBe (yP 4 (bQpi hp 0 1 (fun _ => True))) 78 0 [(0, yR k0), (1, yI (3)), (2, yI (p2)), (3, yI (4)), (4, yI (p4))] [] hp
  refine yG.load xik rfl (fun _ _ => rfl) (v := yI (3)) rfl rfl ?_
  refine yG.num (c := 1) rfl (fun _ _ => rfl) (by decide) ?_
  refine yG.icmp rfl (t := 46) rfl ⟨by omega, by omega⟩ ⟨by omega, by omega⟩ (fun c1 => ?_) (fun c1 => ?_)
  · have c1 : (3 : Int) ≠ 1 := c1
    refine yG.load xik rfl (fun _ _ => rfl) (v := yI (3)) rfl rfl ?_
    refine yG.num (c := 2) rfl (fun _ _ => rfl) (by decide) ?_
    refine yG.icmp rfl (t := 126) rfl ⟨by omega, by omega⟩ ⟨by omega, by omega⟩ (fun c2 => ?_) (fun c2 => ?_)
    · have c2 : (3 : Int) ≠ 2 := c2
      refine yG.load xik rfl (fun _ _ => rfl) (v := yI (3)) rfl rfl ?_
      refine yG.num (c := 4) rfl (fun _ _ => rfl) (by decide) ?_
      refine yG.icmp rfl (t := 154) rfl ⟨by omega, by omega⟩ ⟨by omega, by omega⟩ (fun c3 => ?_) (fun c3 => ?_)
      · have c3 : (3 : Int) ≠ 4 := c3
        refine yG.load xik rfl (fun _ _ => rfl) (v := yI (3)) rfl rfl ?_
        refine yG.ifz rfl (t := 160) rfl ⟨by omega, by omega⟩ (fun c4 => ?_) (fun c4 => ?_)
        · have c4 : (3 : Int) ≠ 0 := c4
          refine yG.load xik rfl (fun _ _ => rfl) (v := yI (4)) rfl rfl ?_
          rcases (show (4 < (0 : Int) ∨ (8 : Int) < 4) ∨ 4 = (0 : Int) ∨ 4 = (1 : Int) ∨ 4 = (2 : Int) ∨ 4 = (3 : Int) ∨ 4 = (4 : Int) ∨ 4 = (5 : Int) ∨ 4 = (6 : Int) ∨ 4 = (7 : Int) ∨ 4 = (8 : Int) by omega) with c5 | c5 | c5 | c5 | c5 | c5 | c5 | c5 | c5 | c5
          · skip
            exfalso; omega
          · skip
            exfalso; omega
          · skip
            exfalso; omega
          · skip
            exfalso; omega
          · skip
            exfalso; omega
          · skip
            refine yG.tswC (i := 4) (t := 254) rfl ⟨by omega, by omega⟩ (by omega) (by omega) rfl rfl ?_
            refine yG.load xik rfl (fun _ _ => rfl) (v := yI (p4)) rfl rfl ?_
            refine yG.i2l rfl ⟨by omega, by omega⟩ ?_
            refine yG.numl (c := 0) rfl (fun _ _ => rfl) (by decide) ?_
            refine yG.load xak rfl (fun _ _ => rfl) (v := yR k0) rfl rfl ?_
            refine yG.num (c := 3) rfl (fun _ _ => rfl) (by decide) ?_
            refine yG.load xik rfl (fun _ _ => rfl) (v := yI (p2)) rfl rfl ?_
            refine yG.num (c := 5) rfl (fun _ _ => rfl) (by decide) ?_
            refine yG.invV (rest := [yJ (0), yJ (p4)]) A_hp.1 (bOb (d_M W) H_k0) rfl rfl rfl rfl (c_GModel_of_3_5 W d A_hp.1 H_k0 (p2) (by omega) (by omega)) (fun rv hp9 q9 => ?_)
            obtain ⟨⟨z6, rfl, l_z6, u_z6, R_z6⟩, e9⟩ := q9
            rw [e9]
            show yG _ _ _ _ _ _ _ _ _ _ (yI z6 :: [yJ (0), yJ (p4)]) _
            refine yG.i2l rfl ⟨by omega, by omega⟩ ?_
            refine yG.invS (rest := []) rfl rfl rfl rfl (c_GModel_in W (d + 1) A_hp.1 (p4) (0) (z6) (by omega) (by omega) (by omega) (by omega) (by omega) (by omega)) (fun rv hp9 q9 => ?_)
            obtain ⟨⟨z7, rfl, l_z7, u_z7, R_z7⟩, e9⟩ := q9
            rw [e9]
            show yG _ _ _ _ _ _ _ _ _ _ (yI z7 :: []) _
            refine yG.ret rfl (fun _ _ => rfl) ?_
            exact (yP.bool (by omega) ⟨⟨z7, rfl, by omega, by omega, trivial⟩, rfl⟩)
          · skip
            exfalso; omega
          · skip
            exfalso; omega
          · skip
            exfalso; omega
          · skip
            exfalso; omega
        · have c4 : (3 : Int) = 0 := c4
          exfalso; omega
      · have c3 : (3 : Int) = 4 := c3
        exfalso; omega
    · have c2 : (3 : Int) = 2 := c2
      exfalso; omega
  · have c1 : (3 : Int) = 1 := c1
    exfalso; omega
theorem c_GModel_mayBe_3_5 {hp : xH} (W : mW G) (d : Nat) (hT : zTy G hp) {k0 : Nat} (H_k0 : bRo G 116 k0) (p2 p4 : Int) (h2l : 0 ≤ p2) (h2u : p2 ≤ 23) (h4l : (-2147483648) ≤ p4) (h4u : p4 ≤ 2147483647) : yC (xcall 89 xfts xpools xms (d + 3)) 453 [yR k0, yI (3), yI (p2), yI (5), yI (p4)] hp (bQpi hp 0 1 (fun _ => True)) := by
  have A_hp : bAx G [] hp hp := bAx.rf hT
  refine yC.of (M := (xt_X13_mayBe, (5, (4, (14, []))))) rfl rfl (N := 78) (yfuel (by decide)) ?_
  show yG 89 xfts (xcall 89 xfts xpools xms (d + 2)) (xpool xp_RX13) [] xt_X13_mayBe (yP 4 (bQpi hp 0 1 (fun _ => True))) 78 0 [(0, yR k0), (1, yI (3)), (2, yI (p2)), (3, yI (5)), (4, yI (p4))] [] hp
  refine yG.load xik rfl (fun _ _ => rfl) (v := yI (3)) rfl rfl ?_
  refine yG.num (c := 1) rfl (fun _ _ => rfl) (by decide) ?_
  refine yG.icmp rfl (t := 46) rfl ⟨by omega, by omega⟩ ⟨by omega, by omega⟩ (fun c1 => ?_) (fun c1 => ?_)
  · have c1 : (3 : Int) ≠ 1 := c1
    refine yG.load xik rfl (fun _ _ => rfl) (v := yI (3)) rfl rfl ?_
    refine yG.num (c := 2) rfl (fun _ _ => rfl) (by decide) ?_
    refine yG.icmp rfl (t := 126) rfl ⟨by omega, by omega⟩ ⟨by omega, by omega⟩ (fun c2 => ?_) (fun c2 => ?_)
    · have c2 : (3 : Int) ≠ 2 := c2
      refine yG.load xik rfl (fun _ _ => rfl) (v := yI (3)) rfl rfl ?_
      refine yG.num (c := 4) rfl (fun _ _ => rfl) (by decide) ?_
      refine yG.icmp rfl (t := 154) rfl ⟨by omega, by omega⟩ ⟨by omega, by omega⟩ (fun c3 => ?_) (fun c3 => ?_)
      · have c3 : (3 : Int) ≠ 4 := c3
        refine yG.load xik rfl (fun _ _ => rfl) (v := yI (3)) rfl rfl ?_
        refine yG.ifz rfl (t := 160) rfl ⟨by omega, by omega⟩ (fun c4 => ?_) (fun c4 => ?_)
        · have c4 : (3 : Int) ≠ 0 := c4
          refine yG.load xik rfl (fun _ _ => rfl) (v := yI (5)) rfl rfl ?_
          rcases (show (5 < (0 : Int) ∨ (8 : Int) < 5) ∨ 5 = (0 : Int) ∨ 5 = (1 : Int) ∨ 5 = (2 : Int) ∨ 5 = (3 : Int) ∨ 5 = (4 : Int) ∨ 5 = (5 : Int) ∨ 5 = (6 : Int) ∨ 5 = (7 : Int) ∨ 5 = (8 : Int) by omega) with c5 | c5 | c5 | c5 | c5 | c5 | c5 | c5 | c5 | c5
          · skip
            exfalso; omega
          · skip
            exfalso; omega
          · skip
            exfalso; omega
          · skip
            exfalso; omega
          · skip
            exfalso; omega
          · skip
            exfalso; omega
          · skip
            refine yG.tswC (i := 5) (t := 270) rfl ⟨by omega, by omega⟩ (by omega) (by omega) rfl rfl ?_
            refine yG.load xik rfl (fun _ _ => rfl) (v := yI (p4)) rfl rfl ?_
            refine yG.i2l rfl ⟨by omega, by omega⟩ ?_
            refine yG.load xak rfl (fun _ _ => rfl) (v := yR k0) rfl rfl ?_
            refine yG.num (c := 3) rfl (fun _ _ => rfl) (by decide) ?_
            refine yG.load xik rfl (fun _ _ => rfl) (v := yI (p2)) rfl rfl ?_
            refine yG.num (c := 4) rfl (fun _ _ => rfl) (by decide) ?_
            refine yG.invV (rest := [yJ (p4)]) A_hp.1 (bOb (d_M W) H_k0) rfl rfl rfl rfl (c_GModel_of_3_4 W d A_hp.1 H_k0 (p2) (by omega) (by omega)) (fun rv hp9 q9 => ?_)
            obtain ⟨⟨z6, rfl, l_z6, u_z6, R_z6⟩, e9⟩ := q9
            rw [e9]
            show yG _ _ _ _ _ _ _ _ _ _ (yI z6 :: [yJ (p4)]) _
            refine yG.i2l rfl ⟨by omega, by omega⟩ ?_
            refine yG.numl (c := 9999) rfl (fun _ _ => rfl) (by decide) ?_
            refine yG.invS (rest := []) rfl rfl rfl rfl (c_GModel_in W (d + 1) A_hp.1 (p4) (z6) (9999) (by omega) (by omega) (by omega) (by omega) (by omega) (by omega)) (fun rv hp9 q9 => ?_)
            obtain ⟨⟨z7, rfl, l_z7, u_z7, R_z7⟩, e9⟩ := q9
            rw [e9]
            show yG _ _ _ _ _ _ _ _ _ _ (yI z7 :: []) _
            refine yG.ret rfl (fun _ _ => rfl) ?_
            exact (yP.bool (by omega) ⟨⟨z7, rfl, by omega, by omega, trivial⟩, rfl⟩)
          · skip
            exfalso; omega
          · skip
            exfalso; omega
          · skip
            exfalso; omega
        · have c4 : (3 : Int) = 0 := c4
          exfalso; omega
      · have c3 : (3 : Int) = 4 := c3
        exfalso; omega
    · have c2 : (3 : Int) = 2 := c2
      exfalso; omega
  · have c1 : (3 : Int) = 1 := c1
    exfalso; omega
theorem c_GModel_mayBe_3_6 {hp : xH} (W : mW G) (d : Nat) (hT : zTy G hp) {k0 : Nat} (H_k0 : bRo G 116 k0) (p2 p4 : Int) (h2l : 0 ≤ p2) (h2u : p2 ≤ 23) (h4l : (-2147483648) ≤ p4) (h4u : p4 ≤ 2147483647) : yC (xcall 89 xfts xpools xms (d + 3)) 453 [yR k0, yI (3), yI (p2), yI (6), yI (p4)] hp (bQpi hp 0 1 (fun _ => True)) := by
  have A_hp : bAx G [] hp hp := bAx.rf hT
  refine yC.of (M := (xt_X13_mayBe, (5, (4, (14, []))))) rfl rfl (N := 78) (yfuel (by decide)) ?_
  show yG 89 xfts (xcall 89 xfts xpools xms (d + 2)) (xpool xp_RX13) [] xt_X13_mayBe (yP 4 (bQpi hp 0 1 (fun _ => True))) 78 0 [(0, yR k0), (1, yI (3)), (2, yI (p2)), (3, yI (6)), (4, yI (p4))] [] hp
  refine yG.load xik rfl (fun _ _ => rfl) (v := yI (3)) rfl rfl ?_
  refine yG.num (c := 1) rfl (fun _ _ => rfl) (by decide) ?_
  refine yG.icmp rfl (t := 46) rfl ⟨by omega, by omega⟩ ⟨by omega, by omega⟩ (fun c1 => ?_) (fun c1 => ?_)
  · have c1 : (3 : Int) ≠ 1 := c1
    refine yG.load xik rfl (fun _ _ => rfl) (v := yI (3)) rfl rfl ?_
    refine yG.num (c := 2) rfl (fun _ _ => rfl) (by decide) ?_
    refine yG.icmp rfl (t := 126) rfl ⟨by omega, by omega⟩ ⟨by omega, by omega⟩ (fun c2 => ?_) (fun c2 => ?_)
    · have c2 : (3 : Int) ≠ 2 := c2
      refine yG.load xik rfl (fun _ _ => rfl) (v := yI (3)) rfl rfl ?_
      refine yG.num (c := 4) rfl (fun _ _ => rfl) (by decide) ?_
      refine yG.icmp rfl (t := 154) rfl ⟨by omega, by omega⟩ ⟨by omega, by omega⟩ (fun c3 => ?_) (fun c3 => ?_)
      · have c3 : (3 : Int) ≠ 4 := c3
        refine yG.load xik rfl (fun _ _ => rfl) (v := yI (3)) rfl rfl ?_
        refine yG.ifz rfl (t := 160) rfl ⟨by omega, by omega⟩ (fun c4 => ?_) (fun c4 => ?_)
        · have c4 : (3 : Int) ≠ 0 := c4
          refine yG.load xik rfl (fun _ _ => rfl) (v := yI (6)) rfl rfl ?_
          rcases (show (6 < (0 : Int) ∨ (8 : Int) < 6) ∨ 6 = (0 : Int) ∨ 6 = (1 : Int) ∨ 6 = (2 : Int) ∨ 6 = (3 : Int) ∨ 6 = (4 : Int) ∨ 6 = (5 : Int) ∨ 6 = (6 : Int) ∨ 6 = (7 : Int) ∨ 6 = (8 : Int) by omega) with c5 | c5 | c5 | c5 | c5 | c5 | c5 | c5 | c5 | c5
          · skip
            exfalso; omega
          · skip
            exfalso; omega
          · skip
            exfalso; omega
          · skip
            exfalso; omega
          · skip
            exfalso; omega
          · skip
            exfalso; omega
          · skip
            exfalso; omega
          · skip
            refine yG.tswC (i := 6) (t := 288) rfl ⟨by omega, by omega⟩ (by omega) (by omega) rfl rfl ?_
            refine yG.load xik rfl (fun _ _ => rfl) (v := yI (p4)) rfl rfl ?_
            refine yG.i2l rfl ⟨by omega, by omega⟩ ?_
            refine yG.numl (c := 0) rfl (fun _ _ => rfl) (by decide) ?_
            refine yG.load xak rfl (fun _ _ => rfl) (v := yR k0) rfl rfl ?_
            refine yG.num (c := 3) rfl (fun _ _ => rfl) (by decide) ?_
            refine yG.load xik rfl (fun _ _ => rfl) (v := yI (p2)) rfl rfl ?_
            refine yG.num (c := 8) rfl (fun _ _ => rfl) (by decide) ?_
            refine yG.invV (rest := [yJ (0), yJ (p4)]) A_hp.1 (bOb (d_M W) H_k0) rfl rfl rfl rfl (c_GModel_of_3_8 W d A_hp.1 H_k0 (p2) (by omega) (by omega)) (fun rv hp9 q9 => ?_)
            obtain ⟨⟨z6, rfl, l_z6, u_z6, R_z6⟩, e9⟩ := q9
            rw [e9]
            show yG _ _ _ _ _ _ _ _ _ _ (yI z6 :: [yJ (0), yJ (p4)]) _
            refine yG.i2l rfl ⟨by omega, by omega⟩ ?_
            refine yG.invS (rest := []) rfl rfl rfl rfl (c_GModel_in W (d + 1) A_hp.1 (p4) (0) (z6) (by omega) (by omega) (by omega) (by omega) (by omega) (by omega)) (fun rv hp9 q9 => ?_)
            obtain ⟨⟨z7, rfl, l_z7, u_z7, R_z7⟩, e9⟩ := q9
            rw [e9]
            show yG _ _ _ _ _ _ _ _ _ _ (yI z7 :: []) _
            refine yG.ret rfl (fun _ _ => rfl) ?_
            exact (yP.bool (by omega) ⟨⟨z7, rfl, by omega, by omega, trivial⟩, rfl⟩)
          · skip
            exfalso; omega
          · skip
            exfalso; omega
        · have c4 : (3 : Int) = 0 := c4
          exfalso; omega
      · have c3 : (3 : Int) = 4 := c3
        exfalso; omega
    · have c2 : (3 : Int) = 2 := c2
      exfalso; omega
  · have c1 : (3 : Int) = 1 := c1
    exfalso; omega
theorem c_GModel_mayBe_3_7 {hp : xH} (W : mW G) (d : Nat) (hT : zTy G hp) {k0 : Nat} (H_k0 : bRo G 116 k0) (p2 p4 : Int) (h2l : 0 ≤ p2) (h2u : p2 ≤ 23) (h4l : (-2147483648) ≤ p4) (h4u : p4 ≤ 2147483647) : yC (xcall 89 xfts xpools xms (d + 2)) 453 [yR k0, yI (3), yI (p2), yI (7), yI (p4)] hp (bQpi hp 0 1 (fun _ => True)) := by
  have A_hp : bAx G [] hp hp := bAx.rf hT
  refine yC.of (M := (xt_X13_mayBe, (5, (4, (14, []))))) rfl rfl (N := 63) (yfuel (by decide)) ?_
  show yG 89 xfts (xcall 89 xfts xpools xms (d + 1)) (xpool xp_RX13) [] xt_X13_mayBe (yP 4 (bQpi hp 0 1 (fun _ => True))) 63 0 [(0, yR k0), (1, yI (3)), (2, yI (p2)), (3, yI (7)), (4, yI (p4))] [] hp
  refine yG.load xik rfl (fun _ _ => rfl) (v := yI (3)) rfl rfl ?_
  refine yG.num (c := 1) rfl (fun _ _ => rfl) (by decide) ?_
  refine yG.icmp rfl (t := 46) rfl ⟨by omega, by omega⟩ ⟨by omega, by omega⟩ (fun c1 => ?_) (fun c1 => ?_)
  · have c1 : (3 : Int) ≠ 1 := c1
    refine yG.load xik rfl (fun _ _ => rfl) (v := yI (3)) rfl rfl ?_
    refine yG.num (c := 2) rfl (fun _ _ => rfl) (by decide) ?_
    refine yG.icmp rfl (t := 126) rfl ⟨by omega, by omega⟩ ⟨by omega, by omega⟩ (fun c2 => ?_) (fun c2 => ?_)
    · have c2 : (3 : Int) ≠ 2 := c2
      refine yG.load xik rfl (fun _ _ => rfl) (v := yI (3)) rfl rfl ?_
      refine yG.num (c := 4) rfl (fun _ _ => rfl) (by decide) ?_
      refine yG.icmp rfl (t := 154) rfl ⟨by omega, by omega⟩ ⟨by omega, by omega⟩ (fun c3 => ?_) (fun c3 => ?_)
      · have c3 : (3 : Int) ≠ 4 := c3
        refine yG.load xik rfl (fun _ _ => rfl) (v := yI (3)) rfl rfl ?_
        refine yG.ifz rfl (t := 160) rfl ⟨by omega, by omega⟩ (fun c4 => ?_) (fun c4 => ?_)
        · have c4 : (3 : Int) ≠ 0 := c4
          refine yG.load xik rfl (fun _ _ => rfl) (v := yI (7)) rfl rfl ?_
          rcases (show (7 < (0 : Int) ∨ (8 : Int) < 7) ∨ 7 = (0 : Int) ∨ 7 = (1 : Int) ∨ 7 = (2 : Int) ∨ 7 = (3 : Int) ∨ 7 = (4 : Int) ∨ 7 = (5 : Int) ∨ 7 = (6 : Int) ∨ 7 = (7 : Int) ∨ 7 = (8 : Int) by omega) with c5 | c5 | c5 | c5 | c5 | c5 | c5 | c5 | c5 | c5
          · skip
            exfalso; omega
          · skip
            exfalso; omega
          · skip
            exfalso; omega
          · skip
            exfalso; omega
          · skip
            exfalso; omega
          · skip
            exfalso; omega
          · skip
            exfalso; omega
          · skip
            exfalso; omega
          · skip
            refine yG.tswC (i := 7) (t := 221) rfl ⟨by omega, by omega⟩ (by omega) (by omega) rfl rfl ?_
            refine yG.load xik rfl (fun _ _ => rfl) (v := yI (p4)) rfl rfl ?_
            refine yG.i2l rfl ⟨by omega, by omega⟩ ?_
            refine yG.numl (c := 0) rfl (fun _ _ => rfl) (by decide) ?_
            refine yG.numl (c := 9999) rfl (fun _ _ => rfl) (by decide) ?_
            refine yG.invS (rest := []) rfl rfl rfl rfl (c_GModel_in W d A_hp.1 (p4) (0) (9999) (by omega) (by omega) (by omega) (by omega) (by omega) (by omega)) (fun rv hp9 q9 => ?_)
            obtain ⟨⟨z6, rfl, l_z6, u_z6, R_z6⟩, e9⟩ := q9
            rw [e9]
            show yG _ _ _ _ _ _ _ _ _ _ (yI z6 :: []) _
            refine yG.ret rfl (fun _ _ => rfl) ?_
            exact (yP.bool (by omega) ⟨⟨z6, rfl, by omega, by omega, trivial⟩, rfl⟩)
          · skip
            exfalso; omega
        · have c4 : (3 : Int) = 0 := c4
          exfalso; omega
      · have c3 : (3 : Int) = 4 := c3
        exfalso; omega
    · have c2 : (3 : Int) = 2 := c2
      exfalso; omega
  · have c1 : (3 : Int) = 1 := c1
    exfalso; omega
theorem c_GModel_mayBe_3_8 {hp : xH} (W : mW G) (d : Nat) (hT : zTy G hp) {k0 : Nat} (H_k0 : bRo G 116 k0) (p2 p4 : Int) (h2l : 0 ≤ p2) (h2u : p2 ≤ 23) (h4l : (-2147483648) ≤ p4) (h4u : p4 ≤ 2147483647) : yC (xcall 89 xfts xpools xms (d + 3)) 453 [yR k0, yI (3), yI (p2), yI (8), yI (p4)] hp (bQpi hp 0 1 (fun _ => True)) := by
  have A_hp : bAx G [] hp hp := bAx.rf hT
  refine yC.of (M := (xt_X13_mayBe, (5, (4, (14, []))))) rfl rfl (N := 78) (yfuel (by decide)) ?_
  show yG 89 xfts (xcall 89 xfts xpools xms (d + 2)) (xpool xp_RX13) [] xt_X13_mayBe (yP 4 (bQpi hp 0 1 (fun _ => True))) 78 0 [(0, yR k0), (1, yI (3)), (2, yI (p2)), (3, yI (8)), (4, yI (p4))] [] hp
  refine yG.load xik rfl (fun _ _ => rfl) (v := yI (3)) rfl rfl ?_
  refine yG.num (c := 1) rfl (fun _ _ => rfl) (by decide) ?_
  refine yG.icmp rfl (t := 46) rfl ⟨by omega, by omega⟩ ⟨by omega, by omega⟩ (fun c1 => ?_) (fun c1 => ?_)
  · have c1 : (3 : Int) ≠ 1 := c1
    refine yG.load xik rfl (fun _ _ => rfl) (v := yI (3)) rfl rfl ?_
    refine yG.num (c := 2) rfl (fun _ _ => rfl) (by decide) ?_
    refine yG.icmp rfl (t := 126) rfl ⟨by omega, by omega⟩ ⟨by omega, by omega⟩ (fun c2 => ?_) (fun c2 => ?_)
    · have c2 : (3 : Int) ≠ 2 := c2
      refine yG.load xik rfl (fun _ _ => rfl) (v := yI (3)) rfl rfl ?_
      refine yG.num (c := 4) rfl (fun _ _ => rfl) (by decide) ?_
      refine yG.icmp rfl (t := 154) rfl ⟨by omega, by omega⟩ ⟨by omega, by omega⟩ (fun c3 => ?_) (fun c3 => ?_)
      · have c3 : (3 : Int) ≠ 4 := c3
        refine yG.load xik rfl (fun _ _ => rfl) (v := yI (3)) rfl rfl ?_
        refine yG.ifz rfl (t := 160) rfl ⟨by omega, by omega⟩ (fun c4 => ?_) (fun c4 => ?_)
        · have c4 : (3 : Int) ≠ 0 := c4
          refine yG.load xik rfl (fun _ _ => rfl) (v := yI (8)) rfl rfl ?_
          rcases (show (8 < (0 : Int) ∨ (8 : Int) < 8) ∨ 8 = (0 : Int) ∨ 8 = (1 : Int) ∨ 8 = (2 : Int) ∨ 8 = (3 : Int) ∨ 8 = (4 : Int) ∨ 8 = (5 : Int) ∨ 8 = (6 : Int) ∨ 8 = (7 : Int) ∨ 8 = (8 : Int) by omega) with c5 | c5 | c5 | c5 | c5 | c5 | c5 | c5 | c5 | c5
          · skip
            exfalso; omega
          · skip
            exfalso; omega
          · skip
            exfalso; omega
          · skip
            exfalso; omega
          · skip
            exfalso; omega
          · skip
            exfalso; omega
          · skip
            exfalso; omega
          · skip
            exfalso; omega
          · skip
            exfalso; omega
          · skip
            refine yG.tswC (i := 8) (t := 305) rfl ⟨by omega, by omega⟩ (by omega) (by omega) rfl rfl ?_
            refine yG.load xik rfl (fun _ _ => rfl) (v := yI (p4)) rfl rfl ?_
            refine yG.i2l rfl ⟨by omega, by omega⟩ ?_
            refine yG.load xak rfl (fun _ _ => rfl) (v := yR k0) rfl rfl ?_
            refine yG.num (c := 3) rfl (fun _ _ => rfl) (by decide) ?_
            refine yG.load xik rfl (fun _ _ => rfl) (v := yI (p2)) rfl rfl ?_
            refine yG.num (c := 6) rfl (fun _ _ => rfl) (by decide) ?_
            refine yG.invV (rest := [yJ (p4)]) A_hp.1 (bOb (d_M W) H_k0) rfl rfl rfl rfl (c_GModel_of_3_6 W d A_hp.1 H_k0 (p2) (by omega) (by omega)) (fun rv hp9 q9 => ?_)
            obtain ⟨⟨z6, rfl, l_z6, u_z6, R_z6⟩, e9⟩ := q9
            rw [e9]
            show yG _ _ _ _ _ _ _ _ _ _ (yI z6 :: [yJ (p4)]) _
            refine yG.i2l rfl ⟨by omega, by omega⟩ ?_
            refine yG.numl (c := 999) rfl (fun _ _ => rfl) (by decide) ?_
            refine yG.invS (rest := []) rfl rfl rfl rfl (c_GModel_in W (d + 1) A_hp.1 (p4) (z6) (999) (by omega) (by omega) (by omega) (by omega) (by omega) (by omega)) (fun rv hp9 q9 => ?_)
            obtain ⟨⟨z7, rfl, l_z7, u_z7, R_z7⟩, e9⟩ := q9
            rw [e9]
            show yG _ _ _ _ _ _ _ _ _ _ (yI z7 :: []) _
            refine yG.ret rfl (fun _ _ => rfl) ?_
            exact (yP.bool (by omega) ⟨⟨z7, rfl, by omega, by omega, trivial⟩, rfl⟩)
        · have c4 : (3 : Int) = 0 := c4
          exfalso; omega
      · have c3 : (3 : Int) = 4 := c3
        exfalso; omega
    · have c2 : (3 : Int) = 2 := c2
      exfalso; omega
  · have c1 : (3 : Int) = 1 := c1
    exfalso; omega
theorem c_GModel_mayBe_3_9 {hp : xH} (W : mW G) (d : Nat) (hT : zTy G hp) {k0 : Nat} (H_k0 : bRo G 116 k0) (p2 p4 : Int) (h2l : 0 ≤ p2) (h2u : p2 ≤ 23) (h4l : (-2147483648) ≤ p4) (h4u : p4 ≤ 2147483647) : yC (xcall 89 xfts xpools xms (d + 2)) 453 [yR k0, yI (3), yI (p2), yI (9), yI (p4)] hp (bQpi hp 0 1 (fun z => (z = 1 → 0 ≤ p4 ∧ 0 ≤ 0 - p4 + 9))) := by
  have A_hp : bAx G [] hp hp := bAx.rf hT
  refine yC.of (M := (xt_X13_mayBe, (5, (4, (14, []))))) rfl rfl (N := 81) (yfuel (by decide)) ?_
  show yG 89 xfts (xcall 89 xfts xpools xms (d + 1)) (xpool xp_RX13) [] xt_X13_mayBe (yP 4 (bQpi hp 0 1 (fun z => (z = 1 → 0 ≤ p4 ∧ 0 ≤ 0 - p4 + 9)))) 81 0 [(0, yR k0), (1, yI (3)), (2, yI (p2)), (3, yI (9)), (4, yI (p4))] [] hp
  refine yG.load xik rfl (fun _ _ => rfl) (v := yI (3)) rfl rfl ?_
  refine yG.num (c := 1) rfl (fun _ _ => rfl) (by decide) ?_
  refine yG.icmp rfl (t := 46) rfl ⟨by omega, by omega⟩ ⟨by omega, by omega⟩ (fun c1 => ?_) (fun c1 => ?_)
  · have c1 : (3 : Int) ≠ 1 := c1
    refine yG.load xik rfl (fun _ _ => rfl) (v := yI (3)) rfl rfl ?_
    refine yG.num (c := 2) rfl (fun _ _ => rfl) (by decide) ?_
    refine yG.icmp rfl (t := 126) rfl ⟨by omega, by omega⟩ ⟨by omega, by omega⟩ (fun c2 => ?_) (fun c2 => ?_)
    · have c2 : (3 : Int) ≠ 2 := c2
      refine yG.load xik rfl (fun _ _ => rfl) (v := yI (3)) rfl rfl ?_
      refine yG.num (c := 4) rfl (fun _ _ => rfl) (by decide) ?_
      refine yG.icmp rfl (t := 154) rfl ⟨by omega, by omega⟩ ⟨by omega, by omega⟩ (fun c3 => ?_) (fun c3 => ?_)
      · have c3 : (3 : Int) ≠ 4 := c3
        refine yG.load xik rfl (fun _ _ => rfl) (v := yI (3)) rfl rfl ?_
        refine yG.ifz rfl (t := 160) rfl ⟨by omega, by omega⟩ (fun c4 => ?_) (fun c4 => ?_)
        · have c4 : (3 : Int) ≠ 0 := c4
          refine yG.load xik rfl (fun _ _ => rfl) (v := yI (9)) rfl rfl ?_
          rcases (show (9 < (0 : Int) ∨ (8 : Int) < 9) ∨ 9 = (0 : Int) ∨ 9 = (1 : Int) ∨ 9 = (2 : Int) ∨ 9 = (3 : Int) ∨ 9 = (4 : Int) ∨ 9 = (5 : Int) ∨ 9 = (6 : Int) ∨ 9 = (7 : Int) ∨ 9 = (8 : Int) by omega) with c5 | c5 | c5 | c5 | c5 | c5 | c5 | c5 | c5 | c5
          · skip
            refine yG.tswD (t := 324) rfl ⟨by omega, by omega⟩ c5 rfl ?_
            refine yG.load xik rfl (fun _ _ => rfl) (v := yI (9)) rfl rfl ?_
            refine yG.num (c := 9) rfl (fun _ _ => rfl) (by decide) ?_
            refine yG.icmp rfl (t := 347) rfl ⟨by omega, by omega⟩ ⟨by omega, by omega⟩ (fun c6 => ?_) (fun c6 => ?_)
            · have c6 : (9 : Int) ≠ 9 := c6
              exfalso; omega
            · have c6 : (9 : Int) = 9 := c6
              refine yG.load xik rfl (fun _ _ => rfl) (v := yI (p4)) rfl rfl ?_
              refine yG.i2l rfl ⟨by omega, by omega⟩ ?_
              refine yG.numl (c := 0) rfl (fun _ _ => rfl) (by decide) ?_
              refine yG.numl (c := 9) rfl (fun _ _ => rfl) (by decide) ?_
              refine yG.invS (rest := []) rfl rfl rfl rfl (c_GModel_in W d A_hp.1 (p4) (0) (9) (by omega) (by omega) (by omega) (by omega) (by omega) (by omega)) (fun rv hp9 q9 => ?_)
              obtain ⟨⟨z7, rfl, l_z7, u_z7, R_z7⟩, e9⟩ := q9
              rw [e9]
              show yG _ _ _ _ _ _ _ _ _ _ (yI z7 :: []) _
              refine yG.ifz rfl (t := 347) rfl ⟨by omega, by omega⟩ (fun c8 => ?_) (fun c8 => ?_)
              · have c8 : (z7 : Int) = 0 := c8
                refine yG.num (c := 0) rfl (fun _ _ => rfl) (by decide) ?_
                refine yG.ret rfl (fun _ _ => rfl) ?_
                exact (yP.bool (by omega) ⟨⟨0, rfl, by omega, by omega, by omega⟩, rfl⟩)
              · have c8 : (z7 : Int) ≠ 0 := c8
                refine yG.num (c := 1) rfl (fun _ _ => rfl) (by decide) ?_
                refine yG.goto rfl (t := 348) rfl ?_
                refine yG.ret rfl (fun _ _ => rfl) ?_
                exact (yP.bool (by omega) ⟨⟨1, rfl, by omega, by omega, by omega⟩, rfl⟩)
          · skip
            exfalso; omega
          · skip
            exfalso; omega
          · skip
            exfalso; omega
          · skip
            exfalso; omega
          · skip
            exfalso; omega
          · skip
            exfalso; omega
          · skip
            exfalso; omega
          · skip
            exfalso; omega
          · skip
            exfalso; omega
        · have c4 : (3 : Int) = 0 := c4
          exfalso; omega
      · have c3 : (3 : Int) = 4 := c3
        exfalso; omega
    · have c2 : (3 : Int) = 2 := c2
      exfalso; omega
  · have c1 : (3 : Int) = 1 := c1
    exfalso; omega
theorem c_GModel_mayBe_3_10 {hp : xH} (W : mW G) (d : Nat) (hT : zTy G hp) {k0 : Nat} (H_k0 : bRo G 116 k0) (p2 p4 : Int) (h2l : 0 ≤ p2) (h2u : p2 ≤ 23) (h4l : (-2147483648) ≤ p4) (h4u : p4 ≤ 2147483647) : yC (xcall 89 xfts xpools xms (d + 1)) 453 [yR k0, yI (3), yI (p2), yI (10), yI (p4)] hp (bQpi hp 0 0 (fun _ => True)) := by
  have A_hp : bAx G [] hp hp := bAx.rf hT
  refine yC.of (M := (xt_X13_mayBe, (5, (4, (14, []))))) rfl rfl (N := 60) (yfuel (by decide)) ?_
  show yG 89 xfts (xcall 89 xfts xpools xms d) (xpool xp_RX13) [] xt_X13_mayBe (yP 4 (bQpi hp 0 0 (fun _ => True))) 60 0 [(0, yR k0), (1, yI (3)), (2, yI (p2)), (3, yI (10)), (4, yI (p4))] [] hp
  refine yG.load xik rfl (fun _ _ => rfl) (v := yI (3)) rfl rfl ?_
  refine yG.num (c := 1) rfl (fun _ _ => rfl) (by decide) ?_
  refine yG.icmp rfl (t := 46) rfl ⟨by omega, by omega⟩ ⟨by omega, by omega⟩ (fun c1 => ?_) (fun c1 => ?_)
  · have c1 : (3 : Int) ≠ 1 := c1
    refine yG.load xik rfl (fun _ _ => rfl) (v := yI (3)) rfl rfl ?_
    refine yG.num (c := 2) rfl (fun _ _ => rfl) (by decide) ?_
    refine yG.icmp rfl (t := 126) rfl ⟨by omega, by omega⟩ ⟨by omega, by omega⟩ (fun c2 => ?_) (fun c2 => ?_)
    · have c2 : (3 : Int) ≠ 2 := c2
      refine yG.load xik rfl (fun _ _ => rfl) (v := yI (3)) rfl rfl ?_
      refine yG.num (c := 4) rfl (fun _ _ => rfl) (by decide) ?_
      refine yG.icmp rfl (t := 154) rfl ⟨by omega, by omega⟩ ⟨by omega, by omega⟩ (fun c3 => ?_) (fun c3 => ?_)
      · have c3 : (3 : Int) ≠ 4 := c3
        refine yG.load xik rfl (fun _ _ => rfl) (v := yI (3)) rfl rfl ?_
        refine yG.ifz rfl (t := 160) rfl ⟨by omega, by omega⟩ (fun c4 => ?_) (fun c4 => ?_)
        · have c4 : (3 : Int) ≠ 0 := c4
          refine yG.load xik rfl (fun _ _ => rfl) (v := yI (10)) rfl rfl ?_
          rcases (show (10 < (0 : Int) ∨ (8 : Int) < 10) ∨ 10 = (0 : Int) ∨ 10 = (1 : Int) ∨ 10 = (2 : Int) ∨ 10 = (3 : Int) ∨ 10 = (4 : Int) ∨ 10 = (5 : Int) ∨ 10 = (6 : Int) ∨ 10 = (7 : Int) ∨ 10 = (8 : Int) by omega) with c5 | c5 | c5 | c5 | c5 | c5 | c5 | c5 | c5 | c5
          · skip
            refine yG.tswD (t := 324) rfl ⟨by omega, by omega⟩ c5 rfl ?_
            refine yG.load xik rfl (fun _ _ => rfl) (v := yI (10)) rfl rfl ?_
            refine yG.num (c := 9) rfl (fun _ _ => rfl) (by decide) ?_
            refine yG.icmp rfl (t := 347) rfl ⟨by omega, by omega⟩ ⟨by omega, by omega⟩ (fun c6 => ?_) (fun c6 => ?_)
            · have c6 : (10 : Int) ≠ 9 := c6
              refine yG.num (c := 0) rfl (fun _ _ => rfl) (by decide) ?_
              refine yG.ret rfl (fun _ _ => rfl) ?_
              exact (yP.bool (by omega) ⟨⟨0, rfl, by omega, by omega, trivial⟩, rfl⟩)
            · have c6 : (10 : Int) = 9 := c6
              exfalso; omega
          · skip
            exfalso; omega
          · skip
            exfalso; omega
          · skip
            exfalso; omega
          · skip
            exfalso; omega
          · skip
            exfalso; omega
          · skip
            exfalso; omega
          · skip
            exfalso; omega
          · skip
            exfalso; omega
          · skip
            exfalso; omega
        · have c4 : (3 : Int) = 0 := c4
          exfalso; omega
      · have c3 : (3 : Int) = 4 := c3
        exfalso; omega
    · have c2 : (3 : Int) = 2 := c2
      exfalso; omega
  · have c1 : (3 : Int) = 1 := c1
    exfalso; omega
theorem c_GModel_mayBe_3_l {hp : xH} (W : mW G) (d : Nat) (hT : zTy G hp) {k0 : Nat} (H_k0 : bRo G 116 k0) (p2 p3 p4 : Int) (h2l : 0 ≤ p2) (h2u : p2 ≤ 23) (h3l : (-2147483648) ≤ p3) (h3u : p3 ≤ (-1)) (h4l : (-2147483648) ≤ p4) (h4u : p4 ≤ 2147483647) : yC (xcall 89 xfts xpools xms (d + 1)) 453 [yR k0, yI (3), yI (p2), yI (p3), yI (p4)] hp (bQpi hp 0 0 (fun _ => True)) := by
  have A_hp : bAx G [] hp hp := bAx.rf hT
  refine yC.of (M := (xt_X13_mayBe, (5, (4, (14, []))))) rfl rfl (N := 60) (yfuel (by decide)) ?_
  show yG 89 xfts (xcall 89 xfts xpools xms d) (xpool xp_RX13) [] xt_X13_mayBe (yP 4 (bQpi hp 0 0 (fun _ => True))) 60 0 [(0, yR k0), (1, yI (3)), (2, yI (p2)), (3, yI (p3)), (4, yI (p4))] [] hp
  refine yG.load xik rfl (fun _ _ => rfl) (v := yI (3)) rfl rfl ?_
  refine yG.num (c := 1) rfl (fun _ _ => rfl) (by decide) ?_
  refine yG.icmp rfl (t := 46) rfl ⟨by omega, by omega⟩ ⟨by omega, by omega⟩ (fun c1 => ?_) (fun c1 => ?_)
  · have c1 : (3 : Int) ≠ 1 := c1
    refine yG.load xik rfl (fun _ _ => rfl) (v := yI (3)) rfl rfl ?_
    refine yG.num (c := 2) rfl (fun _ _ => rfl) (by decide) ?_
    refine yG.icmp rfl (t := 126) rfl ⟨by omega, by omega⟩ ⟨by omega, by omega⟩ (fun c2 => ?_) (fun c2 => ?_)
    · have c2 : (3 : Int) ≠ 2 := c2
      refine yG.load xik rfl (fun _ _ => rfl) (v := yI (3)) rfl rfl ?_
      refine yG.num (c := 4) rfl (fun _ _ => rfl) (by decide) ?_
      refine yG.icmp rfl (t := 154) rfl ⟨by omega, by omega⟩ ⟨by omega, by omega⟩ (fun c3 => ?_) (fun c3 => ?_)
      · have c3 : (3 : Int) ≠ 4 := c3
        refine yG.load xik rfl (fun _ _ => rfl) (v := yI (3)) rfl rfl ?_
        refine yG.ifz rfl (t := 160) rfl ⟨by omega, by omega⟩ (fun c4 => ?_) (fun c4 => ?_)
        · have c4 : (3 : Int) ≠ 0 := c4
          refine yG.load xik rfl (fun _ _ => rfl) (v := yI (p3)) rfl rfl ?_
          rcases (show (p3 < (0 : Int) ∨ (8 : Int) < p3) ∨ p3 = (0 : Int) ∨ p3 = (1 : Int) ∨ p3 = (2 : Int) ∨ p3 = (3 : Int) ∨ p3 = (4 : Int) ∨ p3 = (5 : Int) ∨ p3 = (6 : Int) ∨ p3 = (7 : Int) ∨ p3 = (8 : Int) by omega) with c5 | c5 | c5 | c5 | c5 | c5 | c5 | c5 | c5 | c5
          · skip
            refine yG.tswD (t := 324) rfl ⟨by omega, by omega⟩ c5 rfl ?_
            refine yG.load xik rfl (fun _ _ => rfl) (v := yI (p3)) rfl rfl ?_
            refine yG.num (c := 9) rfl (fun _ _ => rfl) (by decide) ?_
            refine yG.icmp rfl (t := 347) rfl ⟨by omega, by omega⟩ ⟨by omega, by omega⟩ (fun c6 => ?_) (fun c6 => ?_)
            · have c6 : (p3 : Int) ≠ 9 := c6
              refine yG.num (c := 0) rfl (fun _ _ => rfl) (by decide) ?_
              refine yG.ret rfl (fun _ _ => rfl) ?_
              exact (yP.bool (by omega) ⟨⟨0, rfl, by omega, by omega, trivial⟩, rfl⟩)
            · have c6 : (p3 : Int) = 9 := c6
              exfalso; omega
          · skip
            exfalso; omega
          · skip
            exfalso; omega
          · skip
            exfalso; omega
          · skip
            exfalso; omega
          · skip
            exfalso; omega
          · skip
            exfalso; omega
          · skip
            exfalso; omega
          · skip
            exfalso; omega
          · skip
            exfalso; omega
        · have c4 : (3 : Int) = 0 := c4
          exfalso; omega
      · have c3 : (3 : Int) = 4 := c3
        exfalso; omega
    · have c2 : (3 : Int) = 2 := c2
      exfalso; omega
  · have c1 : (3 : Int) = 1 := c1
    exfalso; omega
theorem c_GModel_mayBe_3_h {hp : xH} (W : mW G) (d : Nat) (hT : zTy G hp) {k0 : Nat} (H_k0 : bRo G 116 k0) (p2 p3 p4 : Int) (h2l : 0 ≤ p2) (h2u : p2 ≤ 23) (h3l : 11 ≤ p3) (h3u : p3 ≤ 2147483647) (h4l : (-2147483648) ≤ p4) (h4u : p4 ≤ 2147483647) : yC (xcall 89 xfts xpools xms (d + 1)) 453 [yR k0, yI (3), yI (p2), yI (p3), yI (p4)] hp (bQpi hp 0 0 (fun _ => True)) := by
  have A_hp : bAx G [] hp hp := bAx.rf hT
  refine yC.of (M := (xt_X13_mayBe, (5, (4, (14, []))))) rfl rfl (N := 60) (yfuel (by decide)) ?_
  show yG 89 xfts (xcall 89 xfts xpools xms d) (xpool xp_RX13) [] xt_X13_mayBe (yP 4 (bQpi hp 0 0 (fun _ => True))) 60 0 [(0, yR k0), (1, yI (3)), (2, yI (p2)), (3, yI (p3)), (4, yI (p4))] [] hp
  refine yG.load xik rfl (fun _ _ => rfl) (v := yI (3)) rfl rfl ?_
  refine yG.num (c := 1) rfl (fun _ _ => rfl) (by decide) ?_
  refine yG.icmp rfl (t := 46) rfl ⟨by omega, by omega⟩ ⟨by omega, by omega⟩ (fun c1 => ?_) (fun c1 => ?_)
  · have c1 : (3 : Int) ≠ 1 := c1
    refine yG.load xik rfl (fun _ _ => rfl) (v := yI (3)) rfl rfl ?_
    refine yG.num (c := 2) rfl (fun _ _ => rfl) (by decide) ?_
    refine yG.icmp rfl (t := 126) rfl ⟨by omega, by omega⟩ ⟨by omega, by omega⟩ (fun c2 => ?_) (fun c2 => ?_)
    · have c2 : (3 : Int) ≠ 2 := c2
      refine yG.load xik rfl (fun _ _ => rfl) (v := yI (3)) rfl rfl ?_
      refine yG.num (c := 4) rfl (fun _ _ => rfl) (by decide) ?_
      refine yG.icmp rfl (t := 154) rfl ⟨by omega, by omega⟩ ⟨by omega, by omega⟩ (fun c3 => ?_) (fun c3 => ?_)
      · have c3 : (3 : Int) ≠ 4 := c3
        refine yG.load xik rfl (fun _ _ => rfl) (v := yI (3)) rfl rfl ?_
        refine yG.ifz rfl (t := 160) rfl ⟨by omega, by omega⟩ (fun c4 => ?_) (fun c4 => ?_)
        · have c4 : (3 : Int) ≠ 0 := c4
          refine yG.load xik rfl (fun _ _ => rfl) (v := yI (p3)) rfl rfl ?_
          rcases (show (p3 < (0 : Int) ∨ (8 : Int) < p3) ∨ p3 = (0 : Int) ∨ p3 = (1 : Int) ∨ p3 = (2 : Int) ∨ p3 = (3 : Int) ∨ p3 = (4 : Int) ∨ p3 = (5 : Int) ∨ p3 = (6 : Int) ∨ p3 = (7 : Int) ∨ p3 = (8 : Int) by omega) with c5 | c5 | c5 | c5 | c5 | c5 | c5 | c5 | c5 | c5
          · skip
            refine yG.tswD (t := 324) rfl ⟨by omega, by omega⟩ c5 rfl ?_
            refine yG.load xik rfl (fun _ _ => rfl) (v := yI (p3)) rfl rfl ?_
            refine yG.num (c := 9) rfl (fun _ _ => rfl) (by decide) ?_
            refine yG.icmp rfl (t := 347) rfl ⟨by omega, by omega⟩ ⟨by omega, by omega⟩ (fun c6 => ?_) (fun c6 => ?_)
            · have c6 : (p3 : Int) ≠ 9 := c6
              refine yG.num (c := 0) rfl (fun _ _ => rfl) (by decide) ?_
              refine yG.ret rfl (fun _ _ => rfl) ?_
              exact (yP.bool (by omega) ⟨⟨0, rfl, by omega, by omega, trivial⟩, rfl⟩)
            · have c6 : (p3 : Int) = 9 := c6
              exfalso; omega
          · skip
            exfalso; omega
          · skip
            exfalso; omega
          · skip
            exfalso; omega
          · skip
            exfalso; omega
          · skip
            exfalso; omega
          · skip
            exfalso; omega
          · skip
            exfalso; omega
          · skip
            exfalso; omega
          · skip
            exfalso; omega
        · have c4 : (3 : Int) = 0 := c4
          exfalso; omega
      · have c3 : (3 : Int) = 4 := c3
        exfalso; omega
    · have c2 : (3 : Int) = 2 := c2
      exfalso; omega
  · have c1 : (3 : Int) = 1 := c1
    exfalso; omega
theorem c_GModel_mayBe_4_0 {hp : xH} (W : mW G) (d : Nat) (hT : zTy G hp) {k0 : Nat} (H_k0 : bRo G 116 k0) (p2 p4 : Int) (h2l : 0 ≤ p2) (h2u : p2 ≤ 23) (h4l : (-2147483648) ≤ p4) (h4u : p4 ≤ 2147483647) : yC (xcall 89 xfts xpools xms (d + 2)) 453 [yR k0, yI (4), yI (p2), yI (0), yI (p4)] hp (bQpi hp 0 1 (fun z => (z = 1 → 0 ≤ p4 ∧ 0 ≤ 0 - p4 + 9999))) := by
  have A_hp : bAx G [] hp hp := bAx.rf hT
  refine yC.of (M := (xt_X13_mayBe, (5, (4, (14, []))))) rfl rfl (N := 66) (yfuel (by decide)) ?_
  show yG 89 xfts (xcall 89 xfts xpools xms (d + 1)) (xpool xp_RX13) [] xt_X13_mayBe (yP 4 (bQpi hp 0 1 (fun z => (z = 1 → 0 ≤ p4 ∧ 0 ≤ 0 - p4 + 9999)))) 66 0 [(0, yR k0), (1, yI (4)), (2, yI (p2)), (3, yI (0)), (4, yI (p4))] [] hp
  refine yG.load xik rfl (fun _ _ => rfl) (v := yI (4)) rfl rfl ?_
  refine yG.num (c := 1) rfl (fun _ _ => rfl) (by decide) ?_
  refine yG.icmp rfl (t := 46) rfl ⟨by omega, by omega⟩ ⟨by omega, by omega⟩ (fun c1 => ?_) (fun c1 => ?_)
  · have c1 : (4 : Int) ≠ 1 := c1
    refine yG.load xik rfl (fun _ _ => rfl) (v := yI (4)) rfl rfl ?_
    refine yG.num (c := 2) rfl (fun _ _ => rfl) (by decide) ?_
    refine yG.icmp rfl (t := 126) rfl ⟨by omega, by omega⟩ ⟨by omega, by omega⟩ (fun c2 => ?_) (fun c2 => ?_)
    · have c2 : (4 : Int) ≠ 2 := c2
      refine yG.load xik rfl (fun _ _ => rfl) (v := yI (4)) rfl rfl ?_
      refine yG.num (c := 4) rfl (fun _ _ => rfl) (by decide) ?_
      refine yG.icmp rfl (t := 154) rfl ⟨by omega, by omega⟩ ⟨by omega, by omega⟩ (fun c3 => ?_) (fun c3 => ?_)
      · have c3 : (4 : Int) ≠ 4 := c3
        exfalso; omega
      · have c3 : (4 : Int) = 4 := c3
        refine yG.load xik rfl (fun _ _ => rfl) (v := yI (0)) rfl rfl ?_
        refine yG.ifz rfl (t := 152) rfl ⟨by omega, by omega⟩ (fun c4 => ?_) (fun c4 => ?_)
        · have c4 : (0 : Int) ≠ 0 := c4
          exfalso; omega
        · have c4 : (0 : Int) = 0 := c4
          refine yG.load xik rfl (fun _ _ => rfl) (v := yI (p4)) rfl rfl ?_
          refine yG.i2l rfl ⟨by omega, by omega⟩ ?_
          refine yG.numl (c := 0) rfl (fun _ _ => rfl) (by decide) ?_
          refine yG.numl (c := 9999) rfl (fun _ _ => rfl) (by decide) ?_
          refine yG.invS (rest := []) rfl rfl rfl rfl (c_GModel_in W d A_hp.1 (p4) (0) (9999) (by omega) (by omega) (by omega) (by omega) (by omega) (by omega)) (fun rv hp9 q9 => ?_)
          obtain ⟨⟨z5, rfl, l_z5, u_z5, R_z5⟩, e9⟩ := q9
          rw [e9]
          show yG _ _ _ _ _ _ _ _ _ _ (yI z5 :: []) _
          refine yG.ifz rfl (t := 152) rfl ⟨by omega, by omega⟩ (fun c6 => ?_) (fun c6 => ?_)
          · have c6 : (z5 : Int) = 0 := c6
            refine yG.num (c := 0) rfl (fun _ _ => rfl) (by decide) ?_
            refine yG.ret rfl (fun _ _ => rfl) ?_
            exact (yP.bool (by omega) ⟨⟨0, rfl, by omega, by omega, by omega⟩, rfl⟩)
          · have c6 : (z5 : Int) ≠ 0 := c6
            refine yG.num (c := 1) rfl (fun _ _ => rfl) (by decide) ?_
            refine yG.goto rfl (t := 153) rfl ?_
            refine yG.ret rfl (fun _ _ => rfl) ?_
            exact (yP.bool (by omega) ⟨⟨1, rfl, by omega, by omega, by omega⟩, rfl⟩)
    · have c2 : (4 : Int) = 2 := c2
      exfalso; omega
  · have c1 : (4 : Int) = 1 := c1
    exfalso; omega
theorem c_GModel_mayBe_4_1 {hp : xH} (W : mW G) (d : Nat) (hT : zTy G hp) {k0 : Nat} (H_k0 : bRo G 116 k0) (p2 p4 : Int) (h2l : 0 ≤ p2) (h2u : p2 ≤ 23) (h4l : (-2147483648) ≤ p4) (h4u : p4 ≤ 2147483647) : yC (xcall 89 xfts xpools xms (d + 1)) 453 [yR k0, yI (4), yI (p2), yI (1), yI (p4)] hp (bQpi hp 0 0 (fun _ => True)) := by
  have A_hp : bAx G [] hp hp := bAx.rf hT
  refine yC.of (M := (xt_X13_mayBe, (5, (4, (14, []))))) rfl rfl (N := 45) (yfuel (by decide)) ?_
  show yG 89 xfts (xcall 89 xfts xpools xms d) (xpool xp_RX13) [] xt_X13_mayBe (yP 4 (bQpi hp 0 0 (fun _ => True))) 45 0 [(0, yR k0), (1, yI (4)), (2, yI (p2)), (3, yI (1)), (4, yI (p4))] [] hp
  refine yG.load xik rfl (fun _ _ => rfl) (v := yI (4)) rfl rfl ?_
  refine yG.num (c := 1) rfl (fun _ _ => rfl) (by decide) ?_
  refine yG.icmp rfl (t := 46) rfl ⟨by omega, by omega⟩ ⟨by omega, by omega⟩ (fun c1 => ?_) (fun c1 => ?_)
  · have c1 : (4 : Int) ≠ 1 := c1
    refine yG.load xik rfl (fun _ _ => rfl) (v := yI (4)) rfl rfl ?_
    refine yG.num (c := 2) rfl (fun _ _ => rfl) (by decide) ?_
    refine yG.icmp rfl (t := 126) rfl ⟨by omega, by omega⟩ ⟨by omega, by omega⟩ (fun c2 => ?_) (fun c2 => ?_)
    · have c2 : (4 : Int) ≠ 2 := c2
      refine yG.load xik rfl (fun _ _ => rfl) (v := yI (4)) rfl rfl ?_
      refine yG.num (c := 4) rfl (fun _ _ => rfl) (by decide) ?_
      refine yG.icmp rfl (t := 154) rfl ⟨by omega, by omega⟩ ⟨by omega, by omega⟩ (fun c3 => ?_) (fun c3 => ?_)
      · have c3 : (4 : Int) ≠ 4 := c3
        exfalso; omega
      · have c3 : (4 : Int) = 4 := c3
        refine yG.load xik rfl (fun _ _ => rfl) (v := yI (1)) rfl rfl ?_
        refine yG.ifz rfl (t := 152) rfl ⟨by omega, by omega⟩ (fun c4 => ?_) (fun c4 => ?_)
        · have c4 : (1 : Int) ≠ 0 := c4
          refine yG.num (c := 0) rfl (fun _ _ => rfl) (by decide) ?_
          refine yG.ret rfl (fun _ _ => rfl) ?_
          exact (yP.bool (by omega) ⟨⟨0, rfl, by omega, by omega, trivial⟩, rfl⟩)
        · have c4 : (1 : Int) = 0 := c4
          exfalso; omega
    · have c2 : (4 : Int) = 2 := c2
      exfalso; omega
  · have c1 : (4 : Int) = 1 := c1
    exfalso; omega
theorem c_GModel_mayBe_4_2 {hp : xH} (W : mW G) (d : Nat) (hT : zTy G hp) {k0 : Nat} (H_k0 : bRo G 116 k0) (p2 p4 : Int) (h2l : 0 ≤ p2) (h2u : p2 ≤ 23) (h4l : (-2147483648) ≤ p4) (h4u : p4 ≤ 2147483647) : yC (xcall 89 xfts xpools xms (d + 1)) 453 [yR k0, yI (4), yI (p2), yI (2), yI (p4)] hp (bQpi hp 0 0 (fun _ => True)) := by
  have A_hp : bAx G [] hp hp := bAx.rf hT
  refine yC.of (M := (xt_X13_mayBe, (5, (4, (14, []))))) rfl rfl (N := 45) (yfuel (by decide)) ?_
  show yG 89 xfts (xcall 89 xfts xpools xms d) (xpool xp_RX13) [] xt_X13_mayBe (yP 4 (bQpi hp 0 0 (fun _ => True))) 45 0 [(0, yR k0), (1, yI (4)), (2, yI (p2)), (3, yI (2)), (4, yI (p4))] [] hp
  refine yG.load xik rfl (fun _ _ => rfl) (v := yI (4)) rfl rfl ?_
  refine yG.num (c := 1) rfl (fun _ _ => rfl) (by decide) ?_
  refine yG.icmp rfl (t := 46) rfl ⟨by omega, by omega⟩ ⟨by omega, by omega⟩ (fun c1 => ?_) (fun c1 => ?_)
  · have c1 : (4 : Int) ≠ 1 := c1
    refine yG.load xik rfl (fun _ _ => rfl) (v := yI (4)) rfl rfl ?_
    refine yG.num (c := 2) rfl (fun _ _ => rfl) (by decide) ?_
    refine yG.icmp rfl (t := 126) rfl ⟨by omega, by omega⟩ ⟨by omega, by omega⟩ (fun c2 => ?_) (fun c2 => ?_)
    · have c2 : (4 : Int) ≠ 2 := c2
      refine yG.load xik rfl (fun _ _ => rfl) (v := yI (4)) rfl rfl ?_
      refine yG.num (c := 4) rfl (fun _ _ => rfl) (by decide) ?_
      refine yG.icmp rfl (t := 154) rfl ⟨by omega, by omega⟩ ⟨by omega, by omega⟩ (fun c3 => ?_) (fun c3 => ?_)
      · have c3 : (4 : Int) ≠ 4 := c3
        exfalso; omega
      · have c3 : (4 : Int) = 4 := c3
        refine yG.load xik rfl (fun _ _ => rfl) (v := yI (2)) rfl rfl ?_
        refine yG.ifz rfl (t := 152) rfl ⟨by omega, by omega⟩ (fun c4 => ?_) (fun c4 => ?_)
        · have c4 : (2 : Int) ≠ 0 := c4
          refine yG.num (c := 0) rfl (fun _ _ => rfl) (by decide) ?_
          refine yG.ret rfl (fun _ _ => rfl) ?_
          exact (yP.bool (by omega) ⟨⟨0, rfl, by omega, by omega, trivial⟩, rfl⟩)
        · have c4 : (2 : Int) = 0 := c4
          exfalso; omega
    · have c2 : (4 : Int) = 2 := c2
      exfalso; omega
  · have c1 : (4 : Int) = 1 := c1
    exfalso; omega
theorem c_GModel_mayBe_4_3 {hp : xH} (W : mW G) (d : Nat) (hT : zTy G hp) {k0 : Nat} (H_k0 : bRo G 116 k0) (p2 p4 : Int) (h2l : 0 ≤ p2) (h2u : p2 ≤ 23) (h4l : (-2147483648) ≤ p4) (h4u : p4 ≤ 2147483647) : yC (xcall 89 xfts xpools xms (d + 1)) 453 [yR k0, yI (4), yI (p2), yI (3), yI (p4)] hp (bQpi hp 0 0 (fun _ => True)) := by
  have A_hp : bAx G [] hp hp := bAx.rf hT
  refine yC.of (M := (xt_X13_mayBe, (5, (4, (14, []))))) rfl rfl (N := 45) (yfuel (by decide)) ?_
  show yG 89 xfts (xcall 89 xfts xpools xms d) (xpool xp_RX13) [] xt_X13_mayBe (yP 4 (bQpi hp 0 0 (fun _ => True))) 45 0 [(0, yR k0), (1, yI (4)), (2, yI (p2)), (3, yI (3)), (4, yI (p4))] [] hp
  refine yG.load xik rfl (fun _ _ => rfl) (v := yI (4)) rfl rfl ?_
  refine yG.num (c := 1) rfl (fun _ _ => rfl) (by decide) ?_
  refine yG.icmp rfl (t := 46) rfl ⟨by omega, by omega⟩ ⟨by omega, by omega⟩ (fun c1 => ?_) (fun c1 => ?_)
  · have c1 : (4 : Int) ≠ 1 := c1
    refine yG.load xik rfl (fun _ _ => rfl) (v := yI (4)) rfl rfl ?_
    refine yG.num (c := 2) rfl (fun _ _ => rfl) (by decide) ?_
    refine yG.icmp rfl (t := 126) rfl ⟨by omega, by omega⟩ ⟨by omega, by omega⟩ (fun c2 => ?_) (fun c2 => ?_)
    · have c2 : (4 : Int) ≠ 2 := c2
      refine yG.load xik rfl (fun _ _ => rfl) (v := yI (4)) rfl rfl ?_
      refine yG.num (c := 4) rfl (fun _ _ => rfl) (by decide) ?_
      refine yG.icmp rfl (t := 154) rfl ⟨by omega, by omega⟩ ⟨by omega, by omega⟩ (fun c3 => ?_) (fun c3 => ?_)
      · have c3 : (4 : Int) ≠ 4 := c3
        exfalso; omega
      · have c3 : (4 : Int) = 4 := c3
        refine yG.load xik rfl (fun _ _ => rfl) (v := yI (3)) rfl rfl ?_
        refine yG.ifz rfl (t := 152) rfl ⟨by omega, by omega⟩ (fun c4 => ?_) (fun c4 => ?_)
        · have c4 : (3 : Int) ≠ 0 := c4
          refine yG.num (c := 0) rfl (fun _ _ => rfl) (by decide) ?_
          refine yG.ret rfl (fun _ _ => rfl) ?_
          exact (yP.bool (by omega) ⟨⟨0, rfl, by omega, by omega, trivial⟩, rfl⟩)
        · have c4 : (3 : Int) = 0 := c4
          exfalso; omega
    · have c2 : (4 : Int) = 2 := c2
      exfalso; omega
  · have c1 : (4 : Int) = 1 := c1
    exfalso; omega
theorem c_GModel_mayBe_4_4 {hp : xH} (W : mW G) (d : Nat) (hT : zTy G hp) {k0 : Nat} (H_k0 : bRo G 116 k0) (p2 p4 : Int) (h2l : 0 ≤ p2) (h2u : p2 ≤ 23) (h4l : (-2147483648) ≤ p4) (h4u : p4 ≤ 2147483647) : yC (xcall 89 xfts xpools xms (d + 1)) 453 [yR k0, yI (4), yI (p2), yI (4), yI (p4)] hp (bQpi hp 0 0 (fun _ => True)) := by
  have A_hp : bAx G [] hp hp := bAx.rf hT
  refine yC.of (M := (xt_X13_mayBe, (5, (4, (14, []))))) rfl rfl (N := 45) (yfuel (by decide)) ?_
  show yG 89 xfts (xcall 89 xfts xpools xms d) (xpool xp_RX13) [] xt_X13_mayBe (yP 4 (bQpi hp 0 0 (fun _ => True))) 45 0 [(0, yR k0), (1, yI (4)), (2, yI (p2)), (3, yI (4)), (4, yI (p4))] [] hp
  refine yG.load xik rfl (fun _ _ => rfl) (v := yI (4)) rfl rfl ?_
  refine yG.num (c := 1) rfl (fun _ _ => rfl) (by decide) ?_
  refine yG.icmp rfl (t := 46) rfl ⟨by omega, by omega⟩ ⟨by omega, by omega⟩ (fun c1 => ?_) (fun c1 => ?_)
  · have c1 : (4 : Int) ≠ 1 := c1
    refine yG.load xik rfl (fun _ _ => rfl) (v := yI (4)) rfl rfl ?_
    refine yG.num (c := 2) rfl (fun _ _ => rfl) (by decide) ?_
    refine yG.icmp rfl (t := 126) rfl ⟨by omega, by omega⟩ ⟨by omega, by omega⟩ (fun c2 => ?_) (fun c2 => ?_)
    · have c2 : (4 : Int) ≠ 2 := c2
      refine yG.load xik rfl (fun _ _ => rfl) (v := yI (4)) rfl rfl ?_
      refine yG.num (c := 4) rfl (fun _ _ => rfl) (by decide) ?_
      refine yG.icmp rfl (t := 154) rfl ⟨by omega, by omega⟩ ⟨by omega, by omega⟩ (fun c3 => ?_) (fun c3 => ?_)
      · have c3 : (4 : Int) ≠ 4 := c3
        exfalso; omega
      · have c3 : (4 : Int) = 4 := c3
        refine yG.load xik rfl (fun _ _ => rfl) (v := yI (4)) rfl rfl ?_
        refine yG.ifz rfl (t := 152) rfl ⟨by omega, by omega⟩ (fun c4 => ?_) (fun c4 => ?_)
        · have c4 : (4 : Int) ≠ 0 := c4
          refine yG.num (c := 0) rfl (fun _ _ => rfl) (by decide) ?_
          refine yG.ret rfl (fun _ _ => rfl) ?_
          exact (yP.bool (by omega) ⟨⟨0, rfl, by omega, by omega, trivial⟩, rfl⟩)
        · have c4 : (4 : Int) = 0 := c4
          exfalso; omega
    · have c2 : (4 : Int) = 2 := c2
      exfalso; omega
  · have c1 : (4 : Int) = 1 := c1
    exfalso; omega
theorem c_GModel_mayBe_4_5 {hp : xH} (W : mW G) (d : Nat) (hT : zTy G hp) {k0 : Nat} (H_k0 : bRo G 116 k0) (p2 p4 : Int) (h2l : 0 ≤ p2) (h2u : p2 ≤ 23) (h4l : (-2147483648) ≤ p4) (h4u : p4 ≤ 2147483647) : yC (xcall 89 xfts xpools xms (d + 1)) 453 [yR k0, yI (4), yI (p2), yI (5), yI (p4)] hp (bQpi hp 0 0 (fun _ => True)) := by
  have A_hp : bAx G [] hp hp := bAx.rf hT
  refine yC.of (M := (xt_X13_mayBe, (5, (4, (14, []))))) rfl rfl (N := 45) (yfuel (by decide)) ?_
  show yG 89 xfts (xcall 89 xfts xpools xms d) (xpool xp_RX13) [] xt_X13_mayBe (yP 4 (bQpi hp 0 0 (fun _ => True))) 45 0 [(0, yR k0), (1, yI (4)), (2, yI (p2)), (3, yI (5)), (4, yI (p4))] [] hp
  refine yG.load xik rfl (fun _ _ => rfl) (v := yI (4)) rfl rfl ?_
  refine yG.num (c := 1) rfl (fun _ _ => rfl) (by decide) ?_
  refine yG.icmp rfl (t := 46) rfl ⟨by omega, by omega⟩ ⟨by omega, by omega⟩ (fun c1 => ?_) (fun c1 => ?_)
  · have c1 : (4 : Int) ≠ 1 := c1
    refine yG.load xik rfl (fun _ _ => rfl) (v := yI (4)) rfl rfl ?_
    refine yG.num (c := 2) rfl (fun _ _ => rfl) (by decide) ?_
    refine yG.icmp rfl (t := 126) rfl ⟨by omega, by omega⟩ ⟨by omega, by omega⟩ (fun c2 => ?_) (fun c2 => ?_)
    · have c2 : (4 : Int) ≠ 2 := c2
      refine yG.load xik rfl (fun _ _ => rfl) (v := yI (4)) rfl rfl ?_
      refine yG.num (c := 4) rfl (fun _ _ => rfl) (by decide) ?_
      refine yG.icmp rfl (t := 154) rfl ⟨by omega, by omega⟩ ⟨by omega, by omega⟩ (fun c3 => ?_) (fun c3 => ?_)
      · have c3 : (4 : Int) ≠ 4 := c3
        exfalso; omega
      · have c3 : (4 : Int) = 4 := c3
        refine yG.load xik rfl (fun _ _ => rfl) (v := yI (5)) rfl rfl ?_
        refine yG.ifz rfl (t := 152) rfl ⟨by omega, by omega⟩ (fun c4 => ?_) (fun c4 => ?_)
        · have c4 : (5 : Int) ≠ 0 := c4
          refine yG.num (c := 0) rfl (fun _ _ => rfl) (by decide) ?_
          refine yG.ret rfl (fun _ _ => rfl) ?_
          exact (yP.bool (by omega) ⟨⟨0, rfl, by omega, by omega, trivial⟩, rfl⟩)
        · have c4 : (5 : Int) = 0 := c4
          exfalso; omega
    · have c2 : (4 : Int) = 2 := c2
      exfalso; omega
  · have c1 : (4 : Int) = 1 := c1
    exfalso; omega
theorem c_GModel_mayBe_4_6 {hp : xH} (W : mW G) (d : Nat) (hT : zTy G hp) {k0 : Nat} (H_k0 : bRo G 116 k0) (p2 p4 : Int) (h2l : 0 ≤ p2) (h2u : p2 ≤ 23) (h4l : (-2147483648) ≤ p4) (h4u : p4 ≤ 2147483647) : yC (xcall 89 xfts xpools xms (d + 1)) 453 [yR k0, yI (4), yI (p2), yI (6), yI (p4)] hp (bQpi hp 0 0 (fun _ => True)) := by
  have A_hp : bAx G [] hp hp := bAx.rf hT
  refine yC.of (M := (xt_X13_mayBe, (5, (4, (14, []))))) rfl rfl (N := 45) (yfuel (by decide)) ?_
  show yG 89 xfts (xcall 89 xfts xpools xms d) (xpool xp_RX13) [] xt_X13_mayBe (yP 4 (bQpi hp 0 0 (fun _ => True))) 45 0 [(0, yR k0), (1, yI (4)), (2, yI (p2)), (3, yI (6)), (4, yI (p4))] [] hp
  refine yG.load xik rfl (fun _ _ => rfl) (v := yI (4)) rfl rfl ?_
  refine yG.num (c := 1) rfl (fun _ _ => rfl) (by decide) ?_
  refine yG.icmp rfl (t := 46) rfl ⟨by omega, by omega⟩ ⟨by omega, by omega⟩ (fun c1 => ?_) (fun c1 => ?_)
  · have c1 : (4 : Int) ≠ 1 := c1
    refine yG.load xik rfl (fun _ _ => rfl) (v := yI (4)) rfl rfl ?_
    refine yG.num (c := 2) rfl (fun _ _ => rfl) (by decide) ?_
    refine yG.icmp rfl (t := 126) rfl ⟨by omega, by omega⟩ ⟨by omega, by omega⟩ (fun c2 => ?_) (fun c2 => ?_)
    · have c2 : (4 : Int) ≠ 2 := c2
      refine yG.load xik rfl (fun _ _ => rfl) (v := yI (4)) rfl rfl ?_
      refine yG.num (c := 4) rfl (fun _ _ => rfl) (by decide) ?_
      refine yG.icmp rfl (t := 154) rfl ⟨by omega, by omega⟩ ⟨by omega, by omega⟩ (fun c3 => ?_) (fun c3 => ?_)
      · have c3 : (4 : Int) ≠ 4 := c3
        exfalso; omega
      · have c3 : (4 : Int) = 4 := c3
        refine yG.load xik rfl (fun _ _ => rfl) (v := yI (6)) rfl rfl ?_
        refine yG.ifz rfl (t := 152) rfl ⟨by omega, by omega⟩ (fun c4 => ?_) (fun c4 => ?_)
        · have c4 : (6 : Int) ≠ 0 := c4
          refine yG.num (c := 0) rfl (fun _ _ => rfl) (by decide) ?_
          refine yG.ret rfl (fun _ _ => rfl) ?_
          exact (yP.bool (by omega) ⟨⟨0, rfl, by omega, by omega, trivial⟩, rfl⟩)
        · have c4 : (6 : Int) = 0 := c4
          exfalso; omega
    · have c2 : (4 : Int) = 2 := c2
      exfalso; omega
  · have c1 : (4 : Int) = 1 := c1
    exfalso; omega
theorem c_GModel_mayBe_4_7 {hp : xH} (W : mW G) (d : Nat) (hT : zTy G hp) {k0 : Nat} (H_k0 : bRo G 116 k0) (p2 p4 : Int) (h2l : 0 ≤ p2) (h2u : p2 ≤ 23) (h4l : (-2147483648) ≤ p4) (h4u : p4 ≤ 2147483647) : yC (xcall 89 xfts xpools xms (d + 1)) 453 [yR k0, yI (4), yI (p2), yI (7), yI (p4)] hp (bQpi hp 0 0 (fun _ => True)) := by
  have A_hp : bAx G [] hp hp := bAx.rf hT
  refine yC.of (M := (xt_X13_mayBe, (5, (4, (14, []))))) rfl rfl (N := 45) (yfuel (by decide)) ?_
  show yG 89 xfts (xcall 89 xfts xpools xms d) (xpool xp_RX13) [] xt_X13_mayBe (yP 4 (bQpi hp 0 0 (fun _ => True))) 45 0 [(0, yR k0), (1, yI (4)), (2, yI (p2)), (3, yI (7)), (4, yI (p4))] [] hp
  refine yG.load xik rfl (fun _ _ => rfl) (v := yI (4)) rfl rfl ?_
  refine yG.num (c := 1) rfl (fun _ _ => rfl) (by decide) ?_
  refine yG.icmp rfl (t := 46) rfl ⟨by omega, by omega⟩ ⟨by omega, by omega⟩ (fun c1 => ?_) (fun c1 => ?_)
  · have c1 : (4 : Int) ≠ 1 := c1
    refine yG.load xik rfl (fun _ _ => rfl) (v := yI (4)) rfl rfl ?_
    refine yG.num (c := 2) rfl (fun _ _ => rfl) (by decide) ?_
    refine yG.icmp rfl (t := 126) rfl ⟨by omega, by omega⟩ ⟨by omega, by omega⟩ (fun c2 => ?_) (fun c2 => ?_)
    · have c2 : (4 : Int) ≠ 2 := c2
      refine yG.load xik rfl (fun _ _ => rfl) (v := yI (4)) rfl rfl ?_
      refine yG.num (c := 4) rfl (fun _ _ => rfl) (by decide) ?_
      refine yG.icmp rfl (t := 154) rfl ⟨by omega, by omega⟩ ⟨by omega, by omega⟩ (fun c3 => ?_) (fun c3 => ?_)
      · have c3 : (4 : Int) ≠ 4 := c3
        exfalso; omega
      · have c3 : (4 : Int) = 4 := c3
        refine yG.load xik rfl (fun _ _ => rfl) (v := yI (7)) rfl rfl ?_
        refine yG.ifz rfl (t := 152) rfl ⟨by omega, by omega⟩ (fun c4 => ?_) (fun c4 => ?_)
        · have c4 : (7 : Int) ≠ 0 := c4
          refine yG.num (c := 0) rfl (fun _ _ => rfl) (by decide) ?_
          refine yG.ret rfl (fun _ _ => rfl) ?_
          exact (yP.bool (by omega) ⟨⟨0, rfl, by omega, by omega, trivial⟩, rfl⟩)
        · have c4 : (7 : Int) = 0 := c4
          exfalso; omega
    · have c2 : (4 : Int) = 2 := c2
      exfalso; omega
  · have c1 : (4 : Int) = 1 := c1
    exfalso; omega
theorem c_GModel_mayBe_4_8 {hp : xH} (W : mW G) (d : Nat) (hT : zTy G hp) {k0 : Nat} (H_k0 : bRo G 116 k0) (p2 p4 : Int) (h2l : 0 ≤ p2) (h2u : p2 ≤ 23) (h4l : (-2147483648) ≤ p4) (h4u : p4 ≤ 2147483647) : yC (xcall 89 xfts xpools xms (d + 1)) 453 [yR k0, yI (4), yI (p2), yI (8), yI (p4)] hp (bQpi hp 0 0 (fun _ => True)) := by
  have A_hp : bAx G [] hp hp := bAx.rf hT
  refine yC.of (M := (xt_X13_mayBe, (5, (4, (14, []))))) rfl rfl (N := 45) (yfuel (by decide)) ?_
  show yG 89 xfts (xcall 89 xfts xpools xms d) (xpool xp_RX13) [] xt_X13_mayBe (yP 4 (bQpi hp 0 0 (fun _ => True))) 45 0 [(0, yR k0), (1, yI (4)), (2, yI (p2)), (3, yI (8)), (4, yI (p4))] [] hp
  refine yG.load xik rfl (fun _ _ => rfl) (v := yI (4)) rfl rfl ?_
  refine yG.num (c := 1) rfl (fun _ _ => rfl) (by decide) ?_
  refine yG.icmp rfl (t := 46) rfl ⟨by omega, by omega⟩ ⟨by omega, by omega⟩ (fun c1 => ?_) (fun c1 => ?_)
  · have c1 : (4 : Int) ≠ 1 := c1
    refine yG.load xik rfl (fun _ _ => rfl) (v := yI (4)) rfl rfl ?_
    refine yG.num (c := 2) rfl (fun _ _ => rfl) (by decide) ?_
    refine yG.icmp rfl (t := 126) rfl ⟨by omega, by omega⟩ ⟨by omega, by omega⟩ (fun c2 => ?_) (fun c2 => ?_)
    · have c2 : (4 : Int) ≠ 2 := c2
      refine yG.load xik rfl (fun _ _ => rfl) (v := yI (4)) rfl rfl ?_
      refine yG.num (c := 4) rfl (fun _ _ => rfl) (by decide) ?_
      refine yG.icmp rfl (t := 154) rfl ⟨by omega, by omega⟩ ⟨by omega, by omega⟩ (fun c3 => ?_) (fun c3 => ?_)
      · have c3 : (4 : Int) ≠ 4 := c3
        exfalso; omega
      · have c3 : (4 : Int) = 4 := c3
        refine yG.load xik rfl (fun _ _ => rfl) (v := yI (8)) rfl rfl ?_
        refine yG.ifz rfl (t := 152) rfl ⟨by omega, by omega⟩ (fun c4 => ?_) (fun c4 => ?_)
        · have c4 : (8 : Int) ≠ 0 := c4
          refine yG.num (c := 0) rfl (fun _ _ => rfl) (by decide) ?_
          refine yG.ret rfl (fun _ _ => rfl) ?_
          exact (yP.bool (by omega) ⟨⟨0, rfl, by omega, by omega, trivial⟩, rfl⟩)
        · have c4 : (8 : Int) = 0 := c4
          exfalso; omega
    · have c2 : (4 : Int) = 2 := c2
      exfalso; omega
  · have c1 : (4 : Int) = 1 := c1
    exfalso; omega
theorem c_GModel_mayBe_4_9 {hp : xH} (W : mW G) (d : Nat) (hT : zTy G hp) {k0 : Nat} (H_k0 : bRo G 116 k0) (p2 p4 : Int) (h2l : 0 ≤ p2) (h2u : p2 ≤ 23) (h4l : (-2147483648) ≤ p4) (h4u : p4 ≤ 2147483647) : yC (xcall 89 xfts xpools xms (d + 1)) 453 [yR k0, yI (4), yI (p2), yI (9), yI (p4)] hp (bQpi hp 0 0 (fun _ => True)) := by
  have A_hp : bAx G [] hp hp := bAx.rf hT
  refine yC.of (M := (xt_X13_mayBe, (5, (4, (14, []))))) rfl rfl (N := 45) (yfuel (by decide)) ?_
  show yG 89 xfts (xcall 89 xfts xpools xms d) (xpool xp_RX13) [] xt_X13_mayBe (yP 4 (bQpi hp 0 0 (fun _ => True))) 45 0 [(0, yR k0), (1, yI (4)), (2, yI (p2)), (3, yI (9)), (4, yI (p4))] [] hp
  refine yG.load xik rfl (fun _ _ => rfl) (v := yI (4)) rfl rfl ?_
  refine yG.num (c := 1) rfl (fun _ _ => rfl) (by decide) ?_
  refine yG.icmp rfl (t := 46) rfl ⟨by omega, by omega⟩ ⟨by omega, by omega⟩ (fun c1 => ?_) (fun c1 => ?_)
  · have c1 : (4 : Int) ≠ 1 := c1
    refine yG.load xik rfl (fun _ _ => rfl) (v := yI (4)) rfl rfl ?_
    refine yG.num (c := 2) rfl (fun _ _ => rfl) (by decide) ?_
    refine yG.icmp rfl (t := 126) rfl ⟨by omega, by omega⟩ ⟨by omega, by omega⟩ (fun c2 => ?_) (fun c2 => ?_)
    · have c2 : (4 : Int) ≠ 2 := c2
      refine yG.load xik rfl (fun _ _ => rfl) (v := yI (4)) rfl rfl ?_
      refine yG.num (c := 4) rfl (fun _ _ => rfl) (by decide) ?_
      refine yG.icmp rfl (t := 154) rfl ⟨by omega, by omega⟩ ⟨by omega, by omega⟩ (fun c3 => ?_) (fun c3 => ?_)
      · have c3 : (4 : Int) ≠ 4 := c3
        exfalso; omega
      · have c3 : (4 : Int) = 4 := c3
        refine yG.load xik rfl (fun _ _ => rfl) (v := yI (9)) rfl rfl ?_
        refine yG.ifz rfl (t := 152) rfl ⟨by omega, by omega⟩ (fun c4 => ?_) (fun c4 => ?_)
        · have c4 : (9 : Int) ≠ 0 := c4
          refine yG.num (c := 0) rfl (fun _ _ => rfl) (by decide) ?_
          refine yG.ret rfl (fun _ _ => rfl) ?_
          exact (yP.bool (by omega) ⟨⟨0, rfl, by omega, by omega, trivial⟩, rfl⟩)
        · have c4 : (9 : Int) = 0 := c4
          exfalso; omega
    · have c2 : (4 : Int) = 2 := c2
      exfalso; omega
  · have c1 : (4 : Int) = 1 := c1
    exfalso; omega
theorem c_GModel_mayBe_4_10 {hp : xH} (W : mW G) (d : Nat) (hT : zTy G hp) {k0 : Nat} (H_k0 : bRo G 116 k0) (p2 p4 : Int) (h2l : 0 ≤ p2) (h2u : p2 ≤ 23) (h4l : (-2147483648) ≤ p4) (h4u : p4 ≤ 2147483647) : yC (xcall 89 xfts xpools xms (d + 1)) 453 [yR k0, yI (4), yI (p2), yI (10), yI (p4)] hp (bQpi hp 0 0 (fun _ => True)) := by
  have A_hp : bAx G [] hp hp := bAx.rf hT
  refine yC.of (M := (xt_X13_mayBe, (5, (4, (14, []))))) rfl rfl (N := 45) (yfuel (by decide)) ?_
  show yG 89 xfts (xcall 89 xfts xpools xms d) (xpool xp_RX13) [] xt_X13_mayBe (yP 4 (bQpi hp 0 0 (fun _ => True))) 45 0 [(0, yR k0), (1, yI (4)), (2, yI (p2)), (3, yI (10)), (4, yI (p4))] [] hp
  refine yG.load xik rfl (fun _ _ => rfl) (v := yI (4)) rfl rfl ?_
  refine yG.num (c := 1) rfl (fun _ _ => rfl) (by decide) ?_
  refine yG.icmp rfl (t := 46) rfl ⟨by omega, by omega⟩ ⟨by omega, by omega⟩ (fun c1 => ?_) (fun c1 => ?_)
  · have c1 : (4 : Int) ≠ 1 := c1
    refine yG.load xik rfl (fun _ _ => rfl) (v := yI (4)) rfl rfl ?_
    refine yG.num (c := 2) rfl (fun _ _ => rfl) (by decide) ?_
    refine yG.icmp rfl (t := 126) rfl ⟨by omega, by omega⟩ ⟨by omega, by omega⟩ (fun c2 => ?_) (fun c2 => ?_)
    · have c2 : (4 : Int) ≠ 2 := c2
      refine yG.load xik rfl (fun _ _ => rfl) (v := yI (4)) rfl rfl ?_
      refine yG.num (c := 4) rfl (fun _ _ => rfl) (by decide) ?_
      refine yG.icmp rfl (t := 154) rfl ⟨by omega, by omega⟩ ⟨by omega, by omega⟩ (fun c3 => ?_) (fun c3 => ?_)
      · have c3 : (4 : Int) ≠ 4 := c3
        exfalso; omega
      · have c3 : (4 : Int) = 4 := c3
        refine yG.load xik rfl (fun _ _ => rfl) (v := yI (10)) rfl rfl ?_
        refine yG.ifz rfl (t := 152) rfl ⟨by omega, by omega⟩ (fun c4 => ?_) (fun c4 => ?_)
        · have c4 : (10 : Int) ≠ 0 := c4
          refine yG.num (c := 0) rfl (fun _ _ => rfl) (by decide) ?_
          refine yG.ret rfl (fun _ _ => rfl) ?_
          exact (yP.bool (by omega) ⟨⟨0, rfl, by omega, by omega, trivial⟩, rfl⟩)
        · have c4 : (10 : Int) = 0 := c4
          exfalso; omega
    · have c2 : (4 : Int) = 2 := c2
      exfalso; omega
  · have c1 : (4 : Int) = 1 := c1
    exfalso; omega
theorem c_GModel_mayBe_4_l {hp : xH} (W : mW G) (d : Nat) (hT : zTy G hp) {k0 : Nat} (H_k0 : bRo G 116 k0) (p2 p3 p4 : Int) (h2l : 0 ≤ p2) (h2u : p2 ≤ 23) (h3l : (-2147483648) ≤ p3) (h3u : p3 ≤ (-1)) (h4l : (-2147483648) ≤ p4) (h4u : p4 ≤ 2147483647) : yC (xcall 89 xfts xpools xms (d + 1)) 453 [yR k0, yI (4), yI (p2), yI (p3), yI (p4)] hp (bQpi hp 0 0 (fun _ => True)) := by
  have A_hp : bAx G [] hp hp := bAx.rf hT
  refine yC.of (M := (xt_X13_mayBe, (5, (4, (14, []))))) rfl rfl (N := 45) (yfuel (by decide)) ?_
  show yG 89 xfts (xcall 89 xfts xpools xms d) (xpool xp_RX13) [] xt_X13_mayBe (yP 4 (bQpi hp 0 0 (fun _ => True))) 45 0 [(0, yR k0), (1, yI (4)), (2, yI (p2)), (3, yI (p3)), (4, yI (p4))] [] hp
  refine yG.load xik rfl (fun _ _ => rfl) (v := yI (4)) rfl rfl ?_
  refine yG.num (c := 1) rfl (fun _ _ => rfl) (by decide) ?_
  refine yG.icmp rfl (t := 46) rfl ⟨by omega, by omega⟩ ⟨by omega, by omega⟩ (fun c1 => ?_) (fun c1 => ?_)
  · have c1 : (4 : Int) ≠ 1 := c1
    refine yG.load xik rfl (fun _ _ => rfl) (v := yI (4)) rfl rfl ?_
    refine yG.num (c := 2) rfl (fun _ _ => rfl) (by decide) ?_
    refine yG.icmp rfl (t := 126) rfl ⟨by omega, by omega⟩ ⟨by omega, by omega⟩ (fun c2 => ?_) (fun c2 => ?_)
    · have c2 : (4 : Int) ≠ 2 := c2
      refine yG.load xik rfl (fun _ _ => rfl) (v := yI (4)) rfl rfl ?_
      refine yG.num (c := 4) rfl (fun _ _ => rfl) (by decide) ?_
      refine yG.icmp rfl (t := 154) rfl ⟨by omega, by omega⟩ ⟨by omega, by omega⟩ (fun c3 => ?_) (fun c3 => ?_)
      · have c3 : (4 : Int) ≠ 4 := c3
        exfalso; omega
      · have c3 : (4 : Int) = 4 := c3
        refine yG.load xik rfl (fun _ _ => rfl) (v := yI (p3)) rfl rfl ?_
        refine yG.ifz rfl (t := 152) rfl ⟨by omega, by omega⟩ (fun c4 => ?_) (fun c4 => ?_)
        · have c4 : (p3 : Int) ≠ 0 := c4
          refine yG.num (c := 0) rfl (fun _ _ => rfl) (by decide) ?_
          refine yG.ret rfl (fun _ _ => rfl) ?_
          exact (yP.bool (by omega) ⟨⟨0, rfl, by omega, by omega, trivial⟩, rfl⟩)
        · have c4 : (p3 : Int) = 0 := c4
          exfalso; omega
    · have c2 : (4 : Int) = 2 := c2
      exfalso; omega
  · have c1 : (4 : Int) = 1 := c1
    exfalso; omega
theorem c_GModel_mayBe_4_h {hp : xH} (W : mW G) (d : Nat) (hT : zTy G hp) {k0 : Nat} (H_k0 : bRo G 116 k0) (p2 p3 p4 : Int) (h2l : 0 ≤ p2) (h2u : p2 ≤ 23) (h3l : 11 ≤ p3) (h3u : p3 ≤ 2147483647) (h4l : (-2147483648) ≤ p4) (h4u : p4 ≤ 2147483647) : yC (xcall 89 xfts xpools xms (d + 1)) 453 [yR k0, yI (4), yI (p2), yI (p3), yI (p4)] hp (bQpi hp 0 0 (fun _ => True)) := by
  have A_hp : bAx G [] hp hp := bAx.rf hT
  refine yC.of (M := (xt_X13_mayBe, (5, (4, (14, []))))) rfl rfl (N := 45) (yfuel (by decide)) ?_
  show yG 89 xfts (xcall 89 xfts xpools xms d) (xpool xp_RX13) [] xt_X13_mayBe (yP 4 (bQpi hp 0 0 (fun _ => True))) 45 0 [(0, yR k0), (1, yI (4)), (2, yI (p2)), (3, yI (p3)), (4, yI (p4))] [] hp
  refine yG.load xik rfl (fun _ _ => rfl) (v := yI (4)) rfl rfl ?_
  refine yG.num (c := 1) rfl (fun _ _ => rfl) (by decide) ?_
  refine yG.icmp rfl (t := 46) rfl ⟨by omega, by omega⟩ ⟨by omega, by omega⟩ (fun c1 => ?_) (fun c1 => ?_)
  · have c1 : (4 : Int) ≠ 1 := c1
    refine yG.load xik rfl (fun _ _ => rfl) (v := yI (4)) rfl rfl ?_
    refine yG.num (c := 2) rfl (fun _ _ => rfl) (by decide) ?_
    refine yG.icmp rfl (t := 126) rfl ⟨by omega, by omega⟩ ⟨by omega, by omega⟩ (fun c2 => ?_) (fun c2 => ?_)
    · have c2 : (4 : Int) ≠ 2 := c2
      refine yG.load xik rfl (fun _ _ => rfl) (v := yI (4)) rfl rfl ?_
      refine yG.num (c := 4) rfl (fun _ _ => rfl) (by decide) ?_
      refine yG.icmp rfl (t := 154) rfl ⟨by omega, by omega⟩ ⟨by omega, by omega⟩ (fun c3 => ?_) (fun c3 => ?_)
      · have c3 : (4 : Int) ≠ 4 := c3
        exfalso; omega
      · have c3 : (4 : Int) = 4 := c3
        refine yG.load xik rfl (fun _ _ => rfl) (v := yI (p3)) rfl rfl ?_
        refine yG.ifz rfl (t := 152) rfl ⟨by omega, by omega⟩ (fun c4 => ?_) (fun c4 => ?_)
        · have c4 : (p3 : Int) ≠ 0 := c4
          refine yG.num (c := 0) rfl (fun _ _ => rfl) (by decide) ?_
          refine yG.ret rfl (fun _ _ => rfl) ?_
          exact (yP.bool (by omega) ⟨⟨0, rfl, by omega, by omega, trivial⟩, rfl⟩)
        · have c4 : (p3 : Int) = 0 := c4
          exfalso; omega
    · have c2 : (4 : Int) = 2 := c2
      exfalso; omega
  · have c1 : (4 : Int) = 1 := c1
    exfalso; omega
theorem c_GModel_placeRow {hp : xH} (W : mW G) (d : Nat) (hT : zTy G hp) (M_bSm : bSm G hp) {k0 : Nat} (H_k0 : bRo G 116 k0) : yC (xcall 89 xfts xpools xms (d + 1)) 480 [yR k0] hp (bQpi hp 0 16 (fun _ => True)) := by
  have A_hp : bAx G [] hp hp := bAx.rf hT
  refine yC.of (M := (xt_X13_placeRow, (1, (1, (14, []))))) rfl rfl (N := 48) (yfuel (by decide)) ?_
  show yG 89 xfts (xcall 89 xfts xpools xms d) (xpool xp_RX13) [] xt_X13_placeRow (yP 1 (bQpi hp 0 16 (fun _ => True))) 48 0 [(0, yR k0)] [] hp
  obtain ⟨gg0, E_0⟩ : ∃ z : Int, ys hp k0 70 = z := ⟨_, rfl⟩
  obtain ⟨-, -, g_0l, g_0u⟩ := (w_M_isOnLine W H_k0).int hT
  obtain ⟨gg1, E_1⟩ : ∃ z : Int, ys hp k0 71 = z := ⟨_, rfl⟩
  obtain ⟨-, -, g_1l, g_1u⟩ := (w_M_shortPlace W H_k0).int hT
  refine yG.load xak rfl (fun _ _ => rfl) (v := yR k0) rfl rfl ?_
  refine yG.getI A_hp.1 (w_M_isOnLine W H_k0) rfl rfl (fun z1 e_z1 i_z1 l_z1 u_z1 => ?_)
  rw [show (z1 : Int) = gg0 by omega]
  refine yG.ifz rfl (t := 14) rfl ⟨by omega, by omega⟩ (fun c2 => ?_) (fun c2 => ?_)
  · have c2 : (gg0 : Int) = 0 := c2
    refine yG.load xak rfl (fun _ _ => rfl) (v := yR k0) rfl rfl ?_
    refine yG.getO A_hp.1 (w_M_placeOf W H_k0) rfl rfl (fun r3 H_r3 O_r3 q_r3 => ?_)
    refine yG.load xak rfl (fun _ _ => rfl) (v := yR k0) rfl rfl ?_
    refine yG.getO A_hp.1 (w_M_node W H_k0) rfl rfl (fun r4 H_r4 O_r4 q_r4 => ?_)
    refine yG.load xak rfl (fun _ _ => rfl) (v := yR k0) rfl rfl ?_
    refine yG.getI A_hp.1 (w_M_shortPlace W H_k0) rfl rfl (fun z5 e_z5 i_z5 l_z5 u_z5 => ?_)
    rw [show (z5 : Int) = gg1 by omega]
    have v26 := M_bSm k0 H_k0
    refine yG.iald A_hp.1 (v_M_node W H_r4) rfl (by omega) (by omega) (fun z6 e_z6 i_z6 l_z6 u_z6 => ?_)
    refine yG.iald A_hp.1 (v_M_placeOf W H_r3) rfl (by omega) (by omega) (fun z7 e_z7 i_z7 l_z7 u_z7 => ?_)
    refine yG.num (c := 1) rfl (fun _ _ => rfl) (by decide) ?_
    refine yG.iadd rfl ?_
    refine yG.ret rfl (fun _ _ => rfl) ?_
    exact (yP.int ⟨by omega, by omega⟩ ⟨⟨z7 + 1, rfl, by omega, by omega, trivial⟩, rfl⟩)
  · have c2 : (gg0 : Int) ≠ 0 := c2
    refine yG.load xak rfl (fun _ _ => rfl) (v := yR k0) rfl rfl ?_
    refine yG.getI A_hp.1 (w_M_nodes W H_k0) rfl rfl (fun z8 e_z8 i_z8 l_z8 u_z8 => ?_)
    refine yG.goto rfl (t := 30) rfl ?_
    refine yG.ret rfl (fun _ _ => rfl) ?_
    exact (yP.int ⟨by omega, by omega⟩ ⟨⟨z8, rfl, by omega, by omega, trivial⟩, rfl⟩)
theorem c_GModel_clearMatrix {hp : xH} (W : mW G) (d : Nat) (hT : zTy G hp) {k0 : Nat} (H_k0 : bRo G 116 k0) (p1 p2 : Int) (h1l : 0 ≤ p1) (h1u : p1 ≤ 20) (h2l : 0 ≤ p2) (h2u : p2 ≤ 48) : yC (xcall 89 xfts xpools xms (d + 1)) 369 [yR k0, yI (p1), yI (p2)] hp (fun rv hp' => (rv = none ∧ True) ∧ bAx G [(85070591730234615865843651857942052864, 256)] hp hp') := by
  have A_hp : bAx G [(85070591730234615865843651857942052864, 256)] hp hp := bAx.rf hT
  have H : ∀ m : Nat, (∀ a3 : Int, ∀ hq, bAx G [(85070591730234615865843651857942052864, 256)] hp hq → 0 ≤ a3 → (-20) ≤ 0 - a3 → 0 ≤ p1 → (-20) ≤ 0 - p1 → 0 ≤ p2 → (-48) ≤ 0 - p2 → 0 ≤ 0 - a3 + p1 → 0 - 99 * a3 + 2078 < (m : Int) → yG 89 xfts (xcall 89 xfts xpools xms d) (xpool xp_RX13) [] xt_X13_clearMatrix (yP 0 (fun rv hp' => (rv = none ∧ True) ∧ bAx G [(85070591730234615865843651857942052864, 256)] hp hp')) (16 * m) 2 [(0, yR k0), (1, yI (p1)), (2, yI (p2)), (3, yI (a3))] [] hq) ∧ (∀ a3 : Int, ∀ a4 : Int, ∀ hq, bAx G [(85070591730234615865843651857942052864, 256)] hp hq → 0 ≤ a3 → (-19) ≤ 0 - a3 → 0 ≤ a4 → (-48) ≤ 0 - a4 → 1 ≤ p1 → (-20) ≤ 0 - p1 → 0 ≤ p2 → (-48) ≤ 0 - p2 → 1 ≤ 0 - a3 + p1 → 0 ≤ 0 - a4 + p2 → 0 - 99 * a3 - 2 * a4 + 2077 < (m : Int) → yG 89 xfts (xcall 89 xfts xpools xms d) (xpool xp_RX13) [] xt_X13_clearMatrix (yP 0 (fun rv hp' => (rv = none ∧ True) ∧ bAx G [(85070591730234615865843651857942052864, 256)] hp hp')) (16 * m) 10 [(0, yR k0), (1, yI (p1)), (2, yI (p2)), (3, yI (a3)), (4, yI (a4))] [] hq) := by
    intro m
    induction m with
    | zero =>
      refine ⟨?_, ?_⟩ <;> (intros; exfalso; omega)
    | succ m ih =>
      obtain ⟨i_2, i_10⟩ := ih
      refine ⟨?_, ?_⟩
      · intro a3 hq A_hq f0 f1 f2 f3 f4 f5 f6 hm
        refine yG.mono (N := 16 * m + 16) ?_ (by omega)
        refine yG.load xik rfl (fun _ _ => rfl) (v := yI (a3)) rfl rfl ?_
        refine yG.load xik rfl (fun _ _ => rfl) (v := yI (p1)) rfl rfl ?_
        refine yG.icmp rfl (t := 41) rfl ⟨by omega, by omega⟩ ⟨by omega, by omega⟩ (fun c1 => ?_) (fun c1 => ?_)
        · have c1 : (a3 : Int) ≥ p1 := c1
          refine yG.ret rfl (fun _ _ => rfl) ?_
          exact (yP.void ⟨⟨rfl, trivial⟩, A_hq⟩)
        · have c1 : (a3 : Int) < p1 := c1
          refine yG.num (c := 0) rfl (fun _ _ => rfl) (by decide) ?_
          refine yG.store1 xik (L' := [(4, yI (0)), (0, yR k0), (1, yI (p1)), (2, yI (p2)), (3, yI (a3))]) rfl (fun _ _ => rfl) rfl rfl ?_
          exact yG.mono (yG.sub (i_10 (a3) (0)  hq A_hq   (by omega) (by omega) (by omega) (by omega) (by omega) (by omega) (by omega) (by omega) (by omega) (by omega) (by omega)) (ySub.cons rfl (ySub.cons rfl (ySub.cons rfl (ySub.cons rfl (ySub.cons rfl (ySub.nil))))))) (by omega)
      · intro a3 a4 hq A_hq f0 f1 f2 f3 f4 f5 f6 f7 f8 f9 hm
        refine yG.mono (N := 16 * m + 16) ?_ (by omega)
        refine yG.load xik rfl (fun _ _ => rfl) (v := yI (a4)) rfl rfl ?_
        refine yG.load xik rfl (fun _ _ => rfl) (v := yI (p2)) rfl rfl ?_
        refine yG.icmp rfl (t := 35) rfl ⟨by omega, by omega⟩ ⟨by omega, by omega⟩ (fun c1 => ?_) (fun c1 => ?_)
        · have c1 : (a4 : Int) ≥ p2 := c1
          refine yG.iinc rfl (a := a3) rfl (L' := [(3, yI (a3 + 1)), (0, yR k0), (1, yI (p1)), (2, yI (p2)), (4, yI (a4))]) rfl ?_
          refine yG.goto rfl (t := 2) rfl ?_
          exact yG.mono (yG.sub (i_2 (a3 + 1)  hq A_hq   (by omega) (by omega) (by omega) (by omega) (by omega) (by omega) (by omega) (by omega)) (ySub.cons rfl (ySub.cons rfl (ySub.cons rfl (ySub.cons rfl (ySub.nil)))))) (by omega)
        · have c1 : (a4 : Int) < p2 := c1
          refine yG.load xak rfl (fun _ _ => rfl) (v := yR k0) rfl rfl ?_
          refine yG.getO A_hq.1 (w_M_matrix W H_k0) rfl rfl (fun r2 H_r2 O_r2 q_r2 => ?_)
          refine yG.num (c := 48) rfl (fun _ _ => rfl) (by decide) ?_
          refine yG.load xik rfl (fun _ _ => rfl) (v := yI (a3)) rfl rfl ?_
          refine yG.imul rfl ?_
          refine yG.load xik rfl (fun _ _ => rfl) (v := yI (a4)) rfl rfl ?_
          refine yG.iadd rfl ?_
          refine yG.numl (c := 0) rfl (fun _ _ => rfl) (by decide) ?_
          refine yG.last A_hq.1 (v_M_matrix W H_r2) (W.2.1 _ _ H_r2 (by decide) (by decide)) rfl (by omega) (by omega) ⟨by omega, by omega⟩ (by omega) (by omega) (fun h3 T_h3 b_h3 f_h3 y_h3 => ?_)
          have A_h3 := A_hq.put T_h3 b_h3 f_h3 H_r2 (bAll_ok (by decide) _)
          refine yG.iinc rfl (a := a4) rfl (L' := [(4, yI (a4 + 1)), (0, yR k0), (1, yI (p1)), (2, yI (p2)), (3, yI (a3))]) rfl ?_
          refine yG.goto rfl (t := 10) rfl ?_
          exact yG.mono (yG.sub (i_10 (a3) (a4 + 1)  h3 A_h3   (by omega) (by omega) (by omega) (by omega) (by omega) (by omega) (by omega) (by omega) (by omega) (by omega) (by omega)) (ySub.cons rfl (ySub.cons rfl (ySub.cons rfl (ySub.cons rfl (ySub.cons rfl (ySub.nil))))))) (by omega)
  refine yC.of (M := (xt_X13_clearMatrix, (5, (0, (14, []))))) rfl rfl (N := 33296) (yfuel (by decide)) ?_
  show yG 89 xfts (xcall 89 xfts xpools xms d) (xpool xp_RX13) [] xt_X13_clearMatrix (yP 0 (fun rv hp' => (rv = none ∧ True) ∧ bAx G [(85070591730234615865843651857942052864, 256)] hp hp')) 33296 0 [(0, yR k0), (1, yI (p1)), (2, yI (p2))] [] hp
  obtain ⟨i_2, i_10⟩ := H 2080
  refine yG.num (c := 0) rfl (fun _ _ => rfl) (by decide) ?_
  refine yG.store1 xik (L' := [(3, yI (0)), (0, yR k0), (1, yI (p1)), (2, yI (p2))]) rfl (fun _ _ => rfl) rfl rfl ?_
  exact yG.mono (yG.sub (i_2 (0)  hp A_hp   (by omega) (by omega) (by omega) (by omega) (by omega) (by omega) (by omega) (by omega)) (ySub.cons rfl (ySub.cons rfl (ySub.cons rfl (ySub.cons rfl (ySub.nil)))))) (by omega)
end MMore
