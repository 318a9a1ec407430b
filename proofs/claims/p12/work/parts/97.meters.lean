/-! ===== the class: meters, printed by a program ===== -/
section BMeters
variable {G : zW}
theorem c_Meters_clear {hp : xH} (W : bW G) (d : Nat) (hT : zTy G hp) {k0 : Nat} (H_k0 : bRo G 62 k0) : yC (xcall 89 xfts xpools xms (d + 1)) 124 [yR k0] hp (fun rv hp' => (rv = none ∧ True) ∧ bAx G [(4611686018427387904, 8), (4611686018427387904, 9)] hp hp') := by
  have A_hp : bAx G [(4611686018427387904, 8), (4611686018427387904, 9)] hp hp := bAx.rf hT
  refine yC.of (M := (xt_X4_clear, (1, (0, (5, []))))) rfl rfl (N := 27) (yfuel (by decide)) ?_
  show yG 89 xfts (xcall 89 xfts xpools xms d) (xpool xp_RX4) [] xt_X4_clear (yP 0 (fun rv hp' => (rv = none ∧ True) ∧ bAx G [(4611686018427387904, 8), (4611686018427387904, 9)] hp hp')) 27 0 [(0, yR k0)] [] hp
  refine yG.load xak rfl (fun _ _ => rfl) (v := yR k0) rfl rfl ?_
  refine yG.num (c := 0) rfl (fun _ _ => rfl) (by decide) ?_
  refine yG.putI A_hp.1 (w_Meters_count W H_k0) (W.2.1 _ _ H_k0 (by decide) (by decide)) rfl rfl (.inl rfl) ⟨by omega, by omega⟩ (by omega) (by omega) (fun h1 T_h1 b_h1 f_h1 y_h1 => ?_)
  have A_h1 := A_hp.put T_h1 b_h1 f_h1 H_k0 (by decide)
  refine yG.load xak rfl (fun _ _ => rfl) (v := yR k0) rfl rfl ?_
  refine yG.num (c := 0) rfl (fun _ _ => rfl) (by decide) ?_
  refine yG.putI A_h1.1 (w_Meters_known W H_k0) (W.2.1 _ _ H_k0 (by decide) (by decide)) rfl rfl (.inr ⟨rfl, rfl, rfl⟩) ⟨by omega, by omega⟩ (by omega) (by omega) (fun h2 T_h2 b_h2 f_h2 y_h2 => ?_)
  have A_h2 := A_h1.put T_h2 b_h2 f_h2 H_k0 (by decide)
  refine yG.ret rfl (fun _ _ => rfl) ?_
  exact (yP.void ⟨⟨rfl, trivial⟩, A_h2⟩)
theorem c_Meters_told_0 {hp : xH} (W : bW G) (d : Nat) (hT : zTy G hp) (M_bMk : bMk G hp) {k0 : Nat} (H_k0 : bRo G 62 k0) (p1 p2 p3 p4 : Int) (h1l : 0 ≤ p1) (h1u : p1 ≤ 0) (h2l : 0 ≤ p2) (h2u : p2 ≤ 19) (h3l : (-2147483648) ≤ p3) (h3u : p3 ≤ 2147483647) (h4l : (-2147483648) ≤ p4) (h4u : p4 ≤ 2147483647) : yC (xcall 89 xfts xpools xms (d + 1)) 146 [yR k0, yI (p1), yI (p2), yI (p3), yI (p4)] hp (fun rv hp' => (bQi G [(4611686018427387904, 8), (4611686018427387904, 9), (285924533142498050048, 256)] hp 0 32 (fun _ => True)) rv hp' ∧ bMk G hp') := by
  have A_hp : bAx G [(4611686018427387904, 8), (4611686018427387904, 9), (285924533142498050048, 256)] hp hp := bAx.rf hT
  have M_bMk_hp := M_bMk
  refine yC.of (M := (xt_X4_told, (6, (1, (5, []))))) rfl rfl (N := 132) (yfuel (by decide)) ?_
  show yG 89 xfts (xcall 89 xfts xpools xms d) (xpool xp_RX4) [] xt_X4_told (yP 1 (fun rv hp' => (bQi G [(4611686018427387904, 8), (4611686018427387904, 9), (285924533142498050048, 256)] hp 0 32 (fun _ => True)) rv hp' ∧ bMk G hp')) 132 0 [(0, yR k0), (1, yI (p1)), (2, yI (p2)), (3, yI (p3)), (4, yI (p4))] [] hp
  refine yG.load xak rfl (fun _ _ => rfl) (v := yR k0) rfl rfl ?_
  refine yG.getI A_hp.1 (w_Meters_count W H_k0) rfl rfl (fun z1 e_z1 i_z1 l_z1 u_z1 => ?_)
  refine yG.store1 xik (L' := [(5, yI (z1)), (0, yR k0), (1, yI (p1)), (2, yI (p2)), (3, yI (p3)), (4, yI (p4))]) rfl (fun _ _ => rfl) rfl rfl ?_
  refine yG.load xik rfl (fun _ _ => rfl) (v := yI (z1)) rfl rfl ?_
  refine yG.num (c := 32) rfl (fun _ _ => rfl) (by decide) ?_
  refine yG.icmp rfl (t := 69) rfl ⟨by omega, by omega⟩ ⟨by omega, by omega⟩ (fun c2 => ?_) (fun c2 => ?_)
  · have c2 : (z1 : Int) ≥ 32 := c2
    refine yG.load xik rfl (fun _ _ => rfl) (v := yI (z1)) rfl rfl ?_
    refine yG.ret rfl (fun _ _ => rfl) ?_
    exact (yP.int ⟨by omega, by omega⟩ ⟨⟨⟨z1, rfl, by omega, by omega, trivial⟩, A_hp⟩, M_bMk_hp⟩)
  · have c2 : (z1 : Int) < 32 := c2
    refine yG.load xak rfl (fun _ _ => rfl) (v := yR k0) rfl rfl ?_
    refine yG.getO A_hp.1 (w_Meters_kind W H_k0) rfl rfl (fun r3 H_r3 O_r3 q_r3 => ?_)
    refine yG.load xik rfl (fun _ _ => rfl) (v := yI (z1)) rfl rfl ?_
    refine yG.load xik rfl (fun _ _ => rfl) (v := yI (p1)) rfl rfl ?_
    refine yG.iast A_hp.1 (v_Meters_kind W H_r3) (W.2.1 _ _ H_r3 (by decide) (by decide)) rfl (by omega) (by omega) ⟨by omega, by omega⟩ (by omega) (by omega) (fun h4 T_h4 b_h4 f_h4 y_h4 => ?_)
    have A_h4 := A_hp.put T_h4 b_h4 f_h4 H_r3 (bAll_ok (by decide) _)
    have : ys h4 k0 8 = ys hp k0 8 := (y_h4 k0 8).trans (if_neg (fun e => (bRo.ne H_k0 H_r3 (by decide)) e.1))
    refine yG.load xak rfl (fun _ _ => rfl) (v := yR k0) rfl rfl ?_
    refine yG.getO A_h4.1 (w_Meters_place W H_k0) rfl rfl (fun r5 H_r5 O_r5 q_r5 => ?_)
    refine yG.load xik rfl (fun _ _ => rfl) (v := yI (z1)) rfl rfl ?_
    refine yG.load xik rfl (fun _ _ => rfl) (v := yI (p2)) rfl rfl ?_
    refine yG.iast A_h4.1 (v_Meters_place W H_r5) (W.2.1 _ _ H_r5 (by decide) (by decide)) rfl (by omega) (by omega) ⟨by omega, by omega⟩ (by omega) (by omega) (fun h6 T_h6 b_h6 f_h6 y_h6 => ?_)
    have A_h6 := A_h4.put T_h6 b_h6 f_h6 H_r5 (bAll_ok (by decide) _)
    have : ys h6 k0 8 = ys h4 k0 8 := (y_h6 k0 8).trans (if_neg (fun e => (bRo.ne H_k0 H_r5 (by decide)) e.1))
    refine yG.load xak rfl (fun _ _ => rfl) (v := yR k0) rfl rfl ?_
    refine yG.getO A_h6.1 (w_Meters_value W H_k0) rfl rfl (fun r7 H_r7 O_r7 q_r7 => ?_)
    refine yG.load xik rfl (fun _ _ => rfl) (v := yI (z1)) rfl rfl ?_
    refine yG.load xik rfl (fun _ _ => rfl) (v := yI (p3)) rfl rfl ?_
    refine yG.iast A_h6.1 (v_Meters_value W H_r7) (W.2.1 _ _ H_r7 (by decide) (by decide)) rfl (by omega) (by omega) ⟨by omega, by omega⟩ (by omega) (by omega) (fun h8 T_h8 b_h8 f_h8 y_h8 => ?_)
    have A_h8 := A_h6.put T_h8 b_h8 f_h8 H_r7 (bAll_ok (by decide) _)
    have : ys h8 k0 8 = ys h6 k0 8 := (y_h8 k0 8).trans (if_neg (fun e => (bRo.ne H_k0 H_r7 (by decide)) e.1))
    refine yG.load xak rfl (fun _ _ => rfl) (v := yR k0) rfl rfl ?_
    refine yG.getO A_h8.1 (w_Meters_weight W H_k0) rfl rfl (fun r9 H_r9 O_r9 q_r9 => ?_)
    refine yG.load xik rfl (fun _ _ => rfl) (v := yI (z1)) rfl rfl ?_
    refine yG.load xik rfl (fun _ _ => rfl) (v := yI (p4)) rfl rfl ?_
    refine yG.iast A_h8.1 (v_Meters_weight W H_r9) (W.2.1 _ _ H_r9 (by decide) (by decide)) rfl (by omega) (by omega) ⟨by omega, by omega⟩ (by omega) (by omega) (fun h10 T_h10 b_h10 f_h10 y_h10 => ?_)
    have A_h10 := A_h8.put T_h10 b_h10 f_h10 H_r9 (bAll_ok (by decide) _)
    have : ys h10 k0 8 = ys h8 k0 8 := (y_h10 k0 8).trans (if_neg (fun e => (bRo.ne H_k0 H_r9 (by decide)) e.1))
    refine yG.load xak rfl (fun _ _ => rfl) (v := yR k0) rfl rfl ?_
    refine yG.getO A_h10.1 (w_Meters_struck W H_k0) rfl rfl (fun r11 H_r11 O_r11 q_r11 => ?_)
    refine yG.load xik rfl (fun _ _ => rfl) (v := yI (z1)) rfl rfl ?_
    refine yG.num (c := 0) rfl (fun _ _ => rfl) (by decide) ?_
    refine yG.bast A_h10.1 (v_Meters_struck W H_r11) (W.2.1 _ _ H_r11 (by decide) (by decide)) rfl (by omega) (by omega) ⟨by omega, by omega⟩ (by omega) (by omega) (fun h12 T_h12 b_h12 f_h12 y_h12 => ?_)
    have A_h12 := A_h10.put T_h12 b_h12 f_h12 H_r11 (bAll_ok (by decide) _)
    have : ys h12 k0 8 = ys h10 k0 8 := (y_h12 k0 8).trans (if_neg (fun e => (bRo.ne H_k0 H_r11 (by decide)) e.1))
    refine yG.load xak rfl (fun _ _ => rfl) (v := yR k0) rfl rfl ?_
    refine yG.step (pc' := 56) (stk' := [yR k0, yR k0]) rfl (fun _ _ => rfl) ?_
    refine yG.getI A_h12.1 (w_Meters_count W H_k0) rfl rfl (fun z13 e_z13 i_z13 l_z13 u_z13 => ?_)
    refine yG.num (c := 1) rfl (fun _ _ => rfl) (by decide) ?_
    refine yG.iadd rfl ?_
    refine yG.putI A_h12.1 (w_Meters_count W H_k0) (W.2.1 _ _ H_k0 (by decide) (by decide)) rfl rfl (.inl rfl) ⟨by omega, by omega⟩ (by omega) (by omega) (fun h14 T_h14 b_h14 f_h14 y_h14 => ?_)
    have A_h14 := A_h12.put T_h14 b_h14 f_h14 H_k0 (by decide)
    have : ys h14 k0 8 = z13 + 1 := (y_h14 k0 8).trans (if_pos ⟨rfl, rfl⟩)
    refine yG.load xak rfl (fun _ _ => rfl) (v := yR k0) rfl rfl ?_
    refine yG.num (c := 0) rfl (fun _ _ => rfl) (by decide) ?_
    refine yG.putI A_h14.1 (w_Meters_known W H_k0) (W.2.1 _ _ H_k0 (by decide) (by decide)) rfl rfl (.inr ⟨rfl, rfl, rfl⟩) ⟨by omega, by omega⟩ (by omega) (by omega) (fun h15 T_h15 b_h15 f_h15 y_h15 => ?_)
    have A_h15 := A_h14.put T_h15 b_h15 f_h15 H_k0 (by decide)
    have : ys h15 k0 8 = ys h14 k0 8 := (y_h15 k0 8).trans (if_neg (fun e => absurd e.2 (by decide)))
    refine yG.load xik rfl (fun _ _ => rfl) (v := yI (z1)) rfl rfl ?_
    refine yG.ret rfl (fun _ _ => rfl) ?_
    have M_bMk_h15 : bMk G h15 := fun q1 q2 H1 H2 m hm => by
      have y1 : q1 = r3 := (u_Meters_kind W H1).trans (u_Meters_kind W H_r3).symm
      have y2 : q2 = r5 := (u_Meters_place W H2).trans (u_Meters_place W H_r5).symm
      have v9 := M_bMk_hp q1 q2 H1 H2 m hm
      by_cases e : m = (z1 : Int).toNat
      · skip
        have : ys h4 q1 m = p1 := (y_h4 q1 m).trans (if_pos ⟨y1, e⟩)
        have : ys h6 q1 m = ys h4 q1 m := (y_h6 q1 m).trans (if_neg (fun z => bRo.ne H1 H_r5 (by decide) z.1))
        have : ys h8 q1 m = ys h6 q1 m := (y_h8 q1 m).trans (if_neg (fun z => bRo.ne H1 H_r7 (by decide) z.1))
        have : ys h10 q1 m = ys h8 q1 m := (y_h10 q1 m).trans (if_neg (fun z => bRo.ne H1 H_r9 (by decide) z.1))
        have : ys h12 q1 m = ys h10 q1 m := (y_h12 q1 m).trans (if_neg (fun z => bRo.ne H1 H_r11 (by decide) z.1))
        have : ys h14 q1 m = ys h12 q1 m := (y_h14 q1 m).trans (if_neg (fun z => bRo.ne H1 H_k0 (by decide) z.1))
        have : ys h15 q1 m = ys h14 q1 m := (y_h15 q1 m).trans (if_neg (fun z => bRo.ne H1 H_k0 (by decide) z.1))
        have : ys h4 q2 m = ys hp q2 m := (y_h4 q2 m).trans (if_neg (fun z => bRo.ne H2 H_r3 (by decide) z.1))
        have : ys h6 q2 m = p2 := (y_h6 q2 m).trans (if_pos ⟨y2, e⟩)
        have : ys h8 q2 m = ys h6 q2 m := (y_h8 q2 m).trans (if_neg (fun z => bRo.ne H2 H_r7 (by decide) z.1))
        have : ys h10 q2 m = ys h8 q2 m := (y_h10 q2 m).trans (if_neg (fun z => bRo.ne H2 H_r9 (by decide) z.1))
        have : ys h12 q2 m = ys h10 q2 m := (y_h12 q2 m).trans (if_neg (fun z => bRo.ne H2 H_r11 (by decide) z.1))
        have : ys h14 q2 m = ys h12 q2 m := (y_h14 q2 m).trans (if_neg (fun z => bRo.ne H2 H_k0 (by decide) z.1))
        have : ys h15 q2 m = ys h14 q2 m := (y_h15 q2 m).trans (if_neg (fun z => bRo.ne H2 H_k0 (by decide) z.1))
        omega
      · skip
        have : ys h4 q1 m = ys hp q1 m := (y_h4 q1 m).trans (if_neg (fun z => e z.2))
        have : ys h6 q1 m = ys h4 q1 m := (y_h6 q1 m).trans (if_neg (fun z => bRo.ne H1 H_r5 (by decide) z.1))
        have : ys h8 q1 m = ys h6 q1 m := (y_h8 q1 m).trans (if_neg (fun z => bRo.ne H1 H_r7 (by decide) z.1))
        have : ys h10 q1 m = ys h8 q1 m := (y_h10 q1 m).trans (if_neg (fun z => bRo.ne H1 H_r9 (by decide) z.1))
        have : ys h12 q1 m = ys h10 q1 m := (y_h12 q1 m).trans (if_neg (fun z => bRo.ne H1 H_r11 (by decide) z.1))
        have : ys h14 q1 m = ys h12 q1 m := (y_h14 q1 m).trans (if_neg (fun z => bRo.ne H1 H_k0 (by decide) z.1))
        have : ys h15 q1 m = ys h14 q1 m := (y_h15 q1 m).trans (if_neg (fun z => bRo.ne H1 H_k0 (by decide) z.1))
        have : ys h4 q2 m = ys hp q2 m := (y_h4 q2 m).trans (if_neg (fun z => bRo.ne H2 H_r3 (by decide) z.1))
        have : ys h6 q2 m = ys h4 q2 m := (y_h6 q2 m).trans (if_neg (fun z => e z.2))
        have : ys h8 q2 m = ys h6 q2 m := (y_h8 q2 m).trans (if_neg (fun z => bRo.ne H2 H_r7 (by decide) z.1))
        have : ys h10 q2 m = ys h8 q2 m := (y_h10 q2 m).trans (if_neg (fun z => bRo.ne H2 H_r9 (by decide) z.1))
        have : ys h12 q2 m = ys h10 q2 m := (y_h12 q2 m).trans (if_neg (fun z => bRo.ne H2 H_r11 (by decide) z.1))
        have : ys h14 q2 m = ys h12 q2 m := (y_h14 q2 m).trans (if_neg (fun z => bRo.ne H2 H_k0 (by decide) z.1))
        have : ys h15 q2 m = ys h14 q2 m := (y_h15 q2 m).trans (if_neg (fun z => bRo.ne H2 H_k0 (by decide) z.1))
        omega
    exact (yP.int ⟨by omega, by omega⟩ ⟨⟨⟨z1, rfl, by omega, by omega, trivial⟩, A_h15⟩, M_bMk_h15⟩)
theorem c_Meters_told_1 {hp : xH} (W : bW G) (d : Nat) (hT : zTy G hp) (M_bMk : bMk G hp) {k0 : Nat} (H_k0 : bRo G 62 k0) (p1 p2 p3 p4 : Int) (h1l : 1 ≤ p1) (h1u : p1 ≤ 2) (h2l : 0 ≤ p2) (h2u : p2 ≤ 15) (h3l : (-2147483648) ≤ p3) (h3u : p3 ≤ 2147483647) (h4l : (-2147483648) ≤ p4) (h4u : p4 ≤ 2147483647) : yC (xcall 89 xfts xpools xms (d + 1)) 146 [yR k0, yI (p1), yI (p2), yI (p3), yI (p4)] hp (fun rv hp' => (bQi G [(4611686018427387904, 8), (4611686018427387904, 9), (285924533142498050048, 256)] hp 0 32 (fun _ => True)) rv hp' ∧ bMk G hp') := by
  have A_hp : bAx G [(4611686018427387904, 8), (4611686018427387904, 9), (285924533142498050048, 256)] hp hp := bAx.rf hT
  have M_bMk_hp := M_bMk
  refine yC.of (M := (xt_X4_told, (6, (1, (5, []))))) rfl rfl (N := 132) (yfuel (by decide)) ?_
  show yG 89 xfts (xcall 89 xfts xpools xms d) (xpool xp_RX4) [] xt_X4_told (yP 1 (fun rv hp' => (bQi G [(4611686018427387904, 8), (4611686018427387904, 9), (285924533142498050048, 256)] hp 0 32 (fun _ => True)) rv hp' ∧ bMk G hp')) 132 0 [(0, yR k0), (1, yI (p1)), (2, yI (p2)), (3, yI (p3)), (4, yI (p4))] [] hp
  refine yG.load xak rfl (fun _ _ => rfl) (v := yR k0) rfl rfl ?_
  refine yG.getI A_hp.1 (w_Meters_count W H_k0) rfl rfl (fun z1 e_z1 i_z1 l_z1 u_z1 => ?_)
  refine yG.store1 xik (L' := [(5, yI (z1)), (0, yR k0), (1, yI (p1)), (2, yI (p2)), (3, yI (p3)), (4, yI (p4))]) rfl (fun _ _ => rfl) rfl rfl ?_
  refine yG.load xik rfl (fun _ _ => rfl) (v := yI (z1)) rfl rfl ?_
  refine yG.num (c := 32) rfl (fun _ _ => rfl) (by decide) ?_
  refine yG.icmp rfl (t := 69) rfl ⟨by omega, by omega⟩ ⟨by omega, by omega⟩ (fun c2 => ?_) (fun c2 => ?_)
  · have c2 : (z1 : Int) ≥ 32 := c2
    refine yG.load xik rfl (fun _ _ => rfl) (v := yI (z1)) rfl rfl ?_
    refine yG.ret rfl (fun _ _ => rfl) ?_
    exact (yP.int ⟨by omega, by omega⟩ ⟨⟨⟨z1, rfl, by omega, by omega, trivial⟩, A_hp⟩, M_bMk_hp⟩)
  · have c2 : (z1 : Int) < 32 := c2
    refine yG.load xak rfl (fun _ _ => rfl) (v := yR k0) rfl rfl ?_
    refine yG.getO A_hp.1 (w_Meters_kind W H_k0) rfl rfl (fun r3 H_r3 O_r3 q_r3 => ?_)
    refine yG.load xik rfl (fun _ _ => rfl) (v := yI (z1)) rfl rfl ?_
    refine yG.load xik rfl (fun _ _ => rfl) (v := yI (p1)) rfl rfl ?_
    refine yG.iast A_hp.1 (v_Meters_kind W H_r3) (W.2.1 _ _ H_r3 (by decide) (by decide)) rfl (by omega) (by omega) ⟨by omega, by omega⟩ (by omega) (by omega) (fun h4 T_h4 b_h4 f_h4 y_h4 => ?_)
    have A_h4 := A_hp.put T_h4 b_h4 f_h4 H_r3 (bAll_ok (by decide) _)
    have : ys h4 k0 8 = ys hp k0 8 := (y_h4 k0 8).trans (if_neg (fun e => (bRo.ne H_k0 H_r3 (by decide)) e.1))
    refine yG.load xak rfl (fun _ _ => rfl) (v := yR k0) rfl rfl ?_
    refine yG.getO A_h4.1 (w_Meters_place W H_k0) rfl rfl (fun r5 H_r5 O_r5 q_r5 => ?_)
    refine yG.load xik rfl (fun _ _ => rfl) (v := yI (z1)) rfl rfl ?_
    refine yG.load xik rfl (fun _ _ => rfl) (v := yI (p2)) rfl rfl ?_
    refine yG.iast A_h4.1 (v_Meters_place W H_r5) (W.2.1 _ _ H_r5 (by decide) (by decide)) rfl (by omega) (by omega) ⟨by omega, by omega⟩ (by omega) (by omega) (fun h6 T_h6 b_h6 f_h6 y_h6 => ?_)
    have A_h6 := A_h4.put T_h6 b_h6 f_h6 H_r5 (bAll_ok (by decide) _)
    have : ys h6 k0 8 = ys h4 k0 8 := (y_h6 k0 8).trans (if_neg (fun e => (bRo.ne H_k0 H_r5 (by decide)) e.1))
    refine yG.load xak rfl (fun _ _ => rfl) (v := yR k0) rfl rfl ?_
    refine yG.getO A_h6.1 (w_Meters_value W H_k0) rfl rfl (fun r7 H_r7 O_r7 q_r7 => ?_)
    refine yG.load xik rfl (fun _ _ => rfl) (v := yI (z1)) rfl rfl ?_
    refine yG.load xik rfl (fun _ _ => rfl) (v := yI (p3)) rfl rfl ?_
    refine yG.iast A_h6.1 (v_Meters_value W H_r7) (W.2.1 _ _ H_r7 (by decide) (by decide)) rfl (by omega) (by omega) ⟨by omega, by omega⟩ (by omega) (by omega) (fun h8 T_h8 b_h8 f_h8 y_h8 => ?_)
    have A_h8 := A_h6.put T_h8 b_h8 f_h8 H_r7 (bAll_ok (by decide) _)
    have : ys h8 k0 8 = ys h6 k0 8 := (y_h8 k0 8).trans (if_neg (fun e => (bRo.ne H_k0 H_r7 (by decide)) e.1))
    refine yG.load xak rfl (fun _ _ => rfl) (v := yR k0) rfl rfl ?_
    refine yG.getO A_h8.1 (w_Meters_weight W H_k0) rfl rfl (fun r9 H_r9 O_r9 q_r9 => ?_)
    refine yG.load xik rfl (fun _ _ => rfl) (v := yI (z1)) rfl rfl ?_
    refine yG.load xik rfl (fun _ _ => rfl) (v := yI (p4)) rfl rfl ?_
    refine yG.iast A_h8.1 (v_Meters_weight W H_r9) (W.2.1 _ _ H_r9 (by decide) (by decide)) rfl (by omega) (by omega) ⟨by omega, by omega⟩ (by omega) (by omega) (fun h10 T_h10 b_h10 f_h10 y_h10 => ?_)
    have A_h10 := A_h8.put T_h10 b_h10 f_h10 H_r9 (bAll_ok (by decide) _)
    have : ys h10 k0 8 = ys h8 k0 8 := (y_h10 k0 8).trans (if_neg (fun e => (bRo.ne H_k0 H_r9 (by decide)) e.1))
    refine yG.load xak rfl (fun _ _ => rfl) (v := yR k0) rfl rfl ?_
    refine yG.getO A_h10.1 (w_Meters_struck W H_k0) rfl rfl (fun r11 H_r11 O_r11 q_r11 => ?_)
    refine yG.load xik rfl (fun _ _ => rfl) (v := yI (z1)) rfl rfl ?_
    refine yG.num (c := 0) rfl (fun _ _ => rfl) (by decide) ?_
    refine yG.bast A_h10.1 (v_Meters_struck W H_r11) (W.2.1 _ _ H_r11 (by decide) (by decide)) rfl (by omega) (by omega) ⟨by omega, by omega⟩ (by omega) (by omega) (fun h12 T_h12 b_h12 f_h12 y_h12 => ?_)
    have A_h12 := A_h10.put T_h12 b_h12 f_h12 H_r11 (bAll_ok (by decide) _)
    have : ys h12 k0 8 = ys h10 k0 8 := (y_h12 k0 8).trans (if_neg (fun e => (bRo.ne H_k0 H_r11 (by decide)) e.1))
    refine yG.load xak rfl (fun _ _ => rfl) (v := yR k0) rfl rfl ?_
    refine yG.step (pc' := 56) (stk' := [yR k0, yR k0]) rfl (fun _ _ => rfl) ?_
    refine yG.getI A_h12.1 (w_Meters_count W H_k0) rfl rfl (fun z13 e_z13 i_z13 l_z13 u_z13 => ?_)
    refine yG.num (c := 1) rfl (fun _ _ => rfl) (by decide) ?_
    refine yG.iadd rfl ?_
    refine yG.putI A_h12.1 (w_Meters_count W H_k0) (W.2.1 _ _ H_k0 (by decide) (by decide)) rfl rfl (.inl rfl) ⟨by omega, by omega⟩ (by omega) (by omega) (fun h14 T_h14 b_h14 f_h14 y_h14 => ?_)
    have A_h14 := A_h12.put T_h14 b_h14 f_h14 H_k0 (by decide)
    have : ys h14 k0 8 = z13 + 1 := (y_h14 k0 8).trans (if_pos ⟨rfl, rfl⟩)
    refine yG.load xak rfl (fun _ _ => rfl) (v := yR k0) rfl rfl ?_
    refine yG.num (c := 0) rfl (fun _ _ => rfl) (by decide) ?_
    refine yG.putI A_h14.1 (w_Meters_known W H_k0) (W.2.1 _ _ H_k0 (by decide) (by decide)) rfl rfl (.inr ⟨rfl, rfl, rfl⟩) ⟨by omega, by omega⟩ (by omega) (by omega) (fun h15 T_h15 b_h15 f_h15 y_h15 => ?_)
    have A_h15 := A_h14.put T_h15 b_h15 f_h15 H_k0 (by decide)
    have : ys h15 k0 8 = ys h14 k0 8 := (y_h15 k0 8).trans (if_neg (fun e => absurd e.2 (by decide)))
    refine yG.load xik rfl (fun _ _ => rfl) (v := yI (z1)) rfl rfl ?_
    refine yG.ret rfl (fun _ _ => rfl) ?_
    have M_bMk_h15 : bMk G h15 := fun q1 q2 H1 H2 m hm => by
      have y1 : q1 = r3 := (u_Meters_kind W H1).trans (u_Meters_kind W H_r3).symm
      have y2 : q2 = r5 := (u_Meters_place W H2).trans (u_Meters_place W H_r5).symm
      have v9 := M_bMk_hp q1 q2 H1 H2 m hm
      by_cases e : m = (z1 : Int).toNat
      · skip
        have : ys h4 q1 m = p1 := (y_h4 q1 m).trans (if_pos ⟨y1, e⟩)
        have : ys h6 q1 m = ys h4 q1 m := (y_h6 q1 m).trans (if_neg (fun z => bRo.ne H1 H_r5 (by decide) z.1))
        have : ys h8 q1 m = ys h6 q1 m := (y_h8 q1 m).trans (if_neg (fun z => bRo.ne H1 H_r7 (by decide) z.1))
        have : ys h10 q1 m = ys h8 q1 m := (y_h10 q1 m).trans (if_neg (fun z => bRo.ne H1 H_r9 (by decide) z.1))
        have : ys h12 q1 m = ys h10 q1 m := (y_h12 q1 m).trans (if_neg (fun z => bRo.ne H1 H_r11 (by decide) z.1))
        have : ys h14 q1 m = ys h12 q1 m := (y_h14 q1 m).trans (if_neg (fun z => bRo.ne H1 H_k0 (by decide) z.1))
        have : ys h15 q1 m = ys h14 q1 m := (y_h15 q1 m).trans (if_neg (fun z => bRo.ne H1 H_k0 (by decide) z.1))
        have : ys h4 q2 m = ys hp q2 m := (y_h4 q2 m).trans (if_neg (fun z => bRo.ne H2 H_r3 (by decide) z.1))
        have : ys h6 q2 m = p2 := (y_h6 q2 m).trans (if_pos ⟨y2, e⟩)
        have : ys h8 q2 m = ys h6 q2 m := (y_h8 q2 m).trans (if_neg (fun z => bRo.ne H2 H_r7 (by decide) z.1))
        have : ys h10 q2 m = ys h8 q2 m := (y_h10 q2 m).trans (if_neg (fun z => bRo.ne H2 H_r9 (by decide) z.1))
        have : ys h12 q2 m = ys h10 q2 m := (y_h12 q2 m).trans (if_neg (fun z => bRo.ne H2 H_r11 (by decide) z.1))
        have : ys h14 q2 m = ys h12 q2 m := (y_h14 q2 m).trans (if_neg (fun z => bRo.ne H2 H_k0 (by decide) z.1))
        have : ys h15 q2 m = ys h14 q2 m := (y_h15 q2 m).trans (if_neg (fun z => bRo.ne H2 H_k0 (by decide) z.1))
        omega
      · skip
        have : ys h4 q1 m = ys hp q1 m := (y_h4 q1 m).trans (if_neg (fun z => e z.2))
        have : ys h6 q1 m = ys h4 q1 m := (y_h6 q1 m).trans (if_neg (fun z => bRo.ne H1 H_r5 (by decide) z.1))
        have : ys h8 q1 m = ys h6 q1 m := (y_h8 q1 m).trans (if_neg (fun z => bRo.ne H1 H_r7 (by decide) z.1))
        have : ys h10 q1 m = ys h8 q1 m := (y_h10 q1 m).trans (if_neg (fun z => bRo.ne H1 H_r9 (by decide) z.1))
        have : ys h12 q1 m = ys h10 q1 m := (y_h12 q1 m).trans (if_neg (fun z => bRo.ne H1 H_r11 (by decide) z.1))
        have : ys h14 q1 m = ys h12 q1 m := (y_h14 q1 m).trans (if_neg (fun z => bRo.ne H1 H_k0 (by decide) z.1))
        have : ys h15 q1 m = ys h14 q1 m := (y_h15 q1 m).trans (if_neg (fun z => bRo.ne H1 H_k0 (by decide) z.1))
        have : ys h4 q2 m = ys hp q2 m := (y_h4 q2 m).trans (if_neg (fun z => bRo.ne H2 H_r3 (by decide) z.1))
        have : ys h6 q2 m = ys h4 q2 m := (y_h6 q2 m).trans (if_neg (fun z => e z.2))
        have : ys h8 q2 m = ys h6 q2 m := (y_h8 q2 m).trans (if_neg (fun z => bRo.ne H2 H_r7 (by decide) z.1))
        have : ys h10 q2 m = ys h8 q2 m := (y_h10 q2 m).trans (if_neg (fun z => bRo.ne H2 H_r9 (by decide) z.1))
        have : ys h12 q2 m = ys h10 q2 m := (y_h12 q2 m).trans (if_neg (fun z => bRo.ne H2 H_r11 (by decide) z.1))
        have : ys h14 q2 m = ys h12 q2 m := (y_h14 q2 m).trans (if_neg (fun z => bRo.ne H2 H_k0 (by decide) z.1))
        have : ys h15 q2 m = ys h14 q2 m := (y_h15 q2 m).trans (if_neg (fun z => bRo.ne H2 H_k0 (by decide) z.1))
        omega
    exact (yP.int ⟨by omega, by omega⟩ ⟨⟨⟨z1, rfl, by omega, by omega, trivial⟩, A_h15⟩, M_bMk_h15⟩)
theorem c_Meters_strikes {hp : xH} (W : bW G) (d : Nat) (hT : zTy G hp) {k0 : Nat} (H_k0 : bRo G 62 k0) (p1 p2 : Int) (h1l : 0 ≤ p1) (h1u : p1 ≤ 31) (h2l : 0 ≤ p2) (h2u : p2 ≤ 1) : yC (xcall 89 xfts xpools xms (d + 1)) 143 [yR k0, yI (p1), yI (p2)] hp (bQi G [(4611686018427387904, 9), (147573952589676412928, 256)] hp 0 1 (fun _ => True)) := by
  have A_hp : bAx G [(4611686018427387904, 9), (147573952589676412928, 256)] hp hp := bAx.rf hT
  refine yC.of (M := (xt_X4_strikes, (4, (4, (5, []))))) rfl rfl (N := 51) (yfuel (by decide)) ?_
  show yG 89 xfts (xcall 89 xfts xpools xms d) (xpool xp_RX4) [] xt_X4_strikes (yP 4 (bQi G [(4611686018427387904, 9), (147573952589676412928, 256)] hp 0 1 (fun _ => True))) 51 0 [(0, yR k0), (1, yI (p1)), (2, yI (p2))] [] hp
  refine yG.load xak rfl (fun _ _ => rfl) (v := yR k0) rfl rfl ?_
  refine yG.getO A_hp.1 (w_Meters_struck W H_k0) rfl rfl (fun r1 H_r1 O_r1 q_r1 => ?_)
  refine yG.load xik rfl (fun _ _ => rfl) (v := yI (p1)) rfl rfl ?_
  refine yG.bald A_hp.1 (v_Meters_struck W H_r1) rfl (by omega) (by omega) (fun z2 e_z2 i_z2 l_z2 u_z2 => ?_)
  refine yG.store1 xik (L' := [(3, yI (z2)), (0, yR k0), (1, yI (p1)), (2, yI (p2))]) rfl (fun _ _ => rfl) rfl rfl ?_
  refine yG.load xak rfl (fun _ _ => rfl) (v := yR k0) rfl rfl ?_
  refine yG.getS9 A_hp.1 (w_Meters_struck W H_k0) q_r1 rfl rfl ?_
  refine yG.load xik rfl (fun _ _ => rfl) (v := yI (p1)) rfl rfl ?_
  refine yG.load xik rfl (fun _ _ => rfl) (v := yI (p2)) rfl rfl ?_
  refine yG.bast A_hp.1 (v_Meters_struck W H_r1) (W.2.1 _ _ H_r1 (by decide) (by decide)) rfl (by omega) (by omega) ⟨by omega, by omega⟩ (by omega) (by omega) (fun h3 T_h3 b_h3 f_h3 y_h3 => ?_)
  have A_h3 := A_hp.put T_h3 b_h3 f_h3 H_r1 (bAll_ok (by decide) _)
  have qq1 : zsl h3 k0 7 = yR r1 := ((f_h3 k0 7).trans (if_neg (fun e => (bRo.ne H_k0 H_r1 (by decide)) e.1))).trans q_r1
  refine yG.load xak rfl (fun _ _ => rfl) (v := yR k0) rfl rfl ?_
  refine yG.num (c := 0) rfl (fun _ _ => rfl) (by decide) ?_
  refine yG.putI A_h3.1 (w_Meters_known W H_k0) (W.2.1 _ _ H_k0 (by decide) (by decide)) rfl rfl (.inr ⟨rfl, rfl, rfl⟩) ⟨by omega, by omega⟩ (by omega) (by omega) (fun h4 T_h4 b_h4 f_h4 y_h4 => ?_)
  have A_h4 := A_h3.put T_h4 b_h4 f_h4 H_k0 (by decide)
  have qq2 : zsl h4 k0 7 = yR r1 := ((f_h4 k0 7).trans (if_neg (fun e => absurd e.2 (by decide)))).trans qq1
  refine yG.load xik rfl (fun _ _ => rfl) (v := yI (z2)) rfl rfl ?_
  refine yG.ret rfl (fun _ _ => rfl) ?_
  exact (yP.bool (by omega) ⟨⟨z2, rfl, by omega, by omega, trivial⟩, A_h4⟩)
theorem c_Meters_islandOf {hp : xH} (W : bW G) (d : Nat) (hT : zTy G hp) (M_bMk : bMk G hp) {k0 : Nat} (H_k0 : bRo G 62 k0) (p1 : Int) (h1l : 0 ≤ p1) (h1u : p1 ≤ 31) : yC (xcall 89 xfts xpools xms (d + 1)) 135 [yR k0, yI (p1)] hp (bQpi hp 0 15 (fun _ => True)) := by
  have A_hp : bAx G [] hp hp := bAx.rf hT
  refine yC.of (M := (xt_X4_islandOf, (2, (1, (5, []))))) rfl rfl (N := 69) (yfuel (by decide)) ?_
  show yG 89 xfts (xcall 89 xfts xpools xms d) (xpool xp_RX4) [] xt_X4_islandOf (yP 1 (bQpi hp 0 15 (fun _ => True))) 69 0 [(0, yR k0), (1, yI (p1))] [] hp
  refine yG.load xak rfl (fun _ _ => rfl) (v := yR k0) rfl rfl ?_
  refine yG.getO A_hp.1 (w_Meters_kind W H_k0) rfl rfl (fun r1 H_r1 O_r1 q_r1 => ?_)
  refine yG.load xik rfl (fun _ _ => rfl) (v := yI (p1)) rfl rfl ?_
  refine yG.iald A_hp.1 (v_Meters_kind W H_r1) rfl (by omega) (by omega) (fun z2 e_z2 i_z2 l_z2 u_z2 => ?_)
  refine yG.ifz rfl (t := 36) rfl ⟨by omega, by omega⟩ (fun c3 => ?_) (fun c3 => ?_)
  · have c3 : (z2 : Int) ≠ 0 := c3
    refine yG.load xak rfl (fun _ _ => rfl) (v := yR k0) rfl rfl ?_
    refine yG.getO A_hp.1 (w_Meters_shape W H_k0) rfl rfl (fun r4 H_r4 O_r4 q_r4 => ?_)
    refine yG.getO A_hp.1 (w_Shape_island W H_r4) rfl rfl (fun r5 H_r5 O_r5 q_r5 => ?_)
    refine yG.load xak rfl (fun _ _ => rfl) (v := yR k0) rfl rfl ?_
    refine yG.getO A_hp.1 (w_Meters_place W H_k0) rfl rfl (fun r6 H_r6 O_r6 q_r6 => ?_)
    refine yG.load xik rfl (fun _ _ => rfl) (v := yI (p1)) rfl rfl ?_
    refine yG.iald A_hp.1 (v_Meters_place W H_r6) rfl (by omega) (by omega) (fun z7 e_z7 i_z7 l_z7 u_z7 => ?_)
    have w_z7 := M_bMk r1 r6 H_r1 H_r6 (p1 : Int).toNat (by omega)
    refine yG.ialdF A_hp.1 (v_Shape_island W H_r5) rfl rfl (by omega) (by omega) (fun z8 e_z8 i_z8 l_z8 u_z8 => ?_)
    refine yG.ret rfl (fun _ _ => rfl) ?_
    exact (yP.int ⟨by omega, by omega⟩ ⟨⟨z8, rfl, by omega, by omega, trivial⟩, rfl⟩)
  · have c3 : (z2 : Int) = 0 := c3
    refine yG.load xak rfl (fun _ _ => rfl) (v := yR k0) rfl rfl ?_
    refine yG.getO A_hp.1 (w_Meters_shape W H_k0) rfl rfl (fun r9 H_r9 O_r9 q_r9 => ?_)
    refine yG.getO A_hp.1 (w_Shape_island W H_r9) rfl rfl (fun r10 H_r10 O_r10 q_r10 => ?_)
    refine yG.load xak rfl (fun _ _ => rfl) (v := yR k0) rfl rfl ?_
    refine yG.getS9 A_hp.1 (w_Meters_shape W H_k0) q_r9 rfl rfl ?_
    refine yG.getO A_hp.1 (w_Shape_ends W H_r9) rfl rfl (fun r11 H_r11 O_r11 q_r11 => ?_)
    refine yG.load xak rfl (fun _ _ => rfl) (v := yR k0) rfl rfl ?_
    refine yG.getO A_hp.1 (w_Meters_place W H_k0) rfl rfl (fun r12 H_r12 O_r12 q_r12 => ?_)
    refine yG.load xik rfl (fun _ _ => rfl) (v := yI (p1)) rfl rfl ?_
    refine yG.iald A_hp.1 (v_Meters_place W H_r12) rfl (by omega) (by omega) (fun z13 e_z13 i_z13 l_z13 u_z13 => ?_)
    have w_z13 := M_bMk r1 r12 H_r1 H_r12 (p1 : Int).toNat (by omega)
    refine yG.aaldO (r := 57) A_hp.1 (v_Shape_ends W H_r11) rfl rfl rfl (by omega) (by omega) (fun r14 H_r14 q_r14 => ?_)
    refine yG.num (c := 0) rfl (fun _ _ => rfl) (by decide) ?_
    refine yG.iald A_hp.1 (v_Shape_endss W H_r14) rfl (by omega) (by omega) (fun z15 e_z15 i_z15 l_z15 u_z15 => ?_)
    refine yG.ialdF A_hp.1 (v_Shape_island W H_r10) rfl rfl (by omega) (by omega) (fun z16 e_z16 i_z16 l_z16 u_z16 => ?_)
    refine yG.goto rfl (t := 50) rfl ?_
    refine yG.ret rfl (fun _ _ => rfl) ?_
    exact (yP.int ⟨by omega, by omega⟩ ⟨⟨z16, rfl, by omega, by omega, trivial⟩, rfl⟩)
theorem c_Meters_isWhole {hp : xH} (W : bW G) (d : Nat) (hT : zTy G hp) (M_bMk : bMk G hp) {k0 : Nat} (H_k0 : bRo G 62 k0) (p1 : Int) (h1l : 0 ≤ p1) (h1u : p1 ≤ 31) : yC (xcall 89 xfts xpools xms (d + 2)) 133 [yR k0, yI (p1)] hp (bQpi hp 0 1 (fun _ => True)) := by
  have A_hp : bAx G [] hp hp := bAx.rf hT
  refine yC.of (M := (xt_X4_isWhole, (2, (4, (5, []))))) rfl rfl (N := 27) (yfuel (by decide)) ?_
  show yG 89 xfts (xcall 89 xfts xpools xms (d + 1)) (xpool xp_RX4) [] xt_X4_isWhole (yP 4 (bQpi hp 0 1 (fun _ => True))) 27 0 [(0, yR k0), (1, yI (p1))] [] hp
  refine yG.load xak rfl (fun _ _ => rfl) (v := yR k0) rfl rfl ?_
  refine yG.getO A_hp.1 (w_Meters_whole W H_k0) rfl rfl (fun r1 H_r1 O_r1 q_r1 => ?_)
  refine yG.load xak rfl (fun _ _ => rfl) (v := yR k0) rfl rfl ?_
  refine yG.load xik rfl (fun _ _ => rfl) (v := yI (p1)) rfl rfl ?_
  refine yG.invV (rest := [yR r1]) A_hp.1 (bOb (d_Meters W) H_k0) rfl rfl rfl rfl (c_Meters_islandOf W d A_hp.1 M_bMk H_k0 (p1) (by omega) (by omega)) (fun rv hp9 q9 => ?_)
  obtain ⟨⟨z2, rfl, l_z2, u_z2, R_z2⟩, e9⟩ := q9
  rw [e9]
  show yG _ _ _ _ _ _ _ _ _ _ (yI z2 :: [yR r1]) _
  refine yG.bald A_hp.1 (v_Meters_whole W H_r1) rfl (by omega) (by omega) (fun z3 e_z3 i_z3 l_z3 u_z3 => ?_)
  refine yG.ret rfl (fun _ _ => rfl) ?_
  exact (yP.bool (by omega) ⟨⟨z3, rfl, by omega, by omega, trivial⟩, rfl⟩)
theorem c_Meters_layAngle_c {hp : xH} (W : bW G) (d : Nat) (hT : zTy G hp) {k0 : Nat} (H_k0 : bRo G 62 k0) {k4 : Nat} (H_k4 : bRo G 42 k4) (p1 p2 : Int) (h1l : (-2147483648) ≤ p1) (h1u : p1 ≤ 2147483647) (h2l : (-9223372036854775808) ≤ p2) (h2u : p2 ≤ 9223372036854775807) : yC (xcall 89 xfts xpools xms (d + 1)) 137 [yR k0, yI (p1), yJ (p2), yR k4] hp (fun rv hp' => (rv = none ∧ True) ∧ bAx G [(4398046511104, 256)] hp hp') := by
  have A_hp : bAx G [(4398046511104, 256)] hp hp := bAx.rf hT
  refine yC.of (M := (xt_X4_layAngle, (5, (0, (5, []))))) rfl rfl (N := 63) (yfuel (by decide)) ?_
  show yG 89 xfts (xcall 89 xfts xpools xms d) (xpool xp_RX4) [] xt_X4_layAngle (yP 0 (fun rv hp' => (rv = none ∧ True) ∧ bAx G [(4398046511104, 256)] hp hp')) 63 0 [(0, yR k0), (1, yI (p1)), (2, yJ (p2)), (4, yR k4)] [] hp
  refine yG.load xik rfl (fun _ _ => rfl) (v := yI (p1)) rfl rfl ?_
  refine yG.ifz rfl (t := 29) rfl ⟨by omega, by omega⟩ (fun c1 => ?_) (fun c1 => ?_)
  · have c1 : (p1 : Int) < 0 := c1
    refine yG.ret rfl (fun _ _ => rfl) ?_
    exact (yP.void ⟨⟨rfl, trivial⟩, A_hp⟩)
  · have c1 : (p1 : Int) ≥ 0 := c1
    refine yG.load xik rfl (fun _ _ => rfl) (v := yI (p1)) rfl rfl ?_
    refine yG.load xak rfl (fun _ _ => rfl) (v := yR k4) rfl rfl ?_
    refine yG.alenF A_hp.1 (v_Solver_cells W H_k4).yIF rfl ?_
    obtain ⟨z2, e_z2⟩ : ∃ z : Int, z = ((48 : Nat) : Int) := ⟨_, rfl⟩
    rw [← e_z2]
    refine yG.icmp rfl (t := 29) rfl ⟨by omega, by omega⟩ ⟨by omega, by omega⟩ (fun c3 => ?_) (fun c3 => ?_)
    · have c3 : (p1 : Int) ≥ z2 := c3
      refine yG.ret rfl (fun _ _ => rfl) ?_
      exact (yP.void ⟨⟨rfl, trivial⟩, A_hp⟩)
    · have c3 : (p1 : Int) < z2 := c3
      refine yG.load xak rfl (fun _ _ => rfl) (v := yR k4) rfl rfl ?_
      refine yG.load xik rfl (fun _ _ => rfl) (v := yI (p1)) rfl rfl ?_
      refine yG.load xak rfl (fun _ _ => rfl) (v := yR k4) rfl rfl ?_
      refine yG.load xik rfl (fun _ _ => rfl) (v := yI (p1)) rfl rfl ?_
      refine yG.lald A_hp.1 (v_Solver_cells W H_k4) rfl (by omega) (by omega) (fun z4 e_z4 i_z4 l_z4 u_z4 => ?_)
      refine yG.load xlk2 rfl (fun _ _ => rfl) (v := yJ (p2)) rfl rfl ?_
      refine yG.ladd rfl ?_
      refine yG.load xak rfl (fun _ _ => rfl) (v := yR k0) rfl rfl ?_
      refine yG.getO A_hp.1 (w_Meters_solver W H_k0) rfl rfl (fun r5 H_r5 O_r5 q_r5 => ?_)
      refine yG.getJ A_hp.1 (w_Solver_prime W H_r5) rfl rfl (fun z6 e_z6 i_z6 l_z6 u_z6 => ?_)
      obtain ⟨z7, e_z7, l_z7, u_z7⟩ := ywJ (z4 + p2)
      rw [e_z7]
      refine yG.lremS rfl ⟨by omega, by omega⟩ ⟨by omega, by omega⟩ (by omega) (fun z8 l_z8 u_z8 => ?_)
      refine yG.last A_hp.1 (v_Solver_cells W H_k4) (W.2.1 _ _ H_k4 (by decide) (by decide)) rfl (by omega) (by omega) ⟨by omega, by omega⟩ (by omega) (by omega) (fun h9 T_h9 b_h9 f_h9 y_h9 => ?_)
      have A_h9 := A_hp.put T_h9 b_h9 f_h9 H_k4 (bAll_ok (by decide) _)
      refine yG.ret rfl (fun _ _ => rfl) ?_
      exact (yP.void ⟨⟨rfl, trivial⟩, A_h9⟩)
theorem c_Meters_layAngle_s {hp : xH} (W : bW G) (d : Nat) (hT : zTy G hp) {k0 : Nat} (H_k0 : bRo G 62 k0) {k4 : Nat} (H_k4 : bRo G 73 k4) (p1 p2 : Int) (h1l : (-2147483648) ≤ p1) (h1u : p1 ≤ 2147483647) (h2l : (-9223372036854775808) ≤ p2) (h2u : p2 ≤ 9223372036854775807) : yC (xcall 89 xfts xpools xms (d + 1)) 137 [yR k0, yI (p1), yJ (p2), yR k4] hp (fun rv hp' => (rv = none ∧ True) ∧ bAx G [(9444732965739290427392, 256)] hp hp') := by
  have A_hp : bAx G [(9444732965739290427392, 256)] hp hp := bAx.rf hT
  refine yC.of (M := (xt_X4_layAngle, (5, (0, (5, []))))) rfl rfl (N := 63) (yfuel (by decide)) ?_
  show yG 89 xfts (xcall 89 xfts xpools xms d) (xpool xp_RX4) [] xt_X4_layAngle (yP 0 (fun rv hp' => (rv = none ∧ True) ∧ bAx G [(9444732965739290427392, 256)] hp hp')) 63 0 [(0, yR k0), (1, yI (p1)), (2, yJ (p2)), (4, yR k4)] [] hp
  refine yG.load xik rfl (fun _ _ => rfl) (v := yI (p1)) rfl rfl ?_
  refine yG.ifz rfl (t := 29) rfl ⟨by omega, by omega⟩ (fun c1 => ?_) (fun c1 => ?_)
  · have c1 : (p1 : Int) < 0 := c1
    refine yG.ret rfl (fun _ _ => rfl) ?_
    exact (yP.void ⟨⟨rfl, trivial⟩, A_hp⟩)
  · have c1 : (p1 : Int) ≥ 0 := c1
    refine yG.load xik rfl (fun _ _ => rfl) (v := yI (p1)) rfl rfl ?_
    refine yG.load xak rfl (fun _ _ => rfl) (v := yR k4) rfl rfl ?_
    refine yG.alenF A_hp.1 (v_Meters_showss W H_k4).yIF rfl ?_
    obtain ⟨z2, e_z2⟩ : ∃ z : Int, z = ((16 : Nat) : Int) := ⟨_, rfl⟩
    rw [← e_z2]
    refine yG.icmp rfl (t := 29) rfl ⟨by omega, by omega⟩ ⟨by omega, by omega⟩ (fun c3 => ?_) (fun c3 => ?_)
    · have c3 : (p1 : Int) ≥ z2 := c3
      refine yG.ret rfl (fun _ _ => rfl) ?_
      exact (yP.void ⟨⟨rfl, trivial⟩, A_hp⟩)
    · have c3 : (p1 : Int) < z2 := c3
      refine yG.load xak rfl (fun _ _ => rfl) (v := yR k4) rfl rfl ?_
      refine yG.load xik rfl (fun _ _ => rfl) (v := yI (p1)) rfl rfl ?_
      refine yG.load xak rfl (fun _ _ => rfl) (v := yR k4) rfl rfl ?_
      refine yG.load xik rfl (fun _ _ => rfl) (v := yI (p1)) rfl rfl ?_
      refine yG.lald A_hp.1 (v_Meters_showss W H_k4) rfl (by omega) (by omega) (fun z4 e_z4 i_z4 l_z4 u_z4 => ?_)
      refine yG.load xlk2 rfl (fun _ _ => rfl) (v := yJ (p2)) rfl rfl ?_
      refine yG.ladd rfl ?_
      refine yG.load xak rfl (fun _ _ => rfl) (v := yR k0) rfl rfl ?_
      refine yG.getO A_hp.1 (w_Meters_solver W H_k0) rfl rfl (fun r5 H_r5 O_r5 q_r5 => ?_)
      refine yG.getJ A_hp.1 (w_Solver_prime W H_r5) rfl rfl (fun z6 e_z6 i_z6 l_z6 u_z6 => ?_)
      obtain ⟨z7, e_z7, l_z7, u_z7⟩ := ywJ (z4 + p2)
      rw [e_z7]
      refine yG.lremS rfl ⟨by omega, by omega⟩ ⟨by omega, by omega⟩ (by omega) (fun z8 l_z8 u_z8 => ?_)
      refine yG.last A_hp.1 (v_Meters_showss W H_k4) (W.2.1 _ _ H_k4 (by decide) (by decide)) rfl (by omega) (by omega) ⟨by omega, by omega⟩ (by omega) (by omega) (fun h9 T_h9 b_h9 f_h9 y_h9 => ?_)
      have A_h9 := A_hp.put T_h9 b_h9 f_h9 H_k4 (bAll_ok (by decide) _)
      refine yG.ret rfl (fun _ _ => rfl) ?_
      exact (yP.void ⟨⟨rfl, trivial⟩, A_h9⟩)
theorem c_Meters_layLine_c {hp : xH} (W : bW G) (d : Nat) (hT : zTy G hp) {k0 : Nat} (H_k0 : bRo G 62 k0) {k3 : Nat} (H_k3 : bRo G 42 k3) (p1 p2 : Int) (h1l : 0 ≤ p1) (h1u : p1 ≤ 19) (h2l : (-2147483648) ≤ p2) (h2u : p2 ≤ 2147483647) : yC (xcall 89 xfts xpools xms (d + 2)) 138 [yR k0, yI (p1), yI (p2), yR k3] hp (fun rv hp' => (rv = none ∧ True) ∧ bAx G [(4398046511104, 256)] hp hp') := by
  have A_hp : bAx G [(4398046511104, 256)] hp hp := bAx.rf hT
  refine yC.of (M := (xt_X4_layLine, (6, (0, (5, []))))) rfl rfl (N := 147) (yfuel (by decide)) ?_
  show yG 89 xfts (xcall 89 xfts xpools xms (d + 1)) (xpool xp_RX4) [] xt_X4_layLine (yP 0 (fun rv hp' => (rv = none ∧ True) ∧ bAx G [(4398046511104, 256)] hp hp')) 147 0 [(0, yR k0), (1, yI (p1)), (2, yI (p2)), (3, yR k3)] [] hp
  refine yG.load xak rfl (fun _ _ => rfl) (v := yR k0) rfl rfl ?_
  refine yG.getO A_hp.1 (w_Meters_net W H_k0) rfl rfl (fun r1 H_r1 O_r1 q_r1 => ?_)
  refine yG.num (c := 2) rfl (fun _ _ => rfl) (by decide) ?_
  refine yG.load xik rfl (fun _ _ => rfl) (v := yI (p1)) rfl rfl ?_
  refine yG.num (c := 0) rfl (fun _ _ => rfl) (by decide) ?_
  refine yG.invV (rest := []) A_hp.1 (bOb (d_Net W) H_r1) rfl rfl rfl rfl (c_Net_is_2 W d A_hp.1 H_r1 (p1) (0) (by omega) (by omega) (by omega) (by omega)) (fun rv hp9 q9 => ?_)
  obtain ⟨⟨z2, rfl, l_z2, u_z2, R_z2⟩, e9⟩ := q9
  rw [e9]
  show yG _ _ _ _ _ _ _ _ _ _ (yI z2 :: []) _
  refine yG.ifz rfl (t := 99) rfl ⟨by omega, by omega⟩ (fun c3 => ?_) (fun c3 => ?_)
  · have c3 : (z2 : Int) = 0 := c3
    refine yG.ret rfl (fun _ _ => rfl) ?_
    exact (yP.void ⟨⟨rfl, trivial⟩, A_hp⟩)
  · have c3 : (z2 : Int) ≠ 0 := c3
    refine yG.load xak rfl (fun _ _ => rfl) (v := yR k0) rfl rfl ?_
    refine yG.getO A_hp.1 (w_Meters_solver W H_k0) rfl rfl (fun r4 H_r4 O_r4 q_r4 => ?_)
    refine yG.load xak rfl (fun _ _ => rfl) (v := yR k0) rfl rfl ?_
    refine yG.getS9 A_hp.1 (w_Meters_net W H_k0) q_r1 rfl rfl ?_
    refine yG.num (c := 2) rfl (fun _ _ => rfl) (by decide) ?_
    refine yG.load xik rfl (fun _ _ => rfl) (v := yI (p1)) rfl rfl ?_
    refine yG.num (c := 1) rfl (fun _ _ => rfl) (by decide) ?_
    refine yG.invV (rest := [yR r4]) A_hp.1 (bOb (d_Net W) H_r1) rfl rfl rfl rfl (c_Net_at_2_1 W d A_hp.1 H_r1 (p1) (by omega) (by omega)) (fun rv hp9 q9 => ?_)
    obtain ⟨⟨z5, rfl, l_z5, u_z5, R_z5⟩, e9⟩ := q9
    rw [e9]
    show yG _ _ _ _ _ _ _ _ _ _ (yI z5 :: [yR r4]) _
    refine yG.i2l rfl ⟨by omega, by omega⟩ ?_
    refine yG.invV (rest := []) A_hp.1 (bOb (d_Solver W) H_r4) rfl rfl rfl rfl (c_Solver_inverse W d A_hp.1 H_r4 (z5) (by omega) (by omega)) (fun rv hp9 q9 => ?_)
    obtain ⟨⟨z6, rfl, l_z6, u_z6, R_z6⟩, e9⟩ := q9
    rw [e9]
    show yG _ _ _ _ _ _ _ _ _ _ (yJ z6 :: []) _
    refine yG.store2 xlk2 (L' := [(4, yJ (z6)), (0, yR k0), (1, yI (p1)), (2, yI (p2)), (3, yR k3)]) rfl (fun _ _ => rfl) rfl rfl ?_
    refine yG.load xak rfl (fun _ _ => rfl) (v := yR k0) rfl rfl ?_
    refine yG.load xak rfl (fun _ _ => rfl) (v := yR k0) rfl rfl ?_
    refine yG.getO A_hp.1 (w_Meters_shape W H_k0) rfl rfl (fun r7 H_r7 O_r7 q_r7 => ?_)
    refine yG.load xik rfl (fun _ _ => rfl) (v := yI (p1)) rfl rfl ?_
    refine yG.num (c := 0) rfl (fun _ _ => rfl) (by decide) ?_
    refine yG.invV (rest := [yR k0]) A_hp.1 (bOb (d_Shape W) H_r7) rfl rfl rfl rfl (c_Shape_rowOfEnd W d A_hp.1 H_r7 (p1) (0) (by omega) (by omega) (by omega) (by omega)) (fun rv hp9 q9 => ?_)
    obtain ⟨⟨z8, rfl, l_z8, u_z8, R_z8⟩, e9⟩ := q9
    rw [e9]
    show yG _ _ _ _ _ _ _ _ _ _ (yI z8 :: [yR k0]) _
    refine yG.load xik rfl (fun _ _ => rfl) (v := yI (p2)) rfl rfl ?_
    refine yG.ifz rfl (t := 52) rfl ⟨by omega, by omega⟩ (fun c9 => ?_) (fun c9 => ?_)
    · have c9 : (p2 : Int) ≤ 0 := c9
      refine yG.load xak rfl (fun _ _ => rfl) (v := yR k0) rfl rfl ?_
      refine yG.getS9 A_hp.1 (w_Meters_solver W H_k0) q_r4 rfl rfl ?_
      refine yG.getJ A_hp.1 (w_Solver_prime W H_r4) rfl rfl (fun z10 e_z10 i_z10 l_z10 u_z10 => ?_)
      refine yG.load xlk2 rfl (fun _ _ => rfl) (v := yJ (z6)) rfl rfl ?_
      refine yG.lsub rfl ?_
      refine yG.load xak rfl (fun _ _ => rfl) (v := yR k3) rfl rfl ?_
      obtain ⟨z11, e_z11, l_z11, u_z11⟩ := ywJ (z10 - z6)
      rw [e_z11]
      refine yG.invV (rest := []) A_hp.1 (bOb (d_Meters W) H_k0) rfl rfl rfl rfl (c_Meters_layAngle_c W d A_hp.1 H_k0 H_k3 (z8) (z11) (by omega) (by omega) (by omega) (by omega)) (fun rv h12 q9 => ?_)
      obtain ⟨⟨rfl, R_z13⟩, B_h12⟩ := q9
      have A_h12 := A_hp.tr B_h12 (by decide)
      have qq1 : zsl h12 k0 1 = yR r1 := (B_h12.sl H_k0 (by decide)).trans q_r1
      have qq2 : zsl h12 k0 2 = yR r4 := (B_h12.sl H_k0 (by decide)).trans q_r4
      have qq3 : zsl h12 k0 0 = yR r7 := (B_h12.sl H_k0 (by decide)).trans q_r7
      show yG _ _ _ _ _ _ _ _ _ _ [] _
      refine yG.load xak rfl (fun _ _ => rfl) (v := yR k0) rfl rfl ?_
      refine yG.load xak rfl (fun _ _ => rfl) (v := yR k0) rfl rfl ?_
      refine yG.getS9 A_h12.1 (w_Meters_shape W H_k0) qq3 rfl rfl ?_
      refine yG.load xik rfl (fun _ _ => rfl) (v := yI (p1)) rfl rfl ?_
      refine yG.num (c := 1) rfl (fun _ _ => rfl) (by decide) ?_
      refine yG.invV (rest := [yR k0]) A_h12.1 (bOb (d_Shape W) H_r7) rfl rfl rfl rfl (c_Shape_rowOfEnd W d A_h12.1 H_r7 (p1) (1) (by omega) (by omega) (by omega) (by omega)) (fun rv hp9 q9 => ?_)
      obtain ⟨⟨z14, rfl, l_z14, u_z14, R_z14⟩, e9⟩ := q9
      rw [e9]
      show yG _ _ _ _ _ _ _ _ _ _ (yI z14 :: [yR k0]) _
      refine yG.load xik rfl (fun _ _ => rfl) (v := yI (p2)) rfl rfl ?_
      refine yG.ifz rfl (t := 93) rfl ⟨by omega, by omega⟩ (fun c15 => ?_) (fun c15 => ?_)
      · have c15 : (p2 : Int) ≤ 0 := c15
        refine yG.load xlk2 rfl (fun _ _ => rfl) (v := yJ (z6)) rfl rfl ?_
        refine yG.load xak rfl (fun _ _ => rfl) (v := yR k3) rfl rfl ?_
        refine yG.invV (rest := []) A_h12.1 (bOb (d_Meters W) H_k0) rfl rfl rfl rfl (c_Meters_layAngle_c W d A_h12.1 H_k0 H_k3 (z14) (z6) (by omega) (by omega) (by omega) (by omega)) (fun rv h16 q9 => ?_)
        obtain ⟨⟨rfl, R_z17⟩, B_h16⟩ := q9
        have A_h16 := A_h12.tr B_h16 (by decide)
        have qq4 : zsl h16 k0 1 = yR r1 := (B_h16.sl H_k0 (by decide)).trans qq1
        have qq5 : zsl h16 k0 2 = yR r4 := (B_h16.sl H_k0 (by decide)).trans qq2
        have qq6 : zsl h16 k0 0 = yR r7 := (B_h16.sl H_k0 (by decide)).trans qq3
        show yG _ _ _ _ _ _ _ _ _ _ [] _
        refine yG.ret rfl (fun _ _ => rfl) ?_
        exact (yP.void ⟨⟨rfl, trivial⟩, A_h16⟩)
      · have c15 : (p2 : Int) > 0 := c15
        exfalso; omega
    · have c9 : (p2 : Int) > 0 := c9
      refine yG.load xlk2 rfl (fun _ _ => rfl) (v := yJ (z6)) rfl rfl ?_
      refine yG.goto rfl (t := 62) rfl ?_
      refine yG.load xak rfl (fun _ _ => rfl) (v := yR k3) rfl rfl ?_
      refine yG.invV (rest := []) A_hp.1 (bOb (d_Meters W) H_k0) rfl rfl rfl rfl (c_Meters_layAngle_c W d A_hp.1 H_k0 H_k3 (z8) (z6) (by omega) (by omega) (by omega) (by omega)) (fun rv h18 q9 => ?_)
      obtain ⟨⟨rfl, R_z19⟩, B_h18⟩ := q9
      have A_h18 := A_hp.tr B_h18 (by decide)
      have qq7 : zsl h18 k0 1 = yR r1 := (B_h18.sl H_k0 (by decide)).trans q_r1
      have qq8 : zsl h18 k0 2 = yR r4 := (B_h18.sl H_k0 (by decide)).trans q_r4
      have qq9 : zsl h18 k0 0 = yR r7 := (B_h18.sl H_k0 (by decide)).trans q_r7
      show yG _ _ _ _ _ _ _ _ _ _ [] _
      refine yG.load xak rfl (fun _ _ => rfl) (v := yR k0) rfl rfl ?_
      refine yG.load xak rfl (fun _ _ => rfl) (v := yR k0) rfl rfl ?_
      refine yG.getS9 A_h18.1 (w_Meters_shape W H_k0) qq9 rfl rfl ?_
      refine yG.load xik rfl (fun _ _ => rfl) (v := yI (p1)) rfl rfl ?_
      refine yG.num (c := 1) rfl (fun _ _ => rfl) (by decide) ?_
      refine yG.invV (rest := [yR k0]) A_h18.1 (bOb (d_Shape W) H_r7) rfl rfl rfl rfl (c_Shape_rowOfEnd W d A_h18.1 H_r7 (p1) (1) (by omega) (by omega) (by omega) (by omega)) (fun rv hp9 q9 => ?_)
      obtain ⟨⟨z20, rfl, l_z20, u_z20, R_z20⟩, e9⟩ := q9
      rw [e9]
      show yG _ _ _ _ _ _ _ _ _ _ (yI z20 :: [yR k0]) _
      refine yG.load xik rfl (fun _ _ => rfl) (v := yI (p2)) rfl rfl ?_
      refine yG.ifz rfl (t := 93) rfl ⟨by omega, by omega⟩ (fun c21 => ?_) (fun c21 => ?_)
      · have c21 : (p2 : Int) ≤ 0 := c21
        exfalso; omega
      · have c21 : (p2 : Int) > 0 := c21
        refine yG.load xak rfl (fun _ _ => rfl) (v := yR k0) rfl rfl ?_
        refine yG.getS9 A_h18.1 (w_Meters_solver W H_k0) qq8 rfl rfl ?_
        refine yG.getJ A_h18.1 (w_Solver_prime W H_r4) rfl rfl (fun z22 e_z22 i_z22 l_z22 u_z22 => ?_)
        refine yG.load xlk2 rfl (fun _ _ => rfl) (v := yJ (z6)) rfl rfl ?_
        refine yG.lsub rfl ?_
        refine yG.goto rfl (t := 95) rfl ?_
        refine yG.load xak rfl (fun _ _ => rfl) (v := yR k3) rfl rfl ?_
        obtain ⟨z23, e_z23, l_z23, u_z23⟩ := ywJ (z22 - z6)
        rw [e_z23]
        refine yG.invV (rest := []) A_h18.1 (bOb (d_Meters W) H_k0) rfl rfl rfl rfl (c_Meters_layAngle_c W d A_h18.1 H_k0 H_k3 (z20) (z23) (by omega) (by omega) (by omega) (by omega)) (fun rv h24 q9 => ?_)
        obtain ⟨⟨rfl, R_z25⟩, B_h24⟩ := q9
        have A_h24 := A_h18.tr B_h24 (by decide)
        have qq10 : zsl h24 k0 1 = yR r1 := (B_h24.sl H_k0 (by decide)).trans qq7
        have qq11 : zsl h24 k0 2 = yR r4 := (B_h24.sl H_k0 (by decide)).trans qq8
        have qq12 : zsl h24 k0 0 = yR r7 := (B_h24.sl H_k0 (by decide)).trans qq9
        show yG _ _ _ _ _ _ _ _ _ _ [] _
        refine yG.ret rfl (fun _ _ => rfl) ?_
        exact (yP.void ⟨⟨rfl, trivial⟩, A_h24⟩)
theorem c_Meters_layLine_s {hp : xH} (W : bW G) (d : Nat) (hT : zTy G hp) {k0 : Nat} (H_k0 : bRo G 62 k0) {k3 : Nat} (H_k3 : bRo G 73 k3) (p1 p2 : Int) (h1l : 0 ≤ p1) (h1u : p1 ≤ 19) (h2l : (-2147483648) ≤ p2) (h2u : p2 ≤ 2147483647) : yC (xcall 89 xfts xpools xms (d + 2)) 138 [yR k0, yI (p1), yI (p2), yR k3] hp (fun rv hp' => (rv = none ∧ True) ∧ bAx G [(9444732965739290427392, 256)] hp hp') := by
  have A_hp : bAx G [(9444732965739290427392, 256)] hp hp := bAx.rf hT
  refine yC.of (M := (xt_X4_layLine, (6, (0, (5, []))))) rfl rfl (N := 147) (yfuel (by decide)) ?_
  show yG 89 xfts (xcall 89 xfts xpools xms (d + 1)) (xpool xp_RX4) [] xt_X4_layLine (yP 0 (fun rv hp' => (rv = none ∧ True) ∧ bAx G [(9444732965739290427392, 256)] hp hp')) 147 0 [(0, yR k0), (1, yI (p1)), (2, yI (p2)), (3, yR k3)] [] hp
  refine yG.load xak rfl (fun _ _ => rfl) (v := yR k0) rfl rfl ?_
  refine yG.getO A_hp.1 (w_Meters_net W H_k0) rfl rfl (fun r1 H_r1 O_r1 q_r1 => ?_)
  refine yG.num (c := 2) rfl (fun _ _ => rfl) (by decide) ?_
  refine yG.load xik rfl (fun _ _ => rfl) (v := yI (p1)) rfl rfl ?_
  refine yG.num (c := 0) rfl (fun _ _ => rfl) (by decide) ?_
  refine yG.invV (rest := []) A_hp.1 (bOb (d_Net W) H_r1) rfl rfl rfl rfl (c_Net_is_2 W d A_hp.1 H_r1 (p1) (0) (by omega) (by omega) (by omega) (by omega)) (fun rv hp9 q9 => ?_)
  obtain ⟨⟨z2, rfl, l_z2, u_z2, R_z2⟩, e9⟩ := q9
  rw [e9]
  show yG _ _ _ _ _ _ _ _ _ _ (yI z2 :: []) _
  refine yG.ifz rfl (t := 99) rfl ⟨by omega, by omega⟩ (fun c3 => ?_) (fun c3 => ?_)
  · have c3 : (z2 : Int) = 0 := c3
    refine yG.ret rfl (fun _ _ => rfl) ?_
    exact (yP.void ⟨⟨rfl, trivial⟩, A_hp⟩)
  · have c3 : (z2 : Int) ≠ 0 := c3
    refine yG.load xak rfl (fun _ _ => rfl) (v := yR k0) rfl rfl ?_
    refine yG.getO A_hp.1 (w_Meters_solver W H_k0) rfl rfl (fun r4 H_r4 O_r4 q_r4 => ?_)
    refine yG.load xak rfl (fun _ _ => rfl) (v := yR k0) rfl rfl ?_
    refine yG.getS9 A_hp.1 (w_Meters_net W H_k0) q_r1 rfl rfl ?_
    refine yG.num (c := 2) rfl (fun _ _ => rfl) (by decide) ?_
    refine yG.load xik rfl (fun _ _ => rfl) (v := yI (p1)) rfl rfl ?_
    refine yG.num (c := 1) rfl (fun _ _ => rfl) (by decide) ?_
    refine yG.invV (rest := [yR r4]) A_hp.1 (bOb (d_Net W) H_r1) rfl rfl rfl rfl (c_Net_at_2_1 W d A_hp.1 H_r1 (p1) (by omega) (by omega)) (fun rv hp9 q9 => ?_)
    obtain ⟨⟨z5, rfl, l_z5, u_z5, R_z5⟩, e9⟩ := q9
    rw [e9]
    show yG _ _ _ _ _ _ _ _ _ _ (yI z5 :: [yR r4]) _
    refine yG.i2l rfl ⟨by omega, by omega⟩ ?_
    refine yG.invV (rest := []) A_hp.1 (bOb (d_Solver W) H_r4) rfl rfl rfl rfl (c_Solver_inverse W d A_hp.1 H_r4 (z5) (by omega) (by omega)) (fun rv hp9 q9 => ?_)
    obtain ⟨⟨z6, rfl, l_z6, u_z6, R_z6⟩, e9⟩ := q9
    rw [e9]
    show yG _ _ _ _ _ _ _ _ _ _ (yJ z6 :: []) _
    refine yG.store2 xlk2 (L' := [(4, yJ (z6)), (0, yR k0), (1, yI (p1)), (2, yI (p2)), (3, yR k3)]) rfl (fun _ _ => rfl) rfl rfl ?_
    refine yG.load xak rfl (fun _ _ => rfl) (v := yR k0) rfl rfl ?_
    refine yG.load xak rfl (fun _ _ => rfl) (v := yR k0) rfl rfl ?_
    refine yG.getO A_hp.1 (w_Meters_shape W H_k0) rfl rfl (fun r7 H_r7 O_r7 q_r7 => ?_)
    refine yG.load xik rfl (fun _ _ => rfl) (v := yI (p1)) rfl rfl ?_
    refine yG.num (c := 0) rfl (fun _ _ => rfl) (by decide) ?_
    refine yG.invV (rest := [yR k0]) A_hp.1 (bOb (d_Shape W) H_r7) rfl rfl rfl rfl (c_Shape_rowOfEnd W d A_hp.1 H_r7 (p1) (0) (by omega) (by omega) (by omega) (by omega)) (fun rv hp9 q9 => ?_)
    obtain ⟨⟨z8, rfl, l_z8, u_z8, R_z8⟩, e9⟩ := q9
    rw [e9]
    show yG _ _ _ _ _ _ _ _ _ _ (yI z8 :: [yR k0]) _
    refine yG.load xik rfl (fun _ _ => rfl) (v := yI (p2)) rfl rfl ?_
    refine yG.ifz rfl (t := 52) rfl ⟨by omega, by omega⟩ (fun c9 => ?_) (fun c9 => ?_)
    · have c9 : (p2 : Int) ≤ 0 := c9
      refine yG.load xak rfl (fun _ _ => rfl) (v := yR k0) rfl rfl ?_
      refine yG.getS9 A_hp.1 (w_Meters_solver W H_k0) q_r4 rfl rfl ?_
      refine yG.getJ A_hp.1 (w_Solver_prime W H_r4) rfl rfl (fun z10 e_z10 i_z10 l_z10 u_z10 => ?_)
      refine yG.load xlk2 rfl (fun _ _ => rfl) (v := yJ (z6)) rfl rfl ?_
      refine yG.lsub rfl ?_
      refine yG.load xak rfl (fun _ _ => rfl) (v := yR k3) rfl rfl ?_
      obtain ⟨z11, e_z11, l_z11, u_z11⟩ := ywJ (z10 - z6)
      rw [e_z11]
      refine yG.invV (rest := []) A_hp.1 (bOb (d_Meters W) H_k0) rfl rfl rfl rfl (c_Meters_layAngle_s W d A_hp.1 H_k0 H_k3 (z8) (z11) (by omega) (by omega) (by omega) (by omega)) (fun rv h12 q9 => ?_)
      obtain ⟨⟨rfl, R_z13⟩, B_h12⟩ := q9
      have A_h12 := A_hp.tr B_h12 (by decide)
      have qq1 : zsl h12 k0 1 = yR r1 := (B_h12.sl H_k0 (by decide)).trans q_r1
      have qq2 : zsl h12 k0 2 = yR r4 := (B_h12.sl H_k0 (by decide)).trans q_r4
      have qq3 : zsl h12 k0 0 = yR r7 := (B_h12.sl H_k0 (by decide)).trans q_r7
      show yG _ _ _ _ _ _ _ _ _ _ [] _
      refine yG.load xak rfl (fun _ _ => rfl) (v := yR k0) rfl rfl ?_
      refine yG.load xak rfl (fun _ _ => rfl) (v := yR k0) rfl rfl ?_
      refine yG.getS9 A_h12.1 (w_Meters_shape W H_k0) qq3 rfl rfl ?_
      refine yG.load xik rfl (fun _ _ => rfl) (v := yI (p1)) rfl rfl ?_
      refine yG.num (c := 1) rfl (fun _ _ => rfl) (by decide) ?_
      refine yG.invV (rest := [yR k0]) A_h12.1 (bOb (d_Shape W) H_r7) rfl rfl rfl rfl (c_Shape_rowOfEnd W d A_h12.1 H_r7 (p1) (1) (by omega) (by omega) (by omega) (by omega)) (fun rv hp9 q9 => ?_)
      obtain ⟨⟨z14, rfl, l_z14, u_z14, R_z14⟩, e9⟩ := q9
      rw [e9]
      show yG _ _ _ _ _ _ _ _ _ _ (yI z14 :: [yR k0]) _
      refine yG.load xik rfl (fun _ _ => rfl) (v := yI (p2)) rfl rfl ?_
      refine yG.ifz rfl (t := 93) rfl ⟨by omega, by omega⟩ (fun c15 => ?_) (fun c15 => ?_)
      · have c15 : (p2 : Int) ≤ 0 := c15
        refine yG.load xlk2 rfl (fun _ _ => rfl) (v := yJ (z6)) rfl rfl ?_
        refine yG.load xak rfl (fun _ _ => rfl) (v := yR k3) rfl rfl ?_
        refine yG.invV (rest := []) A_h12.1 (bOb (d_Meters W) H_k0) rfl rfl rfl rfl (c_Meters_layAngle_s W d A_h12.1 H_k0 H_k3 (z14) (z6) (by omega) (by omega) (by omega) (by omega)) (fun rv h16 q9 => ?_)
        obtain ⟨⟨rfl, R_z17⟩, B_h16⟩ := q9
        have A_h16 := A_h12.tr B_h16 (by decide)
        have qq4 : zsl h16 k0 1 = yR r1 := (B_h16.sl H_k0 (by decide)).trans qq1
        have qq5 : zsl h16 k0 2 = yR r4 := (B_h16.sl H_k0 (by decide)).trans qq2
        have qq6 : zsl h16 k0 0 = yR r7 := (B_h16.sl H_k0 (by decide)).trans qq3
        show yG _ _ _ _ _ _ _ _ _ _ [] _
        refine yG.ret rfl (fun _ _ => rfl) ?_
        exact (yP.void ⟨⟨rfl, trivial⟩, A_h16⟩)
      · have c15 : (p2 : Int) > 0 := c15
        exfalso; omega
    · have c9 : (p2 : Int) > 0 := c9
      refine yG.load xlk2 rfl (fun _ _ => rfl) (v := yJ (z6)) rfl rfl ?_
      refine yG.goto rfl (t := 62) rfl ?_
      refine yG.load xak rfl (fun _ _ => rfl) (v := yR k3) rfl rfl ?_
      refine yG.invV (rest := []) A_hp.1 (bOb (d_Meters W) H_k0) rfl rfl rfl rfl (c_Meters_layAngle_s W d A_hp.1 H_k0 H_k3 (z8) (z6) (by omega) (by omega) (by omega) (by omega)) (fun rv h18 q9 => ?_)
      obtain ⟨⟨rfl, R_z19⟩, B_h18⟩ := q9
      have A_h18 := A_hp.tr B_h18 (by decide)
      have qq7 : zsl h18 k0 1 = yR r1 := (B_h18.sl H_k0 (by decide)).trans q_r1
      have qq8 : zsl h18 k0 2 = yR r4 := (B_h18.sl H_k0 (by decide)).trans q_r4
      have qq9 : zsl h18 k0 0 = yR r7 := (B_h18.sl H_k0 (by decide)).trans q_r7
      show yG _ _ _ _ _ _ _ _ _ _ [] _
      refine yG.load xak rfl (fun _ _ => rfl) (v := yR k0) rfl rfl ?_
      refine yG.load xak rfl (fun _ _ => rfl) (v := yR k0) rfl rfl ?_
      refine yG.getS9 A_h18.1 (w_Meters_shape W H_k0) qq9 rfl rfl ?_
      refine yG.load xik rfl (fun _ _ => rfl) (v := yI (p1)) rfl rfl ?_
      refine yG.num (c := 1) rfl (fun _ _ => rfl) (by decide) ?_
      refine yG.invV (rest := [yR k0]) A_h18.1 (bOb (d_Shape W) H_r7) rfl rfl rfl rfl (c_Shape_rowOfEnd W d A_h18.1 H_r7 (p1) (1) (by omega) (by omega) (by omega) (by omega)) (fun rv hp9 q9 => ?_)
      obtain ⟨⟨z20, rfl, l_z20, u_z20, R_z20⟩, e9⟩ := q9
      rw [e9]
      show yG _ _ _ _ _ _ _ _ _ _ (yI z20 :: [yR k0]) _
      refine yG.load xik rfl (fun _ _ => rfl) (v := yI (p2)) rfl rfl ?_
      refine yG.ifz rfl (t := 93) rfl ⟨by omega, by omega⟩ (fun c21 => ?_) (fun c21 => ?_)
      · have c21 : (p2 : Int) ≤ 0 := c21
        exfalso; omega
      · have c21 : (p2 : Int) > 0 := c21
        refine yG.load xak rfl (fun _ _ => rfl) (v := yR k0) rfl rfl ?_
        refine yG.getS9 A_h18.1 (w_Meters_solver W H_k0) qq8 rfl rfl ?_
        refine yG.getJ A_h18.1 (w_Solver_prime W H_r4) rfl rfl (fun z22 e_z22 i_z22 l_z22 u_z22 => ?_)
        refine yG.load xlk2 rfl (fun _ _ => rfl) (v := yJ (z6)) rfl rfl ?_
        refine yG.lsub rfl ?_
        refine yG.goto rfl (t := 95) rfl ?_
        refine yG.load xak rfl (fun _ _ => rfl) (v := yR k3) rfl rfl ?_
        obtain ⟨z23, e_z23, l_z23, u_z23⟩ := ywJ (z22 - z6)
        rw [e_z23]
        refine yG.invV (rest := []) A_h18.1 (bOb (d_Meters W) H_k0) rfl rfl rfl rfl (c_Meters_layAngle_s W d A_h18.1 H_k0 H_k3 (z20) (z23) (by omega) (by omega) (by omega) (by omega)) (fun rv h24 q9 => ?_)
        obtain ⟨⟨rfl, R_z25⟩, B_h24⟩ := q9
        have A_h24 := A_h18.tr B_h24 (by decide)
        have qq10 : zsl h24 k0 1 = yR r1 := (B_h24.sl H_k0 (by decide)).trans qq7
        have qq11 : zsl h24 k0 2 = yR r4 := (B_h24.sl H_k0 (by decide)).trans qq8
        have qq12 : zsl h24 k0 0 = yR r7 := (B_h24.sl H_k0 (by decide)).trans qq9
        show yG _ _ _ _ _ _ _ _ _ _ [] _
        refine yG.ret rfl (fun _ _ => rfl) ?_
        exact (yP.void ⟨⟨rfl, trivial⟩, A_h24⟩)
theorem c_Meters_lay_c {hp : xH} (W : bW G) (d : Nat) (hT : zTy G hp) (M_bMk : bMk G hp) {k0 : Nat} (H_k0 : bRo G 62 k0) {k2 : Nat} (H_k2 : bRo G 42 k2) (p1 : Int) (h1l : 0 ≤ p1) (h1u : p1 ≤ 31) : yC (xcall 89 xfts xpools xms (d + 3)) 136 [yR k0, yI (p1), yR k2] hp (fun rv hp' => (rv = none ∧ True) ∧ bAx G [(4398046511104, 256)] hp hp') := by
  have A_hp : bAx G [(4398046511104, 256)] hp hp := bAx.rf hT
  have H : ∀ m : Nat, (∀ a3 : Int, ∀ a4 : Int, ∀ hq, bAx G [(4398046511104, 256)] hp hq → 0 ≤ a3 → (-15) ≤ 0 - a3 → 0 ≤ a4 → (-20) ≤ 0 - a4 → 0 ≤ p1 → (-31) ≤ 0 - p1 → 0 - 3 * a4 + 62 < (m : Int) → yG 89 xfts (xcall 89 xfts xpools xms (d + 2)) (xpool xp_RX4) [] xt_X4_lay (yP 0 (fun rv hp' => (rv = none ∧ True) ∧ bAx G [(4398046511104, 256)] hp hp')) (26 * m) 52 [(0, yR k0), (2, yR k2), (3, yI (a3)), (4, yI (a4))] [] hq) ∧ (∀ a3 : Int, ∀ a4 : Int, ∀ hq, bAx G [(4398046511104, 256)] hp hq → 0 ≤ a3 → (-15) ≤ 0 - a3 → 0 ≤ a4 → (-19) ≤ 0 - a4 → 0 ≤ p1 → (-31) ≤ 0 - p1 → 0 - 3 * a4 + 61 < (m : Int) → yG 89 xfts (xcall 89 xfts xpools xms (d + 2)) (xpool xp_RX4) [] xt_X4_lay (yP 0 (fun rv hp' => (rv = none ∧ True) ∧ bAx G [(4398046511104, 256)] hp hp')) (26 * m) 90 [(0, yR k0), (2, yR k2), (3, yI (a3)), (4, yI (a4))] [] hq) := by
    intro m
    induction m with
    | zero =>
      refine ⟨?_, ?_⟩ <;> (intros; exfalso; omega)
    | succ m ih =>
      obtain ⟨i_52, i_90⟩ := ih
      refine ⟨?_, ?_⟩
      · intro a3 a4 hq A_hq f0 f1 f2 f3 f4 f5 hm
        refine yG.mono (N := 26 * m + 26) ?_ (by omega)
        refine yG.load xik rfl (fun _ _ => rfl) (v := yI (a4)) rfl rfl ?_
        refine yG.load xak rfl (fun _ _ => rfl) (v := yR k0) rfl rfl ?_
        refine yG.getO A_hq.1 (w_Meters_net W H_k0) rfl rfl (fun r1 H_r1 O_r1 q_r1 => ?_)
        refine yG.getO A_hq.1 (w_Net_count W H_r1) rfl rfl (fun r2 H_r2 O_r2 q_r2 => ?_)
        refine yG.num (c := 2) rfl (fun _ _ => rfl) (by decide) ?_
        refine yG.ialdF A_hq.1 (v_Net_count W H_r2) rfl rfl (by omega) (by omega) (fun z3 e_z3 i_z3 l_z3 u_z3 => ?_)
        refine yG.icmp rfl (t := 120) rfl ⟨by omega, by omega⟩ ⟨by omega, by omega⟩ (fun c4 => ?_) (fun c4 => ?_)
        · have c4 : (a4 : Int) ≥ z3 := c4
          refine yG.goto rfl (t := 143) rfl ?_
          refine yG.ret rfl (fun _ _ => rfl) ?_
          exact (yP.void ⟨⟨rfl, trivial⟩, A_hq⟩)
        · have c4 : (a4 : Int) < z3 := c4
          refine yG.load xak rfl (fun _ _ => rfl) (v := yR k0) rfl rfl ?_
          refine yG.getO A_hq.1 (w_Meters_shape W H_k0) rfl rfl (fun r5 H_r5 O_r5 q_r5 => ?_)
          refine yG.getO A_hq.1 (w_Shape_ends W H_r5) rfl rfl (fun r6 H_r6 O_r6 q_r6 => ?_)
          refine yG.load xik rfl (fun _ _ => rfl) (v := yI (a4)) rfl rfl ?_
          refine yG.aaldO (r := 57) A_hq.1 (v_Shape_ends W H_r6) rfl rfl rfl (by omega) (by omega) (fun r7 H_r7 q_r7 => ?_)
          refine yG.num (c := 0) rfl (fun _ _ => rfl) (by decide) ?_
          refine yG.iald A_hq.1 (v_Shape_endss W H_r7) rfl (by omega) (by omega) (fun z8 e_z8 i_z8 l_z8 u_z8 => ?_)
          refine yG.load xik rfl (fun _ _ => rfl) (v := yI (a3)) rfl rfl ?_
          refine yG.icmp rfl (t := 90) rfl ⟨by omega, by omega⟩ ⟨by omega, by omega⟩ (fun c9 => ?_) (fun c9 => ?_)
          · have c9 : (z8 : Int) ≠ a3 := c9
            exact yG.mono (yG.sub (i_90 (a3) (a4)  hq A_hq   (by omega) (by omega) (by omega) (by omega) (by omega) (by omega) (by omega)) (ySub.cons rfl (ySub.cons rfl (ySub.cons rfl (ySub.cons rfl (ySub.nil)))))) (by omega)
          · have c9 : (z8 : Int) = a3 := c9
            refine yG.load xak rfl (fun _ _ => rfl) (v := yR k0) rfl rfl ?_
            refine yG.load xik rfl (fun _ _ => rfl) (v := yI (a4)) rfl rfl ?_
            refine yG.num (c := 1) rfl (fun _ _ => rfl) (by decide) ?_
            refine yG.load xak rfl (fun _ _ => rfl) (v := yR k2) rfl rfl ?_
            refine yG.invV (rest := []) A_hq.1 (bOb (d_Meters W) H_k0) rfl rfl rfl rfl (c_Meters_layLine_c W d A_hq.1 H_k0 H_k2 (a4) (1) (by omega) (by omega) (by omega) (by omega)) (fun rv h10 q9 => ?_)
            obtain ⟨⟨rfl, R_z11⟩, B_h10⟩ := q9
            have A_h10 := A_hq.tr B_h10 (by decide)
            show yG _ _ _ _ _ _ _ _ _ _ [] _
            exact yG.mono (yG.sub (i_90 (a3) (a4)  h10 A_h10   (by omega) (by omega) (by omega) (by omega) (by omega) (by omega) (by omega)) (ySub.cons rfl (ySub.cons rfl (ySub.cons rfl (ySub.cons rfl (ySub.nil)))))) (by omega)
      · intro a3 a4 hq A_hq f0 f1 f2 f3 f4 f5 hm
        refine yG.mono (N := 26 * m + 26) ?_ (by omega)
        refine yG.load xak rfl (fun _ _ => rfl) (v := yR k0) rfl rfl ?_
        refine yG.getO A_hq.1 (w_Meters_shape W H_k0) rfl rfl (fun r1 H_r1 O_r1 q_r1 => ?_)
        refine yG.getO A_hq.1 (w_Shape_ends W H_r1) rfl rfl (fun r2 H_r2 O_r2 q_r2 => ?_)
        refine yG.load xik rfl (fun _ _ => rfl) (v := yI (a4)) rfl rfl ?_
        refine yG.aaldO (r := 57) A_hq.1 (v_Shape_ends W H_r2) rfl rfl rfl (by omega) (by omega) (fun r3 H_r3 q_r3 => ?_)
        refine yG.num (c := 1) rfl (fun _ _ => rfl) (by decide) ?_
        refine yG.iald A_hq.1 (v_Shape_endss W H_r3) rfl (by omega) (by omega) (fun z4 e_z4 i_z4 l_z4 u_z4 => ?_)
        refine yG.load xik rfl (fun _ _ => rfl) (v := yI (a3)) rfl rfl ?_
        refine yG.icmp rfl (t := 114) rfl ⟨by omega, by omega⟩ ⟨by omega, by omega⟩ (fun c5 => ?_) (fun c5 => ?_)
        · have c5 : (z4 : Int) ≠ a3 := c5
          refine yG.iinc rfl (a := a4) rfl (L' := [(4, yI (a4 + 1)), (0, yR k0), (2, yR k2), (3, yI (a3))]) rfl ?_
          refine yG.goto rfl (t := 52) rfl ?_
          exact yG.mono (yG.sub (i_52 (a3) (a4 + 1)  hq A_hq   (by omega) (by omega) (by omega) (by omega) (by omega) (by omega) (by omega)) (ySub.cons rfl (ySub.cons rfl (ySub.cons rfl (ySub.cons rfl (ySub.nil)))))) (by omega)
        · have c5 : (z4 : Int) = a3 := c5
          refine yG.load xak rfl (fun _ _ => rfl) (v := yR k0) rfl rfl ?_
          refine yG.load xik rfl (fun _ _ => rfl) (v := yI (a4)) rfl rfl ?_
          refine yG.num (c := -1) rfl (fun _ _ => rfl) (by decide) ?_
          refine yG.load xak rfl (fun _ _ => rfl) (v := yR k2) rfl rfl ?_
          refine yG.invV (rest := []) A_hq.1 (bOb (d_Meters W) H_k0) rfl rfl rfl rfl (c_Meters_layLine_c W d A_hq.1 H_k0 H_k2 (a4) ((-1)) (by omega) (by omega) (by omega) (by omega)) (fun rv h6 q9 => ?_)
          obtain ⟨⟨rfl, R_z7⟩, B_h6⟩ := q9
          have A_h6 := A_hq.tr B_h6 (by decide)
          show yG _ _ _ _ _ _ _ _ _ _ [] _
          refine yG.iinc rfl (a := a4) rfl (L' := [(4, yI (a4 + 1)), (0, yR k0), (2, yR k2), (3, yI (a3))]) rfl ?_
          refine yG.goto rfl (t := 52) rfl ?_
          exact yG.mono (yG.sub (i_52 (a3) (a4 + 1)  h6 A_h6   (by omega) (by omega) (by omega) (by omega) (by omega) (by omega) (by omega)) (ySub.cons rfl (ySub.cons rfl (ySub.cons rfl (ySub.cons rfl (ySub.nil)))))) (by omega)
  refine yC.of (M := (xt_X4_lay, (5, (0, (5, []))))) rfl rfl (N := 1690) (yfuel (by decide)) ?_
  show yG 89 xfts (xcall 89 xfts xpools xms (d + 2)) (xpool xp_RX4) [] xt_X4_lay (yP 0 (fun rv hp' => (rv = none ∧ True) ∧ bAx G [(4398046511104, 256)] hp hp')) 1690 0 [(0, yR k0), (1, yI (p1)), (2, yR k2)] [] hp
  obtain ⟨i_52, i_90⟩ := H 64
  refine yG.load xak rfl (fun _ _ => rfl) (v := yR k0) rfl rfl ?_
  refine yG.getO A_hp.1 (w_Meters_kind W H_k0) rfl rfl (fun r1 H_r1 O_r1 q_r1 => ?_)
  refine yG.load xik rfl (fun _ _ => rfl) (v := yI (p1)) rfl rfl ?_
  refine yG.iald A_hp.1 (v_Meters_kind W H_r1) rfl (by omega) (by omega) (fun z2 e_z2 i_z2 l_z2 u_z2 => ?_)
  refine yG.ifz rfl (t := 24) rfl ⟨by omega, by omega⟩ (fun c3 => ?_) (fun c3 => ?_)
  · have c3 : (z2 : Int) ≠ 0 := c3
    refine yG.load xak rfl (fun _ _ => rfl) (v := yR k0) rfl rfl ?_
    refine yG.getS9 A_hp.1 (w_Meters_kind W H_k0) q_r1 rfl rfl ?_
    refine yG.load xik rfl (fun _ _ => rfl) (v := yI (p1)) rfl rfl ?_
    refine yG.iald A_hp.1 (v_Meters_kind W H_r1) rfl (by omega) (by omega) (fun z4 e_z4 i_z4 l_z4 u_z4 => ?_)
    refine yG.num (c := 1) rfl (fun _ _ => rfl) (by decide) ?_
    refine yG.icmp rfl (t := 123) rfl ⟨by omega, by omega⟩ ⟨by omega, by omega⟩ (fun c5 => ?_) (fun c5 => ?_)
    · have c5 : (z4 : Int) ≠ 1 := c5
      refine yG.load xak rfl (fun _ _ => rfl) (v := yR k0) rfl rfl ?_
      refine yG.load xak rfl (fun _ _ => rfl) (v := yR k0) rfl rfl ?_
      refine yG.getO A_hp.1 (w_Meters_shape W H_k0) rfl rfl (fun r6 H_r6 O_r6 q_r6 => ?_)
      refine yG.getO A_hp.1 (w_Shape_row W H_r6) rfl rfl (fun r7 H_r7 O_r7 q_r7 => ?_)
      refine yG.load xak rfl (fun _ _ => rfl) (v := yR k0) rfl rfl ?_
      refine yG.getO A_hp.1 (w_Meters_place W H_k0) rfl rfl (fun r8 H_r8 O_r8 q_r8 => ?_)
      refine yG.load xik rfl (fun _ _ => rfl) (v := yI (p1)) rfl rfl ?_
      refine yG.iald A_hp.1 (v_Meters_place W H_r8) rfl (by omega) (by omega) (fun z9 e_z9 i_z9 l_z9 u_z9 => ?_)
      have w_z9 := M_bMk r1 r8 H_r1 H_r8 (p1 : Int).toNat (by omega)
      refine yG.iald A_hp.1 (v_Shape_row W H_r7) rfl (by omega) (by omega) (fun z10 e_z10 i_z10 l_z10 u_z10 => ?_)
      refine yG.numl (c := 1) rfl (fun _ _ => rfl) (by decide) ?_
      refine yG.load xak rfl (fun _ _ => rfl) (v := yR k2) rfl rfl ?_
      refine yG.invV (rest := []) A_hp.1 (bOb (d_Meters W) H_k0) rfl rfl rfl rfl (c_Meters_layAngle_c W (d + 1) A_hp.1 H_k0 H_k2 (z10) (1) (by omega) (by omega) (by omega) (by omega)) (fun rv h11 q9 => ?_)
      obtain ⟨⟨rfl, R_z12⟩, B_h11⟩ := q9
      have A_h11 := A_hp.tr B_h11 (by decide)
      have qq1 : zsl h11 k0 3 = yR r1 := (B_h11.sl H_k0 (by decide)).trans q_r1
      have : ys h11 r1 (p1 : Int).toNat = ys hp r1 (p1 : Int).toNat := B_h11.ys H_r1 (bNo_ok (by decide) _)
      show yG _ _ _ _ _ _ _ _ _ _ [] _
      refine yG.ret rfl (fun _ _ => rfl) ?_
      exact (yP.void ⟨⟨rfl, trivial⟩, A_h11⟩)
    · have c5 : (z4 : Int) = 1 := c5
      refine yG.load xak rfl (fun _ _ => rfl) (v := yR k0) rfl rfl ?_
      refine yG.getO A_hp.1 (w_Meters_shape W H_k0) rfl rfl (fun r13 H_r13 O_r13 q_r13 => ?_)
      refine yG.getO A_hp.1 (w_Shape_node W H_r13) rfl rfl (fun r14 H_r14 O_r14 q_r14 => ?_)
      refine yG.load xak rfl (fun _ _ => rfl) (v := yR k0) rfl rfl ?_
      refine yG.getO A_hp.1 (w_Meters_place W H_k0) rfl rfl (fun r15 H_r15 O_r15 q_r15 => ?_)
      refine yG.load xik rfl (fun _ _ => rfl) (v := yI (p1)) rfl rfl ?_
      refine yG.iald A_hp.1 (v_Meters_place W H_r15) rfl (by omega) (by omega) (fun z16 e_z16 i_z16 l_z16 u_z16 => ?_)
      have w_z16 := M_bMk r1 r15 H_r1 H_r15 (p1 : Int).toNat (by omega)
      refine yG.ialdF A_hp.1 (v_Shape_node W H_r14) rfl rfl (by omega) (by omega) (fun z17 e_z17 i_z17 l_z17 u_z17 => ?_)
      refine yG.store1 xik (L' := [(3, yI (z17)), (0, yR k0), (1, yI (p1)), (2, yR k2)]) rfl (fun _ _ => rfl) rfl rfl ?_
      refine yG.num (c := 0) rfl (fun _ _ => rfl) (by decide) ?_
      refine yG.store1 xik (L' := [(4, yI (0)), (3, yI (z17)), (0, yR k0), (1, yI (p1)), (2, yR k2)]) rfl (fun _ _ => rfl) rfl rfl ?_
      exact yG.mono (yG.sub (i_52 (z17) (0)  hp A_hp   (by omega) (by omega) (by omega) (by omega) (by omega) (by omega) (by omega)) (ySub.cons rfl (ySub.cons rfl (ySub.cons rfl (ySub.cons rfl (ySub.nil)))))) (by omega)
  · have c3 : (z2 : Int) = 0 := c3
    refine yG.load xak rfl (fun _ _ => rfl) (v := yR k0) rfl rfl ?_
    refine yG.load xak rfl (fun _ _ => rfl) (v := yR k0) rfl rfl ?_
    refine yG.getO A_hp.1 (w_Meters_place W H_k0) rfl rfl (fun r18 H_r18 O_r18 q_r18 => ?_)
    refine yG.load xik rfl (fun _ _ => rfl) (v := yI (p1)) rfl rfl ?_
    refine yG.iald A_hp.1 (v_Meters_place W H_r18) rfl (by omega) (by omega) (fun z19 e_z19 i_z19 l_z19 u_z19 => ?_)
    have w_z19 := M_bMk r1 r18 H_r1 H_r18 (p1 : Int).toNat (by omega)
    refine yG.num (c := 1) rfl (fun _ _ => rfl) (by decide) ?_
    refine yG.load xak rfl (fun _ _ => rfl) (v := yR k2) rfl rfl ?_
    refine yG.invV (rest := []) A_hp.1 (bOb (d_Meters W) H_k0) rfl rfl rfl rfl (c_Meters_layLine_c W d A_hp.1 H_k0 H_k2 (z19) (1) (by omega) (by omega) (by omega) (by omega)) (fun rv h20 q9 => ?_)
    obtain ⟨⟨rfl, R_z21⟩, B_h20⟩ := q9
    have A_h20 := A_hp.tr B_h20 (by decide)
    have qq2 : zsl h20 k0 3 = yR r1 := (B_h20.sl H_k0 (by decide)).trans q_r1
    have : ys h20 r1 (p1 : Int).toNat = ys hp r1 (p1 : Int).toNat := B_h20.ys H_r1 (bNo_ok (by decide) _)
    show yG _ _ _ _ _ _ _ _ _ _ [] _
    refine yG.goto rfl (t := 143) rfl ?_
    refine yG.ret rfl (fun _ _ => rfl) ?_
    exact (yP.void ⟨⟨rfl, trivial⟩, A_h20⟩)
theorem c_Meters_lay_s {hp : xH} (W : bW G) (d : Nat) (hT : zTy G hp) (M_bMk : bMk G hp) {k0 : Nat} (H_k0 : bRo G 62 k0) {k2 : Nat} (H_k2 : bRo G 73 k2) (p1 : Int) (h1l : 0 ≤ p1) (h1u : p1 ≤ 31) : yC (xcall 89 xfts xpools xms (d + 3)) 136 [yR k0, yI (p1), yR k2] hp (fun rv hp' => (rv = none ∧ True) ∧ bAx G [(9444732965739290427392, 256)] hp hp') := by
  have A_hp : bAx G [(9444732965739290427392, 256)] hp hp := bAx.rf hT
  have H : ∀ m : Nat, (∀ a3 : Int, ∀ a4 : Int, ∀ hq, bAx G [(9444732965739290427392, 256)] hp hq → 0 ≤ a3 → (-15) ≤ 0 - a3 → 0 ≤ a4 → (-20) ≤ 0 - a4 → 0 ≤ p1 → (-31) ≤ 0 - p1 → 0 - 3 * a4 + 62 < (m : Int) → yG 89 xfts (xcall 89 xfts xpools xms (d + 2)) (xpool xp_RX4) [] xt_X4_lay (yP 0 (fun rv hp' => (rv = none ∧ True) ∧ bAx G [(9444732965739290427392, 256)] hp hp')) (26 * m) 52 [(0, yR k0), (2, yR k2), (3, yI (a3)), (4, yI (a4))] [] hq) ∧ (∀ a3 : Int, ∀ a4 : Int, ∀ hq, bAx G [(9444732965739290427392, 256)] hp hq → 0 ≤ a3 → (-15) ≤ 0 - a3 → 0 ≤ a4 → (-19) ≤ 0 - a4 → 0 ≤ p1 → (-31) ≤ 0 - p1 → 0 - 3 * a4 + 61 < (m : Int) → yG 89 xfts (xcall 89 xfts xpools xms (d + 2)) (xpool xp_RX4) [] xt_X4_lay (yP 0 (fun rv hp' => (rv = none ∧ True) ∧ bAx G [(9444732965739290427392, 256)] hp hp')) (26 * m) 90 [(0, yR k0), (2, yR k2), (3, yI (a3)), (4, yI (a4))] [] hq) := by
    intro m
    induction m with
    | zero =>
      refine ⟨?_, ?_⟩ <;> (intros; exfalso; omega)
    | succ m ih =>
      obtain ⟨i_52, i_90⟩ := ih
      refine ⟨?_, ?_⟩
      · intro a3 a4 hq A_hq f0 f1 f2 f3 f4 f5 hm
        refine yG.mono (N := 26 * m + 26) ?_ (by omega)
        refine yG.load xik rfl (fun _ _ => rfl) (v := yI (a4)) rfl rfl ?_
        refine yG.load xak rfl (fun _ _ => rfl) (v := yR k0) rfl rfl ?_
        refine yG.getO A_hq.1 (w_Meters_net W H_k0) rfl rfl (fun r1 H_r1 O_r1 q_r1 => ?_)
        refine yG.getO A_hq.1 (w_Net_count W H_r1) rfl rfl (fun r2 H_r2 O_r2 q_r2 => ?_)
        refine yG.num (c := 2) rfl (fun _ _ => rfl) (by decide) ?_
        refine yG.ialdF A_hq.1 (v_Net_count W H_r2) rfl rfl (by omega) (by omega) (fun z3 e_z3 i_z3 l_z3 u_z3 => ?_)
        refine yG.icmp rfl (t := 120) rfl ⟨by omega, by omega⟩ ⟨by omega, by omega⟩ (fun c4 => ?_) (fun c4 => ?_)
        · have c4 : (a4 : Int) ≥ z3 := c4
          refine yG.goto rfl (t := 143) rfl ?_
          refine yG.ret rfl (fun _ _ => rfl) ?_
          exact (yP.void ⟨⟨rfl, trivial⟩, A_hq⟩)
        · have c4 : (a4 : Int) < z3 := c4
          refine yG.load xak rfl (fun _ _ => rfl) (v := yR k0) rfl rfl ?_
          refine yG.getO A_hq.1 (w_Meters_shape W H_k0) rfl rfl (fun r5 H_r5 O_r5 q_r5 => ?_)
          refine yG.getO A_hq.1 (w_Shape_ends W H_r5) rfl rfl (fun r6 H_r6 O_r6 q_r6 => ?_)
          refine yG.load xik rfl (fun _ _ => rfl) (v := yI (a4)) rfl rfl ?_
          refine yG.aaldO (r := 57) A_hq.1 (v_Shape_ends W H_r6) rfl rfl rfl (by omega) (by omega) (fun r7 H_r7 q_r7 => ?_)
          refine yG.num (c := 0) rfl (fun _ _ => rfl) (by decide) ?_
          refine yG.iald A_hq.1 (v_Shape_endss W H_r7) rfl (by omega) (by omega) (fun z8 e_z8 i_z8 l_z8 u_z8 => ?_)
          refine yG.load xik rfl (fun _ _ => rfl) (v := yI (a3)) rfl rfl ?_
          refine yG.icmp rfl (t := 90) rfl ⟨by omega, by omega⟩ ⟨by omega, by omega⟩ (fun c9 => ?_) (fun c9 => ?_)
          · have c9 : (z8 : Int) ≠ a3 := c9
            exact yG.mono (yG.sub (i_90 (a3) (a4)  hq A_hq   (by omega) (by omega) (by omega) (by omega) (by omega) (by omega) (by omega)) (ySub.cons rfl (ySub.cons rfl (ySub.cons rfl (ySub.cons rfl (ySub.nil)))))) (by omega)
          · have c9 : (z8 : Int) = a3 := c9
            refine yG.load xak rfl (fun _ _ => rfl) (v := yR k0) rfl rfl ?_
            refine yG.load xik rfl (fun _ _ => rfl) (v := yI (a4)) rfl rfl ?_
            refine yG.num (c := 1) rfl (fun _ _ => rfl) (by decide) ?_
            refine yG.load xak rfl (fun _ _ => rfl) (v := yR k2) rfl rfl ?_
            refine yG.invV (rest := []) A_hq.1 (bOb (d_Meters W) H_k0) rfl rfl rfl rfl (c_Meters_layLine_s W d A_hq.1 H_k0 H_k2 (a4) (1) (by omega) (by omega) (by omega) (by omega)) (fun rv h10 q9 => ?_)
            obtain ⟨⟨rfl, R_z11⟩, B_h10⟩ := q9
            have A_h10 := A_hq.tr B_h10 (by decide)
            show yG _ _ _ _ _ _ _ _ _ _ [] _
            exact yG.mono (yG.sub (i_90 (a3) (a4)  h10 A_h10   (by omega) (by omega) (by omega) (by omega) (by omega) (by omega) (by omega)) (ySub.cons rfl (ySub.cons rfl (ySub.cons rfl (ySub.cons rfl (ySub.nil)))))) (by omega)
      · intro a3 a4 hq A_hq f0 f1 f2 f3 f4 f5 hm
        refine yG.mono (N := 26 * m + 26) ?_ (by omega)
        refine yG.load xak rfl (fun _ _ => rfl) (v := yR k0) rfl rfl ?_
        refine yG.getO A_hq.1 (w_Meters_shape W H_k0) rfl rfl (fun r1 H_r1 O_r1 q_r1 => ?_)
        refine yG.getO A_hq.1 (w_Shape_ends W H_r1) rfl rfl (fun r2 H_r2 O_r2 q_r2 => ?_)
        refine yG.load xik rfl (fun _ _ => rfl) (v := yI (a4)) rfl rfl ?_
        refine yG.aaldO (r := 57) A_hq.1 (v_Shape_ends W H_r2) rfl rfl rfl (by omega) (by omega) (fun r3 H_r3 q_r3 => ?_)
        refine yG.num (c := 1) rfl (fun _ _ => rfl) (by decide) ?_
        refine yG.iald A_hq.1 (v_Shape_endss W H_r3) rfl (by omega) (by omega) (fun z4 e_z4 i_z4 l_z4 u_z4 => ?_)
        refine yG.load xik rfl (fun _ _ => rfl) (v := yI (a3)) rfl rfl ?_
        refine yG.icmp rfl (t := 114) rfl ⟨by omega, by omega⟩ ⟨by omega, by omega⟩ (fun c5 => ?_) (fun c5 => ?_)
        · have c5 : (z4 : Int) ≠ a3 := c5
          refine yG.iinc rfl (a := a4) rfl (L' := [(4, yI (a4 + 1)), (0, yR k0), (2, yR k2), (3, yI (a3))]) rfl ?_
          refine yG.goto rfl (t := 52) rfl ?_
          exact yG.mono (yG.sub (i_52 (a3) (a4 + 1)  hq A_hq   (by omega) (by omega) (by omega) (by omega) (by omega) (by omega) (by omega)) (ySub.cons rfl (ySub.cons rfl (ySub.cons rfl (ySub.cons rfl (ySub.nil)))))) (by omega)
        · have c5 : (z4 : Int) = a3 := c5
          refine yG.load xak rfl (fun _ _ => rfl) (v := yR k0) rfl rfl ?_
          refine yG.load xik rfl (fun _ _ => rfl) (v := yI (a4)) rfl rfl ?_
          refine yG.num (c := -1) rfl (fun _ _ => rfl) (by decide) ?_
          refine yG.load xak rfl (fun _ _ => rfl) (v := yR k2) rfl rfl ?_
          refine yG.invV (rest := []) A_hq.1 (bOb (d_Meters W) H_k0) rfl rfl rfl rfl (c_Meters_layLine_s W d A_hq.1 H_k0 H_k2 (a4) ((-1)) (by omega) (by omega) (by omega) (by omega)) (fun rv h6 q9 => ?_)
          obtain ⟨⟨rfl, R_z7⟩, B_h6⟩ := q9
          have A_h6 := A_hq.tr B_h6 (by decide)
          show yG _ _ _ _ _ _ _ _ _ _ [] _
          refine yG.iinc rfl (a := a4) rfl (L' := [(4, yI (a4 + 1)), (0, yR k0), (2, yR k2), (3, yI (a3))]) rfl ?_
          refine yG.goto rfl (t := 52) rfl ?_
          exact yG.mono (yG.sub (i_52 (a3) (a4 + 1)  h6 A_h6   (by omega) (by omega) (by omega) (by omega) (by omega) (by omega) (by omega)) (ySub.cons rfl (ySub.cons rfl (ySub.cons rfl (ySub.cons rfl (ySub.nil)))))) (by omega)
  refine yC.of (M := (xt_X4_lay, (5, (0, (5, []))))) rfl rfl (N := 1690) (yfuel (by decide)) ?_
  show yG 89 xfts (xcall 89 xfts xpools xms (d + 2)) (xpool xp_RX4) [] xt_X4_lay (yP 0 (fun rv hp' => (rv = none ∧ True) ∧ bAx G [(9444732965739290427392, 256)] hp hp')) 1690 0 [(0, yR k0), (1, yI (p1)), (2, yR k2)] [] hp
  obtain ⟨i_52, i_90⟩ := H 64
  refine yG.load xak rfl (fun _ _ => rfl) (v := yR k0) rfl rfl ?_
  refine yG.getO A_hp.1 (w_Meters_kind W H_k0) rfl rfl (fun r1 H_r1 O_r1 q_r1 => ?_)
  refine yG.load xik rfl (fun _ _ => rfl) (v := yI (p1)) rfl rfl ?_
  refine yG.iald A_hp.1 (v_Meters_kind W H_r1) rfl (by omega) (by omega) (fun z2 e_z2 i_z2 l_z2 u_z2 => ?_)
  refine yG.ifz rfl (t := 24) rfl ⟨by omega, by omega⟩ (fun c3 => ?_) (fun c3 => ?_)
  · have c3 : (z2 : Int) ≠ 0 := c3
    refine yG.load xak rfl (fun _ _ => rfl) (v := yR k0) rfl rfl ?_
    refine yG.getS9 A_hp.1 (w_Meters_kind W H_k0) q_r1 rfl rfl ?_
    refine yG.load xik rfl (fun _ _ => rfl) (v := yI (p1)) rfl rfl ?_
    refine yG.iald A_hp.1 (v_Meters_kind W H_r1) rfl (by omega) (by omega) (fun z4 e_z4 i_z4 l_z4 u_z4 => ?_)
    refine yG.num (c := 1) rfl (fun _ _ => rfl) (by decide) ?_
    refine yG.icmp rfl (t := 123) rfl ⟨by omega, by omega⟩ ⟨by omega, by omega⟩ (fun c5 => ?_) (fun c5 => ?_)
    · have c5 : (z4 : Int) ≠ 1 := c5
      refine yG.load xak rfl (fun _ _ => rfl) (v := yR k0) rfl rfl ?_
      refine yG.load xak rfl (fun _ _ => rfl) (v := yR k0) rfl rfl ?_
      refine yG.getO A_hp.1 (w_Meters_shape W H_k0) rfl rfl (fun r6 H_r6 O_r6 q_r6 => ?_)
      refine yG.getO A_hp.1 (w_Shape_row W H_r6) rfl rfl (fun r7 H_r7 O_r7 q_r7 => ?_)
      refine yG.load xak rfl (fun _ _ => rfl) (v := yR k0) rfl rfl ?_
      refine yG.getO A_hp.1 (w_Meters_place W H_k0) rfl rfl (fun r8 H_r8 O_r8 q_r8 => ?_)
      refine yG.load xik rfl (fun _ _ => rfl) (v := yI (p1)) rfl rfl ?_
      refine yG.iald A_hp.1 (v_Meters_place W H_r8) rfl (by omega) (by omega) (fun z9 e_z9 i_z9 l_z9 u_z9 => ?_)
      have w_z9 := M_bMk r1 r8 H_r1 H_r8 (p1 : Int).toNat (by omega)
      refine yG.iald A_hp.1 (v_Shape_row W H_r7) rfl (by omega) (by omega) (fun z10 e_z10 i_z10 l_z10 u_z10 => ?_)
      refine yG.numl (c := 1) rfl (fun _ _ => rfl) (by decide) ?_
      refine yG.load xak rfl (fun _ _ => rfl) (v := yR k2) rfl rfl ?_
      refine yG.invV (rest := []) A_hp.1 (bOb (d_Meters W) H_k0) rfl rfl rfl rfl (c_Meters_layAngle_s W (d + 1) A_hp.1 H_k0 H_k2 (z10) (1) (by omega) (by omega) (by omega) (by omega)) (fun rv h11 q9 => ?_)
      obtain ⟨⟨rfl, R_z12⟩, B_h11⟩ := q9
      have A_h11 := A_hp.tr B_h11 (by decide)
      have qq1 : zsl h11 k0 3 = yR r1 := (B_h11.sl H_k0 (by decide)).trans q_r1
      have : ys h11 r1 (p1 : Int).toNat = ys hp r1 (p1 : Int).toNat := B_h11.ys H_r1 (bNo_ok (by decide) _)
      show yG _ _ _ _ _ _ _ _ _ _ [] _
      refine yG.ret rfl (fun _ _ => rfl) ?_
      exact (yP.void ⟨⟨rfl, trivial⟩, A_h11⟩)
    · have c5 : (z4 : Int) = 1 := c5
      refine yG.load xak rfl (fun _ _ => rfl) (v := yR k0) rfl rfl ?_
      refine yG.getO A_hp.1 (w_Meters_shape W H_k0) rfl rfl (fun r13 H_r13 O_r13 q_r13 => ?_)
      refine yG.getO A_hp.1 (w_Shape_node W H_r13) rfl rfl (fun r14 H_r14 O_r14 q_r14 => ?_)
      refine yG.load xak rfl (fun _ _ => rfl) (v := yR k0) rfl rfl ?_
      refine yG.getO A_hp.1 (w_Meters_place W H_k0) rfl rfl (fun r15 H_r15 O_r15 q_r15 => ?_)
      refine yG.load xik rfl (fun _ _ => rfl) (v := yI (p1)) rfl rfl ?_
      refine yG.iald A_hp.1 (v_Meters_place W H_r15) rfl (by omega) (by omega) (fun z16 e_z16 i_z16 l_z16 u_z16 => ?_)
      have w_z16 := M_bMk r1 r15 H_r1 H_r15 (p1 : Int).toNat (by omega)
      refine yG.ialdF A_hp.1 (v_Shape_node W H_r14) rfl rfl (by omega) (by omega) (fun z17 e_z17 i_z17 l_z17 u_z17 => ?_)
      refine yG.store1 xik (L' := [(3, yI (z17)), (0, yR k0), (1, yI (p1)), (2, yR k2)]) rfl (fun _ _ => rfl) rfl rfl ?_
      refine yG.num (c := 0) rfl (fun _ _ => rfl) (by decide) ?_
      refine yG.store1 xik (L' := [(4, yI (0)), (3, yI (z17)), (0, yR k0), (1, yI (p1)), (2, yR k2)]) rfl (fun _ _ => rfl) rfl rfl ?_
      exact yG.mono (yG.sub (i_52 (z17) (0)  hp A_hp   (by omega) (by omega) (by omega) (by omega) (by omega) (by omega) (by omega)) (ySub.cons rfl (ySub.cons rfl (ySub.cons rfl (ySub.cons rfl (ySub.nil)))))) (by omega)
  · have c3 : (z2 : Int) = 0 := c3
    refine yG.load xak rfl (fun _ _ => rfl) (v := yR k0) rfl rfl ?_
    refine yG.load xak rfl (fun _ _ => rfl) (v := yR k0) rfl rfl ?_
    refine yG.getO A_hp.1 (w_Meters_place W H_k0) rfl rfl (fun r18 H_r18 O_r18 q_r18 => ?_)
    refine yG.load xik rfl (fun _ _ => rfl) (v := yI (p1)) rfl rfl ?_
    refine yG.iald A_hp.1 (v_Meters_place W H_r18) rfl (by omega) (by omega) (fun z19 e_z19 i_z19 l_z19 u_z19 => ?_)
    have w_z19 := M_bMk r1 r18 H_r1 H_r18 (p1 : Int).toNat (by omega)
    refine yG.num (c := 1) rfl (fun _ _ => rfl) (by decide) ?_
    refine yG.load xak rfl (fun _ _ => rfl) (v := yR k2) rfl rfl ?_
    refine yG.invV (rest := []) A_hp.1 (bOb (d_Meters W) H_k0) rfl rfl rfl rfl (c_Meters_layLine_s W d A_hp.1 H_k0 H_k2 (z19) (1) (by omega) (by omega) (by omega) (by omega)) (fun rv h20 q9 => ?_)
    obtain ⟨⟨rfl, R_z21⟩, B_h20⟩ := q9
    have A_h20 := A_hp.tr B_h20 (by decide)
    have qq2 : zsl h20 k0 3 = yR r1 := (B_h20.sl H_k0 (by decide)).trans q_r1
    have : ys h20 r1 (p1 : Int).toNat = ys hp r1 (p1 : Int).toNat := B_h20.ys H_r1 (bNo_ok (by decide) _)
    show yG _ _ _ _ _ _ _ _ _ _ [] _
    refine yG.goto rfl (t := 143) rfl ?_
    refine yG.ret rfl (fun _ _ => rfl) ?_
    exact (yP.void ⟨⟨rfl, trivial⟩, A_h20⟩)
theorem c_Meters_isFixed {hp : xH} (W : bW G) (d : Nat) (hT : zTy G hp) {k0 : Nat} (H_k0 : bRo G 62 k0) (p1 p2 : Int) (h1l : 0 ≤ p1) (h1u : p1 ≤ 15) (h2l : 0 ≤ p2) (h2u : p2 ≤ 15) : yC (xcall 89 xfts xpools xms (d + 1)) 132 [yR k0, yI (p1), yI (p2)] hp (bQpi hp 0 1 (fun _ => True)) := by
  have A_hp : bAx G [] hp hp := bAx.rf hT
  have H : ∀ m : Nat, (∀ a3 : Int, ∀ a4 : Int, 0 ≤ a3 → (-31) ≤ 0 - a3 → 0 ≤ a4 → (-15) ≤ 0 - a4 → 0 ≤ p1 → (-15) ≤ 0 - p1 → 0 ≤ p2 → (-15) ≤ 0 - p2 → 0 ≤ 0 - a4 + p2 → 0 - 2 * a4 + 31 < (m : Int) → yG 89 xfts (xcall 89 xfts xpools xms d) (xpool xp_RX4) [] xt_X4_isFixed (yP 4 (bQpi hp 0 1 (fun _ => True))) (23 * m) 19 [(0, yR k0), (2, yI (p2)), (3, yI (a3)), (4, yI (a4))] [] hp) := by
    intro m
    induction m with
    | zero =>
      intros; exfalso; omega
    | succ m ih =>
      have i_19 := ih
      clear ih
      intro a3 a4 f0 f1 f2 f3 f4 f5 f6 f7 f8 hm
      refine yG.mono (N := 23 * m + 23) ?_ (by omega)
      refine yG.load xik rfl (fun _ _ => rfl) (v := yI (a4)) rfl rfl ?_
      refine yG.load xik rfl (fun _ _ => rfl) (v := yI (p2)) rfl rfl ?_
      refine yG.icmp rfl (t := 63) rfl ⟨by omega, by omega⟩ ⟨by omega, by omega⟩ (fun c1 => ?_) (fun c1 => ?_)
      · have c1 : (a4 : Int) ≥ p2 := c1
        refine yG.num (c := 1) rfl (fun _ _ => rfl) (by decide) ?_
        refine yG.ret rfl (fun _ _ => rfl) ?_
        exact (yP.bool (by omega) ⟨⟨1, rfl, by omega, by omega, trivial⟩, rfl⟩)
      · have c1 : (a4 : Int) < p2 := c1
        refine yG.load xak rfl (fun _ _ => rfl) (v := yR k0) rfl rfl ?_
        refine yG.getO A_hp.1 (w_Meters_solver W H_k0) rfl rfl (fun r2 H_r2 O_r2 q_r2 => ?_)
        refine yG.getO A_hp.1 (w_Solver_leader W H_r2) rfl rfl (fun r3 H_r3 O_r3 q_r3 => ?_)
        refine yG.load xik rfl (fun _ _ => rfl) (v := yI (a4)) rfl rfl ?_
        refine yG.iald A_hp.1 (v_Solver_leader W H_r3) rfl (by omega) (by omega) (fun z4 e_z4 i_z4 l_z4 u_z4 => ?_)
        refine yG.ifz rfl (t := 57) rfl ⟨by omega, by omega⟩ (fun c5 => ?_) (fun c5 => ?_)
        · have c5 : (z4 : Int) ≥ 0 := c5
          refine yG.iinc rfl (a := a4) rfl (L' := [(4, yI (a4 + 1)), (0, yR k0), (2, yI (p2)), (3, yI (a3))]) rfl ?_
          refine yG.goto rfl (t := 19) rfl ?_
          exact yG.mono (yG.sub (i_19 (a3) (a4 + 1)     (by omega) (by omega) (by omega) (by omega) (by omega) (by omega) (by omega) (by omega) (by omega) (by omega)) (ySub.cons rfl (ySub.cons rfl (ySub.cons rfl (ySub.cons rfl (ySub.nil)))))) (by omega)
        · have c5 : (z4 : Int) < 0 := c5
          refine yG.load xak rfl (fun _ _ => rfl) (v := yR k0) rfl rfl ?_
          refine yG.getS9 A_hp.1 (w_Meters_solver W H_k0) q_r2 rfl rfl ?_
          refine yG.getO A_hp.1 (w_Solver_cell W H_r2) rfl rfl (fun r6 H_r6 O_r6 q_r6 => ?_)
          refine yG.load xik rfl (fun _ _ => rfl) (v := yI (a3)) rfl rfl ?_
          refine yG.aaldO (r := 42) A_hp.1 (v_Solver_cell W H_r6) rfl rfl rfl (by omega) (by omega) (fun r7 H_r7 q_r7 => ?_)
          refine yG.load xik rfl (fun _ _ => rfl) (v := yI (a4)) rfl rfl ?_
          refine yG.lald A_hp.1 (v_Solver_cells W H_r7) rfl (by omega) (by omega) (fun z8 e_z8 i_z8 l_z8 u_z8 => ?_)
          refine yG.numl (c := 0) rfl (fun _ _ => rfl) (by decide) ?_
          refine yG.lcmp rfl ⟨by omega, by omega⟩ ⟨by omega, by omega⟩ (fun z9 e_z9 => ?_)
          refine yG.ifz rfl (t := 57) rfl ⟨by omega, by omega⟩ (fun c10 => ?_) (fun c10 => ?_)
          · have c10 : (z9 : Int) = 0 := c10
            refine yG.iinc rfl (a := a4) rfl (L' := [(4, yI (a4 + 1)), (0, yR k0), (2, yI (p2)), (3, yI (a3))]) rfl ?_
            refine yG.goto rfl (t := 19) rfl ?_
            exact yG.mono (yG.sub (i_19 (a3) (a4 + 1)     (by omega) (by omega) (by omega) (by omega) (by omega) (by omega) (by omega) (by omega) (by omega) (by omega)) (ySub.cons rfl (ySub.cons rfl (ySub.cons rfl (ySub.cons rfl (ySub.nil)))))) (by omega)
          · have c10 : (z9 : Int) ≠ 0 := c10
            refine yG.num (c := 0) rfl (fun _ _ => rfl) (by decide) ?_
            refine yG.ret rfl (fun _ _ => rfl) ?_
            exact (yP.bool (by omega) ⟨⟨0, rfl, by omega, by omega, trivial⟩, rfl⟩)
  refine yC.of (M := (xt_X4_isFixed, (5, (4, (5, []))))) rfl rfl (N := 782) (yfuel (by decide)) ?_
  show yG 89 xfts (xcall 89 xfts xpools xms d) (xpool xp_RX4) [] xt_X4_isFixed (yP 4 (bQpi hp 0 1 (fun _ => True))) 782 0 [(0, yR k0), (1, yI (p1)), (2, yI (p2))] [] hp
  have i_19 := H 33
  refine yG.load xak rfl (fun _ _ => rfl) (v := yR k0) rfl rfl ?_
  refine yG.getO A_hp.1 (w_Meters_solver W H_k0) rfl rfl (fun r1 H_r1 O_r1 q_r1 => ?_)
  refine yG.getO A_hp.1 (w_Solver_leader W H_r1) rfl rfl (fun r2 H_r2 O_r2 q_r2 => ?_)
  refine yG.load xik rfl (fun _ _ => rfl) (v := yI (p1)) rfl rfl ?_
  refine yG.iald A_hp.1 (v_Solver_leader W H_r2) rfl (by omega) (by omega) (fun z3 e_z3 i_z3 l_z3 u_z3 => ?_)
  refine yG.store1 xik (L' := [(3, yI (z3)), (0, yR k0), (1, yI (p1)), (2, yI (p2))]) rfl (fun _ _ => rfl) rfl rfl ?_
  refine yG.load xik rfl (fun _ _ => rfl) (v := yI (z3)) rfl rfl ?_
  refine yG.ifz rfl (t := 16) rfl ⟨by omega, by omega⟩ (fun c4 => ?_) (fun c4 => ?_)
  · have c4 : (z3 : Int) ≥ 0 := c4
    refine yG.num (c := 0) rfl (fun _ _ => rfl) (by decide) ?_
    refine yG.store1 xik (L' := [(4, yI (0)), (3, yI (z3)), (0, yR k0), (1, yI (p1)), (2, yI (p2))]) rfl (fun _ _ => rfl) rfl rfl ?_
    exact yG.mono (yG.sub (i_19 (z3) (0)     (by omega) (by omega) (by omega) (by omega) (by omega) (by omega) (by omega) (by omega) (by omega) (by omega)) (ySub.cons rfl (ySub.cons rfl (ySub.cons rfl (ySub.cons rfl (ySub.nil)))))) (by omega)
  · have c4 : (z3 : Int) < 0 := c4
    refine yG.num (c := 0) rfl (fun _ _ => rfl) (by decide) ?_
    refine yG.ret rfl (fun _ _ => rfl) ?_
    exact (yP.bool (by omega) ⟨⟨0, rfl, by omega, by omega, trivial⟩, rfl⟩)
theorem c_Meters_rankByPrime {hp : xH} (W : bW G) (d : Nat) (hT : zTy G hp) (M_bMk : bMk G hp) {k0 : Nat} (H_k0 : bRo G 62 k0) (p1 : Int) (h1l : 0 ≤ p1) (h1u : p1 ≤ 15) : yC (xcall 89 xfts xpools xms (d + 4)) 141 [yR k0, yI (p1)] hp (bQi G [(1099511627776, 3), (18889465946871743643648, 256)] hp 0 47 (fun _ => True)) := by
  have A_hp : bAx G [(1099511627776, 3), (18889465946871743643648, 256)] hp hp := bAx.rf hT
  have H : ∀ m : Nat, (∀ a2 : Int, ∀ a3 : Int, ∀ hq, bAx G [(1099511627776, 3), (18889465946871743643648, 256)] hp hq → 0 ≤ a2 → (-32) ≤ 0 - a2 → 0 ≤ a3 → (-32) ≤ 0 - a3 → 0 ≤ p1 → (-15) ≤ 0 - p1 → 0 ≤ 0 - a2 + a3 → 0 - 33 * a3 + 1088 < (m : Int) → yG 89 xfts (xcall 89 xfts xpools xms (d + 3)) (xpool xp_RX4) [] xt_X4_rankByPrime (yP 1 (bQi G [(1099511627776, 3), (18889465946871743643648, 256)] hp 0 47 (fun _ => True))) (24 * m) 16 [(0, yR k0), (1, yI (p1)), (2, yI (a2)), (3, yI (a3))] [] hq) ∧ (∀ a3 : Int, ∀ a4 : Int, ∀ hq, bAx G [(1099511627776, 3), (18889465946871743643648, 256)] hp hq → 0 ≤ a3 → (-47) ≤ 0 - a3 → 0 ≤ a4 → (-15) ≤ 0 - a4 → 0 ≤ p1 → (-15) ≤ 0 - p1 → 0 ≤ 0 - a4 + p1 → 0 - 2 * a4 + 31 < (m : Int) → yG 89 xfts (xcall 89 xfts xpools xms (d + 3)) (xpool xp_RX4) [] xt_X4_rankByPrime (yP 1 (bQi G [(1099511627776, 3), (18889465946871743643648, 256)] hp 0 47 (fun _ => True))) (24 * m) 70 [(0, yR k0), (1, yI (p1)), (3, yI (a3)), (4, yI (a4))] [] hq) := by
    intro m
    induction m with
    | zero =>
      refine ⟨?_, ?_⟩ <;> (intros; exfalso; omega)
    | succ m ih =>
      obtain ⟨i_16, i_70⟩ := ih
      refine ⟨?_, ?_⟩
      · intro a2 a3 hq A_hq f0 f1 f2 f3 f4 f5 f6 hm
        refine yG.mono (N := 24 * m + 24) ?_ (by omega)
        refine yG.load xik rfl (fun _ _ => rfl) (v := yI (a3)) rfl rfl ?_
        refine yG.load xak rfl (fun _ _ => rfl) (v := yR k0) rfl rfl ?_
        refine yG.getI A_hq.1 (w_Meters_count W H_k0) rfl rfl (fun z1 e_z1 i_z1 l_z1 u_z1 => ?_)
        refine yG.icmp rfl (t := 56) rfl ⟨by omega, by omega⟩ ⟨by omega, by omega⟩ (fun c2 => ?_) (fun c2 => ?_)
        · have c2 : (a3 : Int) ≥ z1 := c2
          refine yG.load xak rfl (fun _ _ => rfl) (v := yR k0) rfl rfl ?_
          refine yG.getO A_hq.1 (w_Meters_solver W H_k0) rfl rfl (fun r3 H_r3 O_r3 q_r3 => ?_)
          refine yG.load xik rfl (fun _ _ => rfl) (v := yI (a2)) rfl rfl ?_
          refine yG.load xik rfl (fun _ _ => rfl) (v := yI (p1)) rfl rfl ?_
          refine yG.load xik rfl (fun _ _ => rfl) (v := yI (p1)) rfl rfl ?_
          refine yG.invV (rest := []) A_hq.1 (bOb (d_Solver W) H_r3) rfl rfl rfl rfl (c_Solver_reduce W d A_hq.1 H_r3 (a2) (p1) (p1) (by omega) (by omega) (by omega) (by omega) (by omega) (by omega)) (fun rv h4 q9 => ?_)
          obtain ⟨⟨z5, rfl, l_z5, u_z5, R_z5⟩, B_h4⟩ := q9
          have A_h4 := A_hq.tr B_h4 (by decide)
          show yG _ _ _ _ _ _ _ _ _ _ (yI z5 :: []) _
          refine yG.store1 xik (L' := [(3, yI (z5)), (0, yR k0), (1, yI (p1)), (2, yI (a2))]) rfl (fun _ _ => rfl) rfl rfl ?_
          refine yG.num (c := 0) rfl (fun _ _ => rfl) (by decide) ?_
          refine yG.store1 xik (L' := [(4, yI (0)), (3, yI (z5)), (0, yR k0), (1, yI (p1)), (2, yI (a2))]) rfl (fun _ _ => rfl) rfl rfl ?_
          exact yG.mono (yG.sub (i_70 (z5) (0)  h4 A_h4   (by omega) (by omega) (by omega) (by omega) (by omega) (by omega) (by omega) (by omega)) (ySub.cons rfl (ySub.cons rfl (ySub.cons rfl (ySub.cons rfl (ySub.nil)))))) (by omega)
        · have c2 : (a3 : Int) < z1 := c2
          refine yG.load xak rfl (fun _ _ => rfl) (v := yR k0) rfl rfl ?_
          refine yG.getO A_hq.1 (w_Meters_struck W H_k0) rfl rfl (fun r6 H_r6 O_r6 q_r6 => ?_)
          refine yG.load xik rfl (fun _ _ => rfl) (v := yI (a3)) rfl rfl ?_
          refine yG.bald A_hq.1 (v_Meters_struck W H_r6) rfl (by omega) (by omega) (fun z7 e_z7 i_z7 l_z7 u_z7 => ?_)
          refine yG.ifz rfl (t := 50) rfl ⟨by omega, by omega⟩ (fun c8 => ?_) (fun c8 => ?_)
          · have c8 : (z7 : Int) ≠ 0 := c8
            refine yG.iinc rfl (a := a3) rfl (L' := [(3, yI (a3 + 1)), (0, yR k0), (1, yI (p1)), (2, yI (a2))]) rfl ?_
            refine yG.goto rfl (t := 16) rfl ?_
            exact yG.mono (yG.sub (i_16 (a2) (a3 + 1)  hq A_hq   (by omega) (by omega) (by omega) (by omega) (by omega) (by omega) (by omega) (by omega)) (ySub.cons rfl (ySub.cons rfl (ySub.cons rfl (ySub.cons rfl (ySub.nil)))))) (by omega)
          · have c8 : (z7 : Int) = 0 := c8
            refine yG.load xak rfl (fun _ _ => rfl) (v := yR k0) rfl rfl ?_
            refine yG.load xik rfl (fun _ _ => rfl) (v := yI (a3)) rfl rfl ?_
            refine yG.load xak rfl (fun _ _ => rfl) (v := yR k0) rfl rfl ?_
            refine yG.getO A_hq.1 (w_Meters_solver W H_k0) rfl rfl (fun r9 H_r9 O_r9 q_r9 => ?_)
            refine yG.getO A_hq.1 (w_Solver_cell W H_r9) rfl rfl (fun r10 H_r10 O_r10 q_r10 => ?_)
            refine yG.load xik rfl (fun _ _ => rfl) (v := yI (a2)) rfl rfl ?_
            refine yG.aaldO (r := 42) A_hq.1 (v_Solver_cell W H_r10) rfl rfl rfl (by omega) (by omega) (fun r11 H_r11 q_r11 => ?_)
            refine yG.invV (rest := []) A_hq.1 (bOb (d_Meters W) H_k0) rfl rfl rfl rfl (c_Meters_lay_c W d A_hq.1 (M_bMk.fr A_hq (by decide)) H_k0 H_r11 (a3) (by omega) (by omega)) (fun rv h12 q9 => ?_)
            obtain ⟨⟨rfl, R_z13⟩, B_h12⟩ := q9
            have A_h12 := A_hq.tr B_h12 (by decide)
            show yG _ _ _ _ _ _ _ _ _ _ [] _
            refine yG.iinc rfl (a := a2) rfl (L' := [(2, yI (a2 + 1)), (0, yR k0), (1, yI (p1)), (3, yI (a3))]) rfl ?_
            refine yG.iinc rfl (a := a3) rfl (L' := [(3, yI (a3 + 1)), (2, yI (a2 + 1)), (0, yR k0), (1, yI (p1))]) rfl ?_
            refine yG.goto rfl (t := 16) rfl ?_
            exact yG.mono (yG.sub (i_16 (a2 + 1) (a3 + 1)  h12 A_h12   (by omega) (by omega) (by omega) (by omega) (by omega) (by omega) (by omega) (by omega)) (ySub.cons rfl (ySub.cons rfl (ySub.cons rfl (ySub.cons rfl (ySub.nil)))))) (by omega)
      · intro a3 a4 hq A_hq f0 f1 f2 f3 f4 f5 f6 hm
        refine yG.mono (N := 24 * m + 24) ?_ (by omega)
        refine yG.load xik rfl (fun _ _ => rfl) (v := yI (a4)) rfl rfl ?_
        refine yG.load xik rfl (fun _ _ => rfl) (v := yI (p1)) rfl rfl ?_
        refine yG.icmp rfl (t := 116) rfl ⟨by omega, by omega⟩ ⟨by omega, by omega⟩ (fun c1 => ?_) (fun c1 => ?_)
        · have c1 : (a4 : Int) ≥ p1 := c1
          refine yG.load xik rfl (fun _ _ => rfl) (v := yI (a3)) rfl rfl ?_
          refine yG.ret rfl (fun _ _ => rfl) ?_
          exact (yP.int ⟨by omega, by omega⟩ ⟨⟨a3, rfl, by omega, by omega, trivial⟩, A_hq⟩)
        · have c1 : (a4 : Int) < p1 := c1
          refine yG.load xak rfl (fun _ _ => rfl) (v := yR k0) rfl rfl ?_
          refine yG.getO A_hq.1 (w_Meters_ranks W H_k0) rfl rfl (fun r2 H_r2 O_r2 q_r2 => ?_)
          refine yG.load xik rfl (fun _ _ => rfl) (v := yI (a4)) rfl rfl ?_
          refine yG.load xak rfl (fun _ _ => rfl) (v := yR k0) rfl rfl ?_
          refine yG.getS9 A_hq.1 (w_Meters_ranks W H_k0) q_r2 rfl rfl ?_
          refine yG.load xik rfl (fun _ _ => rfl) (v := yI (a4)) rfl rfl ?_
          refine yG.iald A_hq.1 (v_Meters_ranks W H_r2) rfl (by omega) (by omega) (fun z3 e_z3 i_z3 l_z3 u_z3 => ?_)
          refine yG.load xak rfl (fun _ _ => rfl) (v := yR k0) rfl rfl ?_
          refine yG.load xik rfl (fun _ _ => rfl) (v := yI (a4)) rfl rfl ?_
          refine yG.load xik rfl (fun _ _ => rfl) (v := yI (p1)) rfl rfl ?_
          refine yG.invV (rest := [yI (z3), yI (a4), yR r2]) A_hq.1 (bOb (d_Meters W) H_k0) rfl rfl rfl rfl (c_Meters_isFixed W (d + 2) A_hq.1 H_k0 (a4) (p1) (by omega) (by omega) (by omega) (by omega)) (fun rv hp9 q9 => ?_)
          obtain ⟨⟨z4, rfl, l_z4, u_z4, R_z4⟩, e9⟩ := q9
          rw [e9]
          show yG _ _ _ _ _ _ _ _ _ _ (yI z4 :: [yI (z3), yI (a4), yR r2]) _
          refine yG.ifz rfl (t := 103) rfl ⟨by omega, by omega⟩ (fun c5 => ?_) (fun c5 => ?_)
          · have c5 : (z4 : Int) = 0 := c5
            refine yG.load xik rfl (fun _ _ => rfl) (v := yI (a3)) rfl rfl ?_
            refine yG.num (c := 1) rfl (fun _ _ => rfl) (by decide) ?_
            refine yG.iadd rfl ?_
            refine yG.invS (rest := [yI (a4), yR r2]) rfl rfl rfl rfl (c_J9_maxI W (d + 2) A_hq.1 (z3) (a3 + 1) (by omega) (by omega) (by omega) (by omega)) (fun rv hp9 q9 => ?_)
            obtain ⟨⟨z6, rfl, l_z6, u_z6, R_z6⟩, e9⟩ := q9
            rw [e9]
            show yG _ _ _ _ _ _ _ _ _ _ (yI z6 :: [yI (a4), yR r2]) _
            refine yG.iast A_hq.1 (v_Meters_ranks W H_r2) (W.2.1 _ _ H_r2 (by decide) (by decide)) rfl (by omega) (by omega) ⟨by omega, by omega⟩ (by omega) (by omega) (fun h7 T_h7 b_h7 f_h7 y_h7 => ?_)
            have A_h7 := A_hq.put T_h7 b_h7 f_h7 H_r2 (bAll_ok (by decide) _)
            have qq1 : zsl h7 k0 18 = yR r2 := ((f_h7 k0 18).trans (if_neg (fun e => (bRo.ne H_k0 H_r2 (by decide)) e.1))).trans q_r2
            refine yG.iinc rfl (a := a4) rfl (L' := [(4, yI (a4 + 1)), (0, yR k0), (1, yI (p1)), (3, yI (a3))]) rfl ?_
            refine yG.goto rfl (t := 70) rfl ?_
            exact yG.mono (yG.sub (i_70 (a3) (a4 + 1)  h7 A_h7   (by omega) (by omega) (by omega) (by omega) (by omega) (by omega) (by omega) (by omega)) (ySub.cons rfl (ySub.cons rfl (ySub.cons rfl (ySub.cons rfl (ySub.nil)))))) (by omega)
          · have c5 : (z4 : Int) ≠ 0 := c5
            refine yG.load xik rfl (fun _ _ => rfl) (v := yI (a3)) rfl rfl ?_
            refine yG.goto rfl (t := 106) rfl ?_
            refine yG.invS (rest := [yI (a4), yR r2]) rfl rfl rfl rfl (c_J9_maxI W (d + 2) A_hq.1 (z3) (a3) (by omega) (by omega) (by omega) (by omega)) (fun rv hp9 q9 => ?_)
            obtain ⟨⟨z8, rfl, l_z8, u_z8, R_z8⟩, e9⟩ := q9
            rw [e9]
            show yG _ _ _ _ _ _ _ _ _ _ (yI z8 :: [yI (a4), yR r2]) _
            refine yG.iast A_hq.1 (v_Meters_ranks W H_r2) (W.2.1 _ _ H_r2 (by decide) (by decide)) rfl (by omega) (by omega) ⟨by omega, by omega⟩ (by omega) (by omega) (fun h9 T_h9 b_h9 f_h9 y_h9 => ?_)
            have A_h9 := A_hq.put T_h9 b_h9 f_h9 H_r2 (bAll_ok (by decide) _)
            have qq2 : zsl h9 k0 18 = yR r2 := ((f_h9 k0 18).trans (if_neg (fun e => (bRo.ne H_k0 H_r2 (by decide)) e.1))).trans q_r2
            refine yG.iinc rfl (a := a4) rfl (L' := [(4, yI (a4 + 1)), (0, yR k0), (1, yI (p1)), (3, yI (a3))]) rfl ?_
            refine yG.goto rfl (t := 70) rfl ?_
            exact yG.mono (yG.sub (i_70 (a3) (a4 + 1)  h9 A_h9   (by omega) (by omega) (by omega) (by omega) (by omega) (by omega) (by omega) (by omega)) (ySub.cons rfl (ySub.cons rfl (ySub.cons rfl (ySub.cons rfl (ySub.nil)))))) (by omega)
  refine yC.of (M := (xt_X4_rankByPrime, (5, (1, (5, []))))) rfl rfl (N := 26184) (yfuel (by decide)) ?_
  show yG 89 xfts (xcall 89 xfts xpools xms (d + 3)) (xpool xp_RX4) [] xt_X4_rankByPrime (yP 1 (bQi G [(1099511627776, 3), (18889465946871743643648, 256)] hp 0 47 (fun _ => True))) 26184 0 [(0, yR k0), (1, yI (p1))] [] hp
  obtain ⟨i_16, i_70⟩ := H 1090
  refine yG.num (c := 0) rfl (fun _ _ => rfl) (by decide) ?_
  refine yG.store1 xik (L' := [(2, yI (0)), (0, yR k0), (1, yI (p1))]) rfl (fun _ _ => rfl) rfl rfl ?_
  refine yG.load xak rfl (fun _ _ => rfl) (v := yR k0) rfl rfl ?_
  refine yG.getO A_hp.1 (w_Meters_solver W H_k0) rfl rfl (fun r1 H_r1 O_r1 q_r1 => ?_)
  refine yG.load xak rfl (fun _ _ => rfl) (v := yR k0) rfl rfl ?_
  refine yG.getI A_hp.1 (w_Meters_count W H_k0) rfl rfl (fun z2 e_z2 i_z2 l_z2 u_z2 => ?_)
  refine yG.load xik rfl (fun _ _ => rfl) (v := yI (p1)) rfl rfl ?_
  refine yG.invV (rest := []) A_hp.1 (bOb (d_Solver W) H_r1) rfl rfl rfl rfl (c_Solver_blank W (d + 2) A_hp.1 H_r1 (z2) (p1) (by omega) (by omega) (by omega) (by omega)) (fun rv h3 q9 => ?_)
  obtain ⟨⟨rfl, R_z4⟩, B_h3⟩ := q9
  have A_h3 := A_hp.tr B_h3 (by decide)
  show yG _ _ _ _ _ _ _ _ _ _ [] _
  refine yG.num (c := 0) rfl (fun _ _ => rfl) (by decide) ?_
  refine yG.store1 xik (L' := [(3, yI (0)), (2, yI (0)), (0, yR k0), (1, yI (p1))]) rfl (fun _ _ => rfl) rfl rfl ?_
  exact yG.mono (yG.sub (i_16 (0) (0)  h3 A_h3   (by omega) (by omega) (by omega) (by omega) (by omega) (by omega) (by omega) (by omega)) (ySub.cons rfl (ySub.cons rfl (ySub.cons rfl (ySub.cons rfl (ySub.nil)))))) (by omega)
theorem c_Meters_markSeen {hp : xH} (W : bW G) (d : Nat) (hT : zTy G hp) (M_bMk : bMk G hp) {k0 : Nat} (H_k0 : bRo G 62 k0) : yC (xcall 89 xfts xpools xms (d + 5)) 139 [yR k0] hp (fun rv hp' => (rv = none ∧ True) ∧ bAx G [(34359738368, 1), (1133871366144, 2), (1099511627776, 3), (1099511627776, 6), (1099511627776, 7), (1099511627776, 8), (19774927676877031079936, 256)] hp hp') := by
  have A_hp : bAx G [(34359738368, 1), (1133871366144, 2), (1099511627776, 3), (1099511627776, 6), (1099511627776, 7), (1099511627776, 8), (19774927676877031079936, 256)] hp hp := bAx.rf hT
  have H : ∀ m : Nat, (∀ a1 : Int, ∀ hq, bAx G [(34359738368, 1), (1133871366144, 2), (1099511627776, 3), (1099511627776, 6), (1099511627776, 7), (1099511627776, 8), (19774927676877031079936, 256)] hp hq → 0 ≤ a1 → (-16) ≤ 0 - a1 → 0 - 35000036 * a1 + 595000611 < (m : Int) → yG 89 xfts (xcall 89 xfts xpools xms (d + 4)) (xpool xp_RX4) [] xt_X4_markSeen (yP 0 (fun rv hp' => (rv = none ∧ True) ∧ bAx G [(34359738368, 1), (1133871366144, 2), (1099511627776, 3), (1099511627776, 6), (1099511627776, 7), (1099511627776, 8), (19774927676877031079936, 256)] hp hp')) (30 * m) 2 [(0, yR k0), (1, yI (a1))] [] hq) ∧ (∀ a1 : Int, ∀ a2 : Int, ∀ a3 : Int, ∀ hq, bAx G [(34359738368, 1), (1133871366144, 2), (1099511627776, 3), (1099511627776, 6), (1099511627776, 7), (1099511627776, 8), (19774927676877031079936, 256)] hp hq → 0 ≤ a1 → (-15) ≤ 0 - a1 → 0 ≤ a2 → (-47) ≤ 0 - a2 → 0 ≤ a3 → (-1000000) ≤ 0 - a3 → (-46) ≤ a1 - a2 → (-999999) ≤ a1 - a3 → (-46) ≤ 0 - a2 + a3 → 0 - 35 * a3 + 35000034 < (m : Int) → yG 89 xfts (xcall 89 xfts xpools xms (d + 4)) (xpool xp_RX4) [] xt_X4_markSeen (yP 0 (fun rv hp' => (rv = none ∧ True) ∧ bAx G [(34359738368, 1), (1133871366144, 2), (1099511627776, 3), (1099511627776, 6), (1099511627776, 7), (1099511627776, 8), (19774927676877031079936, 256)] hp hp')) (30 * m) 70 [(0, yR k0), (1, yI (a1)), (2, yI (a2)), (3, yI (a3))] [] hq) ∧ (∀ a1 : Int, ∀ a2 : Int, ∀ a3 : Int, ∀ hq, bAx G [(34359738368, 1), (1133871366144, 2), (1099511627776, 3), (1099511627776, 6), (1099511627776, 7), (1099511627776, 8), (19774927676877031079936, 256)] hp hq → 0 ≤ a1 → (-15) ≤ 0 - a1 → 0 ≤ a2 → (-47) ≤ 0 - a2 → 0 ≤ a3 → (-16) ≤ 0 - a3 → (-46) ≤ a1 - a2 → 0 - 2 * a3 + 33 < (m : Int) → yG 89 xfts (xcall 89 xfts xpools xms (d + 4)) (xpool xp_RX4) [] xt_X4_markSeen (yP 0 (fun rv hp' => (rv = none ∧ True) ∧ bAx G [(34359738368, 1), (1133871366144, 2), (1099511627776, 3), (1099511627776, 6), (1099511627776, 7), (1099511627776, 8), (19774927676877031079936, 256)] hp hp')) (30 * m) 116 [(0, yR k0), (1, yI (a1)), (2, yI (a2)), (3, yI (a3))] [] hq) := by
    intro m
    induction m with
    | zero =>
      refine ⟨?_, ?_, ?_⟩ <;> (intros; exfalso; omega)
    | succ m ih =>
      obtain ⟨i_2, i_70, i_116⟩ := ih
      refine ⟨?_, ?_, ?_⟩
      · intro a1 hq A_hq f0 f1 hm
        refine yG.mono (N := 30 * m + 30) ?_ (by omega)
        refine yG.load xik rfl (fun _ _ => rfl) (v := yI (a1)) rfl rfl ?_
        refine yG.num (c := 16) rfl (fun _ _ => rfl) (by decide) ?_
        refine yG.icmp rfl (t := 28) rfl ⟨by omega, by omega⟩ ⟨by omega, by omega⟩ (fun c1 => ?_) (fun c1 => ?_)
        · have c1 : (a1 : Int) ≥ 16 := c1
          refine yG.load xak rfl (fun _ _ => rfl) (v := yR k0) rfl rfl ?_
          refine yG.getO A_hq.1 (w_Meters_shape W H_k0) rfl rfl (fun r2 H_r2 O_r2 q_r2 => ?_)
          refine yG.load xak rfl (fun _ _ => rfl) (v := yR k0) rfl rfl ?_
          refine yG.getO A_hq.1 (w_Meters_whole W H_k0) rfl rfl (fun r3 H_r3 O_r3 q_r3 => ?_)
          refine yG.num (c := 0) rfl (fun _ _ => rfl) (by decide) ?_
          refine yG.invV (rest := []) A_hq.1 (bOb (d_Shape W) H_r2) rfl rfl rfl rfl (c_Shape_number_10 W (d + 3) A_hq.1 H_r2 H_r3) (fun rv h4 q9 => ?_)
          obtain ⟨⟨z5, rfl, l_z5, u_z5, R_z5⟩, B_h4⟩ := q9
          have A_h4 := A_hq.tr B_h4 (by decide)
          have qq1 : zsl h4 k0 0 = yR r2 := (B_h4.sl H_k0 (by decide)).trans q_r2
          have qq2 : zsl h4 k0 11 = yR r3 := (B_h4.sl H_k0 (by decide)).trans q_r3
          show yG _ _ _ _ _ _ _ _ _ _ (yI z5 :: []) _
          refine yG.store1 xik (L' := [(1, yI (z5)), (0, yR k0)]) rfl (fun _ _ => rfl) rfl rfl ?_
          refine yG.num (c := 0) rfl (fun _ _ => rfl) (by decide) ?_
          refine yG.store1 xik (L' := [(2, yI (0)), (1, yI (z5)), (0, yR k0)]) rfl (fun _ _ => rfl) rfl rfl ?_
          refine yG.load xak rfl (fun _ _ => rfl) (v := yR k0) rfl rfl ?_
          refine yG.getO A_h4.1 (w_Meters_solver W H_k0) rfl rfl (fun r6 H_r6 O_r6 q_r6 => ?_)
          refine yG.load xak rfl (fun _ _ => rfl) (v := yR k0) rfl rfl ?_
          refine yG.getS9 A_h4.1 (w_Meters_shape W H_k0) qq1 rfl rfl ?_
          refine yG.load xak rfl (fun _ _ => rfl) (v := yR k0) rfl rfl ?_
          refine yG.getS9 A_h4.1 (w_Meters_whole W H_k0) qq2 rfl rfl ?_
          refine yG.num (c := 1) rfl (fun _ _ => rfl) (by decide) ?_
          refine yG.num (c := -1) rfl (fun _ _ => rfl) (by decide) ?_
          refine yG.invV (rest := [yR r6]) A_h4.1 (bOb (d_Shape W) H_r2) rfl rfl rfl rfl (c_Shape_bits_1 W (d + 2) A_h4.1 H_r2 H_r3 (1) ((-1)) (by omega) (by omega) (by omega) (by omega)) (fun rv hp9 q9 => ?_)
          obtain ⟨⟨z7, rfl, l_z7, u_z7, R_z7⟩, e9⟩ := q9
          rw [e9]
          show yG _ _ _ _ _ _ _ _ _ _ (yI z7 :: [yR r6]) _
          refine yG.load xik rfl (fun _ _ => rfl) (v := yI (z5)) rfl rfl ?_
          refine yG.num (c := 7) rfl (fun _ _ => rfl) (by decide) ?_
          refine yG.imul rfl ?_
          refine yG.iadd rfl ?_
          obtain ⟨z8, e_z8, l_z8, u_z8⟩ := ywI (z7 + (z5 * 7))
          rw [e_z8]
          refine yG.invV (rest := []) A_h4.1 (bOb (d_Solver W) H_r6) rfl rfl rfl rfl (c_Solver_start W (d + 1) A_h4.1 H_r6 (z8) (by omega) (by omega)) (fun rv h9 q9 => ?_)
          obtain ⟨⟨rfl, R_z10⟩, B_h9⟩ := q9
          have A_h9 := A_h4.tr B_h9 (by decide)
          have qq3 : zsl h9 k0 0 = yR r2 := (B_h9.sl H_k0 (by decide)).trans qq1
          have qq4 : zsl h9 k0 11 = yR r3 := (B_h9.sl H_k0 (by decide)).trans qq2
          show yG _ _ _ _ _ _ _ _ _ _ [] _
          refine yG.num (c := 0) rfl (fun _ _ => rfl) (by decide) ?_
          refine yG.store1 xik (L' := [(3, yI (0)), (2, yI (0)), (1, yI (z5)), (0, yR k0)]) rfl (fun _ _ => rfl) rfl rfl ?_
          exact yG.mono (yG.sub (i_70 (z5) (0) (0)  h9 A_h9   (by omega) (by omega) (by omega) (by omega) (by omega) (by omega) (by omega) (by omega) (by omega) (by omega)) (ySub.cons rfl (ySub.cons rfl (ySub.cons rfl (ySub.cons rfl (ySub.nil)))))) (by omega)
        · have c1 : (a1 : Int) < 16 := c1
          refine yG.load xak rfl (fun _ _ => rfl) (v := yR k0) rfl rfl ?_
          refine yG.getO A_hq.1 (w_Meters_whole W H_k0) rfl rfl (fun r11 H_r11 O_r11 q_r11 => ?_)
          refine yG.load xik rfl (fun _ _ => rfl) (v := yI (a1)) rfl rfl ?_
          refine yG.num (c := 1) rfl (fun _ _ => rfl) (by decide) ?_
          refine yG.bast A_hq.1 (v_Meters_whole W H_r11) (W.2.1 _ _ H_r11 (by decide) (by decide)) rfl (by omega) (by omega) ⟨by omega, by omega⟩ (by omega) (by omega) (fun h12 T_h12 b_h12 f_h12 y_h12 => ?_)
          have A_h12 := A_hq.put T_h12 b_h12 f_h12 H_r11 (bAll_ok (by decide) _)
          have qq5 : zsl h12 k0 11 = yR r11 := ((f_h12 k0 11).trans (if_neg (fun e => (bRo.ne H_k0 H_r11 (by decide)) e.1))).trans q_r11
          refine yG.load xak rfl (fun _ _ => rfl) (v := yR k0) rfl rfl ?_
          refine yG.getO A_h12.1 (w_Meters_ranks W H_k0) rfl rfl (fun r13 H_r13 O_r13 q_r13 => ?_)
          refine yG.load xik rfl (fun _ _ => rfl) (v := yI (a1)) rfl rfl ?_
          refine yG.num (c := 0) rfl (fun _ _ => rfl) (by decide) ?_
          refine yG.iast A_h12.1 (v_Meters_ranks W H_r13) (W.2.1 _ _ H_r13 (by decide) (by decide)) rfl (by omega) (by omega) ⟨by omega, by omega⟩ (by omega) (by omega) (fun h14 T_h14 b_h14 f_h14 y_h14 => ?_)
          have A_h14 := A_h12.put T_h14 b_h14 f_h14 H_r13 (bAll_ok (by decide) _)
          have qq6 : zsl h14 k0 11 = yR r11 := ((f_h14 k0 11).trans (if_neg (fun e => (bRo.ne H_k0 H_r13 (by decide)) e.1))).trans qq5
          refine yG.iinc rfl (a := a1) rfl (L' := [(1, yI (a1 + 1)), (0, yR k0)]) rfl ?_
          refine yG.goto rfl (t := 2) rfl ?_
          exact yG.mono (yG.sub (i_2 (a1 + 1)  h14 A_h14   (by omega) (by omega) (by omega)) (ySub.cons rfl (ySub.cons rfl (ySub.nil)))) (by omega)
      · intro a1 a2 a3 hq A_hq f0 f1 f2 f3 f4 f5 f6 f7 f8 hm
        refine yG.mono (N := 30 * m + 30) ?_ (by omega)
        refine yG.load xik rfl (fun _ _ => rfl) (v := yI (a3)) rfl rfl ?_
        refine yG.num (c := 1000000) rfl (fun _ _ => rfl) (by decide) ?_
        refine yG.icmp rfl (t := 114) rfl ⟨by omega, by omega⟩ ⟨by omega, by omega⟩ (fun c1 => ?_) (fun c1 => ?_)
        · have c1 : (a3 : Int) ≥ 1000000 := c1
          refine yG.num (c := 0) rfl (fun _ _ => rfl) (by decide) ?_
          refine yG.store1 xik (L' := [(3, yI (0)), (0, yR k0), (1, yI (a1)), (2, yI (a2))]) rfl (fun _ _ => rfl) rfl rfl ?_
          exact yG.mono (yG.sub (i_116 (a1) (a2) (0)  hq A_hq   (by omega) (by omega) (by omega) (by omega) (by omega) (by omega) (by omega) (by omega)) (ySub.cons rfl (ySub.cons rfl (ySub.cons rfl (ySub.cons rfl (ySub.nil)))))) (by omega)
        · have c1 : (a3 : Int) < 1000000 := c1
          refine yG.load xik rfl (fun _ _ => rfl) (v := yI (a2)) rfl rfl ?_
          refine yG.load xik rfl (fun _ _ => rfl) (v := yI (a1)) rfl rfl ?_
          refine yG.icmp rfl (t := 114) rfl ⟨by omega, by omega⟩ ⟨by omega, by omega⟩ (fun c2 => ?_) (fun c2 => ?_)
          · have c2 : (a2 : Int) ≥ a1 := c2
            refine yG.num (c := 0) rfl (fun _ _ => rfl) (by decide) ?_
            refine yG.store1 xik (L' := [(3, yI (0)), (0, yR k0), (1, yI (a1)), (2, yI (a2))]) rfl (fun _ _ => rfl) rfl rfl ?_
            exact yG.mono (yG.sub (i_116 (a1) (a2) (0)  hq A_hq   (by omega) (by omega) (by omega) (by omega) (by omega) (by omega) (by omega) (by omega)) (ySub.cons rfl (ySub.cons rfl (ySub.cons rfl (ySub.cons rfl (ySub.nil)))))) (by omega)
          · have c2 : (a2 : Int) < a1 := c2
            refine yG.load xak rfl (fun _ _ => rfl) (v := yR k0) rfl rfl ?_
            refine yG.getO A_hq.1 (w_Meters_solver W H_k0) rfl rfl (fun r3 H_r3 O_r3 q_r3 => ?_)
            refine yG.invV (rest := []) A_hq.1 (bOb (d_Solver W) H_r3) rfl rfl rfl rfl (c_Solver_more W (d + 2) A_hq.1 H_r3) (fun rv h4 q9 => ?_)
            obtain ⟨⟨z5, rfl, l_z5, u_z5, R_z5⟩, B_h4⟩ := q9
            have A_h4 := A_hq.tr B_h4 (by decide)
            have qq1 : zsl h4 k0 2 = yR r3 := (B_h4.sl H_k0 (by decide)).trans q_r3
            show yG _ _ _ _ _ _ _ _ _ _ (yI z5 :: []) _
            refine yG.ifz rfl (t := 114) rfl ⟨by omega, by omega⟩ (fun c6 => ?_) (fun c6 => ?_)
            · have c6 : (z5 : Int) = 0 := c6
              refine yG.num (c := 0) rfl (fun _ _ => rfl) (by decide) ?_
              refine yG.store1 xik (L' := [(3, yI (0)), (0, yR k0), (1, yI (a1)), (2, yI (a2))]) rfl (fun _ _ => rfl) rfl rfl ?_
              exact yG.mono (yG.sub (i_116 (a1) (a2) (0)  h4 A_h4   (by omega) (by omega) (by omega) (by omega) (by omega) (by omega) (by omega) (by omega)) (ySub.cons rfl (ySub.cons rfl (ySub.cons rfl (ySub.cons rfl (ySub.nil)))))) (by omega)
            · have c6 : (z5 : Int) ≠ 0 := c6
              refine yG.load xik rfl (fun _ _ => rfl) (v := yI (a2)) rfl rfl ?_
              refine yG.load xak rfl (fun _ _ => rfl) (v := yR k0) rfl rfl ?_
              refine yG.load xik rfl (fun _ _ => rfl) (v := yI (a1)) rfl rfl ?_
              refine yG.invV (rest := [yI (a2)]) A_h4.1 (bOb (d_Meters W) H_k0) rfl rfl rfl rfl (c_Meters_rankByPrime W d A_h4.1 (M_bMk.fr A_h4 (by decide)) H_k0 (a1) (by omega) (by omega)) (fun rv h7 q9 => ?_)
              obtain ⟨⟨z8, rfl, l_z8, u_z8, R_z8⟩, B_h7⟩ := q9
              have A_h7 := A_h4.tr B_h7 (by decide)
              have qq2 : zsl h7 k0 2 = yR r3 := (B_h7.sl H_k0 (by decide)).trans qq1
              show yG _ _ _ _ _ _ _ _ _ _ (yI z8 :: [yI (a2)]) _
              refine yG.invS (rest := []) rfl rfl rfl rfl (c_J9_maxI W (d + 3) A_h7.1 (a2) (z8) (by omega) (by omega) (by omega) (by omega)) (fun rv hp9 q9 => ?_)
              obtain ⟨⟨z9, rfl, l_z9, u_z9, R_z9⟩, e9⟩ := q9
              rw [e9]
              show yG _ _ _ _ _ _ _ _ _ _ (yI z9 :: []) _
              refine yG.store1 xik (L' := [(2, yI (z9)), (0, yR k0), (1, yI (a1)), (3, yI (a3))]) rfl (fun _ _ => rfl) rfl rfl ?_
              refine yG.load xak rfl (fun _ _ => rfl) (v := yR k0) rfl rfl ?_
              refine yG.getS9 A_h7.1 (w_Meters_solver W H_k0) qq2 rfl rfl ?_
              refine yG.invV (rest := []) A_h7.1 (bOb (d_Solver W) H_r3) rfl rfl rfl rfl (c_Solver_close W (d + 1) A_h7.1 H_r3) (fun rv h10 q9 => ?_)
              obtain ⟨⟨rfl, R_z11⟩, B_h10⟩ := q9
              have A_h10 := A_h7.tr B_h10 (by decide)
              have qq3 : zsl h10 k0 2 = yR r3 := (B_h10.sl H_k0 (by decide)).trans qq2
              show yG _ _ _ _ _ _ _ _ _ _ [] _
              refine yG.iinc rfl (a := a3) rfl (L' := [(3, yI (a3 + 1)), (2, yI (z9)), (0, yR k0), (1, yI (a1))]) rfl ?_
              refine yG.goto rfl (t := 70) rfl ?_
              exact yG.mono (yG.sub (i_70 (a1) (z9) (a3 + 1)  h10 A_h10   (by omega) (by omega) (by omega) (by omega) (by omega) (by omega) (by omega) (by omega) (by omega) (by omega)) (ySub.cons rfl (ySub.cons rfl (ySub.cons rfl (ySub.cons rfl (ySub.nil)))))) (by omega)
      · intro a1 a2 a3 hq A_hq f0 f1 f2 f3 f4 f5 f6 hm
        refine yG.mono (N := 30 * m + 30) ?_ (by omega)
        refine yG.load xik rfl (fun _ _ => rfl) (v := yI (a3)) rfl rfl ?_
        refine yG.num (c := 16) rfl (fun _ _ => rfl) (by decide) ?_
        refine yG.icmp rfl (t := 171) rfl ⟨by omega, by omega⟩ ⟨by omega, by omega⟩ (fun c1 => ?_) (fun c1 => ?_)
        · have c1 : (a3 : Int) ≥ 16 := c1
          refine yG.ret rfl (fun _ _ => rfl) ?_
          exact (yP.void ⟨⟨rfl, trivial⟩, A_hq⟩)
        · have c1 : (a3 : Int) < 16 := c1
          refine yG.load xak rfl (fun _ _ => rfl) (v := yR k0) rfl rfl ?_
          refine yG.getO A_hq.1 (w_Meters_shape W H_k0) rfl rfl (fun r2 H_r2 O_r2 q_r2 => ?_)
          refine yG.getO A_hq.1 (w_Shape_row W H_r2) rfl rfl (fun r3 H_r3 O_r3 q_r3 => ?_)
          refine yG.load xik rfl (fun _ _ => rfl) (v := yI (a3)) rfl rfl ?_
          refine yG.iald A_hq.1 (v_Shape_row W H_r3) rfl (by omega) (by omega) (fun z4 e_z4 i_z4 l_z4 u_z4 => ?_)
          refine yG.store1 xik (L' := [(4, yI (z4)), (0, yR k0), (1, yI (a1)), (2, yI (a2)), (3, yI (a3))]) rfl (fun _ _ => rfl) rfl rfl ?_
          refine yG.load xak rfl (fun _ _ => rfl) (v := yR k0) rfl rfl ?_
          refine yG.getO A_hq.1 (w_Meters_seen W H_k0) rfl rfl (fun r5 H_r5 O_r5 q_r5 => ?_)
          refine yG.load xik rfl (fun _ _ => rfl) (v := yI (a3)) rfl rfl ?_
          refine yG.load xik rfl (fun _ _ => rfl) (v := yI (z4)) rfl rfl ?_
          refine yG.ifz rfl (t := 159) rfl ⟨by omega, by omega⟩ (fun c6 => ?_) (fun c6 => ?_)
          · have c6 : (z4 : Int) < 0 := c6
            refine yG.num (c := 1) rfl (fun _ _ => rfl) (by decide) ?_
            refine yG.goto rfl (t := 164) rfl ?_
            refine yG.bast A_hq.1 (v_Meters_seen W H_r5) (W.2.1 _ _ H_r5 (by decide) (by decide)) rfl (by omega) (by omega) ⟨by omega, by omega⟩ (by omega) (by omega) (fun h7 T_h7 b_h7 f_h7 y_h7 => ?_)
            have A_h7 := A_hq.put T_h7 b_h7 f_h7 H_r5 (bAll_ok (by decide) _)
            refine yG.iinc rfl (a := a3) rfl (L' := [(3, yI (a3 + 1)), (4, yI (z4)), (0, yR k0), (1, yI (a1)), (2, yI (a2))]) rfl ?_
            refine yG.goto rfl (t := 116) rfl ?_
            exact yG.mono (yG.sub (i_116 (a1) (a2) (a3 + 1)  h7 A_h7   (by omega) (by omega) (by omega) (by omega) (by omega) (by omega) (by omega) (by omega)) (ySub.cons rfl (ySub.cons rfl (ySub.cons rfl (ySub.cons rfl (ySub.nil)))))) (by omega)
          · have c6 : (z4 : Int) ≥ 0 := c6
            refine yG.load xik rfl (fun _ _ => rfl) (v := yI (a2)) rfl rfl ?_
            refine yG.load xik rfl (fun _ _ => rfl) (v := yI (a1)) rfl rfl ?_
            refine yG.icmp rfl (t := 159) rfl ⟨by omega, by omega⟩ ⟨by omega, by omega⟩ (fun c8 => ?_) (fun c8 => ?_)
            · have c8 : (a2 : Int) = a1 := c8
              refine yG.num (c := 1) rfl (fun _ _ => rfl) (by decide) ?_
              refine yG.goto rfl (t := 164) rfl ?_
              refine yG.bast A_hq.1 (v_Meters_seen W H_r5) (W.2.1 _ _ H_r5 (by decide) (by decide)) rfl (by omega) (by omega) ⟨by omega, by omega⟩ (by omega) (by omega) (fun h9 T_h9 b_h9 f_h9 y_h9 => ?_)
              have A_h9 := A_hq.put T_h9 b_h9 f_h9 H_r5 (bAll_ok (by decide) _)
              refine yG.iinc rfl (a := a3) rfl (L' := [(3, yI (a3 + 1)), (4, yI (z4)), (0, yR k0), (1, yI (a1)), (2, yI (a2))]) rfl ?_
              refine yG.goto rfl (t := 116) rfl ?_
              exact yG.mono (yG.sub (i_116 (a1) (a2) (a3 + 1)  h9 A_h9   (by omega) (by omega) (by omega) (by omega) (by omega) (by omega) (by omega) (by omega)) (ySub.cons rfl (ySub.cons rfl (ySub.cons rfl (ySub.cons rfl (ySub.nil)))))) (by omega)
            · have c8 : (a2 : Int) ≠ a1 := c8
              refine yG.load xak rfl (fun _ _ => rfl) (v := yR k0) rfl rfl ?_
              refine yG.getO A_hq.1 (w_Meters_ranks W H_k0) rfl rfl (fun r10 H_r10 O_r10 q_r10 => ?_)
              refine yG.load xik rfl (fun _ _ => rfl) (v := yI (z4)) rfl rfl ?_
              refine yG.iald A_hq.1 (v_Meters_ranks W H_r10) rfl (by omega) (by omega) (fun z11 e_z11 i_z11 l_z11 u_z11 => ?_)
              refine yG.load xik rfl (fun _ _ => rfl) (v := yI (a2)) rfl rfl ?_
              refine yG.icmp rfl (t := 163) rfl ⟨by omega, by omega⟩ ⟨by omega, by omega⟩ (fun c12 => ?_) (fun c12 => ?_)
              · have c12 : (z11 : Int) ≠ a2 := c12
                refine yG.num (c := 0) rfl (fun _ _ => rfl) (by decide) ?_
                refine yG.bast A_hq.1 (v_Meters_seen W H_r5) (W.2.1 _ _ H_r5 (by decide) (by decide)) rfl (by omega) (by omega) ⟨by omega, by omega⟩ (by omega) (by omega) (fun h13 T_h13 b_h13 f_h13 y_h13 => ?_)
                have A_h13 := A_hq.put T_h13 b_h13 f_h13 H_r5 (bAll_ok (by decide) _)
                refine yG.iinc rfl (a := a3) rfl (L' := [(3, yI (a3 + 1)), (4, yI (z4)), (0, yR k0), (1, yI (a1)), (2, yI (a2))]) rfl ?_
                refine yG.goto rfl (t := 116) rfl ?_
                exact yG.mono (yG.sub (i_116 (a1) (a2) (a3 + 1)  h13 A_h13   (by omega) (by omega) (by omega) (by omega) (by omega) (by omega) (by omega) (by omega)) (ySub.cons rfl (ySub.cons rfl (ySub.cons rfl (ySub.cons rfl (ySub.nil)))))) (by omega)
              · have c12 : (z11 : Int) = a2 := c12
                refine yG.num (c := 1) rfl (fun _ _ => rfl) (by decide) ?_
                refine yG.goto rfl (t := 164) rfl ?_
                refine yG.bast A_hq.1 (v_Meters_seen W H_r5) (W.2.1 _ _ H_r5 (by decide) (by decide)) rfl (by omega) (by omega) ⟨by omega, by omega⟩ (by omega) (by omega) (fun h14 T_h14 b_h14 f_h14 y_h14 => ?_)
                have A_h14 := A_hq.put T_h14 b_h14 f_h14 H_r5 (bAll_ok (by decide) _)
                refine yG.iinc rfl (a := a3) rfl (L' := [(3, yI (a3 + 1)), (4, yI (z4)), (0, yR k0), (1, yI (a1)), (2, yI (a2))]) rfl ?_
                refine yG.goto rfl (t := 116) rfl ?_
                exact yG.mono (yG.sub (i_116 (a1) (a2) (a3 + 1)  h14 A_h14   (by omega) (by omega) (by omega) (by omega) (by omega) (by omega) (by omega) (by omega)) (ySub.cons rfl (ySub.cons rfl (ySub.cons rfl (ySub.cons rfl (ySub.nil)))))) (by omega)
  refine yC.of (M := (xt_X4_markSeen, (5, (0, (5, []))))) rfl rfl (N := 17850018420) (yfuel (by decide)) ?_
  show yG 89 xfts (xcall 89 xfts xpools xms (d + 4)) (xpool xp_RX4) [] xt_X4_markSeen (yP 0 (fun rv hp' => (rv = none ∧ True) ∧ bAx G [(34359738368, 1), (1133871366144, 2), (1099511627776, 3), (1099511627776, 6), (1099511627776, 7), (1099511627776, 8), (19774927676877031079936, 256)] hp hp')) 17850018420 0 [(0, yR k0)] [] hp
  obtain ⟨i_2, i_70, i_116⟩ := H 595000613
  refine yG.num (c := 0) rfl (fun _ _ => rfl) (by decide) ?_
  refine yG.store1 xik (L' := [(1, yI (0)), (0, yR k0)]) rfl (fun _ _ => rfl) rfl rfl ?_
  exact yG.mono (yG.sub (i_2 (0)  hp A_hp   (by omega) (by omega) (by omega)) (ySub.cons rfl (ySub.cons rfl (ySub.nil)))) (by omega)
theorem c_Meters_markWhole {hp : xH} (W : bW G) (d : Nat) (hT : zTy G hp) {k0 : Nat} (H_k0 : bRo G 62 k0) : yC (xcall 89 xfts xpools xms (d + 1)) 140 [yR k0] hp (fun rv hp' => (rv = none ∧ True) ∧ bAx G [(590295810358705651712, 256)] hp hp') := by
  have A_hp : bAx G [(590295810358705651712, 256)] hp hp := bAx.rf hT
  have H : ∀ m : Nat, (∀ a1 : Int, ∀ hq, bAx G [(590295810358705651712, 256)] hp hq → 0 ≤ a1 → (-16) ≤ 0 - a1 → 0 - 2 * a1 + 33 < (m : Int) → yG 89 xfts (xcall 89 xfts xpools xms d) (xpool xp_RX4) [] xt_X4_markWhole (yP 0 (fun rv hp' => (rv = none ∧ True) ∧ bAx G [(590295810358705651712, 256)] hp hp')) (29 * m) 2 [(0, yR k0), (1, yI (a1))] [] hq) := by
    intro m
    induction m with
    | zero =>
      intros; exfalso; omega
    | succ m ih =>
      have i_2 := ih
      clear ih
      intro a1 hq A_hq f0 f1 hm
      refine yG.mono (N := 29 * m + 29) ?_ (by omega)
      refine yG.load xik rfl (fun _ _ => rfl) (v := yI (a1)) rfl rfl ?_
      refine yG.load xak rfl (fun _ _ => rfl) (v := yR k0) rfl rfl ?_
      refine yG.getO A_hq.1 (w_Meters_net W H_k0) rfl rfl (fun r1 H_r1 O_r1 q_r1 => ?_)
      refine yG.getO A_hq.1 (w_Net_count W H_r1) rfl rfl (fun r2 H_r2 O_r2 q_r2 => ?_)
      refine yG.num (c := 0) rfl (fun _ _ => rfl) (by decide) ?_
      refine yG.ialdF A_hq.1 (v_Net_count W H_r2) rfl rfl (by omega) (by omega) (fun z3 e_z3 i_z3 l_z3 u_z3 => ?_)
      refine yG.icmp rfl (t := 53) rfl ⟨by omega, by omega⟩ ⟨by omega, by omega⟩ (fun c4 => ?_) (fun c4 => ?_)
      · have c4 : (a1 : Int) ≥ z3 := c4
        refine yG.ret rfl (fun _ _ => rfl) ?_
        exact (yP.void ⟨⟨rfl, trivial⟩, A_hq⟩)
      · have c4 : (a1 : Int) < z3 := c4
        refine yG.load xak rfl (fun _ _ => rfl) (v := yR k0) rfl rfl ?_
        refine yG.getO A_hq.1 (w_Meters_seen W H_k0) rfl rfl (fun r5 H_r5 O_r5 q_r5 => ?_)
        refine yG.load xak rfl (fun _ _ => rfl) (v := yR k0) rfl rfl ?_
        refine yG.getO A_hq.1 (w_Meters_shape W H_k0) rfl rfl (fun r6 H_r6 O_r6 q_r6 => ?_)
        refine yG.getO A_hq.1 (w_Shape_node W H_r6) rfl rfl (fun r7 H_r7 O_r7 q_r7 => ?_)
        refine yG.load xik rfl (fun _ _ => rfl) (v := yI (a1)) rfl rfl ?_
        refine yG.ialdF A_hq.1 (v_Shape_node W H_r7) rfl rfl (by omega) (by omega) (fun z8 e_z8 i_z8 l_z8 u_z8 => ?_)
        refine yG.bald A_hq.1 (v_Meters_seen W H_r5) rfl (by omega) (by omega) (fun z9 e_z9 i_z9 l_z9 u_z9 => ?_)
        refine yG.ifz rfl (t := 47) rfl ⟨by omega, by omega⟩ (fun c10 => ?_) (fun c10 => ?_)
        · have c10 : (z9 : Int) ≠ 0 := c10
          refine yG.iinc rfl (a := a1) rfl (L' := [(1, yI (a1 + 1)), (0, yR k0)]) rfl ?_
          refine yG.goto rfl (t := 2) rfl ?_
          exact yG.mono (yG.sub (i_2 (a1 + 1)  hq A_hq   (by omega) (by omega) (by omega)) (ySub.cons rfl (ySub.cons rfl (ySub.nil)))) (by omega)
        · have c10 : (z9 : Int) = 0 := c10
          refine yG.load xak rfl (fun _ _ => rfl) (v := yR k0) rfl rfl ?_
          refine yG.getO A_hq.1 (w_Meters_whole W H_k0) rfl rfl (fun r11 H_r11 O_r11 q_r11 => ?_)
          refine yG.load xak rfl (fun _ _ => rfl) (v := yR k0) rfl rfl ?_
          refine yG.getS9 A_hq.1 (w_Meters_shape W H_k0) q_r6 rfl rfl ?_
          refine yG.getO A_hq.1 (w_Shape_island W H_r6) rfl rfl (fun r12 H_r12 O_r12 q_r12 => ?_)
          refine yG.load xik rfl (fun _ _ => rfl) (v := yI (a1)) rfl rfl ?_
          refine yG.ialdF A_hq.1 (v_Shape_island W H_r12) rfl rfl (by omega) (by omega) (fun z13 e_z13 i_z13 l_z13 u_z13 => ?_)
          refine yG.num (c := 0) rfl (fun _ _ => rfl) (by decide) ?_
          refine yG.bast A_hq.1 (v_Meters_whole W H_r11) (W.2.1 _ _ H_r11 (by decide) (by decide)) rfl (by omega) (by omega) ⟨by omega, by omega⟩ (by omega) (by omega) (fun h14 T_h14 b_h14 f_h14 y_h14 => ?_)
          have A_h14 := A_hq.put T_h14 b_h14 f_h14 H_r11 (bAll_ok (by decide) _)
          have qq1 : zsl h14 k0 0 = yR r6 := ((f_h14 k0 0).trans (if_neg (fun e => (bRo.ne H_k0 H_r11 (by decide)) e.1))).trans q_r6
          refine yG.iinc rfl (a := a1) rfl (L' := [(1, yI (a1 + 1)), (0, yR k0)]) rfl ?_
          refine yG.goto rfl (t := 2) rfl ?_
          exact yG.mono (yG.sub (i_2 (a1 + 1)  h14 A_h14   (by omega) (by omega) (by omega)) (ySub.cons rfl (ySub.cons rfl (ySub.nil)))) (by omega)
  refine yC.of (M := (xt_X4_markWhole, (2, (0, (5, []))))) rfl rfl (N := 1044) (yfuel (by decide)) ?_
  show yG 89 xfts (xcall 89 xfts xpools xms d) (xpool xp_RX4) [] xt_X4_markWhole (yP 0 (fun rv hp' => (rv = none ∧ True) ∧ bAx G [(590295810358705651712, 256)] hp hp')) 1044 0 [(0, yR k0)] [] hp
  have i_2 := H 35
  refine yG.num (c := 0) rfl (fun _ _ => rfl) (by decide) ?_
  refine yG.store1 xik (L' := [(1, yI (0)), (0, yR k0)]) rfl (fun _ _ => rfl) rfl rfl ?_
  exact yG.mono (yG.sub (i_2 (0)  hp A_hp   (by omega) (by omega) (by omega)) (ySub.cons rfl (ySub.cons rfl (ySub.nil)))) (by omega)
theorem c_Meters_clearTops {hp : xH} (W : bW G) (d : Nat) (hT : zTy G hp) {k0 : Nat} (H_k0 : bRo G 70 k0) : yC (xcall 89 xfts xpools xms (d + 3)) 125 [yR k0] hp (fun rv hp' => (rv = none ∧ True) ∧ bAx G [(34359738368, 1), (34359738368, 2), (68719476736, 256)] hp hp') := by
  have A_hp : bAx G [(34359738368, 1), (34359738368, 2), (68719476736, 256)] hp hp := bAx.rf hT
  have H : ∀ m : Nat, (∀ a1 : Int, ∀ hq, bAx G [(34359738368, 1), (34359738368, 2), (68719476736, 256)] hp hq → 0 ≤ a1 → (-32) ≤ 0 - a1 → 0 - 2 * a1 + 65 < (m : Int) → yG 89 xfts (xcall 89 xfts xpools xms (d + 2)) (xpool xp_RX4) [] xt_X4_clearTops (yP 0 (fun rv hp' => (rv = none ∧ True) ∧ bAx G [(34359738368, 1), (34359738368, 2), (68719476736, 256)] hp hp')) (13 * m) 2 [(0, yR k0), (1, yI (a1))] [] hq) := by
    intro m
    induction m with
    | zero =>
      intros; exfalso; omega
    | succ m ih =>
      have i_2 := ih
      clear ih
      intro a1 hq A_hq f0 f1 hm
      refine yG.mono (N := 13 * m + 13) ?_ (by omega)
      refine yG.load xik rfl (fun _ _ => rfl) (v := yI (a1)) rfl rfl ?_
      refine yG.load xak rfl (fun _ _ => rfl) (v := yR k0) rfl rfl ?_
      refine yG.alenF A_hq.1 (v_Big32 W H_k0) rfl ?_
      obtain ⟨z1, e_z1⟩ : ∃ z : Int, z = ((32 : Nat) : Int) := ⟨_, rfl⟩
      rw [← e_z1]
      refine yG.icmp rfl (t := 21) rfl ⟨by omega, by omega⟩ ⟨by omega, by omega⟩ (fun c2 => ?_) (fun c2 => ?_)
      · have c2 : (a1 : Int) ≥ z1 := c2
        refine yG.ret rfl (fun _ _ => rfl) ?_
        exact (yP.void ⟨⟨rfl, trivial⟩, A_hq⟩)
      · have c2 : (a1 : Int) < z1 := c2
        refine yG.load xak rfl (fun _ _ => rfl) (v := yR k0) rfl rfl ?_
        refine yG.load xik rfl (fun _ _ => rfl) (v := yI (a1)) rfl rfl ?_
        refine yG.aaldO (r := 35) A_hq.1 (v_Big32 W H_k0) rfl rfl rfl (by omega) (by omega) (fun r3 H_r3 q_r3 => ?_)
        obtain ⟨n_r3, N_r3⟩ : ∃ n : Int, n = ((zat G r3 : Nat) : Int) := ⟨_, rfl⟩
        have L_r3 := n_Big W H_r3
        refine yG.numl (c := 0) rfl (fun _ _ => rfl) (by decide) ?_
        refine yG.invV (rest := []) A_hq.1 (bOb (d_Big W) H_r3) rfl rfl rfl rfl (c_Big_put W d A_hq.1 H_r3 (0) (by omega) (by omega)) (fun rv h4 q9 => ?_)
        obtain ⟨⟨rfl, R_z5⟩, B_h4⟩ := q9
        have A_h4 := A_hq.tr B_h4 (by decide)
        show yG _ _ _ _ _ _ _ _ _ _ [] _
        refine yG.iinc rfl (a := a1) rfl (L' := [(1, yI (a1 + 1)), (0, yR k0)]) rfl ?_
        refine yG.goto rfl (t := 2) rfl ?_
        exact yG.mono (yG.sub (i_2 (a1 + 1)  h4 A_h4   (by omega) (by omega) (by omega)) (ySub.cons rfl (ySub.cons rfl (ySub.nil)))) (by omega)
  refine yC.of (M := (xt_X4_clearTops, (2, (0, (5, []))))) rfl rfl (N := 884) (yfuel (by decide)) ?_
  show yG 89 xfts (xcall 89 xfts xpools xms (d + 2)) (xpool xp_RX4) [] xt_X4_clearTops (yP 0 (fun rv hp' => (rv = none ∧ True) ∧ bAx G [(34359738368, 1), (34359738368, 2), (68719476736, 256)] hp hp')) 884 0 [(0, yR k0)] [] hp
  have i_2 := H 67
  refine yG.num (c := 0) rfl (fun _ _ => rfl) (by decide) ?_
  refine yG.store1 xik (L' := [(1, yI (0)), (0, yR k0)]) rfl (fun _ _ => rfl) rfl rfl ?_
  exact yG.mono (yG.sub (i_2 (0)  hp A_hp   (by omega) (by omega) (by omega)) (ySub.cons rfl (ySub.cons rfl (ySub.nil)))) (by omega)
theorem c_Meters_heaviest {hp : xH} (W : bW G) (d : Nat) (hT : zTy G hp) {k0 : Nat} (H_k0 : bRo G 62 k0) : yC (xcall 89 xfts xpools xms (d + 1)) 130 [yR k0] hp (bQpi hp (-2147483648) 2147483647 (fun _ => True)) := by
  have A_hp : bAx G [] hp hp := bAx.rf hT
  have H : ∀ m : Nat, (∀ a1 : Int, ∀ a2 : Int, ∀ a3 : Int, 0 ≤ a1 → (-20) ≤ 0 - a1 → (-2147483648) ≤ a2 → (-2147483647) ≤ 0 - a2 → 0 ≤ a3 → (-32) ≤ 0 - a3 → (-2147483646) ≤ 0 - a2 + a3 → 0 - 2 * a3 + 65 < (m : Int) → yG 89 xfts (xcall 89 xfts xpools xms d) (xpool xp_RX4) [] xt_X4_heaviest (yP 1 (bQpi hp (-2147483648) 2147483647 (fun _ => True))) (26 * m) 14 [(0, yR k0), (1, yI (a1)), (2, yI (a2)), (3, yI (a3))] [] hp) := by
    intro m
    induction m with
    | zero =>
      intros; exfalso; omega
    | succ m ih =>
      have i_14 := ih
      clear ih
      intro a1 a2 a3 f0 f1 f2 f3 f4 f5 f6 hm
      refine yG.mono (N := 26 * m + 26) ?_ (by omega)
      refine yG.load xik rfl (fun _ _ => rfl) (v := yI (a3)) rfl rfl ?_
      refine yG.load xak rfl (fun _ _ => rfl) (v := yR k0) rfl rfl ?_
      refine yG.getI A_hp.1 (w_Meters_count W H_k0) rfl rfl (fun z1 e_z1 i_z1 l_z1 u_z1 => ?_)
      refine yG.icmp rfl (t := 55) rfl ⟨by omega, by omega⟩ ⟨by omega, by omega⟩ (fun c2 => ?_) (fun c2 => ?_)
      · have c2 : (a3 : Int) ≥ z1 := c2
        refine yG.load xik rfl (fun _ _ => rfl) (v := yI (a2)) rfl rfl ?_
        refine yG.ret rfl (fun _ _ => rfl) ?_
        exact (yP.int ⟨by omega, by omega⟩ ⟨⟨a2, rfl, by omega, by omega, trivial⟩, rfl⟩)
      · have c2 : (a3 : Int) < z1 := c2
        refine yG.load xik rfl (fun _ _ => rfl) (v := yI (a2)) rfl rfl ?_
        refine yG.load xak rfl (fun _ _ => rfl) (v := yR k0) rfl rfl ?_
        refine yG.getO A_hp.1 (w_Meters_weight W H_k0) rfl rfl (fun r3 H_r3 O_r3 q_r3 => ?_)
        refine yG.load xik rfl (fun _ _ => rfl) (v := yI (a3)) rfl rfl ?_
        refine yG.iald A_hp.1 (v_Meters_weight W H_r3) rfl (by omega) (by omega) (fun z4 e_z4 i_z4 l_z4 u_z4 => ?_)
        refine yG.load xak rfl (fun _ _ => rfl) (v := yR k0) rfl rfl ?_
        refine yG.getO A_hp.1 (w_Meters_kind W H_k0) rfl rfl (fun r5 H_r5 O_r5 q_r5 => ?_)
        refine yG.load xik rfl (fun _ _ => rfl) (v := yI (a3)) rfl rfl ?_
        refine yG.iald A_hp.1 (v_Meters_kind W H_r5) rfl (by omega) (by omega) (fun z6 e_z6 i_z6 l_z6 u_z6 => ?_)
        refine yG.num (c := 1) rfl (fun _ _ => rfl) (by decide) ?_
        refine yG.icmp rfl (t := 45) rfl ⟨by omega, by omega⟩ ⟨by omega, by omega⟩ (fun c7 => ?_) (fun c7 => ?_)
        · have c7 : (z6 : Int) ≠ 1 := c7
          refine yG.num (c := 1) rfl (fun _ _ => rfl) (by decide) ?_
          refine yG.imul rfl ?_
          refine yG.iadd rfl ?_
          obtain ⟨z8, e_z8, l_z8, u_z8⟩ := ywI (a2 + (z4 * 1))
          rw [e_z8]
          refine yG.store1 xik (L' := [(2, yI (z8)), (0, yR k0), (1, yI (a1)), (3, yI (a3))]) rfl (fun _ _ => rfl) rfl rfl ?_
          refine yG.iinc rfl (a := a3) rfl (L' := [(3, yI (a3 + 1)), (2, yI (z8)), (0, yR k0), (1, yI (a1))]) rfl ?_
          refine yG.goto rfl (t := 14) rfl ?_
          exact yG.mono (yG.sub (i_14 (a1) (z8) (a3 + 1)     (by omega) (by omega) (by omega) (by omega) (by omega) (by omega) (by omega) (by omega)) (ySub.cons rfl (ySub.cons rfl (ySub.cons rfl (ySub.cons rfl (ySub.nil)))))) (by omega)
        · have c7 : (z6 : Int) = 1 := c7
          refine yG.load xik rfl (fun _ _ => rfl) (v := yI (a1)) rfl rfl ?_
          refine yG.load xik rfl (fun _ _ => rfl) (v := yI (a1)) rfl rfl ?_
          refine yG.imul rfl ?_
          obtain ⟨z9, e_z9⟩ : ∃ z : Int, z = a1 * a1 := ⟨_, rfl⟩
          rw [← e_z9]
          have b_z9 : 0 ≤ z9 ∧ z9 ≤ 400 := e_z9 ▸ ymulb (A := 20) (B := 20) (by omega) (by omega) (by omega) (by omega) (by decide)
          have b2_z9 : z9 ≤ 20 * a1 := e_z9 ▸ bmulx (by omega) (by omega)
          have b3_z9 : z9 ≤ 20 * a1 := e_z9 ▸ bmuly (by omega) (by omega)
          refine yG.goto rfl (t := 46) rfl ?_
          refine yG.imul rfl ?_
          obtain ⟨z10, e_z10⟩ : ∃ z : Int, z = z4 * z9 := ⟨_, rfl⟩
          rw [← e_z10]
          have b_z10 : -858993459200 ≤ z10 ∧ z10 ≤ 858993459200 := e_z10 ▸ ymuls (A := 2147483648) (B := 400) (by omega) (by omega) (by omega) (by omega) (by decide)
          refine yG.iadd rfl ?_
          obtain ⟨z11, e_z11, l_z11, u_z11⟩ := ywI (a2 + z10)
          rw [e_z11]
          refine yG.store1 xik (L' := [(2, yI (z11)), (0, yR k0), (1, yI (a1)), (3, yI (a3))]) rfl (fun _ _ => rfl) rfl rfl ?_
          refine yG.iinc rfl (a := a3) rfl (L' := [(3, yI (a3 + 1)), (2, yI (z11)), (0, yR k0), (1, yI (a1))]) rfl ?_
          refine yG.goto rfl (t := 14) rfl ?_
          exact yG.mono (yG.sub (i_14 (a1) (z11) (a3 + 1)     (by omega) (by omega) (by omega) (by omega) (by omega) (by omega) (by omega) (by omega)) (ySub.cons rfl (ySub.cons rfl (ySub.cons rfl (ySub.cons rfl (ySub.nil)))))) (by omega)
  refine yC.of (M := (xt_X4_heaviest, (4, (1, (5, []))))) rfl rfl (N := 1768) (yfuel (by decide)) ?_
  show yG 89 xfts (xcall 89 xfts xpools xms d) (xpool xp_RX4) [] xt_X4_heaviest (yP 1 (bQpi hp (-2147483648) 2147483647 (fun _ => True))) 1768 0 [(0, yR k0)] [] hp
  have i_14 := H 67
  refine yG.load xak rfl (fun _ _ => rfl) (v := yR k0) rfl rfl ?_
  refine yG.getO A_hp.1 (w_Meters_net W H_k0) rfl rfl (fun r1 H_r1 O_r1 q_r1 => ?_)
  refine yG.getO A_hp.1 (w_Net_count W H_r1) rfl rfl (fun r2 H_r2 O_r2 q_r2 => ?_)
  refine yG.num (c := 2) rfl (fun _ _ => rfl) (by decide) ?_
  refine yG.ialdF A_hp.1 (v_Net_count W H_r2) rfl rfl (by omega) (by omega) (fun z3 e_z3 i_z3 l_z3 u_z3 => ?_)
  refine yG.store1 xik (L' := [(1, yI (z3)), (0, yR k0)]) rfl (fun _ _ => rfl) rfl rfl ?_
  refine yG.num (c := 1) rfl (fun _ _ => rfl) (by decide) ?_
  refine yG.store1 xik (L' := [(2, yI (1)), (1, yI (z3)), (0, yR k0)]) rfl (fun _ _ => rfl) rfl rfl ?_
  refine yG.num (c := 0) rfl (fun _ _ => rfl) (by decide) ?_
  refine yG.store1 xik (L' := [(3, yI (0)), (2, yI (1)), (1, yI (z3)), (0, yR k0)]) rfl (fun _ _ => rfl) rfl rfl ?_
  exact yG.mono (yG.sub (i_14 (z3) (1) (0)     (by omega) (by omega) (by omega) (by omega) (by omega) (by omega) (by omega) (by omega)) (ySub.cons rfl (ySub.cons rfl (ySub.cons rfl (ySub.cons rfl (ySub.nil)))))) (by omega)
theorem c_Meters_addMeter {hp : xH} (W : bW G) (d : Nat) (hT : zTy G hp) {k0 : Nat} (H_k0 : bRo G 62 k0) (p1 p2 : Int) (h1l : 0 ≤ p1) (h1u : p1 ≤ 31) (h2l : 0 ≤ p2) (h2u : p2 ≤ 15) : yC (xcall 89 xfts xpools xms (d + 3)) 123 [yR k0, yI (p1), yI (p2)] hp (fun rv hp' => (rv = none ∧ True) ∧ bAx G [(4398046511104, 256)] hp hp') := by
  have A_hp : bAx G [(4398046511104, 256)] hp hp := bAx.rf hT
  have H : ∀ m : Nat, (∀ a3 : Nat, ∀ a4 : Int, ∀ hq, bAx G [(4398046511104, 256)] hp hq → bRo G 73 a3 → 0 ≤ a4 → (-15) ≤ 0 - a4 → 0 ≤ p1 → (-31) ≤ 0 - p1 → 0 ≤ p2 → (-15) ≤ 0 - p2 → 0 ≤ 0 - a4 + p2 → 0 - 49 * a4 + 783 < (m : Int) → yG 89 xfts (xcall 89 xfts xpools xms (d + 2)) (xpool xp_RX4) [] xt_X4_addMeter (yP 0 (fun rv hp' => (rv = none ∧ True) ∧ bAx G [(4398046511104, 256)] hp hp')) (31 * m) 10 [(0, yR k0), (1, yI (p1)), (2, yI (p2)), (3, yR a3), (4, yI (a4))] [] hq) ∧ (∀ a3 : Nat, ∀ a4 : Int, ∀ a5 : Int, ∀ a7 : Int, ∀ hq, bAx G [(4398046511104, 256)] hp hq → bRo G 73 a3 → 0 ≤ a4 → (-14) ≤ 0 - a4 → (-2147483646) ≤ a5 → (-2147483646) ≤ 0 - a5 → 0 ≤ a7 → (-15) ≤ 0 - a7 → 0 ≤ p1 → (-31) ≤ 0 - p1 → 1 ≤ p2 → (-15) ≤ 0 - p2 → 1 ≤ 0 - a4 + p2 → 0 ≤ 0 - a7 + p2 → 0 - 49 * a4 - 3 * a7 + 782 < (m : Int) → yG 89 xfts (xcall 89 xfts xpools xms (d + 2)) (xpool xp_RX4) [] xt_X4_addMeter (yP 0 (fun rv hp' => (rv = none ∧ True) ∧ bAx G [(4398046511104, 256)] hp hp')) (31 * m) 57 [(0, yR k0), (1, yI (p1)), (2, yI (p2)), (3, yR a3), (4, yI (a4)), (5, yJ (a5)), (7, yI (a7))] [] hq) ∧ (∀ a3 : Nat, ∀ a4 : Int, ∀ a5 : Int, ∀ hq, bAx G [(4398046511104, 256)] hp hq → bRo G 73 a3 → 0 ≤ a4 → (-14) ≤ 0 - a4 → (-2147483646) ≤ a5 → (-2147483646) ≤ 0 - a5 → 0 ≤ p1 → (-31) ≤ 0 - p1 → 1 ≤ p2 → (-15) ≤ 0 - p2 → 1 ≤ 0 - a4 + p2 → 0 - 49 * a4 + 736 < (m : Int) → yG 89 xfts (xcall 89 xfts xpools xms (d + 2)) (xpool xp_RX4) [] xt_X4_addMeter (yP 0 (fun rv hp' => (rv = none ∧ True) ∧ bAx G [(4398046511104, 256)] hp hp')) (31 * m) 94 [(0, yR k0), (1, yI (p1)), (2, yI (p2)), (3, yR a3), (4, yI (a4)), (5, yJ (a5))] [] hq) := by
    intro m
    induction m with
    | zero =>
      refine ⟨?_, ?_, ?_⟩ <;> (intros; exfalso; omega)
    | succ m ih =>
      obtain ⟨i_10, i_57, i_94⟩ := ih
      refine ⟨?_, ?_, ?_⟩
      · intro a3 a4 hq A_hq H_a3 f0 f1 f2 f3 f4 f5 f6 hm
        refine yG.mono (N := 31 * m + 31) ?_ (by omega)
        refine yG.load xik rfl (fun _ _ => rfl) (v := yI (a4)) rfl rfl ?_
        refine yG.load xik rfl (fun _ _ => rfl) (v := yI (p2)) rfl rfl ?_
        refine yG.icmp rfl (t := 145) rfl ⟨by omega, by omega⟩ ⟨by omega, by omega⟩ (fun c1 => ?_) (fun c1 => ?_)
        · have c1 : (a4 : Int) ≥ p2 := c1
          refine yG.ret rfl (fun _ _ => rfl) ?_
          exact (yP.void ⟨⟨rfl, trivial⟩, A_hq⟩)
        · have c1 : (a4 : Int) < p2 := c1
          refine yG.load xik rfl (fun _ _ => rfl) (v := yI (a4)) rfl rfl ?_
          refine yG.num (c := 16) rfl (fun _ _ => rfl) (by decide) ?_
          refine yG.icmp rfl (t := 145) rfl ⟨by omega, by omega⟩ ⟨by omega, by omega⟩ (fun c2 => ?_) (fun c2 => ?_)
          · have c2 : (a4 : Int) ≥ 16 := c2
            exfalso; omega
          · have c2 : (a4 : Int) < 16 := c2
            refine yG.load xak rfl (fun _ _ => rfl) (v := yR a3) rfl rfl ?_
            refine yG.load xik rfl (fun _ _ => rfl) (v := yI (a4)) rfl rfl ?_
            refine yG.lald A_hq.1 (v_Meters_showss W H_a3) rfl (by omega) (by omega) (fun z3 e_z3 i_z3 l_z3 u_z3 => ?_)
            refine yG.numl (c := 0) rfl (fun _ _ => rfl) (by decide) ?_
            refine yG.lcmp rfl ⟨by omega, by omega⟩ ⟨by omega, by omega⟩ (fun z4 e_z4 => ?_)
            refine yG.ifz rfl (t := 139) rfl ⟨by omega, by omega⟩ (fun c5 => ?_) (fun c5 => ?_)
            · have c5 : (z4 : Int) = 0 := c5
              refine yG.iinc rfl (a := a4) rfl (L' := [(4, yI (a4 + 1)), (0, yR k0), (1, yI (p1)), (2, yI (p2)), (3, yR a3)]) rfl ?_
              refine yG.goto rfl (t := 10) rfl ?_
              exact yG.mono (yG.sub (i_10 a3 (a4 + 1)  hq A_hq H_a3  (by omega) (by omega) (by omega) (by omega) (by omega) (by omega) (by omega) (by omega)) (ySub.cons rfl (ySub.cons rfl (ySub.cons rfl (ySub.cons rfl (ySub.cons rfl (ySub.nil))))))) (by omega)
            · have c5 : (z4 : Int) ≠ 0 := c5
              refine yG.load xak rfl (fun _ _ => rfl) (v := yR a3) rfl rfl ?_
              refine yG.load xik rfl (fun _ _ => rfl) (v := yI (a4)) rfl rfl ?_
              refine yG.lald A_hq.1 (v_Meters_showss W H_a3) rfl (by omega) (by omega) (fun z6 e_z6 i_z6 l_z6 u_z6 => ?_)
              refine yG.load xak rfl (fun _ _ => rfl) (v := yR k0) rfl rfl ?_
              refine yG.getO A_hq.1 (w_Meters_weight W H_k0) rfl rfl (fun r7 H_r7 O_r7 q_r7 => ?_)
              refine yG.load xik rfl (fun _ _ => rfl) (v := yI (p1)) rfl rfl ?_
              refine yG.iald A_hq.1 (v_Meters_weight W H_r7) rfl (by omega) (by omega) (fun z8 e_z8 i_z8 l_z8 u_z8 => ?_)
              refine yG.i2l rfl ⟨by omega, by omega⟩ ?_
              refine yG.lmul rfl ?_
              obtain ⟨z9, e_z9⟩ : ∃ z : Int, z = z6 * z8 := ⟨_, rfl⟩
              rw [← e_z9]
              have b_z9 : -19807040628566084398385987584 ≤ z9 ∧ z9 ≤ 19807040628566084398385987584 := e_z9 ▸ ymuls (A := 9223372036854775808) (B := 2147483648) (by omega) (by omega) (by omega) (by omega) (by decide)
              refine yG.load xak rfl (fun _ _ => rfl) (v := yR k0) rfl rfl ?_
              refine yG.getO A_hq.1 (w_Meters_solver W H_k0) rfl rfl (fun r10 H_r10 O_r10 q_r10 => ?_)
              refine yG.getJ A_hq.1 (w_Solver_prime W H_r10) rfl rfl (fun z11 e_z11 i_z11 l_z11 u_z11 => ?_)
              obtain ⟨z12, e_z12, l_z12, u_z12⟩ := ywJ (z9)
              rw [e_z12]
              refine yG.lremS rfl ⟨by omega, by omega⟩ ⟨by omega, by omega⟩ (by omega) (fun z13 l_z13 u_z13 => ?_)
              refine yG.store2 xlk2 (L' := [(5, yJ (z13)), (0, yR k0), (1, yI (p1)), (2, yI (p2)), (3, yR a3), (4, yI (a4))]) rfl (fun _ _ => rfl) rfl rfl ?_
              refine yG.num (c := 0) rfl (fun _ _ => rfl) (by decide) ?_
              refine yG.store1 xik (L' := [(7, yI (0)), (5, yJ (z13)), (0, yR k0), (1, yI (p1)), (2, yI (p2)), (3, yR a3), (4, yI (a4))]) rfl (fun _ _ => rfl) rfl rfl ?_
              exact yG.mono (yG.sub (i_57 a3 (a4) (z13) (0)  hq A_hq H_a3  (by omega) (by omega) (by omega) (by omega) (by omega) (by omega) (by omega) (by omega) (by omega) (by omega) (by omega) (by omega) (by omega)) (ySub.cons rfl (ySub.cons rfl (ySub.cons rfl (ySub.cons rfl (ySub.cons rfl (ySub.cons rfl (ySub.cons rfl (ySub.nil))))))))) (by omega)
      · intro a3 a4 a5 a7 hq A_hq H_a3 f0 f1 f2 f3 f4 f5 f6 f7 f8 f9 f10 f11 hm
        refine yG.mono (N := 31 * m + 31) ?_ (by omega)
        refine yG.load xik rfl (fun _ _ => rfl) (v := yI (a7)) rfl rfl ?_
        refine yG.load xik rfl (fun _ _ => rfl) (v := yI (p2)) rfl rfl ?_
        refine yG.icmp rfl (t := 94) rfl ⟨by omega, by omega⟩ ⟨by omega, by omega⟩ (fun c1 => ?_) (fun c1 => ?_)
        · have c1 : (a7 : Int) ≥ p2 := c1
          exact yG.mono (yG.sub (i_94 a3 (a4) (a5)  hq A_hq H_a3  (by omega) (by omega) (by omega) (by omega) (by omega) (by omega) (by omega) (by omega) (by omega) (by omega)) (ySub.cons rfl (ySub.cons rfl (ySub.cons rfl (ySub.cons rfl (ySub.cons rfl (ySub.cons rfl (ySub.nil)))))))) (by omega)
        · have c1 : (a7 : Int) < p2 := c1
          refine yG.load xik rfl (fun _ _ => rfl) (v := yI (a7)) rfl rfl ?_
          refine yG.num (c := 16) rfl (fun _ _ => rfl) (by decide) ?_
          refine yG.icmp rfl (t := 94) rfl ⟨by omega, by omega⟩ ⟨by omega, by omega⟩ (fun c2 => ?_) (fun c2 => ?_)
          · have c2 : (a7 : Int) ≥ 16 := c2
            exfalso; omega
          · have c2 : (a7 : Int) < 16 := c2
            refine yG.load xak rfl (fun _ _ => rfl) (v := yR k0) rfl rfl ?_
            refine yG.getO A_hq.1 (w_Meters_solver W H_k0) rfl rfl (fun r3 H_r3 O_r3 q_r3 => ?_)
            refine yG.load xik rfl (fun _ _ => rfl) (v := yI (a4)) rfl rfl ?_
            refine yG.load xik rfl (fun _ _ => rfl) (v := yI (a7)) rfl rfl ?_
            refine yG.load xlk2 rfl (fun _ _ => rfl) (v := yJ (a5)) rfl rfl ?_
            refine yG.load xak rfl (fun _ _ => rfl) (v := yR a3) rfl rfl ?_
            refine yG.load xik rfl (fun _ _ => rfl) (v := yI (a7)) rfl rfl ?_
            refine yG.lald A_hq.1 (v_Meters_showss W H_a3) rfl (by omega) (by omega) (fun z4 e_z4 i_z4 l_z4 u_z4 => ?_)
            refine yG.lmul rfl ?_
            obtain ⟨z5, e_z5⟩ : ∃ z : Int, z = a5 * z4 := ⟨_, rfl⟩
            rw [← e_z5]
            have b_z5 : -19807040610119340324676435968 ≤ z5 ∧ z5 ≤ 19807040610119340324676435968 := e_z5 ▸ ymuls (A := 2147483646) (B := 9223372036854775808) (by omega) (by omega) (by omega) (by omega) (by decide)
            obtain ⟨z6, e_z6, l_z6, u_z6⟩ := ywJ (z5)
            rw [e_z6]
            refine yG.invV (rest := []) A_hq.1 (bOb (d_Solver W) H_r3) rfl rfl rfl rfl (c_Solver_plus W d A_hq.1 H_r3 (a4) (a7) (z6) (by omega) (by omega) (by omega) (by omega) (by omega) (by omega)) (fun rv h7 q9 => ?_)
            obtain ⟨⟨rfl, R_z8⟩, B_h7⟩ := q9
            have A_h7 := A_hq.tr B_h7 (by decide)
            show yG _ _ _ _ _ _ _ _ _ _ [] _
            refine yG.iinc rfl (a := a7) rfl (L' := [(7, yI (a7 + 1)), (0, yR k0), (1, yI (p1)), (2, yI (p2)), (3, yR a3), (4, yI (a4)), (5, yJ (a5))]) rfl ?_
            refine yG.goto rfl (t := 57) rfl ?_
            exact yG.mono (yG.sub (i_57 a3 (a4) (a5) (a7 + 1)  h7 A_h7 H_a3  (by omega) (by omega) (by omega) (by omega) (by omega) (by omega) (by omega) (by omega) (by omega) (by omega) (by omega) (by omega) (by omega)) (ySub.cons rfl (ySub.cons rfl (ySub.cons rfl (ySub.cons rfl (ySub.cons rfl (ySub.cons rfl (ySub.cons rfl (ySub.nil))))))))) (by omega)
      · intro a3 a4 a5 hq A_hq H_a3 f0 f1 f2 f3 f4 f5 f6 f7 f8 hm
        refine yG.mono (N := 31 * m + 31) ?_ (by omega)
        refine yG.load xak rfl (fun _ _ => rfl) (v := yR k0) rfl rfl ?_
        refine yG.getO A_hq.1 (w_Meters_solver W H_k0) rfl rfl (fun r1 H_r1 O_r1 q_r1 => ?_)
        refine yG.load xik rfl (fun _ _ => rfl) (v := yI (a4)) rfl rfl ?_
        refine yG.load xik rfl (fun _ _ => rfl) (v := yI (p2)) rfl rfl ?_
        refine yG.load xlk2 rfl (fun _ _ => rfl) (v := yJ (a5)) rfl rfl ?_
        refine yG.load xak rfl (fun _ _ => rfl) (v := yR k0) rfl rfl ?_
        refine yG.getS9 A_hq.1 (w_Meters_solver W H_k0) q_r1 rfl rfl ?_
        refine yG.load xak rfl (fun _ _ => rfl) (v := yR k0) rfl rfl ?_
        refine yG.getO A_hq.1 (w_Meters_value W H_k0) rfl rfl (fun r2 H_r2 O_r2 q_r2 => ?_)
        refine yG.load xik rfl (fun _ _ => rfl) (v := yI (p1)) rfl rfl ?_
        refine yG.iald A_hq.1 (v_Meters_value W H_r2) rfl (by omega) (by omega) (fun z3 e_z3 i_z3 l_z3 u_z3 => ?_)
        refine yG.i2l rfl ⟨by omega, by omega⟩ ?_
        refine yG.invV (rest := [yJ (a5), yI (p2), yI (a4), yR r1]) A_hq.1 (bOb (d_Solver W) H_r1) rfl rfl rfl rfl (c_Solver_residue W (d + 1) A_hq.1 H_r1 (z3) (by omega) (by omega)) (fun rv hp9 q9 => ?_)
        obtain ⟨⟨z4, rfl, l_z4, u_z4, R_z4⟩, e9⟩ := q9
        rw [e9]
        show yG _ _ _ _ _ _ _ _ _ _ (yJ z4 :: [yJ (a5), yI (p2), yI (a4), yR r1]) _
        refine yG.lmul rfl ?_
        obtain ⟨z5, e_z5⟩ : ∃ z : Int, z = a5 * z4 := ⟨_, rfl⟩
        rw [← e_z5]
        have b_z5 : -4611686009837453316 ≤ z5 ∧ z5 ≤ 4611686009837453316 := e_z5 ▸ ymuls (A := 2147483646) (B := 2147483646) (by omega) (by omega) (by omega) (by omega) (by decide)
        refine yG.invV (rest := []) A_hq.1 (bOb (d_Solver W) H_r1) rfl rfl rfl rfl (c_Solver_plus W d A_hq.1 H_r1 (a4) (p2) (z5) (by omega) (by omega) (by omega) (by omega) (by omega) (by omega)) (fun rv h6 q9 => ?_)
        obtain ⟨⟨rfl, R_z7⟩, B_h6⟩ := q9
        have A_h6 := A_hq.tr B_h6 (by decide)
        have qq1 : zsl h6 k0 2 = yR r1 := (B_h6.sl H_k0 (by decide)).trans q_r1
        show yG _ _ _ _ _ _ _ _ _ _ [] _
        refine yG.load xak rfl (fun _ _ => rfl) (v := yR k0) rfl rfl ?_
        refine yG.getS9 A_h6.1 (w_Meters_solver W H_k0) qq1 rfl rfl ?_
        refine yG.load xik rfl (fun _ _ => rfl) (v := yI (a4)) rfl rfl ?_
        refine yG.load xik rfl (fun _ _ => rfl) (v := yI (p2)) rfl rfl ?_
        refine yG.num (c := 1) rfl (fun _ _ => rfl) (by decide) ?_
        refine yG.iadd rfl ?_
        refine yG.load xik rfl (fun _ _ => rfl) (v := yI (p1)) rfl rfl ?_
        refine yG.iadd rfl ?_
        refine yG.load xak rfl (fun _ _ => rfl) (v := yR a3) rfl rfl ?_
        refine yG.load xik rfl (fun _ _ => rfl) (v := yI (a4)) rfl rfl ?_
        refine yG.lald A_h6.1 (v_Meters_showss W H_a3) rfl (by omega) (by omega) (fun z8 e_z8 i_z8 l_z8 u_z8 => ?_)
        refine yG.invV (rest := []) A_h6.1 (bOb (d_Solver W) H_r1) rfl rfl rfl rfl (c_Solver_plus W d A_h6.1 H_r1 (a4) ((p2 + 1) + p1) (z8) (by omega) (by omega) (by omega) (by omega) (by omega) (by omega)) (fun rv h9 q9 => ?_)
        obtain ⟨⟨rfl, R_z10⟩, B_h9⟩ := q9
        have A_h9 := A_h6.tr B_h9 (by decide)
        have qq2 : zsl h9 k0 2 = yR r1 := (B_h9.sl H_k0 (by decide)).trans qq1
        show yG _ _ _ _ _ _ _ _ _ _ [] _
        refine yG.iinc rfl (a := a4) rfl (L' := [(4, yI (a4 + 1)), (0, yR k0), (1, yI (p1)), (2, yI (p2)), (3, yR a3), (5, yJ (a5))]) rfl ?_
        refine yG.goto rfl (t := 10) rfl ?_
        exact yG.mono (yG.sub (i_10 a3 (a4 + 1)  h9 A_h9 H_a3  (by omega) (by omega) (by omega) (by omega) (by omega) (by omega) (by omega) (by omega)) (ySub.cons rfl (ySub.cons rfl (ySub.cons rfl (ySub.cons rfl (ySub.cons rfl (ySub.nil))))))) (by omega)
  refine yC.of (M := (xt_X4_addMeter, (8, (0, (5, []))))) rfl rfl (N := 24366) (yfuel (by decide)) ?_
  show yG 89 xfts (xcall 89 xfts xpools xms (d + 2)) (xpool xp_RX4) [] xt_X4_addMeter (yP 0 (fun rv hp' => (rv = none ∧ True) ∧ bAx G [(4398046511104, 256)] hp hp')) 24366 0 [(0, yR k0), (1, yI (p1)), (2, yI (p2))] [] hp
  obtain ⟨i_10, i_57, i_94⟩ := H 785
  refine yG.load xak rfl (fun _ _ => rfl) (v := yR k0) rfl rfl ?_
  refine yG.getO A_hp.1 (w_Meters_shows W H_k0) rfl rfl (fun r1 H_r1 O_r1 q_r1 => ?_)
  refine yG.load xik rfl (fun _ _ => rfl) (v := yI (p1)) rfl rfl ?_
  refine yG.aaldO (r := 73) A_hp.1 (v_Meters_shows W H_r1) rfl rfl rfl (by omega) (by omega) (fun r2 H_r2 q_r2 => ?_)
  refine yG.store1 xak (L' := [(3, yR r2), (0, yR k0), (1, yI (p1)), (2, yI (p2))]) rfl (fun _ _ => rfl) rfl rfl ?_
  refine yG.num (c := 0) rfl (fun _ _ => rfl) (by decide) ?_
  refine yG.store1 xik (L' := [(4, yI (0)), (3, yR r2), (0, yR k0), (1, yI (p1)), (2, yI (p2))]) rfl (fun _ _ => rfl) rfl rfl ?_
  exact yG.mono (yG.sub (i_10 r2 (0)  hp A_hp H_r2  (by omega) (by omega) (by omega) (by omega) (by omega) (by omega) (by omega) (by omega)) (ySub.cons rfl (ySub.cons rfl (ySub.cons rfl (ySub.cons rfl (ySub.cons rfl (ySub.nil))))))) (by omega)
theorem c_Meters_fill {hp : xH} (W : bW G) (d : Nat) (hT : zTy G hp) (M_bMk : bMk G hp) {k0 : Nat} (H_k0 : bRo G 62 k0) (p1 : Int) (h1l : 0 ≤ p1) (h1u : p1 ≤ 15) : yC (xcall 89 xfts xpools xms (d + 4)) 127 [yR k0, yI (p1)] hp (bQj G [(9444732970137336938496, 256)] hp 0 2147483646 (fun _ => True)) := by
  have A_hp : bAx G [(9444732970137336938496, 256)] hp hp := bAx.rf hT
  have H : ∀ m : Nat, (∀ a2 : Int, ∀ hq, bAx G [(9444732970137336938496, 256)] hp hq → 0 ≤ a2 → (-32) ≤ 0 - a2 → 0 ≤ p1 → (-15) ≤ 0 - p1 → 0 - 43 * a2 + 1418 < (m : Int) → yG 89 xfts (xcall 89 xfts xpools xms (d + 3)) (xpool xp_RX4) [] xt_X4_fill (yP 2 (bQj G [(9444732970137336938496, 256)] hp 0 2147483646 (fun _ => True))) (36 * m) 2 [(0, yR k0), (1, yI (p1)), (2, yI (a2))] [] hq) ∧ (∀ a2 : Int, ∀ a3 : Int, ∀ hq, bAx G [(9444732970137336938496, 256)] hp hq → 0 ≤ a2 → (-31) ≤ 0 - a2 → 0 ≤ a3 → (-16) ≤ 0 - a3 → 0 ≤ p1 → (-15) ≤ 0 - p1 → 0 - 43 * a2 - 2 * a3 + 1409 < (m : Int) → yG 89 xfts (xcall 89 xfts xpools xms (d + 3)) (xpool xp_RX4) [] xt_X4_fill (yP 2 (bQj G [(9444732970137336938496, 256)] hp 0 2147483646 (fun _ => True))) (36 * m) 12 [(0, yR k0), (1, yI (p1)), (2, yI (a2)), (3, yI (a3))] [] hq) ∧ (∀ a2 : Int, ∀ a4 : Int, ∀ hq, bAx G [(9444732970137336938496, 256)] hp hq → 0 ≤ a2 → (-2147483646) ≤ 0 - a2 → 0 ≤ a4 → (-20) ≤ 0 - a4 → 0 ≤ p1 → (-15) ≤ 0 - p1 → (-2147483645) ≤ 0 - a2 + a4 → 0 - 2 * a4 + 41 < (m : Int) → yG 89 xfts (xcall 89 xfts xpools xms (d + 3)) (xpool xp_RX4) [] xt_X4_fill (yP 2 (bQj G [(9444732970137336938496, 256)] hp 0 2147483646 (fun _ => True))) (36 * m) 78 [(0, yR k0), (2, yJ (a2)), (4, yI (a4))] [] hq) := by
    intro m
    induction m with
    | zero =>
      refine ⟨?_, ?_, ?_⟩ <;> (intros; exfalso; omega)
    | succ m ih =>
      obtain ⟨i_2, i_12, i_78⟩ := ih
      refine ⟨?_, ?_, ?_⟩
      · intro a2 hq A_hq f0 f1 f2 f3 hm
        refine yG.mono (N := 36 * m + 36) ?_ (by omega)
        refine yG.load xik rfl (fun _ _ => rfl) (v := yI (a2)) rfl rfl ?_
        refine yG.load xak rfl (fun _ _ => rfl) (v := yR k0) rfl rfl ?_
        refine yG.getI A_hq.1 (w_Meters_count W H_k0) rfl rfl (fun z1 e_z1 i_z1 l_z1 u_z1 => ?_)
        refine yG.icmp rfl (t := 73) rfl ⟨by omega, by omega⟩ ⟨by omega, by omega⟩ (fun c2 => ?_) (fun c2 => ?_)
        · have c2 : (a2 : Int) ≥ z1 := c2
          refine yG.numl (c := 1) rfl (fun _ _ => rfl) (by decide) ?_
          refine yG.store2 xlk2 (L' := [(2, yJ (1)), (0, yR k0), (1, yI (p1))]) rfl (fun _ _ => rfl) rfl rfl ?_
          refine yG.num (c := 0) rfl (fun _ _ => rfl) (by decide) ?_
          refine yG.store1 xik (L' := [(4, yI (0)), (2, yJ (1)), (0, yR k0), (1, yI (p1))]) rfl (fun _ _ => rfl) rfl rfl ?_
          exact yG.mono (yG.sub (i_78 (1) (0)  hq A_hq   (by omega) (by omega) (by omega) (by omega) (by omega) (by omega) (by omega) (by omega)) (ySub.cons rfl (ySub.cons rfl (ySub.cons rfl (ySub.nil))))) (by omega)
        · have c2 : (a2 : Int) < z1 := c2
          refine yG.num (c := 0) rfl (fun _ _ => rfl) (by decide) ?_
          refine yG.store1 xik (L' := [(3, yI (0)), (0, yR k0), (1, yI (p1)), (2, yI (a2))]) rfl (fun _ _ => rfl) rfl rfl ?_
          exact yG.mono (yG.sub (i_12 (a2) (0)  hq A_hq   (by omega) (by omega) (by omega) (by omega) (by omega) (by omega) (by omega)) (ySub.cons rfl (ySub.cons rfl (ySub.cons rfl (ySub.cons rfl (ySub.nil)))))) (by omega)
      · intro a2 a3 hq A_hq f0 f1 f2 f3 f4 f5 hm
        refine yG.mono (N := 36 * m + 36) ?_ (by omega)
        refine yG.load xik rfl (fun _ _ => rfl) (v := yI (a3)) rfl rfl ?_
        refine yG.num (c := 16) rfl (fun _ _ => rfl) (by decide) ?_
        refine yG.icmp rfl (t := 33) rfl ⟨by omega, by omega⟩ ⟨by omega, by omega⟩ (fun c1 => ?_) (fun c1 => ?_)
        · have c1 : (a3 : Int) ≥ 16 := c1
          refine yG.load xak rfl (fun _ _ => rfl) (v := yR k0) rfl rfl ?_
          refine yG.load xik rfl (fun _ _ => rfl) (v := yI (a2)) rfl rfl ?_
          refine yG.invV (rest := []) A_hq.1 (bOb (d_Meters W) H_k0) rfl rfl rfl rfl (c_Meters_isWhole W (d + 1) A_hq.1 (M_bMk.fr A_hq (by decide)) H_k0 (a2) (by omega) (by omega)) (fun rv hp9 q9 => ?_)
          obtain ⟨⟨z2, rfl, l_z2, u_z2, R_z2⟩, e9⟩ := q9
          rw [e9]
          show yG _ _ _ _ _ _ _ _ _ _ (yI z2 :: []) _
          refine yG.ifz rfl (t := 67) rfl ⟨by omega, by omega⟩ (fun c3 => ?_) (fun c3 => ?_)
          · have c3 : (z2 : Int) = 0 := c3
            refine yG.iinc rfl (a := a2) rfl (L' := [(2, yI (a2 + 1)), (0, yR k0), (1, yI (p1)), (3, yI (a3))]) rfl ?_
            refine yG.goto rfl (t := 2) rfl ?_
            exact yG.mono (yG.sub (i_2 (a2 + 1)  hq A_hq   (by omega) (by omega) (by omega) (by omega) (by omega)) (ySub.cons rfl (ySub.cons rfl (ySub.cons rfl (ySub.nil))))) (by omega)
          · have c3 : (z2 : Int) ≠ 0 := c3
            refine yG.load xak rfl (fun _ _ => rfl) (v := yR k0) rfl rfl ?_
            refine yG.load xik rfl (fun _ _ => rfl) (v := yI (a2)) rfl rfl ?_
            refine yG.load xak rfl (fun _ _ => rfl) (v := yR k0) rfl rfl ?_
            refine yG.getO A_hq.1 (w_Meters_shows W H_k0) rfl rfl (fun r4 H_r4 O_r4 q_r4 => ?_)
            refine yG.load xik rfl (fun _ _ => rfl) (v := yI (a2)) rfl rfl ?_
            refine yG.aaldO (r := 73) A_hq.1 (v_Meters_shows W H_r4) rfl rfl rfl (by omega) (by omega) (fun r5 H_r5 q_r5 => ?_)
            refine yG.invV (rest := []) A_hq.1 (bOb (d_Meters W) H_k0) rfl rfl rfl rfl (c_Meters_lay_s W d A_hq.1 (M_bMk.fr A_hq (by decide)) H_k0 H_r5 (a2) (by omega) (by omega)) (fun rv h6 q9 => ?_)
            obtain ⟨⟨rfl, R_z7⟩, B_h6⟩ := q9
            have A_h6 := A_hq.tr B_h6 (by decide)
            show yG _ _ _ _ _ _ _ _ _ _ [] _
            refine yG.load xak rfl (fun _ _ => rfl) (v := yR k0) rfl rfl ?_
            refine yG.getO A_h6.1 (w_Meters_struck W H_k0) rfl rfl (fun r8 H_r8 O_r8 q_r8 => ?_)
            refine yG.load xik rfl (fun _ _ => rfl) (v := yI (a2)) rfl rfl ?_
            refine yG.bald A_h6.1 (v_Meters_struck W H_r8) rfl (by omega) (by omega) (fun z9 e_z9 i_z9 l_z9 u_z9 => ?_)
            refine yG.ifz rfl (t := 67) rfl ⟨by omega, by omega⟩ (fun c10 => ?_) (fun c10 => ?_)
            · have c10 : (z9 : Int) ≠ 0 := c10
              refine yG.iinc rfl (a := a2) rfl (L' := [(2, yI (a2 + 1)), (0, yR k0), (1, yI (p1)), (3, yI (a3))]) rfl ?_
              refine yG.goto rfl (t := 2) rfl ?_
              exact yG.mono (yG.sub (i_2 (a2 + 1)  h6 A_h6   (by omega) (by omega) (by omega) (by omega) (by omega)) (ySub.cons rfl (ySub.cons rfl (ySub.cons rfl (ySub.nil))))) (by omega)
            · have c10 : (z9 : Int) = 0 := c10
              refine yG.load xak rfl (fun _ _ => rfl) (v := yR k0) rfl rfl ?_
              refine yG.load xik rfl (fun _ _ => rfl) (v := yI (a2)) rfl rfl ?_
              refine yG.load xik rfl (fun _ _ => rfl) (v := yI (p1)) rfl rfl ?_
              refine yG.invV (rest := []) A_h6.1 (bOb (d_Meters W) H_k0) rfl rfl rfl rfl (c_Meters_addMeter W d A_h6.1 H_k0 (a2) (p1) (by omega) (by omega) (by omega) (by omega)) (fun rv h11 q9 => ?_)
              obtain ⟨⟨rfl, R_z12⟩, B_h11⟩ := q9
              have A_h11 := A_h6.tr B_h11 (by decide)
              show yG _ _ _ _ _ _ _ _ _ _ [] _
              refine yG.iinc rfl (a := a2) rfl (L' := [(2, yI (a2 + 1)), (0, yR k0), (1, yI (p1)), (3, yI (a3))]) rfl ?_
              refine yG.goto rfl (t := 2) rfl ?_
              exact yG.mono (yG.sub (i_2 (a2 + 1)  h11 A_h11   (by omega) (by omega) (by omega) (by omega) (by omega)) (ySub.cons rfl (ySub.cons rfl (ySub.cons rfl (ySub.nil))))) (by omega)
        · have c1 : (a3 : Int) < 16 := c1
          refine yG.load xak rfl (fun _ _ => rfl) (v := yR k0) rfl rfl ?_
          refine yG.getO A_hq.1 (w_Meters_shows W H_k0) rfl rfl (fun r13 H_r13 O_r13 q_r13 => ?_)
          refine yG.load xik rfl (fun _ _ => rfl) (v := yI (a2)) rfl rfl ?_
          refine yG.aaldO (r := 73) A_hq.1 (v_Meters_shows W H_r13) rfl rfl rfl (by omega) (by omega) (fun r14 H_r14 q_r14 => ?_)
          refine yG.load xik rfl (fun _ _ => rfl) (v := yI (a3)) rfl rfl ?_
          refine yG.numl (c := 0) rfl (fun _ _ => rfl) (by decide) ?_
          refine yG.last A_hq.1 (v_Meters_showss W H_r14) (W.2.1 _ _ H_r14 (by decide) (by decide)) rfl (by omega) (by omega) ⟨by omega, by omega⟩ (by omega) (by omega) (fun h15 T_h15 b_h15 f_h15 y_h15 => ?_)
          have A_h15 := A_hq.put T_h15 b_h15 f_h15 H_r14 (bAll_ok (by decide) _)
          refine yG.iinc rfl (a := a3) rfl (L' := [(3, yI (a3 + 1)), (0, yR k0), (1, yI (p1)), (2, yI (a2))]) rfl ?_
          refine yG.goto rfl (t := 12) rfl ?_
          exact yG.mono (yG.sub (i_12 (a2) (a3 + 1)  h15 A_h15   (by omega) (by omega) (by omega) (by omega) (by omega) (by omega) (by omega)) (ySub.cons rfl (ySub.cons rfl (ySub.cons rfl (ySub.cons rfl (ySub.nil)))))) (by omega)
      · intro a2 a4 hq A_hq f0 f1 f2 f3 f4 f5 f6 hm
        refine yG.mono (N := 36 * m + 36) ?_ (by omega)
        refine yG.load xik rfl (fun _ _ => rfl) (v := yI (a4)) rfl rfl ?_
        refine yG.load xak rfl (fun _ _ => rfl) (v := yR k0) rfl rfl ?_
        refine yG.getO A_hq.1 (w_Meters_net W H_k0) rfl rfl (fun r1 H_r1 O_r1 q_r1 => ?_)
        refine yG.getO A_hq.1 (w_Net_count W H_r1) rfl rfl (fun r2 H_r2 O_r2 q_r2 => ?_)
        refine yG.num (c := 2) rfl (fun _ _ => rfl) (by decide) ?_
        refine yG.ialdF A_hq.1 (v_Net_count W H_r2) rfl rfl (by omega) (by omega) (fun z3 e_z3 i_z3 l_z3 u_z3 => ?_)
        refine yG.icmp rfl (t := 144) rfl ⟨by omega, by omega⟩ ⟨by omega, by omega⟩ (fun c4 => ?_) (fun c4 => ?_)
        · have c4 : (a4 : Int) ≥ z3 := c4
          refine yG.load xlk2 rfl (fun _ _ => rfl) (v := yJ (a2)) rfl rfl ?_
          refine yG.ret rfl (fun _ _ => rfl) ?_
          exact (yP.long ⟨by omega, by omega⟩ ⟨⟨a2, rfl, by omega, by omega, trivial⟩, A_hq⟩)
        · have c4 : (a4 : Int) < z3 := c4
          refine yG.load xak rfl (fun _ _ => rfl) (v := yR k0) rfl rfl ?_
          refine yG.getO A_hq.1 (w_Meters_shape W H_k0) rfl rfl (fun r5 H_r5 O_r5 q_r5 => ?_)
          refine yG.load xik rfl (fun _ _ => rfl) (v := yI (a4)) rfl rfl ?_
          refine yG.load xak rfl (fun _ _ => rfl) (v := yR k0) rfl rfl ?_
          refine yG.getO A_hq.1 (w_Meters_whole W H_k0) rfl rfl (fun r6 H_r6 O_r6 q_r6 => ?_)
          refine yG.invV (rest := []) A_hq.1 (bOb (d_Shape W) H_r5) rfl rfl rfl rfl (c_Shape_isLineIn_1 W (d + 2) A_hq.1 H_r5 H_r6 (a4) (by omega) (by omega)) (fun rv hp9 q9 => ?_)
          obtain ⟨⟨z7, rfl, l_z7, u_z7, R_z7⟩, e9⟩ := q9
          rw [e9]
          show yG _ _ _ _ _ _ _ _ _ _ (yI z7 :: []) _
          refine yG.ifz rfl (t := 138) rfl ⟨by omega, by omega⟩ (fun c8 => ?_) (fun c8 => ?_)
          · have c8 : (z7 : Int) = 0 := c8
            refine yG.iinc rfl (a := a4) rfl (L' := [(4, yI (a4 + 1)), (0, yR k0), (2, yJ (a2))]) rfl ?_
            refine yG.goto rfl (t := 78) rfl ?_
            exact yG.mono (yG.sub (i_78 (a2) (a4 + 1)  hq A_hq   (by omega) (by omega) (by omega) (by omega) (by omega) (by omega) (by omega) (by omega)) (ySub.cons rfl (ySub.cons rfl (ySub.cons rfl (ySub.nil))))) (by omega)
          · have c8 : (z7 : Int) ≠ 0 := c8
            refine yG.load xak rfl (fun _ _ => rfl) (v := yR k0) rfl rfl ?_
            refine yG.getS9 A_hq.1 (w_Meters_net W H_k0) q_r1 rfl rfl ?_
            refine yG.num (c := 2) rfl (fun _ _ => rfl) (by decide) ?_
            refine yG.load xik rfl (fun _ _ => rfl) (v := yI (a4)) rfl rfl ?_
            refine yG.num (c := 1) rfl (fun _ _ => rfl) (by decide) ?_
            refine yG.invV (rest := []) A_hq.1 (bOb (d_Net W) H_r1) rfl rfl rfl rfl (c_Net_at_2_1 W (d + 2) A_hq.1 H_r1 (a4) (by omega) (by omega)) (fun rv hp9 q9 => ?_)
            obtain ⟨⟨z9, rfl, l_z9, u_z9, R_z9⟩, e9⟩ := q9
            rw [e9]
            show yG _ _ _ _ _ _ _ _ _ _ (yI z9 :: []) _
            refine yG.i2l rfl ⟨by omega, by omega⟩ ?_
            refine yG.store2 xlk2 (L' := [(5, yJ (z9)), (0, yR k0), (2, yJ (a2)), (4, yI (a4))]) rfl (fun _ _ => rfl) rfl rfl ?_
            refine yG.load xlk2 rfl (fun _ _ => rfl) (v := yJ (a2)) rfl rfl ?_
            refine yG.load xlk2 rfl (fun _ _ => rfl) (v := yJ (z9)) rfl rfl ?_
            refine yG.load xlk2 rfl (fun _ _ => rfl) (v := yJ (z9)) rfl rfl ?_
            refine yG.lmul rfl ?_
            obtain ⟨z10, e_z10⟩ : ∃ z : Int, z = z9 * z9 := ⟨_, rfl⟩
            rw [← e_z10]
            have b_z10 : 0 ≤ z10 ∧ z10 ≤ 9801 := e_z10 ▸ ymulb (A := 99) (B := 99) (by omega) (by omega) (by omega) (by omega) (by decide)
            have b2_z10 : z10 ≤ 99 * z9 := e_z10 ▸ bmulx (by omega) (by omega)
            have b3_z10 : z10 ≤ 99 * z9 := e_z10 ▸ bmuly (by omega) (by omega)
            refine yG.lmul rfl ?_
            obtain ⟨z11, e_z11⟩ : ∃ z : Int, z = a2 * z10 := ⟨_, rfl⟩
            rw [← e_z11]
            have b_z11 : 0 ≤ z11 ∧ z11 ≤ 21047487214446 := e_z11 ▸ ymulb (A := 2147483646) (B := 9801) (by omega) (by omega) (by omega) (by omega) (by decide)
            have b2_z11 : z11 ≤ 2147483646 * z10 := e_z11 ▸ bmulx (by omega) (by omega)
            have b3_z11 : z11 ≤ 9801 * a2 := e_z11 ▸ bmuly (by omega) (by omega)
            refine yG.load xak rfl (fun _ _ => rfl) (v := yR k0) rfl rfl ?_
            refine yG.getO A_hq.1 (w_Meters_solver W H_k0) rfl rfl (fun r12 H_r12 O_r12 q_r12 => ?_)
            refine yG.getJ A_hq.1 (w_Solver_prime W H_r12) rfl rfl (fun z13 e_z13 i_z13 l_z13 u_z13 => ?_)
            refine yG.lrem rfl ⟨by omega, by omega⟩ ⟨by omega, by omega⟩ (by omega) (by omega) ?_
            obtain ⟨z14, e_z14⟩ : ∃ z : Int, z = (z11) % (z13) := ⟨_, rfl⟩
            rw [← e_z14]
            have b_z14 : 0 ≤ z14 ∧ z14 < z13 := e_z14 ▸ ⟨Int.emod_nonneg _ (by omega), Int.emod_lt_of_pos _ (by omega)⟩
            refine yG.store2 xlk2 (L' := [(2, yJ (z14)), (5, yJ (z9)), (0, yR k0), (4, yI (a4))]) rfl (fun _ _ => rfl) rfl rfl ?_
            refine yG.iinc rfl (a := a4) rfl (L' := [(4, yI (a4 + 1)), (2, yJ (z14)), (5, yJ (z9)), (0, yR k0)]) rfl ?_
            refine yG.goto rfl (t := 78) rfl ?_
            exact yG.mono (yG.sub (i_78 (z14) (a4 + 1)  hq A_hq   (by omega) (by omega) (by omega) (by omega) (by omega) (by omega) (by omega) (by omega)) (ySub.cons rfl (ySub.cons rfl (ySub.cons rfl (ySub.nil))))) (by omega)
  refine yC.of (M := (xt_X4_fill, (7, (2, (5, []))))) rfl rfl (N := 51156) (yfuel (by decide)) ?_
  show yG 89 xfts (xcall 89 xfts xpools xms (d + 3)) (xpool xp_RX4) [] xt_X4_fill (yP 2 (bQj G [(9444732970137336938496, 256)] hp 0 2147483646 (fun _ => True))) 51156 0 [(0, yR k0), (1, yI (p1))] [] hp
  obtain ⟨i_2, i_12, i_78⟩ := H 1420
  refine yG.num (c := 0) rfl (fun _ _ => rfl) (by decide) ?_
  refine yG.store1 xik (L' := [(2, yI (0)), (0, yR k0), (1, yI (p1))]) rfl (fun _ _ => rfl) rfl rfl ?_
  exact yG.mono (yG.sub (i_2 (0)  hp A_hp   (by omega) (by omega) (by omega) (by omega) (by omega)) (ySub.cons rfl (ySub.cons rfl (ySub.cons rfl (ySub.nil))))) (by omega)
theorem c_Meters_dot {hp : xH} (W : bW G) (d : Nat) (hT : zTy G hp) {k0 : Nat} (H_k0 : bRo G 62 k0) (p1 p2 p3 : Int) (h1l : 0 ≤ p1) (h1u : p1 ≤ 31) (h2l : 0 ≤ p2) (h2u : p2 ≤ 15) (h3l : 0 ≤ p3) (h3u : p3 ≤ 47) : yC (xcall 89 xfts xpools xms (d + 1)) 126 [yR k0, yI (p1), yI (p2), yI (p3)] hp (bQpj hp (-2147483646) 2147483646 (fun z => 0 ≤ p2 - z + 2147483645)) := by
  have A_hp : bAx G [] hp hp := bAx.rf hT
  have H : ∀ m : Nat, (∀ a4 : Int, ∀ a6 : Int, (-2147483646) ≤ a4 → (-2147483646) ≤ 0 - a4 → 0 ≤ a6 → (-15) ≤ 0 - a6 → 0 ≤ p1 → (-31) ≤ 0 - p1 → 0 ≤ p2 → (-15) ≤ 0 - p2 → 0 ≤ p3 → (-47) ≤ 0 - p3 → (-2147483645) ≤ 0 - a4 + a6 → 0 ≤ 0 - a6 + p2 → 0 - 2 * a6 + 31 < (m : Int) → yG 89 xfts (xcall 89 xfts xpools xms d) (xpool xp_RX4) [] xt_X4_dot (yP 2 (bQpj hp (-2147483646) 2147483646 (fun z => 0 ≤ p2 - z + 2147483645))) (31 * m) 6 [(0, yR k0), (1, yI (p1)), (2, yI (p2)), (3, yI (p3)), (4, yJ (a4)), (6, yI (a6))] [] hp) := by
    intro m
    induction m with
    | zero =>
      intros; exfalso; omega
    | succ m ih =>
      have i_6 := ih
      clear ih
      intro a4 a6 f0 f1 f2 f3 f4 f5 f6 f7 f8 f9 f10 f11 hm
      refine yG.mono (N := 31 * m + 31) ?_ (by omega)
      refine yG.load xik rfl (fun _ _ => rfl) (v := yI (a6)) rfl rfl ?_
      refine yG.load xik rfl (fun _ _ => rfl) (v := yI (p2)) rfl rfl ?_
      refine yG.icmp rfl (t := 60) rfl ⟨by omega, by omega⟩ ⟨by omega, by omega⟩ (fun c1 => ?_) (fun c1 => ?_)
      · have c1 : (a6 : Int) ≥ p2 := c1
        refine yG.load xlk2 rfl (fun _ _ => rfl) (v := yJ (a4)) rfl rfl ?_
        refine yG.ret rfl (fun _ _ => rfl) ?_
        exact (yP.long ⟨by omega, by omega⟩ ⟨⟨a4, rfl, by omega, by omega, by omega⟩, rfl⟩)
      · have c1 : (a6 : Int) < p2 := c1
        refine yG.load xik rfl (fun _ _ => rfl) (v := yI (a6)) rfl rfl ?_
        refine yG.num (c := 16) rfl (fun _ _ => rfl) (by decide) ?_
        refine yG.icmp rfl (t := 60) rfl ⟨by omega, by omega⟩ ⟨by omega, by omega⟩ (fun c2 => ?_) (fun c2 => ?_)
        · have c2 : (a6 : Int) ≥ 16 := c2
          exfalso; omega
        · have c2 : (a6 : Int) < 16 := c2
          refine yG.load xlk2 rfl (fun _ _ => rfl) (v := yJ (a4)) rfl rfl ?_
          refine yG.load xak rfl (fun _ _ => rfl) (v := yR k0) rfl rfl ?_
          refine yG.getO A_hp.1 (w_Meters_shows W H_k0) rfl rfl (fun r3 H_r3 O_r3 q_r3 => ?_)
          refine yG.load xik rfl (fun _ _ => rfl) (v := yI (p1)) rfl rfl ?_
          refine yG.aaldO (r := 73) A_hp.1 (v_Meters_shows W H_r3) rfl rfl rfl (by omega) (by omega) (fun r4 H_r4 q_r4 => ?_)
          refine yG.load xik rfl (fun _ _ => rfl) (v := yI (a6)) rfl rfl ?_
          refine yG.lald A_hp.1 (v_Meters_showss W H_r4) rfl (by omega) (by omega) (fun z5 e_z5 i_z5 l_z5 u_z5 => ?_)
          refine yG.load xak rfl (fun _ _ => rfl) (v := yR k0) rfl rfl ?_
          refine yG.getO A_hp.1 (w_Meters_solver W H_k0) rfl rfl (fun r6 H_r6 O_r6 q_r6 => ?_)
          refine yG.getO A_hp.1 (w_Solver_cell W H_r6) rfl rfl (fun r7 H_r7 O_r7 q_r7 => ?_)
          refine yG.load xik rfl (fun _ _ => rfl) (v := yI (a6)) rfl rfl ?_
          refine yG.aaldO (r := 42) A_hp.1 (v_Solver_cell W H_r7) rfl rfl rfl (by omega) (by omega) (fun r8 H_r8 q_r8 => ?_)
          refine yG.load xik rfl (fun _ _ => rfl) (v := yI (p3)) rfl rfl ?_
          refine yG.lald A_hp.1 (v_Solver_cells W H_r8) rfl (by omega) (by omega) (fun z9 e_z9 i_z9 l_z9 u_z9 => ?_)
          refine yG.lmul rfl ?_
          obtain ⟨z10, e_z10⟩ : ∃ z : Int, z = z5 * z9 := ⟨_, rfl⟩
          rw [← e_z10]
          have b_z10 : -85070591730234615865843651857942052864 ≤ z10 ∧ z10 ≤ 85070591730234615865843651857942052864 := e_z10 ▸ ymuls (A := 9223372036854775808) (B := 9223372036854775808) (by omega) (by omega) (by omega) (by omega) (by decide)
          refine yG.ladd rfl ?_
          refine yG.load xak rfl (fun _ _ => rfl) (v := yR k0) rfl rfl ?_
          refine yG.getS9 A_hp.1 (w_Meters_solver W H_k0) q_r6 rfl rfl ?_
          refine yG.getJ A_hp.1 (w_Solver_prime W H_r6) rfl rfl (fun z11 e_z11 i_z11 l_z11 u_z11 => ?_)
          obtain ⟨z12, e_z12, l_z12, u_z12⟩ := ywJ (a4 + z10)
          rw [e_z12]
          refine yG.lremS rfl ⟨by omega, by omega⟩ ⟨by omega, by omega⟩ (by omega) (fun z13 l_z13 u_z13 => ?_)
          refine yG.store2 xlk2 (L' := [(4, yJ (z13)), (0, yR k0), (1, yI (p1)), (2, yI (p2)), (3, yI (p3)), (6, yI (a6))]) rfl (fun _ _ => rfl) rfl rfl ?_
          refine yG.iinc rfl (a := a6) rfl (L' := [(6, yI (a6 + 1)), (4, yJ (z13)), (0, yR k0), (1, yI (p1)), (2, yI (p2)), (3, yI (p3))]) rfl ?_
          refine yG.goto rfl (t := 6) rfl ?_
          exact yG.mono (yG.sub (i_6 (z13) (a6 + 1)     (by omega) (by omega) (by omega) (by omega) (by omega) (by omega) (by omega) (by omega) (by omega) (by omega) (by omega) (by omega) (by omega)) (ySub.cons rfl (ySub.cons rfl (ySub.cons rfl (ySub.cons rfl (ySub.cons rfl (ySub.cons rfl (ySub.nil)))))))) (by omega)
  refine yC.of (M := (xt_X4_dot, (7, (2, (5, []))))) rfl rfl (N := 1054) (yfuel (by decide)) ?_
  show yG 89 xfts (xcall 89 xfts xpools xms d) (xpool xp_RX4) [] xt_X4_dot (yP 2 (bQpj hp (-2147483646) 2147483646 (fun z => 0 ≤ p2 - z + 2147483645))) 1054 0 [(0, yR k0), (1, yI (p1)), (2, yI (p2)), (3, yI (p3))] [] hp
  have i_6 := H 33
  refine yG.numl (c := 0) rfl (fun _ _ => rfl) (by decide) ?_
  refine yG.store2 xlk2 (L' := [(4, yJ (0)), (0, yR k0), (1, yI (p1)), (2, yI (p2)), (3, yI (p3))]) rfl (fun _ _ => rfl) rfl rfl ?_
  refine yG.num (c := 0) rfl (fun _ _ => rfl) (by decide) ?_
  refine yG.store1 xik (L' := [(6, yI (0)), (4, yJ (0)), (0, yR k0), (1, yI (p1)), (2, yI (p2)), (3, yI (p3))]) rfl (fun _ _ => rfl) rfl rfl ?_
  exact yG.mono (yG.sub (i_6 (0) (0)     (by omega) (by omega) (by omega) (by omega) (by omega) (by omega) (by omega) (by omega) (by omega) (by omega) (by omega) (by omega) (by omega)) (ySub.cons rfl (ySub.cons rfl (ySub.cons rfl (ySub.cons rfl (ySub.cons rfl (ySub.cons rfl (ySub.nil)))))))) (by omega)
theorem c_Meters_foldMeters {hp : xH} (W : bW G) (d : Nat) (hT : zTy G hp) (M_bMk : bMk G hp) {k0 : Nat} (H_k0 : bRo G 62 k0) (p1 p2 : Int) (h1l : 0 ≤ p1) (h1u : p1 ≤ 15) (h2l : (-9223372036854775808) ≤ p2) (h2u : p2 ≤ 9223372036854775807) : yC (xcall 89 xfts xpools xms (d + 4)) 128 [yR k0, yI (p1), yJ (p2)] hp (fun rv hp' => (rv = none ∧ True) ∧ bAx G [(34359738368, 1), (68719476736, 256)] hp hp') := by
  have A_hp : bAx G [(34359738368, 1), (68719476736, 256)] hp hp := bAx.rf hT
  have H : ∀ m : Nat, (∀ a4 : Int, ∀ hq, bAx G [(34359738368, 1), (68719476736, 256)] hp hq → 0 ≤ a4 → (-32) ≤ 0 - a4 → 0 ≤ p1 → (-15) ≤ 0 - p1 → (-9223372036854775808) ≤ p2 → (-9223372036854775807) ≤ 0 - p2 → 0 - 2 * a4 + 65 < (m : Int) → yG 89 xfts (xcall 89 xfts xpools xms (d + 3)) (xpool xp_RX4) [] xt_X4_foldMeters (yP 0 (fun rv hp' => (rv = none ∧ True) ∧ bAx G [(34359738368, 1), (68719476736, 256)] hp hp')) (76 * m) 3 [(0, yR k0), (1, yI (p1)), (2, yJ (p2)), (4, yI (a4))] [] hq) := by
    intro m
    induction m with
    | zero =>
      intros; exfalso; omega
    | succ m ih =>
      have i_3 := ih
      clear ih
      intro a4 hq A_hq f0 f1 f2 f3 f4 f5 hm
      refine yG.mono (N := 76 * m + 76) ?_ (by omega)
      refine yG.load xik rfl (fun _ _ => rfl) (v := yI (a4)) rfl rfl ?_
      refine yG.load xak rfl (fun _ _ => rfl) (v := yR k0) rfl rfl ?_
      refine yG.getI A_hq.1 (w_Meters_count W H_k0) rfl rfl (fun z1 e_z1 i_z1 l_z1 u_z1 => ?_)
      refine yG.icmp rfl (t := 138) rfl ⟨by omega, by omega⟩ ⟨by omega, by omega⟩ (fun c2 => ?_) (fun c2 => ?_)
      · have c2 : (a4 : Int) ≥ z1 := c2
        refine yG.ret rfl (fun _ _ => rfl) ?_
        exact (yP.void ⟨⟨rfl, trivial⟩, A_hq⟩)
      · have c2 : (a4 : Int) < z1 := c2
        refine yG.load xak rfl (fun _ _ => rfl) (v := yR k0) rfl rfl ?_
        refine yG.load xik rfl (fun _ _ => rfl) (v := yI (a4)) rfl rfl ?_
        refine yG.invV (rest := []) A_hq.1 (bOb (d_Meters W) H_k0) rfl rfl rfl rfl (c_Meters_isWhole W (d + 1) A_hq.1 (M_bMk.fr A_hq (by decide)) H_k0 (a4) (by omega) (by omega)) (fun rv hp9 q9 => ?_)
        obtain ⟨⟨z3, rfl, l_z3, u_z3, R_z3⟩, e9⟩ := q9
        rw [e9]
        show yG _ _ _ _ _ _ _ _ _ _ (yI z3 :: []) _
        refine yG.ifz rfl (t := 132) rfl ⟨by omega, by omega⟩ (fun c4 => ?_) (fun c4 => ?_)
        · have c4 : (z3 : Int) = 0 := c4
          refine yG.iinc rfl (a := a4) rfl (L' := [(4, yI (a4 + 1)), (0, yR k0), (1, yI (p1)), (2, yJ (p2))]) rfl ?_
          refine yG.goto rfl (t := 3) rfl ?_
          exact yG.mono (yG.sub (i_3 (a4 + 1)  hq A_hq   (by omega) (by omega) (by omega) (by omega) (by omega) (by omega) (by omega)) (ySub.cons rfl (ySub.cons rfl (ySub.cons rfl (ySub.cons rfl (ySub.nil)))))) (by omega)
        · have c4 : (z3 : Int) ≠ 0 := c4
          refine yG.load xak rfl (fun _ _ => rfl) (v := yR k0) rfl rfl ?_
          refine yG.getO A_hq.1 (w_Meters_solver W H_k0) rfl rfl (fun r5 H_r5 O_r5 q_r5 => ?_)
          refine yG.load xak rfl (fun _ _ => rfl) (v := yR k0) rfl rfl ?_
          refine yG.getO A_hq.1 (w_Meters_value W H_k0) rfl rfl (fun r6 H_r6 O_r6 q_r6 => ?_)
          refine yG.load xik rfl (fun _ _ => rfl) (v := yI (a4)) rfl rfl ?_
          refine yG.iald A_hq.1 (v_Meters_value W H_r6) rfl (by omega) (by omega) (fun z7 e_z7 i_z7 l_z7 u_z7 => ?_)
          refine yG.i2l rfl ⟨by omega, by omega⟩ ?_
          refine yG.load xak rfl (fun _ _ => rfl) (v := yR k0) rfl rfl ?_
          refine yG.load xik rfl (fun _ _ => rfl) (v := yI (a4)) rfl rfl ?_
          refine yG.load xik rfl (fun _ _ => rfl) (v := yI (p1)) rfl rfl ?_
          refine yG.load xik rfl (fun _ _ => rfl) (v := yI (p1)) rfl rfl ?_
          refine yG.invV (rest := [yJ (z7), yR r5]) A_hq.1 (bOb (d_Meters W) H_k0) rfl rfl rfl rfl (c_Meters_dot W (d + 2) A_hq.1 H_k0 (a4) (p1) (p1) (by omega) (by omega) (by omega) (by omega) (by omega) (by omega)) (fun rv hp9 q9 => ?_)
          obtain ⟨⟨z8, rfl, l_z8, u_z8, R_z8⟩, e9⟩ := q9
          rw [e9]
          show yG _ _ _ _ _ _ _ _ _ _ (yJ z8 :: [yJ (z7), yR r5]) _
          refine yG.lsub rfl ?_
          refine yG.invV (rest := []) A_hq.1 (bOb (d_Solver W) H_r5) rfl rfl rfl rfl (c_Solver_residue W (d + 2) A_hq.1 H_r5 (z7 - z8) (by omega) (by omega)) (fun rv hp9 q9 => ?_)
          obtain ⟨⟨z9, rfl, l_z9, u_z9, R_z9⟩, e9⟩ := q9
          rw [e9]
          show yG _ _ _ _ _ _ _ _ _ _ (yJ z9 :: []) _
          refine yG.store2 xlk2 (L' := [(5, yJ (z9)), (0, yR k0), (1, yI (p1)), (2, yJ (p2)), (4, yI (a4))]) rfl (fun _ _ => rfl) rfl rfl ?_
          refine yG.load xak rfl (fun _ _ => rfl) (v := yR k0) rfl rfl ?_
          refine yG.getS9 A_hq.1 (w_Meters_solver W H_k0) q_r5 rfl rfl ?_
          refine yG.load xak rfl (fun _ _ => rfl) (v := yR k0) rfl rfl ?_
          refine yG.getO A_hq.1 (w_Meters_rests W H_k0) rfl rfl (fun r10 H_r10 O_r10 q_r10 => ?_)
          refine yG.load xik rfl (fun _ _ => rfl) (v := yI (a4)) rfl rfl ?_
          refine yG.aaldO (r := 35) A_hq.1 (v_Big32 W H_r10) rfl rfl rfl (by omega) (by omega) (fun r11 H_r11 q_r11 => ?_)
          obtain ⟨n_r11, N_r11⟩ : ∃ n : Int, n = ((zat G r11 : Nat) : Int) := ⟨_, rfl⟩
          have L_r11 := n_Big W H_r11
          refine yG.load xlk2 rfl (fun _ _ => rfl) (v := yJ (z9)) rfl rfl ?_
          refine yG.load xlk2 rfl (fun _ _ => rfl) (v := yJ (p2)) rfl rfl ?_
          refine yG.lmul rfl ?_
          obtain ⟨z12, e_z12⟩ : ∃ z : Int, z = z9 * p2 := ⟨_, rfl⟩
          rw [← e_z12]
          have b_z12 : -19807040610119340324676435968 ≤ z12 ∧ z12 ≤ 19807040610119340324676435968 := e_z12 ▸ ymuls (A := 2147483646) (B := 9223372036854775808) (by omega) (by omega) (by omega) (by omega) (by decide)
          refine yG.load xak rfl (fun _ _ => rfl) (v := yR k0) rfl rfl ?_
          refine yG.getS9 A_hq.1 (w_Meters_solver W H_k0) q_r5 rfl rfl ?_
          refine yG.getJ A_hq.1 (w_Solver_prime W H_r5) rfl rfl (fun z13 e_z13 i_z13 l_z13 u_z13 => ?_)
          obtain ⟨z14, e_z14, l_z14, u_z14⟩ := ywJ (z12)
          rw [e_z14]
          refine yG.lremS rfl ⟨by omega, by omega⟩ ⟨by omega, by omega⟩ (by omega) (fun z15 l_z15 u_z15 => ?_)
          refine yG.invV (rest := []) A_hq.1 (bOb (d_Solver W) H_r5) rfl rfl rfl rfl (c_Solver_fold W d A_hq.1 H_r5 H_r11 (z15) (by omega) (by omega)) (fun rv h16 q9 => ?_)
          obtain ⟨⟨rfl, R_z17⟩, B_h16⟩ := q9
          have A_h16 := A_hq.tr B_h16 (by decide)
          have qq1 : zsl h16 k0 2 = yR r5 := (B_h16.sl H_k0 (by decide)).trans q_r5
          have : ys h16 r5 2 = ys hq r5 2 := B_h16.ys H_r5 (by decide)
          show yG _ _ _ _ _ _ _ _ _ _ [] _
          refine yG.load xak rfl (fun _ _ => rfl) (v := yR k0) rfl rfl ?_
          refine yG.getS9 A_h16.1 (w_Meters_solver W H_k0) qq1 rfl rfl ?_
          refine yG.numl (c := 1) rfl (fun _ _ => rfl) (by decide) ?_
          refine yG.load xak rfl (fun _ _ => rfl) (v := yR k0) rfl rfl ?_
          refine yG.getO A_h16.1 (w_Meters_weight W H_k0) rfl rfl (fun r18 H_r18 O_r18 q_r18 => ?_)
          refine yG.load xik rfl (fun _ _ => rfl) (v := yI (a4)) rfl rfl ?_
          refine yG.iald A_h16.1 (v_Meters_weight W H_r18) rfl (by omega) (by omega) (fun z19 e_z19 i_z19 l_z19 u_z19 => ?_)
          refine yG.i2l rfl ⟨by omega, by omega⟩ ?_
          refine yG.load xak rfl (fun _ _ => rfl) (v := yR k0) rfl rfl ?_
          refine yG.load xik rfl (fun _ _ => rfl) (v := yI (a4)) rfl rfl ?_
          refine yG.load xik rfl (fun _ _ => rfl) (v := yI (p1)) rfl rfl ?_
          refine yG.load xik rfl (fun _ _ => rfl) (v := yI (p1)) rfl rfl ?_
          refine yG.num (c := 1) rfl (fun _ _ => rfl) (by decide) ?_
          refine yG.iadd rfl ?_
          refine yG.load xik rfl (fun _ _ => rfl) (v := yI (a4)) rfl rfl ?_
          refine yG.iadd rfl ?_
          refine yG.invV (rest := [yJ (z19), yJ (1), yR r5]) A_h16.1 (bOb (d_Meters W) H_k0) rfl rfl rfl rfl (c_Meters_dot W (d + 2) A_h16.1 H_k0 (a4) (p1) ((p1 + 1) + a4) (by omega) (by omega) (by omega) (by omega) (by omega) (by omega)) (fun rv hp9 q9 => ?_)
          obtain ⟨⟨z20, rfl, l_z20, u_z20, R_z20⟩, e9⟩ := q9
          rw [e9]
          show yG _ _ _ _ _ _ _ _ _ _ (yJ z20 :: [yJ (z19), yJ (1), yR r5]) _
          refine yG.lmul rfl ?_
          obtain ⟨z21, e_z21⟩ : ∃ z : Int, z = z19 * z20 := ⟨_, rfl⟩
          rw [← e_z21]
          have b_z21 : -4611686014132420608 ≤ z21 ∧ z21 ≤ 4611686014132420608 := e_z21 ▸ ymuls (A := 2147483648) (B := 2147483646) (by omega) (by omega) (by omega) (by omega) (by decide)
          refine yG.lsub rfl ?_
          refine yG.invV (rest := []) A_h16.1 (bOb (d_Solver W) H_r5) rfl rfl rfl rfl (c_Solver_residue W (d + 2) A_h16.1 H_r5 (1 - z21) (by omega) (by omega)) (fun rv hp9 q9 => ?_)
          obtain ⟨⟨z22, rfl, l_z22, u_z22, R_z22⟩, e9⟩ := q9
          rw [e9]
          show yG _ _ _ _ _ _ _ _ _ _ (yJ z22 :: []) _
          refine yG.store2 xlk2 (L' := [(7, yJ (z22)), (5, yJ (z9)), (0, yR k0), (1, yI (p1)), (2, yJ (p2)), (4, yI (a4))]) rfl (fun _ _ => rfl) rfl rfl ?_
          refine yG.load xak rfl (fun _ _ => rfl) (v := yR k0) rfl rfl ?_
          refine yG.getS9 A_h16.1 (w_Meters_solver W H_k0) qq1 rfl rfl ?_
          refine yG.load xak rfl (fun _ _ => rfl) (v := yR k0) rfl rfl ?_
          refine yG.getO A_h16.1 (w_Meters_spreads W H_k0) rfl rfl (fun r23 H_r23 O_r23 q_r23 => ?_)
          refine yG.load xik rfl (fun _ _ => rfl) (v := yI (a4)) rfl rfl ?_
          refine yG.aaldO (r := 35) A_h16.1 (v_Big32 W H_r23) rfl rfl rfl (by omega) (by omega) (fun r24 H_r24 q_r24 => ?_)
          obtain ⟨n_r24, N_r24⟩ : ∃ n : Int, n = ((zat G r24 : Nat) : Int) := ⟨_, rfl⟩
          have L_r24 := n_Big W H_r24
          refine yG.load xlk2 rfl (fun _ _ => rfl) (v := yJ (z22)) rfl rfl ?_
          refine yG.load xlk2 rfl (fun _ _ => rfl) (v := yJ (p2)) rfl rfl ?_
          refine yG.lmul rfl ?_
          obtain ⟨z25, e_z25⟩ : ∃ z : Int, z = z22 * p2 := ⟨_, rfl⟩
          rw [← e_z25]
          have b_z25 : -19807040610119340324676435968 ≤ z25 ∧ z25 ≤ 19807040610119340324676435968 := e_z25 ▸ ymuls (A := 2147483646) (B := 9223372036854775808) (by omega) (by omega) (by omega) (by omega) (by decide)
          refine yG.load xak rfl (fun _ _ => rfl) (v := yR k0) rfl rfl ?_
          refine yG.getS9 A_h16.1 (w_Meters_solver W H_k0) qq1 rfl rfl ?_
          refine yG.getJ A_h16.1 (w_Solver_prime W H_r5) rfl rfl (fun z26 e_z26 i_z26 l_z26 u_z26 => ?_)
          obtain ⟨z27, e_z27, l_z27, u_z27⟩ := ywJ (z25)
          rw [e_z27]
          refine yG.lremS rfl ⟨by omega, by omega⟩ ⟨by omega, by omega⟩ (by omega) (fun z28 l_z28 u_z28 => ?_)
          refine yG.invV (rest := []) A_h16.1 (bOb (d_Solver W) H_r5) rfl rfl rfl rfl (c_Solver_fold W d A_h16.1 H_r5 H_r24 (z28) (by omega) (by omega)) (fun rv h29 q9 => ?_)
          obtain ⟨⟨rfl, R_z30⟩, B_h29⟩ := q9
          have A_h29 := A_h16.tr B_h29 (by decide)
          have qq2 : zsl h29 k0 2 = yR r5 := (B_h29.sl H_k0 (by decide)).trans qq1
          have : ys h29 r5 2 = ys h16 r5 2 := B_h29.ys H_r5 (by decide)
          show yG _ _ _ _ _ _ _ _ _ _ [] _
          refine yG.iinc rfl (a := a4) rfl (L' := [(4, yI (a4 + 1)), (7, yJ (z22)), (5, yJ (z9)), (0, yR k0), (1, yI (p1)), (2, yJ (p2))]) rfl ?_
          refine yG.goto rfl (t := 3) rfl ?_
          exact yG.mono (yG.sub (i_3 (a4 + 1)  h29 A_h29   (by omega) (by omega) (by omega) (by omega) (by omega) (by omega) (by omega)) (ySub.cons rfl (ySub.cons rfl (ySub.cons rfl (ySub.cons rfl (ySub.nil)))))) (by omega)
  refine yC.of (M := (xt_X4_foldMeters, (9, (0, (5, []))))) rfl rfl (N := 5168) (yfuel (by decide)) ?_
  show yG 89 xfts (xcall 89 xfts xpools xms (d + 3)) (xpool xp_RX4) [] xt_X4_foldMeters (yP 0 (fun rv hp' => (rv = none ∧ True) ∧ bAx G [(34359738368, 1), (68719476736, 256)] hp hp')) 5168 0 [(0, yR k0), (1, yI (p1)), (2, yJ (p2))] [] hp
  have i_3 := H 67
  refine yG.num (c := 0) rfl (fun _ _ => rfl) (by decide) ?_
  refine yG.store1 xik (L' := [(4, yI (0)), (0, yR k0), (1, yI (p1)), (2, yJ (p2))]) rfl (fun _ _ => rfl) rfl rfl ?_
  exact yG.mono (yG.sub (i_3 (0)  hp A_hp   (by omega) (by omega) (by omega) (by omega) (by omega) (by omega) (by omega)) (ySub.cons rfl (ySub.cons rfl (ySub.cons rfl (ySub.cons rfl (ySub.nil)))))) (by omega)
theorem c_Meters_weigh {hp : xH} (W : bW G) (d : Nat) (hT : zTy G hp) (M_bMk : bMk G hp) {k0 : Nat} (H_k0 : bRo G 62 k0) : yC (xcall 89 xfts xpools xms (d + 5)) 147 [yR k0] hp (fun rv hp' => (rv = none ∧ True) ∧ bAx G [(34359738368, 1), (1133871366144, 2), (1099511627776, 3), (1099511627776, 6), (1099511627776, 7), (1099511627776, 8), (9444750995599682174976, 256)] hp hp') := by
  have A_hp : bAx G [(34359738368, 1), (1133871366144, 2), (1099511627776, 3), (1099511627776, 6), (1099511627776, 7), (1099511627776, 8), (9444750995599682174976, 256)] hp hp := bAx.rf hT
  have H : ∀ m : Nat, (∀ a1 : Int, ∀ a2 : Int, ∀ hq, bAx G [(34359738368, 1), (1133871366144, 2), (1099511627776, 3), (1099511627776, 6), (1099511627776, 7), (1099511627776, 8), (9444750995599682174976, 256)] hp hq → 0 ≤ a1 → (-15) ≤ 0 - a1 → 0 ≤ a2 → (-1000000) ≤ 0 - a2 → 0 - 3 * a2 + 3000002 < (m : Int) → yG 89 xfts (xcall 89 xfts xpools xms (d + 4)) (xpool xp_RX4) [] xt_X4_weigh (yP 0 (fun rv hp' => (rv = none ∧ True) ∧ bAx G [(34359738368, 1), (1133871366144, 2), (1099511627776, 3), (1099511627776, 6), (1099511627776, 7), (1099511627776, 8), (9444750995599682174976, 256)] hp hp')) (59 * m) 72 [(0, yR k0), (1, yI (a1)), (2, yI (a2))] [] hq) ∧ (∀ hq, bAx G [(34359738368, 1), (1133871366144, 2), (1099511627776, 3), (1099511627776, 6), (1099511627776, 7), (1099511627776, 8), (9444750995599682174976, 256)] hp hq → 1 < (m : Int) → yG 89 xfts (xcall 89 xfts xpools xms (d + 4)) (xpool xp_RX4) [] xt_X4_weigh (yP 0 (fun rv hp' => (rv = none ∧ True) ∧ bAx G [(34359738368, 1), (1133871366144, 2), (1099511627776, 3), (1099511627776, 6), (1099511627776, 7), (1099511627776, 8), (9444750995599682174976, 256)] hp hp')) (59 * m) 178 [(0, yR k0)] [] hq) := by
    intro m
    induction m with
    | zero =>
      refine ⟨?_, ?_⟩ <;> (intros; exfalso; omega)
    | succ m ih =>
      obtain ⟨i_72, i_178⟩ := ih
      refine ⟨?_, ?_⟩
      · intro a1 a2 hq A_hq f0 f1 f2 f3 hm
        refine yG.mono (N := 59 * m + 59) ?_ (by omega)
        refine yG.load xik rfl (fun _ _ => rfl) (v := yI (a2)) rfl rfl ?_
        refine yG.num (c := 1000000) rfl (fun _ _ => rfl) (by decide) ?_
        refine yG.icmp rfl (t := 178) rfl ⟨by omega, by omega⟩ ⟨by omega, by omega⟩ (fun c1 => ?_) (fun c1 => ?_)
        · have c1 : (a2 : Int) ≥ 1000000 := c1
          exact yG.mono (yG.sub (i_178   hq A_hq    (by omega)) (ySub.cons rfl (ySub.nil))) (by omega)
        · have c1 : (a2 : Int) < 1000000 := c1
          refine yG.load xak rfl (fun _ _ => rfl) (v := yR k0) rfl rfl ?_
          refine yG.getO A_hq.1 (w_Meters_solver W H_k0) rfl rfl (fun r2 H_r2 O_r2 q_r2 => ?_)
          refine yG.invV (rest := []) A_hq.1 (bOb (d_Solver W) H_r2) rfl rfl rfl rfl (c_Solver_more W (d + 2) A_hq.1 H_r2) (fun rv h3 q9 => ?_)
          obtain ⟨⟨z4, rfl, l_z4, u_z4, R_z4⟩, B_h3⟩ := q9
          have A_h3 := A_hq.tr B_h3 (by decide)
          have qq1 : zsl h3 k0 2 = yR r2 := (B_h3.sl H_k0 (by decide)).trans q_r2
          show yG _ _ _ _ _ _ _ _ _ _ (yI z4 :: []) _
          refine yG.ifz rfl (t := 178) rfl ⟨by omega, by omega⟩ (fun c5 => ?_) (fun c5 => ?_)
          · have c5 : (z4 : Int) = 0 := c5
            exact yG.mono (yG.sub (i_178   h3 A_h3    (by omega)) (ySub.cons rfl (ySub.nil))) (by omega)
          · have c5 : (z4 : Int) ≠ 0 := c5
            refine yG.load xak rfl (fun _ _ => rfl) (v := yR k0) rfl rfl ?_
            refine yG.getS9 A_h3.1 (w_Meters_solver W H_k0) qq1 rfl rfl ?_
            refine yG.load xik rfl (fun _ _ => rfl) (v := yI (a1)) rfl rfl ?_
            refine yG.load xik rfl (fun _ _ => rfl) (v := yI (a1)) rfl rfl ?_
            refine yG.num (c := 1) rfl (fun _ _ => rfl) (by decide) ?_
            refine yG.iadd rfl ?_
            refine yG.load xak rfl (fun _ _ => rfl) (v := yR k0) rfl rfl ?_
            refine yG.getI A_h3.1 (w_Meters_count W H_k0) rfl rfl (fun z6 e_z6 i_z6 l_z6 u_z6 => ?_)
            refine yG.iadd rfl ?_
            refine yG.invV (rest := []) A_h3.1 (bOb (d_Solver W) H_r2) rfl rfl rfl rfl (c_Solver_blank W (d + 3) A_h3.1 H_r2 (a1) ((a1 + 1) + z6) (by omega) (by omega) (by omega) (by omega)) (fun rv h7 q9 => ?_)
            obtain ⟨⟨rfl, R_z8⟩, B_h7⟩ := q9
            have A_h7 := A_h3.tr B_h7 (by decide)
            have qq2 : zsl h7 k0 2 = yR r2 := (B_h7.sl H_k0 (by decide)).trans qq1
            have : ys h7 k0 8 = ys h3 k0 8 := B_h7.ys H_k0 (by decide)
            show yG _ _ _ _ _ _ _ _ _ _ [] _
            refine yG.load xak rfl (fun _ _ => rfl) (v := yR k0) rfl rfl ?_
            refine yG.load xik rfl (fun _ _ => rfl) (v := yI (a1)) rfl rfl ?_
            refine yG.invV (rest := []) A_h7.1 (bOb (d_Meters W) H_k0) rfl rfl rfl rfl (c_Meters_fill W d A_h7.1 (M_bMk.fr A_h7 (by decide)) H_k0 (a1) (by omega) (by omega)) (fun rv h9 q9 => ?_)
            obtain ⟨⟨z10, rfl, l_z10, u_z10, R_z10⟩, B_h9⟩ := q9
            have A_h9 := A_h7.tr B_h9 (by decide)
            have qq3 : zsl h9 k0 2 = yR r2 := (B_h9.sl H_k0 (by decide)).trans qq2
            have : ys h9 k0 8 = ys h7 k0 8 := B_h9.ys H_k0 (by decide)
            show yG _ _ _ _ _ _ _ _ _ _ (yJ z10 :: []) _
            refine yG.store2 xlk2 (L' := [(3, yJ (z10)), (0, yR k0), (1, yI (a1)), (2, yI (a2))]) rfl (fun _ _ => rfl) rfl rfl ?_
            refine yG.load xak rfl (fun _ _ => rfl) (v := yR k0) rfl rfl ?_
            refine yG.getS9 A_h9.1 (w_Meters_solver W H_k0) qq3 rfl rfl ?_
            refine yG.load xik rfl (fun _ _ => rfl) (v := yI (a1)) rfl rfl ?_
            refine yG.load xik rfl (fun _ _ => rfl) (v := yI (a1)) rfl rfl ?_
            refine yG.load xik rfl (fun _ _ => rfl) (v := yI (a1)) rfl rfl ?_
            refine yG.num (c := 1) rfl (fun _ _ => rfl) (by decide) ?_
            refine yG.iadd rfl ?_
            refine yG.load xak rfl (fun _ _ => rfl) (v := yR k0) rfl rfl ?_
            refine yG.getI A_h9.1 (w_Meters_count W H_k0) rfl rfl (fun z11 e_z11 i_z11 l_z11 u_z11 => ?_)
            refine yG.iadd rfl ?_
            refine yG.invV (rest := []) A_h9.1 (bOb (d_Solver W) H_r2) rfl rfl rfl rfl (c_Solver_reduce W (d + 1) A_h9.1 H_r2 (a1) (a1) ((a1 + 1) + z11) (by omega) (by omega) (by omega) (by omega) (by omega) (by omega)) (fun rv h12 q9 => ?_)
            obtain ⟨⟨z13, rfl, l_z13, u_z13, R_z13⟩, B_h12⟩ := q9
            have A_h12 := A_h9.tr B_h12 (by decide)
            have qq4 : zsl h12 k0 2 = yR r2 := (B_h12.sl H_k0 (by decide)).trans qq3
            have : ys h12 k0 8 = ys h9 k0 8 := B_h12.ys H_k0 (by decide)
            show yG _ _ _ _ _ _ _ _ _ _ (yI z13 :: []) _
            refine yG.load xik rfl (fun _ _ => rfl) (v := yI (a1)) rfl rfl ?_
            refine yG.icmp rfl (t := 172) rfl ⟨by omega, by omega⟩ ⟨by omega, by omega⟩ (fun c14 => ?_) (fun c14 => ?_)
            · have c14 : (z13 : Int) ≠ a1 := c14
              refine yG.iinc rfl (a := a2) rfl (L' := [(2, yI (a2 + 1)), (3, yJ (z10)), (0, yR k0), (1, yI (a1))]) rfl ?_
              refine yG.goto rfl (t := 72) rfl ?_
              exact yG.mono (yG.sub (i_72 (a1) (a2 + 1)  h12 A_h12   (by omega) (by omega) (by omega) (by omega) (by omega)) (ySub.cons rfl (ySub.cons rfl (ySub.cons rfl (ySub.nil))))) (by omega)
            · have c14 : (z13 : Int) = a1 := c14
              refine yG.load xak rfl (fun _ _ => rfl) (v := yR k0) rfl rfl ?_
              refine yG.getS9 A_h12.1 (w_Meters_solver W H_k0) qq4 rfl rfl ?_
              refine yG.load xak rfl (fun _ _ => rfl) (v := yR k0) rfl rfl ?_
              refine yG.getO A_h12.1 (w_Meters_shape W H_k0) rfl rfl (fun r15 H_r15 O_r15 q_r15 => ?_)
              refine yG.load xak rfl (fun _ _ => rfl) (v := yR k0) rfl rfl ?_
              refine yG.getO A_h12.1 (w_Meters_top W H_k0) rfl rfl (fun r16 H_r16 O_r16 q_r16 => ?_)
              refine yG.load xak rfl (fun _ _ => rfl) (v := yR k0) rfl rfl ?_
              refine yG.getO A_h12.1 (w_Meters_common W H_k0) rfl rfl (fun r17 H_r17 O_r17 q_r17 => ?_)
              obtain ⟨n_r17, N_r17⟩ : ∃ n : Int, n = ((zat G r17 : Nat) : Int) := ⟨_, rfl⟩
              have L_r17 := n_Big W H_r17
              refine yG.load xik rfl (fun _ _ => rfl) (v := yI (a1)) rfl rfl ?_
              refine yG.load xlk2 rfl (fun _ _ => rfl) (v := yJ (z10)) rfl rfl ?_
              refine yG.invV (rest := []) A_h12.1 (bOb (d_Solver W) H_r2) rfl rfl rfl rfl (c_Solver_take_16 W d A_h12.1 H_r2 H_r15 H_r16 H_r17 (a1) (z10) (by omega) (by omega) (by omega) (by omega)) (fun rv h18 q9 => ?_)
              obtain ⟨⟨rfl, R_z19⟩, B_h18⟩ := q9
              have A_h18 := A_h12.tr B_h18 (by decide)
              have qq5 : zsl h18 k0 2 = yR r2 := (B_h18.sl H_k0 (by decide)).trans qq4
              have : ys h18 k0 8 = ys h12 k0 8 := B_h18.ys H_k0 (by decide)
              show yG _ _ _ _ _ _ _ _ _ _ [] _
              refine yG.load xak rfl (fun _ _ => rfl) (v := yR k0) rfl rfl ?_
              refine yG.load xik rfl (fun _ _ => rfl) (v := yI (a1)) rfl rfl ?_
              refine yG.load xak rfl (fun _ _ => rfl) (v := yR k0) rfl rfl ?_
              refine yG.getS9 A_h18.1 (w_Meters_solver W H_k0) qq5 rfl rfl ?_
              refine yG.load xlk2 rfl (fun _ _ => rfl) (v := yJ (z10)) rfl rfl ?_
              refine yG.invV (rest := [yI (a1), yR k0]) A_h18.1 (bOb (d_Solver W) H_r2) rfl rfl rfl rfl (c_Solver_times W (d + 3) A_h18.1 H_r2 (z10) (by omega) (by omega)) (fun rv hp9 q9 => ?_)
              obtain ⟨⟨z20, rfl, l_z20, u_z20, R_z20⟩, e9⟩ := q9
              rw [e9]
              show yG _ _ _ _ _ _ _ _ _ _ (yJ z20 :: [yI (a1), yR k0]) _
              refine yG.invV (rest := []) A_h18.1 (bOb (d_Meters W) H_k0) rfl rfl rfl rfl (c_Meters_foldMeters W d A_h18.1 (M_bMk.fr A_h18 (by decide)) H_k0 (a1) (z20) (by omega) (by omega) (by omega) (by omega)) (fun rv h21 q9 => ?_)
              obtain ⟨⟨rfl, R_z22⟩, B_h21⟩ := q9
              have A_h21 := A_h18.tr B_h21 (by decide)
              have qq6 : zsl h21 k0 2 = yR r2 := (B_h21.sl H_k0 (by decide)).trans qq5
              have : ys h21 k0 8 = ys h18 k0 8 := B_h21.ys H_k0 (by decide)
              show yG _ _ _ _ _ _ _ _ _ _ [] _
              refine yG.load xak rfl (fun _ _ => rfl) (v := yR k0) rfl rfl ?_
              refine yG.getS9 A_h21.1 (w_Meters_solver W H_k0) qq6 rfl rfl ?_
              refine yG.invV (rest := []) A_h21.1 (bOb (d_Solver W) H_r2) rfl rfl rfl rfl (c_Solver_close W (d + 1) A_h21.1 H_r2) (fun rv h23 q9 => ?_)
              obtain ⟨⟨rfl, R_z24⟩, B_h23⟩ := q9
              have A_h23 := A_h21.tr B_h23 (by decide)
              have qq7 : zsl h23 k0 2 = yR r2 := (B_h23.sl H_k0 (by decide)).trans qq6
              have : ys h23 k0 8 = ys h21 k0 8 := B_h23.ys H_k0 (by decide)
              show yG _ _ _ _ _ _ _ _ _ _ [] _
              refine yG.iinc rfl (a := a2) rfl (L' := [(2, yI (a2 + 1)), (3, yJ (z10)), (0, yR k0), (1, yI (a1))]) rfl ?_
              refine yG.goto rfl (t := 72) rfl ?_
              exact yG.mono (yG.sub (i_72 (a1) (a2 + 1)  h23 A_h23   (by omega) (by omega) (by omega) (by omega) (by omega)) (ySub.cons rfl (ySub.cons rfl (ySub.cons rfl (ySub.nil))))) (by omega)
      · intro hq A_hq hm
        refine yG.mono (N := 59 * m + 59) ?_ (by omega)
        refine yG.load xak rfl (fun _ _ => rfl) (v := yR k0) rfl rfl ?_
        refine yG.getO A_hq.1 (w_Meters_solver W H_k0) rfl rfl (fun r1 H_r1 O_r1 q_r1 => ?_)
        refine yG.load xak rfl (fun _ _ => rfl) (v := yR k0) rfl rfl ?_
        refine yG.getO A_hq.1 (w_Meters_top W H_k0) rfl rfl (fun r2 H_r2 O_r2 q_r2 => ?_)
        refine yG.num (c := 16) rfl (fun _ _ => rfl) (by decide) ?_
        refine yG.invV (rest := []) A_hq.1 (bOb (d_Solver W) H_r1) rfl rfl rfl rfl (c_Solver_settle_16 W d A_hq.1 H_r1 H_r2 (16) (by omega) (by omega)) (fun rv h3 q9 => ?_)
        obtain ⟨⟨rfl, R_z4⟩, B_h3⟩ := q9
        have A_h3 := A_hq.tr B_h3 (by decide)
        have qq1 : zsl h3 k0 2 = yR r1 := (B_h3.sl H_k0 (by decide)).trans q_r1
        show yG _ _ _ _ _ _ _ _ _ _ [] _
        refine yG.load xak rfl (fun _ _ => rfl) (v := yR k0) rfl rfl ?_
        refine yG.getS9 A_h3.1 (w_Meters_solver W H_k0) qq1 rfl rfl ?_
        refine yG.load xak rfl (fun _ _ => rfl) (v := yR k0) rfl rfl ?_
        refine yG.getO A_h3.1 (w_Meters_rests W H_k0) rfl rfl (fun r5 H_r5 O_r5 q_r5 => ?_)
        refine yG.load xak rfl (fun _ _ => rfl) (v := yR k0) rfl rfl ?_
        refine yG.getI A_h3.1 (w_Meters_count W H_k0) rfl rfl (fun z6 e_z6 i_z6 l_z6 u_z6 => ?_)
        refine yG.invV (rest := []) A_h3.1 (bOb (d_Solver W) H_r1) rfl rfl rfl rfl (c_Solver_settle_32 W d A_h3.1 H_r1 H_r5 (z6) (by omega) (by omega)) (fun rv h7 q9 => ?_)
        obtain ⟨⟨rfl, R_z8⟩, B_h7⟩ := q9
        have A_h7 := A_h3.tr B_h7 (by decide)
        have qq2 : zsl h7 k0 2 = yR r1 := (B_h7.sl H_k0 (by decide)).trans qq1
        have : ys h7 k0 8 = ys h3 k0 8 := B_h7.ys H_k0 (by decide)
        show yG _ _ _ _ _ _ _ _ _ _ [] _
        refine yG.load xak rfl (fun _ _ => rfl) (v := yR k0) rfl rfl ?_
        refine yG.getS9 A_h7.1 (w_Meters_solver W H_k0) qq2 rfl rfl ?_
        refine yG.load xak rfl (fun _ _ => rfl) (v := yR k0) rfl rfl ?_
        refine yG.getO A_h7.1 (w_Meters_spreads W H_k0) rfl rfl (fun r9 H_r9 O_r9 q_r9 => ?_)
        refine yG.load xak rfl (fun _ _ => rfl) (v := yR k0) rfl rfl ?_
        refine yG.getI A_h7.1 (w_Meters_count W H_k0) rfl rfl (fun z10 e_z10 i_z10 l_z10 u_z10 => ?_)
        refine yG.invV (rest := []) A_h7.1 (bOb (d_Solver W) H_r1) rfl rfl rfl rfl (c_Solver_settle_32 W d A_h7.1 H_r1 H_r9 (z10) (by omega) (by omega)) (fun rv h11 q9 => ?_)
        obtain ⟨⟨rfl, R_z12⟩, B_h11⟩ := q9
        have A_h11 := A_h7.tr B_h11 (by decide)
        have qq3 : zsl h11 k0 2 = yR r1 := (B_h11.sl H_k0 (by decide)).trans qq2
        have : ys h11 k0 8 = ys h7 k0 8 := B_h11.ys H_k0 (by decide)
        show yG _ _ _ _ _ _ _ _ _ _ [] _
        refine yG.ret rfl (fun _ _ => rfl) ?_
        exact (yP.void ⟨⟨rfl, trivial⟩, A_h11⟩)
  refine yC.of (M := (xt_X4_weigh, (5, (0, (5, []))))) rfl rfl (N := 177000295) (yfuel (by decide)) ?_
  show yG 89 xfts (xcall 89 xfts xpools xms (d + 4)) (xpool xp_RX4) [] xt_X4_weigh (yP 0 (fun rv hp' => (rv = none ∧ True) ∧ bAx G [(34359738368, 1), (1133871366144, 2), (1099511627776, 3), (1099511627776, 6), (1099511627776, 7), (1099511627776, 8), (9444750995599682174976, 256)] hp hp')) 177000295 0 [(0, yR k0)] [] hp
  obtain ⟨i_72, i_178⟩ := H 3000004
  refine yG.load xak rfl (fun _ _ => rfl) (v := yR k0) rfl rfl ?_
  refine yG.getO A_hp.1 (w_Meters_shape W H_k0) rfl rfl (fun r1 H_r1 O_r1 q_r1 => ?_)
  refine yG.load xak rfl (fun _ _ => rfl) (v := yR k0) rfl rfl ?_
  refine yG.getO A_hp.1 (w_Meters_whole W H_k0) rfl rfl (fun r2 H_r2 O_r2 q_r2 => ?_)
  refine yG.num (c := 0) rfl (fun _ _ => rfl) (by decide) ?_
  refine yG.invV (rest := []) A_hp.1 (bOb (d_Shape W) H_r1) rfl rfl rfl rfl (c_Shape_number_10 W (d + 3) A_hp.1 H_r1 H_r2) (fun rv h3 q9 => ?_)
  obtain ⟨⟨z4, rfl, l_z4, u_z4, R_z4⟩, B_h3⟩ := q9
  have A_h3 := A_hp.tr B_h3 (by decide)
  have qq1 : zsl h3 k0 0 = yR r1 := (B_h3.sl H_k0 (by decide)).trans q_r1
  have qq2 : zsl h3 k0 11 = yR r2 := (B_h3.sl H_k0 (by decide)).trans q_r2
  show yG _ _ _ _ _ _ _ _ _ _ (yI z4 :: []) _
  refine yG.store1 xik (L' := [(1, yI (z4)), (0, yR k0)]) rfl (fun _ _ => rfl) rfl rfl ?_
  refine yG.load xak rfl (fun _ _ => rfl) (v := yR k0) rfl rfl ?_
  refine yG.getO A_h3.1 (w_Meters_rests W H_k0) rfl rfl (fun r5 H_r5 O_r5 q_r5 => ?_)
  refine yG.invS (rest := []) rfl rfl rfl rfl (c_Meters_clearTops W (d + 1) A_h3.1 H_r5) (fun rv h6 q9 => ?_)
  obtain ⟨⟨rfl, R_z7⟩, B_h6⟩ := q9
  have A_h6 := A_h3.tr B_h6 (by decide)
  have qq3 : zsl h6 k0 0 = yR r1 := (B_h6.sl H_k0 (by decide)).trans qq1
  have qq4 : zsl h6 k0 11 = yR r2 := (B_h6.sl H_k0 (by decide)).trans qq2
  show yG _ _ _ _ _ _ _ _ _ _ [] _
  refine yG.load xak rfl (fun _ _ => rfl) (v := yR k0) rfl rfl ?_
  refine yG.getO A_h6.1 (w_Meters_spreads W H_k0) rfl rfl (fun r8 H_r8 O_r8 q_r8 => ?_)
  refine yG.invS (rest := []) rfl rfl rfl rfl (c_Meters_clearTops W (d + 1) A_h6.1 H_r8) (fun rv h9 q9 => ?_)
  obtain ⟨⟨rfl, R_z10⟩, B_h9⟩ := q9
  have A_h9 := A_h6.tr B_h9 (by decide)
  have qq5 : zsl h9 k0 0 = yR r1 := (B_h9.sl H_k0 (by decide)).trans qq3
  have qq6 : zsl h9 k0 11 = yR r2 := (B_h9.sl H_k0 (by decide)).trans qq4
  show yG _ _ _ _ _ _ _ _ _ _ [] _
  refine yG.load xak rfl (fun _ _ => rfl) (v := yR k0) rfl rfl ?_
  refine yG.getO A_h9.1 (w_Meters_solver W H_k0) rfl rfl (fun r11 H_r11 O_r11 q_r11 => ?_)
  refine yG.num (c := 2) rfl (fun _ _ => rfl) (by decide) ?_
  refine yG.load xak rfl (fun _ _ => rfl) (v := yR k0) rfl rfl ?_
  refine yG.getS9 A_h9.1 (w_Meters_shape W H_k0) qq5 rfl rfl ?_
  refine yG.load xak rfl (fun _ _ => rfl) (v := yR k0) rfl rfl ?_
  refine yG.getS9 A_h9.1 (w_Meters_whole W H_k0) qq6 rfl rfl ?_
  refine yG.num (c := 1) rfl (fun _ _ => rfl) (by decide) ?_
  refine yG.num (c := -1) rfl (fun _ _ => rfl) (by decide) ?_
  refine yG.invV (rest := [yI (2), yR r11]) A_h9.1 (bOb (d_Shape W) H_r1) rfl rfl rfl rfl (c_Shape_bits_1 W (d + 2) A_h9.1 H_r1 H_r2 (1) ((-1)) (by omega) (by omega) (by omega) (by omega)) (fun rv hp9 q9 => ?_)
  obtain ⟨⟨z12, rfl, l_z12, u_z12, R_z12⟩, e9⟩ := q9
  rw [e9]
  show yG _ _ _ _ _ _ _ _ _ _ (yI z12 :: [yI (2), yR r11]) _
  refine yG.imul rfl ?_
  refine yG.load xik rfl (fun _ _ => rfl) (v := yI (z4)) rfl rfl ?_
  refine yG.load xak rfl (fun _ _ => rfl) (v := yR k0) rfl rfl ?_
  refine yG.invV (rest := [yI (z4), yI (2 * z12), yR r11]) A_h9.1 (bOb (d_Meters W) H_k0) rfl rfl rfl rfl (c_Meters_heaviest W (d + 3) A_h9.1 H_k0) (fun rv hp9 q9 => ?_)
  obtain ⟨⟨z13, rfl, l_z13, u_z13, R_z13⟩, e9⟩ := q9
  rw [e9]
  show yG _ _ _ _ _ _ _ _ _ _ (yI z13 :: [yI (z4), yI (2 * z12), yR r11]) _
  refine yG.invS (rest := [yI (z4), yI (2 * z12), yR r11]) rfl rfl rfl rfl (c_Shape_bitsOf W (d + 3) A_h9.1 (z13) (by omega) (by omega)) (fun rv hp9 q9 => ?_)
  obtain ⟨⟨z14, rfl, l_z14, u_z14, R_z14⟩, e9⟩ := q9
  rw [e9]
  show yG _ _ _ _ _ _ _ _ _ _ (yI z14 :: [yI (z4), yI (2 * z12), yR r11]) _
  refine yG.imul rfl ?_
  obtain ⟨z15, e_z15⟩ : ∃ z : Int, z = z4 * z14 := ⟨_, rfl⟩
  rw [← e_z15]
  have b_z15 : -32212254720 ≤ z15 ∧ z15 ≤ 32212254720 := e_z15 ▸ ymuls (A := 15) (B := 2147483648) (by omega) (by omega) (by omega) (by omega) (by decide)
  refine yG.iadd rfl ?_
  refine yG.num (c := 26) rfl (fun _ _ => rfl) (by decide) ?_
  refine yG.iadd rfl ?_
  refine yG.load xak rfl (fun _ _ => rfl) (v := yR k0) rfl rfl ?_
  refine yG.getO A_h9.1 (w_Meters_top W H_k0) rfl rfl (fun r16 H_r16 O_r16 q_r16 => ?_)
  refine yG.load xak rfl (fun _ _ => rfl) (v := yR k0) rfl rfl ?_
  refine yG.getO A_h9.1 (w_Meters_common W H_k0) rfl rfl (fun r17 H_r17 O_r17 q_r17 => ?_)
  obtain ⟨n_r17, N_r17⟩ : ∃ n : Int, n = ((zat G r17 : Nat) : Int) := ⟨_, rfl⟩
  have L_r17 := n_Big W H_r17
  obtain ⟨z18, e_z18, l_z18, u_z18⟩ := ywI (((2 * z12) + z15) + 26)
  rw [e_z18]
  refine yG.invV (rest := []) A_h9.1 (bOb (d_Solver W) H_r11) rfl rfl rfl rfl (c_Solver_start__16 W (d + 1) A_h9.1 H_r11 H_r16 H_r17 (z18) (by omega) (by omega)) (fun rv h19 q9 => ?_)
  obtain ⟨⟨rfl, R_z20⟩, B_h19⟩ := q9
  have A_h19 := A_h9.tr B_h19 (by decide)
  have qq7 : zsl h19 k0 0 = yR r1 := (B_h19.sl H_k0 (by decide)).trans qq5
  have qq8 : zsl h19 k0 11 = yR r2 := (B_h19.sl H_k0 (by decide)).trans qq6
  show yG _ _ _ _ _ _ _ _ _ _ [] _
  refine yG.num (c := 0) rfl (fun _ _ => rfl) (by decide) ?_
  refine yG.store1 xik (L' := [(2, yI (0)), (1, yI (z4)), (0, yR k0)]) rfl (fun _ _ => rfl) rfl rfl ?_
  exact yG.mono (yG.sub (i_72 (z4) (0)  h19 A_h19   (by omega) (by omega) (by omega) (by omega) (by omega)) (ySub.cons rfl (ySub.cons rfl (ySub.cons rfl (ySub.nil))))) (by omega)
theorem c_Meters_solve {hp : xH} (W : bW G) (d : Nat) (hT : zTy G hp) (M_bMk : bMk G hp) {k0 : Nat} (H_k0 : bRo G 62 k0) : yC (xcall 89 xfts xpools xms (d + 6)) 142 [yR k0] hp (fun rv hp' => (rv = none ∧ True) ∧ bAx G [(34359738368, 1), (1133871366144, 2), (1099511627776, 3), (1099511627776, 6), (1099511627776, 7), (1099511627776, 8), (4611686018427387904, 9), (29219660642616321507328, 256)] hp hp') := by
  have A_hp : bAx G [(34359738368, 1), (1133871366144, 2), (1099511627776, 3), (1099511627776, 6), (1099511627776, 7), (1099511627776, 8), (4611686018427387904, 9), (29219660642616321507328, 256)] hp hp := bAx.rf hT
  refine yC.of (M := (xt_X4_solve, (1, (0, (5, []))))) rfl rfl (N := 45) (yfuel (by decide)) ?_
  show yG 89 xfts (xcall 89 xfts xpools xms (d + 5)) (xpool xp_RX4) [] xt_X4_solve (yP 0 (fun rv hp' => (rv = none ∧ True) ∧ bAx G [(34359738368, 1), (1133871366144, 2), (1099511627776, 3), (1099511627776, 6), (1099511627776, 7), (1099511627776, 8), (4611686018427387904, 9), (29219660642616321507328, 256)] hp hp')) 45 0 [(0, yR k0)] [] hp
  refine yG.load xak rfl (fun _ _ => rfl) (v := yR k0) rfl rfl ?_
  refine yG.getI A_hp.1 (w_Meters_known W H_k0) rfl rfl (fun z1 e_z1 i_z1 l_z1 u_z1 => ?_)
  refine yG.ifz rfl (t := 8) rfl ⟨by omega, by omega⟩ (fun c2 => ?_) (fun c2 => ?_)
  · have c2 : (z1 : Int) = 0 := c2
    refine yG.load xak rfl (fun _ _ => rfl) (v := yR k0) rfl rfl ?_
    refine yG.num (c := 1) rfl (fun _ _ => rfl) (by decide) ?_
    refine yG.putI A_hp.1 (w_Meters_known W H_k0) (W.2.1 _ _ H_k0 (by decide) (by decide)) rfl rfl (.inr ⟨rfl, rfl, rfl⟩) ⟨by omega, by omega⟩ (by omega) (by omega) (fun h3 T_h3 b_h3 f_h3 y_h3 => ?_)
    have A_h3 := A_hp.put T_h3 b_h3 f_h3 H_k0 (by decide)
    refine yG.load xak rfl (fun _ _ => rfl) (v := yR k0) rfl rfl ?_
    refine yG.invV (rest := []) A_h3.1 (bOb (d_Meters W) H_k0) rfl rfl rfl rfl (c_Meters_markSeen W d A_h3.1 (M_bMk.fr A_h3 (by decide)) H_k0) (fun rv h4 q9 => ?_)
    obtain ⟨⟨rfl, R_z5⟩, B_h4⟩ := q9
    have A_h4 := A_h3.tr B_h4 (by decide)
    show yG _ _ _ _ _ _ _ _ _ _ [] _
    refine yG.load xak rfl (fun _ _ => rfl) (v := yR k0) rfl rfl ?_
    refine yG.invV (rest := []) A_h4.1 (bOb (d_Meters W) H_k0) rfl rfl rfl rfl (c_Meters_markWhole W (d + 4) A_h4.1 H_k0) (fun rv h6 q9 => ?_)
    obtain ⟨⟨rfl, R_z7⟩, B_h6⟩ := q9
    have A_h6 := A_h4.tr B_h6 (by decide)
    show yG _ _ _ _ _ _ _ _ _ _ [] _
    refine yG.load xak rfl (fun _ _ => rfl) (v := yR k0) rfl rfl ?_
    refine yG.invV (rest := []) A_h6.1 (bOb (d_Meters W) H_k0) rfl rfl rfl rfl (c_Meters_weigh W d A_h6.1 (M_bMk.fr A_h6 (by decide)) H_k0) (fun rv h8 q9 => ?_)
    obtain ⟨⟨rfl, R_z9⟩, B_h8⟩ := q9
    have A_h8 := A_h6.tr B_h8 (by decide)
    show yG _ _ _ _ _ _ _ _ _ _ [] _
    refine yG.ret rfl (fun _ _ => rfl) ?_
    exact (yP.void ⟨⟨rfl, trivial⟩, A_h8⟩)
  · have c2 : (z1 : Int) ≠ 0 := c2
    refine yG.ret rfl (fun _ _ => rfl) ?_
    exact (yP.void ⟨⟨rfl, trivial⟩, A_hp⟩)
theorem c_Meters_tellAngle {hp : xH} (W : bW G) (d : Nat) (hT : zTy G hp) {k0 : Nat} (H_k0 : bRo G 62 k0) {k2 : Nat} (H_k2 : bRo G 34 k2) (p1 : Int) (h1l : 0 ≤ p1) (h1u : p1 ≤ 15) : yC (xcall 89 xfts xpools xms (d + 3)) 144 [yR k0, yI (p1), yR k2] hp (fun rv hp' => (rv = none ∧ True) ∧ bAx G [(34359738368, 1), (34359738368, 2), (68719476736, 256)] hp hp') := by
  have A_hp : bAx G [(34359738368, 1), (34359738368, 2), (68719476736, 256)] hp hp := bAx.rf hT
  refine yC.of (M := (xt_X4_tellAngle, (3, (0, (5, []))))) rfl rfl (N := 57) (yfuel (by decide)) ?_
  show yG 89 xfts (xcall 89 xfts xpools xms (d + 2)) (xpool xp_RX4) [] xt_X4_tellAngle (yP 0 (fun rv hp' => (rv = none ∧ True) ∧ bAx G [(34359738368, 1), (34359738368, 2), (68719476736, 256)] hp hp')) 57 0 [(0, yR k0), (1, yI (p1)), (2, yR k2)] [] hp
  refine yG.load xak rfl (fun _ _ => rfl) (v := yR k2) rfl rfl ?_
  refine yG.getO A_hp.1 (w_Hand_above W H_k2) rfl rfl (fun r1 H_r1 O_r1 q_r1 => ?_)
  obtain ⟨n_r1, N_r1⟩ : ∃ n : Int, n = ((zat G r1 : Nat) : Int) := ⟨_, rfl⟩
  have L_r1 := n_Big W H_r1
  refine yG.load xak rfl (fun _ _ => rfl) (v := yR k0) rfl rfl ?_
  refine yG.getO A_hp.1 (w_Meters_top W H_k0) rfl rfl (fun r2 H_r2 O_r2 q_r2 => ?_)
  refine yG.load xak rfl (fun _ _ => rfl) (v := yR k0) rfl rfl ?_
  refine yG.getO A_hp.1 (w_Meters_shape W H_k0) rfl rfl (fun r3 H_r3 O_r3 q_r3 => ?_)
  refine yG.getO A_hp.1 (w_Shape_node W H_r3) rfl rfl (fun r4 H_r4 O_r4 q_r4 => ?_)
  refine yG.load xik rfl (fun _ _ => rfl) (v := yI (p1)) rfl rfl ?_
  refine yG.ialdF A_hp.1 (v_Shape_node W H_r4) rfl rfl (by omega) (by omega) (fun z5 e_z5 i_z5 l_z5 u_z5 => ?_)
  refine yG.aaldO (r := 35) A_hp.1 (v_Big16 W H_r2) rfl rfl rfl (by omega) (by omega) (fun r6 H_r6 q_r6 => ?_)
  obtain ⟨n_r6, N_r6⟩ : ∃ n : Int, n = ((zat G r6 : Nat) : Int) := ⟨_, rfl⟩
  have L_r6 := n_Big W H_r6
  refine yG.invV (rest := []) A_hp.1 (bOb (d_Big W) H_r1) rfl rfl rfl rfl (c_Big_copy W d A_hp.1 H_r1 H_r6) (fun rv h7 q9 => ?_)
  obtain ⟨⟨rfl, R_z8⟩, B_h7⟩ := q9
  have A_h7 := A_hp.tr B_h7 (by decide)
  show yG _ _ _ _ _ _ _ _ _ _ [] _
  refine yG.load xak rfl (fun _ _ => rfl) (v := yR k2) rfl rfl ?_
  refine yG.getO A_h7.1 (w_Hand_below W H_k2) rfl rfl (fun r9 H_r9 O_r9 q_r9 => ?_)
  obtain ⟨n_r9, N_r9⟩ : ∃ n : Int, n = ((zat G r9 : Nat) : Int) := ⟨_, rfl⟩
  have L_r9 := n_Big W H_r9
  refine yG.load xak rfl (fun _ _ => rfl) (v := yR k0) rfl rfl ?_
  refine yG.getO A_h7.1 (w_Meters_common W H_k0) rfl rfl (fun r10 H_r10 O_r10 q_r10 => ?_)
  obtain ⟨n_r10, N_r10⟩ : ∃ n : Int, n = ((zat G r10 : Nat) : Int) := ⟨_, rfl⟩
  have L_r10 := n_Big W H_r10
  refine yG.invV (rest := []) A_h7.1 (bOb (d_Big W) H_r9) rfl rfl rfl rfl (c_Big_copy W d A_h7.1 H_r9 H_r10) (fun rv h11 q9 => ?_)
  obtain ⟨⟨rfl, R_z12⟩, B_h11⟩ := q9
  have A_h11 := A_h7.tr B_h11 (by decide)
  show yG _ _ _ _ _ _ _ _ _ _ [] _
  refine yG.ret rfl (fun _ _ => rfl) ?_
  exact (yP.void ⟨⟨rfl, trivial⟩, A_h11⟩)
theorem c_Meters_tellRest {hp : xH} (W : bW G) (d : Nat) (hT : zTy G hp) {k0 : Nat} (H_k0 : bRo G 62 k0) {k3 : Nat} (H_k3 : bRo G 34 k3) (p1 p2 : Int) (h1l : 0 ≤ p1) (h1u : p1 ≤ 31) (h2l : 0 ≤ p2) (h2u : p2 ≤ 1) : yC (xcall 89 xfts xpools xms (d + 3)) 145 [yR k0, yI (p1), yI (p2), yR k3] hp (fun rv hp' => (rv = none ∧ True) ∧ bAx G [(34359738368, 1), (34359738368, 2), (68719476736, 256)] hp hp') := by
  have A_hp : bAx G [(34359738368, 1), (34359738368, 2), (68719476736, 256)] hp hp := bAx.rf hT
  refine yC.of (M := (xt_X4_tellRest, (4, (0, (5, []))))) rfl rfl (N := 81) (yfuel (by decide)) ?_
  show yG 89 xfts (xcall 89 xfts xpools xms (d + 2)) (xpool xp_RX4) [] xt_X4_tellRest (yP 0 (fun rv hp' => (rv = none ∧ True) ∧ bAx G [(34359738368, 1), (34359738368, 2), (68719476736, 256)] hp hp')) 81 0 [(0, yR k0), (1, yI (p1)), (2, yI (p2)), (3, yR k3)] [] hp
  refine yG.load xak rfl (fun _ _ => rfl) (v := yR k3) rfl rfl ?_
  refine yG.getO A_hp.1 (w_Hand_above W H_k3) rfl rfl (fun r1 H_r1 O_r1 q_r1 => ?_)
  obtain ⟨n_r1, N_r1⟩ : ∃ n : Int, n = ((zat G r1 : Nat) : Int) := ⟨_, rfl⟩
  have L_r1 := n_Big W H_r1
  refine yG.load xik rfl (fun _ _ => rfl) (v := yI (p2)) rfl rfl ?_
  refine yG.ifz rfl (t := 17) rfl ⟨by omega, by omega⟩ (fun c2 => ?_) (fun c2 => ?_)
  · have c2 : (p2 : Int) ≠ 0 := c2
    refine yG.load xak rfl (fun _ _ => rfl) (v := yR k0) rfl rfl ?_
    refine yG.getO A_hp.1 (w_Meters_spreads W H_k0) rfl rfl (fun r3 H_r3 O_r3 q_r3 => ?_)
    refine yG.load xik rfl (fun _ _ => rfl) (v := yI (p1)) rfl rfl ?_
    refine yG.aaldO (r := 35) A_hp.1 (v_Big32 W H_r3) rfl rfl rfl (by omega) (by omega) (fun r4 H_r4 q_r4 => ?_)
    obtain ⟨n_r4, N_r4⟩ : ∃ n : Int, n = ((zat G r4 : Nat) : Int) := ⟨_, rfl⟩
    have L_r4 := n_Big W H_r4
    refine yG.invV (rest := []) A_hp.1 (bOb (d_Big W) H_r1) rfl rfl rfl rfl (c_Big_copy W d A_hp.1 H_r1 H_r4) (fun rv h5 q9 => ?_)
    obtain ⟨⟨rfl, R_z6⟩, B_h5⟩ := q9
    have A_h5 := A_hp.tr B_h5 (by decide)
    show yG _ _ _ _ _ _ _ _ _ _ [] _
    refine yG.load xak rfl (fun _ _ => rfl) (v := yR k3) rfl rfl ?_
    refine yG.getO A_h5.1 (w_Hand_below W H_k3) rfl rfl (fun r7 H_r7 O_r7 q_r7 => ?_)
    obtain ⟨n_r7, N_r7⟩ : ∃ n : Int, n = ((zat G r7 : Nat) : Int) := ⟨_, rfl⟩
    have L_r7 := n_Big W H_r7
    refine yG.load xak rfl (fun _ _ => rfl) (v := yR k0) rfl rfl ?_
    refine yG.getO A_h5.1 (w_Meters_common W H_k0) rfl rfl (fun r8 H_r8 O_r8 q_r8 => ?_)
    obtain ⟨n_r8, N_r8⟩ : ∃ n : Int, n = ((zat G r8 : Nat) : Int) := ⟨_, rfl⟩
    have L_r8 := n_Big W H_r8
    refine yG.invV (rest := []) A_h5.1 (bOb (d_Big W) H_r7) rfl rfl rfl rfl (c_Big_copy W d A_h5.1 H_r7 H_r8) (fun rv h9 q9 => ?_)
    obtain ⟨⟨rfl, R_z10⟩, B_h9⟩ := q9
    have A_h9 := A_h5.tr B_h9 (by decide)
    have qq1 : zsl h9 k3 1 = yR r7 := (B_h9.sl H_k3 (by decide)).trans q_r7
    show yG _ _ _ _ _ _ _ _ _ _ [] _
    refine yG.load xak rfl (fun _ _ => rfl) (v := yR k3) rfl rfl ?_
    refine yG.getS9 A_h9.1 (w_Hand_below W H_k3) qq1 rfl rfl ?_
    refine yG.load xik rfl (fun _ _ => rfl) (v := yI (p2)) rfl rfl ?_
    refine yG.ifz rfl (t := 49) rfl ⟨by omega, by omega⟩ (fun c11 => ?_) (fun c11 => ?_)
    · have c11 : (p2 : Int) ≠ 0 := c11
      refine yG.load xak rfl (fun _ _ => rfl) (v := yR k0) rfl rfl ?_
      refine yG.getO A_h9.1 (w_Meters_weight W H_k0) rfl rfl (fun r12 H_r12 O_r12 q_r12 => ?_)
      refine yG.load xik rfl (fun _ _ => rfl) (v := yI (p1)) rfl rfl ?_
      refine yG.iald A_h9.1 (v_Meters_weight W H_r12) rfl (by omega) (by omega) (fun z13 e_z13 i_z13 l_z13 u_z13 => ?_)
      refine yG.i2l rfl ⟨by omega, by omega⟩ ?_
      refine yG.invV (rest := []) A_h9.1 (bOb (d_Big W) H_r7) rfl rfl rfl rfl (c_Big_scale W d A_h9.1 H_r7 (z13) (by omega) (by omega)) (fun rv h14 q9 => ?_)
      obtain ⟨⟨rfl, R_z15⟩, B_h14⟩ := q9
      have A_h14 := A_h9.tr B_h14 (by decide)
      have qq2 : zsl h14 k3 1 = yR r7 := (B_h14.sl H_k3 (by decide)).trans qq1
      show yG _ _ _ _ _ _ _ _ _ _ [] _
      refine yG.ret rfl (fun _ _ => rfl) ?_
      exact (yP.void ⟨⟨rfl, trivial⟩, A_h14⟩)
    · have c11 : (p2 : Int) = 0 := c11
      exfalso; omega
  · have c2 : (p2 : Int) = 0 := c2
    refine yG.load xak rfl (fun _ _ => rfl) (v := yR k0) rfl rfl ?_
    refine yG.getO A_hp.1 (w_Meters_rests W H_k0) rfl rfl (fun r16 H_r16 O_r16 q_r16 => ?_)
    refine yG.load xik rfl (fun _ _ => rfl) (v := yI (p1)) rfl rfl ?_
    refine yG.aaldO (r := 35) A_hp.1 (v_Big32 W H_r16) rfl rfl rfl (by omega) (by omega) (fun r17 H_r17 q_r17 => ?_)
    obtain ⟨n_r17, N_r17⟩ : ∃ n : Int, n = ((zat G r17 : Nat) : Int) := ⟨_, rfl⟩
    have L_r17 := n_Big W H_r17
    refine yG.goto rfl (t := 23) rfl ?_
    refine yG.invV (rest := []) A_hp.1 (bOb (d_Big W) H_r1) rfl rfl rfl rfl (c_Big_copy W d A_hp.1 H_r1 H_r17) (fun rv h18 q9 => ?_)
    obtain ⟨⟨rfl, R_z19⟩, B_h18⟩ := q9
    have A_h18 := A_hp.tr B_h18 (by decide)
    show yG _ _ _ _ _ _ _ _ _ _ [] _
    refine yG.load xak rfl (fun _ _ => rfl) (v := yR k3) rfl rfl ?_
    refine yG.getO A_h18.1 (w_Hand_below W H_k3) rfl rfl (fun r20 H_r20 O_r20 q_r20 => ?_)
    obtain ⟨n_r20, N_r20⟩ : ∃ n : Int, n = ((zat G r20 : Nat) : Int) := ⟨_, rfl⟩
    have L_r20 := n_Big W H_r20
    refine yG.load xak rfl (fun _ _ => rfl) (v := yR k0) rfl rfl ?_
    refine yG.getO A_h18.1 (w_Meters_common W H_k0) rfl rfl (fun r21 H_r21 O_r21 q_r21 => ?_)
    obtain ⟨n_r21, N_r21⟩ : ∃ n : Int, n = ((zat G r21 : Nat) : Int) := ⟨_, rfl⟩
    have L_r21 := n_Big W H_r21
    refine yG.invV (rest := []) A_h18.1 (bOb (d_Big W) H_r20) rfl rfl rfl rfl (c_Big_copy W d A_h18.1 H_r20 H_r21) (fun rv h22 q9 => ?_)
    obtain ⟨⟨rfl, R_z23⟩, B_h22⟩ := q9
    have A_h22 := A_h18.tr B_h22 (by decide)
    have qq3 : zsl h22 k3 1 = yR r20 := (B_h22.sl H_k3 (by decide)).trans q_r20
    show yG _ _ _ _ _ _ _ _ _ _ [] _
    refine yG.load xak rfl (fun _ _ => rfl) (v := yR k3) rfl rfl ?_
    refine yG.getS9 A_h22.1 (w_Hand_below W H_k3) qq3 rfl rfl ?_
    refine yG.load xik rfl (fun _ _ => rfl) (v := yI (p2)) rfl rfl ?_
    refine yG.ifz rfl (t := 49) rfl ⟨by omega, by omega⟩ (fun c24 => ?_) (fun c24 => ?_)
    · have c24 : (p2 : Int) ≠ 0 := c24
      exfalso; omega
    · have c24 : (p2 : Int) = 0 := c24
      refine yG.numl (c := 1) rfl (fun _ _ => rfl) (by decide) ?_
      refine yG.goto rfl (t := 56) rfl ?_
      refine yG.invV (rest := []) A_h22.1 (bOb (d_Big W) H_r20) rfl rfl rfl rfl (c_Big_scale W d A_h22.1 H_r20 (1) (by omega) (by omega)) (fun rv h25 q9 => ?_)
      obtain ⟨⟨rfl, R_z26⟩, B_h25⟩ := q9
      have A_h25 := A_h22.tr B_h25 (by decide)
      have qq4 : zsl h25 k3 1 = yR r20 := (B_h25.sl H_k3 (by decide)).trans qq3
      show yG _ _ _ _ _ _ _ _ _ _ [] _
      refine yG.ret rfl (fun _ _ => rfl) ?_
      exact (yP.void ⟨⟨rfl, trivial⟩, A_h25⟩)
theorem c_Meters_weighed {hp : xH} (W : bW G) (d : Nat) (hT : zTy G hp) {k0 : Nat} (H_k0 : bRo G 62 k0) {k3 : Nat} (H_k3 : bRo G 35 k3) (p1 p2 : Int) (h1l : 0 ≤ p1) (h1u : p1 ≤ 31) (h2l : 0 ≤ p2) (h2u : p2 ≤ 31) : yC (xcall 89 xfts xpools xms (d + 3)) 148 [yR k0, yI (p1), yI (p2), yR k3] hp (fun rv hp' => (rv = none ∧ True) ∧ bAx G [(34359738368, 1), (34359738368, 2), (68719476736, 256)] hp hp') := by
  have A_hp : bAx G [(34359738368, 1), (34359738368, 2), (68719476736, 256)] hp hp := bAx.rf hT
  obtain ⟨n_k3, N_k3⟩ : ∃ n : Int, n = ((zat G k3 : Nat) : Int) := ⟨_, rfl⟩
  have L_k3 := n_Big W H_k3
  refine yC.of (M := (xt_X4_weighed, (4, (0, (5, []))))) rfl rfl (N := 108) (yfuel (by decide)) ?_
  show yG 89 xfts (xcall 89 xfts xpools xms (d + 2)) (xpool xp_RX4) [] xt_X4_weighed (yP 0 (fun rv hp' => (rv = none ∧ True) ∧ bAx G [(34359738368, 1), (34359738368, 2), (68719476736, 256)] hp hp')) 108 0 [(0, yR k0), (1, yI (p1)), (2, yI (p2)), (3, yR k3)] [] hp
  refine yG.load xak rfl (fun _ _ => rfl) (v := yR k0) rfl rfl ?_
  refine yG.getO A_hp.1 (w_Meters_help W H_k0) rfl rfl (fun r1 H_r1 O_r1 q_r1 => ?_)
  refine yG.num (c := 0) rfl (fun _ _ => rfl) (by decide) ?_
  refine yG.aaldO (r := 35) A_hp.1 (v_Big4 W H_r1) rfl rfl rfl (by omega) (by omega) (fun r2 H_r2 q_r2 => ?_)
  obtain ⟨n_r2, N_r2⟩ : ∃ n : Int, n = ((zat G r2 : Nat) : Int) := ⟨_, rfl⟩
  have L_r2 := n_Big W H_r2
  refine yG.load xak rfl (fun _ _ => rfl) (v := yR k0) rfl rfl ?_
  refine yG.getO A_hp.1 (w_Meters_rests W H_k0) rfl rfl (fun r3 H_r3 O_r3 q_r3 => ?_)
  refine yG.load xik rfl (fun _ _ => rfl) (v := yI (p1)) rfl rfl ?_
  refine yG.aaldO (r := 35) A_hp.1 (v_Big32 W H_r3) rfl rfl rfl (by omega) (by omega) (fun r4 H_r4 q_r4 => ?_)
  obtain ⟨n_r4, N_r4⟩ : ∃ n : Int, n = ((zat G r4 : Nat) : Int) := ⟨_, rfl⟩
  have L_r4 := n_Big W H_r4
  refine yG.load xak rfl (fun _ _ => rfl) (v := yR k0) rfl rfl ?_
  refine yG.getS9 A_hp.1 (w_Meters_rests W H_k0) q_r3 rfl rfl ?_
  refine yG.load xik rfl (fun _ _ => rfl) (v := yI (p1)) rfl rfl ?_
  refine yG.aaldO (r := 35) A_hp.1 (v_Big32 W H_r3) rfl rfl rfl (by omega) (by omega) (fun r5 H_r5 q_r5 => ?_)
  obtain ⟨n_r5, N_r5⟩ : ∃ n : Int, n = ((zat G r5 : Nat) : Int) := ⟨_, rfl⟩
  have L_r5 := n_Big W H_r5
  have s_r5 : r5 = r4 := by have e9 := q_r5.symm.trans q_r4; cases e9; rfl
  rw [s_r5]
  refine yG.invV (rest := []) A_hp.1 (bOb (d_Big W) H_r2) rfl rfl rfl rfl (c_Big_product W d A_hp.1 H_r2 H_r4 H_r4) (fun rv h6 q9 => ?_)
  obtain ⟨⟨rfl, R_z7⟩, B_h6⟩ := q9
  have A_h6 := A_hp.tr B_h6 (by decide)
  have qq1 : zsl h6 k0 16 = yR r1 := (B_h6.sl H_k0 (by decide)).trans q_r1
  have qq2 : zsl h6 r1 (0 : Int).toNat = yR r2 := (B_h6.sl H_r1 (bNo_ok (by decide) _)).trans q_r2
  have qq3 : zsl h6 k0 13 = yR r3 := (B_h6.sl H_k0 (by decide)).trans q_r3
  have qq4 : zsl h6 r3 (p1 : Int).toNat = yR r4 := (B_h6.sl H_r3 (bNo_ok (by decide) _)).trans q_r4
  show yG _ _ _ _ _ _ _ _ _ _ [] _
  refine yG.load xak rfl (fun _ _ => rfl) (v := yR k0) rfl rfl ?_
  refine yG.getS9 A_h6.1 (w_Meters_help W H_k0) qq1 rfl rfl ?_
  refine yG.num (c := 0) rfl (fun _ _ => rfl) (by decide) ?_
  refine yG.aaldO (r := 35) A_h6.1 (v_Big4 W H_r1) rfl rfl rfl (by omega) (by omega) (fun r8 H_r8 q_r8 => ?_)
  obtain ⟨n_r8, N_r8⟩ : ∃ n : Int, n = ((zat G r8 : Nat) : Int) := ⟨_, rfl⟩
  have L_r8 := n_Big W H_r8
  have s_r8 : r8 = r2 := by have e9 := q_r8.symm.trans qq2; cases e9; rfl
  rw [s_r8]
  refine yG.load xak rfl (fun _ _ => rfl) (v := yR k0) rfl rfl ?_
  refine yG.getO A_h6.1 (w_Meters_weight W H_k0) rfl rfl (fun r9 H_r9 O_r9 q_r9 => ?_)
  refine yG.load xik rfl (fun _ _ => rfl) (v := yI (p1)) rfl rfl ?_
  refine yG.iald A_h6.1 (v_Meters_weight W H_r9) rfl (by omega) (by omega) (fun z10 e_z10 i_z10 l_z10 u_z10 => ?_)
  refine yG.i2l rfl ⟨by omega, by omega⟩ ?_
  refine yG.invV (rest := []) A_h6.1 (bOb (d_Big W) H_r2) rfl rfl rfl rfl (c_Big_scale W d A_h6.1 H_r2 (z10) (by omega) (by omega)) (fun rv h11 q9 => ?_)
  obtain ⟨⟨rfl, R_z12⟩, B_h11⟩ := q9
  have A_h11 := A_h6.tr B_h11 (by decide)
  have qq5 : zsl h11 k0 16 = yR r1 := (B_h11.sl H_k0 (by decide)).trans qq1
  have qq6 : zsl h11 r1 (0 : Int).toNat = yR r2 := (B_h11.sl H_r1 (bNo_ok (by decide) _)).trans qq2
  have qq7 : zsl h11 k0 13 = yR r3 := (B_h11.sl H_k0 (by decide)).trans qq3
  have qq8 : zsl h11 r3 (p1 : Int).toNat = yR r4 := (B_h11.sl H_r3 (bNo_ok (by decide) _)).trans qq4
  show yG _ _ _ _ _ _ _ _ _ _ [] _
  refine yG.load xak rfl (fun _ _ => rfl) (v := yR k3) rfl rfl ?_
  refine yG.load xak rfl (fun _ _ => rfl) (v := yR k0) rfl rfl ?_
  refine yG.getS9 A_h11.1 (w_Meters_help W H_k0) qq5 rfl rfl ?_
  refine yG.num (c := 0) rfl (fun _ _ => rfl) (by decide) ?_
  refine yG.aaldO (r := 35) A_h11.1 (v_Big4 W H_r1) rfl rfl rfl (by omega) (by omega) (fun r13 H_r13 q_r13 => ?_)
  obtain ⟨n_r13, N_r13⟩ : ∃ n : Int, n = ((zat G r13 : Nat) : Int) := ⟨_, rfl⟩
  have L_r13 := n_Big W H_r13
  have s_r13 : r13 = r2 := by have e9 := q_r13.symm.trans qq6; cases e9; rfl
  rw [s_r13]
  refine yG.load xak rfl (fun _ _ => rfl) (v := yR k0) rfl rfl ?_
  refine yG.getO A_h11.1 (w_Meters_spreads W H_k0) rfl rfl (fun r14 H_r14 O_r14 q_r14 => ?_)
  refine yG.load xik rfl (fun _ _ => rfl) (v := yI (p2)) rfl rfl ?_
  refine yG.aaldO (r := 35) A_h11.1 (v_Big32 W H_r14) rfl rfl rfl (by omega) (by omega) (fun r15 H_r15 q_r15 => ?_)
  obtain ⟨n_r15, N_r15⟩ : ∃ n : Int, n = ((zat G r15 : Nat) : Int) := ⟨_, rfl⟩
  have L_r15 := n_Big W H_r15
  refine yG.invV (rest := []) A_h11.1 (bOb (d_Big W) H_k3) rfl rfl rfl rfl (c_Big_product W d A_h11.1 H_k3 H_r2 H_r15) (fun rv h16 q9 => ?_)
  obtain ⟨⟨rfl, R_z17⟩, B_h16⟩ := q9
  have A_h16 := A_h11.tr B_h16 (by decide)
  have qq9 : zsl h16 k0 16 = yR r1 := (B_h16.sl H_k0 (by decide)).trans qq5
  have qq10 : zsl h16 r1 (0 : Int).toNat = yR r2 := (B_h16.sl H_r1 (bNo_ok (by decide) _)).trans qq6
  have qq11 : zsl h16 k0 13 = yR r3 := (B_h16.sl H_k0 (by decide)).trans qq7
  have qq12 : zsl h16 r3 (p1 : Int).toNat = yR r4 := (B_h16.sl H_r3 (bNo_ok (by decide) _)).trans qq8
  show yG _ _ _ _ _ _ _ _ _ _ [] _
  refine yG.ret rfl (fun _ _ => rfl) ?_
  exact (yP.void ⟨⟨rfl, trivial⟩, A_h16⟩)
theorem c_Meters_isWorse {hp : xH} (W : bW G) (d : Nat) (hT : zTy G hp) {k0 : Nat} (H_k0 : bRo G 62 k0) (p1 p2 : Int) (h1l : 0 ≤ p1) (h1u : p1 ≤ 31) (h2l : 0 ≤ p2) (h2u : p2 ≤ 31) : yC (xcall 89 xfts xpools xms (d + 4)) 134 [yR k0, yI (p1), yI (p2)] hp (bQi G [(34359738368, 1), (34359738368, 2), (68719476736, 256)] hp 0 1 (fun _ => True)) := by
  have A_hp : bAx G [(34359738368, 1), (34359738368, 2), (68719476736, 256)] hp hp := bAx.rf hT
  refine yC.of (M := (xt_X4_isWorse, (3, (4, (5, []))))) rfl rfl (N := 93) (yfuel (by decide)) ?_
  show yG 89 xfts (xcall 89 xfts xpools xms (d + 3)) (xpool xp_RX4) [] xt_X4_isWorse (yP 4 (bQi G [(34359738368, 1), (34359738368, 2), (68719476736, 256)] hp 0 1 (fun _ => True))) 93 0 [(0, yR k0), (1, yI (p1)), (2, yI (p2))] [] hp
  refine yG.load xak rfl (fun _ _ => rfl) (v := yR k0) rfl rfl ?_
  refine yG.load xik rfl (fun _ _ => rfl) (v := yI (p1)) rfl rfl ?_
  refine yG.load xik rfl (fun _ _ => rfl) (v := yI (p2)) rfl rfl ?_
  refine yG.load xak rfl (fun _ _ => rfl) (v := yR k0) rfl rfl ?_
  refine yG.getO A_hp.1 (w_Meters_help W H_k0) rfl rfl (fun r1 H_r1 O_r1 q_r1 => ?_)
  refine yG.num (c := 2) rfl (fun _ _ => rfl) (by decide) ?_
  refine yG.aaldO (r := 35) A_hp.1 (v_Big4 W H_r1) rfl rfl rfl (by omega) (by omega) (fun r2 H_r2 q_r2 => ?_)
  obtain ⟨n_r2, N_r2⟩ : ∃ n : Int, n = ((zat G r2 : Nat) : Int) := ⟨_, rfl⟩
  have L_r2 := n_Big W H_r2
  refine yG.invV (rest := []) A_hp.1 (bOb (d_Meters W) H_k0) rfl rfl rfl rfl (c_Meters_weighed W d A_hp.1 H_k0 H_r2 (p1) (p2) (by omega) (by omega) (by omega) (by omega)) (fun rv h3 q9 => ?_)
  obtain ⟨⟨rfl, R_z4⟩, B_h3⟩ := q9
  have A_h3 := A_hp.tr B_h3 (by decide)
  have qq1 : zsl h3 k0 16 = yR r1 := (B_h3.sl H_k0 (by decide)).trans q_r1
  have qq2 : zsl h3 r1 (2 : Int).toNat = yR r2 := (B_h3.sl H_r1 (bNo_ok (by decide) _)).trans q_r2
  show yG _ _ _ _ _ _ _ _ _ _ [] _
  refine yG.load xak rfl (fun _ _ => rfl) (v := yR k0) rfl rfl ?_
  refine yG.load xik rfl (fun _ _ => rfl) (v := yI (p2)) rfl rfl ?_
  refine yG.load xik rfl (fun _ _ => rfl) (v := yI (p1)) rfl rfl ?_
  refine yG.load xak rfl (fun _ _ => rfl) (v := yR k0) rfl rfl ?_
  refine yG.getS9 A_h3.1 (w_Meters_help W H_k0) qq1 rfl rfl ?_
  refine yG.num (c := 3) rfl (fun _ _ => rfl) (by decide) ?_
  refine yG.aaldO (r := 35) A_h3.1 (v_Big4 W H_r1) rfl rfl rfl (by omega) (by omega) (fun r5 H_r5 q_r5 => ?_)
  obtain ⟨n_r5, N_r5⟩ : ∃ n : Int, n = ((zat G r5 : Nat) : Int) := ⟨_, rfl⟩
  have L_r5 := n_Big W H_r5
  refine yG.invV (rest := []) A_h3.1 (bOb (d_Meters W) H_k0) rfl rfl rfl rfl (c_Meters_weighed W d A_h3.1 H_k0 H_r5 (p2) (p1) (by omega) (by omega) (by omega) (by omega)) (fun rv h6 q9 => ?_)
  obtain ⟨⟨rfl, R_z7⟩, B_h6⟩ := q9
  have A_h6 := A_h3.tr B_h6 (by decide)
  have qq3 : zsl h6 k0 16 = yR r1 := (B_h6.sl H_k0 (by decide)).trans qq1
  have qq4 : zsl h6 r1 (2 : Int).toNat = yR r2 := (B_h6.sl H_r1 (bNo_ok (by decide) _)).trans qq2
  have qq5 : zsl h6 r1 (3 : Int).toNat = yR r5 := (B_h6.sl H_r1 (bNo_ok (by decide) _)).trans q_r5
  show yG _ _ _ _ _ _ _ _ _ _ [] _
  refine yG.load xak rfl (fun _ _ => rfl) (v := yR k0) rfl rfl ?_
  refine yG.getS9 A_h6.1 (w_Meters_help W H_k0) qq3 rfl rfl ?_
  refine yG.num (c := 2) rfl (fun _ _ => rfl) (by decide) ?_
  refine yG.aaldO (r := 35) A_h6.1 (v_Big4 W H_r1) rfl rfl rfl (by omega) (by omega) (fun r8 H_r8 q_r8 => ?_)
  obtain ⟨n_r8, N_r8⟩ : ∃ n : Int, n = ((zat G r8 : Nat) : Int) := ⟨_, rfl⟩
  have L_r8 := n_Big W H_r8
  have s_r8 : r8 = r2 := by have e9 := q_r8.symm.trans qq4; cases e9; rfl
  rw [s_r8]
  refine yG.load xak rfl (fun _ _ => rfl) (v := yR k0) rfl rfl ?_
  refine yG.getS9 A_h6.1 (w_Meters_help W H_k0) qq3 rfl rfl ?_
  refine yG.num (c := 3) rfl (fun _ _ => rfl) (by decide) ?_
  refine yG.aaldO (r := 35) A_h6.1 (v_Big4 W H_r1) rfl rfl rfl (by omega) (by omega) (fun r9 H_r9 q_r9 => ?_)
  obtain ⟨n_r9, N_r9⟩ : ∃ n : Int, n = ((zat G r9 : Nat) : Int) := ⟨_, rfl⟩
  have L_r9 := n_Big W H_r9
  have s_r9 : r9 = r5 := by have e9 := q_r9.symm.trans qq5; cases e9; rfl
  rw [s_r9]
  refine yG.invV (rest := []) A_h6.1 (bOb (d_Big W) H_r2) rfl rfl rfl rfl (c_Big_compareSize W (d + 2) A_h6.1 H_r2 H_r5) (fun rv hp9 q9 => ?_)
  obtain ⟨⟨z10, rfl, l_z10, u_z10, R_z10⟩, e9⟩ := q9
  rw [e9]
  show yG _ _ _ _ _ _ _ _ _ _ (yI z10 :: []) _
  refine yG.ifz rfl (t := 46) rfl ⟨by omega, by omega⟩ (fun c11 => ?_) (fun c11 => ?_)
  · have c11 : (z10 : Int) ≤ 0 := c11
    refine yG.num (c := 0) rfl (fun _ _ => rfl) (by decide) ?_
    refine yG.ret rfl (fun _ _ => rfl) ?_
    exact (yP.bool (by omega) ⟨⟨0, rfl, by omega, by omega, trivial⟩, A_h6⟩)
  · have c11 : (z10 : Int) > 0 := c11
    refine yG.num (c := 1) rfl (fun _ _ => rfl) (by decide) ?_
    refine yG.goto rfl (t := 47) rfl ?_
    refine yG.ret rfl (fun _ _ => rfl) ?_
    exact (yP.bool (by omega) ⟨⟨1, rfl, by omega, by omega, trivial⟩, A_h6⟩)
theorem c_Meters_greatest {hp : xH} (W : bW G) (d : Nat) (hT : zTy G hp) (M_bMk : bMk G hp) {k0 : Nat} (H_k0 : bRo G 62 k0) : yC (xcall 89 xfts xpools xms (d + 5)) 129 [yR k0] hp (bQi G [(34359738368, 1), (34359738368, 2), (68719476736, 256)] hp (-1) 31 (fun _ => True)) := by
  have A_hp : bAx G [(34359738368, 1), (34359738368, 2), (68719476736, 256)] hp hp := bAx.rf hT
  have H : ∀ m : Nat, (∀ a1 : Int, ∀ a2 : Int, ∀ hq, bAx G [(34359738368, 1), (34359738368, 2), (68719476736, 256)] hp hq → (-1) ≤ a1 → (-31) ≤ 0 - a1 → 0 ≤ a2 → (-32) ≤ 0 - a2 → 1 ≤ 0 - a1 + a2 → 0 - 2 * a2 + 65 < (m : Int) → yG 89 xfts (xcall 89 xfts xpools xms (d + 4)) (xpool xp_RX4) [] xt_X4_greatest (yP 1 (bQi G [(34359738368, 1), (34359738368, 2), (68719476736, 256)] hp (-1) 31 (fun _ => True))) (33 * m) 4 [(0, yR k0), (1, yI (a1)), (2, yI (a2))] [] hq) := by
    intro m
    induction m with
    | zero =>
      intros; exfalso; omega
    | succ m ih =>
      have i_4 := ih
      clear ih
      intro a1 a2 hq A_hq f0 f1 f2 f3 f4 hm
      refine yG.mono (N := 33 * m + 33) ?_ (by omega)
      refine yG.load xik rfl (fun _ _ => rfl) (v := yI (a2)) rfl rfl ?_
      refine yG.load xak rfl (fun _ _ => rfl) (v := yR k0) rfl rfl ?_
      refine yG.getI A_hq.1 (w_Meters_count W H_k0) rfl rfl (fun z1 e_z1 i_z1 l_z1 u_z1 => ?_)
      refine yG.icmp rfl (t := 63) rfl ⟨by omega, by omega⟩ ⟨by omega, by omega⟩ (fun c2 => ?_) (fun c2 => ?_)
      · have c2 : (a2 : Int) ≥ z1 := c2
        refine yG.load xik rfl (fun _ _ => rfl) (v := yI (a1)) rfl rfl ?_
        refine yG.ret rfl (fun _ _ => rfl) ?_
        exact (yP.int ⟨by omega, by omega⟩ ⟨⟨a1, rfl, by omega, by omega, trivial⟩, A_hq⟩)
      · have c2 : (a2 : Int) < z1 := c2
        refine yG.load xak rfl (fun _ _ => rfl) (v := yR k0) rfl rfl ?_
        refine yG.load xik rfl (fun _ _ => rfl) (v := yI (a2)) rfl rfl ?_
        refine yG.invV (rest := []) A_hq.1 (bOb (d_Meters W) H_k0) rfl rfl rfl rfl (c_Meters_isWhole W (d + 2) A_hq.1 (M_bMk.fr A_hq (by decide)) H_k0 (a2) (by omega) (by omega)) (fun rv hp9 q9 => ?_)
        obtain ⟨⟨z3, rfl, l_z3, u_z3, R_z3⟩, e9⟩ := q9
        rw [e9]
        show yG _ _ _ _ _ _ _ _ _ _ (yI z3 :: []) _
        refine yG.ifz rfl (t := 57) rfl ⟨by omega, by omega⟩ (fun c4 => ?_) (fun c4 => ?_)
        · have c4 : (z3 : Int) = 0 := c4
          refine yG.iinc rfl (a := a2) rfl (L' := [(2, yI (a2 + 1)), (0, yR k0), (1, yI (a1))]) rfl ?_
          refine yG.goto rfl (t := 4) rfl ?_
          exact yG.mono (yG.sub (i_4 (a1) (a2 + 1)  hq A_hq   (by omega) (by omega) (by omega) (by omega) (by omega) (by omega)) (ySub.cons rfl (ySub.cons rfl (ySub.cons rfl (ySub.nil))))) (by omega)
        · have c4 : (z3 : Int) ≠ 0 := c4
          refine yG.load xak rfl (fun _ _ => rfl) (v := yR k0) rfl rfl ?_
          refine yG.getO A_hq.1 (w_Meters_struck W H_k0) rfl rfl (fun r5 H_r5 O_r5 q_r5 => ?_)
          refine yG.load xik rfl (fun _ _ => rfl) (v := yI (a2)) rfl rfl ?_
          refine yG.bald A_hq.1 (v_Meters_struck W H_r5) rfl (by omega) (by omega) (fun z6 e_z6 i_z6 l_z6 u_z6 => ?_)
          refine yG.ifz rfl (t := 57) rfl ⟨by omega, by omega⟩ (fun c7 => ?_) (fun c7 => ?_)
          · have c7 : (z6 : Int) ≠ 0 := c7
            refine yG.iinc rfl (a := a2) rfl (L' := [(2, yI (a2 + 1)), (0, yR k0), (1, yI (a1))]) rfl ?_
            refine yG.goto rfl (t := 4) rfl ?_
            exact yG.mono (yG.sub (i_4 (a1) (a2 + 1)  hq A_hq   (by omega) (by omega) (by omega) (by omega) (by omega) (by omega)) (ySub.cons rfl (ySub.cons rfl (ySub.cons rfl (ySub.nil))))) (by omega)
          · have c7 : (z6 : Int) = 0 := c7
            refine yG.load xak rfl (fun _ _ => rfl) (v := yR k0) rfl rfl ?_
            refine yG.getO A_hq.1 (w_Meters_spreads W H_k0) rfl rfl (fun r8 H_r8 O_r8 q_r8 => ?_)
            refine yG.load xik rfl (fun _ _ => rfl) (v := yI (a2)) rfl rfl ?_
            refine yG.aaldO (r := 35) A_hq.1 (v_Big32 W H_r8) rfl rfl rfl (by omega) (by omega) (fun r9 H_r9 q_r9 => ?_)
            obtain ⟨n_r9, N_r9⟩ : ∃ n : Int, n = ((zat G r9 : Nat) : Int) := ⟨_, rfl⟩
            have L_r9 := n_Big W H_r9
            refine yG.invV (rest := []) A_hq.1 (bOb (d_Big W) H_r9) rfl rfl rfl rfl (c_Big_sign W (d + 3) A_hq.1 H_r9) (fun rv hp9 q9 => ?_)
            obtain ⟨⟨z10, rfl, l_z10, u_z10, R_z10⟩, e9⟩ := q9
            rw [e9]
            show yG _ _ _ _ _ _ _ _ _ _ (yI z10 :: []) _
            refine yG.ifz rfl (t := 57) rfl ⟨by omega, by omega⟩ (fun c11 => ?_) (fun c11 => ?_)
            · have c11 : (z10 : Int) ≤ 0 := c11
              refine yG.iinc rfl (a := a2) rfl (L' := [(2, yI (a2 + 1)), (0, yR k0), (1, yI (a1))]) rfl ?_
              refine yG.goto rfl (t := 4) rfl ?_
              exact yG.mono (yG.sub (i_4 (a1) (a2 + 1)  hq A_hq   (by omega) (by omega) (by omega) (by omega) (by omega) (by omega)) (ySub.cons rfl (ySub.cons rfl (ySub.cons rfl (ySub.nil))))) (by omega)
            · have c11 : (z10 : Int) > 0 := c11
              refine yG.load xik rfl (fun _ _ => rfl) (v := yI (a1)) rfl rfl ?_
              refine yG.num (c := -1) rfl (fun _ _ => rfl) (by decide) ?_
              refine yG.icmp rfl (t := 55) rfl ⟨by omega, by omega⟩ ⟨by omega, by omega⟩ (fun c12 => ?_) (fun c12 => ?_)
              · have c12 : (a1 : Int) = (-1) := c12
                refine yG.load xik rfl (fun _ _ => rfl) (v := yI (a2)) rfl rfl ?_
                refine yG.store1 xik (L' := [(1, yI (a2)), (0, yR k0), (2, yI (a2))]) rfl (fun _ _ => rfl) rfl rfl ?_
                refine yG.iinc rfl (a := a2) rfl (L' := [(2, yI (a2 + 1)), (1, yI (a2)), (0, yR k0)]) rfl ?_
                refine yG.goto rfl (t := 4) rfl ?_
                exact yG.mono (yG.sub (i_4 (a2) (a2 + 1)  hq A_hq   (by omega) (by omega) (by omega) (by omega) (by omega) (by omega)) (ySub.cons rfl (ySub.cons rfl (ySub.cons rfl (ySub.nil))))) (by omega)
              · have c12 : (a1 : Int) ≠ (-1) := c12
                refine yG.load xak rfl (fun _ _ => rfl) (v := yR k0) rfl rfl ?_
                refine yG.load xik rfl (fun _ _ => rfl) (v := yI (a2)) rfl rfl ?_
                refine yG.load xik rfl (fun _ _ => rfl) (v := yI (a1)) rfl rfl ?_
                refine yG.invV (rest := []) A_hq.1 (bOb (d_Meters W) H_k0) rfl rfl rfl rfl (c_Meters_isWorse W d A_hq.1 H_k0 (a2) (a1) (by omega) (by omega) (by omega) (by omega)) (fun rv h13 q9 => ?_)
                obtain ⟨⟨z14, rfl, l_z14, u_z14, R_z14⟩, B_h13⟩ := q9
                have A_h13 := A_hq.tr B_h13 (by decide)
                show yG _ _ _ _ _ _ _ _ _ _ (yI z14 :: []) _
                refine yG.ifz rfl (t := 57) rfl ⟨by omega, by omega⟩ (fun c15 => ?_) (fun c15 => ?_)
                · have c15 : (z14 : Int) = 0 := c15
                  refine yG.iinc rfl (a := a2) rfl (L' := [(2, yI (a2 + 1)), (0, yR k0), (1, yI (a1))]) rfl ?_
                  refine yG.goto rfl (t := 4) rfl ?_
                  exact yG.mono (yG.sub (i_4 (a1) (a2 + 1)  h13 A_h13   (by omega) (by omega) (by omega) (by omega) (by omega) (by omega)) (ySub.cons rfl (ySub.cons rfl (ySub.cons rfl (ySub.nil))))) (by omega)
                · have c15 : (z14 : Int) ≠ 0 := c15
                  refine yG.load xik rfl (fun _ _ => rfl) (v := yI (a2)) rfl rfl ?_
                  refine yG.store1 xik (L' := [(1, yI (a2)), (0, yR k0), (2, yI (a2))]) rfl (fun _ _ => rfl) rfl rfl ?_
                  refine yG.iinc rfl (a := a2) rfl (L' := [(2, yI (a2 + 1)), (1, yI (a2)), (0, yR k0)]) rfl ?_
                  refine yG.goto rfl (t := 4) rfl ?_
                  exact yG.mono (yG.sub (i_4 (a2) (a2 + 1)  h13 A_h13   (by omega) (by omega) (by omega) (by omega) (by omega) (by omega)) (ySub.cons rfl (ySub.cons rfl (ySub.cons rfl (ySub.nil))))) (by omega)
  refine yC.of (M := (xt_X4_greatest, (3, (1, (5, []))))) rfl rfl (N := 2244) (yfuel (by decide)) ?_
  show yG 89 xfts (xcall 89 xfts xpools xms (d + 4)) (xpool xp_RX4) [] xt_X4_greatest (yP 1 (bQi G [(34359738368, 1), (34359738368, 2), (68719476736, 256)] hp (-1) 31 (fun _ => True))) 2244 0 [(0, yR k0)] [] hp
  have i_4 := H 67
  refine yG.num (c := -1) rfl (fun _ _ => rfl) (by decide) ?_
  refine yG.store1 xik (L' := [(1, yI ((-1))), (0, yR k0)]) rfl (fun _ _ => rfl) rfl rfl ?_
  refine yG.num (c := 0) rfl (fun _ _ => rfl) (by decide) ?_
  refine yG.store1 xik (L' := [(2, yI (0)), (1, yI ((-1))), (0, yR k0)]) rfl (fun _ _ => rfl) rfl rfl ?_
  exact yG.mono (yG.sub (i_4 ((-1)) (0)  hp A_hp   (by omega) (by omega) (by omega) (by omega) (by omega) (by omega)) (ySub.cons rfl (ySub.cons rfl (ySub.cons rfl (ySub.nil))))) (by omega)
end BMeters
