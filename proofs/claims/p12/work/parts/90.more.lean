/-! ===== the reference: more plain methods, printed by a program ===== -/
section YMore
variable {G : zW}
theorem a_figures {hp : xH} (W : yWW G) (d : Nat) (hT : zTy G hp) (p1 : Int) (h1l : (-2147483648) ≤ p1) (h1u : p1 ≤ 2147483647) : yC (xcall 89 xfts xpools xms (d + 2)) 401 [yR 2073, yI (p1)] hp (yQi G [0] [] hp (-2147483648) 2147483647) := by
  have A_hp : yAx G [0] [] hp hp := yAx.rf hT
  have H : ∀ m : Nat, (∀ a3 a4 : Int, ∀ hq, yAx G [0] [] hp hq → (-2147483648) ≤ a3 → (-2147483647) ≤ 0 - a3 → 0 ≤ a4 → (-999999999) ≤ 0 - a4 → 0 ≤ p1 → (-1) ≤ 0 - p1 → (-2247483647) ≤ a3 - a4 → 2 * a4 + 1 < (m : Int) → yG 89 xfts (xcall 89 xfts xpools xms (d + 1)) (xpool xp_RX13) [] xt_X13_figures (yP 1 (yQi G [0] [] hp (-2147483648) 2147483647)) (47 * m) 78 [(3, yI (a3)), (4, yI (a4))] [] hq) := by
    intro m
    induction m with
    | zero =>
      intros; exfalso; omega
    | succ m ih =>
      have i_78 := ih
      clear ih
      intro a3 a4 hq A_hq f0 f1 f2 f3 f4 f5 f6 hm
      refine yG.mono (N := 47 * m + 47) ?_ (by omega)
      refine yG.load xik rfl (fun _ _ => rfl) (v := yI (a4)) rfl rfl ?_
      refine yG.ifz rfl (t := 96) rfl ⟨by omega, by omega⟩ (fun c1 => ?_) (fun c1 => ?_)
      · have c1 : (a4 : Int) ≤ 0 := c1
        refine yG.load xik rfl (fun _ _ => rfl) (v := yI (a3)) rfl rfl ?_
        refine yG.ret rfl (fun _ _ => rfl) ?_
        exact yP.int ⟨by omega, by omega⟩ ⟨⟨a3, rfl, by omega, by omega⟩, A_hq⟩
      · have c1 : (a4 : Int) > 0 := c1
        refine yG.iinc rfl (a := a3) rfl (L' := [(3, yI (a3 + 1)), (4, yI (a4))]) rfl ?_
        refine yG.load xik rfl (fun _ _ => rfl) (v := yI (a4)) rfl rfl ?_
        refine yG.num (c := 10) rfl (fun _ _ => rfl) (by decide) ?_
        refine yG.idiv rfl ⟨by omega, by omega⟩ ⟨by omega, by omega⟩ (by omega) (by omega) ?_
        obtain ⟨z2, e_z2⟩ : ∃ z : Int, z = (a4) / (10) := ⟨_, rfl⟩
        rw [← e_z2]
        refine yG.store1 xik (L' := [(4, yI (z2)), (3, yI (a3 + 1))]) rfl (fun _ _ => rfl) rfl rfl ?_
        refine yG.goto rfl (t := 78) rfl ?_
        obtain ⟨z3, e_z3, l_z3, u_z3⟩ := ywI (a3 + 1)
        rw [e_z3]
        exact yG.mono (yG.sub (i_78 (z3) (z2)  hq A_hq  (by omega) (by omega) (by omega) (by omega) (by omega) (by omega) (by omega) (by omega)) (ySub.cons rfl (ySub.cons rfl (ySub.nil)))) (by omega)
  refine yC.of (M := (xt_X13_figures, (5, (1, (14, []))))) rfl rfl (N := 94000000094) (yfuel (by decide)) ?_
  show yG 89 xfts (xcall 89 xfts xpools xms (d + 1)) (xpool xp_RX13) [] xt_X13_figures (yP 1 (yQi G [0] [] hp (-2147483648) 2147483647)) 94000000094 0 [(0, yR 2073), (1, yI (p1))] [] hp
  have i_78 := H 2000000001
  refine yG.load xak rfl (fun _ _ => rfl) (v := yR 2073) rfl rfl ?_
  refine yG.load xik rfl (fun _ _ => rfl) (v := yI (p1)) rfl rfl ?_
  refine yG.i2l rfl ⟨by omega, by omega⟩ ?_
  refine yG.numl (c := 0) rfl (fun _ _ => rfl) (by decide) ?_
  refine yG.numl (c := 1) rfl (fun _ _ => rfl) (by decide) ?_
  refine yG.invS (rest := [yR 2073]) rfl rfl rfl rfl (a_in W d A_hp.1 (p1) (0) (1) (by omega) (by omega) (by omega) (by omega) (by omega) (by omega)) (fun rv hp9 q9 => ?_)
  obtain ⟨⟨z1, rfl, l_z1, u_z1, r_z1⟩, e9⟩ := q9
  rw [e9]
  show yG _ _ _ _ _ _ _ _ _ _ (yI z1 :: [yR 2073]) _
  refine yG.ifz rfl (t := 15) rfl ⟨by omega, by omega⟩ (fun c2 => ?_) (fun c2 => ?_)
  · have c2 : (z1 : Int) = 0 := c2
    refine yG.num (c := 1) rfl (fun _ _ => rfl) (by decide) ?_
    refine yG.putI A_hp.1 (w_thrown W) (by decide) rfl rfl (.inl rfl) ⟨by omega, by omega⟩ (by omega) (by omega) (fun h3 T_h3 b_h3 f_h3 y_h3 => ?_)
    have A_h3 := A_hp.putF T_h3 b_h3 f_h3 (by decide)
    have g0_h3 : ys h3 2073 0 = 1 := (y_h3 2073 0).trans (if_pos ⟨rfl, rfl⟩)
    refine yG.load xak rfl (fun _ _ => rfl) (v := yR 2073) rfl rfl ?_
    refine yG.getI A_h3.1 (w_thrown W) rfl rfl (fun z4 e_z4 i_z4 l_z4 u_z4 => ?_)
    refine yG.ifz rfl (t := 28) rfl ⟨by omega, by omega⟩ (fun c5 => ?_) (fun c5 => ?_)
    · have c5 : (z4 : Int) ≤ 0 := c5
      exfalso; omega
    · have c5 : (z4 : Int) > 0 := c5
      refine yG.num (c := 0) rfl (fun _ _ => rfl) (by decide) ?_
      refine yG.ret rfl (fun _ _ => rfl) ?_
      exact yP.int ⟨by omega, by omega⟩ ⟨⟨0, rfl, by omega, by omega⟩, A_h3⟩
  · have c2 : (z1 : Int) ≠ 0 := c2
    refine yG.num (c := 0) rfl (fun _ _ => rfl) (by decide) ?_
    refine yG.goto rfl (t := 16) rfl ?_
    refine yG.putI A_hp.1 (w_thrown W) (by decide) rfl rfl (.inl rfl) ⟨by omega, by omega⟩ (by omega) (by omega) (fun h6 T_h6 b_h6 f_h6 y_h6 => ?_)
    have A_h6 := A_hp.putF T_h6 b_h6 f_h6 (by decide)
    have g0_h6 : ys h6 2073 0 = 0 := (y_h6 2073 0).trans (if_pos ⟨rfl, rfl⟩)
    refine yG.load xak rfl (fun _ _ => rfl) (v := yR 2073) rfl rfl ?_
    refine yG.getI A_h6.1 (w_thrown W) rfl rfl (fun z7 e_z7 i_z7 l_z7 u_z7 => ?_)
    refine yG.ifz rfl (t := 28) rfl ⟨by omega, by omega⟩ (fun c8 => ?_) (fun c8 => ?_)
    · have c8 : (z7 : Int) ≤ 0 := c8
      refine yG.num (c := 188) rfl (fun _ _ => rfl) (by decide) ?_
      refine yG.load xik rfl (fun _ _ => rfl) (v := yI (p1)) rfl rfl ?_
      refine yG.iadd rfl ?_
      obtain ⟨z9, e_z9⟩ : ∃ z : Int, z = 188 + p1 := ⟨_, rfl⟩
      rw [← e_z9]
      refine yG.store1 xik (L' := [(2, yI (z9)), (0, yR 2073), (1, yI (p1))]) rfl (fun _ _ => rfl) rfl rfl ?_
      refine yG.load xak rfl (fun _ _ => rfl) (v := yR 2073) rfl rfl ?_
      refine yG.getR A_h6.1 (yF_length W.m) rfl rfl ?_
      refine yG.load xik rfl (fun _ _ => rfl) (v := yI (z9)) rfl rfl ?_
      refine yG.iald A_h6.1 (yA_length W.m) rfl (by omega) (by omega) (fun z10 e_z10 i_z10 l_z10 u_z10 => ?_)
      refine yG.ifz rfl (t := 45) rfl ⟨by omega, by omega⟩ (fun c11 => ?_) (fun c11 => ?_)
      · have c11 : (z10 : Int) ≠ 0 := c11
        refine yG.num (c := 9) rfl (fun _ _ => rfl) (by decide) ?_
        refine yG.load xak rfl (fun _ _ => rfl) (v := yR 2073) rfl rfl ?_
        refine yG.getR A_h6.1 (yF_length W.m) rfl rfl ?_
        refine yG.load xik rfl (fun _ _ => rfl) (v := yI (z9)) rfl rfl ?_
        refine yG.iald A_h6.1 (yA_length W.m) rfl (by omega) (by omega) (fun z12 e_z12 i_z12 l_z12 u_z12 => ?_)
        refine yG.num (c := 1) rfl (fun _ _ => rfl) (by decide) ?_
        refine yG.isub rfl ?_
        refine yG.imul rfl ?_
        obtain ⟨z13, e_z13⟩ : ∃ z : Int, z = 9 * (z12 - 1) := ⟨_, rfl⟩
        rw [← e_z13]
        refine yG.store1 xik (L' := [(3, yI (z13)), (2, yI (z9)), (0, yR 2073), (1, yI (p1))]) rfl (fun _ _ => rfl) rfl rfl ?_
        refine yG.load xak rfl (fun _ _ => rfl) (v := yR 2073) rfl rfl ?_
        refine yG.getR A_h6.1 (yF_big W.m) rfl rfl ?_
        refine yG.num (c := 256) rfl (fun _ _ => rfl) (by decide) ?_
        refine yG.load xik rfl (fun _ _ => rfl) (v := yI (z9)) rfl rfl ?_
        refine yG.imul rfl ?_
        refine yG.load xak rfl (fun _ _ => rfl) (v := yR 2073) rfl rfl ?_
        refine yG.getR A_h6.1 (yF_length W.m) rfl rfl ?_
        refine yG.load xik rfl (fun _ _ => rfl) (v := yI (z9)) rfl rfl ?_
        refine yG.iald A_h6.1 (yA_length W.m) rfl (by omega) (by omega) (fun z14 e_z14 i_z14 l_z14 u_z14 => ?_)
        refine yG.iadd rfl ?_
        refine yG.num (c := 1) rfl (fun _ _ => rfl) (by decide) ?_
        refine yG.isub rfl ?_
        refine yG.iald A_h6.1 (yA_big W.m) rfl (by omega) (by omega) (fun z15 e_z15 i_z15 l_z15 u_z15 => ?_)
        refine yG.store1 xik (L' := [(4, yI (z15)), (3, yI (z13)), (2, yI (z9)), (0, yR 2073), (1, yI (p1))]) rfl (fun _ _ => rfl) rfl rfl ?_
        exact yG.mono (yG.sub (i_78 (z13) (z15)  h6 A_h6  (by omega) (by omega) (by omega) (by omega) (by omega) (by omega) (by omega) (by omega)) (ySub.cons rfl (ySub.cons rfl (ySub.nil)))) (by omega)
      · have c11 : (z10 : Int) = 0 := c11
        refine yG.num (c := 1) rfl (fun _ _ => rfl) (by decide) ?_
        refine yG.ret rfl (fun _ _ => rfl) ?_
        exact yP.int ⟨by omega, by omega⟩ ⟨⟨1, rfl, by omega, by omega⟩, A_h6⟩
    · have c8 : (z7 : Int) > 0 := c8
      exfalso; omega
theorem a_add {hp : xH} (W : yWW G) (d : Nat) (hT : zTy G hp) (p1 p2 p3 p4 : Int) (h1l : 0 ≤ p1) (h1u : p1 ≤ 11) (h2l : 0 ≤ p2) (h2u : p2 ≤ 1) (h3l : (-3) ≤ p3) (h3u : p3 ≤ 23) (h4l : 0 ≤ p4) (h4u : p4 ≤ 999999) (q119l : 0 ≤ ys hp 2073 119) (q119u : ys hp 2073 119 ≤ 2499) : yC (xcall 89 xfts xpools xms (d + 1)) 344 [yR 2073, yI (p1), yI (p2), yI (p3), yI (p4)] hp (yQv G [119] [2153] hp) := by
  have A_hp : yAx G [119] [2153] hp hp := yAx.rf hT
  refine yC.of (M := (xt_X13_add, (5, (0, (14, []))))) rfl rfl (N := 150) (yfuel (by decide)) ?_
  show yG 89 xfts (xcall 89 xfts xpools xms d) (xpool xp_RX13) [] xt_X13_add (yP 0 (yQv G [119] [2153] hp)) 150 0 [(0, yR 2073), (1, yI (p1)), (2, yI (p2)), (3, yI (p3)), (4, yI (p4))] [] hp
  obtain ⟨gg119, E_119⟩ : ∃ z : Int, ys hp 2073 119 = z := ⟨_, rfl⟩
  obtain ⟨-, -, r_119l, r_119u⟩ := (w_codes W).int hT
  refine yG.load xak rfl (fun _ _ => rfl) (v := yR 2073) rfl rfl ?_
  refine yG.getR A_hp.1 (r_newCode W) rfl rfl ?_
  refine yG.num (c := 4) rfl (fun _ _ => rfl) (by decide) ?_
  refine yG.load xak rfl (fun _ _ => rfl) (v := yR 2073) rfl rfl ?_
  refine yG.getI A_hp.1 (w_codes W) rfl rfl (fun z1 e_z1 i_z1 l_z1 u_z1 => ?_)
  refine yG.imul rfl ?_
  refine yG.load xik rfl (fun _ _ => rfl) (v := yI (p1)) rfl rfl ?_
  refine yG.iastF A_hp.1 (p_newCode W) ((yoT_m (r := 0) (by omega)).trans rfl) (by decide) rfl (by omega) (by omega) ⟨by omega, by omega⟩ (by omega) (by omega) (fun h2 T_h2 b_h2 f_h2 y_h2 => ?_)
  have A_h2 := A_hp.putA T_h2 b_h2 f_h2 (by decide)
  have g119_h2 : ys h2 2073 119 = ys hp 2073 119 := (y_h2 2073 119).trans (if_neg (by omega))
  refine yG.load xak rfl (fun _ _ => rfl) (v := yR 2073) rfl rfl ?_
  refine yG.getR A_h2.1 (r_newCode W) rfl rfl ?_
  refine yG.num (c := 4) rfl (fun _ _ => rfl) (by decide) ?_
  refine yG.load xak rfl (fun _ _ => rfl) (v := yR 2073) rfl rfl ?_
  refine yG.getI A_h2.1 (w_codes W) rfl rfl (fun z3 e_z3 i_z3 l_z3 u_z3 => ?_)
  refine yG.imul rfl ?_
  refine yG.num (c := 1) rfl (fun _ _ => rfl) (by decide) ?_
  refine yG.iadd rfl ?_
  refine yG.load xik rfl (fun _ _ => rfl) (v := yI (p2)) rfl rfl ?_
  refine yG.ifz rfl (t := 32) rfl ⟨by omega, by omega⟩ (fun c4 => ?_) (fun c4 => ?_)
  · have c4 : (p2 : Int) = 0 := c4
    refine yG.num (c := 0) rfl (fun _ _ => rfl) (by decide) ?_
    refine yG.iastF A_h2.1 (p_newCode W) ((yoT_m (r := 1) (by omega)).trans rfl) (by decide) rfl (by omega) (by omega) ⟨by omega, by omega⟩ (by omega) (by omega) (fun h5 T_h5 b_h5 f_h5 y_h5 => ?_)
    have A_h5 := A_h2.putA T_h5 b_h5 f_h5 (by decide)
    have g119_h5 : ys h5 2073 119 = ys h2 2073 119 := (y_h5 2073 119).trans (if_neg (by omega))
    refine yG.load xak rfl (fun _ _ => rfl) (v := yR 2073) rfl rfl ?_
    refine yG.getR A_h5.1 (r_newCode W) rfl rfl ?_
    refine yG.num (c := 4) rfl (fun _ _ => rfl) (by decide) ?_
    refine yG.load xak rfl (fun _ _ => rfl) (v := yR 2073) rfl rfl ?_
    refine yG.getI A_h5.1 (w_codes W) rfl rfl (fun z6 e_z6 i_z6 l_z6 u_z6 => ?_)
    refine yG.imul rfl ?_
    refine yG.num (c := 2) rfl (fun _ _ => rfl) (by decide) ?_
    refine yG.iadd rfl ?_
    refine yG.load xik rfl (fun _ _ => rfl) (v := yI (p3)) rfl rfl ?_
    refine yG.iastF A_h5.1 (p_newCode W) ((yoT_m (r := 2) (by omega)).trans rfl) (by decide) rfl (by omega) (by omega) ⟨by omega, by omega⟩ (by omega) (by omega) (fun h7 T_h7 b_h7 f_h7 y_h7 => ?_)
    have A_h7 := A_h5.putA T_h7 b_h7 f_h7 (by decide)
    have g119_h7 : ys h7 2073 119 = ys h5 2073 119 := (y_h7 2073 119).trans (if_neg (by omega))
    refine yG.load xak rfl (fun _ _ => rfl) (v := yR 2073) rfl rfl ?_
    refine yG.getR A_h7.1 (r_newCode W) rfl rfl ?_
    refine yG.num (c := 4) rfl (fun _ _ => rfl) (by decide) ?_
    refine yG.load xak rfl (fun _ _ => rfl) (v := yR 2073) rfl rfl ?_
    refine yG.getI A_h7.1 (w_codes W) rfl rfl (fun z8 e_z8 i_z8 l_z8 u_z8 => ?_)
    refine yG.imul rfl ?_
    refine yG.num (c := 3) rfl (fun _ _ => rfl) (by decide) ?_
    refine yG.iadd rfl ?_
    refine yG.load xik rfl (fun _ _ => rfl) (v := yI (p4)) rfl rfl ?_
    refine yG.iastF A_h7.1 (p_newCode W) ((yoT_m (r := 3) (by omega)).trans rfl) (by decide) rfl (by omega) (by omega) ⟨by omega, by omega⟩ (by omega) (by omega) (fun h9 T_h9 b_h9 f_h9 y_h9 => ?_)
    have A_h9 := A_h7.putA T_h9 b_h9 f_h9 (by decide)
    have g119_h9 : ys h9 2073 119 = ys h7 2073 119 := (y_h9 2073 119).trans (if_neg (by omega))
    refine yG.load xak rfl (fun _ _ => rfl) (v := yR 2073) rfl rfl ?_
    refine yG.step (pc' := 65) (stk' := [yR 2073, yR 2073]) rfl (fun _ _ => rfl) ?_
    refine yG.getI A_h9.1 (w_codes W) rfl rfl (fun z10 e_z10 i_z10 l_z10 u_z10 => ?_)
    refine yG.num (c := 1) rfl (fun _ _ => rfl) (by decide) ?_
    refine yG.iadd rfl ?_
    refine yG.putI A_h9.1 (w_codes W) (by decide) rfl rfl (.inl rfl) ⟨by omega, by omega⟩ (by omega) (by omega) (fun h11 T_h11 b_h11 f_h11 y_h11 => ?_)
    have A_h11 := A_h9.putF T_h11 b_h11 f_h11 (by decide)
    have g119_h11 : ys h11 2073 119 = z10 + 1 := (y_h11 2073 119).trans (if_pos ⟨rfl, rfl⟩)
    refine yG.ret rfl (fun _ _ => rfl) ?_
    exact yP.void ⟨rfl, A_h11⟩
  · have c4 : (p2 : Int) ≠ 0 := c4
    refine yG.num (c := 1) rfl (fun _ _ => rfl) (by decide) ?_
    refine yG.goto rfl (t := 33) rfl ?_
    refine yG.iastF A_h2.1 (p_newCode W) ((yoT_m (r := 1) (by omega)).trans rfl) (by decide) rfl (by omega) (by omega) ⟨by omega, by omega⟩ (by omega) (by omega) (fun h12 T_h12 b_h12 f_h12 y_h12 => ?_)
    have A_h12 := A_h2.putA T_h12 b_h12 f_h12 (by decide)
    have g119_h12 : ys h12 2073 119 = ys h2 2073 119 := (y_h12 2073 119).trans (if_neg (by omega))
    refine yG.load xak rfl (fun _ _ => rfl) (v := yR 2073) rfl rfl ?_
    refine yG.getR A_h12.1 (r_newCode W) rfl rfl ?_
    refine yG.num (c := 4) rfl (fun _ _ => rfl) (by decide) ?_
    refine yG.load xak rfl (fun _ _ => rfl) (v := yR 2073) rfl rfl ?_
    refine yG.getI A_h12.1 (w_codes W) rfl rfl (fun z13 e_z13 i_z13 l_z13 u_z13 => ?_)
    refine yG.imul rfl ?_
    refine yG.num (c := 2) rfl (fun _ _ => rfl) (by decide) ?_
    refine yG.iadd rfl ?_
    refine yG.load xik rfl (fun _ _ => rfl) (v := yI (p3)) rfl rfl ?_
    refine yG.iastF A_h12.1 (p_newCode W) ((yoT_m (r := 2) (by omega)).trans rfl) (by decide) rfl (by omega) (by omega) ⟨by omega, by omega⟩ (by omega) (by omega) (fun h14 T_h14 b_h14 f_h14 y_h14 => ?_)
    have A_h14 := A_h12.putA T_h14 b_h14 f_h14 (by decide)
    have g119_h14 : ys h14 2073 119 = ys h12 2073 119 := (y_h14 2073 119).trans (if_neg (by omega))
    refine yG.load xak rfl (fun _ _ => rfl) (v := yR 2073) rfl rfl ?_
    refine yG.getR A_h14.1 (r_newCode W) rfl rfl ?_
    refine yG.num (c := 4) rfl (fun _ _ => rfl) (by decide) ?_
    refine yG.load xak rfl (fun _ _ => rfl) (v := yR 2073) rfl rfl ?_
    refine yG.getI A_h14.1 (w_codes W) rfl rfl (fun z15 e_z15 i_z15 l_z15 u_z15 => ?_)
    refine yG.imul rfl ?_
    refine yG.num (c := 3) rfl (fun _ _ => rfl) (by decide) ?_
    refine yG.iadd rfl ?_
    refine yG.load xik rfl (fun _ _ => rfl) (v := yI (p4)) rfl rfl ?_
    refine yG.iastF A_h14.1 (p_newCode W) ((yoT_m (r := 3) (by omega)).trans rfl) (by decide) rfl (by omega) (by omega) ⟨by omega, by omega⟩ (by omega) (by omega) (fun h16 T_h16 b_h16 f_h16 y_h16 => ?_)
    have A_h16 := A_h14.putA T_h16 b_h16 f_h16 (by decide)
    have g119_h16 : ys h16 2073 119 = ys h14 2073 119 := (y_h16 2073 119).trans (if_neg (by omega))
    refine yG.load xak rfl (fun _ _ => rfl) (v := yR 2073) rfl rfl ?_
    refine yG.step (pc' := 65) (stk' := [yR 2073, yR 2073]) rfl (fun _ _ => rfl) ?_
    refine yG.getI A_h16.1 (w_codes W) rfl rfl (fun z17 e_z17 i_z17 l_z17 u_z17 => ?_)
    refine yG.num (c := 1) rfl (fun _ _ => rfl) (by decide) ?_
    refine yG.iadd rfl ?_
    refine yG.putI A_h16.1 (w_codes W) (by decide) rfl rfl (.inl rfl) ⟨by omega, by omega⟩ (by omega) (by omega) (fun h18 T_h18 b_h18 f_h18 y_h18 => ?_)
    have A_h18 := A_h16.putF T_h18 b_h18 f_h18 (by decide)
    have g119_h18 : ys h18 2073 119 = z17 + 1 := (y_h18 2073 119).trans (if_pos ⟨rfl, rfl⟩)
    refine yG.ret rfl (fun _ _ => rfl) ?_
    exact yP.void ⟨rfl, A_h18⟩
theorem a_objectOf {hp : xH} (W : yWW G) (d : Nat) (hT : zTy G hp) (p1 p2 : Int) (h1l : (-3) ≤ p1) (h1u : p1 ≤ 23) (h2l : 0 ≤ p2) (h2u : p2 ≤ 23) : yC (xcall 89 xfts xpools xms (d + 3)) 470 [yR 2073, yI (p1), yI (p2)] hp (yQpi hp 0 23) := by
  have A_hp : yAx G [] [] hp hp := yAx.rf hT
  refine yC.of (M := (xt_X13_objectOf, (3, (1, (14, []))))) rfl rfl (N := 54) (yfuel (by decide)) ?_
  show yG 89 xfts (xcall 89 xfts xpools xms (d + 2)) (xpool xp_RX13) [] xt_X13_objectOf (yP 1 (yQpi hp 0 23)) 54 0 [(0, yR 2073), (1, yI (p1)), (2, yI (p2))] [] hp
  refine yG.load xik rfl (fun _ _ => rfl) (v := yI (p1)) rfl rfl ?_
  refine yG.num (c := -1) rfl (fun _ _ => rfl) (by decide) ?_
  refine yG.icmp rfl (t := 9) rfl ⟨by omega, by omega⟩ ⟨by omega, by omega⟩ (fun c1 => ?_) (fun c1 => ?_)
  · have c1 : (p1 : Int) ≠ (-1) := c1
    rcases (show ((-1) : Int) < p1 ∨ (p1 : Int) < (-1) by omega) with dc1 | dc1
    · skip
      refine yG.load xik rfl (fun _ _ => rfl) (v := yI (p1)) rfl rfl ?_
      refine yG.num (c := -2) rfl (fun _ _ => rfl) (by decide) ?_
      refine yG.icmp rfl (t := 25) rfl ⟨by omega, by omega⟩ ⟨by omega, by omega⟩ (fun c2 => ?_) (fun c2 => ?_)
      · have c2 : (p1 : Int) ≠ (-2) := c2
        rcases (show ((-2) : Int) < p1 ∨ (p1 : Int) < (-2) by omega) with dc2 | dc2
        · skip
          refine yG.load xik rfl (fun _ _ => rfl) (v := yI (p1)) rfl rfl ?_
          refine yG.num (c := -3) rfl (fun _ _ => rfl) (by decide) ?_
          refine yG.icmp rfl (t := 41) rfl ⟨by omega, by omega⟩ ⟨by omega, by omega⟩ (fun c3 => ?_) (fun c3 => ?_)
          · have c3 : (p1 : Int) ≠ (-3) := c3
            rcases (show ((-3) : Int) < p1 ∨ (p1 : Int) < (-3) by omega) with dc3 | dc3
            · skip
              refine yG.load xik rfl (fun _ _ => rfl) (v := yI (p1)) rfl rfl ?_
              refine yG.ret rfl (fun _ _ => rfl) ?_
              exact yP.int ⟨by omega, by omega⟩ ⟨⟨p1, rfl, by omega, by omega⟩, rfl⟩
            · exfalso; omega
          · have c3 : (p1 : Int) = (-3) := c3
            exfalso; omega
        · exfalso; omega
      · have c2 : (p1 : Int) = (-2) := c2
        exfalso; omega
    · skip
      refine yG.load xik rfl (fun _ _ => rfl) (v := yI (p1)) rfl rfl ?_
      refine yG.num (c := -2) rfl (fun _ _ => rfl) (by decide) ?_
      refine yG.icmp rfl (t := 25) rfl ⟨by omega, by omega⟩ ⟨by omega, by omega⟩ (fun c4 => ?_) (fun c4 => ?_)
      · have c4 : (p1 : Int) ≠ (-2) := c4
        rcases (show ((-2) : Int) < p1 ∨ (p1 : Int) < (-2) by omega) with dc4 | dc4
        · exfalso; omega
        · skip
          refine yG.load xik rfl (fun _ _ => rfl) (v := yI (p1)) rfl rfl ?_
          refine yG.num (c := -3) rfl (fun _ _ => rfl) (by decide) ?_
          refine yG.icmp rfl (t := 41) rfl ⟨by omega, by omega⟩ ⟨by omega, by omega⟩ (fun c5 => ?_) (fun c5 => ?_)
          · have c5 : (p1 : Int) ≠ (-3) := c5
            exfalso; omega
          · have c5 : (p1 : Int) = (-3) := c5
            refine yG.load xak rfl (fun _ _ => rfl) (v := yR 2073) rfl rfl ?_
            refine yG.num (c := 1) rfl (fun _ _ => rfl) (by decide) ?_
            refine yG.load xik rfl (fun _ _ => rfl) (v := yI (p2)) rfl rfl ?_
            refine yG.num (c := 4) rfl (fun _ _ => rfl) (by decide) ?_
            refine yG.invV (rest := []) A_hp.1 W.m.1 rfl rfl rfl rfl (a_of_1_4 W d A_hp.1 (p2) (by omega) (by omega)) (fun rv hp9 q9 => ?_)
            obtain ⟨⟨z6, rfl, l_z6, u_z6⟩, e9⟩ := q9
            rw [e9]
            show yG _ _ _ _ _ _ _ _ _ _ (yI z6 :: []) _
            refine yG.goto rfl (t := 42) rfl ?_
            refine yG.ret rfl (fun _ _ => rfl) ?_
            exact yP.int ⟨by omega, by omega⟩ ⟨⟨z6, rfl, by omega, by omega⟩, rfl⟩
      · have c4 : (p1 : Int) = (-2) := c4
        refine yG.load xak rfl (fun _ _ => rfl) (v := yR 2073) rfl rfl ?_
        refine yG.num (c := 1) rfl (fun _ _ => rfl) (by decide) ?_
        refine yG.load xik rfl (fun _ _ => rfl) (v := yI (p2)) rfl rfl ?_
        refine yG.num (c := 3) rfl (fun _ _ => rfl) (by decide) ?_
        refine yG.invV (rest := []) A_hp.1 W.m.1 rfl rfl rfl rfl (a_of_1_3 W d A_hp.1 (p2) (by omega) (by omega)) (fun rv hp9 q9 => ?_)
        obtain ⟨⟨z7, rfl, l_z7, u_z7⟩, e9⟩ := q9
        rw [e9]
        show yG _ _ _ _ _ _ _ _ _ _ (yI z7 :: []) _
        refine yG.goto rfl (t := 42) rfl ?_
        refine yG.ret rfl (fun _ _ => rfl) ?_
        exact yP.int ⟨by omega, by omega⟩ ⟨⟨z7, rfl, by omega, by omega⟩, rfl⟩
  · have c1 : (p1 : Int) = (-1) := c1
    refine yG.load xik rfl (fun _ _ => rfl) (v := yI (p2)) rfl rfl ?_
    refine yG.goto rfl (t := 42) rfl ?_
    refine yG.ret rfl (fun _ _ => rfl) ?_
    exact yP.int ⟨by omega, by omega⟩ ⟨⟨p2, rfl, by omega, by omega⟩, rfl⟩
end YMore
