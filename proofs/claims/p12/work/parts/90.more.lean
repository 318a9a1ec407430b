/-! ===== the reference: more plain methods, printed by a program ===== -/
section YMore
variable {G : zW}
theorem a_figures {hp : xH} (W : yWW G) (d : Nat) (hT : zTy G hp) (p1 : Int) (h1l : (-2147483648) ≤ p1) (h1u : p1 ≤ 2147483647) : yC (xcall 89 xfts xpools xms (d + 2)) 401 [yR 2073, yI (p1)] hp (yQi G [0] [] hp (-2147483648) 2147483647) := by
  have A_hp : yAx G [0] [] hp hp := yAx.rf hT
  have H : ∀ m : Nat, (∀ a3 a4 : Int, ∀ hq, yAx G [0] [] hp hq → (-2147483648) ≤ a3 → (-2147483647) ≤ 0 - a3 → 0 ≤ a4 → (-999999999) ≤ 0 - a4 → 0 ≤ p1 → (-1) ≤ 0 - p1 → (-2247483647) ≤ a3 - a4 → 2 * a4 + 1 < (m : Int) → yG 89 xfts (xcall 89 xfts xpools xms (d + 1)) (xpool xp_RX13) [] xt_X13_figures (yP 1 (yQi G [0] [] hp (-2147483648) 2147483647)) (47 * m) 78 [(3, yI (a3)), (4, yI (a4))] [] hq) := by
    intro m
    induction m with
    | zero =>
      intros; exfalso; omega
    | succ m ih =>
      have i_78 := ih
      clear ih
      intro a3 a4 hq A_hq f0 f1 f2 f3 f4 f5 f6 hm
      refine yG.mono (N := 47 * m + 47) ?_ (by omega)
      refine yG.load xik rfl (fun _ _ => rfl) (v := yI (a4)) rfl rfl ?_
      refine yG.ifz rfl (t := 96) rfl ⟨by omega, by omega⟩ (fun c1 => ?_) (fun c1 => ?_)
      · have c1 : (a4 : Int) ≤ 0 := c1
        refine yG.load xik rfl (fun _ _ => rfl) (v := yI (a3)) rfl rfl ?_
        refine yG.ret rfl (fun _ _ => rfl) ?_
        exact yP.int ⟨by omega, by omega⟩ ⟨⟨a3, rfl, by omega, by omega⟩, A_hq⟩
      · have c1 : (a4 : Int) > 0 := c1
        refine yG.iinc rfl (a := a3) rfl (L' := [(3, yI (a3 + 1)), (4, yI (a4))]) rfl ?_
        refine yG.load xik rfl (fun _ _ => rfl) (v := yI (a4)) rfl rfl ?_
        refine yG.num (c := 10) rfl (fun _ _ => rfl) (by decide) ?_
        refine yG.idiv rfl ⟨by omega, by omega⟩ ⟨by omega, by omega⟩ (by omega) (by omega) ?_
        obtain ⟨z2, e_z2⟩ : ∃ z : Int, z = (a4) / (10) := ⟨_, rfl⟩
        rw [← e_z2]
        refine yG.store1 xik (L' := [(4, yI (z2)), (3, yI (a3 + 1))]) rfl (fun _ _ => rfl) rfl rfl ?_
        refine yG.goto rfl (t := 78) rfl ?_
        obtain ⟨z3, e_z3, l_z3, u_z3⟩ := ywI (a3 + 1)
        rw [e_z3]
        exact yG.mono (yG.sub (i_78 (z3) (z2)  hq A_hq  (by omega) (by omega) (by omega) (by omega) (by omega) (by omega) (by omega) (by omega)) (ySub.cons rfl (ySub.cons rfl (ySub.nil)))) (by omega)
  refine yC.of (M := (xt_X13_figures, (5, (1, (14, []))))) rfl rfl (N := 94000000094) (yfuel (by decide)) ?_
  show yG 89 xfts (xcall 89 xfts xpools xms (d + 1)) (xpool xp_RX13) [] xt_X13_figures (yP 1 (yQi G [0] [] hp (-2147483648) 2147483647)) 94000000094 0 [(0, yR 2073), (1, yI (p1))] [] hp
  have i_78 := H 2000000001
  refine yG.load xak rfl (fun _ _ => rfl) (v := yR 2073) rfl rfl ?_
  refine yG.load xik rfl (fun _ _ => rfl) (v := yI (p1)) rfl rfl ?_
  refine yG.i2l rfl ⟨by omega, by omega⟩ ?_
  refine yG.numl (c := 0) rfl (fun _ _ => rfl) (by decide) ?_
  refine yG.numl (c := 1) rfl (fun _ _ => rfl) (by decide) ?_
  refine yG.invS (rest := [yR 2073]) rfl rfl rfl rfl (a_in W d A_hp.1 (p1) (0) (1) (by omega) (by omega) (by omega) (by omega) (by omega) (by omega)) (fun rv hp9 q9 => ?_)
  obtain ⟨⟨z1, rfl, l_z1, u_z1, r_z1⟩, e9⟩ := q9
  rw [e9]
  show yG _ _ _ _ _ _ _ _ _ _ (yI z1 :: [yR 2073]) _
  refine yG.ifz rfl (t := 15) rfl ⟨by omega, by omega⟩ (fun c2 => ?_) (fun c2 => ?_)
  · have c2 : (z1 : Int) = 0 := c2
    refine yG.num (c := 1) rfl (fun _ _ => rfl) (by decide) ?_
    refine yG.putI A_hp.1 (w_thrown W) (by decide) rfl rfl (.inl rfl) ⟨by omega, by omega⟩ (by omega) (by omega) (fun h3 T_h3 b_h3 f_h3 y_h3 => ?_)
    have A_h3 := A_hp.putF T_h3 b_h3 f_h3 (by decide)
    have g0_h3 : ys h3 2073 0 = 1 := (y_h3 2073 0).trans (if_pos ⟨rfl, rfl⟩)
    refine yG.load xak rfl (fun _ _ => rfl) (v := yR 2073) rfl rfl ?_
    refine yG.getI A_h3.1 (w_thrown W) rfl rfl (fun z4 e_z4 i_z4 l_z4 u_z4 => ?_)
    refine yG.ifz rfl (t := 28) rfl ⟨by omega, by omega⟩ (fun c5 => ?_) (fun c5 => ?_)
    · have c5 : (z4 : Int) ≤ 0 := c5
      exfalso; omega
    · have c5 : (z4 : Int) > 0 := c5
      refine yG.num (c := 0) rfl (fun _ _ => rfl) (by decide) ?_
      refine yG.ret rfl (fun _ _ => rfl) ?_
      exact yP.int ⟨by omega, by omega⟩ ⟨⟨0, rfl, by omega, by omega⟩, A_h3⟩
  · have c2 : (z1 : Int) ≠ 0 := c2
    refine yG.num (c := 0) rfl (fun _ _ => rfl) (by decide) ?_
    refine yG.goto rfl (t := 16) rfl ?_
    refine yG.putI A_hp.1 (w_thrown W) (by decide) rfl rfl (.inl rfl) ⟨by omega, by omega⟩ (by omega) (by omega) (fun h6 T_h6 b_h6 f_h6 y_h6 => ?_)
    have A_h6 := A_hp.putF T_h6 b_h6 f_h6 (by decide)
    have g0_h6 : ys h6 2073 0 = 0 := (y_h6 2073 0).trans (if_pos ⟨rfl, rfl⟩)
    refine yG.load xak rfl (fun _ _ => rfl) (v := yR 2073) rfl rfl ?_
    refine yG.getI A_h6.1 (w_thrown W) rfl rfl (fun z7 e_z7 i_z7 l_z7 u_z7 => ?_)
    refine yG.ifz rfl (t := 28) rfl ⟨by omega, by omega⟩ (fun c8 => ?_) (fun c8 => ?_)
    · have c8 : (z7 : Int) ≤ 0 := c8
      refine yG.num (c := 188) rfl (fun _ _ => rfl) (by decide) ?_
      refine yG.load xik rfl (fun _ _ => rfl) (v := yI (p1)) rfl rfl ?_
      refine yG.iadd rfl ?_
      obtain ⟨z9, e_z9⟩ : ∃ z : Int, z = 188 + p1 := ⟨_, rfl⟩
      rw [← e_z9]
      refine yG.store1 xik (L' := [(2, yI (z9)), (0, yR 2073), (1, yI (p1))]) rfl (fun _ _ => rfl) rfl rfl ?_
      refine yG.load xak rfl (fun _ _ => rfl) (v := yR 2073) rfl rfl ?_
      refine yG.getR A_h6.1 (yF_length W.m) rfl rfl ?_
      refine yG.load xik rfl (fun _ _ => rfl) (v := yI (z9)) rfl rfl ?_
      refine yG.iald A_h6.1 (yA_length W.m) rfl (by omega) (by omega) (fun z10 e_z10 i_z10 l_z10 u_z10 => ?_)
      refine yG.ifz rfl (t := 45) rfl ⟨by omega, by omega⟩ (fun c11 => ?_) (fun c11 => ?_)
      · have c11 : (z10 : Int) ≠ 0 := c11
        refine yG.num (c := 9) rfl (fun _ _ => rfl) (by decide) ?_
        refine yG.load xak rfl (fun _ _ => rfl) (v := yR 2073) rfl rfl ?_
        refine yG.getR A_h6.1 (yF_length W.m) rfl rfl ?_
        refine yG.load xik rfl (fun _ _ => rfl) (v := yI (z9)) rfl rfl ?_
        refine yG.iald A_h6.1 (yA_length W.m) rfl (by omega) (by omega) (fun z12 e_z12 i_z12 l_z12 u_z12 => ?_)
        refine yG.num (c := 1) rfl (fun _ _ => rfl) (by decide) ?_
        refine yG.isub rfl ?_
        refine yG.imul rfl ?_
        obtain ⟨z13, e_z13⟩ : ∃ z : Int, z = 9 * (z12 - 1) := ⟨_, rfl⟩
        rw [← e_z13]
        refine yG.store1 xik (L' := [(3, yI (z13)), (2, yI (z9)), (0, yR 2073), (1, yI (p1))]) rfl (fun _ _ => rfl) rfl rfl ?_
        refine yG.load xak rfl (fun _ _ => rfl) (v := yR 2073) rfl rfl ?_
        refine yG.getR A_h6.1 (yF_big W.m) rfl rfl ?_
        refine yG.num (c := 256) rfl (fun _ _ => rfl) (by decide) ?_
        refine yG.load xik rfl (fun _ _ => rfl) (v := yI (z9)) rfl rfl ?_
        refine yG.imul rfl ?_
        refine yG.load xak rfl (fun _ _ => rfl) (v := yR 2073) rfl rfl ?_
        refine yG.getR A_h6.1 (yF_length W.m) rfl rfl ?_
        refine yG.load xik rfl (fun _ _ => rfl) (v := yI (z9)) rfl rfl ?_
        refine yG.iald A_h6.1 (yA_length W.m) rfl (by omega) (by omega) (fun z14 e_z14 i_z14 l_z14 u_z14 => ?_)
        refine yG.iadd rfl ?_
        refine yG.num (c := 1) rfl (fun _ _ => rfl) (by decide) ?_
        refine yG.isub rfl ?_
        refine yG.iald A_h6.1 (yA_big W.m) rfl (by omega) (by omega) (fun z15 e_z15 i_z15 l_z15 u_z15 => ?_)
        refine yG.store1 xik (L' := [(4, yI (z15)), (3, yI (z13)), (2, yI (z9)), (0, yR 2073), (1, yI (p1))]) rfl (fun _ _ => rfl) rfl rfl ?_
        exact yG.mono (yG.sub (i_78 (z13) (z15)  h6 A_h6  (by omega) (by omega) (by omega) (by omega) (by omega) (by omega) (by omega) (by omega)) (ySub.cons rfl (ySub.cons rfl (ySub.nil)))) (by omega)
      · have c11 : (z10 : Int) = 0 := c11
        refine yG.num (c := 1) rfl (fun _ _ => rfl) (by decide) ?_
        refine yG.ret rfl (fun _ _ => rfl) ?_
        exact yP.int ⟨by omega, by omega⟩ ⟨⟨1, rfl, by omega, by omega⟩, A_h6⟩
    · have c8 : (z7 : Int) > 0 := c8
      exfalso; omega
theorem a_add {hp : xH} (W : yWW G) (d : Nat) (hT : zTy G hp) (p1 p2 p3 p4 : Int) (h1l : 0 ≤ p1) (h1u : p1 ≤ 11) (h2l : 0 ≤ p2) (h2u : p2 ≤ 1) (h3l : (-3) ≤ p3) (h3u : p3 ≤ 23) (h4l : 0 ≤ p4) (h4u : p4 ≤ 999999) (q119l : 0 ≤ ys hp 2073 119) (q119u : ys hp 2073 119 ≤ 2499) : yC (xcall 89 xfts xpools xms (d + 1)) 344 [yR 2073, yI (p1), yI (p2), yI (p3), yI (p4)] hp (yQv G [119] [2153] hp) := by
  have A_hp : yAx G [119] [2153] hp hp := yAx.rf hT
  refine yC.of (M := (xt_X13_add, (5, (0, (14, []))))) rfl rfl (N := 150) (yfuel (by decide)) ?_
  show yG 89 xfts (xcall 89 xfts xpools xms d) (xpool xp_RX13) [] xt_X13_add (yP 0 (yQv G [119] [2153] hp)) 150 0 [(0, yR 2073), (1, yI (p1)), (2, yI (p2)), (3, yI (p3)), (4, yI (p4))] [] hp
  obtain ⟨gg119, E_119⟩ : ∃ z : Int, ys hp 2073 119 = z := ⟨_, rfl⟩
  obtain ⟨-, -, r_119l, r_119u⟩ := (w_codes W).int hT
  refine yG.load xak rfl (fun _ _ => rfl) (v := yR 2073) rfl rfl ?_
  refine yG.getR A_hp.1 (r_newCode W) rfl rfl ?_
  refine yG.num (c := 4) rfl (fun _ _ => rfl) (by decide) ?_
  refine yG.load xak rfl (fun _ _ => rfl) (v := yR 2073) rfl rfl ?_
  refine yG.getI A_hp.1 (w_codes W) rfl rfl (fun z1 e_z1 i_z1 l_z1 u_z1 => ?_)
  refine yG.imul rfl ?_
  refine yG.load xik rfl (fun _ _ => rfl) (v := yI (p1)) rfl rfl ?_
  refine yG.iastF A_hp.1 (p_newCode W) ((yoT_m (r := 0) (by omega)).trans rfl) (by decide) rfl (by omega) (by omega) ⟨by omega, by omega⟩ (by omega) (by omega) (fun h2 T_h2 b_h2 f_h2 y_h2 => ?_)
  have A_h2 := A_hp.putA T_h2 b_h2 f_h2 (by decide)
  have g119_h2 : ys h2 2073 119 = ys hp 2073 119 := (y_h2 2073 119).trans (if_neg (by omega))
  refine yG.load xak rfl (fun _ _ => rfl) (v := yR 2073) rfl rfl ?_
  refine yG.getR A_h2.1 (r_newCode W) rfl rfl ?_
  refine yG.num (c := 4) rfl (fun _ _ => rfl) (by decide) ?_
  refine yG.load xak rfl (fun _ _ => rfl) (v := yR 2073) rfl rfl ?_
  refine yG.getI A_h2.1 (w_codes W) rfl rfl (fun z3 e_z3 i_z3 l_z3 u_z3 => ?_)
  refine yG.imul rfl ?_
  refine yG.num (c := 1) rfl (fun _ _ => rfl) (by decide) ?_
  refine yG.iadd rfl ?_
  refine yG.load xik rfl (fun _ _ => rfl) (v := yI (p2)) rfl rfl ?_
  refine yG.ifz rfl (t := 32) rfl ⟨by omega, by omega⟩ (fun c4 => ?_) (fun c4 => ?_)
  · have c4 : (p2 : Int) = 0 := c4
    refine yG.num (c := 0) rfl (fun _ _ => rfl) (by decide) ?_
    refine yG.iastF A_h2.1 (p_newCode W) ((yoT_m (r := 1) (by omega)).trans rfl) (by decide) rfl (by omega) (by omega) ⟨by omega, by omega⟩ (by omega) (by omega) (fun h5 T_h5 b_h5 f_h5 y_h5 => ?_)
    have A_h5 := A_h2.putA T_h5 b_h5 f_h5 (by decide)
    have g119_h5 : ys h5 2073 119 = ys h2 2073 119 := (y_h5 2073 119).trans (if_neg (by omega))
    refine yG.load xak rfl (fun _ _ => rfl) (v := yR 2073) rfl rfl ?_
    refine yG.getR A_h5.1 (r_newCode W) rfl rfl ?_
    refine yG.num (c := 4) rfl (fun _ _ => rfl) (by decide) ?_
    refine yG.load xak rfl (fun _ _ => rfl) (v := yR 2073) rfl rfl ?_
    refine yG.getI A_h5.1 (w_codes W) rfl rfl (fun z6 e_z6 i_z6 l_z6 u_z6 => ?_)
    refine yG.imul rfl ?_
    refine yG.num (c := 2) rfl (fun _ _ => rfl) (by decide) ?_
    refine yG.iadd rfl ?_
    refine yG.load xik rfl (fun _ _ => rfl) (v := yI (p3)) rfl rfl ?_
    refine yG.iastF A_h5.1 (p_newCode W) ((yoT_m (r := 2) (by omega)).trans rfl) (by decide) rfl (by omega) (by omega) ⟨by omega, by omega⟩ (by omega) (by omega) (fun h7 T_h7 b_h7 f_h7 y_h7 => ?_)
    have A_h7 := A_h5.putA T_h7 b_h7 f_h7 (by decide)
    have g119_h7 : ys h7 2073 119 = ys h5 2073 119 := (y_h7 2073 119).trans (if_neg (by omega))
    refine yG.load xak rfl (fun _ _ => rfl) (v := yR 2073) rfl rfl ?_
    refine yG.getR A_h7.1 (r_newCode W) rfl rfl ?_
    refine yG.num (c := 4) rfl (fun _ _ => rfl) (by decide) ?_
    refine yG.load xak rfl (fun _ _ => rfl) (v := yR 2073) rfl rfl ?_
    refine yG.getI A_h7.1 (w_codes W) rfl rfl (fun z8 e_z8 i_z8 l_z8 u_z8 => ?_)
    refine yG.imul rfl ?_
    refine yG.num (c := 3) rfl (fun _ _ => rfl) (by decide) ?_
    refine yG.iadd rfl ?_
    refine yG.load xik rfl (fun _ _ => rfl) (v := yI (p4)) rfl rfl ?_
    refine yG.iastF A_h7.1 (p_newCode W) ((yoT_m (r := 3) (by omega)).trans rfl) (by decide) rfl (by omega) (by omega) ⟨by omega, by omega⟩ (by omega) (by omega) (fun h9 T_h9 b_h9 f_h9 y_h9 => ?_)
    have A_h9 := A_h7.putA T_h9 b_h9 f_h9 (by decide)
    have g119_h9 : ys h9 2073 119 = ys h7 2073 119 := (y_h9 2073 119).trans (if_neg (by omega))
    refine yG.load xak rfl (fun _ _ => rfl) (v := yR 2073) rfl rfl ?_
    refine yG.step (pc' := 65) (stk' := [yR 2073, yR 2073]) rfl (fun _ _ => rfl) ?_
    refine yG.getI A_h9.1 (w_codes W) rfl rfl (fun z10 e_z10 i_z10 l_z10 u_z10 => ?_)
    refine yG.num (c := 1) rfl (fun _ _ => rfl) (by decide) ?_
    refine yG.iadd rfl ?_
    refine yG.putI A_h9.1 (w_codes W) (by decide) rfl rfl (.inl rfl) ⟨by omega, by omega⟩ (by omega) (by omega) (fun h11 T_h11 b_h11 f_h11 y_h11 => ?_)
    have A_h11 := A_h9.putF T_h11 b_h11 f_h11 (by decide)
    have g119_h11 : ys h11 2073 119 = z10 + 1 := (y_h11 2073 119).trans (if_pos ⟨rfl, rfl⟩)
    refine yG.ret rfl (fun _ _ => rfl) ?_
    exact yP.void ⟨rfl, A_h11⟩
  · have c4 : (p2 : Int) ≠ 0 := c4
    refine yG.num (c := 1) rfl (fun _ _ => rfl) (by decide) ?_
    refine yG.goto rfl (t := 33) rfl ?_
    refine yG.iastF A_h2.1 (p_newCode W) ((yoT_m (r := 1) (by omega)).trans rfl) (by decide) rfl (by omega) (by omega) ⟨by omega, by omega⟩ (by omega) (by omega) (fun h12 T_h12 b_h12 f_h12 y_h12 => ?_)
    have A_h12 := A_h2.putA T_h12 b_h12 f_h12 (by decide)
    have g119_h12 : ys h12 2073 119 = ys h2 2073 119 := (y_h12 2073 119).trans (if_neg (by omega))
    refine yG.load xak rfl (fun _ _ => rfl) (v := yR 2073) rfl rfl ?_
    refine yG.getR A_h12.1 (r_newCode W) rfl rfl ?_
    refine yG.num (c := 4) rfl (fun _ _ => rfl) (by decide) ?_
    refine yG.load xak rfl (fun _ _ => rfl) (v := yR 2073) rfl rfl ?_
    refine yG.getI A_h12.1 (w_codes W) rfl rfl (fun z13 e_z13 i_z13 l_z13 u_z13 => ?_)
    refine yG.imul rfl ?_
    refine yG.num (c := 2) rfl (fun _ _ => rfl) (by decide) ?_
    refine yG.iadd rfl ?_
    refine yG.load xik rfl (fun _ _ => rfl) (v := yI (p3)) rfl rfl ?_
    refine yG.iastF A_h12.1 (p_newCode W) ((yoT_m (r := 2) (by omega)).trans rfl) (by decide) rfl (by omega) (by omega) ⟨by omega, by omega⟩ (by omega) (by omega) (fun h14 T_h14 b_h14 f_h14 y_h14 => ?_)
    have A_h14 := A_h12.putA T_h14 b_h14 f_h14 (by decide)
    have g119_h14 : ys h14 2073 119 = ys h12 2073 119 := (y_h14 2073 119).trans (if_neg (by omega))
    refine yG.load xak rfl (fun _ _ => rfl) (v := yR 2073) rfl rfl ?_
    refine yG.getR A_h14.1 (r_newCode W) rfl rfl ?_
    refine yG.num (c := 4) rfl (fun _ _ => rfl) (by decide) ?_
    refine yG.load xak rfl (fun _ _ => rfl) (v := yR 2073) rfl rfl ?_
    refine yG.getI A_h14.1 (w_codes W) rfl rfl (fun z15 e_z15 i_z15 l_z15 u_z15 => ?_)
    refine yG.imul rfl ?_
    refine yG.num (c := 3) rfl (fun _ _ => rfl) (by decide) ?_
    refine yG.iadd rfl ?_
    refine yG.load xik rfl (fun _ _ => rfl) (v := yI (p4)) rfl rfl ?_
    refine yG.iastF A_h14.1 (p_newCode W) ((yoT_m (r := 3) (by omega)).trans rfl) (by decide) rfl (by omega) (by omega) ⟨by omega, by omega⟩ (by omega) (by omega) (fun h16 T_h16 b_h16 f_h16 y_h16 => ?_)
    have A_h16 := A_h14.putA T_h16 b_h16 f_h16 (by decide)
    have g119_h16 : ys h16 2073 119 = ys h14 2073 119 := (y_h16 2073 119).trans (if_neg (by omega))
    refine yG.load xak rfl (fun _ _ => rfl) (v := yR 2073) rfl rfl ?_
    refine yG.step (pc' := 65) (stk' := [yR 2073, yR 2073]) rfl (fun _ _ => rfl) ?_
    refine yG.getI A_h16.1 (w_codes W) rfl rfl (fun z17 e_z17 i_z17 l_z17 u_z17 => ?_)
    refine yG.num (c := 1) rfl (fun _ _ => rfl) (by decide) ?_
    refine yG.iadd rfl ?_
    refine yG.putI A_h16.1 (w_codes W) (by decide) rfl rfl (.inl rfl) ⟨by omega, by omega⟩ (by omega) (by omega) (fun h18 T_h18 b_h18 f_h18 y_h18 => ?_)
    have A_h18 := A_h16.putF T_h18 b_h18 f_h18 (by decide)
    have g119_h18 : ys h18 2073 119 = z17 + 1 := (y_h18 2073 119).trans (if_pos ⟨rfl, rfl⟩)
    refine yG.ret rfl (fun _ _ => rfl) ?_
    exact yP.void ⟨rfl, A_h18⟩
theorem a_mayBe {hp : xH} (W : yWW G) (d : Nat) (hT : zTy G hp) (p1 p2 p3 p4 : Int) (h1l : 0 ≤ p1) (h1u : p1 ≤ 4) (h2l : 0 ≤ p2) (h2u : p2 ≤ 23) (h3l : (-2147483648) ≤ p3) (h3u : p3 ≤ 2147483647) (h4l : (-2147483648) ≤ p4) (h4u : p4 ≤ 2147483647) : yC (xcall 89 xfts xpools xms (d + 3)) 453 [yR 2073, yI (p1), yI (p2), yI (p3), yI (p4)] hp (fun rv hp' => (∃ z, rv = some (yI z) ∧ 0 ≤ z ∧ z ≤ 1 ∧ (z = 1 → 0 ≤ p1 - 1 ∧ 0 ≤ p3 ∧ 0 ≤ 0 - p3 + 9)) ∧ hp' = hp) := by
  have A_hp : yAx G [] [] hp hp := yAx.rf hT
  refine yC.of (M := (xt_X13_mayBe, (5, (4, (14, []))))) rfl rfl (N := 84) (yfuel (by decide)) ?_
  show yG 89 xfts (xcall 89 xfts xpools xms (d + 2)) (xpool xp_RX13) [] xt_X13_mayBe (yP 4 (fun rv hp' => (∃ z, rv = some (yI z) ∧ 0 ≤ z ∧ z ≤ 1 ∧ (z = 1 → 0 ≤ p1 - 1 ∧ 0 ≤ p3 ∧ 0 ≤ 0 - p3 + 9)) ∧ hp' = hp)) 84 0 [(0, yR 2073), (1, yI (p1)), (2, yI (p2)), (3, yI (p3)), (4, yI (p4))] [] hp
  refine yG.load xik rfl (fun _ _ => rfl) (v := yI (p1)) rfl rfl ?_
  refine yG.num (c := 1) rfl (fun _ _ => rfl) (by decide) ?_
  refine yG.icmp rfl (t := 46) rfl ⟨by omega, by omega⟩ ⟨by omega, by omega⟩ (fun c1 => ?_) (fun c1 => ?_)
  · have c1 : (p1 : Int) ≠ 1 := c1
    refine yG.load xik rfl (fun _ _ => rfl) (v := yI (p1)) rfl rfl ?_
    refine yG.num (c := 2) rfl (fun _ _ => rfl) (by decide) ?_
    refine yG.icmp rfl (t := 126) rfl ⟨by omega, by omega⟩ ⟨by omega, by omega⟩ (fun c2 => ?_) (fun c2 => ?_)
    · have c2 : (p1 : Int) ≠ 2 := c2
      refine yG.load xik rfl (fun _ _ => rfl) (v := yI (p1)) rfl rfl ?_
      refine yG.num (c := 4) rfl (fun _ _ => rfl) (by decide) ?_
      refine yG.icmp rfl (t := 154) rfl ⟨by omega, by omega⟩ ⟨by omega, by omega⟩ (fun c3 => ?_) (fun c3 => ?_)
      · have c3 : (p1 : Int) ≠ 4 := c3
        refine yG.load xik rfl (fun _ _ => rfl) (v := yI (p1)) rfl rfl ?_
        refine yG.ifz rfl (t := 160) rfl ⟨by omega, by omega⟩ (fun c4 => ?_) (fun c4 => ?_)
        · have c4 : (p1 : Int) ≠ 0 := c4
          refine yG.load xik rfl (fun _ _ => rfl) (v := yI (p3)) rfl rfl ?_
          rcases (show (p3 < (0 : Int) ∨ (8 : Int) < p3) ∨ p3 = (0 : Int) ∨ p3 = (1 : Int) ∨ p3 = (2 : Int) ∨ p3 = (3 : Int) ∨ p3 = (4 : Int) ∨ p3 = (5 : Int) ∨ p3 = (6 : Int) ∨ p3 = (7 : Int) ∨ p3 = (8 : Int) by omega) with c5 | c5 | c5 | c5 | c5 | c5 | c5 | c5 | c5 | c5
          · skip
            refine yG.tswD (t := 324) rfl ⟨by omega, by omega⟩ c5 rfl ?_
            refine yG.load xik rfl (fun _ _ => rfl) (v := yI (p3)) rfl rfl ?_
            refine yG.num (c := 9) rfl (fun _ _ => rfl) (by decide) ?_
            refine yG.icmp rfl (t := 347) rfl ⟨by omega, by omega⟩ ⟨by omega, by omega⟩ (fun c6 => ?_) (fun c6 => ?_)
            · have c6 : (p3 : Int) ≠ 9 := c6
              refine yG.num (c := 0) rfl (fun _ _ => rfl) (by decide) ?_
              refine yG.ret rfl (fun _ _ => rfl) ?_
              exact yP.bool (by omega) ⟨⟨0, rfl, by omega, by omega, by omega⟩, rfl⟩
            · have c6 : (p3 : Int) = 9 := c6
              refine yG.load xik rfl (fun _ _ => rfl) (v := yI (p4)) rfl rfl ?_
              refine yG.i2l rfl ⟨by omega, by omega⟩ ?_
              refine yG.numl (c := 0) rfl (fun _ _ => rfl) (by decide) ?_
              refine yG.numl (c := 9) rfl (fun _ _ => rfl) (by decide) ?_
              refine yG.invS (rest := []) rfl rfl rfl rfl (a_in W (d + 1) A_hp.1 (p4) (0) (9) (by omega) (by omega) (by omega) (by omega) (by omega) (by omega)) (fun rv hp9 q9 => ?_)
              obtain ⟨⟨z7, rfl, l_z7, u_z7, r_z7⟩, e9⟩ := q9
              rw [e9]
              show yG _ _ _ _ _ _ _ _ _ _ (yI z7 :: []) _
              refine yG.ifz rfl (t := 347) rfl ⟨by omega, by omega⟩ (fun c8 => ?_) (fun c8 => ?_)
              · have c8 : (z7 : Int) = 0 := c8
                refine yG.num (c := 0) rfl (fun _ _ => rfl) (by decide) ?_
                refine yG.ret rfl (fun _ _ => rfl) ?_
                exact yP.bool (by omega) ⟨⟨0, rfl, by omega, by omega, by omega⟩, rfl⟩
              · have c8 : (z7 : Int) ≠ 0 := c8
                refine yG.num (c := 1) rfl (fun _ _ => rfl) (by decide) ?_
                refine yG.goto rfl (t := 348) rfl ?_
                refine yG.ret rfl (fun _ _ => rfl) ?_
                exact yP.bool (by omega) ⟨⟨1, rfl, by omega, by omega, by omega⟩, rfl⟩
          · skip
            refine yG.tswC (i := 0) (t := 212) rfl ⟨by omega, by omega⟩ (by omega) (by omega) rfl rfl ?_
            refine yG.load xik rfl (fun _ _ => rfl) (v := yI (p4)) rfl rfl ?_
            refine yG.i2l rfl ⟨by omega, by omega⟩ ?_
            refine yG.numl (c := 0) rfl (fun _ _ => rfl) (by decide) ?_
            refine yG.numl (c := 1) rfl (fun _ _ => rfl) (by decide) ?_
            refine yG.invS (rest := []) rfl rfl rfl rfl (a_in W (d + 1) A_hp.1 (p4) (0) (1) (by omega) (by omega) (by omega) (by omega) (by omega) (by omega)) (fun rv hp9 q9 => ?_)
            obtain ⟨⟨z9, rfl, l_z9, u_z9, r_z9⟩, e9⟩ := q9
            rw [e9]
            show yG _ _ _ _ _ _ _ _ _ _ (yI z9 :: []) _
            refine yG.ret rfl (fun _ _ => rfl) ?_
            exact yP.bool (by omega) ⟨⟨z9, rfl, by omega, by omega, by omega⟩, rfl⟩
          · skip
            refine yG.tswC (i := 1) (t := 221) rfl ⟨by omega, by omega⟩ (by omega) (by omega) rfl rfl ?_
            refine yG.load xik rfl (fun _ _ => rfl) (v := yI (p4)) rfl rfl ?_
            refine yG.i2l rfl ⟨by omega, by omega⟩ ?_
            refine yG.numl (c := 0) rfl (fun _ _ => rfl) (by decide) ?_
            refine yG.numl (c := 9999) rfl (fun _ _ => rfl) (by decide) ?_
            refine yG.invS (rest := []) rfl rfl rfl rfl (a_in W (d + 1) A_hp.1 (p4) (0) (9999) (by omega) (by omega) (by omega) (by omega) (by omega) (by omega)) (fun rv hp9 q9 => ?_)
            obtain ⟨⟨z10, rfl, l_z10, u_z10, r_z10⟩, e9⟩ := q9
            rw [e9]
            show yG _ _ _ _ _ _ _ _ _ _ (yI z10 :: []) _
            refine yG.ret rfl (fun _ _ => rfl) ?_
            exact yP.bool (by omega) ⟨⟨z10, rfl, by omega, by omega, by omega⟩, rfl⟩
          · skip
            refine yG.tswC (i := 2) (t := 232) rfl ⟨by omega, by omega⟩ (by omega) (by omega) rfl rfl ?_
            refine yG.load xik rfl (fun _ _ => rfl) (v := yI (p4)) rfl rfl ?_
            refine yG.i2l rfl ⟨by omega, by omega⟩ ?_
            refine yG.numl (c := 1) rfl (fun _ _ => rfl) (by decide) ?_
            refine yG.numl (c := 99) rfl (fun _ _ => rfl) (by decide) ?_
            refine yG.invS (rest := []) rfl rfl rfl rfl (a_in W (d + 1) A_hp.1 (p4) (1) (99) (by omega) (by omega) (by omega) (by omega) (by omega) (by omega)) (fun rv hp9 q9 => ?_)
            obtain ⟨⟨z11, rfl, l_z11, u_z11, r_z11⟩, e9⟩ := q9
            rw [e9]
            show yG _ _ _ _ _ _ _ _ _ _ (yI z11 :: []) _
            refine yG.ret rfl (fun _ _ => rfl) ?_
            exact yP.bool (by omega) ⟨⟨z11, rfl, by omega, by omega, by omega⟩, rfl⟩
          · skip
            refine yG.tswC (i := 3) (t := 243) rfl ⟨by omega, by omega⟩ (by omega) (by omega) rfl rfl ?_
            refine yG.load xik rfl (fun _ _ => rfl) (v := yI (p4)) rfl rfl ?_
            refine yG.i2l rfl ⟨by omega, by omega⟩ ?_
            refine yG.numl (c := 0) rfl (fun _ _ => rfl) (by decide) ?_
            refine yG.numl (c := 299) rfl (fun _ _ => rfl) (by decide) ?_
            refine yG.invS (rest := []) rfl rfl rfl rfl (a_in W (d + 1) A_hp.1 (p4) (0) (299) (by omega) (by omega) (by omega) (by omega) (by omega) (by omega)) (fun rv hp9 q9 => ?_)
            obtain ⟨⟨z12, rfl, l_z12, u_z12, r_z12⟩, e9⟩ := q9
            rw [e9]
            show yG _ _ _ _ _ _ _ _ _ _ (yI z12 :: []) _
            refine yG.ret rfl (fun _ _ => rfl) ?_
            exact yP.bool (by omega) ⟨⟨z12, rfl, by omega, by omega, by omega⟩, rfl⟩
          · skip
            refine yG.tswC (i := 4) (t := 254) rfl ⟨by omega, by omega⟩ (by omega) (by omega) rfl rfl ?_
            refine yG.load xik rfl (fun _ _ => rfl) (v := yI (p4)) rfl rfl ?_
            refine yG.i2l rfl ⟨by omega, by omega⟩ ?_
            refine yG.numl (c := 0) rfl (fun _ _ => rfl) (by decide) ?_
            refine yG.load xak rfl (fun _ _ => rfl) (v := yR 2073) rfl rfl ?_
            refine yG.num (c := 3) rfl (fun _ _ => rfl) (by decide) ?_
            refine yG.load xik rfl (fun _ _ => rfl) (v := yI (p2)) rfl rfl ?_
            refine yG.num (c := 5) rfl (fun _ _ => rfl) (by decide) ?_
            refine yG.invV (rest := [yJ (0), yJ (p4)]) A_hp.1 W.m.1 rfl rfl rfl rfl (a_of_3_5 W d A_hp.1 (p2) (by omega) (by omega)) (fun rv hp9 q9 => ?_)
            obtain ⟨⟨z13, rfl, l_z13, u_z13⟩, e9⟩ := q9
            rw [e9]
            show yG _ _ _ _ _ _ _ _ _ _ (yI z13 :: [yJ (0), yJ (p4)]) _
            refine yG.i2l rfl ⟨by omega, by omega⟩ ?_
            refine yG.invS (rest := []) rfl rfl rfl rfl (a_in W (d + 1) A_hp.1 (p4) (0) (z13) (by omega) (by omega) (by omega) (by omega) (by omega) (by omega)) (fun rv hp9 q9 => ?_)
            obtain ⟨⟨z14, rfl, l_z14, u_z14, r_z14⟩, e9⟩ := q9
            rw [e9]
            show yG _ _ _ _ _ _ _ _ _ _ (yI z14 :: []) _
            refine yG.ret rfl (fun _ _ => rfl) ?_
            exact yP.bool (by omega) ⟨⟨z14, rfl, by omega, by omega, by omega⟩, rfl⟩
          · skip
            refine yG.tswC (i := 5) (t := 270) rfl ⟨by omega, by omega⟩ (by omega) (by omega) rfl rfl ?_
            refine yG.load xik rfl (fun _ _ => rfl) (v := yI (p4)) rfl rfl ?_
            refine yG.i2l rfl ⟨by omega, by omega⟩ ?_
            refine yG.load xak rfl (fun _ _ => rfl) (v := yR 2073) rfl rfl ?_
            refine yG.num (c := 3) rfl (fun _ _ => rfl) (by decide) ?_
            refine yG.load xik rfl (fun _ _ => rfl) (v := yI (p2)) rfl rfl ?_
            refine yG.num (c := 4) rfl (fun _ _ => rfl) (by decide) ?_
            refine yG.invV (rest := [yJ (p4)]) A_hp.1 W.m.1 rfl rfl rfl rfl (a_of_3_4 W d A_hp.1 (p2) (by omega) (by omega)) (fun rv hp9 q9 => ?_)
            obtain ⟨⟨z15, rfl, l_z15, u_z15⟩, e9⟩ := q9
            rw [e9]
            show yG _ _ _ _ _ _ _ _ _ _ (yI z15 :: [yJ (p4)]) _
            refine yG.i2l rfl ⟨by omega, by omega⟩ ?_
            refine yG.numl (c := 9999) rfl (fun _ _ => rfl) (by decide) ?_
            refine yG.invS (rest := []) rfl rfl rfl rfl (a_in W (d + 1) A_hp.1 (p4) (z15) (9999) (by omega) (by omega) (by omega) (by omega) (by omega) (by omega)) (fun rv hp9 q9 => ?_)
            obtain ⟨⟨z16, rfl, l_z16, u_z16, r_z16⟩, e9⟩ := q9
            rw [e9]
            show yG _ _ _ _ _ _ _ _ _ _ (yI z16 :: []) _
            refine yG.ret rfl (fun _ _ => rfl) ?_
            exact yP.bool (by omega) ⟨⟨z16, rfl, by omega, by omega, by omega⟩, rfl⟩
          · skip
            refine yG.tswC (i := 6) (t := 288) rfl ⟨by omega, by omega⟩ (by omega) (by omega) rfl rfl ?_
            refine yG.load xik rfl (fun _ _ => rfl) (v := yI (p4)) rfl rfl ?_
            refine yG.i2l rfl ⟨by omega, by omega⟩ ?_
            refine yG.numl (c := 0) rfl (fun _ _ => rfl) (by decide) ?_
            refine yG.load xak rfl (fun _ _ => rfl) (v := yR 2073) rfl rfl ?_
            refine yG.num (c := 3) rfl (fun _ _ => rfl) (by decide) ?_
            refine yG.load xik rfl (fun _ _ => rfl) (v := yI (p2)) rfl rfl ?_
            refine yG.num (c := 8) rfl (fun _ _ => rfl) (by decide) ?_
            refine yG.invV (rest := [yJ (0), yJ (p4)]) A_hp.1 W.m.1 rfl rfl rfl rfl (a_of_3_8 W d A_hp.1 (p2) (by omega) (by omega)) (fun rv hp9 q9 => ?_)
            obtain ⟨⟨z17, rfl, l_z17, u_z17⟩, e9⟩ := q9
            rw [e9]
            show yG _ _ _ _ _ _ _ _ _ _ (yI z17 :: [yJ (0), yJ (p4)]) _
            refine yG.i2l rfl ⟨by omega, by omega⟩ ?_
            refine yG.invS (rest := []) rfl rfl rfl rfl (a_in W (d + 1) A_hp.1 (p4) (0) (z17) (by omega) (by omega) (by omega) (by omega) (by omega) (by omega)) (fun rv hp9 q9 => ?_)
            obtain ⟨⟨z18, rfl, l_z18, u_z18, r_z18⟩, e9⟩ := q9
            rw [e9]
            show yG _ _ _ _ _ _ _ _ _ _ (yI z18 :: []) _
            refine yG.ret rfl (fun _ _ => rfl) ?_
            exact yP.bool (by omega) ⟨⟨z18, rfl, by omega, by omega, by omega⟩, rfl⟩
          · skip
            refine yG.tswC (i := 7) (t := 221) rfl ⟨by omega, by omega⟩ (by omega) (by omega) rfl rfl ?_
            refine yG.load xik rfl (fun _ _ => rfl) (v := yI (p4)) rfl rfl ?_
            refine yG.i2l rfl ⟨by omega, by omega⟩ ?_
            refine yG.numl (c := 0) rfl (fun _ _ => rfl) (by decide) ?_
            refine yG.numl (c := 9999) rfl (fun _ _ => rfl) (by decide) ?_
            refine yG.invS (rest := []) rfl rfl rfl rfl (a_in W (d + 1) A_hp.1 (p4) (0) (9999) (by omega) (by omega) (by omega) (by omega) (by omega) (by omega)) (fun rv hp9 q9 => ?_)
            obtain ⟨⟨z19, rfl, l_z19, u_z19, r_z19⟩, e9⟩ := q9
            rw [e9]
            show yG _ _ _ _ _ _ _ _ _ _ (yI z19 :: []) _
            refine yG.ret rfl (fun _ _ => rfl) ?_
            exact yP.bool (by omega) ⟨⟨z19, rfl, by omega, by omega, by omega⟩, rfl⟩
          · skip
            refine yG.tswC (i := 8) (t := 305) rfl ⟨by omega, by omega⟩ (by omega) (by omega) rfl rfl ?_
            refine yG.load xik rfl (fun _ _ => rfl) (v := yI (p4)) rfl rfl ?_
            refine yG.i2l rfl ⟨by omega, by omega⟩ ?_
            refine yG.load xak rfl (fun _ _ => rfl) (v := yR 2073) rfl rfl ?_
            refine yG.num (c := 3) rfl (fun _ _ => rfl) (by decide) ?_
            refine yG.load xik rfl (fun _ _ => rfl) (v := yI (p2)) rfl rfl ?_
            refine yG.num (c := 6) rfl (fun _ _ => rfl) (by decide) ?_
            refine yG.invV (rest := [yJ (p4)]) A_hp.1 W.m.1 rfl rfl rfl rfl (a_of_3_6 W d A_hp.1 (p2) (by omega) (by omega)) (fun rv hp9 q9 => ?_)
            obtain ⟨⟨z20, rfl, l_z20, u_z20⟩, e9⟩ := q9
            rw [e9]
            show yG _ _ _ _ _ _ _ _ _ _ (yI z20 :: [yJ (p4)]) _
            refine yG.i2l rfl ⟨by omega, by omega⟩ ?_
            refine yG.numl (c := 999) rfl (fun _ _ => rfl) (by decide) ?_
            refine yG.invS (rest := []) rfl rfl rfl rfl (a_in W (d + 1) A_hp.1 (p4) (z20) (999) (by omega) (by omega) (by omega) (by omega) (by omega) (by omega)) (fun rv hp9 q9 => ?_)
            obtain ⟨⟨z21, rfl, l_z21, u_z21, r_z21⟩, e9⟩ := q9
            rw [e9]
            show yG _ _ _ _ _ _ _ _ _ _ (yI z21 :: []) _
            refine yG.ret rfl (fun _ _ => rfl) ?_
            exact yP.bool (by omega) ⟨⟨z21, rfl, by omega, by omega, by omega⟩, rfl⟩
        · have c4 : (p1 : Int) = 0 := c4
          refine yG.num (c := 0) rfl (fun _ _ => rfl) (by decide) ?_
          refine yG.ret rfl (fun _ _ => rfl) ?_
          exact yP.bool (by omega) ⟨⟨0, rfl, by omega, by omega, by omega⟩, rfl⟩
      · have c3 : (p1 : Int) = 4 := c3
        refine yG.load xik rfl (fun _ _ => rfl) (v := yI (p3)) rfl rfl ?_
        refine yG.ifz rfl (t := 152) rfl ⟨by omega, by omega⟩ (fun c22 => ?_) (fun c22 => ?_)
        · have c22 : (p3 : Int) ≠ 0 := c22
          refine yG.num (c := 0) rfl (fun _ _ => rfl) (by decide) ?_
          refine yG.ret rfl (fun _ _ => rfl) ?_
          exact yP.bool (by omega) ⟨⟨0, rfl, by omega, by omega, by omega⟩, rfl⟩
        · have c22 : (p3 : Int) = 0 := c22
          refine yG.load xik rfl (fun _ _ => rfl) (v := yI (p4)) rfl rfl ?_
          refine yG.i2l rfl ⟨by omega, by omega⟩ ?_
          refine yG.numl (c := 0) rfl (fun _ _ => rfl) (by decide) ?_
          refine yG.numl (c := 9999) rfl (fun _ _ => rfl) (by decide) ?_
          refine yG.invS (rest := []) rfl rfl rfl rfl (a_in W (d + 1) A_hp.1 (p4) (0) (9999) (by omega) (by omega) (by omega) (by omega) (by omega) (by omega)) (fun rv hp9 q9 => ?_)
          obtain ⟨⟨z23, rfl, l_z23, u_z23, r_z23⟩, e9⟩ := q9
          rw [e9]
          show yG _ _ _ _ _ _ _ _ _ _ (yI z23 :: []) _
          refine yG.ifz rfl (t := 152) rfl ⟨by omega, by omega⟩ (fun c24 => ?_) (fun c24 => ?_)
          · have c24 : (z23 : Int) = 0 := c24
            refine yG.num (c := 0) rfl (fun _ _ => rfl) (by decide) ?_
            refine yG.ret rfl (fun _ _ => rfl) ?_
            exact yP.bool (by omega) ⟨⟨0, rfl, by omega, by omega, by omega⟩, rfl⟩
          · have c24 : (z23 : Int) ≠ 0 := c24
            refine yG.num (c := 1) rfl (fun _ _ => rfl) (by decide) ?_
            refine yG.goto rfl (t := 153) rfl ?_
            refine yG.ret rfl (fun _ _ => rfl) ?_
            exact yP.bool (by omega) ⟨⟨1, rfl, by omega, by omega, by omega⟩, rfl⟩
    · have c2 : (p1 : Int) = 2 := c2
      refine yG.load xik rfl (fun _ _ => rfl) (v := yI (p3)) rfl rfl ?_
      refine yG.ifz rfl (t := 66) rfl ⟨by omega, by omega⟩ (fun c25 => ?_) (fun c25 => ?_)
      · have c25 : (p3 : Int) ≠ 0 := c25
        refine yG.load xik rfl (fun _ _ => rfl) (v := yI (p3)) rfl rfl ?_
        refine yG.num (c := 1) rfl (fun _ _ => rfl) (by decide) ?_
        refine yG.icmp rfl (t := 84) rfl ⟨by omega, by omega⟩ ⟨by omega, by omega⟩ (fun c26 => ?_) (fun c26 => ?_)
        · have c26 : (p3 : Int) ≠ 1 := c26
          refine yG.load xik rfl (fun _ _ => rfl) (v := yI (p3)) rfl rfl ?_
          refine yG.num (c := 2) rfl (fun _ _ => rfl) (by decide) ?_
          refine yG.icmp rfl (t := 102) rfl ⟨by omega, by omega⟩ ⟨by omega, by omega⟩ (fun c27 => ?_) (fun c27 => ?_)
          · have c27 : (p3 : Int) ≠ 2 := c27
            refine yG.load xik rfl (fun _ _ => rfl) (v := yI (p3)) rfl rfl ?_
            refine yG.num (c := 3) rfl (fun _ _ => rfl) (by decide) ?_
            refine yG.icmp rfl (t := 124) rfl ⟨by omega, by omega⟩ ⟨by omega, by omega⟩ (fun c28 => ?_) (fun c28 => ?_)
            · have c28 : (p3 : Int) ≠ 3 := c28
              refine yG.num (c := 0) rfl (fun _ _ => rfl) (by decide) ?_
              refine yG.ret rfl (fun _ _ => rfl) ?_
              exact yP.bool (by omega) ⟨⟨0, rfl, by omega, by omega, by omega⟩, rfl⟩
            · have c28 : (p3 : Int) = 3 := c28
              refine yG.load xik rfl (fun _ _ => rfl) (v := yI (p4)) rfl rfl ?_
              refine yG.i2l rfl ⟨by omega, by omega⟩ ?_
              refine yG.numl (c := 0) rfl (fun _ _ => rfl) (by decide) ?_
              refine yG.numl (c := 9999) rfl (fun _ _ => rfl) (by decide) ?_
              refine yG.invS (rest := []) rfl rfl rfl rfl (a_in W (d + 1) A_hp.1 (p4) (0) (9999) (by omega) (by omega) (by omega) (by omega) (by omega) (by omega)) (fun rv hp9 q9 => ?_)
              obtain ⟨⟨z29, rfl, l_z29, u_z29, r_z29⟩, e9⟩ := q9
              rw [e9]
              show yG _ _ _ _ _ _ _ _ _ _ (yI z29 :: []) _
              refine yG.ifz rfl (t := 124) rfl ⟨by omega, by omega⟩ (fun c30 => ?_) (fun c30 => ?_)
              · have c30 : (z29 : Int) = 0 := c30
                refine yG.num (c := 0) rfl (fun _ _ => rfl) (by decide) ?_
                refine yG.ret rfl (fun _ _ => rfl) ?_
                exact yP.bool (by omega) ⟨⟨0, rfl, by omega, by omega, by omega⟩, rfl⟩
              · have c30 : (z29 : Int) ≠ 0 := c30
                refine yG.num (c := 1) rfl (fun _ _ => rfl) (by decide) ?_
                refine yG.goto rfl (t := 125) rfl ?_
                refine yG.ret rfl (fun _ _ => rfl) ?_
                exact yP.bool (by omega) ⟨⟨1, rfl, by omega, by omega, by omega⟩, rfl⟩
          · have c27 : (p3 : Int) = 2 := c27
            refine yG.load xik rfl (fun _ _ => rfl) (v := yI (p4)) rfl rfl ?_
            refine yG.i2l rfl ⟨by omega, by omega⟩ ?_
            refine yG.numl (c := 1) rfl (fun _ _ => rfl) (by decide) ?_
            refine yG.numl (c := 299) rfl (fun _ _ => rfl) (by decide) ?_
            refine yG.invS (rest := []) rfl rfl rfl rfl (a_in W (d + 1) A_hp.1 (p4) (1) (299) (by omega) (by omega) (by omega) (by omega) (by omega) (by omega)) (fun rv hp9 q9 => ?_)
            obtain ⟨⟨z31, rfl, l_z31, u_z31, r_z31⟩, e9⟩ := q9
            rw [e9]
            show yG _ _ _ _ _ _ _ _ _ _ (yI z31 :: []) _
            refine yG.goto rfl (t := 125) rfl ?_
            refine yG.ret rfl (fun _ _ => rfl) ?_
            exact yP.bool (by omega) ⟨⟨z31, rfl, by omega, by omega, by omega⟩, rfl⟩
        · have c26 : (p3 : Int) = 1 := c26
          refine yG.load xik rfl (fun _ _ => rfl) (v := yI (p4)) rfl rfl ?_
          refine yG.i2l rfl ⟨by omega, by omega⟩ ?_
          refine yG.numl (c := 1) rfl (fun _ _ => rfl) (by decide) ?_
          refine yG.numl (c := 99) rfl (fun _ _ => rfl) (by decide) ?_
          refine yG.invS (rest := []) rfl rfl rfl rfl (a_in W (d + 1) A_hp.1 (p4) (1) (99) (by omega) (by omega) (by omega) (by omega) (by omega) (by omega)) (fun rv hp9 q9 => ?_)
          obtain ⟨⟨z32, rfl, l_z32, u_z32, r_z32⟩, e9⟩ := q9
          rw [e9]
          show yG _ _ _ _ _ _ _ _ _ _ (yI z32 :: []) _
          refine yG.goto rfl (t := 125) rfl ?_
          refine yG.ret rfl (fun _ _ => rfl) ?_
          exact yP.bool (by omega) ⟨⟨z32, rfl, by omega, by omega, by omega⟩, rfl⟩
      · have c25 : (p3 : Int) = 0 := c25
        refine yG.load xik rfl (fun _ _ => rfl) (v := yI (p4)) rfl rfl ?_
        refine yG.i2l rfl ⟨by omega, by omega⟩ ?_
        refine yG.numl (c := 0) rfl (fun _ _ => rfl) (by decide) ?_
        refine yG.numl (c := 1) rfl (fun _ _ => rfl) (by decide) ?_
        refine yG.invS (rest := []) rfl rfl rfl rfl (a_in W (d + 1) A_hp.1 (p4) (0) (1) (by omega) (by omega) (by omega) (by omega) (by omega) (by omega)) (fun rv hp9 q9 => ?_)
        obtain ⟨⟨z33, rfl, l_z33, u_z33, r_z33⟩, e9⟩ := q9
        rw [e9]
        show yG _ _ _ _ _ _ _ _ _ _ (yI z33 :: []) _
        refine yG.goto rfl (t := 125) rfl ?_
        refine yG.ret rfl (fun _ _ => rfl) ?_
        exact yP.bool (by omega) ⟨⟨z33, rfl, by omega, by omega, by omega⟩, rfl⟩
  · have c1 : (p1 : Int) = 1 := c1
    refine yG.load xik rfl (fun _ _ => rfl) (v := yI (p3)) rfl rfl ?_
    refine yG.ifz rfl (t := 22) rfl ⟨by omega, by omega⟩ (fun c34 => ?_) (fun c34 => ?_)
    · have c34 : (p3 : Int) ≠ 0 := c34
      refine yG.load xik rfl (fun _ _ => rfl) (v := yI (p3)) rfl rfl ?_
      refine yG.num (c := 1) rfl (fun _ _ => rfl) (by decide) ?_
      refine yG.icmp rfl (t := 44) rfl ⟨by omega, by omega⟩ ⟨by omega, by omega⟩ (fun c35 => ?_) (fun c35 => ?_)
      · have c35 : (p3 : Int) ≠ 1 := c35
        refine yG.num (c := 0) rfl (fun _ _ => rfl) (by decide) ?_
        refine yG.ret rfl (fun _ _ => rfl) ?_
        exact yP.bool (by omega) ⟨⟨0, rfl, by omega, by omega, by omega⟩, rfl⟩
      · have c35 : (p3 : Int) = 1 := c35
        refine yG.load xik rfl (fun _ _ => rfl) (v := yI (p4)) rfl rfl ?_
        refine yG.i2l rfl ⟨by omega, by omega⟩ ?_
        refine yG.numl (c := 1) rfl (fun _ _ => rfl) (by decide) ?_
        refine yG.numl (c := 999999) rfl (fun _ _ => rfl) (by decide) ?_
        refine yG.invS (rest := []) rfl rfl rfl rfl (a_in W (d + 1) A_hp.1 (p4) (1) (999999) (by omega) (by omega) (by omega) (by omega) (by omega) (by omega)) (fun rv hp9 q9 => ?_)
        obtain ⟨⟨z36, rfl, l_z36, u_z36, r_z36⟩, e9⟩ := q9
        rw [e9]
        show yG _ _ _ _ _ _ _ _ _ _ (yI z36 :: []) _
        refine yG.ifz rfl (t := 44) rfl ⟨by omega, by omega⟩ (fun c37 => ?_) (fun c37 => ?_)
        · have c37 : (z36 : Int) = 0 := c37
          refine yG.num (c := 0) rfl (fun _ _ => rfl) (by decide) ?_
          refine yG.ret rfl (fun _ _ => rfl) ?_
          exact yP.bool (by omega) ⟨⟨0, rfl, by omega, by omega, by omega⟩, rfl⟩
        · have c37 : (z36 : Int) ≠ 0 := c37
          refine yG.num (c := 1) rfl (fun _ _ => rfl) (by decide) ?_
          refine yG.goto rfl (t := 45) rfl ?_
          refine yG.ret rfl (fun _ _ => rfl) ?_
          exact yP.bool (by omega) ⟨⟨1, rfl, by omega, by omega, by omega⟩, rfl⟩
    · have c34 : (p3 : Int) = 0 := c34
      refine yG.load xik rfl (fun _ _ => rfl) (v := yI (p4)) rfl rfl ?_
      refine yG.i2l rfl ⟨by omega, by omega⟩ ?_
      refine yG.numl (c := 0) rfl (fun _ _ => rfl) (by decide) ?_
      refine yG.numl (c := 2) rfl (fun _ _ => rfl) (by decide) ?_
      refine yG.invS (rest := []) rfl rfl rfl rfl (a_in W (d + 1) A_hp.1 (p4) (0) (2) (by omega) (by omega) (by omega) (by omega) (by omega) (by omega)) (fun rv hp9 q9 => ?_)
      obtain ⟨⟨z38, rfl, l_z38, u_z38, r_z38⟩, e9⟩ := q9
      rw [e9]
      show yG _ _ _ _ _ _ _ _ _ _ (yI z38 :: []) _
      refine yG.goto rfl (t := 45) rfl ?_
      refine yG.ret rfl (fun _ _ => rfl) ?_
      exact yP.bool (by omega) ⟨⟨z38, rfl, by omega, by omega, by omega⟩, rfl⟩
theorem a_objectOf {hp : xH} (W : yWW G) (d : Nat) (hT : zTy G hp) (p1 p2 : Int) (h1l : (-3) ≤ p1) (h1u : p1 ≤ 23) (h2l : 0 ≤ p2) (h2u : p2 ≤ 23) : yC (xcall 89 xfts xpools xms (d + 3)) 470 [yR 2073, yI (p1), yI (p2)] hp (yQpi hp 0 23) := by
  have A_hp : yAx G [] [] hp hp := yAx.rf hT
  refine yC.of (M := (xt_X13_objectOf, (3, (1, (14, []))))) rfl rfl (N := 54) (yfuel (by decide)) ?_
  show yG 89 xfts (xcall 89 xfts xpools xms (d + 2)) (xpool xp_RX13) [] xt_X13_objectOf (yP 1 (yQpi hp 0 23)) 54 0 [(0, yR 2073), (1, yI (p1)), (2, yI (p2))] [] hp
  refine yG.load xik rfl (fun _ _ => rfl) (v := yI (p1)) rfl rfl ?_
  refine yG.num (c := -1) rfl (fun _ _ => rfl) (by decide) ?_
  refine yG.icmp rfl (t := 9) rfl ⟨by omega, by omega⟩ ⟨by omega, by omega⟩ (fun c1 => ?_) (fun c1 => ?_)
  · have c1 : (p1 : Int) ≠ (-1) := c1
    rcases (show ((-1) : Int) < p1 ∨ (p1 : Int) < (-1) by omega) with dc1 | dc1
    · skip
      refine yG.load xik rfl (fun _ _ => rfl) (v := yI (p1)) rfl rfl ?_
      refine yG.num (c := -2) rfl (fun _ _ => rfl) (by decide) ?_
      refine yG.icmp rfl (t := 25) rfl ⟨by omega, by omega⟩ ⟨by omega, by omega⟩ (fun c2 => ?_) (fun c2 => ?_)
      · have c2 : (p1 : Int) ≠ (-2) := c2
        rcases (show ((-2) : Int) < p1 ∨ (p1 : Int) < (-2) by omega) with dc2 | dc2
        · skip
          refine yG.load xik rfl (fun _ _ => rfl) (v := yI (p1)) rfl rfl ?_
          refine yG.num (c := -3) rfl (fun _ _ => rfl) (by decide) ?_
          refine yG.icmp rfl (t := 41) rfl ⟨by omega, by omega⟩ ⟨by omega, by omega⟩ (fun c3 => ?_) (fun c3 => ?_)
          · have c3 : (p1 : Int) ≠ (-3) := c3
            rcases (show ((-3) : Int) < p1 ∨ (p1 : Int) < (-3) by omega) with dc3 | dc3
            · skip
              refine yG.load xik rfl (fun _ _ => rfl) (v := yI (p1)) rfl rfl ?_
              refine yG.ret rfl (fun _ _ => rfl) ?_
              exact yP.int ⟨by omega, by omega⟩ ⟨⟨p1, rfl, by omega, by omega⟩, rfl⟩
            · exfalso; omega
          · have c3 : (p1 : Int) = (-3) := c3
            exfalso; omega
        · exfalso; omega
      · have c2 : (p1 : Int) = (-2) := c2
        exfalso; omega
    · skip
      refine yG.load xik rfl (fun _ _ => rfl) (v := yI (p1)) rfl rfl ?_
      refine yG.num (c := -2) rfl (fun _ _ => rfl) (by decide) ?_
      refine yG.icmp rfl (t := 25) rfl ⟨by omega, by omega⟩ ⟨by omega, by omega⟩ (fun c4 => ?_) (fun c4 => ?_)
      · have c4 : (p1 : Int) ≠ (-2) := c4
        rcases (show ((-2) : Int) < p1 ∨ (p1 : Int) < (-2) by omega) with dc4 | dc4
        · exfalso; omega
        · skip
          refine yG.load xik rfl (fun _ _ => rfl) (v := yI (p1)) rfl rfl ?_
          refine yG.num (c := -3) rfl (fun _ _ => rfl) (by decide) ?_
          refine yG.icmp rfl (t := 41) rfl ⟨by omega, by omega⟩ ⟨by omega, by omega⟩ (fun c5 => ?_) (fun c5 => ?_)
          · have c5 : (p1 : Int) ≠ (-3) := c5
            exfalso; omega
          · have c5 : (p1 : Int) = (-3) := c5
            refine yG.load xak rfl (fun _ _ => rfl) (v := yR 2073) rfl rfl ?_
            refine yG.num (c := 1) rfl (fun _ _ => rfl) (by decide) ?_
            refine yG.load xik rfl (fun _ _ => rfl) (v := yI (p2)) rfl rfl ?_
            refine yG.num (c := 4) rfl (fun _ _ => rfl) (by decide) ?_
            refine yG.invV (rest := []) A_hp.1 W.m.1 rfl rfl rfl rfl (a_of_1_4 W d A_hp.1 (p2) (by omega) (by omega)) (fun rv hp9 q9 => ?_)
            obtain ⟨⟨z6, rfl, l_z6, u_z6⟩, e9⟩ := q9
            rw [e9]
            show yG _ _ _ _ _ _ _ _ _ _ (yI z6 :: []) _
            refine yG.goto rfl (t := 42) rfl ?_
            refine yG.ret rfl (fun _ _ => rfl) ?_
            exact yP.int ⟨by omega, by omega⟩ ⟨⟨z6, rfl, by omega, by omega⟩, rfl⟩
      · have c4 : (p1 : Int) = (-2) := c4
        refine yG.load xak rfl (fun _ _ => rfl) (v := yR 2073) rfl rfl ?_
        refine yG.num (c := 1) rfl (fun _ _ => rfl) (by decide) ?_
        refine yG.load xik rfl (fun _ _ => rfl) (v := yI (p2)) rfl rfl ?_
        refine yG.num (c := 3) rfl (fun _ _ => rfl) (by decide) ?_
        refine yG.invV (rest := []) A_hp.1 W.m.1 rfl rfl rfl rfl (a_of_1_3 W d A_hp.1 (p2) (by omega) (by omega)) (fun rv hp9 q9 => ?_)
        obtain ⟨⟨z7, rfl, l_z7, u_z7⟩, e9⟩ := q9
        rw [e9]
        show yG _ _ _ _ _ _ _ _ _ _ (yI z7 :: []) _
        refine yG.goto rfl (t := 42) rfl ?_
        refine yG.ret rfl (fun _ _ => rfl) ?_
        exact yP.int ⟨by omega, by omega⟩ ⟨⟨z7, rfl, by omega, by omega⟩, rfl⟩
  · have c1 : (p1 : Int) = (-1) := c1
    refine yG.load xik rfl (fun _ _ => rfl) (v := yI (p2)) rfl rfl ?_
    refine yG.goto rfl (t := 42) rfl ?_
    refine yG.ret rfl (fun _ _ => rfl) ?_
    exact yP.int ⟨by omega, by omega⟩ ⟨⟨p2, rfl, by omega, by omega⟩, rfl⟩
end YMore
