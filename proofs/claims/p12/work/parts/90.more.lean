/-! ===== the reference: more plain methods, printed by a program ===== -/
section YMore
variable {G : zW}
theorem a_figures {hp : xH} (W : yWW G) (d : Nat) (hT : zTy G hp) (p1 : Int) (h1l : (-2147483648) ≤ p1) (h1u : p1 ≤ 2147483647) : yC (xcall 89 xfts xpools xms (d + 2)) 401 [yR 2073, yI (p1)] hp (yQi G [0] [] hp (-2147483648) 2147483647) := by
  have A_hp : yAx G [0] [] hp hp := yAx.rf hT
  have H : ∀ m : Nat, (∀ a3 a4 : Int, ∀ hq, yAx G [0] [] hp hq → (-2147483648) ≤ a3 → (-2147483647) ≤ 0 - a3 → 0 ≤ a4 → (-999999999) ≤ 0 - a4 → 0 ≤ p1 → (-1) ≤ 0 - p1 → (-2247483647) ≤ a3 - a4 → 2 * a4 + 1 < (m : Int) → yG 89 xfts (xcall 89 xfts xpools xms (d + 1)) (xpool xp_RX13) [] xt_X13_figures (yP 1 (yQi G [0] [] hp (-2147483648) 2147483647)) (47 * m) 78 [(3, yI (a3)), (4, yI (a4))] [] hq) := by
    intro m
    induction m with
    | zero =>
      intros; exfalso; omega
    | succ m ih =>
      have i_78 := ih
      clear ih
      intro a3 a4 hq A_hq f0 f1 f2 f3 f4 f5 f6 hm
      refine yG.mono (N := 47 * m + 47) ?_ (by omega)
      refine yG.load xik rfl (fun _ _ => rfl) (v := yI (a4)) rfl rfl ?_
      refine yG.ifz rfl (t := 96) rfl ⟨by omega, by omega⟩ (fun c1 => ?_) (fun c1 => ?_)
      · have c1 : (a4 : Int) ≤ 0 := c1
        refine yG.load xik rfl (fun _ _ => rfl) (v := yI (a3)) rfl rfl ?_
        refine yG.ret rfl (fun _ _ => rfl) ?_
        exact yP.int ⟨by omega, by omega⟩ ⟨⟨a3, rfl, by omega, by omega⟩, A_hq⟩
      · have c1 : (a4 : Int) > 0 := c1
        refine yG.iinc rfl (a := a3) rfl (L' := [(3, yI (a3 + 1)), (4, yI (a4))]) rfl ?_
        refine yG.load xik rfl (fun _ _ => rfl) (v := yI (a4)) rfl rfl ?_
        refine yG.num (c := 10) rfl (fun _ _ => rfl) (by decide) ?_
        refine yG.idiv rfl ⟨by omega, by omega⟩ ⟨by omega, by omega⟩ (by omega) (by omega) ?_
        obtain ⟨z2, e_z2⟩ : ∃ z : Int, z = (a4) / (10) := ⟨_, rfl⟩
        rw [← e_z2]
        refine yG.store1 xik (L' := [(4, yI (z2)), (3, yI (a3 + 1))]) rfl (fun _ _ => rfl) rfl rfl ?_
        refine yG.goto rfl (t := 78) rfl ?_
        obtain ⟨z3, e_z3, l_z3, u_z3⟩ := ywI (a3 + 1)
        rw [e_z3]
        exact yG.mono (yG.sub (i_78 (z3) (z2)  hq A_hq  (by omega) (by omega) (by omega) (by omega) (by omega) (by omega) (by omega) (by omega)) (ySub.cons rfl (ySub.cons rfl (ySub.nil)))) (by omega)
  refine yC.of (M := (xt_X13_figures, (5, (1, (14, []))))) rfl rfl (N := 94000000094) (yfuel (by decide)) ?_
  show yG 89 xfts (xcall 89 xfts xpools xms (d + 1)) (xpool xp_RX13) [] xt_X13_figures (yP 1 (yQi G [0] [] hp (-2147483648) 2147483647)) 94000000094 0 [(0, yR 2073), (1, yI (p1))] [] hp
  have i_78 := H 2000000001
  refine yG.load xak rfl (fun _ _ => rfl) (v := yR 2073) rfl rfl ?_
  refine yG.load xik rfl (fun _ _ => rfl) (v := yI (p1)) rfl rfl ?_
  refine yG.i2l rfl ⟨by omega, by omega⟩ ?_
  refine yG.numl (c := 0) rfl (fun _ _ => rfl) (by decide) ?_
  refine yG.numl (c := 1) rfl (fun _ _ => rfl) (by decide) ?_
  refine yG.invS (rest := [yR 2073]) rfl rfl rfl rfl (a_in W d A_hp.1 (p1) (0) (1) (by omega) (by omega) (by omega) (by omega) (by omega) (by omega)) (fun rv hp9 q9 => ?_)
  obtain ⟨⟨z1, rfl, l_z1, u_z1, r_z1⟩, e9⟩ := q9
  rw [e9]
  show yG _ _ _ _ _ _ _ _ _ _ (yI z1 :: [yR 2073]) _
  refine yG.ifz rfl (t := 15) rfl ⟨by omega, by omega⟩ (fun c2 => ?_) (fun c2 => ?_)
  · have c2 : (z1 : Int) = 0 := c2
    refine yG.num (c := 1) rfl (fun _ _ => rfl) (by decide) ?_
    refine yG.putI A_hp.1 (w_thrown W) (by decide) rfl rfl (.inl rfl) ⟨by omega, by omega⟩ (by omega) (by omega) (fun h3 T_h3 b_h3 f_h3 y_h3 => ?_)
    have A_h3 := A_hp.putF T_h3 b_h3 f_h3 (by decide)
    have g0_h3 : ys h3 2073 0 = 1 := (y_h3 2073 0).trans (if_pos ⟨rfl, rfl⟩)
    refine yG.load xak rfl (fun _ _ => rfl) (v := yR 2073) rfl rfl ?_
    refine yG.getI A_h3.1 (w_thrown W) rfl rfl (fun z4 e_z4 i_z4 l_z4 u_z4 => ?_)
    refine yG.ifz rfl (t := 28) rfl ⟨by omega, by omega⟩ (fun c5 => ?_) (fun c5 => ?_)
    · have c5 : (z4 : Int) ≤ 0 := c5
      exfalso; omega
    · have c5 : (z4 : Int) > 0 := c5
      refine yG.num (c := 0) rfl (fun _ _ => rfl) (by decide) ?_
      refine yG.ret rfl (fun _ _ => rfl) ?_
      exact yP.int ⟨by omega, by omega⟩ ⟨⟨0, rfl, by omega, by omega⟩, A_h3⟩
  · have c2 : (z1 : Int) ≠ 0 := c2
    refine yG.num (c := 0) rfl (fun _ _ => rfl) (by decide) ?_
    refine yG.goto rfl (t := 16) rfl ?_
    refine yG.putI A_hp.1 (w_thrown W) (by decide) rfl rfl (.inl rfl) ⟨by omega, by omega⟩ (by omega) (by omega) (fun h6 T_h6 b_h6 f_h6 y_h6 => ?_)
    have A_h6 := A_hp.putF T_h6 b_h6 f_h6 (by decide)
    have g0_h6 : ys h6 2073 0 = 0 := (y_h6 2073 0).trans (if_pos ⟨rfl, rfl⟩)
    refine yG.load xak rfl (fun _ _ => rfl) (v := yR 2073) rfl rfl ?_
    refine yG.getI A_h6.1 (w_thrown W) rfl rfl (fun z7 e_z7 i_z7 l_z7 u_z7 => ?_)
    refine yG.ifz rfl (t := 28) rfl ⟨by omega, by omega⟩ (fun c8 => ?_) (fun c8 => ?_)
    · have c8 : (z7 : Int) ≤ 0 := c8
      refine yG.num (c := 188) rfl (fun _ _ => rfl) (by decide) ?_
      refine yG.load xik rfl (fun _ _ => rfl) (v := yI (p1)) rfl rfl ?_
      refine yG.iadd rfl ?_
      obtain ⟨z9, e_z9⟩ : ∃ z : Int, z = 188 + p1 := ⟨_, rfl⟩
      rw [← e_z9]
      refine yG.store1 xik (L' := [(2, yI (z9)), (0, yR 2073), (1, yI (p1))]) rfl (fun _ _ => rfl) rfl rfl ?_
      refine yG.load xak rfl (fun _ _ => rfl) (v := yR 2073) rfl rfl ?_
      refine yG.getR A_h6.1 (yF_length W.m) rfl rfl ?_
      refine yG.load xik rfl (fun _ _ => rfl) (v := yI (z9)) rfl rfl ?_
      refine yG.iald A_h6.1 (yA_length W.m) rfl (by omega) (by omega) (fun z10 e_z10 i_z10 l_z10 u_z10 => ?_)
      refine yG.ifz rfl (t := 45) rfl ⟨by omega, by omega⟩ (fun c11 => ?_) (fun c11 => ?_)
      · have c11 : (z10 : Int) ≠ 0 := c11
        refine yG.num (c := 9) rfl (fun _ _ => rfl) (by decide) ?_
        refine yG.load xak rfl (fun _ _ => rfl) (v := yR 2073) rfl rfl ?_
        refine yG.getR A_h6.1 (yF_length W.m) rfl rfl ?_
        refine yG.load xik rfl (fun _ _ => rfl) (v := yI (z9)) rfl rfl ?_
        refine yG.iald A_h6.1 (yA_length W.m) rfl (by omega) (by omega) (fun z12 e_z12 i_z12 l_z12 u_z12 => ?_)
        refine yG.num (c := 1) rfl (fun _ _ => rfl) (by decide) ?_
        refine yG.isub rfl ?_
        refine yG.imul rfl ?_
        obtain ⟨z13, e_z13⟩ : ∃ z : Int, z = 9 * (z12 - 1) := ⟨_, rfl⟩
        rw [← e_z13]
        refine yG.store1 xik (L' := [(3, yI (z13)), (2, yI (z9)), (0, yR 2073), (1, yI (p1))]) rfl (fun _ _ => rfl) rfl rfl ?_
        refine yG.load xak rfl (fun _ _ => rfl) (v := yR 2073) rfl rfl ?_
        refine yG.getR A_h6.1 (yF_big W.m) rfl rfl ?_
        refine yG.num (c := 256) rfl (fun _ _ => rfl) (by decide) ?_
        refine yG.load xik rfl (fun _ _ => rfl) (v := yI (z9)) rfl rfl ?_
        refine yG.imul rfl ?_
        refine yG.load xak rfl (fun _ _ => rfl) (v := yR 2073) rfl rfl ?_
        refine yG.getR A_h6.1 (yF_length W.m) rfl rfl ?_
        refine yG.load xik rfl (fun _ _ => rfl) (v := yI (z9)) rfl rfl ?_
        refine yG.iald A_h6.1 (yA_length W.m) rfl (by omega) (by omega) (fun z14 e_z14 i_z14 l_z14 u_z14 => ?_)
        refine yG.iadd rfl ?_
        refine yG.num (c := 1) rfl (fun _ _ => rfl) (by decide) ?_
        refine yG.isub rfl ?_
        refine yG.iald A_h6.1 (yA_big W.m) rfl (by omega) (by omega) (fun z15 e_z15 i_z15 l_z15 u_z15 => ?_)
        refine yG.store1 xik (L' := [(4, yI (z15)), (3, yI (z13)), (2, yI (z9)), (0, yR 2073), (1, yI (p1))]) rfl (fun _ _ => rfl) rfl rfl ?_
        exact yG.mono (yG.sub (i_78 (z13) (z15)  h6 A_h6  (by omega) (by omega) (by omega) (by omega) (by omega) (by omega) (by omega) (by omega)) (ySub.cons rfl (ySub.cons rfl (ySub.nil)))) (by omega)
      · have c11 : (z10 : Int) = 0 := c11
        refine yG.num (c := 1) rfl (fun _ _ => rfl) (by decide) ?_
        refine yG.ret rfl (fun _ _ => rfl) ?_
        exact yP.int ⟨by omega, by omega⟩ ⟨⟨1, rfl, by omega, by omega⟩, A_h6⟩
    · have c8 : (z7 : Int) > 0 := c8
      exfalso; omega
theorem a_add {hp : xH} (W : yWW G) (d : Nat) (hT : zTy G hp) (p1 p2 p3 p4 : Int) (h1l : 0 ≤ p1) (h1u : p1 ≤ 11) (h2l : 0 ≤ p2) (h2u : p2 ≤ 1) (h3l : (-3) ≤ p3) (h3u : p3 ≤ 23) (h4l : 0 ≤ p4) (h4u : p4 ≤ 999999) (q119l : 0 ≤ ys hp 2073 119) (q119u : ys hp 2073 119 ≤ 2499) : yC (xcall 89 xfts xpools xms (d + 1)) 344 [yR 2073, yI (p1), yI (p2), yI (p3), yI (p4)] hp (yQv G [119] [2153] hp) := by
  have A_hp : yAx G [119] [2153] hp hp := yAx.rf hT
  refine yC.of (M := (xt_X13_add, (5, (0, (14, []))))) rfl rfl (N := 150) (yfuel (by decide)) ?_
  show yG 89 xfts (xcall 89 xfts xpools xms d) (xpool xp_RX13) [] xt_X13_add (yP 0 (yQv G [119] [2153] hp)) 150 0 [(0, yR 2073), (1, yI (p1)), (2, yI (p2)), (3, yI (p3)), (4, yI (p4))] [] hp
  obtain ⟨gg119, E_119⟩ : ∃ z : Int, ys hp 2073 119 = z := ⟨_, rfl⟩
  obtain ⟨-, -, r_119l, r_119u⟩ := (w_codes W).int hT
  refine yG.load xak rfl (fun _ _ => rfl) (v := yR 2073) rfl rfl ?_
  refine yG.getR A_hp.1 (r_newCode W) rfl rfl ?_
  refine yG.num (c := 4) rfl (fun _ _ => rfl) (by decide) ?_
  refine yG.load xak rfl (fun _ _ => rfl) (v := yR 2073) rfl rfl ?_
  refine yG.getI A_hp.1 (w_codes W) rfl rfl (fun z1 e_z1 i_z1 l_z1 u_z1 => ?_)
  refine yG.imul rfl ?_
  refine yG.load xik rfl (fun _ _ => rfl) (v := yI (p1)) rfl rfl ?_
  refine yG.iastF A_hp.1 (p_newCode W) ((yoT_m (r := 0) (by omega)).trans rfl) (by decide) rfl (by omega) (by omega) ⟨by omega, by omega⟩ (by omega) (by omega) (fun h2 T_h2 b_h2 f_h2 y_h2 => ?_)
  have A_h2 := A_hp.putA T_h2 b_h2 f_h2 (by decide)
  have g119_h2 : ys h2 2073 119 = ys hp 2073 119 := (y_h2 2073 119).trans (if_neg (by omega))
  refine yG.load xak rfl (fun _ _ => rfl) (v := yR 2073) rfl rfl ?_
  refine yG.getR A_h2.1 (r_newCode W) rfl rfl ?_
  refine yG.num (c := 4) rfl (fun _ _ => rfl) (by decide) ?_
  refine yG.load xak rfl (fun _ _ => rfl) (v := yR 2073) rfl rfl ?_
  refine yG.getI A_h2.1 (w_codes W) rfl rfl (fun z3 e_z3 i_z3 l_z3 u_z3 => ?_)
  refine yG.imul rfl ?_
  refine yG.num (c := 1) rfl (fun _ _ => rfl) (by decide) ?_
  refine yG.iadd rfl ?_
  refine yG.load xik rfl (fun _ _ => rfl) (v := yI (p2)) rfl rfl ?_
  refine yG.ifz rfl (t := 32) rfl ⟨by omega, by omega⟩ (fun c4 => ?_) (fun c4 => ?_)
  · have c4 : (p2 : Int) = 0 := c4
    refine yG.num (c := 0) rfl (fun _ _ => rfl) (by decide) ?_
    refine yG.iastF A_h2.1 (p_newCode W) ((yoT_m (r := 1) (by omega)).trans rfl) (by decide) rfl (by omega) (by omega) ⟨by omega, by omega⟩ (by omega) (by omega) (fun h5 T_h5 b_h5 f_h5 y_h5 => ?_)
    have A_h5 := A_h2.putA T_h5 b_h5 f_h5 (by decide)
    have g119_h5 : ys h5 2073 119 = ys h2 2073 119 := (y_h5 2073 119).trans (if_neg (by omega))
    refine yG.load xak rfl (fun _ _ => rfl) (v := yR 2073) rfl rfl ?_
    refine yG.getR A_h5.1 (r_newCode W) rfl rfl ?_
    refine yG.num (c := 4) rfl (fun _ _ => rfl) (by decide) ?_
    refine yG.load xak rfl (fun _ _ => rfl) (v := yR 2073) rfl rfl ?_
    refine yG.getI A_h5.1 (w_codes W) rfl rfl (fun z6 e_z6 i_z6 l_z6 u_z6 => ?_)
    refine yG.imul rfl ?_
    refine yG.num (c := 2) rfl (fun _ _ => rfl) (by decide) ?_
    refine yG.iadd rfl ?_
    refine yG.load xik rfl (fun _ _ => rfl) (v := yI (p3)) rfl rfl ?_
    refine yG.iastF A_h5.1 (p_newCode W) ((yoT_m (r := 2) (by omega)).trans rfl) (by decide) rfl (by omega) (by omega) ⟨by omega, by omega⟩ (by omega) (by omega) (fun h7 T_h7 b_h7 f_h7 y_h7 => ?_)
    have A_h7 := A_h5.putA T_h7 b_h7 f_h7 (by decide)
    have g119_h7 : ys h7 2073 119 = ys h5 2073 119 := (y_h7 2073 119).trans (if_neg (by omega))
    refine yG.load xak rfl (fun _ _ => rfl) (v := yR 2073) rfl rfl ?_
    refine yG.getR A_h7.1 (r_newCode W) rfl rfl ?_
    refine yG.num (c := 4) rfl (fun _ _ => rfl) (by decide) ?_
    refine yG.load xak rfl (fun _ _ => rfl) (v := yR 2073) rfl rfl ?_
    refine yG.getI A_h7.1 (w_codes W) rfl rfl (fun z8 e_z8 i_z8 l_z8 u_z8 => ?_)
    refine yG.imul rfl ?_
    refine yG.num (c := 3) rfl (fun _ _ => rfl) (by decide) ?_
    refine yG.iadd rfl ?_
    refine yG.load xik rfl (fun _ _ => rfl) (v := yI (p4)) rfl rfl ?_
    refine yG.iastF A_h7.1 (p_newCode W) ((yoT_m (r := 3) (by omega)).trans rfl) (by decide) rfl (by omega) (by omega) ⟨by omega, by omega⟩ (by omega) (by omega) (fun h9 T_h9 b_h9 f_h9 y_h9 => ?_)
    have A_h9 := A_h7.putA T_h9 b_h9 f_h9 (by decide)
    have g119_h9 : ys h9 2073 119 = ys h7 2073 119 := (y_h9 2073 119).trans (if_neg (by omega))
    refine yG.load xak rfl (fun _ _ => rfl) (v := yR 2073) rfl rfl ?_
    refine yG.step (pc' := 65) (stk' := [yR 2073, yR 2073]) rfl (fun _ _ => rfl) ?_
    refine yG.getI A_h9.1 (w_codes W) rfl rfl (fun z10 e_z10 i_z10 l_z10 u_z10 => ?_)
    refine yG.num (c := 1) rfl (fun _ _ => rfl) (by decide) ?_
    refine yG.iadd rfl ?_
    refine yG.putI A_h9.1 (w_codes W) (by decide) rfl rfl (.inl rfl) ⟨by omega, by omega⟩ (by omega) (by omega) (fun h11 T_h11 b_h11 f_h11 y_h11 => ?_)
    have A_h11 := A_h9.putF T_h11 b_h11 f_h11 (by decide)
    have g119_h11 : ys h11 2073 119 = z10 + 1 := (y_h11 2073 119).trans (if_pos ⟨rfl, rfl⟩)
    refine yG.ret rfl (fun _ _ => rfl) ?_
    exact yP.void ⟨rfl, A_h11⟩
  · have c4 : (p2 : Int) ≠ 0 := c4
    refine yG.num (c := 1) rfl (fun _ _ => rfl) (by decide) ?_
    refine yG.goto rfl (t := 33) rfl ?_
    refine yG.iastF A_h2.1 (p_newCode W) ((yoT_m (r := 1) (by omega)).trans rfl) (by decide) rfl (by omega) (by omega) ⟨by omega, by omega⟩ (by omega) (by omega) (fun h12 T_h12 b_h12 f_h12 y_h12 => ?_)
    have A_h12 := A_h2.putA T_h12 b_h12 f_h12 (by decide)
    have g119_h12 : ys h12 2073 119 = ys h2 2073 119 := (y_h12 2073 119).trans (if_neg (by omega))
    refine yG.load xak rfl (fun _ _ => rfl) (v := yR 2073) rfl rfl ?_
    refine yG.getR A_h12.1 (r_newCode W) rfl rfl ?_
    refine yG.num (c := 4) rfl (fun _ _ => rfl) (by decide) ?_
    refine yG.load xak rfl (fun _ _ => rfl) (v := yR 2073) rfl rfl ?_
    refine yG.getI A_h12.1 (w_codes W) rfl rfl (fun z13 e_z13 i_z13 l_z13 u_z13 => ?_)
    refine yG.imul rfl ?_
    refine yG.num (c := 2) rfl (fun _ _ => rfl) (by decide) ?_
    refine yG.iadd rfl ?_
    refine yG.load xik rfl (fun _ _ => rfl) (v := yI (p3)) rfl rfl ?_
    refine yG.iastF A_h12.1 (p_newCode W) ((yoT_m (r := 2) (by omega)).trans rfl) (by decide) rfl (by omega) (by omega) ⟨by omega, by omega⟩ (by omega) (by omega) (fun h14 T_h14 b_h14 f_h14 y_h14 => ?_)
    have A_h14 := A_h12.putA T_h14 b_h14 f_h14 (by decide)
    have g119_h14 : ys h14 2073 119 = ys h12 2073 119 := (y_h14 2073 119).trans (if_neg (by omega))
    refine yG.load xak rfl (fun _ _ => rfl) (v := yR 2073) rfl rfl ?_
    refine yG.getR A_h14.1 (r_newCode W) rfl rfl ?_
    refine yG.num (c := 4) rfl (fun _ _ => rfl) (by decide) ?_
    refine yG.load xak rfl (fun _ _ => rfl) (v := yR 2073) rfl rfl ?_
    refine yG.getI A_h14.1 (w_codes W) rfl rfl (fun z15 e_z15 i_z15 l_z15 u_z15 => ?_)
    refine yG.imul rfl ?_
    refine yG.num (c := 3) rfl (fun _ _ => rfl) (by decide) ?_
    refine yG.iadd rfl ?_
    refine yG.load xik rfl (fun _ _ => rfl) (v := yI (p4)) rfl rfl ?_
    refine yG.iastF A_h14.1 (p_newCode W) ((yoT_m (r := 3) (by omega)).trans rfl) (by decide) rfl (by omega) (by omega) ⟨by omega, by omega⟩ (by omega) (by omega) (fun h16 T_h16 b_h16 f_h16 y_h16 => ?_)
    have A_h16 := A_h14.putA T_h16 b_h16 f_h16 (by decide)
    have g119_h16 : ys h16 2073 119 = ys h14 2073 119 := (y_h16 2073 119).trans (if_neg (by omega))
    refine yG.load xak rfl (fun _ _ => rfl) (v := yR 2073) rfl rfl ?_
    refine yG.step (pc' := 65) (stk' := [yR 2073, yR 2073]) rfl (fun _ _ => rfl) ?_
    refine yG.getI A_h16.1 (w_codes W) rfl rfl (fun z17 e_z17 i_z17 l_z17 u_z17 => ?_)
    refine yG.num (c := 1) rfl (fun _ _ => rfl) (by decide) ?_
    refine yG.iadd rfl ?_
    refine yG.putI A_h16.1 (w_codes W) (by decide) rfl rfl (.inl rfl) ⟨by omega, by omega⟩ (by omega) (by omega) (fun h18 T_h18 b_h18 f_h18 y_h18 => ?_)
    have A_h18 := A_h16.putF T_h18 b_h18 f_h18 (by decide)
    have g119_h18 : ys h18 2073 119 = z17 + 1 := (y_h18 2073 119).trans (if_pos ⟨rfl, rfl⟩)
    refine yG.ret rfl (fun _ _ => rfl) ?_
    exact yP.void ⟨rfl, A_h18⟩
theorem a_islandOfMeter {hp : xH} (W : yWW G) (d : Nat) (hT : zTy G hp) (M_yMt : yMt hp) (p1 : Int) (h1l : 0 ≤ p1) (h1u : p1 ≤ 31) : yC (xcall 89 xfts xpools xms (d + 4)) 438 [yR 2073, yI (p1)] hp (yQpi hp 0 15) := by
  have A_hp : yAx G [] [] hp hp := yAx.rf hT
  refine yC.of (M := (xt_X13_islandOfMeter, (2, (1, (14, []))))) rfl rfl (N := 45) (yfuel (by decide)) ?_
  show yG 89 xfts (xcall 89 xfts xpools xms (d + 3)) (xpool xp_RX13) [] xt_X13_islandOfMeter (yP 1 (yQpi hp 0 15)) 45 0 [(0, yR 2073), (1, yI (p1))] [] hp
  refine yG.load xak rfl (fun _ _ => rfl) (v := yR 2073) rfl rfl ?_
  refine yG.getR A_hp.1 (r_meterKind W) rfl rfl ?_
  refine yG.load xik rfl (fun _ _ => rfl) (v := yI (p1)) rfl rfl ?_
  refine yG.iald A_hp.1 (v_meterKind W) rfl (by omega) (by omega) (fun z1 e_z1 i_z1 l_z1 u_z1 => ?_)
  refine yG.ifz rfl (t := 22) rfl ⟨by omega, by omega⟩ (fun c2 => ?_) (fun c2 => ?_)
  · have c2 : (z1 : Int) ≠ 0 := c2
    refine yG.load xak rfl (fun _ _ => rfl) (v := yR 2073) rfl rfl ?_
    refine yG.getR A_hp.1 (r_island W) rfl rfl ?_
    refine yG.load xak rfl (fun _ _ => rfl) (v := yR 2073) rfl rfl ?_
    refine yG.getR A_hp.1 (r_meterAt W) rfl rfl ?_
    refine yG.load xik rfl (fun _ _ => rfl) (v := yI (p1)) rfl rfl ?_
    refine yG.iald A_hp.1 (v_meterAt W) rfl (by omega) (by omega) (fun z3 e_z3 i_z3 l_z3 u_z3 => ?_)
    have w_z3 := M_yMt (p1) (by omega) (by omega)
    refine yG.iald A_hp.1 (v_island W) rfl (by omega) (by omega) (fun z4 e_z4 i_z4 l_z4 u_z4 => ?_)
    refine yG.ret rfl (fun _ _ => rfl) ?_
    exact yP.int ⟨by omega, by omega⟩ ⟨⟨z4, rfl, by omega, by omega⟩, rfl⟩
  · have c2 : (z1 : Int) = 0 := c2
    refine yG.load xak rfl (fun _ _ => rfl) (v := yR 2073) rfl rfl ?_
    refine yG.load xak rfl (fun _ _ => rfl) (v := yR 2073) rfl rfl ?_
    refine yG.getR A_hp.1 (r_meterAt W) rfl rfl ?_
    refine yG.load xik rfl (fun _ _ => rfl) (v := yI (p1)) rfl rfl ?_
    refine yG.iald A_hp.1 (v_meterAt W) rfl (by omega) (by omega) (fun z5 e_z5 i_z5 l_z5 u_z5 => ?_)
    have w_z5 := M_yMt (p1) (by omega) (by omega)
    refine yG.invV (rest := []) A_hp.1 W.m.1 rfl rfl rfl rfl (a_islandOfLine W d A_hp.1 (z5) (by omega) (by omega)) (fun rv hp9 q9 => ?_)
    obtain ⟨⟨z6, rfl, l_z6, u_z6⟩, e9⟩ := q9
    rw [e9]
    show yG _ _ _ _ _ _ _ _ _ _ (yI z6 :: []) _
    refine yG.goto rfl (t := 33) rfl ?_
    refine yG.ret rfl (fun _ _ => rfl) ?_
    exact yP.int ⟨by omega, by omega⟩ ⟨⟨z6, rfl, by omega, by omega⟩, rfl⟩
theorem a_counts {hp : xH} (W : yWW G) (d : Nat) (hT : zTy G hp) (M_yMt : yMt hp) (p1 p2 : Int) (h1l : 0 ≤ p1) (h1u : p1 ≤ 31) (h2l : 0 ≤ p2) (h2u : p2 ≤ 15) : yC (xcall 89 xfts xpools xms (d + 5)) 380 [yR 2073, yI (p1), yI (p2)] hp (yQpi hp 0 1) := by
  have A_hp : yAx G [] [] hp hp := yAx.rf hT
  refine yC.of (M := (xt_X13_counts, (3, (4, (14, []))))) rfl rfl (N := 45) (yfuel (by decide)) ?_
  show yG 89 xfts (xcall 89 xfts xpools xms (d + 4)) (xpool xp_RX13) [] xt_X13_counts (yP 4 (yQpi hp 0 1)) 45 0 [(0, yR 2073), (1, yI (p1)), (2, yI (p2))] [] hp
  refine yG.load xak rfl (fun _ _ => rfl) (v := yR 2073) rfl rfl ?_
  refine yG.load xik rfl (fun _ _ => rfl) (v := yI (p1)) rfl rfl ?_
  refine yG.invV (rest := []) A_hp.1 W.m.1 rfl rfl rfl rfl (a_islandOfMeter W d A_hp.1 M_yMt (p1) (by omega) (by omega)) (fun rv hp9 q9 => ?_)
  obtain ⟨⟨z1, rfl, l_z1, u_z1⟩, e9⟩ := q9
  rw [e9]
  show yG _ _ _ _ _ _ _ _ _ _ (yI z1 :: []) _
  refine yG.load xik rfl (fun _ _ => rfl) (v := yI (p2)) rfl rfl ?_
  refine yG.icmp rfl (t := 22) rfl ⟨by omega, by omega⟩ ⟨by omega, by omega⟩ (fun c2 => ?_) (fun c2 => ?_)
  · have c2 : (z1 : Int) ≠ p2 := c2
    refine yG.num (c := 0) rfl (fun _ _ => rfl) (by decide) ?_
    refine yG.ret rfl (fun _ _ => rfl) ?_
    exact yP.bool (by omega) ⟨⟨0, rfl, by omega, by omega⟩, rfl⟩
  · have c2 : (z1 : Int) = p2 := c2
    refine yG.load xak rfl (fun _ _ => rfl) (v := yR 2073) rfl rfl ?_
    refine yG.getR A_hp.1 (r_isStruck W) rfl rfl ?_
    refine yG.load xik rfl (fun _ _ => rfl) (v := yI (p1)) rfl rfl ?_
    refine yG.bald A_hp.1 (v_isStruck W) rfl (by omega) (by omega) (fun z3 e_z3 i_z3 l_z3 u_z3 => ?_)
    refine yG.ifz rfl (t := 22) rfl ⟨by omega, by omega⟩ (fun c4 => ?_) (fun c4 => ?_)
    · have c4 : (z3 : Int) ≠ 0 := c4
      refine yG.num (c := 0) rfl (fun _ _ => rfl) (by decide) ?_
      refine yG.ret rfl (fun _ _ => rfl) ?_
      exact yP.bool (by omega) ⟨⟨0, rfl, by omega, by omega⟩, rfl⟩
    · have c4 : (z3 : Int) = 0 := c4
      refine yG.num (c := 1) rfl (fun _ _ => rfl) (by decide) ?_
      refine yG.goto rfl (t := 23) rfl ?_
      refine yG.ret rfl (fun _ _ => rfl) ?_
      exact yP.bool (by omega) ⟨⟨1, rfl, by omega, by omega⟩, rfl⟩
theorem a_addShown_wide {hp : xH} (W : yWW G) (d : Nat) (hT : zTy G hp) (p1 p2 p3 : Int) (h1l : 0 ≤ p1) (h1u : p1 ≤ 31) (h2l : 0 ≤ p2) (h2u : p2 ≤ 15) (h3l : (-2147483647) ≤ p3) (h3u : p3 ≤ 2147483647) (q11l : 1 ≤ ys hp 2073 11) (q11u : ys hp 2073 11 ≤ 2147483647) : yC (xcall 89 xfts xpools xms (d + 2)) 346 [yR 2073, yI (p1), yI (p2), yJ (p3)] hp (yQv G [] [2122] hp) := by
  have A_hp : yAx G [] [2122] hp hp := yAx.rf hT
  refine yC.of (M := (xt_X13_addShown, (6, (0, (14, []))))) rfl rfl (N := 90) (yfuel (by decide)) ?_
  show yG 89 xfts (xcall 89 xfts xpools xms (d + 1)) (xpool xp_RX13) [] xt_X13_addShown (yP 0 (yQv G [] [2122] hp)) 90 0 [(0, yR 2073), (1, yI (p1)), (2, yI (p2)), (3, yJ (p3))] [] hp
  obtain ⟨gg11, E_11⟩ : ∃ z : Int, ys hp 2073 11 = z := ⟨_, rfl⟩
  obtain ⟨-, -, r_11l, r_11u⟩ := (w_p W).long hT
  refine yG.load xak rfl (fun _ _ => rfl) (v := yR 2073) rfl rfl ?_
  refine yG.getR A_hp.1 (r_placeOf W) rfl rfl ?_
  refine yG.load xik rfl (fun _ _ => rfl) (v := yI (p2)) rfl rfl ?_
  refine yG.iald A_hp.1 (v_placeOf W) rfl (by omega) (by omega) (fun z1 e_z1 i_z1 l_z1 u_z1 => ?_)
  refine yG.store1 xik (L' := [(5, yI (z1)), (0, yR 2073), (1, yI (p1)), (2, yI (p2)), (3, yJ (p3))]) rfl (fun _ _ => rfl) rfl rfl ?_
  refine yG.load xik rfl (fun _ _ => rfl) (v := yI (z1)) rfl rfl ?_
  refine yG.ifz rfl (t := 43) rfl ⟨by omega, by omega⟩ (fun c2 => ?_) (fun c2 => ?_)
  · have c2 : (z1 : Int) < 0 := c2
    refine yG.ret rfl (fun _ _ => rfl) ?_
    exact yP.void ⟨rfl, A_hp⟩
  · have c2 : (z1 : Int) ≥ 0 := c2
    refine yG.load xak rfl (fun _ _ => rfl) (v := yR 2073) rfl rfl ?_
    refine yG.getR A_hp.1 (r_shows W) rfl rfl ?_
    refine yG.num (c := 16) rfl (fun _ _ => rfl) (by decide) ?_
    refine yG.load xik rfl (fun _ _ => rfl) (v := yI (p1)) rfl rfl ?_
    refine yG.imul rfl ?_
    refine yG.load xik rfl (fun _ _ => rfl) (v := yI (z1)) rfl rfl ?_
    refine yG.iadd rfl ?_
    refine yG.load xak rfl (fun _ _ => rfl) (v := yR 2073) rfl rfl ?_
    refine yG.load xak rfl (fun _ _ => rfl) (v := yR 2073) rfl rfl ?_
    refine yG.getR A_hp.1 (r_shows W) rfl rfl ?_
    refine yG.num (c := 16) rfl (fun _ _ => rfl) (by decide) ?_
    refine yG.load xik rfl (fun _ _ => rfl) (v := yI (p1)) rfl rfl ?_
    refine yG.imul rfl ?_
    refine yG.load xik rfl (fun _ _ => rfl) (v := yI (z1)) rfl rfl ?_
    refine yG.iadd rfl ?_
    refine yG.lald A_hp.1 (v_shows W) rfl (by omega) (by omega) (fun z3 e_z3 i_z3 l_z3 u_z3 => ?_)
    refine yG.load xlk2 rfl (fun _ _ => rfl) (v := yJ (p3)) rfl rfl ?_
    refine yG.ladd rfl ?_
    refine yG.invV (rest := [yI ((16 * p1) + z1), yR 2122]) A_hp.1 W.m.1 rfl rfl rfl rfl (a_mod W d A_hp.1 (z3 + p3) (by omega) (by omega) (by omega) (by omega)) (fun rv hp9 q9 => ?_)
    obtain ⟨⟨z4, rfl, l_z4, u_z4⟩, e9⟩ := q9
    rw [e9]
    show yG _ _ _ _ _ _ _ _ _ _ (yJ z4 :: [yI ((16 * p1) + z1), yR 2122]) _
    refine yG.last A_hp.1 (v_shows W) (by decide) rfl (by omega) (by omega) ⟨by omega, by omega⟩ (by omega) (by omega) (fun h5 T_h5 b_h5 f_h5 y_h5 => ?_)
    have A_h5 := A_hp.putA T_h5 b_h5 f_h5 (by decide)
    have g11_h5 : ys h5 2073 11 = ys hp 2073 11 := (y_h5 2073 11).trans (if_neg (by omega))
    refine yG.ret rfl (fun _ _ => rfl) ?_
    exact yP.void ⟨rfl, A_h5⟩
theorem a_showAll {hp : xH} (W : yWW G) (d : Nat) (hT : zTy G hp) (M_yMt : yMt hp) (p1 : Int) (h1l : 0 ≤ p1) (h1u : p1 ≤ 15) (q11l : 1 ≤ ys hp 2073 11) (q11u : ys hp 2073 11 ≤ 2147483647) : yC (xcall 89 xfts xpools xms (d + 5)) 514 [yR 2073, yI (p1)] hp (yQv G [] [2122, 2123] hp) := by
  have A_hp : yAx G [] [2122, 2123] hp hp := yAx.rf hT
  have H : ∀ m : Nat, (∀ a2 gg11 : Int, ∀ hq, yAx G [] [2122, 2123] hp hq → ys hq 2073 11 = gg11 → 0 ≤ a2 → (-20) ≤ 0 - a2 → 1 ≤ gg11 → (-2147483647) ≤ 0 - gg11 → 0 ≤ p1 → (-15) ≤ 0 - p1 → 0 - 83062 * a2 + 1744301 < (m : Int) → yG 89 xfts (xcall 89 xfts xpools xms (d + 4)) (xpool xp_RX13) [] xt_X13_showAll (yP 0 (yQv G [] [2122, 2123] hp)) (58 * m) 2 [(0, yR 2073), (1, yI (p1)), (2, yI (a2))] [] hq) ∧ (∀ a2 gg11 : Int, ∀ hq, yAx G [] [2122, 2123] hp hq → ys hq 2073 11 = gg11 → 0 ≤ a2 → (-32) ≤ 0 - a2 → 1 ≤ gg11 → (-2147483647) ≤ 0 - gg11 → 0 ≤ p1 → (-15) ≤ 0 - p1 → 0 - 2517 * a2 + 83060 < (m : Int) → yG 89 xfts (xcall 89 xfts xpools xms (d + 4)) (xpool xp_RX13) [] xt_X13_showAll (yP 0 (yQv G [] [2122, 2123] hp)) (58 * m) 38 [(0, yR 2073), (1, yI (p1)), (2, yI (a2))] [] hq) ∧ (∀ a2 a3 gg11 : Int, ∀ hq, yAx G [] [2122, 2123] hp hq → ys hq 2073 11 = gg11 → 0 ≤ a2 → (-31) ≤ 0 - a2 → 0 ≤ a3 → (-16) ≤ 0 - a3 → 1 ≤ gg11 → (-2147483647) ≤ 0 - gg11 → 0 ≤ p1 → (-15) ≤ 0 - p1 → 0 - 2517 * a2 - 148 * a3 + 83059 < (m : Int) → yG 89 xfts (xcall 89 xfts xpools xms (d + 4)) (xpool xp_RX13) [] xt_X13_showAll (yP 0 (yQv G [] [2122, 2123] hp)) (58 * m) 60 [(0, yR 2073), (1, yI (p1)), (2, yI (a2)), (3, yI (a3))] [] hq) ∧ (∀ a2 a3 gg11 : Int, ∀ hq, yAx G [] [2122, 2123] hp hq → ys hq 2073 11 = gg11 → 0 ≤ a2 → (-31) ≤ 0 - a2 → 0 ≤ a3 → (-20) ≤ 0 - a3 → 1 ≤ gg11 → (-2147483647) ≤ 0 - gg11 → 0 ≤ p1 → (-15) ≤ 0 - p1 → 0 - 2517 * a2 - 7 * a3 + 80690 < (m : Int) → yG 89 xfts (xcall 89 xfts xpools xms (d + 4)) (xpool xp_RX13) [] xt_X13_showAll (yP 0 (yQv G [] [2122, 2123] hp)) (58 * m) 113 [(0, yR 2073), (1, yI (p1)), (2, yI (a2)), (3, yI (a3))] [] hq) ∧ (∀ a2 a3 a4 a5 gg11 : Int, ∀ hq, yAx G [] [2122, 2123] hp hq → ys hq 2073 11 = gg11 → 0 ≤ a2 → (-31) ≤ 0 - a2 → 0 ≤ a3 → (-19) ≤ 0 - a3 → 0 ≤ a4 → (-1) ≤ 0 - a4 → 0 ≤ a5 → (-2) ≤ 0 - a5 → 1 ≤ gg11 → (-2147483647) ≤ 0 - gg11 → 0 ≤ p1 → (-15) ≤ 0 - p1 → (-1) ≤ a4 - a5 → 0 - 2517 * a2 - 7 * a3 - 2 * a5 + 80689 < (m : Int) → yG 89 xfts (xcall 89 xfts xpools xms (d + 4)) (xpool xp_RX13) [] xt_X13_showAll (yP 0 (yQv G [] [2122, 2123] hp)) (58 * m) 160 [(0, yR 2073), (1, yI (p1)), (2, yI (a2)), (3, yI (a3)), (4, yI (a4)), (5, yI (a5))] [] hq) := by
    intro m
    induction m with
    | zero =>
      refine ⟨?_, ?_, ?_, ?_, ?_⟩ <;> (intros; exfalso; omega)
    | succ m ih =>
      obtain ⟨i_2, i_38, i_60, i_113, i_160⟩ := ih
      refine ⟨?_, ?_, ?_, ?_, ?_⟩
      · intro a2 gg11 hq A_hq E_11 f0 f1 f2 f3 f4 f5 hm
        refine yG.mono (N := 58 * m + 58) ?_ (by omega)
        refine yG.load xik rfl (fun _ _ => rfl) (v := yI (a2)) rfl rfl ?_
        refine yG.load xak rfl (fun _ _ => rfl) (v := yR 2073) rfl rfl ?_
        refine yG.getR A_hq.1 (r_count W) rfl rfl ?_
        refine yG.num (c := 2) rfl (fun _ _ => rfl) (by decide) ?_
        refine yG.ialdF A_hq.1 (p_count W) rfl rfl (by omega) (by omega) (fun z1 e_z1 i_z1 l_z1 u_z1 => ?_)
        refine yG.icmp rfl (t := 36) rfl ⟨by omega, by omega⟩ ⟨by omega, by omega⟩ (fun c2 => ?_) (fun c2 => ?_)
        · have c2 : (a2 : Int) ≥ z1 := c2
          refine yG.num (c := 0) rfl (fun _ _ => rfl) (by decide) ?_
          refine yG.store1 xik (L' := [(2, yI (0)), (0, yR 2073), (1, yI (p1))]) rfl (fun _ _ => rfl) rfl rfl ?_
          exact yG.mono (yG.sub (i_38 (0) (ys hq 2073 11) hq A_hq rfl (by omega) (by omega) (by omega) (by omega) (by omega) (by omega) (by omega)) (ySub.cons rfl (ySub.cons rfl (ySub.cons rfl (ySub.nil))))) (by omega)
        · have c2 : (a2 : Int) < z1 := c2
          refine yG.load xak rfl (fun _ _ => rfl) (v := yR 2073) rfl rfl ?_
          refine yG.getR A_hq.1 (r_conductance W) rfl rfl ?_
          refine yG.load xik rfl (fun _ _ => rfl) (v := yI (a2)) rfl rfl ?_
          refine yG.load xak rfl (fun _ _ => rfl) (v := yR 2073) rfl rfl ?_
          refine yG.load xak rfl (fun _ _ => rfl) (v := yR 2073) rfl rfl ?_
          refine yG.num (c := 2) rfl (fun _ _ => rfl) (by decide) ?_
          refine yG.load xik rfl (fun _ _ => rfl) (v := yI (a2)) rfl rfl ?_
          refine yG.num (c := 1) rfl (fun _ _ => rfl) (by decide) ?_
          refine yG.invV (rest := [yR 2073, yI (a2), yR 2123]) A_hq.1 W.m.1 rfl rfl rfl rfl (a_of_2_1 W (d + 2) A_hq.1 (a2) (by omega) (by omega)) (fun rv hp9 q9 => ?_)
          obtain ⟨⟨z3, rfl, l_z3, u_z3⟩, e9⟩ := q9
          rw [e9]
          show yG _ _ _ _ _ _ _ _ _ _ (yI z3 :: [yR 2073, yI (a2), yR 2123]) _
          refine yG.i2l rfl ⟨by omega, by omega⟩ ?_
          refine yG.invV (rest := [yI (a2), yR 2123]) A_hq.1 W.m.1 rfl rfl rfl rfl (a_inverse_ W (d + 2) A_hq.1 (z3) (by omega) (by omega) (by omega) (by omega)) (fun rv hp9 q9 => ?_)
          obtain ⟨⟨z4, rfl, l_z4, u_z4⟩, e9⟩ := q9
          rw [e9]
          show yG _ _ _ _ _ _ _ _ _ _ (yJ z4 :: [yI (a2), yR 2123]) _
          refine yG.last A_hq.1 (v_conductance W) (by decide) rfl (by omega) (by omega) ⟨by omega, by omega⟩ (by omega) (by omega) (fun h5 T_h5 b_h5 f_h5 y_h5 => ?_)
          have A_h5 := A_hq.putA T_h5 b_h5 f_h5 (by decide)
          have g11_h5 : ys h5 2073 11 = ys hq 2073 11 := (y_h5 2073 11).trans (if_neg (by omega))
          refine yG.iinc rfl (a := a2) rfl (L' := [(2, yI (a2 + 1)), (0, yR 2073), (1, yI (p1))]) rfl ?_
          refine yG.goto rfl (t := 2) rfl ?_
          exact yG.mono (yG.sub (i_2 (a2 + 1) (ys h5 2073 11) h5 A_h5 rfl (by omega) (by omega) (by omega) (by omega) (by omega) (by omega) (by omega)) (ySub.cons rfl (ySub.cons rfl (ySub.cons rfl (ySub.nil))))) (by omega)
      · intro a2 gg11 hq A_hq E_11 f0 f1 f2 f3 f4 f5 hm
        refine yG.mono (N := 58 * m + 58) ?_ (by omega)
        refine yG.load xik rfl (fun _ _ => rfl) (v := yI (a2)) rfl rfl ?_
        refine yG.load xak rfl (fun _ _ => rfl) (v := yR 2073) rfl rfl ?_
        refine yG.getI A_hq.1 (w_meters W) rfl rfl (fun z1 e_z1 i_z1 l_z1 u_z1 => ?_)
        refine yG.icmp rfl (t := 297) rfl ⟨by omega, by omega⟩ ⟨by omega, by omega⟩ (fun c2 => ?_) (fun c2 => ?_)
        · have c2 : (a2 : Int) ≥ z1 := c2
          refine yG.ret rfl (fun _ _ => rfl) ?_
          exact yP.void ⟨rfl, A_hq⟩
        · have c2 : (a2 : Int) < z1 := c2
          refine yG.load xak rfl (fun _ _ => rfl) (v := yR 2073) rfl rfl ?_
          refine yG.load xik rfl (fun _ _ => rfl) (v := yI (a2)) rfl rfl ?_
          refine yG.invV (rest := []) A_hq.1 W.m.1 rfl rfl rfl rfl (a_islandOfMeter W d A_hq.1 (M_yMt.fr A_hq (by decide) (by decide)) (a2) (by omega) (by omega)) (fun rv hp9 q9 => ?_)
          obtain ⟨⟨z3, rfl, l_z3, u_z3⟩, e9⟩ := q9
          rw [e9]
          show yG _ _ _ _ _ _ _ _ _ _ (yI z3 :: []) _
          refine yG.load xik rfl (fun _ _ => rfl) (v := yI (p1)) rfl rfl ?_
          refine yG.icmp rfl (t := 58) rfl ⟨by omega, by omega⟩ ⟨by omega, by omega⟩ (fun c4 => ?_) (fun c4 => ?_)
          · have c4 : (z3 : Int) = p1 := c4
            refine yG.num (c := 0) rfl (fun _ _ => rfl) (by decide) ?_
            refine yG.store1 xik (L' := [(3, yI (0)), (0, yR 2073), (1, yI (p1)), (2, yI (a2))]) rfl (fun _ _ => rfl) rfl rfl ?_
            exact yG.mono (yG.sub (i_60 (a2) (0) (ys hq 2073 11) hq A_hq rfl (by omega) (by omega) (by omega) (by omega) (by omega) (by omega) (by omega) (by omega) (by omega)) (ySub.cons rfl (ySub.cons rfl (ySub.cons rfl (ySub.cons rfl (ySub.nil)))))) (by omega)
          · have c4 : (z3 : Int) ≠ p1 := c4
            refine yG.goto rfl (t := 291) rfl ?_
            refine yG.iinc rfl (a := a2) rfl (L' := [(2, yI (a2 + 1)), (0, yR 2073), (1, yI (p1))]) rfl ?_
            refine yG.goto rfl (t := 38) rfl ?_
            exact yG.mono (yG.sub (i_38 (a2 + 1) (ys hq 2073 11) hq A_hq rfl (by omega) (by omega) (by omega) (by omega) (by omega) (by omega) (by omega)) (ySub.cons rfl (ySub.cons rfl (ySub.cons rfl (ySub.nil))))) (by omega)
      · intro a2 a3 gg11 hq A_hq E_11 f0 f1 f2 f3 f4 f5 f6 f7 hm
        refine yG.mono (N := 58 * m + 58) ?_ (by omega)
        refine yG.load xik rfl (fun _ _ => rfl) (v := yI (a3)) rfl rfl ?_
        refine yG.num (c := 16) rfl (fun _ _ => rfl) (by decide) ?_
        refine yG.icmp rfl (t := 84) rfl ⟨by omega, by omega⟩ ⟨by omega, by omega⟩ (fun c1 => ?_) (fun c1 => ?_)
        · have c1 : (a3 : Int) ≥ 16 := c1
          refine yG.load xak rfl (fun _ _ => rfl) (v := yR 2073) rfl rfl ?_
          refine yG.getR A_hq.1 (r_meterKind W) rfl rfl ?_
          refine yG.load xik rfl (fun _ _ => rfl) (v := yI (a2)) rfl rfl ?_
          refine yG.iald A_hq.1 (v_meterKind W) rfl (by omega) (by omega) (fun z2 e_z2 i_z2 l_z2 u_z2 => ?_)
          refine yG.num (c := 2) rfl (fun _ _ => rfl) (by decide) ?_
          refine yG.icmp rfl (t := 111) rfl ⟨by omega, by omega⟩ ⟨by omega, by omega⟩ (fun c3 => ?_) (fun c3 => ?_)
          · have c3 : (z2 : Int) ≠ 2 := c3
            refine yG.num (c := 0) rfl (fun _ _ => rfl) (by decide) ?_
            refine yG.store1 xik (L' := [(3, yI (0)), (0, yR 2073), (1, yI (p1)), (2, yI (a2))]) rfl (fun _ _ => rfl) rfl rfl ?_
            exact yG.mono (yG.sub (i_113 (a2) (0) (ys hq 2073 11) hq A_hq rfl (by omega) (by omega) (by omega) (by omega) (by omega) (by omega) (by omega) (by omega) (by omega)) (ySub.cons rfl (ySub.cons rfl (ySub.cons rfl (ySub.cons rfl (ySub.nil)))))) (by omega)
          · have c3 : (z2 : Int) = 2 := c3
            refine yG.load xak rfl (fun _ _ => rfl) (v := yR 2073) rfl rfl ?_
            refine yG.load xik rfl (fun _ _ => rfl) (v := yI (a2)) rfl rfl ?_
            refine yG.load xak rfl (fun _ _ => rfl) (v := yR 2073) rfl rfl ?_
            refine yG.getR A_hq.1 (r_node W) rfl rfl ?_
            refine yG.load xak rfl (fun _ _ => rfl) (v := yR 2073) rfl rfl ?_
            refine yG.getR A_hq.1 (r_meterAt W) rfl rfl ?_
            refine yG.load xik rfl (fun _ _ => rfl) (v := yI (a2)) rfl rfl ?_
            refine yG.iald A_hq.1 (v_meterAt W) rfl (by omega) (by omega) (fun z4 e_z4 i_z4 l_z4 u_z4 => ?_)
            have w_z4 := (M_yMt.fr A_hq (by decide) (by decide)) (a2) (by omega) (by omega)
            refine yG.iald A_hq.1 (v_node W) rfl (by omega) (by omega) (fun z5 e_z5 i_z5 l_z5 u_z5 => ?_)
            refine yG.numl (c := 1) rfl (fun _ _ => rfl) (by decide) ?_
            refine yG.invV (rest := []) A_hq.1 W.m.1 rfl rfl rfl rfl (a_addShown W (d + 2) A_hq.1 (a2) (z5) (1) (by omega) (by omega) (by omega) (by omega) (by omega) (by omega) (by omega) (by omega)) (fun rv h7 q9 => ?_)
            obtain ⟨rfl, B_h7⟩ := q9
            have A_h7 := A_hq.tr (B_h7.sub (by decide) (by decide))
            have g11_h7 : ys h7 2073 11 = ys hq 2073 11 := B_h7.ys (by decide) (by decide)
            show yG _ _ _ _ _ _ _ _ _ _ [] _
            refine yG.num (c := 0) rfl (fun _ _ => rfl) (by decide) ?_
            refine yG.store1 xik (L' := [(3, yI (0)), (0, yR 2073), (1, yI (p1)), (2, yI (a2))]) rfl (fun _ _ => rfl) rfl rfl ?_
            exact yG.mono (yG.sub (i_113 (a2) (0) (ys h7 2073 11) h7 A_h7 rfl (by omega) (by omega) (by omega) (by omega) (by omega) (by omega) (by omega) (by omega) (by omega)) (ySub.cons rfl (ySub.cons rfl (ySub.cons rfl (ySub.cons rfl (ySub.nil)))))) (by omega)
        · have c1 : (a3 : Int) < 16 := c1
          refine yG.load xak rfl (fun _ _ => rfl) (v := yR 2073) rfl rfl ?_
          refine yG.getR A_hq.1 (r_shows W) rfl rfl ?_
          refine yG.num (c := 16) rfl (fun _ _ => rfl) (by decide) ?_
          refine yG.load xik rfl (fun _ _ => rfl) (v := yI (a2)) rfl rfl ?_
          refine yG.imul rfl ?_
          refine yG.load xik rfl (fun _ _ => rfl) (v := yI (a3)) rfl rfl ?_
          refine yG.iadd rfl ?_
          refine yG.numl (c := 0) rfl (fun _ _ => rfl) (by decide) ?_
          refine yG.last A_hq.1 (v_shows W) (by decide) rfl (by omega) (by omega) ⟨by omega, by omega⟩ (by omega) (by omega) (fun h8 T_h8 b_h8 f_h8 y_h8 => ?_)
          have A_h8 := A_hq.putA T_h8 b_h8 f_h8 (by decide)
          have g11_h8 : ys h8 2073 11 = ys hq 2073 11 := (y_h8 2073 11).trans (if_neg (by omega))
          refine yG.iinc rfl (a := a3) rfl (L' := [(3, yI (a3 + 1)), (0, yR 2073), (1, yI (p1)), (2, yI (a2))]) rfl ?_
          refine yG.goto rfl (t := 60) rfl ?_
          exact yG.mono (yG.sub (i_60 (a2) (a3 + 1) (ys h8 2073 11) h8 A_h8 rfl (by omega) (by omega) (by omega) (by omega) (by omega) (by omega) (by omega) (by omega) (by omega)) (ySub.cons rfl (ySub.cons rfl (ySub.cons rfl (ySub.cons rfl (ySub.nil)))))) (by omega)
      · intro a2 a3 gg11 hq A_hq E_11 f0 f1 f2 f3 f4 f5 f6 f7 hm
        refine yG.mono (N := 58 * m + 58) ?_ (by omega)
        refine yG.load xik rfl (fun _ _ => rfl) (v := yI (a3)) rfl rfl ?_
        refine yG.load xak rfl (fun _ _ => rfl) (v := yR 2073) rfl rfl ?_
        refine yG.getR A_hq.1 (r_count W) rfl rfl ?_
        refine yG.num (c := 2) rfl (fun _ _ => rfl) (by decide) ?_
        refine yG.ialdF A_hq.1 (p_count W) rfl rfl (by omega) (by omega) (fun z1 e_z1 i_z1 l_z1 u_z1 => ?_)
        refine yG.icmp rfl (t := 291) rfl ⟨by omega, by omega⟩ ⟨by omega, by omega⟩ (fun c2 => ?_) (fun c2 => ?_)
        · have c2 : (a3 : Int) ≥ z1 := c2
          refine yG.iinc rfl (a := a2) rfl (L' := [(2, yI (a2 + 1)), (0, yR 2073), (1, yI (p1)), (3, yI (a3))]) rfl ?_
          refine yG.goto rfl (t := 38) rfl ?_
          exact yG.mono (yG.sub (i_38 (a2 + 1) (ys hq 2073 11) hq A_hq rfl (by omega) (by omega) (by omega) (by omega) (by omega) (by omega) (by omega)) (ySub.cons rfl (ySub.cons rfl (ySub.cons rfl (ySub.nil))))) (by omega)
        · have c2 : (a3 : Int) < z1 := c2
          refine yG.load xak rfl (fun _ _ => rfl) (v := yR 2073) rfl rfl ?_
          refine yG.getR A_hq.1 (r_meterKind W) rfl rfl ?_
          refine yG.load xik rfl (fun _ _ => rfl) (v := yI (a2)) rfl rfl ?_
          refine yG.iald A_hq.1 (v_meterKind W) rfl (by omega) (by omega) (fun z3 e_z3 i_z3 l_z3 u_z3 => ?_)
          refine yG.num (c := 2) rfl (fun _ _ => rfl) (by decide) ?_
          refine yG.icmp rfl (t := 291) rfl ⟨by omega, by omega⟩ ⟨by omega, by omega⟩ (fun c4 => ?_) (fun c4 => ?_)
          · have c4 : (z3 : Int) ≥ 2 := c4
            refine yG.iinc rfl (a := a2) rfl (L' := [(2, yI (a2 + 1)), (0, yR 2073), (1, yI (p1)), (3, yI (a3))]) rfl ?_
            refine yG.goto rfl (t := 38) rfl ?_
            exact yG.mono (yG.sub (i_38 (a2 + 1) (ys hq 2073 11) hq A_hq rfl (by omega) (by omega) (by omega) (by omega) (by omega) (by omega) (by omega)) (ySub.cons rfl (ySub.cons rfl (ySub.cons rfl (ySub.nil))))) (by omega)
          · have c4 : (z3 : Int) < 2 := c4
            refine yG.load xak rfl (fun _ _ => rfl) (v := yR 2073) rfl rfl ?_
            refine yG.load xik rfl (fun _ _ => rfl) (v := yI (a3)) rfl rfl ?_
            refine yG.invV (rest := []) A_hq.1 W.m.1 rfl rfl rfl rfl (a_isBetween W d A_hq.1 (a3) (by omega) (by omega)) (fun rv hp9 q9 => ?_)
            obtain ⟨⟨z5, rfl, l_z5, u_z5⟩, e9⟩ := q9
            rw [e9]
            show yG _ _ _ _ _ _ _ _ _ _ (yI z5 :: []) _
            refine yG.ifz rfl (t := 154) rfl ⟨by omega, by omega⟩ (fun c6 => ?_) (fun c6 => ?_)
            · have c6 : (z5 : Int) = 0 := c6
              refine yG.num (c := 0) rfl (fun _ _ => rfl) (by decide) ?_
              refine yG.store1 xik (L' := [(4, yI (0)), (0, yR 2073), (1, yI (p1)), (2, yI (a2)), (3, yI (a3))]) rfl (fun _ _ => rfl) rfl rfl ?_
              refine yG.num (c := 0) rfl (fun _ _ => rfl) (by decide) ?_
              refine yG.store1 xik (L' := [(5, yI (0)), (4, yI (0)), (0, yR 2073), (1, yI (p1)), (2, yI (a2)), (3, yI (a3))]) rfl (fun _ _ => rfl) rfl rfl ?_
              exact yG.mono (yG.sub (i_160 (a2) (a3) (0) (0) (ys hq 2073 11) hq A_hq rfl (by omega) (by omega) (by omega) (by omega) (by omega) (by omega) (by omega) (by omega) (by omega) (by omega) (by omega) (by omega) (by omega) (by omega)) (ySub.cons rfl (ySub.cons rfl (ySub.cons rfl (ySub.cons rfl (ySub.cons rfl (ySub.cons rfl (ySub.nil)))))))) (by omega)
            · have c6 : (z5 : Int) ≠ 0 := c6
              refine yG.load xak rfl (fun _ _ => rfl) (v := yR 2073) rfl rfl ?_
              refine yG.load xik rfl (fun _ _ => rfl) (v := yI (a3)) rfl rfl ?_
              refine yG.invV (rest := []) A_hq.1 W.m.1 rfl rfl rfl rfl (a_islandOfLine W (d + 1) A_hq.1 (a3) (by omega) (by omega)) (fun rv hp9 q9 => ?_)
              obtain ⟨⟨z7, rfl, l_z7, u_z7⟩, e9⟩ := q9
              rw [e9]
              show yG _ _ _ _ _ _ _ _ _ _ (yI z7 :: []) _
              refine yG.load xik rfl (fun _ _ => rfl) (v := yI (p1)) rfl rfl ?_
              refine yG.icmp rfl (t := 154) rfl ⟨by omega, by omega⟩ ⟨by omega, by omega⟩ (fun c8 => ?_) (fun c8 => ?_)
              · have c8 : (z7 : Int) ≠ p1 := c8
                refine yG.num (c := 0) rfl (fun _ _ => rfl) (by decide) ?_
                refine yG.store1 xik (L' := [(4, yI (0)), (0, yR 2073), (1, yI (p1)), (2, yI (a2)), (3, yI (a3))]) rfl (fun _ _ => rfl) rfl rfl ?_
                refine yG.num (c := 0) rfl (fun _ _ => rfl) (by decide) ?_
                refine yG.store1 xik (L' := [(5, yI (0)), (4, yI (0)), (0, yR 2073), (1, yI (p1)), (2, yI (a2)), (3, yI (a3))]) rfl (fun _ _ => rfl) rfl rfl ?_
                exact yG.mono (yG.sub (i_160 (a2) (a3) (0) (0) (ys hq 2073 11) hq A_hq rfl (by omega) (by omega) (by omega) (by omega) (by omega) (by omega) (by omega) (by omega) (by omega) (by omega) (by omega) (by omega) (by omega) (by omega)) (ySub.cons rfl (ySub.cons rfl (ySub.cons rfl (ySub.cons rfl (ySub.cons rfl (ySub.cons rfl (ySub.nil)))))))) (by omega)
              · have c8 : (z7 : Int) = p1 := c8
                refine yG.num (c := 1) rfl (fun _ _ => rfl) (by decide) ?_
                refine yG.goto rfl (t := 155) rfl ?_
                refine yG.store1 xik (L' := [(4, yI (1)), (0, yR 2073), (1, yI (p1)), (2, yI (a2)), (3, yI (a3))]) rfl (fun _ _ => rfl) rfl rfl ?_
                refine yG.num (c := 0) rfl (fun _ _ => rfl) (by decide) ?_
                refine yG.store1 xik (L' := [(5, yI (0)), (4, yI (1)), (0, yR 2073), (1, yI (p1)), (2, yI (a2)), (3, yI (a3))]) rfl (fun _ _ => rfl) rfl rfl ?_
                exact yG.mono (yG.sub (i_160 (a2) (a3) (1) (0) (ys hq 2073 11) hq A_hq rfl (by omega) (by omega) (by omega) (by omega) (by omega) (by omega) (by omega) (by omega) (by omega) (by omega) (by omega) (by omega) (by omega) (by omega)) (ySub.cons rfl (ySub.cons rfl (ySub.cons rfl (ySub.cons rfl (ySub.cons rfl (ySub.cons rfl (ySub.nil)))))))) (by omega)
      · intro a2 a3 a4 a5 gg11 hq A_hq E_11 f0 f1 f2 f3 f4 f5 f6 f7 f8 f9 f10 f11 f12 hm
        refine yG.mono (N := 58 * m + 58) ?_ (by omega)
        refine yG.load xik rfl (fun _ _ => rfl) (v := yI (a5)) rfl rfl ?_
        refine yG.num (c := 2) rfl (fun _ _ => rfl) (by decide) ?_
        refine yG.icmp rfl (t := 285) rfl ⟨by omega, by omega⟩ ⟨by omega, by omega⟩ (fun c1 => ?_) (fun c1 => ?_)
        · have c1 : (a5 : Int) ≥ 2 := c1
          refine yG.iinc rfl (a := a3) rfl (L' := [(3, yI (a3 + 1)), (0, yR 2073), (1, yI (p1)), (2, yI (a2)), (4, yI (a4)), (5, yI (a5))]) rfl ?_
          refine yG.goto rfl (t := 113) rfl ?_
          exact yG.mono (yG.sub (i_113 (a2) (a3 + 1) (ys hq 2073 11) hq A_hq rfl (by omega) (by omega) (by omega) (by omega) (by omega) (by omega) (by omega) (by omega) (by omega)) (ySub.cons rfl (ySub.cons rfl (ySub.cons rfl (ySub.cons rfl (ySub.nil)))))) (by omega)
        · have c1 : (a5 : Int) < 2 := c1
          refine yG.load xik rfl (fun _ _ => rfl) (v := yI (a4)) rfl rfl ?_
          refine yG.ifz rfl (t := 285) rfl ⟨by omega, by omega⟩ (fun c2 => ?_) (fun c2 => ?_)
          · have c2 : (a4 : Int) = 0 := c2
            refine yG.iinc rfl (a := a3) rfl (L' := [(3, yI (a3 + 1)), (0, yR 2073), (1, yI (p1)), (2, yI (a2)), (4, yI (a4)), (5, yI (a5))]) rfl ?_
            refine yG.goto rfl (t := 113) rfl ?_
            exact yG.mono (yG.sub (i_113 (a2) (a3 + 1) (ys hq 2073 11) hq A_hq rfl (by omega) (by omega) (by omega) (by omega) (by omega) (by omega) (by omega) (by omega) (by omega)) (ySub.cons rfl (ySub.cons rfl (ySub.cons rfl (ySub.cons rfl (ySub.nil)))))) (by omega)
          · have c2 : (a4 : Int) ≠ 0 := c2
            refine yG.load xak rfl (fun _ _ => rfl) (v := yR 2073) rfl rfl ?_
            refine yG.getR A_hq.1 (r_meterKind W) rfl rfl ?_
            refine yG.load xik rfl (fun _ _ => rfl) (v := yI (a2)) rfl rfl ?_
            refine yG.iald A_hq.1 (v_meterKind W) rfl (by omega) (by omega) (fun z3 e_z3 i_z3 l_z3 u_z3 => ?_)
            refine yG.ifz rfl (t := 203) rfl ⟨by omega, by omega⟩ (fun c4 => ?_) (fun c4 => ?_)
            · have c4 : (z3 : Int) ≠ 0 := c4
              refine yG.load xak rfl (fun _ _ => rfl) (v := yR 2073) rfl rfl ?_
              refine yG.load xik rfl (fun _ _ => rfl) (v := yI (a3)) rfl rfl ?_
              refine yG.load xik rfl (fun _ _ => rfl) (v := yI (a5)) rfl rfl ?_
              refine yG.invV (rest := []) A_hq.1 W.m.1 rfl rfl rfl rfl (a_nodeOfLine W (d + 1) A_hq.1 (a3) (a5) (by omega) (by omega) (by omega) (by omega)) (fun rv hp9 q9 => ?_)
              obtain ⟨⟨z5, rfl, l_z5, u_z5⟩, e9⟩ := q9
              rw [e9]
              show yG _ _ _ _ _ _ _ _ _ _ (yI z5 :: []) _
              refine yG.load xak rfl (fun _ _ => rfl) (v := yR 2073) rfl rfl ?_
              refine yG.getR A_hq.1 (r_node W) rfl rfl ?_
              refine yG.load xak rfl (fun _ _ => rfl) (v := yR 2073) rfl rfl ?_
              refine yG.getR A_hq.1 (r_meterAt W) rfl rfl ?_
              refine yG.load xik rfl (fun _ _ => rfl) (v := yI (a2)) rfl rfl ?_
              refine yG.iald A_hq.1 (v_meterAt W) rfl (by omega) (by omega) (fun z6 e_z6 i_z6 l_z6 u_z6 => ?_)
              have w_z6 := (M_yMt.fr A_hq (by decide) (by decide)) (a2) (by omega) (by omega)
              refine yG.iald A_hq.1 (v_node W) rfl (by omega) (by omega) (fun z7 e_z7 i_z7 l_z7 u_z7 => ?_)
              refine yG.icmp rfl (t := 228) rfl ⟨by omega, by omega⟩ ⟨by omega, by omega⟩ (fun c8 => ?_) (fun c8 => ?_)
              · have c8 : (z5 : Int) ≠ z7 := c8
                refine yG.num (c := 0) rfl (fun _ _ => rfl) (by decide) ?_
                refine yG.store1 xik (L' := [(6, yI (0)), (0, yR 2073), (1, yI (p1)), (2, yI (a2)), (3, yI (a3)), (4, yI (a4)), (5, yI (a5))]) rfl (fun _ _ => rfl) rfl rfl ?_
                refine yG.load xik rfl (fun _ _ => rfl) (v := yI (0)) rfl rfl ?_
                refine yG.ifz rfl (t := 279) rfl ⟨by omega, by omega⟩ (fun c9 => ?_) (fun c9 => ?_)
                · have c9 : (0 : Int) = 0 := c9
                  refine yG.iinc rfl (a := a5) rfl (L' := [(5, yI (a5 + 1)), (6, yI (0)), (0, yR 2073), (1, yI (p1)), (2, yI (a2)), (3, yI (a3)), (4, yI (a4))]) rfl ?_
                  refine yG.goto rfl (t := 160) rfl ?_
                  exact yG.mono (yG.sub (i_160 (a2) (a3) (a4) (a5 + 1) (ys hq 2073 11) hq A_hq rfl (by omega) (by omega) (by omega) (by omega) (by omega) (by omega) (by omega) (by omega) (by omega) (by omega) (by omega) (by omega) (by omega) (by omega)) (ySub.cons rfl (ySub.cons rfl (ySub.cons rfl (ySub.cons rfl (ySub.cons rfl (ySub.cons rfl (ySub.nil)))))))) (by omega)
                · have c9 : (0 : Int) ≠ 0 := c9
                  exfalso; omega
              · have c8 : (z5 : Int) = z7 := c8
                refine yG.num (c := 1) rfl (fun _ _ => rfl) (by decide) ?_
                refine yG.goto rfl (t := 229) rfl ?_
                refine yG.store1 xik (L' := [(6, yI (1)), (0, yR 2073), (1, yI (p1)), (2, yI (a2)), (3, yI (a3)), (4, yI (a4)), (5, yI (a5))]) rfl (fun _ _ => rfl) rfl rfl ?_
                refine yG.load xik rfl (fun _ _ => rfl) (v := yI (1)) rfl rfl ?_
                refine yG.ifz rfl (t := 279) rfl ⟨by omega, by omega⟩ (fun c10 => ?_) (fun c10 => ?_)
                · have c10 : (1 : Int) = 0 := c10
                  exfalso; omega
                · have c10 : (1 : Int) ≠ 0 := c10
                  refine yG.load xak rfl (fun _ _ => rfl) (v := yR 2073) rfl rfl ?_
                  refine yG.load xik rfl (fun _ _ => rfl) (v := yI (a2)) rfl rfl ?_
                  refine yG.load xak rfl (fun _ _ => rfl) (v := yR 2073) rfl rfl ?_
                  refine yG.load xik rfl (fun _ _ => rfl) (v := yI (a3)) rfl rfl ?_
                  refine yG.load xik rfl (fun _ _ => rfl) (v := yI (a5)) rfl rfl ?_
                  refine yG.invV (rest := [yI (a2), yR 2073]) A_hq.1 W.m.1 rfl rfl rfl rfl (a_nodeOfLine W (d + 1) A_hq.1 (a3) (a5) (by omega) (by omega) (by omega) (by omega)) (fun rv hp9 q9 => ?_)
                  obtain ⟨⟨z11, rfl, l_z11, u_z11⟩, e9⟩ := q9
                  rw [e9]
                  show yG _ _ _ _ _ _ _ _ _ _ (yI z11 :: [yI (a2), yR 2073]) _
                  refine yG.load xak rfl (fun _ _ => rfl) (v := yR 2073) rfl rfl ?_
                  refine yG.getR A_hq.1 (r_conductance W) rfl rfl ?_
                  refine yG.load xik rfl (fun _ _ => rfl) (v := yI (a3)) rfl rfl ?_
                  refine yG.lald A_hq.1 (v_conductance W) rfl (by omega) (by omega) (fun z12 e_z12 i_z12 l_z12 u_z12 => ?_)
                  refine yG.invV (rest := []) A_hq.1 W.m.1 rfl rfl rfl rfl (a_addShown W (d + 2) A_hq.1 (a2) (z11) (z12) (by omega) (by omega) (by omega) (by omega) (by omega) (by omega) (by omega) (by omega)) (fun rv h14 q9 => ?_)
                  obtain ⟨rfl, B_h14⟩ := q9
                  have A_h14 := A_hq.tr (B_h14.sub (by decide) (by decide))
                  have g11_h14 : ys h14 2073 11 = ys hq 2073 11 := B_h14.ys (by decide) (by decide)
                  show yG _ _ _ _ _ _ _ _ _ _ [] _
                  refine yG.load xak rfl (fun _ _ => rfl) (v := yR 2073) rfl rfl ?_
                  refine yG.load xik rfl (fun _ _ => rfl) (v := yI (a2)) rfl rfl ?_
                  refine yG.load xak rfl (fun _ _ => rfl) (v := yR 2073) rfl rfl ?_
                  refine yG.load xik rfl (fun _ _ => rfl) (v := yI (a3)) rfl rfl ?_
                  refine yG.num (c := 1) rfl (fun _ _ => rfl) (by decide) ?_
                  refine yG.load xik rfl (fun _ _ => rfl) (v := yI (a5)) rfl rfl ?_
                  refine yG.isub rfl ?_
                  refine yG.invV (rest := [yI (a2), yR 2073]) A_h14.1 W.m.1 rfl rfl rfl rfl (a_nodeOfLine W (d + 1) A_h14.1 (a3) (1 - a5) (by omega) (by omega) (by omega) (by omega)) (fun rv hp9 q9 => ?_)
                  obtain ⟨⟨z15, rfl, l_z15, u_z15⟩, e9⟩ := q9
                  rw [e9]
                  show yG _ _ _ _ _ _ _ _ _ _ (yI z15 :: [yI (a2), yR 2073]) _
                  refine yG.load xak rfl (fun _ _ => rfl) (v := yR 2073) rfl rfl ?_
                  refine yG.getJ A_h14.1 (w_p W) rfl rfl (fun z16 e_z16 i_z16 l_z16 u_z16 => ?_)
                  refine yG.load xak rfl (fun _ _ => rfl) (v := yR 2073) rfl rfl ?_
                  refine yG.getR A_h14.1 (r_conductance W) rfl rfl ?_
                  refine yG.load xik rfl (fun _ _ => rfl) (v := yI (a3)) rfl rfl ?_
                  refine yG.lald A_h14.1 (v_conductance W) rfl (by omega) (by omega) (fun z17 e_z17 i_z17 l_z17 u_z17 => ?_)
                  refine yG.lsub rfl ?_
                  refine yG.invV (rest := []) A_h14.1 W.m.1 rfl rfl rfl rfl (a_addShown_wide W (d + 2) A_h14.1 (a2) (z15) (z16 - z17) (by omega) (by omega) (by omega) (by omega) (by omega) (by omega) (by omega) (by omega)) (fun rv h19 q9 => ?_)
                  obtain ⟨rfl, B_h19⟩ := q9
                  have A_h19 := A_h14.tr (B_h19.sub (by decide) (by decide))
                  have g11_h19 : ys h19 2073 11 = ys h14 2073 11 := B_h19.ys (by decide) (by decide)
                  show yG _ _ _ _ _ _ _ _ _ _ [] _
                  refine yG.iinc rfl (a := a5) rfl (L' := [(5, yI (a5 + 1)), (6, yI (1)), (0, yR 2073), (1, yI (p1)), (2, yI (a2)), (3, yI (a3)), (4, yI (a4))]) rfl ?_
                  refine yG.goto rfl (t := 160) rfl ?_
                  exact yG.mono (yG.sub (i_160 (a2) (a3) (a4) (a5 + 1) (ys h19 2073 11) h19 A_h19 rfl (by omega) (by omega) (by omega) (by omega) (by omega) (by omega) (by omega) (by omega) (by omega) (by omega) (by omega) (by omega) (by omega) (by omega)) (ySub.cons rfl (ySub.cons rfl (ySub.cons rfl (ySub.cons rfl (ySub.cons rfl (ySub.cons rfl (ySub.nil)))))))) (by omega)
            · have c4 : (z3 : Int) = 0 := c4
              refine yG.load xik rfl (fun _ _ => rfl) (v := yI (a3)) rfl rfl ?_
              refine yG.load xak rfl (fun _ _ => rfl) (v := yR 2073) rfl rfl ?_
              refine yG.getR A_hq.1 (r_meterAt W) rfl rfl ?_
              refine yG.load xik rfl (fun _ _ => rfl) (v := yI (a2)) rfl rfl ?_
              refine yG.iald A_hq.1 (v_meterAt W) rfl (by omega) (by omega) (fun z20 e_z20 i_z20 l_z20 u_z20 => ?_)
              have w_z20 := (M_yMt.fr A_hq (by decide) (by decide)) (a2) (by omega) (by omega)
              refine yG.icmp rfl (t := 199) rfl ⟨by omega, by omega⟩ ⟨by omega, by omega⟩ (fun c21 => ?_) (fun c21 => ?_)
              · have c21 : (a3 : Int) ≠ z20 := c21
                refine yG.num (c := 0) rfl (fun _ _ => rfl) (by decide) ?_
                refine yG.goto rfl (t := 229) rfl ?_
                refine yG.store1 xik (L' := [(6, yI (0)), (0, yR 2073), (1, yI (p1)), (2, yI (a2)), (3, yI (a3)), (4, yI (a4)), (5, yI (a5))]) rfl (fun _ _ => rfl) rfl rfl ?_
                refine yG.load xik rfl (fun _ _ => rfl) (v := yI (0)) rfl rfl ?_
                refine yG.ifz rfl (t := 279) rfl ⟨by omega, by omega⟩ (fun c22 => ?_) (fun c22 => ?_)
                · have c22 : (0 : Int) = 0 := c22
                  refine yG.iinc rfl (a := a5) rfl (L' := [(5, yI (a5 + 1)), (6, yI (0)), (0, yR 2073), (1, yI (p1)), (2, yI (a2)), (3, yI (a3)), (4, yI (a4))]) rfl ?_
                  refine yG.goto rfl (t := 160) rfl ?_
                  exact yG.mono (yG.sub (i_160 (a2) (a3) (a4) (a5 + 1) (ys hq 2073 11) hq A_hq rfl (by omega) (by omega) (by omega) (by omega) (by omega) (by omega) (by omega) (by omega) (by omega) (by omega) (by omega) (by omega) (by omega) (by omega)) (ySub.cons rfl (ySub.cons rfl (ySub.cons rfl (ySub.cons rfl (ySub.cons rfl (ySub.cons rfl (ySub.nil)))))))) (by omega)
                · have c22 : (0 : Int) ≠ 0 := c22
                  exfalso; omega
              · have c21 : (a3 : Int) = z20 := c21
                refine yG.load xik rfl (fun _ _ => rfl) (v := yI (a5)) rfl rfl ?_
                refine yG.ifz rfl (t := 199) rfl ⟨by omega, by omega⟩ (fun c23 => ?_) (fun c23 => ?_)
                · have c23 : (a5 : Int) ≠ 0 := c23
                  refine yG.num (c := 0) rfl (fun _ _ => rfl) (by decide) ?_
                  refine yG.goto rfl (t := 229) rfl ?_
                  refine yG.store1 xik (L' := [(6, yI (0)), (0, yR 2073), (1, yI (p1)), (2, yI (a2)), (3, yI (a3)), (4, yI (a4)), (5, yI (a5))]) rfl (fun _ _ => rfl) rfl rfl ?_
                  refine yG.load xik rfl (fun _ _ => rfl) (v := yI (0)) rfl rfl ?_
                  refine yG.ifz rfl (t := 279) rfl ⟨by omega, by omega⟩ (fun c24 => ?_) (fun c24 => ?_)
                  · have c24 : (0 : Int) = 0 := c24
                    refine yG.iinc rfl (a := a5) rfl (L' := [(5, yI (a5 + 1)), (6, yI (0)), (0, yR 2073), (1, yI (p1)), (2, yI (a2)), (3, yI (a3)), (4, yI (a4))]) rfl ?_
                    refine yG.goto rfl (t := 160) rfl ?_
                    exact yG.mono (yG.sub (i_160 (a2) (a3) (a4) (a5 + 1) (ys hq 2073 11) hq A_hq rfl (by omega) (by omega) (by omega) (by omega) (by omega) (by omega) (by omega) (by omega) (by omega) (by omega) (by omega) (by omega) (by omega) (by omega)) (ySub.cons rfl (ySub.cons rfl (ySub.cons rfl (ySub.cons rfl (ySub.cons rfl (ySub.cons rfl (ySub.nil)))))))) (by omega)
                  · have c24 : (0 : Int) ≠ 0 := c24
                    exfalso; omega
                · have c23 : (a5 : Int) = 0 := c23
                  refine yG.num (c := 1) rfl (fun _ _ => rfl) (by decide) ?_
                  refine yG.goto rfl (t := 229) rfl ?_
                  refine yG.store1 xik (L' := [(6, yI (1)), (0, yR 2073), (1, yI (p1)), (2, yI (a2)), (3, yI (a3)), (4, yI (a4)), (5, yI (a5))]) rfl (fun _ _ => rfl) rfl rfl ?_
                  refine yG.load xik rfl (fun _ _ => rfl) (v := yI (1)) rfl rfl ?_
                  refine yG.ifz rfl (t := 279) rfl ⟨by omega, by omega⟩ (fun c25 => ?_) (fun c25 => ?_)
                  · have c25 : (1 : Int) = 0 := c25
                    exfalso; omega
                  · have c25 : (1 : Int) ≠ 0 := c25
                    refine yG.load xak rfl (fun _ _ => rfl) (v := yR 2073) rfl rfl ?_
                    refine yG.load xik rfl (fun _ _ => rfl) (v := yI (a2)) rfl rfl ?_
                    refine yG.load xak rfl (fun _ _ => rfl) (v := yR 2073) rfl rfl ?_
                    refine yG.load xik rfl (fun _ _ => rfl) (v := yI (a3)) rfl rfl ?_
                    refine yG.load xik rfl (fun _ _ => rfl) (v := yI (a5)) rfl rfl ?_
                    refine yG.invV (rest := [yI (a2), yR 2073]) A_hq.1 W.m.1 rfl rfl rfl rfl (a_nodeOfLine W (d + 1) A_hq.1 (a3) (a5) (by omega) (by omega) (by omega) (by omega)) (fun rv hp9 q9 => ?_)
                    obtain ⟨⟨z26, rfl, l_z26, u_z26⟩, e9⟩ := q9
                    rw [e9]
                    show yG _ _ _ _ _ _ _ _ _ _ (yI z26 :: [yI (a2), yR 2073]) _
                    refine yG.load xak rfl (fun _ _ => rfl) (v := yR 2073) rfl rfl ?_
                    refine yG.getR A_hq.1 (r_conductance W) rfl rfl ?_
                    refine yG.load xik rfl (fun _ _ => rfl) (v := yI (a3)) rfl rfl ?_
                    refine yG.lald A_hq.1 (v_conductance W) rfl (by omega) (by omega) (fun z27 e_z27 i_z27 l_z27 u_z27 => ?_)
                    refine yG.invV (rest := []) A_hq.1 W.m.1 rfl rfl rfl rfl (a_addShown W (d + 2) A_hq.1 (a2) (z26) (z27) (by omega) (by omega) (by omega) (by omega) (by omega) (by omega) (by omega) (by omega)) (fun rv h29 q9 => ?_)
                    obtain ⟨rfl, B_h29⟩ := q9
                    have A_h29 := A_hq.tr (B_h29.sub (by decide) (by decide))
                    have g11_h29 : ys h29 2073 11 = ys hq 2073 11 := B_h29.ys (by decide) (by decide)
                    show yG _ _ _ _ _ _ _ _ _ _ [] _
                    refine yG.load xak rfl (fun _ _ => rfl) (v := yR 2073) rfl rfl ?_
                    refine yG.load xik rfl (fun _ _ => rfl) (v := yI (a2)) rfl rfl ?_
                    refine yG.load xak rfl (fun _ _ => rfl) (v := yR 2073) rfl rfl ?_
                    refine yG.load xik rfl (fun _ _ => rfl) (v := yI (a3)) rfl rfl ?_
                    refine yG.num (c := 1) rfl (fun _ _ => rfl) (by decide) ?_
                    refine yG.load xik rfl (fun _ _ => rfl) (v := yI (a5)) rfl rfl ?_
                    refine yG.isub rfl ?_
                    refine yG.invV (rest := [yI (a2), yR 2073]) A_h29.1 W.m.1 rfl rfl rfl rfl (a_nodeOfLine W (d + 1) A_h29.1 (a3) (1 - a5) (by omega) (by omega) (by omega) (by omega)) (fun rv hp9 q9 => ?_)
                    obtain ⟨⟨z30, rfl, l_z30, u_z30⟩, e9⟩ := q9
                    rw [e9]
                    show yG _ _ _ _ _ _ _ _ _ _ (yI z30 :: [yI (a2), yR 2073]) _
                    refine yG.load xak rfl (fun _ _ => rfl) (v := yR 2073) rfl rfl ?_
                    refine yG.getJ A_h29.1 (w_p W) rfl rfl (fun z31 e_z31 i_z31 l_z31 u_z31 => ?_)
                    refine yG.load xak rfl (fun _ _ => rfl) (v := yR 2073) rfl rfl ?_
                    refine yG.getR A_h29.1 (r_conductance W) rfl rfl ?_
                    refine yG.load xik rfl (fun _ _ => rfl) (v := yI (a3)) rfl rfl ?_
                    refine yG.lald A_h29.1 (v_conductance W) rfl (by omega) (by omega) (fun z32 e_z32 i_z32 l_z32 u_z32 => ?_)
                    refine yG.lsub rfl ?_
                    refine yG.invV (rest := []) A_h29.1 W.m.1 rfl rfl rfl rfl (a_addShown_wide W (d + 2) A_h29.1 (a2) (z30) (z31 - z32) (by omega) (by omega) (by omega) (by omega) (by omega) (by omega) (by omega) (by omega)) (fun rv h34 q9 => ?_)
                    obtain ⟨rfl, B_h34⟩ := q9
                    have A_h34 := A_h29.tr (B_h34.sub (by decide) (by decide))
                    have g11_h34 : ys h34 2073 11 = ys h29 2073 11 := B_h34.ys (by decide) (by decide)
                    show yG _ _ _ _ _ _ _ _ _ _ [] _
                    refine yG.iinc rfl (a := a5) rfl (L' := [(5, yI (a5 + 1)), (6, yI (1)), (0, yR 2073), (1, yI (p1)), (2, yI (a2)), (3, yI (a3)), (4, yI (a4))]) rfl ?_
                    refine yG.goto rfl (t := 160) rfl ?_
                    exact yG.mono (yG.sub (i_160 (a2) (a3) (a4) (a5 + 1) (ys h34 2073 11) h34 A_h34 rfl (by omega) (by omega) (by omega) (by omega) (by omega) (by omega) (by omega) (by omega) (by omega) (by omega) (by omega) (by omega) (by omega) (by omega)) (ySub.cons rfl (ySub.cons rfl (ySub.cons rfl (ySub.cons rfl (ySub.cons rfl (ySub.cons rfl (ySub.nil)))))))) (by omega)
  refine yC.of (M := (xt_X13_showAll, (7, (0, (14, []))))) rfl rfl (N := 101169632) (yfuel (by decide)) ?_
  show yG 89 xfts (xcall 89 xfts xpools xms (d + 4)) (xpool xp_RX13) [] xt_X13_showAll (yP 0 (yQv G [] [2122, 2123] hp)) 101169632 0 [(0, yR 2073), (1, yI (p1))] [] hp
  obtain ⟨i_2, i_38, i_60, i_113, i_160⟩ := H 1744303
  obtain ⟨gg11, E_11⟩ : ∃ z : Int, ys hp 2073 11 = z := ⟨_, rfl⟩
  obtain ⟨-, -, r_11l, r_11u⟩ := (w_p W).long hT
  refine yG.num (c := 0) rfl (fun _ _ => rfl) (by decide) ?_
  refine yG.store1 xik (L' := [(2, yI (0)), (0, yR 2073), (1, yI (p1))]) rfl (fun _ _ => rfl) rfl rfl ?_
  exact yG.mono (yG.sub (i_2 (0) (ys hp 2073 11) hp A_hp rfl (by omega) (by omega) (by omega) (by omega) (by omega) (by omega) (by omega)) (ySub.cons rfl (ySub.cons rfl (ySub.cons rfl (ySub.nil))))) (by omega)
theorem a_equations {hp : xH} (W : yWW G) (d : Nat) (hT : zTy G hp) (M_yMt : yMt hp) (p1 p2 : Int) (h1l : 0 ≤ p1) (h1u : p1 ≤ 15) (h2l : 0 ≤ p2) (h2u : p2 ≤ 15) (q11l : 1 ≤ ys hp 2073 11) (q11u : ys hp 2073 11 ≤ 2147483647) : yC (xcall 89 xfts xpools xms (d + 6)) 391 [yR 2073, yI (p1), yI (p2)] hp (yQj G [] [2083] hp 0 2147483646) := by
  have A_hp : yAx G [] [2083] hp hp := yAx.rf hT
  have H : ∀ m : Nat, (∀ a3 a5 gg11 : Int, ∀ hq, yAx G [] [2083] hp hq → ys hq 2073 11 = gg11 → 0 ≤ a3 → (-2147483646) ≤ 0 - a3 → 0 ≤ a5 → (-20) ≤ 0 - a5 → 1 ≤ gg11 → (-2147483647) ≤ 0 - gg11 → 0 ≤ p1 → (-15) ≤ 0 - p1 → 0 ≤ p2 → (-15) ≤ 0 - p2 → (-2147483645) ≤ 0 - a3 + a5 → 0 ≤ 0 - a3 + gg11 → 0 - 25906 * a5 + 544025 < (m : Int) → yG 89 xfts (xcall 89 xfts xpools xms (d + 5)) (xpool xp_RX13) [] xt_X13_equations (yP 2 (yQj G [] [2083] hp 0 2147483646)) (41 * m) 5 [(0, yR 2073), (1, yI (p1)), (2, yI (p2)), (3, yJ (a3)), (5, yI (a5))] [] hq) ∧ (∀ a3 a5 gg11 : Int, ∀ hq, yAx G [] [2083] hp hq → ys hq 2073 11 = gg11 → 0 ≤ a3 → (-2147483646) ≤ 0 - a3 → 0 ≤ a5 → (-32) ≤ 0 - a5 → 1 ≤ gg11 → (-2147483647) ≤ 0 - gg11 → 0 ≤ p1 → (-15) ≤ 0 - p1 → 0 ≤ p2 → (-15) ≤ 0 - p2 → 0 ≤ 0 - a3 + gg11 → 0 - 785 * a5 + 25904 < (m : Int) → yG 89 xfts (xcall 89 xfts xpools xms (d + 5)) (xpool xp_RX13) [] xt_X13_equations (yP 2 (yQj G [] [2083] hp 0 2147483646)) (41 * m) 75 [(0, yR 2073), (1, yI (p1)), (2, yI (p2)), (3, yJ (a3)), (5, yI (a5))] [] hq) ∧ (∀ a3 a5 a6 gg11 : Int, ∀ hq, yAx G [] [2083] hp hq → ys hq 2073 11 = gg11 → 0 ≤ a3 → (-2147483646) ≤ 0 - a3 → 0 ≤ a5 → (-31) ≤ 0 - a5 → 0 ≤ a6 → (-15) ≤ 0 - a6 → 1 ≤ gg11 → (-2147483647) ≤ 0 - gg11 → 0 ≤ p1 → (-15) ≤ 0 - p1 → 0 ≤ p2 → (-15) ≤ 0 - p2 → 0 ≤ 0 - a3 + gg11 → 0 ≤ 0 - a6 + p2 → 0 - 785 * a5 - 49 * a6 + 25903 < (m : Int) → yG 89 xfts (xcall 89 xfts xpools xms (d + 5)) (xpool xp_RX13) [] xt_X13_equations (yP 2 (yQj G [] [2083] hp 0 2147483646)) (41 * m) 87 [(0, yR 2073), (1, yI (p1)), (2, yI (p2)), (3, yJ (a3)), (5, yI (a5)), (6, yI (a6))] [] hq) ∧ (∀ a3 a5 a6 a7 a9 gg11 : Int, ∀ hq, yAx G [] [2083] hp hq → ys hq 2073 11 = gg11 → 0 ≤ a3 → (-2147483646) ≤ 0 - a3 → 0 ≤ a5 → (-31) ≤ 0 - a5 → 0 ≤ a6 → (-14) ≤ 0 - a6 → 0 ≤ a7 → (-2147483646) ≤ 0 - a7 → 0 ≤ a9 → (-15) ≤ 0 - a9 → 1 ≤ gg11 → (-2147483647) ≤ 0 - gg11 → 0 ≤ p1 → (-15) ≤ 0 - p1 → 1 ≤ p2 → (-15) ≤ 0 - p2 → (-14) ≤ a7 - a9 → 0 ≤ 0 - a3 + gg11 → 1 ≤ 0 - a7 + gg11 → 1 ≤ 0 - a6 + p2 → 0 ≤ 0 - a9 + p2 → 0 - 785 * a5 - 49 * a6 - 3 * a9 + 25902 < (m : Int) → yG 89 xfts (xcall 89 xfts xpools xms (d + 5)) (xpool xp_RX13) [] xt_X13_equations (yP 2 (yQj G [] [2083] hp 0 2147483646)) (41 * m) 135 [(0, yR 2073), (1, yI (p1)), (2, yI (p2)), (3, yJ (a3)), (5, yI (a5)), (6, yI (a6)), (7, yJ (a7)), (9, yI (a9))] [] hq) ∧ (∀ a3 a5 a6 a7 gg11 : Int, ∀ hq, yAx G [] [2083] hp hq → ys hq 2073 11 = gg11 → 0 ≤ a3 → (-2147483646) ≤ 0 - a3 → 0 ≤ a5 → (-31) ≤ 0 - a5 → 0 ≤ a6 → (-14) ≤ 0 - a6 → 0 ≤ a7 → (-2147483646) ≤ 0 - a7 → 1 ≤ gg11 → (-2147483647) ≤ 0 - gg11 → 0 ≤ p1 → (-15) ≤ 0 - p1 → 1 ≤ p2 → (-15) ≤ 0 - p2 → 0 ≤ 0 - a3 + gg11 → 1 ≤ 0 - a7 + gg11 → 1 ≤ 0 - a6 + p2 → 0 - 785 * a5 - 49 * a6 + 25856 < (m : Int) → yG 89 xfts (xcall 89 xfts xpools xms (d + 5)) (xpool xp_RX13) [] xt_X13_equations (yP 2 (yQj G [] [2083] hp 0 2147483646)) (41 * m) 202 [(0, yR 2073), (1, yI (p1)), (2, yI (p2)), (3, yJ (a3)), (5, yI (a5)), (6, yI (a6)), (7, yJ (a7))] [] hq) ∧ (∀ a3 a5 gg11 : Int, ∀ hq, yAx G [] [2083] hp hq → ys hq 2073 11 = gg11 → 0 ≤ a3 → (-2147483646) ≤ 0 - a3 → 0 ≤ a5 → (-15) ≤ 0 - a5 → 1 ≤ gg11 → (-2147483647) ≤ 0 - gg11 → 0 ≤ p1 → (-15) ≤ 0 - p1 → 0 ≤ p2 → (-15) ≤ 0 - p2 → 0 ≤ 0 - a3 + gg11 → 0 ≤ 0 - a5 + p2 → 0 - 2 * a5 + 31 < (m : Int) → yG 89 xfts (xcall 89 xfts xpools xms (d + 5)) (xpool xp_RX13) [] xt_X13_equations (yP 2 (yQj G [] [2083] hp 0 2147483646)) (41 * m) 262 [(0, yR 2073), (2, yI (p2)), (3, yJ (a3)), (5, yI (a5))] [] hq) := by
    intro m
    induction m with
    | zero =>
      refine ⟨?_, ?_, ?_, ?_, ?_, ?_⟩ <;> (intros; exfalso; omega)
    | succ m ih =>
      obtain ⟨i_5, i_75, i_87, i_135, i_202, i_262⟩ := ih
      refine ⟨?_, ?_, ?_, ?_, ?_, ?_⟩
      · intro a3 a5 gg11 hq A_hq E_11 f0 f1 f2 f3 f4 f5 f6 f7 f8 f9 f10 f11 hm
        refine yG.mono (N := 41 * m + 41) ?_ (by omega)
        refine yG.load xik rfl (fun _ _ => rfl) (v := yI (a5)) rfl rfl ?_
        refine yG.load xak rfl (fun _ _ => rfl) (v := yR 2073) rfl rfl ?_
        refine yG.getR A_hq.1 (r_count W) rfl rfl ?_
        refine yG.num (c := 2) rfl (fun _ _ => rfl) (by decide) ?_
        refine yG.ialdF A_hq.1 (p_count W) rfl rfl (by omega) (by omega) (fun z1 e_z1 i_z1 l_z1 u_z1 => ?_)
        refine yG.icmp rfl (t := 62) rfl ⟨by omega, by omega⟩ ⟨by omega, by omega⟩ (fun c2 => ?_) (fun c2 => ?_)
        · have c2 : (a5 : Int) ≥ z1 := c2
          refine yG.load xak rfl (fun _ _ => rfl) (v := yR 2073) rfl rfl ?_
          refine yG.load xik rfl (fun _ _ => rfl) (v := yI (p2)) rfl rfl ?_
          refine yG.num (c := 2) rfl (fun _ _ => rfl) (by decide) ?_
          refine yG.load xik rfl (fun _ _ => rfl) (v := yI (p2)) rfl rfl ?_
          refine yG.imul rfl ?_
          refine yG.num (c := 1) rfl (fun _ _ => rfl) (by decide) ?_
          refine yG.iadd rfl ?_
          refine yG.invV (rest := []) A_hq.1 W.m.1 rfl rfl rfl rfl (a_clearMatrix W (d + 4) A_hq.1 (p2) ((2 * p2) + 1) (by omega) (by omega) (by omega) (by omega)) (fun rv h4 q9 => ?_)
          obtain ⟨rfl, B_h4⟩ := q9
          have A_h4 := A_hq.tr (B_h4.sub (by decide) (by decide))
          have g11_h4 : ys h4 2073 11 = ys hq 2073 11 := B_h4.ys (by decide) (by decide)
          show yG _ _ _ _ _ _ _ _ _ _ [] _
          refine yG.num (c := 0) rfl (fun _ _ => rfl) (by decide) ?_
          refine yG.store1 xik (L' := [(5, yI (0)), (0, yR 2073), (1, yI (p1)), (2, yI (p2)), (3, yJ (a3))]) rfl (fun _ _ => rfl) rfl rfl ?_
          exact yG.mono (yG.sub (i_75 (a3) (0) (ys h4 2073 11) h4 A_h4 rfl (by omega) (by omega) (by omega) (by omega) (by omega) (by omega) (by omega) (by omega) (by omega) (by omega) (by omega) (by omega)) (ySub.cons rfl (ySub.cons rfl (ySub.cons rfl (ySub.cons rfl (ySub.cons rfl (ySub.nil))))))) (by omega)
        · have c2 : (a5 : Int) < z1 := c2
          refine yG.load xak rfl (fun _ _ => rfl) (v := yR 2073) rfl rfl ?_
          refine yG.load xik rfl (fun _ _ => rfl) (v := yI (a5)) rfl rfl ?_
          refine yG.invV (rest := []) A_hq.1 W.m.1 rfl rfl rfl rfl (a_isBetween W (d + 1) A_hq.1 (a5) (by omega) (by omega)) (fun rv hp9 q9 => ?_)
          obtain ⟨⟨z5, rfl, l_z5, u_z5⟩, e9⟩ := q9
          rw [e9]
          show yG _ _ _ _ _ _ _ _ _ _ (yI z5 :: []) _
          refine yG.ifz rfl (t := 54) rfl ⟨by omega, by omega⟩ (fun c6 => ?_) (fun c6 => ?_)
          · have c6 : (z5 : Int) = 0 := c6
            refine yG.load xlk2 rfl (fun _ _ => rfl) (v := yJ (a3)) rfl rfl ?_
            refine yG.store2 xlk2 (L' := [(3, yJ (a3)), (0, yR 2073), (1, yI (p1)), (2, yI (p2)), (5, yI (a5))]) rfl (fun _ _ => rfl) rfl rfl ?_
            refine yG.iinc rfl (a := a5) rfl (L' := [(5, yI (a5 + 1)), (3, yJ (a3)), (0, yR 2073), (1, yI (p1)), (2, yI (p2))]) rfl ?_
            refine yG.goto rfl (t := 5) rfl ?_
            exact yG.mono (yG.sub (i_5 (a3) (a5 + 1) (ys hq 2073 11) hq A_hq rfl (by omega) (by omega) (by omega) (by omega) (by omega) (by omega) (by omega) (by omega) (by omega) (by omega) (by omega) (by omega) (by omega)) (ySub.cons rfl (ySub.cons rfl (ySub.cons rfl (ySub.cons rfl (ySub.cons rfl (ySub.nil))))))) (by omega)
          · have c6 : (z5 : Int) ≠ 0 := c6
            refine yG.load xak rfl (fun _ _ => rfl) (v := yR 2073) rfl rfl ?_
            refine yG.load xik rfl (fun _ _ => rfl) (v := yI (a5)) rfl rfl ?_
            refine yG.invV (rest := []) A_hq.1 W.m.1 rfl rfl rfl rfl (a_islandOfLine W (d + 2) A_hq.1 (a5) (by omega) (by omega)) (fun rv hp9 q9 => ?_)
            obtain ⟨⟨z7, rfl, l_z7, u_z7⟩, e9⟩ := q9
            rw [e9]
            show yG _ _ _ _ _ _ _ _ _ _ (yI z7 :: []) _
            refine yG.load xik rfl (fun _ _ => rfl) (v := yI (p1)) rfl rfl ?_
            refine yG.icmp rfl (t := 54) rfl ⟨by omega, by omega⟩ ⟨by omega, by omega⟩ (fun c8 => ?_) (fun c8 => ?_)
            · have c8 : (z7 : Int) ≠ p1 := c8
              refine yG.load xlk2 rfl (fun _ _ => rfl) (v := yJ (a3)) rfl rfl ?_
              refine yG.store2 xlk2 (L' := [(3, yJ (a3)), (0, yR 2073), (1, yI (p1)), (2, yI (p2)), (5, yI (a5))]) rfl (fun _ _ => rfl) rfl rfl ?_
              refine yG.iinc rfl (a := a5) rfl (L' := [(5, yI (a5 + 1)), (3, yJ (a3)), (0, yR 2073), (1, yI (p1)), (2, yI (p2))]) rfl ?_
              refine yG.goto rfl (t := 5) rfl ?_
              exact yG.mono (yG.sub (i_5 (a3) (a5 + 1) (ys hq 2073 11) hq A_hq rfl (by omega) (by omega) (by omega) (by omega) (by omega) (by omega) (by omega) (by omega) (by omega) (by omega) (by omega) (by omega) (by omega)) (ySub.cons rfl (ySub.cons rfl (ySub.cons rfl (ySub.cons rfl (ySub.cons rfl (ySub.nil))))))) (by omega)
            · have c8 : (z7 : Int) = p1 := c8
              refine yG.load xlk2 rfl (fun _ _ => rfl) (v := yJ (a3)) rfl rfl ?_
              refine yG.load xak rfl (fun _ _ => rfl) (v := yR 2073) rfl rfl ?_
              refine yG.num (c := 2) rfl (fun _ _ => rfl) (by decide) ?_
              refine yG.load xik rfl (fun _ _ => rfl) (v := yI (a5)) rfl rfl ?_
              refine yG.num (c := 1) rfl (fun _ _ => rfl) (by decide) ?_
              refine yG.invV (rest := [yJ (a3)]) A_hq.1 W.m.1 rfl rfl rfl rfl (a_of_2_1 W (d + 3) A_hq.1 (a5) (by omega) (by omega)) (fun rv hp9 q9 => ?_)
              obtain ⟨⟨z9, rfl, l_z9, u_z9⟩, e9⟩ := q9
              rw [e9]
              show yG _ _ _ _ _ _ _ _ _ _ (yI z9 :: [yJ (a3)]) _
              refine yG.i2l rfl ⟨by omega, by omega⟩ ?_
              refine yG.lmul rfl ?_
              obtain ⟨z10, e_z10⟩ : ∃ z : Int, z = a3 * z9 := ⟨_, rfl⟩
              rw [← e_z10]
              have b_z10 : 0 ≤ z10 ∧ z10 ≤ 212600880954 := e_z10 ▸ ymulb (A := 2147483646) (B := 99) (by omega) (by omega) (by omega) (by omega) (by decide)
              refine yG.load xak rfl (fun _ _ => rfl) (v := yR 2073) rfl rfl ?_
              refine yG.getJ A_hq.1 (w_p W) rfl rfl (fun z11 e_z11 i_z11 l_z11 u_z11 => ?_)
              refine yG.lrem rfl ⟨by omega, by omega⟩ ⟨by omega, by omega⟩ (by omega) (by omega) ?_
              obtain ⟨z12, e_z12⟩ : ∃ z : Int, z = (z10) % (z11) := ⟨_, rfl⟩
              rw [← e_z12]
              have b_z12 : 0 ≤ z12 ∧ z12 < z11 := e_z12 ▸ ⟨Int.emod_nonneg _ (by omega), Int.emod_lt_of_pos _ (by omega)⟩
              refine yG.goto rfl (t := 55) rfl ?_
              refine yG.store2 xlk2 (L' := [(3, yJ (z12)), (0, yR 2073), (1, yI (p1)), (2, yI (p2)), (5, yI (a5))]) rfl (fun _ _ => rfl) rfl rfl ?_
              refine yG.iinc rfl (a := a5) rfl (L' := [(5, yI (a5 + 1)), (3, yJ (z12)), (0, yR 2073), (1, yI (p1)), (2, yI (p2))]) rfl ?_
              refine yG.goto rfl (t := 5) rfl ?_
              exact yG.mono (yG.sub (i_5 (z12) (a5 + 1) (ys hq 2073 11) hq A_hq rfl (by omega) (by omega) (by omega) (by omega) (by omega) (by omega) (by omega) (by omega) (by omega) (by omega) (by omega) (by omega) (by omega)) (ySub.cons rfl (ySub.cons rfl (ySub.cons rfl (ySub.cons rfl (ySub.cons rfl (ySub.nil))))))) (by omega)
      · intro a3 a5 gg11 hq A_hq E_11 f0 f1 f2 f3 f4 f5 f6 f7 f8 f9 f10 hm
        refine yG.mono (N := 41 * m + 41) ?_ (by omega)
        refine yG.load xik rfl (fun _ _ => rfl) (v := yI (a5)) rfl rfl ?_
        refine yG.load xak rfl (fun _ _ => rfl) (v := yR 2073) rfl rfl ?_
        refine yG.getI A_hq.1 (w_meters W) rfl rfl (fun z1 e_z1 i_z1 l_z1 u_z1 => ?_)
        refine yG.icmp rfl (t := 259) rfl ⟨by omega, by omega⟩ ⟨by omega, by omega⟩ (fun c2 => ?_) (fun c2 => ?_)
        · have c2 : (a5 : Int) ≥ z1 := c2
          refine yG.num (c := 0) rfl (fun _ _ => rfl) (by decide) ?_
          refine yG.store1 xik (L' := [(5, yI (0)), (0, yR 2073), (1, yI (p1)), (2, yI (p2)), (3, yJ (a3))]) rfl (fun _ _ => rfl) rfl rfl ?_
          exact yG.mono (yG.sub (i_262 (a3) (0) (ys hq 2073 11) hq A_hq rfl (by omega) (by omega) (by omega) (by omega) (by omega) (by omega) (by omega) (by omega) (by omega) (by omega) (by omega) (by omega) (by omega)) (ySub.cons rfl (ySub.cons rfl (ySub.cons rfl (ySub.cons rfl (ySub.nil)))))) (by omega)
        · have c2 : (a5 : Int) < z1 := c2
          refine yG.num (c := 0) rfl (fun _ _ => rfl) (by decide) ?_
          refine yG.store1 xik (L' := [(6, yI (0)), (0, yR 2073), (1, yI (p1)), (2, yI (p2)), (3, yJ (a3)), (5, yI (a5))]) rfl (fun _ _ => rfl) rfl rfl ?_
          exact yG.mono (yG.sub (i_87 (a3) (a5) (0) (ys hq 2073 11) hq A_hq rfl (by omega) (by omega) (by omega) (by omega) (by omega) (by omega) (by omega) (by omega) (by omega) (by omega) (by omega) (by omega) (by omega) (by omega) (by omega)) (ySub.cons rfl (ySub.cons rfl (ySub.cons rfl (ySub.cons rfl (ySub.cons rfl (ySub.cons rfl (ySub.nil)))))))) (by omega)
      · intro a3 a5 a6 gg11 hq A_hq E_11 f0 f1 f2 f3 f4 f5 f6 f7 f8 f9 f10 f11 f12 f13 hm
        refine yG.mono (N := 41 * m + 41) ?_ (by omega)
        refine yG.load xik rfl (fun _ _ => rfl) (v := yI (a6)) rfl rfl ?_
        refine yG.load xik rfl (fun _ _ => rfl) (v := yI (p2)) rfl rfl ?_
        refine yG.icmp rfl (t := 253) rfl ⟨by omega, by omega⟩ ⟨by omega, by omega⟩ (fun c1 => ?_) (fun c1 => ?_)
        · have c1 : (a6 : Int) ≥ p2 := c1
          refine yG.iinc rfl (a := a5) rfl (L' := [(5, yI (a5 + 1)), (0, yR 2073), (1, yI (p1)), (2, yI (p2)), (3, yJ (a3)), (6, yI (a6))]) rfl ?_
          refine yG.goto rfl (t := 75) rfl ?_
          exact yG.mono (yG.sub (i_75 (a3) (a5 + 1) (ys hq 2073 11) hq A_hq rfl (by omega) (by omega) (by omega) (by omega) (by omega) (by omega) (by omega) (by omega) (by omega) (by omega) (by omega) (by omega)) (ySub.cons rfl (ySub.cons rfl (ySub.cons rfl (ySub.cons rfl (ySub.cons rfl (ySub.nil))))))) (by omega)
        · have c1 : (a6 : Int) < p2 := c1
          refine yG.load xak rfl (fun _ _ => rfl) (v := yR 2073) rfl rfl ?_
          refine yG.load xik rfl (fun _ _ => rfl) (v := yI (a5)) rfl rfl ?_
          refine yG.load xik rfl (fun _ _ => rfl) (v := yI (p1)) rfl rfl ?_
          refine yG.invV (rest := []) A_hq.1 W.m.1 rfl rfl rfl rfl (a_counts W d A_hq.1 (M_yMt.fr A_hq (by decide) (by decide)) (a5) (p1) (by omega) (by omega) (by omega) (by omega)) (fun rv hp9 q9 => ?_)
          obtain ⟨⟨z2, rfl, l_z2, u_z2⟩, e9⟩ := q9
          rw [e9]
          show yG _ _ _ _ _ _ _ _ _ _ (yI z2 :: []) _
          refine yG.ifz rfl (t := 253) rfl ⟨by omega, by omega⟩ (fun c3 => ?_) (fun c3 => ?_)
          · have c3 : (z2 : Int) = 0 := c3
            refine yG.iinc rfl (a := a5) rfl (L' := [(5, yI (a5 + 1)), (0, yR 2073), (1, yI (p1)), (2, yI (p2)), (3, yJ (a3)), (6, yI (a6))]) rfl ?_
            refine yG.goto rfl (t := 75) rfl ?_
            exact yG.mono (yG.sub (i_75 (a3) (a5 + 1) (ys hq 2073 11) hq A_hq rfl (by omega) (by omega) (by omega) (by omega) (by omega) (by omega) (by omega) (by omega) (by omega) (by omega) (by omega) (by omega)) (ySub.cons rfl (ySub.cons rfl (ySub.cons rfl (ySub.cons rfl (ySub.cons rfl (ySub.nil))))))) (by omega)
          · have c3 : (z2 : Int) ≠ 0 := c3
            refine yG.load xak rfl (fun _ _ => rfl) (v := yR 2073) rfl rfl ?_
            refine yG.getR A_hq.1 (r_meterWeight W) rfl rfl ?_
            refine yG.load xik rfl (fun _ _ => rfl) (v := yI (a5)) rfl rfl ?_
            refine yG.iald A_hq.1 (v_meterWeight W) rfl (by omega) (by omega) (fun z4 e_z4 i_z4 l_z4 u_z4 => ?_)
            refine yG.i2l rfl ⟨by omega, by omega⟩ ?_
            refine yG.load xak rfl (fun _ _ => rfl) (v := yR 2073) rfl rfl ?_
            refine yG.getR A_hq.1 (r_shows W) rfl rfl ?_
            refine yG.num (c := 16) rfl (fun _ _ => rfl) (by decide) ?_
            refine yG.load xik rfl (fun _ _ => rfl) (v := yI (a5)) rfl rfl ?_
            refine yG.imul rfl ?_
            refine yG.load xik rfl (fun _ _ => rfl) (v := yI (a6)) rfl rfl ?_
            refine yG.iadd rfl ?_
            refine yG.lald A_hq.1 (v_shows W) rfl (by omega) (by omega) (fun z5 e_z5 i_z5 l_z5 u_z5 => ?_)
            refine yG.lmul rfl ?_
            obtain ⟨z6, e_z6⟩ : ∃ z : Int, z = z4 * z5 := ⟨_, rfl⟩
            rw [← e_z6]
            have b_z6 : 0 ≤ z6 ∧ z6 ≤ 212600881053 := e_z6 ▸ ymulb (A := 99) (B := 2147483647) (by omega) (by omega) (by omega) (by omega) (by decide)
            refine yG.load xak rfl (fun _ _ => rfl) (v := yR 2073) rfl rfl ?_
            refine yG.getJ A_hq.1 (w_p W) rfl rfl (fun z7 e_z7 i_z7 l_z7 u_z7 => ?_)
            refine yG.lrem rfl ⟨by omega, by omega⟩ ⟨by omega, by omega⟩ (by omega) (by omega) ?_
            obtain ⟨z8, e_z8⟩ : ∃ z : Int, z = (z6) % (z7) := ⟨_, rfl⟩
            rw [← e_z8]
            have b_z8 : 0 ≤ z8 ∧ z8 < z7 := e_z8 ▸ ⟨Int.emod_nonneg _ (by omega), Int.emod_lt_of_pos _ (by omega)⟩
            refine yG.store2 xlk2 (L' := [(7, yJ (z8)), (0, yR 2073), (1, yI (p1)), (2, yI (p2)), (3, yJ (a3)), (5, yI (a5)), (6, yI (a6))]) rfl (fun _ _ => rfl) rfl rfl ?_
            refine yG.num (c := 0) rfl (fun _ _ => rfl) (by decide) ?_
            refine yG.store1 xik (L' := [(9, yI (0)), (7, yJ (z8)), (0, yR 2073), (1, yI (p1)), (2, yI (p2)), (3, yJ (a3)), (5, yI (a5)), (6, yI (a6))]) rfl (fun _ _ => rfl) rfl rfl ?_
            exact yG.mono (yG.sub (i_135 (a3) (a5) (a6) (z8) (0) (ys hq 2073 11) hq A_hq rfl (by omega) (by omega) (by omega) (by omega) (by omega) (by omega) (by omega) (by omega) (by omega) (by omega) (by omega) (by omega) (by omega) (by omega) (by omega) (by omega) (by omega) (by omega) (by omega) (by omega) (by omega) (by omega)) (ySub.cons rfl (ySub.cons rfl (ySub.cons rfl (ySub.cons rfl (ySub.cons rfl (ySub.cons rfl (ySub.cons rfl (ySub.cons rfl (ySub.nil)))))))))) (by omega)
      · intro a3 a5 a6 a7 a9 gg11 hq A_hq E_11 f0 f1 f2 f3 f4 f5 f6 f7 f8 f9 f10 f11 f12 f13 f14 f15 f16 f17 f18 f19 f20 hm
        refine yG.mono (N := 41 * m + 41) ?_ (by omega)
        refine yG.load xik rfl (fun _ _ => rfl) (v := yI (a9)) rfl rfl ?_
        refine yG.load xik rfl (fun _ _ => rfl) (v := yI (p2)) rfl rfl ?_
        refine yG.icmp rfl (t := 202) rfl ⟨by omega, by omega⟩ ⟨by omega, by omega⟩ (fun c1 => ?_) (fun c1 => ?_)
        · have c1 : (a9 : Int) ≥ p2 := c1
          exact yG.mono (yG.sub (i_202 (a3) (a5) (a6) (a7) (ys hq 2073 11) hq A_hq rfl (by omega) (by omega) (by omega) (by omega) (by omega) (by omega) (by omega) (by omega) (by omega) (by omega) (by omega) (by omega) (by omega) (by omega) (by omega) (by omega) (by omega) (by omega)) (ySub.cons rfl (ySub.cons rfl (ySub.cons rfl (ySub.cons rfl (ySub.cons rfl (ySub.cons rfl (ySub.cons rfl (ySub.nil))))))))) (by omega)
        · have c1 : (a9 : Int) < p2 := c1
          refine yG.load xlk2 rfl (fun _ _ => rfl) (v := yJ (a7)) rfl rfl ?_
          refine yG.numl (c := 0) rfl (fun _ _ => rfl) (by decide) ?_
          refine yG.lcmp rfl ⟨by omega, by omega⟩ ⟨by omega, by omega⟩ (fun z2 e_z2 => ?_)
          refine yG.ifz rfl (t := 202) rfl ⟨by omega, by omega⟩ (fun c3 => ?_) (fun c3 => ?_)
          · have c3 : (z2 : Int) = 0 := c3
            exact yG.mono (yG.sub (i_202 (a3) (a5) (a6) (a7) (ys hq 2073 11) hq A_hq rfl (by omega) (by omega) (by omega) (by omega) (by omega) (by omega) (by omega) (by omega) (by omega) (by omega) (by omega) (by omega) (by omega) (by omega) (by omega) (by omega) (by omega) (by omega)) (ySub.cons rfl (ySub.cons rfl (ySub.cons rfl (ySub.cons rfl (ySub.cons rfl (ySub.cons rfl (ySub.cons rfl (ySub.nil))))))))) (by omega)
          · have c3 : (z2 : Int) ≠ 0 := c3
            refine yG.load xak rfl (fun _ _ => rfl) (v := yR 2073) rfl rfl ?_
            refine yG.getR A_hq.1 (r_matrix W) rfl rfl ?_
            refine yG.num (c := 48) rfl (fun _ _ => rfl) (by decide) ?_
            refine yG.load xik rfl (fun _ _ => rfl) (v := yI (a6)) rfl rfl ?_
            refine yG.imul rfl ?_
            refine yG.load xik rfl (fun _ _ => rfl) (v := yI (a9)) rfl rfl ?_
            refine yG.iadd rfl ?_
            refine yG.load xak rfl (fun _ _ => rfl) (v := yR 2073) rfl rfl ?_
            refine yG.getR A_hq.1 (r_matrix W) rfl rfl ?_
            refine yG.num (c := 48) rfl (fun _ _ => rfl) (by decide) ?_
            refine yG.load xik rfl (fun _ _ => rfl) (v := yI (a6)) rfl rfl ?_
            refine yG.imul rfl ?_
            refine yG.load xik rfl (fun _ _ => rfl) (v := yI (a9)) rfl rfl ?_
            refine yG.iadd rfl ?_
            refine yG.lald A_hq.1 (v_matrix W) rfl (by omega) (by omega) (fun z4 e_z4 i_z4 l_z4 u_z4 => ?_)
            refine yG.load xlk2 rfl (fun _ _ => rfl) (v := yJ (a7)) rfl rfl ?_
            refine yG.load xak rfl (fun _ _ => rfl) (v := yR 2073) rfl rfl ?_
            refine yG.getR A_hq.1 (r_shows W) rfl rfl ?_
            refine yG.num (c := 16) rfl (fun _ _ => rfl) (by decide) ?_
            refine yG.load xik rfl (fun _ _ => rfl) (v := yI (a5)) rfl rfl ?_
            refine yG.imul rfl ?_
            refine yG.load xik rfl (fun _ _ => rfl) (v := yI (a9)) rfl rfl ?_
            refine yG.iadd rfl ?_
            refine yG.lald A_hq.1 (v_shows W) rfl (by omega) (by omega) (fun z5 e_z5 i_z5 l_z5 u_z5 => ?_)
            refine yG.lmul rfl ?_
            obtain ⟨z6, e_z6⟩ : ∃ z : Int, z = a7 * z5 := ⟨_, rfl⟩
            rw [← e_z6]
            have b_z6 : 0 ≤ z6 ∧ z6 ≤ 4611686011984936962 := e_z6 ▸ ymulb (A := 2147483646) (B := 2147483647) (by omega) (by omega) (by omega) (by omega) (by decide)
            refine yG.ladd rfl ?_
            refine yG.load xak rfl (fun _ _ => rfl) (v := yR 2073) rfl rfl ?_
            refine yG.getJ A_hq.1 (w_p W) rfl rfl (fun z7 e_z7 i_z7 l_z7 u_z7 => ?_)
            refine yG.lrem rfl ⟨by omega, by omega⟩ ⟨by omega, by omega⟩ (by omega) (by omega) ?_
            obtain ⟨z8, e_z8⟩ : ∃ z : Int, z = (z4 + z6) % (z7) := ⟨_, rfl⟩
            rw [← e_z8]
            have b_z8 : 0 ≤ z8 ∧ z8 < z7 := e_z8 ▸ ⟨Int.emod_nonneg _ (by omega), Int.emod_lt_of_pos _ (by omega)⟩
            refine yG.last A_hq.1 (v_matrix W) (by decide) rfl (by omega) (by omega) ⟨by omega, by omega⟩ (by omega) (by omega) (fun h9 T_h9 b_h9 f_h9 y_h9 => ?_)
            have A_h9 := A_hq.putA T_h9 b_h9 f_h9 (by decide)
            have g11_h9 : ys h9 2073 11 = ys hq 2073 11 := (y_h9 2073 11).trans (if_neg (by omega))
            refine yG.iinc rfl (a := a9) rfl (L' := [(9, yI (a9 + 1)), (0, yR 2073), (1, yI (p1)), (2, yI (p2)), (3, yJ (a3)), (5, yI (a5)), (6, yI (a6)), (7, yJ (a7))]) rfl ?_
            refine yG.goto rfl (t := 135) rfl ?_
            exact yG.mono (yG.sub (i_135 (a3) (a5) (a6) (a7) (a9 + 1) (ys h9 2073 11) h9 A_h9 rfl (by omega) (by omega) (by omega) (by omega) (by omega) (by omega) (by omega) (by omega) (by omega) (by omega) (by omega) (by omega) (by omega) (by omega) (by omega) (by omega) (by omega) (by omega) (by omega) (by omega) (by omega) (by omega)) (ySub.cons rfl (ySub.cons rfl (ySub.cons rfl (ySub.cons rfl (ySub.cons rfl (ySub.cons rfl (ySub.cons rfl (ySub.cons rfl (ySub.nil)))))))))) (by omega)
      · intro a3 a5 a6 a7 gg11 hq A_hq E_11 f0 f1 f2 f3 f4 f5 f6 f7 f8 f9 f10 f11 f12 f13 f14 f15 f16 hm
        refine yG.mono (N := 41 * m + 41) ?_ (by omega)
        refine yG.load xak rfl (fun _ _ => rfl) (v := yR 2073) rfl rfl ?_
        refine yG.getR A_hq.1 (r_matrix W) rfl rfl ?_
        refine yG.num (c := 48) rfl (fun _ _ => rfl) (by decide) ?_
        refine yG.load xik rfl (fun _ _ => rfl) (v := yI (a6)) rfl rfl ?_
        refine yG.imul rfl ?_
        refine yG.load xik rfl (fun _ _ => rfl) (v := yI (p2)) rfl rfl ?_
        refine yG.iadd rfl ?_
        refine yG.load xak rfl (fun _ _ => rfl) (v := yR 2073) rfl rfl ?_
        refine yG.getR A_hq.1 (r_matrix W) rfl rfl ?_
        refine yG.num (c := 48) rfl (fun _ _ => rfl) (by decide) ?_
        refine yG.load xik rfl (fun _ _ => rfl) (v := yI (a6)) rfl rfl ?_
        refine yG.imul rfl ?_
        refine yG.load xik rfl (fun _ _ => rfl) (v := yI (p2)) rfl rfl ?_
        refine yG.iadd rfl ?_
        refine yG.lald A_hq.1 (v_matrix W) rfl (by omega) (by omega) (fun z1 e_z1 i_z1 l_z1 u_z1 => ?_)
        refine yG.load xlk2 rfl (fun _ _ => rfl) (v := yJ (a7)) rfl rfl ?_
        refine yG.load xak rfl (fun _ _ => rfl) (v := yR 2073) rfl rfl ?_
        refine yG.load xak rfl (fun _ _ => rfl) (v := yR 2073) rfl rfl ?_
        refine yG.getR A_hq.1 (r_meterValue W) rfl rfl ?_
        refine yG.load xik rfl (fun _ _ => rfl) (v := yI (a5)) rfl rfl ?_
        refine yG.iald A_hq.1 (v_meterValue W) rfl (by omega) (by omega) (fun z2 e_z2 i_z2 l_z2 u_z2 => ?_)
        refine yG.i2l rfl ⟨by omega, by omega⟩ ?_
        refine yG.invV (rest := [yJ (a7), yJ (z1), yI ((48 * a6) + p2), yR 2083]) A_hq.1 W.m.1 rfl rfl rfl rfl (a_mod W (d + 4) A_hq.1 (z2) (by omega) (by omega) (by omega) (by omega)) (fun rv hp9 q9 => ?_)
        obtain ⟨⟨z3, rfl, l_z3, u_z3⟩, e9⟩ := q9
        rw [e9]
        show yG _ _ _ _ _ _ _ _ _ _ (yJ z3 :: [yJ (a7), yJ (z1), yI ((48 * a6) + p2), yR 2083]) _
        refine yG.lmul rfl ?_
        obtain ⟨z4, e_z4⟩ : ∃ z : Int, z = a7 * z3 := ⟨_, rfl⟩
        rw [← e_z4]
        have b_z4 : 0 ≤ z4 ∧ z4 ≤ 4611686009837453316 := e_z4 ▸ ymulb (A := 2147483646) (B := 2147483646) (by omega) (by omega) (by omega) (by omega) (by decide)
        refine yG.ladd rfl ?_
        refine yG.load xak rfl (fun _ _ => rfl) (v := yR 2073) rfl rfl ?_
        refine yG.getJ A_hq.1 (w_p W) rfl rfl (fun z5 e_z5 i_z5 l_z5 u_z5 => ?_)
        refine yG.lrem rfl ⟨by omega, by omega⟩ ⟨by omega, by omega⟩ (by omega) (by omega) ?_
        obtain ⟨z6, e_z6⟩ : ∃ z : Int, z = (z1 + z4) % (z5) := ⟨_, rfl⟩
        rw [← e_z6]
        have b_z6 : 0 ≤ z6 ∧ z6 < z5 := e_z6 ▸ ⟨Int.emod_nonneg _ (by omega), Int.emod_lt_of_pos _ (by omega)⟩
        refine yG.last A_hq.1 (v_matrix W) (by decide) rfl (by omega) (by omega) ⟨by omega, by omega⟩ (by omega) (by omega) (fun h7 T_h7 b_h7 f_h7 y_h7 => ?_)
        have A_h7 := A_hq.putA T_h7 b_h7 f_h7 (by decide)
        have g11_h7 : ys h7 2073 11 = ys hq 2073 11 := (y_h7 2073 11).trans (if_neg (by omega))
        refine yG.iinc rfl (a := a6) rfl (L' := [(6, yI (a6 + 1)), (0, yR 2073), (1, yI (p1)), (2, yI (p2)), (3, yJ (a3)), (5, yI (a5)), (7, yJ (a7))]) rfl ?_
        refine yG.goto rfl (t := 87) rfl ?_
        exact yG.mono (yG.sub (i_87 (a3) (a5) (a6 + 1) (ys h7 2073 11) h7 A_h7 rfl (by omega) (by omega) (by omega) (by omega) (by omega) (by omega) (by omega) (by omega) (by omega) (by omega) (by omega) (by omega) (by omega) (by omega) (by omega)) (ySub.cons rfl (ySub.cons rfl (ySub.cons rfl (ySub.cons rfl (ySub.cons rfl (ySub.cons rfl (ySub.nil)))))))) (by omega)
      · intro a3 a5 gg11 hq A_hq E_11 f0 f1 f2 f3 f4 f5 f6 f7 f8 f9 f10 f11 hm
        refine yG.mono (N := 41 * m + 41) ?_ (by omega)
        refine yG.load xik rfl (fun _ _ => rfl) (v := yI (a5)) rfl rfl ?_
        refine yG.load xik rfl (fun _ _ => rfl) (v := yI (p2)) rfl rfl ?_
        refine yG.icmp rfl (t := 292) rfl ⟨by omega, by omega⟩ ⟨by omega, by omega⟩ (fun c1 => ?_) (fun c1 => ?_)
        · have c1 : (a5 : Int) ≥ p2 := c1
          refine yG.load xlk2 rfl (fun _ _ => rfl) (v := yJ (a3)) rfl rfl ?_
          refine yG.ret rfl (fun _ _ => rfl) ?_
          exact yP.long ⟨by omega, by omega⟩ ⟨⟨a3, rfl, by omega, by omega⟩, A_hq⟩
        · have c1 : (a5 : Int) < p2 := c1
          refine yG.load xak rfl (fun _ _ => rfl) (v := yR 2073) rfl rfl ?_
          refine yG.getR A_hq.1 (r_matrix W) rfl rfl ?_
          refine yG.num (c := 48) rfl (fun _ _ => rfl) (by decide) ?_
          refine yG.load xik rfl (fun _ _ => rfl) (v := yI (a5)) rfl rfl ?_
          refine yG.imul rfl ?_
          refine yG.load xik rfl (fun _ _ => rfl) (v := yI (p2)) rfl rfl ?_
          refine yG.iadd rfl ?_
          refine yG.num (c := 1) rfl (fun _ _ => rfl) (by decide) ?_
          refine yG.iadd rfl ?_
          refine yG.load xik rfl (fun _ _ => rfl) (v := yI (a5)) rfl rfl ?_
          refine yG.iadd rfl ?_
          refine yG.numl (c := 1) rfl (fun _ _ => rfl) (by decide) ?_
          refine yG.last A_hq.1 (v_matrix W) (by decide) rfl (by omega) (by omega) ⟨by omega, by omega⟩ (by omega) (by omega) (fun h2 T_h2 b_h2 f_h2 y_h2 => ?_)
          have A_h2 := A_hq.putA T_h2 b_h2 f_h2 (by decide)
          have g11_h2 : ys h2 2073 11 = ys hq 2073 11 := (y_h2 2073 11).trans (if_neg (by omega))
          refine yG.iinc rfl (a := a5) rfl (L' := [(5, yI (a5 + 1)), (0, yR 2073), (2, yI (p2)), (3, yJ (a3))]) rfl ?_
          refine yG.goto rfl (t := 262) rfl ?_
          exact yG.mono (yG.sub (i_262 (a3) (a5 + 1) (ys h2 2073 11) h2 A_h2 rfl (by omega) (by omega) (by omega) (by omega) (by omega) (by omega) (by omega) (by omega) (by omega) (by omega) (by omega) (by omega) (by omega)) (ySub.cons rfl (ySub.cons rfl (ySub.cons rfl (ySub.cons rfl (ySub.nil)))))) (by omega)
  refine yC.of (M := (xt_X13_equations, (10, (2, (14, []))))) rfl rfl (N := 22305148) (yfuel (by decide)) ?_
  show yG 89 xfts (xcall 89 xfts xpools xms (d + 5)) (xpool xp_RX13) [] xt_X13_equations (yP 2 (yQj G [] [2083] hp 0 2147483646)) 22305148 0 [(0, yR 2073), (1, yI (p1)), (2, yI (p2))] [] hp
  obtain ⟨i_5, i_75, i_87, i_135, i_202, i_262⟩ := H 544027
  obtain ⟨gg11, E_11⟩ : ∃ z : Int, ys hp 2073 11 = z := ⟨_, rfl⟩
  obtain ⟨-, -, r_11l, r_11u⟩ := (w_p W).long hT
  refine yG.numl (c := 1) rfl (fun _ _ => rfl) (by decide) ?_
  refine yG.store2 xlk2 (L' := [(3, yJ (1)), (0, yR 2073), (1, yI (p1)), (2, yI (p2))]) rfl (fun _ _ => rfl) rfl rfl ?_
  refine yG.num (c := 0) rfl (fun _ _ => rfl) (by decide) ?_
  refine yG.store1 xik (L' := [(5, yI (0)), (3, yJ (1)), (0, yR 2073), (1, yI (p1)), (2, yI (p2))]) rfl (fun _ _ => rfl) rfl rfl ?_
  exact yG.mono (yG.sub (i_5 (1) (0) (ys hp 2073 11) hp A_hp rfl (by omega) (by omega) (by omega) (by omega) (by omega) (by omega) (by omega) (by omega) (by omega) (by omega) (by omega) (by omega) (by omega)) (ySub.cons rfl (ySub.cons rfl (ySub.cons rfl (ySub.cons rfl (ySub.cons rfl (ySub.nil))))))) (by omega)
theorem a_tellEstimate {hp : xH} (W : yWW G) (d : Nat) (hT : zTy G hp) (M_yMt : yMt hp) (p1 p2 p3 : Int) (h1l : 0 ≤ p1) (h1u : p1 ≤ 15) (h2l : 0 ≤ p2) (h2u : p2 ≤ 15) (h3l : 0 ≤ p3) (h3u : p3 ≤ 2147483646) (q10l : 0 ≤ ys hp 2073 10) (q10u : ys hp 2073 10 ≤ 39) (q11l : 1 ≤ ys hp 2073 11) (q11u : ys hp 2073 11 ≤ 2147483647) : yC (xcall 89 xfts xpools xms (d + 5)) 528 [yR 2073, yI (p1), yI (p2), yJ (p3)] hp (yQv G [] [2081] hp) := by
  have A_hp : yAx G [] [2081] hp hp := yAx.rf hT
  have H : ∀ m : Nat, (∀ a5 gg11 gg10 : Int, ∀ hq, yAx G [] [2081] hp hq → ys hq 2073 11 = gg11 → ys hq 2073 10 = gg10 → 0 ≤ a5 → (-15) ≤ 0 - a5 → 1 ≤ gg11 → (-2147483647) ≤ 0 - gg11 → 0 ≤ gg10 → (-39) ≤ 0 - gg10 → 0 ≤ p1 → (-15) ≤ 0 - p1 → 0 ≤ p2 → (-15) ≤ 0 - p2 → 0 ≤ p3 → (-2147483646) ≤ 0 - p3 → 0 ≤ 0 - a5 + p2 → 0 - 17458 * a5 + 279327 < (m : Int) → yG 89 xfts (xcall 89 xfts xpools xms (d + 4)) (xpool xp_RX13) [] xt_X13_tellEstimate (yP 0 (yQv G [] [2081] hp)) (50 * m) 9 [(0, yR 2073), (1, yI (p1)), (2, yI (p2)), (3, yJ (p3)), (5, yI (a5))] [] hq) ∧ (∀ a5 gg11 gg10 : Int, ∀ hq, yAx G [] [2081] hp hq → ys hq 2073 11 = gg11 → ys hq 2073 10 = gg10 → 0 ≤ a5 → (-32) ≤ 0 - a5 → 1 ≤ gg11 → (-2147483647) ≤ 0 - gg11 → 0 ≤ gg10 → (-39) ≤ 0 - gg10 → 0 ≤ p1 → (-15) ≤ 0 - p1 → 0 ≤ p2 → (-15) ≤ 0 - p2 → 0 ≤ p3 → (-2147483646) ≤ 0 - p3 → 0 - 529 * a5 + 17456 < (m : Int) → yG 89 xfts (xcall 89 xfts xpools xms (d + 4)) (xpool xp_RX13) [] xt_X13_tellEstimate (yP 0 (yQv G [] [2081] hp)) (50 * m) 51 [(0, yR 2073), (1, yI (p1)), (2, yI (p2)), (3, yJ (p3)), (5, yI (a5))] [] hq) ∧ (∀ a5 a6 a8 a10 gg11 gg10 : Int, ∀ hq, yAx G [] [2081] hp hq → ys hq 2073 11 = gg11 → ys hq 2073 10 = gg10 → 0 ≤ a5 → (-31) ≤ 0 - a5 → 0 ≤ a6 → (-2147483646) ≤ 0 - a6 → 0 ≤ a8 → (-2147483646) ≤ 0 - a8 → 0 ≤ a10 → (-15) ≤ 0 - a10 → 1 ≤ gg11 → (-2147483647) ≤ 0 - gg11 → 0 ≤ gg10 → (-39) ≤ 0 - gg10 → 0 ≤ p1 → (-15) ≤ 0 - p1 → 0 ≤ p2 → (-15) ≤ 0 - p2 → 0 ≤ p3 → (-2147483646) ≤ 0 - p3 → (-2147483645) ≤ a10 - a6 → (-2147483645) ≤ a10 - a8 → 1 ≤ 0 - a6 + gg11 → 1 ≤ 0 - a8 + gg11 → 0 ≤ 0 - a10 + p2 → 0 - 33 * a10 - 529 * a5 + 17455 < (m : Int) → yG 89 xfts (xcall 89 xfts xpools xms (d + 4)) (xpool xp_RX13) [] xt_X13_tellEstimate (yP 0 (yQv G [] [2081] hp)) (50 * m) 82 [(0, yR 2073), (1, yI (p1)), (2, yI (p2)), (3, yJ (p3)), (5, yI (a5)), (6, yJ (a6)), (8, yJ (a8)), (10, yI (a10))] [] hq) ∧ (∀ a5 a6 a8 a10 a11 a13 gg11 gg10 : Int, ∀ hq, yAx G [] [2081] hp hq → ys hq 2073 11 = gg11 → ys hq 2073 10 = gg10 → 0 ≤ a5 → (-31) ≤ 0 - a5 → 0 ≤ a6 → (-2147483646) ≤ 0 - a6 → 0 ≤ a8 → (-2147483646) ≤ 0 - a8 → 0 ≤ a10 → (-14) ≤ 0 - a10 → 0 ≤ a11 → (-2147483646) ≤ 0 - a11 → 0 ≤ a13 → (-15) ≤ 0 - a13 → 1 ≤ gg11 → (-2147483647) ≤ 0 - gg11 → 0 ≤ gg10 → (-39) ≤ 0 - gg10 → 0 ≤ p1 → (-15) ≤ 0 - p1 → 1 ≤ p2 → (-15) ≤ 0 - p2 → 0 ≤ p3 → (-2147483646) ≤ 0 - p3 → (-2147483645) ≤ 0 - a11 + a13 → 1 ≤ 0 - a6 + gg11 → 1 ≤ 0 - a8 + gg11 → 1 ≤ 0 - a11 + gg11 → 1 ≤ 0 - a10 + p2 → 0 ≤ 0 - a13 + p2 → 0 - 33 * a10 - 2 * a13 - 529 * a5 + 17454 < (m : Int) → yG 89 xfts (xcall 89 xfts xpools xms (d + 4)) (xpool xp_RX13) [] xt_X13_tellEstimate (yP 0 (yQv G [] [2081] hp)) (50 * m) 130 [(0, yR 2073), (1, yI (p1)), (2, yI (p2)), (3, yJ (p3)), (5, yI (a5)), (6, yJ (a6)), (8, yJ (a8)), (10, yI (a10)), (11, yJ (a11)), (13, yI (a13))] [] hq) := by
    intro m
    induction m with
    | zero =>
      refine ⟨?_, ?_, ?_, ?_⟩ <;> (intros; exfalso; omega)
    | succ m ih =>
      obtain ⟨i_9, i_51, i_82, i_130⟩ := ih
      refine ⟨?_, ?_, ?_, ?_⟩
      · intro a5 gg11 gg10 hq A_hq E_11 E_10 f0 f1 f2 f3 f4 f5 f6 f7 f8 f9 f10 f11 f12 hm
        refine yG.mono (N := 50 * m + 50) ?_ (by omega)
        refine yG.load xik rfl (fun _ _ => rfl) (v := yI (a5)) rfl rfl ?_
        refine yG.load xik rfl (fun _ _ => rfl) (v := yI (p2)) rfl rfl ?_
        refine yG.icmp rfl (t := 48) rfl ⟨by omega, by omega⟩ ⟨by omega, by omega⟩ (fun c1 => ?_) (fun c1 => ?_)
        · have c1 : (a5 : Int) ≥ p2 := c1
          refine yG.num (c := 0) rfl (fun _ _ => rfl) (by decide) ?_
          refine yG.store1 xik (L' := [(5, yI (0)), (0, yR 2073), (1, yI (p1)), (2, yI (p2)), (3, yJ (p3))]) rfl (fun _ _ => rfl) rfl rfl ?_
          exact yG.mono (yG.sub (i_51 (0) (ys hq 2073 11) (ys hq 2073 10) hq A_hq rfl rfl (by omega) (by omega) (by omega) (by omega) (by omega) (by omega) (by omega) (by omega) (by omega) (by omega) (by omega) (by omega) (by omega)) (ySub.cons rfl (ySub.cons rfl (ySub.cons rfl (ySub.cons rfl (ySub.cons rfl (ySub.nil))))))) (by omega)
        · have c1 : (a5 : Int) < p2 := c1
          refine yG.load xak rfl (fun _ _ => rfl) (v := yR 2073) rfl rfl ?_
          refine yG.num (c := 1) rfl (fun _ _ => rfl) (by decide) ?_
          refine yG.load xik rfl (fun _ _ => rfl) (v := yI (a5)) rfl rfl ?_
          refine yG.iadd rfl ?_
          refine yG.load xak rfl (fun _ _ => rfl) (v := yR 2073) rfl rfl ?_
          refine yG.getR A_hq.1 (r_matrix W) rfl rfl ?_
          refine yG.num (c := 48) rfl (fun _ _ => rfl) (by decide) ?_
          refine yG.load xik rfl (fun _ _ => rfl) (v := yI (a5)) rfl rfl ?_
          refine yG.imul rfl ?_
          refine yG.load xik rfl (fun _ _ => rfl) (v := yI (p2)) rfl rfl ?_
          refine yG.iadd rfl ?_
          refine yG.lald A_hq.1 (v_matrix W) rfl (by omega) (by omega) (fun z2 e_z2 i_z2 l_z2 u_z2 => ?_)
          refine yG.load xlk2 rfl (fun _ _ => rfl) (v := yJ (p3)) rfl rfl ?_
          refine yG.lmul rfl ?_
          obtain ⟨z3, e_z3⟩ : ∃ z : Int, z = z2 * p3 := ⟨_, rfl⟩
          rw [← e_z3]
          have b_z3 : 0 ≤ z3 ∧ z3 ≤ 4611686011984936962 := e_z3 ▸ ymulb (A := 2147483647) (B := 2147483646) (by omega) (by omega) (by omega) (by omega) (by decide)
          refine yG.load xak rfl (fun _ _ => rfl) (v := yR 2073) rfl rfl ?_
          refine yG.getJ A_hq.1 (w_p W) rfl rfl (fun z4 e_z4 i_z4 l_z4 u_z4 => ?_)
          refine yG.lrem rfl ⟨by omega, by omega⟩ ⟨by omega, by omega⟩ (by omega) (by omega) ?_
          obtain ⟨z5, e_z5⟩ : ∃ z : Int, z = (z3) % (z4) := ⟨_, rfl⟩
          rw [← e_z5]
          have b_z5 : 0 ≤ z5 ∧ z5 < z4 := e_z5 ▸ ⟨Int.emod_nonneg _ (by omega), Int.emod_lt_of_pos _ (by omega)⟩
          refine yG.invV (rest := []) A_hq.1 W.m.1 rfl rfl rfl rfl (a_tell W (d + 3) A_hq.1 (1 + a5) (z5) (by omega) (by omega) (by omega) (by omega) (by omega) (by omega)) (fun rv h7 q9 => ?_)
          obtain ⟨rfl, B_h7⟩ := q9
          have A_h7 := A_hq.tr (B_h7.sub (by decide) (by decide))
          have g11_h7 : ys h7 2073 11 = ys hq 2073 11 := B_h7.ys (by decide) (by decide)
          have g10_h7 : ys h7 2073 10 = ys hq 2073 10 := B_h7.ys (by decide) (by decide)
          show yG _ _ _ _ _ _ _ _ _ _ [] _
          refine yG.iinc rfl (a := a5) rfl (L' := [(5, yI (a5 + 1)), (0, yR 2073), (1, yI (p1)), (2, yI (p2)), (3, yJ (p3))]) rfl ?_
          refine yG.goto rfl (t := 9) rfl ?_
          exact yG.mono (yG.sub (i_9 (a5 + 1) (ys h7 2073 11) (ys h7 2073 10) h7 A_h7 rfl rfl (by omega) (by omega) (by omega) (by omega) (by omega) (by omega) (by omega) (by omega) (by omega) (by omega) (by omega) (by omega) (by omega) (by omega)) (ySub.cons rfl (ySub.cons rfl (ySub.cons rfl (ySub.cons rfl (ySub.cons rfl (ySub.nil))))))) (by omega)
      · intro a5 gg11 gg10 hq A_hq E_11 E_10 f0 f1 f2 f3 f4 f5 f6 f7 f8 f9 f10 f11 hm
        refine yG.mono (N := 50 * m + 50) ?_ (by omega)
        refine yG.load xik rfl (fun _ _ => rfl) (v := yI (a5)) rfl rfl ?_
        refine yG.load xak rfl (fun _ _ => rfl) (v := yR 2073) rfl rfl ?_
        refine yG.getI A_hq.1 (w_meters W) rfl rfl (fun z1 e_z1 i_z1 l_z1 u_z1 => ?_)
        refine yG.icmp rfl (t := 290) rfl ⟨by omega, by omega⟩ ⟨by omega, by omega⟩ (fun c2 => ?_) (fun c2 => ?_)
        · have c2 : (a5 : Int) ≥ z1 := c2
          refine yG.ret rfl (fun _ _ => rfl) ?_
          exact yP.void ⟨rfl, A_hq⟩
        · have c2 : (a5 : Int) < z1 := c2
          refine yG.load xak rfl (fun _ _ => rfl) (v := yR 2073) rfl rfl ?_
          refine yG.load xik rfl (fun _ _ => rfl) (v := yI (a5)) rfl rfl ?_
          refine yG.invV (rest := []) A_hq.1 W.m.1 rfl rfl rfl rfl (a_islandOfMeter W d A_hq.1 (M_yMt.fr A_hq (by decide) (by decide)) (a5) (by omega) (by omega)) (fun rv hp9 q9 => ?_)
          obtain ⟨⟨z3, rfl, l_z3, u_z3⟩, e9⟩ := q9
          rw [e9]
          show yG _ _ _ _ _ _ _ _ _ _ (yI z3 :: []) _
          refine yG.load xik rfl (fun _ _ => rfl) (v := yI (p1)) rfl rfl ?_
          refine yG.icmp rfl (t := 73) rfl ⟨by omega, by omega⟩ ⟨by omega, by omega⟩ (fun c4 => ?_) (fun c4 => ?_)
          · have c4 : (z3 : Int) = p1 := c4
            refine yG.numl (c := 0) rfl (fun _ _ => rfl) (by decide) ?_
            refine yG.store2 xlk2 (L' := [(6, yJ (0)), (0, yR 2073), (1, yI (p1)), (2, yI (p2)), (3, yJ (p3)), (5, yI (a5))]) rfl (fun _ _ => rfl) rfl rfl ?_
            refine yG.numl (c := 0) rfl (fun _ _ => rfl) (by decide) ?_
            refine yG.store2 xlk2 (L' := [(8, yJ (0)), (6, yJ (0)), (0, yR 2073), (1, yI (p1)), (2, yI (p2)), (3, yJ (p3)), (5, yI (a5))]) rfl (fun _ _ => rfl) rfl rfl ?_
            refine yG.num (c := 0) rfl (fun _ _ => rfl) (by decide) ?_
            refine yG.store1 xik (L' := [(10, yI (0)), (8, yJ (0)), (6, yJ (0)), (0, yR 2073), (1, yI (p1)), (2, yI (p2)), (3, yJ (p3)), (5, yI (a5))]) rfl (fun _ _ => rfl) rfl rfl ?_
            exact yG.mono (yG.sub (i_82 (a5) (0) (0) (0) (ys hq 2073 11) (ys hq 2073 10) hq A_hq rfl rfl (by omega) (by omega) (by omega) (by omega) (by omega) (by omega) (by omega) (by omega) (by omega) (by omega) (by omega) (by omega) (by omega) (by omega) (by omega) (by omega) (by omega) (by omega) (by omega) (by omega) (by omega) (by omega) (by omega) (by omega)) (ySub.cons rfl (ySub.cons rfl (ySub.cons rfl (ySub.cons rfl (ySub.cons rfl (ySub.cons rfl (ySub.cons rfl (ySub.cons rfl (ySub.nil)))))))))) (by omega)
          · have c4 : (z3 : Int) ≠ p1 := c4
            refine yG.goto rfl (t := 284) rfl ?_
            refine yG.iinc rfl (a := a5) rfl (L' := [(5, yI (a5 + 1)), (0, yR 2073), (1, yI (p1)), (2, yI (p2)), (3, yJ (p3))]) rfl ?_
            refine yG.goto rfl (t := 51) rfl ?_
            exact yG.mono (yG.sub (i_51 (a5 + 1) (ys hq 2073 11) (ys hq 2073 10) hq A_hq rfl rfl (by omega) (by omega) (by omega) (by omega) (by omega) (by omega) (by omega) (by omega) (by omega) (by omega) (by omega) (by omega) (by omega)) (ySub.cons rfl (ySub.cons rfl (ySub.cons rfl (ySub.cons rfl (ySub.cons rfl (ySub.nil))))))) (by omega)
      · intro a5 a6 a8 a10 gg11 gg10 hq A_hq E_11 E_10 f0 f1 f2 f3 f4 f5 f6 f7 f8 f9 f10 f11 f12 f13 f14 f15 f16 f17 f18 f19 f20 f21 f22 hm
        refine yG.mono (N := 50 * m + 50) ?_ (by omega)
        refine yG.load xik rfl (fun _ _ => rfl) (v := yI (a10)) rfl rfl ?_
        refine yG.load xik rfl (fun _ _ => rfl) (v := yI (p2)) rfl rfl ?_
        refine yG.icmp rfl (t := 215) rfl ⟨by omega, by omega⟩ ⟨by omega, by omega⟩ (fun c1 => ?_) (fun c1 => ?_)
        · have c1 : (a10 : Int) ≥ p2 := c1
          refine yG.load xak rfl (fun _ _ => rfl) (v := yR 2073) rfl rfl ?_
          refine yG.num (c := 20) rfl (fun _ _ => rfl) (by decide) ?_
          refine yG.load xik rfl (fun _ _ => rfl) (v := yI (a5)) rfl rfl ?_
          refine yG.iadd rfl ?_
          refine yG.load xak rfl (fun _ _ => rfl) (v := yR 2073) rfl rfl ?_
          refine yG.load xak rfl (fun _ _ => rfl) (v := yR 2073) rfl rfl ?_
          refine yG.getR A_hq.1 (r_meterValue W) rfl rfl ?_
          refine yG.load xik rfl (fun _ _ => rfl) (v := yI (a5)) rfl rfl ?_
          refine yG.iald A_hq.1 (v_meterValue W) rfl (by omega) (by omega) (fun z2 e_z2 i_z2 l_z2 u_z2 => ?_)
          refine yG.i2l rfl ⟨by omega, by omega⟩ ?_
          refine yG.load xlk2 rfl (fun _ _ => rfl) (v := yJ (a6)) rfl rfl ?_
          refine yG.lsub rfl ?_
          refine yG.invV (rest := [yI (20 + a5), yR 2073]) A_hq.1 W.m.1 rfl rfl rfl rfl (a_mod W (d + 3) A_hq.1 (z2 - a6) (by omega) (by omega) (by omega) (by omega)) (fun rv hp9 q9 => ?_)
          obtain ⟨⟨z3, rfl, l_z3, u_z3⟩, e9⟩ := q9
          rw [e9]
          show yG _ _ _ _ _ _ _ _ _ _ (yJ z3 :: [yI (20 + a5), yR 2073]) _
          refine yG.load xlk2 rfl (fun _ _ => rfl) (v := yJ (p3)) rfl rfl ?_
          refine yG.lmul rfl ?_
          obtain ⟨z4, e_z4⟩ : ∃ z : Int, z = z3 * p3 := ⟨_, rfl⟩
          rw [← e_z4]
          have b_z4 : 0 ≤ z4 ∧ z4 ≤ 4611686009837453316 := e_z4 ▸ ymulb (A := 2147483646) (B := 2147483646) (by omega) (by omega) (by omega) (by omega) (by decide)
          refine yG.load xak rfl (fun _ _ => rfl) (v := yR 2073) rfl rfl ?_
          refine yG.getJ A_hq.1 (w_p W) rfl rfl (fun z5 e_z5 i_z5 l_z5 u_z5 => ?_)
          refine yG.lrem rfl ⟨by omega, by omega⟩ ⟨by omega, by omega⟩ (by omega) (by omega) ?_
          obtain ⟨z6, e_z6⟩ : ∃ z : Int, z = (z4) % (z5) := ⟨_, rfl⟩
          rw [← e_z6]
          have b_z6 : 0 ≤ z6 ∧ z6 < z5 := e_z6 ▸ ⟨Int.emod_nonneg _ (by omega), Int.emod_lt_of_pos _ (by omega)⟩
          refine yG.invV (rest := []) A_hq.1 W.m.1 rfl rfl rfl rfl (a_tell W (d + 3) A_hq.1 (20 + a5) (z6) (by omega) (by omega) (by omega) (by omega) (by omega) (by omega)) (fun rv h8 q9 => ?_)
          obtain ⟨rfl, B_h8⟩ := q9
          have A_h8 := A_hq.tr (B_h8.sub (by decide) (by decide))
          have g11_h8 : ys h8 2073 11 = ys hq 2073 11 := B_h8.ys (by decide) (by decide)
          have g10_h8 : ys h8 2073 10 = ys hq 2073 10 := B_h8.ys (by decide) (by decide)
          show yG _ _ _ _ _ _ _ _ _ _ [] _
          refine yG.load xak rfl (fun _ _ => rfl) (v := yR 2073) rfl rfl ?_
          refine yG.num (c := 60) rfl (fun _ _ => rfl) (by decide) ?_
          refine yG.load xik rfl (fun _ _ => rfl) (v := yI (a5)) rfl rfl ?_
          refine yG.iadd rfl ?_
          refine yG.load xak rfl (fun _ _ => rfl) (v := yR 2073) rfl rfl ?_
          refine yG.numl (c := 1) rfl (fun _ _ => rfl) (by decide) ?_
          refine yG.load xak rfl (fun _ _ => rfl) (v := yR 2073) rfl rfl ?_
          refine yG.getR A_h8.1 (r_meterWeight W) rfl rfl ?_
          refine yG.load xik rfl (fun _ _ => rfl) (v := yI (a5)) rfl rfl ?_
          refine yG.iald A_h8.1 (v_meterWeight W) rfl (by omega) (by omega) (fun z9 e_z9 i_z9 l_z9 u_z9 => ?_)
          refine yG.i2l rfl ⟨by omega, by omega⟩ ?_
          refine yG.load xlk2 rfl (fun _ _ => rfl) (v := yJ (a8)) rfl rfl ?_
          refine yG.lmul rfl ?_
          obtain ⟨z10, e_z10⟩ : ∃ z : Int, z = z9 * a8 := ⟨_, rfl⟩
          rw [← e_z10]
          have b_z10 : 0 ≤ z10 ∧ z10 ≤ 212600880954 := e_z10 ▸ ymulb (A := 99) (B := 2147483646) (by omega) (by omega) (by omega) (by omega) (by decide)
          refine yG.load xak rfl (fun _ _ => rfl) (v := yR 2073) rfl rfl ?_
          refine yG.getJ A_h8.1 (w_p W) rfl rfl (fun z11 e_z11 i_z11 l_z11 u_z11 => ?_)
          refine yG.lrem rfl ⟨by omega, by omega⟩ ⟨by omega, by omega⟩ (by omega) (by omega) ?_
          obtain ⟨z12, e_z12⟩ : ∃ z : Int, z = (z10) % (z11) := ⟨_, rfl⟩
          rw [← e_z12]
          have b_z12 : 0 ≤ z12 ∧ z12 < z11 := e_z12 ▸ ⟨Int.emod_nonneg _ (by omega), Int.emod_lt_of_pos _ (by omega)⟩
          refine yG.lsub rfl ?_
          refine yG.invV (rest := [yI (60 + a5), yR 2073]) A_h8.1 W.m.1 rfl rfl rfl rfl (a_mod W (d + 3) A_h8.1 (1 - z12) (by omega) (by omega) (by omega) (by omega)) (fun rv hp9 q9 => ?_)
          obtain ⟨⟨z13, rfl, l_z13, u_z13⟩, e9⟩ := q9
          rw [e9]
          show yG _ _ _ _ _ _ _ _ _ _ (yJ z13 :: [yI (60 + a5), yR 2073]) _
          refine yG.load xlk2 rfl (fun _ _ => rfl) (v := yJ (p3)) rfl rfl ?_
          refine yG.lmul rfl ?_
          obtain ⟨z14, e_z14⟩ : ∃ z : Int, z = z13 * p3 := ⟨_, rfl⟩
          rw [← e_z14]
          have b_z14 : 0 ≤ z14 ∧ z14 ≤ 4611686009837453316 := e_z14 ▸ ymulb (A := 2147483646) (B := 2147483646) (by omega) (by omega) (by omega) (by omega) (by decide)
          refine yG.load xak rfl (fun _ _ => rfl) (v := yR 2073) rfl rfl ?_
          refine yG.getJ A_h8.1 (w_p W) rfl rfl (fun z15 e_z15 i_z15 l_z15 u_z15 => ?_)
          refine yG.lrem rfl ⟨by omega, by omega⟩ ⟨by omega, by omega⟩ (by omega) (by omega) ?_
          obtain ⟨z16, e_z16⟩ : ∃ z : Int, z = (z14) % (z15) := ⟨_, rfl⟩
          rw [← e_z16]
          have b_z16 : 0 ≤ z16 ∧ z16 < z15 := e_z16 ▸ ⟨Int.emod_nonneg _ (by omega), Int.emod_lt_of_pos _ (by omega)⟩
          refine yG.invV (rest := []) A_h8.1 W.m.1 rfl rfl rfl rfl (a_tell W (d + 3) A_h8.1 (60 + a5) (z16) (by omega) (by omega) (by omega) (by omega) (by omega) (by omega)) (fun rv h18 q9 => ?_)
          obtain ⟨rfl, B_h18⟩ := q9
          have A_h18 := A_h8.tr (B_h18.sub (by decide) (by decide))
          have g11_h18 : ys h18 2073 11 = ys h8 2073 11 := B_h18.ys (by decide) (by decide)
          have g10_h18 : ys h18 2073 10 = ys h8 2073 10 := B_h18.ys (by decide) (by decide)
          show yG _ _ _ _ _ _ _ _ _ _ [] _
          refine yG.iinc rfl (a := a5) rfl (L' := [(5, yI (a5 + 1)), (0, yR 2073), (1, yI (p1)), (2, yI (p2)), (3, yJ (p3)), (6, yJ (a6)), (8, yJ (a8)), (10, yI (a10))]) rfl ?_
          refine yG.goto rfl (t := 51) rfl ?_
          exact yG.mono (yG.sub (i_51 (a5 + 1) (ys h18 2073 11) (ys h18 2073 10) h18 A_h18 rfl rfl (by omega) (by omega) (by omega) (by omega) (by omega) (by omega) (by omega) (by omega) (by omega) (by omega) (by omega) (by omega) (by omega)) (ySub.cons rfl (ySub.cons rfl (ySub.cons rfl (ySub.cons rfl (ySub.cons rfl (ySub.nil))))))) (by omega)
        · have c1 : (a10 : Int) < p2 := c1
          refine yG.load xlk2 rfl (fun _ _ => rfl) (v := yJ (a6)) rfl rfl ?_
          refine yG.load xak rfl (fun _ _ => rfl) (v := yR 2073) rfl rfl ?_
          refine yG.getR A_hq.1 (r_shows W) rfl rfl ?_
          refine yG.num (c := 16) rfl (fun _ _ => rfl) (by decide) ?_
          refine yG.load xik rfl (fun _ _ => rfl) (v := yI (a5)) rfl rfl ?_
          refine yG.imul rfl ?_
          refine yG.load xik rfl (fun _ _ => rfl) (v := yI (a10)) rfl rfl ?_
          refine yG.iadd rfl ?_
          refine yG.lald A_hq.1 (v_shows W) rfl (by omega) (by omega) (fun z19 e_z19 i_z19 l_z19 u_z19 => ?_)
          refine yG.load xak rfl (fun _ _ => rfl) (v := yR 2073) rfl rfl ?_
          refine yG.getR A_hq.1 (r_matrix W) rfl rfl ?_
          refine yG.num (c := 48) rfl (fun _ _ => rfl) (by decide) ?_
          refine yG.load xik rfl (fun _ _ => rfl) (v := yI (a10)) rfl rfl ?_
          refine yG.imul rfl ?_
          refine yG.load xik rfl (fun _ _ => rfl) (v := yI (p2)) rfl rfl ?_
          refine yG.iadd rfl ?_
          refine yG.lald A_hq.1 (v_matrix W) rfl (by omega) (by omega) (fun z20 e_z20 i_z20 l_z20 u_z20 => ?_)
          refine yG.lmul rfl ?_
          obtain ⟨z21, e_z21⟩ : ∃ z : Int, z = z19 * z20 := ⟨_, rfl⟩
          rw [← e_z21]
          have b_z21 : 0 ≤ z21 ∧ z21 ≤ 4611686014132420609 := e_z21 ▸ ymulb (A := 2147483647) (B := 2147483647) (by omega) (by omega) (by omega) (by omega) (by decide)
          refine yG.ladd rfl ?_
          refine yG.load xak rfl (fun _ _ => rfl) (v := yR 2073) rfl rfl ?_
          refine yG.getJ A_hq.1 (w_p W) rfl rfl (fun z22 e_z22 i_z22 l_z22 u_z22 => ?_)
          refine yG.lrem rfl ⟨by omega, by omega⟩ ⟨by omega, by omega⟩ (by omega) (by omega) ?_
          obtain ⟨z23, e_z23⟩ : ∃ z : Int, z = (a6 + z21) % (z22) := ⟨_, rfl⟩
          rw [← e_z23]
          have b_z23 : 0 ≤ z23 ∧ z23 < z22 := e_z23 ▸ ⟨Int.emod_nonneg _ (by omega), Int.emod_lt_of_pos _ (by omega)⟩
          refine yG.store2 xlk2 (L' := [(6, yJ (z23)), (0, yR 2073), (1, yI (p1)), (2, yI (p2)), (3, yJ (p3)), (5, yI (a5)), (8, yJ (a8)), (10, yI (a10))]) rfl (fun _ _ => rfl) rfl rfl ?_
          refine yG.numl (c := 0) rfl (fun _ _ => rfl) (by decide) ?_
          refine yG.store2 xlk2 (L' := [(11, yJ (0)), (6, yJ (z23)), (0, yR 2073), (1, yI (p1)), (2, yI (p2)), (3, yJ (p3)), (5, yI (a5)), (8, yJ (a8)), (10, yI (a10))]) rfl (fun _ _ => rfl) rfl rfl ?_
          refine yG.num (c := 0) rfl (fun _ _ => rfl) (by decide) ?_
          refine yG.store1 xik (L' := [(13, yI (0)), (11, yJ (0)), (6, yJ (z23)), (0, yR 2073), (1, yI (p1)), (2, yI (p2)), (3, yJ (p3)), (5, yI (a5)), (8, yJ (a8)), (10, yI (a10))]) rfl (fun _ _ => rfl) rfl rfl ?_
          exact yG.mono (yG.sub (i_130 (a5) (z23) (a8) (a10) (0) (0) (ys hq 2073 11) (ys hq 2073 10) hq A_hq rfl rfl (by omega) (by omega) (by omega) (by omega) (by omega) (by omega) (by omega) (by omega) (by omega) (by omega) (by omega) (by omega) (by omega) (by omega) (by omega) (by omega) (by omega) (by omega) (by omega) (by omega) (by omega) (by omega) (by omega) (by omega) (by omega) (by omega) (by omega) (by omega) (by omega)) (ySub.cons rfl (ySub.cons rfl (ySub.cons rfl (ySub.cons rfl (ySub.cons rfl (ySub.cons rfl (ySub.cons rfl (ySub.cons rfl (ySub.cons rfl (ySub.cons rfl (ySub.nil)))))))))))) (by omega)
      · intro a5 a6 a8 a10 a11 a13 gg11 gg10 hq A_hq E_11 E_10 f0 f1 f2 f3 f4 f5 f6 f7 f8 f9 f10 f11 f12 f13 f14 f15 f16 f17 f18 f19 f20 f21 f22 f23 f24 f25 f26 f27 hm
        refine yG.mono (N := 50 * m + 50) ?_ (by omega)
        refine yG.load xik rfl (fun _ _ => rfl) (v := yI (a13)) rfl rfl ?_
        refine yG.load xik rfl (fun _ _ => rfl) (v := yI (p2)) rfl rfl ?_
        refine yG.icmp rfl (t := 183) rfl ⟨by omega, by omega⟩ ⟨by omega, by omega⟩ (fun c1 => ?_) (fun c1 => ?_)
        · have c1 : (a13 : Int) ≥ p2 := c1
          refine yG.load xlk2 rfl (fun _ _ => rfl) (v := yJ (a8)) rfl rfl ?_
          refine yG.load xlk2 rfl (fun _ _ => rfl) (v := yJ (a11)) rfl rfl ?_
          refine yG.load xak rfl (fun _ _ => rfl) (v := yR 2073) rfl rfl ?_
          refine yG.getR A_hq.1 (r_shows W) rfl rfl ?_
          refine yG.num (c := 16) rfl (fun _ _ => rfl) (by decide) ?_
          refine yG.load xik rfl (fun _ _ => rfl) (v := yI (a5)) rfl rfl ?_
          refine yG.imul rfl ?_
          refine yG.load xik rfl (fun _ _ => rfl) (v := yI (a10)) rfl rfl ?_
          refine yG.iadd rfl ?_
          refine yG.lald A_hq.1 (v_shows W) rfl (by omega) (by omega) (fun z2 e_z2 i_z2 l_z2 u_z2 => ?_)
          refine yG.lmul rfl ?_
          obtain ⟨z3, e_z3⟩ : ∃ z : Int, z = a11 * z2 := ⟨_, rfl⟩
          rw [← e_z3]
          have b_z3 : 0 ≤ z3 ∧ z3 ≤ 4611686011984936962 := e_z3 ▸ ymulb (A := 2147483646) (B := 2147483647) (by omega) (by omega) (by omega) (by omega) (by decide)
          refine yG.ladd rfl ?_
          refine yG.load xak rfl (fun _ _ => rfl) (v := yR 2073) rfl rfl ?_
          refine yG.getJ A_hq.1 (w_p W) rfl rfl (fun z4 e_z4 i_z4 l_z4 u_z4 => ?_)
          refine yG.lrem rfl ⟨by omega, by omega⟩ ⟨by omega, by omega⟩ (by omega) (by omega) ?_
          obtain ⟨z5, e_z5⟩ : ∃ z : Int, z = (a8 + z3) % (z4) := ⟨_, rfl⟩
          rw [← e_z5]
          have b_z5 : 0 ≤ z5 ∧ z5 < z4 := e_z5 ▸ ⟨Int.emod_nonneg _ (by omega), Int.emod_lt_of_pos _ (by omega)⟩
          refine yG.store2 xlk2 (L' := [(8, yJ (z5)), (0, yR 2073), (1, yI (p1)), (2, yI (p2)), (3, yJ (p3)), (5, yI (a5)), (6, yJ (a6)), (10, yI (a10)), (11, yJ (a11)), (13, yI (a13))]) rfl (fun _ _ => rfl) rfl rfl ?_
          refine yG.iinc rfl (a := a10) rfl (L' := [(10, yI (a10 + 1)), (8, yJ (z5)), (0, yR 2073), (1, yI (p1)), (2, yI (p2)), (3, yJ (p3)), (5, yI (a5)), (6, yJ (a6)), (11, yJ (a11)), (13, yI (a13))]) rfl ?_
          refine yG.goto rfl (t := 82) rfl ?_
          exact yG.mono (yG.sub (i_82 (a5) (a6) (z5) (a10 + 1) (ys hq 2073 11) (ys hq 2073 10) hq A_hq rfl rfl (by omega) (by omega) (by omega) (by omega) (by omega) (by omega) (by omega) (by omega) (by omega) (by omega) (by omega) (by omega) (by omega) (by omega) (by omega) (by omega) (by omega) (by omega) (by omega) (by omega) (by omega) (by omega) (by omega) (by omega)) (ySub.cons rfl (ySub.cons rfl (ySub.cons rfl (ySub.cons rfl (ySub.cons rfl (ySub.cons rfl (ySub.cons rfl (ySub.cons rfl (ySub.nil)))))))))) (by omega)
        · have c1 : (a13 : Int) < p2 := c1
          refine yG.load xlk2 rfl (fun _ _ => rfl) (v := yJ (a11)) rfl rfl ?_
          refine yG.load xak rfl (fun _ _ => rfl) (v := yR 2073) rfl rfl ?_
          refine yG.getR A_hq.1 (r_matrix W) rfl rfl ?_
          refine yG.num (c := 48) rfl (fun _ _ => rfl) (by decide) ?_
          refine yG.load xik rfl (fun _ _ => rfl) (v := yI (a10)) rfl rfl ?_
          refine yG.imul rfl ?_
          refine yG.load xik rfl (fun _ _ => rfl) (v := yI (p2)) rfl rfl ?_
          refine yG.iadd rfl ?_
          refine yG.num (c := 1) rfl (fun _ _ => rfl) (by decide) ?_
          refine yG.iadd rfl ?_
          refine yG.load xik rfl (fun _ _ => rfl) (v := yI (a13)) rfl rfl ?_
          refine yG.iadd rfl ?_
          refine yG.lald A_hq.1 (v_matrix W) rfl (by omega) (by omega) (fun z6 e_z6 i_z6 l_z6 u_z6 => ?_)
          refine yG.load xak rfl (fun _ _ => rfl) (v := yR 2073) rfl rfl ?_
          refine yG.getR A_hq.1 (r_shows W) rfl rfl ?_
          refine yG.num (c := 16) rfl (fun _ _ => rfl) (by decide) ?_
          refine yG.load xik rfl (fun _ _ => rfl) (v := yI (a5)) rfl rfl ?_
          refine yG.imul rfl ?_
          refine yG.load xik rfl (fun _ _ => rfl) (v := yI (a13)) rfl rfl ?_
          refine yG.iadd rfl ?_
          refine yG.lald A_hq.1 (v_shows W) rfl (by omega) (by omega) (fun z7 e_z7 i_z7 l_z7 u_z7 => ?_)
          refine yG.lmul rfl ?_
          obtain ⟨z8, e_z8⟩ : ∃ z : Int, z = z6 * z7 := ⟨_, rfl⟩
          rw [← e_z8]
          have b_z8 : 0 ≤ z8 ∧ z8 ≤ 4611686014132420609 := e_z8 ▸ ymulb (A := 2147483647) (B := 2147483647) (by omega) (by omega) (by omega) (by omega) (by decide)
          refine yG.ladd rfl ?_
          refine yG.load xak rfl (fun _ _ => rfl) (v := yR 2073) rfl rfl ?_
          refine yG.getJ A_hq.1 (w_p W) rfl rfl (fun z9 e_z9 i_z9 l_z9 u_z9 => ?_)
          refine yG.lrem rfl ⟨by omega, by omega⟩ ⟨by omega, by omega⟩ (by omega) (by omega) ?_
          obtain ⟨z10, e_z10⟩ : ∃ z : Int, z = (a11 + z8) % (z9) := ⟨_, rfl⟩
          rw [← e_z10]
          have b_z10 : 0 ≤ z10 ∧ z10 < z9 := e_z10 ▸ ⟨Int.emod_nonneg _ (by omega), Int.emod_lt_of_pos _ (by omega)⟩
          refine yG.store2 xlk2 (L' := [(11, yJ (z10)), (0, yR 2073), (1, yI (p1)), (2, yI (p2)), (3, yJ (p3)), (5, yI (a5)), (6, yJ (a6)), (8, yJ (a8)), (10, yI (a10)), (13, yI (a13))]) rfl (fun _ _ => rfl) rfl rfl ?_
          refine yG.iinc rfl (a := a13) rfl (L' := [(13, yI (a13 + 1)), (11, yJ (z10)), (0, yR 2073), (1, yI (p1)), (2, yI (p2)), (3, yJ (p3)), (5, yI (a5)), (6, yJ (a6)), (8, yJ (a8)), (10, yI (a10))]) rfl ?_
          refine yG.goto rfl (t := 130) rfl ?_
          exact yG.mono (yG.sub (i_130 (a5) (a6) (a8) (a10) (z10) (a13 + 1) (ys hq 2073 11) (ys hq 2073 10) hq A_hq rfl rfl (by omega) (by omega) (by omega) (by omega) (by omega) (by omega) (by omega) (by omega) (by omega) (by omega) (by omega) (by omega) (by omega) (by omega) (by omega) (by omega) (by omega) (by omega) (by omega) (by omega) (by omega) (by omega) (by omega) (by omega) (by omega) (by omega) (by omega) (by omega) (by omega)) (ySub.cons rfl (ySub.cons rfl (ySub.cons rfl (ySub.cons rfl (ySub.cons rfl (ySub.cons rfl (ySub.cons rfl (ySub.cons rfl (ySub.cons rfl (ySub.cons rfl (ySub.nil)))))))))))) (by omega)
  refine yC.of (M := (xt_X13_tellEstimate, (14, (0, (14, []))))) rfl rfl (N := 13966500) (yfuel (by decide)) ?_
  show yG 89 xfts (xcall 89 xfts xpools xms (d + 4)) (xpool xp_RX13) [] xt_X13_tellEstimate (yP 0 (yQv G [] [2081] hp)) 13966500 0 [(0, yR 2073), (1, yI (p1)), (2, yI (p2)), (3, yJ (p3))] [] hp
  obtain ⟨i_9, i_51, i_82, i_130⟩ := H 279329
  obtain ⟨gg11, E_11⟩ : ∃ z : Int, ys hp 2073 11 = z := ⟨_, rfl⟩
  obtain ⟨gg10, E_10⟩ : ∃ z : Int, ys hp 2073 10 = z := ⟨_, rfl⟩
  obtain ⟨-, -, r_11l, r_11u⟩ := (w_p W).long hT
  obtain ⟨-, -, r_10l, r_10u⟩ := (w_usedCount W).int hT
  refine yG.load xak rfl (fun _ _ => rfl) (v := yR 2073) rfl rfl ?_
  refine yG.num (c := 0) rfl (fun _ _ => rfl) (by decide) ?_
  refine yG.load xlk2 rfl (fun _ _ => rfl) (v := yJ (p3)) rfl rfl ?_
  refine yG.invV (rest := []) A_hp.1 W.m.1 rfl rfl rfl rfl (a_tell W (d + 3) A_hp.1 (0) (p3) (by omega) (by omega) (by omega) (by omega) (by omega) (by omega)) (fun rv h2 q9 => ?_)
  obtain ⟨rfl, B_h2⟩ := q9
  have A_h2 := A_hp.tr (B_h2.sub (by decide) (by decide))
  have g11_h2 : ys h2 2073 11 = ys hp 2073 11 := B_h2.ys (by decide) (by decide)
  have g10_h2 : ys h2 2073 10 = ys hp 2073 10 := B_h2.ys (by decide) (by decide)
  show yG _ _ _ _ _ _ _ _ _ _ [] _
  refine yG.num (c := 0) rfl (fun _ _ => rfl) (by decide) ?_
  refine yG.store1 xik (L' := [(5, yI (0)), (0, yR 2073), (1, yI (p1)), (2, yI (p2)), (3, yJ (p3))]) rfl (fun _ _ => rfl) rfl rfl ?_
  exact yG.mono (yG.sub (i_9 (0) (ys h2 2073 11) (ys h2 2073 10) h2 A_h2 rfl rfl (by omega) (by omega) (by omega) (by omega) (by omega) (by omega) (by omega) (by omega) (by omega) (by omega) (by omega) (by omega) (by omega) (by omega)) (ySub.cons rfl (ySub.cons rfl (ySub.cons rfl (ySub.cons rfl (ySub.cons rfl (ySub.nil))))))) (by omega)
theorem a_mayBe {hp : xH} (W : yWW G) (d : Nat) (hT : zTy G hp) (p1 p2 p3 p4 : Int) (h1l : 0 ≤ p1) (h1u : p1 ≤ 4) (h2l : 0 ≤ p2) (h2u : p2 ≤ 23) (h3l : (-2147483648) ≤ p3) (h3u : p3 ≤ 2147483647) (h4l : (-2147483648) ≤ p4) (h4u : p4 ≤ 2147483647) : yC (xcall 89 xfts xpools xms (d + 3)) 453 [yR 2073, yI (p1), yI (p2), yI (p3), yI (p4)] hp (fun rv hp' => (∃ z, rv = some (yI z) ∧ 0 ≤ z ∧ z ≤ 1 ∧ (z = 1 → 0 ≤ p1 - 1 ∧ 0 ≤ p3 ∧ 0 ≤ 0 - p3 + 9)) ∧ hp' = hp) := by
  have A_hp : yAx G [] [] hp hp := yAx.rf hT
  refine yC.of (M := (xt_X13_mayBe, (5, (4, (14, []))))) rfl rfl (N := 84) (yfuel (by decide)) ?_
  show yG 89 xfts (xcall 89 xfts xpools xms (d + 2)) (xpool xp_RX13) [] xt_X13_mayBe (yP 4 (fun rv hp' => (∃ z, rv = some (yI z) ∧ 0 ≤ z ∧ z ≤ 1 ∧ (z = 1 → 0 ≤ p1 - 1 ∧ 0 ≤ p3 ∧ 0 ≤ 0 - p3 + 9)) ∧ hp' = hp)) 84 0 [(0, yR 2073), (1, yI (p1)), (2, yI (p2)), (3, yI (p3)), (4, yI (p4))] [] hp
  refine yG.load xik rfl (fun _ _ => rfl) (v := yI (p1)) rfl rfl ?_
  refine yG.num (c := 1) rfl (fun _ _ => rfl) (by decide) ?_
  refine yG.icmp rfl (t := 46) rfl ⟨by omega, by omega⟩ ⟨by omega, by omega⟩ (fun c1 => ?_) (fun c1 => ?_)
  · have c1 : (p1 : Int) ≠ 1 := c1
    refine yG.load xik rfl (fun _ _ => rfl) (v := yI (p1)) rfl rfl ?_
    refine yG.num (c := 2) rfl (fun _ _ => rfl) (by decide) ?_
    refine yG.icmp rfl (t := 126) rfl ⟨by omega, by omega⟩ ⟨by omega, by omega⟩ (fun c2 => ?_) (fun c2 => ?_)
    · have c2 : (p1 : Int) ≠ 2 := c2
      refine yG.load xik rfl (fun _ _ => rfl) (v := yI (p1)) rfl rfl ?_
      refine yG.num (c := 4) rfl (fun _ _ => rfl) (by decide) ?_
      refine yG.icmp rfl (t := 154) rfl ⟨by omega, by omega⟩ ⟨by omega, by omega⟩ (fun c3 => ?_) (fun c3 => ?_)
      · have c3 : (p1 : Int) ≠ 4 := c3
        refine yG.load xik rfl (fun _ _ => rfl) (v := yI (p1)) rfl rfl ?_
        refine yG.ifz rfl (t := 160) rfl ⟨by omega, by omega⟩ (fun c4 => ?_) (fun c4 => ?_)
        · have c4 : (p1 : Int) ≠ 0 := c4
          refine yG.load xik rfl (fun _ _ => rfl) (v := yI (p3)) rfl rfl ?_
          rcases (show (p3 < (0 : Int) ∨ (8 : Int) < p3) ∨ p3 = (0 : Int) ∨ p3 = (1 : Int) ∨ p3 = (2 : Int) ∨ p3 = (3 : Int) ∨ p3 = (4 : Int) ∨ p3 = (5 : Int) ∨ p3 = (6 : Int) ∨ p3 = (7 : Int) ∨ p3 = (8 : Int) by omega) with c5 | c5 | c5 | c5 | c5 | c5 | c5 | c5 | c5 | c5
          · skip
            refine yG.tswD (t := 324) rfl ⟨by omega, by omega⟩ c5 rfl ?_
            refine yG.load xik rfl (fun _ _ => rfl) (v := yI (p3)) rfl rfl ?_
            refine yG.num (c := 9) rfl (fun _ _ => rfl) (by decide) ?_
            refine yG.icmp rfl (t := 347) rfl ⟨by omega, by omega⟩ ⟨by omega, by omega⟩ (fun c6 => ?_) (fun c6 => ?_)
            · have c6 : (p3 : Int) ≠ 9 := c6
              refine yG.num (c := 0) rfl (fun _ _ => rfl) (by decide) ?_
              refine yG.ret rfl (fun _ _ => rfl) ?_
              exact yP.bool (by omega) ⟨⟨0, rfl, by omega, by omega, by omega⟩, rfl⟩
            · have c6 : (p3 : Int) = 9 := c6
              refine yG.load xik rfl (fun _ _ => rfl) (v := yI (p4)) rfl rfl ?_
              refine yG.i2l rfl ⟨by omega, by omega⟩ ?_
              refine yG.numl (c := 0) rfl (fun _ _ => rfl) (by decide) ?_
              refine yG.numl (c := 9) rfl (fun _ _ => rfl) (by decide) ?_
              refine yG.invS (rest := []) rfl rfl rfl rfl (a_in W (d + 1) A_hp.1 (p4) (0) (9) (by omega) (by omega) (by omega) (by omega) (by omega) (by omega)) (fun rv hp9 q9 => ?_)
              obtain ⟨⟨z7, rfl, l_z7, u_z7, r_z7⟩, e9⟩ := q9
              rw [e9]
              show yG _ _ _ _ _ _ _ _ _ _ (yI z7 :: []) _
              refine yG.ifz rfl (t := 347) rfl ⟨by omega, by omega⟩ (fun c8 => ?_) (fun c8 => ?_)
              · have c8 : (z7 : Int) = 0 := c8
                refine yG.num (c := 0) rfl (fun _ _ => rfl) (by decide) ?_
                refine yG.ret rfl (fun _ _ => rfl) ?_
                exact yP.bool (by omega) ⟨⟨0, rfl, by omega, by omega, by omega⟩, rfl⟩
              · have c8 : (z7 : Int) ≠ 0 := c8
                refine yG.num (c := 1) rfl (fun _ _ => rfl) (by decide) ?_
                refine yG.goto rfl (t := 348) rfl ?_
                refine yG.ret rfl (fun _ _ => rfl) ?_
                exact yP.bool (by omega) ⟨⟨1, rfl, by omega, by omega, by omega⟩, rfl⟩
          · skip
            refine yG.tswC (i := 0) (t := 212) rfl ⟨by omega, by omega⟩ (by omega) (by omega) rfl rfl ?_
            refine yG.load xik rfl (fun _ _ => rfl) (v := yI (p4)) rfl rfl ?_
            refine yG.i2l rfl ⟨by omega, by omega⟩ ?_
            refine yG.numl (c := 0) rfl (fun _ _ => rfl) (by decide) ?_
            refine yG.numl (c := 1) rfl (fun _ _ => rfl) (by decide) ?_
            refine yG.invS (rest := []) rfl rfl rfl rfl (a_in W (d + 1) A_hp.1 (p4) (0) (1) (by omega) (by omega) (by omega) (by omega) (by omega) (by omega)) (fun rv hp9 q9 => ?_)
            obtain ⟨⟨z9, rfl, l_z9, u_z9, r_z9⟩, e9⟩ := q9
            rw [e9]
            show yG _ _ _ _ _ _ _ _ _ _ (yI z9 :: []) _
            refine yG.ret rfl (fun _ _ => rfl) ?_
            exact yP.bool (by omega) ⟨⟨z9, rfl, by omega, by omega, by omega⟩, rfl⟩
          · skip
            refine yG.tswC (i := 1) (t := 221) rfl ⟨by omega, by omega⟩ (by omega) (by omega) rfl rfl ?_
            refine yG.load xik rfl (fun _ _ => rfl) (v := yI (p4)) rfl rfl ?_
            refine yG.i2l rfl ⟨by omega, by omega⟩ ?_
            refine yG.numl (c := 0) rfl (fun _ _ => rfl) (by decide) ?_
            refine yG.numl (c := 9999) rfl (fun _ _ => rfl) (by decide) ?_
            refine yG.invS (rest := []) rfl rfl rfl rfl (a_in W (d + 1) A_hp.1 (p4) (0) (9999) (by omega) (by omega) (by omega) (by omega) (by omega) (by omega)) (fun rv hp9 q9 => ?_)
            obtain ⟨⟨z10, rfl, l_z10, u_z10, r_z10⟩, e9⟩ := q9
            rw [e9]
            show yG _ _ _ _ _ _ _ _ _ _ (yI z10 :: []) _
            refine yG.ret rfl (fun _ _ => rfl) ?_
            exact yP.bool (by omega) ⟨⟨z10, rfl, by omega, by omega, by omega⟩, rfl⟩
          · skip
            refine yG.tswC (i := 2) (t := 232) rfl ⟨by omega, by omega⟩ (by omega) (by omega) rfl rfl ?_
            refine yG.load xik rfl (fun _ _ => rfl) (v := yI (p4)) rfl rfl ?_
            refine yG.i2l rfl ⟨by omega, by omega⟩ ?_
            refine yG.numl (c := 1) rfl (fun _ _ => rfl) (by decide) ?_
            refine yG.numl (c := 99) rfl (fun _ _ => rfl) (by decide) ?_
            refine yG.invS (rest := []) rfl rfl rfl rfl (a_in W (d + 1) A_hp.1 (p4) (1) (99) (by omega) (by omega) (by omega) (by omega) (by omega) (by omega)) (fun rv hp9 q9 => ?_)
            obtain ⟨⟨z11, rfl, l_z11, u_z11, r_z11⟩, e9⟩ := q9
            rw [e9]
            show yG _ _ _ _ _ _ _ _ _ _ (yI z11 :: []) _
            refine yG.ret rfl (fun _ _ => rfl) ?_
            exact yP.bool (by omega) ⟨⟨z11, rfl, by omega, by omega, by omega⟩, rfl⟩
          · skip
            refine yG.tswC (i := 3) (t := 243) rfl ⟨by omega, by omega⟩ (by omega) (by omega) rfl rfl ?_
            refine yG.load xik rfl (fun _ _ => rfl) (v := yI (p4)) rfl rfl ?_
            refine yG.i2l rfl ⟨by omega, by omega⟩ ?_
            refine yG.numl (c := 0) rfl (fun _ _ => rfl) (by decide) ?_
            refine yG.numl (c := 299) rfl (fun _ _ => rfl) (by decide) ?_
            refine yG.invS (rest := []) rfl rfl rfl rfl (a_in W (d + 1) A_hp.1 (p4) (0) (299) (by omega) (by omega) (by omega) (by omega) (by omega) (by omega)) (fun rv hp9 q9 => ?_)
            obtain ⟨⟨z12, rfl, l_z12, u_z12, r_z12⟩, e9⟩ := q9
            rw [e9]
            show yG _ _ _ _ _ _ _ _ _ _ (yI z12 :: []) _
            refine yG.ret rfl (fun _ _ => rfl) ?_
            exact yP.bool (by omega) ⟨⟨z12, rfl, by omega, by omega, by omega⟩, rfl⟩
          · skip
            refine yG.tswC (i := 4) (t := 254) rfl ⟨by omega, by omega⟩ (by omega) (by omega) rfl rfl ?_
            refine yG.load xik rfl (fun _ _ => rfl) (v := yI (p4)) rfl rfl ?_
            refine yG.i2l rfl ⟨by omega, by omega⟩ ?_
            refine yG.numl (c := 0) rfl (fun _ _ => rfl) (by decide) ?_
            refine yG.load xak rfl (fun _ _ => rfl) (v := yR 2073) rfl rfl ?_
            refine yG.num (c := 3) rfl (fun _ _ => rfl) (by decide) ?_
            refine yG.load xik rfl (fun _ _ => rfl) (v := yI (p2)) rfl rfl ?_
            refine yG.num (c := 5) rfl (fun _ _ => rfl) (by decide) ?_
            refine yG.invV (rest := [yJ (0), yJ (p4)]) A_hp.1 W.m.1 rfl rfl rfl rfl (a_of_3_5 W d A_hp.1 (p2) (by omega) (by omega)) (fun rv hp9 q9 => ?_)
            obtain ⟨⟨z13, rfl, l_z13, u_z13⟩, e9⟩ := q9
            rw [e9]
            show yG _ _ _ _ _ _ _ _ _ _ (yI z13 :: [yJ (0), yJ (p4)]) _
            refine yG.i2l rfl ⟨by omega, by omega⟩ ?_
            refine yG.invS (rest := []) rfl rfl rfl rfl (a_in W (d + 1) A_hp.1 (p4) (0) (z13) (by omega) (by omega) (by omega) (by omega) (by omega) (by omega)) (fun rv hp9 q9 => ?_)
            obtain ⟨⟨z14, rfl, l_z14, u_z14, r_z14⟩, e9⟩ := q9
            rw [e9]
            show yG _ _ _ _ _ _ _ _ _ _ (yI z14 :: []) _
            refine yG.ret rfl (fun _ _ => rfl) ?_
            exact yP.bool (by omega) ⟨⟨z14, rfl, by omega, by omega, by omega⟩, rfl⟩
          · skip
            refine yG.tswC (i := 5) (t := 270) rfl ⟨by omega, by omega⟩ (by omega) (by omega) rfl rfl ?_
            refine yG.load xik rfl (fun _ _ => rfl) (v := yI (p4)) rfl rfl ?_
            refine yG.i2l rfl ⟨by omega, by omega⟩ ?_
            refine yG.load xak rfl (fun _ _ => rfl) (v := yR 2073) rfl rfl ?_
            refine yG.num (c := 3) rfl (fun _ _ => rfl) (by decide) ?_
            refine yG.load xik rfl (fun _ _ => rfl) (v := yI (p2)) rfl rfl ?_
            refine yG.num (c := 4) rfl (fun _ _ => rfl) (by decide) ?_
            refine yG.invV (rest := [yJ (p4)]) A_hp.1 W.m.1 rfl rfl rfl rfl (a_of_3_4 W d A_hp.1 (p2) (by omega) (by omega)) (fun rv hp9 q9 => ?_)
            obtain ⟨⟨z15, rfl, l_z15, u_z15⟩, e9⟩ := q9
            rw [e9]
            show yG _ _ _ _ _ _ _ _ _ _ (yI z15 :: [yJ (p4)]) _
            refine yG.i2l rfl ⟨by omega, by omega⟩ ?_
            refine yG.numl (c := 9999) rfl (fun _ _ => rfl) (by decide) ?_
            refine yG.invS (rest := []) rfl rfl rfl rfl (a_in W (d + 1) A_hp.1 (p4) (z15) (9999) (by omega) (by omega) (by omega) (by omega) (by omega) (by omega)) (fun rv hp9 q9 => ?_)
            obtain ⟨⟨z16, rfl, l_z16, u_z16, r_z16⟩, e9⟩ := q9
            rw [e9]
            show yG _ _ _ _ _ _ _ _ _ _ (yI z16 :: []) _
            refine yG.ret rfl (fun _ _ => rfl) ?_
            exact yP.bool (by omega) ⟨⟨z16, rfl, by omega, by omega, by omega⟩, rfl⟩
          · skip
            refine yG.tswC (i := 6) (t := 288) rfl ⟨by omega, by omega⟩ (by omega) (by omega) rfl rfl ?_
            refine yG.load xik rfl (fun _ _ => rfl) (v := yI (p4)) rfl rfl ?_
            refine yG.i2l rfl ⟨by omega, by omega⟩ ?_
            refine yG.numl (c := 0) rfl (fun _ _ => rfl) (by decide) ?_
            refine yG.load xak rfl (fun _ _ => rfl) (v := yR 2073) rfl rfl ?_
            refine yG.num (c := 3) rfl (fun _ _ => rfl) (by decide) ?_
            refine yG.load xik rfl (fun _ _ => rfl) (v := yI (p2)) rfl rfl ?_
            refine yG.num (c := 8) rfl (fun _ _ => rfl) (by decide) ?_
            refine yG.invV (rest := [yJ (0), yJ (p4)]) A_hp.1 W.m.1 rfl rfl rfl rfl (a_of_3_8 W d A_hp.1 (p2) (by omega) (by omega)) (fun rv hp9 q9 => ?_)
            obtain ⟨⟨z17, rfl, l_z17, u_z17⟩, e9⟩ := q9
            rw [e9]
            show yG _ _ _ _ _ _ _ _ _ _ (yI z17 :: [yJ (0), yJ (p4)]) _
            refine yG.i2l rfl ⟨by omega, by omega⟩ ?_
            refine yG.invS (rest := []) rfl rfl rfl rfl (a_in W (d + 1) A_hp.1 (p4) (0) (z17) (by omega) (by omega) (by omega) (by omega) (by omega) (by omega)) (fun rv hp9 q9 => ?_)
            obtain ⟨⟨z18, rfl, l_z18, u_z18, r_z18⟩, e9⟩ := q9
            rw [e9]
            show yG _ _ _ _ _ _ _ _ _ _ (yI z18 :: []) _
            refine yG.ret rfl (fun _ _ => rfl) ?_
            exact yP.bool (by omega) ⟨⟨z18, rfl, by omega, by omega, by omega⟩, rfl⟩
          · skip
            refine yG.tswC (i := 7) (t := 221) rfl ⟨by omega, by omega⟩ (by omega) (by omega) rfl rfl ?_
            refine yG.load xik rfl (fun _ _ => rfl) (v := yI (p4)) rfl rfl ?_
            refine yG.i2l rfl ⟨by omega, by omega⟩ ?_
            refine yG.numl (c := 0) rfl (fun _ _ => rfl) (by decide) ?_
            refine yG.numl (c := 9999) rfl (fun _ _ => rfl) (by decide) ?_
            refine yG.invS (rest := []) rfl rfl rfl rfl (a_in W (d + 1) A_hp.1 (p4) (0) (9999) (by omega) (by omega) (by omega) (by omega) (by omega) (by omega)) (fun rv hp9 q9 => ?_)
            obtain ⟨⟨z19, rfl, l_z19, u_z19, r_z19⟩, e9⟩ := q9
            rw [e9]
            show yG _ _ _ _ _ _ _ _ _ _ (yI z19 :: []) _
            refine yG.ret rfl (fun _ _ => rfl) ?_
            exact yP.bool (by omega) ⟨⟨z19, rfl, by omega, by omega, by omega⟩, rfl⟩
          · skip
            refine yG.tswC (i := 8) (t := 305) rfl ⟨by omega, by omega⟩ (by omega) (by omega) rfl rfl ?_
            refine yG.load xik rfl (fun _ _ => rfl) (v := yI (p4)) rfl rfl ?_
            refine yG.i2l rfl ⟨by omega, by omega⟩ ?_
            refine yG.load xak rfl (fun _ _ => rfl) (v := yR 2073) rfl rfl ?_
            refine yG.num (c := 3) rfl (fun _ _ => rfl) (by decide) ?_
            refine yG.load xik rfl (fun _ _ => rfl) (v := yI (p2)) rfl rfl ?_
            refine yG.num (c := 6) rfl (fun _ _ => rfl) (by decide) ?_
            refine yG.invV (rest := [yJ (p4)]) A_hp.1 W.m.1 rfl rfl rfl rfl (a_of_3_6 W d A_hp.1 (p2) (by omega) (by omega)) (fun rv hp9 q9 => ?_)
            obtain ⟨⟨z20, rfl, l_z20, u_z20⟩, e9⟩ := q9
            rw [e9]
            show yG _ _ _ _ _ _ _ _ _ _ (yI z20 :: [yJ (p4)]) _
            refine yG.i2l rfl ⟨by omega, by omega⟩ ?_
            refine yG.numl (c := 999) rfl (fun _ _ => rfl) (by decide) ?_
            refine yG.invS (rest := []) rfl rfl rfl rfl (a_in W (d + 1) A_hp.1 (p4) (z20) (999) (by omega) (by omega) (by omega) (by omega) (by omega) (by omega)) (fun rv hp9 q9 => ?_)
            obtain ⟨⟨z21, rfl, l_z21, u_z21, r_z21⟩, e9⟩ := q9
            rw [e9]
            show yG _ _ _ _ _ _ _ _ _ _ (yI z21 :: []) _
            refine yG.ret rfl (fun _ _ => rfl) ?_
            exact yP.bool (by omega) ⟨⟨z21, rfl, by omega, by omega, by omega⟩, rfl⟩
        · have c4 : (p1 : Int) = 0 := c4
          refine yG.num (c := 0) rfl (fun _ _ => rfl) (by decide) ?_
          refine yG.ret rfl (fun _ _ => rfl) ?_
          exact yP.bool (by omega) ⟨⟨0, rfl, by omega, by omega, by omega⟩, rfl⟩
      · have c3 : (p1 : Int) = 4 := c3
        refine yG.load xik rfl (fun _ _ => rfl) (v := yI (p3)) rfl rfl ?_
        refine yG.ifz rfl (t := 152) rfl ⟨by omega, by omega⟩ (fun c22 => ?_) (fun c22 => ?_)
        · have c22 : (p3 : Int) ≠ 0 := c22
          refine yG.num (c := 0) rfl (fun _ _ => rfl) (by decide) ?_
          refine yG.ret rfl (fun _ _ => rfl) ?_
          exact yP.bool (by omega) ⟨⟨0, rfl, by omega, by omega, by omega⟩, rfl⟩
        · have c22 : (p3 : Int) = 0 := c22
          refine yG.load xik rfl (fun _ _ => rfl) (v := yI (p4)) rfl rfl ?_
          refine yG.i2l rfl ⟨by omega, by omega⟩ ?_
          refine yG.numl (c := 0) rfl (fun _ _ => rfl) (by decide) ?_
          refine yG.numl (c := 9999) rfl (fun _ _ => rfl) (by decide) ?_
          refine yG.invS (rest := []) rfl rfl rfl rfl (a_in W (d + 1) A_hp.1 (p4) (0) (9999) (by omega) (by omega) (by omega) (by omega) (by omega) (by omega)) (fun rv hp9 q9 => ?_)
          obtain ⟨⟨z23, rfl, l_z23, u_z23, r_z23⟩, e9⟩ := q9
          rw [e9]
          show yG _ _ _ _ _ _ _ _ _ _ (yI z23 :: []) _
          refine yG.ifz rfl (t := 152) rfl ⟨by omega, by omega⟩ (fun c24 => ?_) (fun c24 => ?_)
          · have c24 : (z23 : Int) = 0 := c24
            refine yG.num (c := 0) rfl (fun _ _ => rfl) (by decide) ?_
            refine yG.ret rfl (fun _ _ => rfl) ?_
            exact yP.bool (by omega) ⟨⟨0, rfl, by omega, by omega, by omega⟩, rfl⟩
          · have c24 : (z23 : Int) ≠ 0 := c24
            refine yG.num (c := 1) rfl (fun _ _ => rfl) (by decide) ?_
            refine yG.goto rfl (t := 153) rfl ?_
            refine yG.ret rfl (fun _ _ => rfl) ?_
            exact yP.bool (by omega) ⟨⟨1, rfl, by omega, by omega, by omega⟩, rfl⟩
    · have c2 : (p1 : Int) = 2 := c2
      refine yG.load xik rfl (fun _ _ => rfl) (v := yI (p3)) rfl rfl ?_
      refine yG.ifz rfl (t := 66) rfl ⟨by omega, by omega⟩ (fun c25 => ?_) (fun c25 => ?_)
      · have c25 : (p3 : Int) ≠ 0 := c25
        refine yG.load xik rfl (fun _ _ => rfl) (v := yI (p3)) rfl rfl ?_
        refine yG.num (c := 1) rfl (fun _ _ => rfl) (by decide) ?_
        refine yG.icmp rfl (t := 84) rfl ⟨by omega, by omega⟩ ⟨by omega, by omega⟩ (fun c26 => ?_) (fun c26 => ?_)
        · have c26 : (p3 : Int) ≠ 1 := c26
          refine yG.load xik rfl (fun _ _ => rfl) (v := yI (p3)) rfl rfl ?_
          refine yG.num (c := 2) rfl (fun _ _ => rfl) (by decide) ?_
          refine yG.icmp rfl (t := 102) rfl ⟨by omega, by omega⟩ ⟨by omega, by omega⟩ (fun c27 => ?_) (fun c27 => ?_)
          · have c27 : (p3 : Int) ≠ 2 := c27
            refine yG.load xik rfl (fun _ _ => rfl) (v := yI (p3)) rfl rfl ?_
            refine yG.num (c := 3) rfl (fun _ _ => rfl) (by decide) ?_
            refine yG.icmp rfl (t := 124) rfl ⟨by omega, by omega⟩ ⟨by omega, by omega⟩ (fun c28 => ?_) (fun c28 => ?_)
            · have c28 : (p3 : Int) ≠ 3 := c28
              refine yG.num (c := 0) rfl (fun _ _ => rfl) (by decide) ?_
              refine yG.ret rfl (fun _ _ => rfl) ?_
              exact yP.bool (by omega) ⟨⟨0, rfl, by omega, by omega, by omega⟩, rfl⟩
            · have c28 : (p3 : Int) = 3 := c28
              refine yG.load xik rfl (fun _ _ => rfl) (v := yI (p4)) rfl rfl ?_
              refine yG.i2l rfl ⟨by omega, by omega⟩ ?_
              refine yG.numl (c := 0) rfl (fun _ _ => rfl) (by decide) ?_
              refine yG.numl (c := 9999) rfl (fun _ _ => rfl) (by decide) ?_
              refine yG.invS (rest := []) rfl rfl rfl rfl (a_in W (d + 1) A_hp.1 (p4) (0) (9999) (by omega) (by omega) (by omega) (by omega) (by omega) (by omega)) (fun rv hp9 q9 => ?_)
              obtain ⟨⟨z29, rfl, l_z29, u_z29, r_z29⟩, e9⟩ := q9
              rw [e9]
              show yG _ _ _ _ _ _ _ _ _ _ (yI z29 :: []) _
              refine yG.ifz rfl (t := 124) rfl ⟨by omega, by omega⟩ (fun c30 => ?_) (fun c30 => ?_)
              · have c30 : (z29 : Int) = 0 := c30
                refine yG.num (c := 0) rfl (fun _ _ => rfl) (by decide) ?_
                refine yG.ret rfl (fun _ _ => rfl) ?_
                exact yP.bool (by omega) ⟨⟨0, rfl, by omega, by omega, by omega⟩, rfl⟩
              · have c30 : (z29 : Int) ≠ 0 := c30
                refine yG.num (c := 1) rfl (fun _ _ => rfl) (by decide) ?_
                refine yG.goto rfl (t := 125) rfl ?_
                refine yG.ret rfl (fun _ _ => rfl) ?_
                exact yP.bool (by omega) ⟨⟨1, rfl, by omega, by omega, by omega⟩, rfl⟩
          · have c27 : (p3 : Int) = 2 := c27
            refine yG.load xik rfl (fun _ _ => rfl) (v := yI (p4)) rfl rfl ?_
            refine yG.i2l rfl ⟨by omega, by omega⟩ ?_
            refine yG.numl (c := 1) rfl (fun _ _ => rfl) (by decide) ?_
            refine yG.numl (c := 299) rfl (fun _ _ => rfl) (by decide) ?_
            refine yG.invS (rest := []) rfl rfl rfl rfl (a_in W (d + 1) A_hp.1 (p4) (1) (299) (by omega) (by omega) (by omega) (by omega) (by omega) (by omega)) (fun rv hp9 q9 => ?_)
            obtain ⟨⟨z31, rfl, l_z31, u_z31, r_z31⟩, e9⟩ := q9
            rw [e9]
            show yG _ _ _ _ _ _ _ _ _ _ (yI z31 :: []) _
            refine yG.goto rfl (t := 125) rfl ?_
            refine yG.ret rfl (fun _ _ => rfl) ?_
            exact yP.bool (by omega) ⟨⟨z31, rfl, by omega, by omega, by omega⟩, rfl⟩
        · have c26 : (p3 : Int) = 1 := c26
          refine yG.load xik rfl (fun _ _ => rfl) (v := yI (p4)) rfl rfl ?_
          refine yG.i2l rfl ⟨by omega, by omega⟩ ?_
          refine yG.numl (c := 1) rfl (fun _ _ => rfl) (by decide) ?_
          refine yG.numl (c := 99) rfl (fun _ _ => rfl) (by decide) ?_
          refine yG.invS (rest := []) rfl rfl rfl rfl (a_in W (d + 1) A_hp.1 (p4) (1) (99) (by omega) (by omega) (by omega) (by omega) (by omega) (by omega)) (fun rv hp9 q9 => ?_)
          obtain ⟨⟨z32, rfl, l_z32, u_z32, r_z32⟩, e9⟩ := q9
          rw [e9]
          show yG _ _ _ _ _ _ _ _ _ _ (yI z32 :: []) _
          refine yG.goto rfl (t := 125) rfl ?_
          refine yG.ret rfl (fun _ _ => rfl) ?_
          exact yP.bool (by omega) ⟨⟨z32, rfl, by omega, by omega, by omega⟩, rfl⟩
      · have c25 : (p3 : Int) = 0 := c25
        refine yG.load xik rfl (fun _ _ => rfl) (v := yI (p4)) rfl rfl ?_
        refine yG.i2l rfl ⟨by omega, by omega⟩ ?_
        refine yG.numl (c := 0) rfl (fun _ _ => rfl) (by decide) ?_
        refine yG.numl (c := 1) rfl (fun _ _ => rfl) (by decide) ?_
        refine yG.invS (rest := []) rfl rfl rfl rfl (a_in W (d + 1) A_hp.1 (p4) (0) (1) (by omega) (by omega) (by omega) (by omega) (by omega) (by omega)) (fun rv hp9 q9 => ?_)
        obtain ⟨⟨z33, rfl, l_z33, u_z33, r_z33⟩, e9⟩ := q9
        rw [e9]
        show yG _ _ _ _ _ _ _ _ _ _ (yI z33 :: []) _
        refine yG.goto rfl (t := 125) rfl ?_
        refine yG.ret rfl (fun _ _ => rfl) ?_
        exact yP.bool (by omega) ⟨⟨z33, rfl, by omega, by omega, by omega⟩, rfl⟩
  · have c1 : (p1 : Int) = 1 := c1
    refine yG.load xik rfl (fun _ _ => rfl) (v := yI (p3)) rfl rfl ?_
    refine yG.ifz rfl (t := 22) rfl ⟨by omega, by omega⟩ (fun c34 => ?_) (fun c34 => ?_)
    · have c34 : (p3 : Int) ≠ 0 := c34
      refine yG.load xik rfl (fun _ _ => rfl) (v := yI (p3)) rfl rfl ?_
      refine yG.num (c := 1) rfl (fun _ _ => rfl) (by decide) ?_
      refine yG.icmp rfl (t := 44) rfl ⟨by omega, by omega⟩ ⟨by omega, by omega⟩ (fun c35 => ?_) (fun c35 => ?_)
      · have c35 : (p3 : Int) ≠ 1 := c35
        refine yG.num (c := 0) rfl (fun _ _ => rfl) (by decide) ?_
        refine yG.ret rfl (fun _ _ => rfl) ?_
        exact yP.bool (by omega) ⟨⟨0, rfl, by omega, by omega, by omega⟩, rfl⟩
      · have c35 : (p3 : Int) = 1 := c35
        refine yG.load xik rfl (fun _ _ => rfl) (v := yI (p4)) rfl rfl ?_
        refine yG.i2l rfl ⟨by omega, by omega⟩ ?_
        refine yG.numl (c := 1) rfl (fun _ _ => rfl) (by decide) ?_
        refine yG.numl (c := 999999) rfl (fun _ _ => rfl) (by decide) ?_
        refine yG.invS (rest := []) rfl rfl rfl rfl (a_in W (d + 1) A_hp.1 (p4) (1) (999999) (by omega) (by omega) (by omega) (by omega) (by omega) (by omega)) (fun rv hp9 q9 => ?_)
        obtain ⟨⟨z36, rfl, l_z36, u_z36, r_z36⟩, e9⟩ := q9
        rw [e9]
        show yG _ _ _ _ _ _ _ _ _ _ (yI z36 :: []) _
        refine yG.ifz rfl (t := 44) rfl ⟨by omega, by omega⟩ (fun c37 => ?_) (fun c37 => ?_)
        · have c37 : (z36 : Int) = 0 := c37
          refine yG.num (c := 0) rfl (fun _ _ => rfl) (by decide) ?_
          refine yG.ret rfl (fun _ _ => rfl) ?_
          exact yP.bool (by omega) ⟨⟨0, rfl, by omega, by omega, by omega⟩, rfl⟩
        · have c37 : (z36 : Int) ≠ 0 := c37
          refine yG.num (c := 1) rfl (fun _ _ => rfl) (by decide) ?_
          refine yG.goto rfl (t := 45) rfl ?_
          refine yG.ret rfl (fun _ _ => rfl) ?_
          exact yP.bool (by omega) ⟨⟨1, rfl, by omega, by omega, by omega⟩, rfl⟩
    · have c34 : (p3 : Int) = 0 := c34
      refine yG.load xik rfl (fun _ _ => rfl) (v := yI (p4)) rfl rfl ?_
      refine yG.i2l rfl ⟨by omega, by omega⟩ ?_
      refine yG.numl (c := 0) rfl (fun _ _ => rfl) (by decide) ?_
      refine yG.numl (c := 2) rfl (fun _ _ => rfl) (by decide) ?_
      refine yG.invS (rest := []) rfl rfl rfl rfl (a_in W (d + 1) A_hp.1 (p4) (0) (2) (by omega) (by omega) (by omega) (by omega) (by omega) (by omega)) (fun rv hp9 q9 => ?_)
      obtain ⟨⟨z38, rfl, l_z38, u_z38, r_z38⟩, e9⟩ := q9
      rw [e9]
      show yG _ _ _ _ _ _ _ _ _ _ (yI z38 :: []) _
      refine yG.goto rfl (t := 45) rfl ?_
      refine yG.ret rfl (fun _ _ => rfl) ?_
      exact yP.bool (by omega) ⟨⟨z38, rfl, by omega, by omega, by omega⟩, rfl⟩
theorem a_objectOf {hp : xH} (W : yWW G) (d : Nat) (hT : zTy G hp) (p1 p2 : Int) (h1l : (-3) ≤ p1) (h1u : p1 ≤ 23) (h2l : 0 ≤ p2) (h2u : p2 ≤ 23) : yC (xcall 89 xfts xpools xms (d + 3)) 470 [yR 2073, yI (p1), yI (p2)] hp (yQpi hp 0 23) := by
  have A_hp : yAx G [] [] hp hp := yAx.rf hT
  refine yC.of (M := (xt_X13_objectOf, (3, (1, (14, []))))) rfl rfl (N := 54) (yfuel (by decide)) ?_
  show yG 89 xfts (xcall 89 xfts xpools xms (d + 2)) (xpool xp_RX13) [] xt_X13_objectOf (yP 1 (yQpi hp 0 23)) 54 0 [(0, yR 2073), (1, yI (p1)), (2, yI (p2))] [] hp
  refine yG.load xik rfl (fun _ _ => rfl) (v := yI (p1)) rfl rfl ?_
  refine yG.num (c := -1) rfl (fun _ _ => rfl) (by decide) ?_
  refine yG.icmp rfl (t := 9) rfl ⟨by omega, by omega⟩ ⟨by omega, by omega⟩ (fun c1 => ?_) (fun c1 => ?_)
  · have c1 : (p1 : Int) ≠ (-1) := c1
    rcases (show ((-1) : Int) < p1 ∨ (p1 : Int) < (-1) by omega) with dc1 | dc1
    · skip
      refine yG.load xik rfl (fun _ _ => rfl) (v := yI (p1)) rfl rfl ?_
      refine yG.num (c := -2) rfl (fun _ _ => rfl) (by decide) ?_
      refine yG.icmp rfl (t := 25) rfl ⟨by omega, by omega⟩ ⟨by omega, by omega⟩ (fun c2 => ?_) (fun c2 => ?_)
      · have c2 : (p1 : Int) ≠ (-2) := c2
        rcases (show ((-2) : Int) < p1 ∨ (p1 : Int) < (-2) by omega) with dc2 | dc2
        · skip
          refine yG.load xik rfl (fun _ _ => rfl) (v := yI (p1)) rfl rfl ?_
          refine yG.num (c := -3) rfl (fun _ _ => rfl) (by decide) ?_
          refine yG.icmp rfl (t := 41) rfl ⟨by omega, by omega⟩ ⟨by omega, by omega⟩ (fun c3 => ?_) (fun c3 => ?_)
          · have c3 : (p1 : Int) ≠ (-3) := c3
            rcases (show ((-3) : Int) < p1 ∨ (p1 : Int) < (-3) by omega) with dc3 | dc3
            · skip
              refine yG.load xik rfl (fun _ _ => rfl) (v := yI (p1)) rfl rfl ?_
              refine yG.ret rfl (fun _ _ => rfl) ?_
              exact yP.int ⟨by omega, by omega⟩ ⟨⟨p1, rfl, by omega, by omega⟩, rfl⟩
            · exfalso; omega
          · have c3 : (p1 : Int) = (-3) := c3
            exfalso; omega
        · exfalso; omega
      · have c2 : (p1 : Int) = (-2) := c2
        exfalso; omega
    · skip
      refine yG.load xik rfl (fun _ _ => rfl) (v := yI (p1)) rfl rfl ?_
      refine yG.num (c := -2) rfl (fun _ _ => rfl) (by decide) ?_
      refine yG.icmp rfl (t := 25) rfl ⟨by omega, by omega⟩ ⟨by omega, by omega⟩ (fun c4 => ?_) (fun c4 => ?_)
      · have c4 : (p1 : Int) ≠ (-2) := c4
        rcases (show ((-2) : Int) < p1 ∨ (p1 : Int) < (-2) by omega) with dc4 | dc4
        · exfalso; omega
        · skip
          refine yG.load xik rfl (fun _ _ => rfl) (v := yI (p1)) rfl rfl ?_
          refine yG.num (c := -3) rfl (fun _ _ => rfl) (by decide) ?_
          refine yG.icmp rfl (t := 41) rfl ⟨by omega, by omega⟩ ⟨by omega, by omega⟩ (fun c5 => ?_) (fun c5 => ?_)
          · have c5 : (p1 : Int) ≠ (-3) := c5
            exfalso; omega
          · have c5 : (p1 : Int) = (-3) := c5
            refine yG.load xak rfl (fun _ _ => rfl) (v := yR 2073) rfl rfl ?_
            refine yG.num (c := 1) rfl (fun _ _ => rfl) (by decide) ?_
            refine yG.load xik rfl (fun _ _ => rfl) (v := yI (p2)) rfl rfl ?_
            refine yG.num (c := 4) rfl (fun _ _ => rfl) (by decide) ?_
            refine yG.invV (rest := []) A_hp.1 W.m.1 rfl rfl rfl rfl (a_of_1_4 W d A_hp.1 (p2) (by omega) (by omega)) (fun rv hp9 q9 => ?_)
            obtain ⟨⟨z6, rfl, l_z6, u_z6⟩, e9⟩ := q9
            rw [e9]
            show yG _ _ _ _ _ _ _ _ _ _ (yI z6 :: []) _
            refine yG.goto rfl (t := 42) rfl ?_
            refine yG.ret rfl (fun _ _ => rfl) ?_
            exact yP.int ⟨by omega, by omega⟩ ⟨⟨z6, rfl, by omega, by omega⟩, rfl⟩
      · have c4 : (p1 : Int) = (-2) := c4
        refine yG.load xak rfl (fun _ _ => rfl) (v := yR 2073) rfl rfl ?_
        refine yG.num (c := 1) rfl (fun _ _ => rfl) (by decide) ?_
        refine yG.load xik rfl (fun _ _ => rfl) (v := yI (p2)) rfl rfl ?_
        refine yG.num (c := 3) rfl (fun _ _ => rfl) (by decide) ?_
        refine yG.invV (rest := []) A_hp.1 W.m.1 rfl rfl rfl rfl (a_of_1_3 W d A_hp.1 (p2) (by omega) (by omega)) (fun rv hp9 q9 => ?_)
        obtain ⟨⟨z7, rfl, l_z7, u_z7⟩, e9⟩ := q9
        rw [e9]
        show yG _ _ _ _ _ _ _ _ _ _ (yI z7 :: []) _
        refine yG.goto rfl (t := 42) rfl ?_
        refine yG.ret rfl (fun _ _ => rfl) ?_
        exact yP.int ⟨by omega, by omega⟩ ⟨⟨z7, rfl, by omega, by omega⟩, rfl⟩
  · have c1 : (p1 : Int) = (-1) := c1
    refine yG.load xik rfl (fun _ _ => rfl) (v := yI (p2)) rfl rfl ?_
    refine yG.goto rfl (t := 42) rfl ?_
    refine yG.ret rfl (fun _ _ => rfl) ?_
    exact yP.int ⟨by omega, by omega⟩ ⟨⟨p2, rfl, by omega, by omega⟩, rfl⟩
end YMore
