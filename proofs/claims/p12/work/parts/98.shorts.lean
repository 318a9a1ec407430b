/-! ===== the class: shorts, printed by a program ===== -/
section BShorts
variable {G : zW}
theorem c_Shorts_isOdd {hp : xH} (W : bW G) (d : Nat) (hT : zTy G hp) {k0 : Nat} (H_k0 : bRo G 75 k0) : yC (xcall 89 xfts xpools xms (d + 1)) 234 [yR k0] hp (bQpi hp 0 1 (fun _ => True)) := by
  have A_hp : bAx G [] hp hp := bAx.rf hT
  refine yC.of (M := (xt_X9_isOdd, (1, (4, (10, []))))) rfl rfl (N := 45) (yfuel (by decide)) ?_
  show yG 89 xfts (xcall 89 xfts xpools xms d) (xpool xp_RX9) [] xt_X9_isOdd (yP 4 (bQpi hp 0 1 (fun _ => True))) 45 0 [(0, yR k0)] [] hp
  refine yG.load xak rfl (fun _ _ => rfl) (v := yR k0) rfl rfl ?_
  refine yG.getO A_hp.1 (w_Shorts_net W H_k0) rfl rfl (fun r1 H_r1 O_r1 q_r1 => ?_)
  refine yG.getI A_hp.1 (w_Net_shortKind W H_r1) rfl rfl (fun z2 e_z2 i_z2 l_z2 u_z2 => ?_)
  refine yG.num (c := 1) rfl (fun _ _ => rfl) (by decide) ?_
  refine yG.icmp rfl (t := 22) rfl ⟨by omega, by omega⟩ ⟨by omega, by omega⟩ (fun c3 => ?_) (fun c3 => ?_)
  · have c3 : (z2 : Int) = 1 := c3
    refine yG.num (c := 1) rfl (fun _ _ => rfl) (by decide) ?_
    refine yG.goto rfl (t := 27) rfl ?_
    refine yG.ret rfl (fun _ _ => rfl) ?_
    exact (yP.bool (by omega) ⟨⟨1, rfl, by omega, by omega, trivial⟩, rfl⟩)
  · have c3 : (z2 : Int) ≠ 1 := c3
    refine yG.load xak rfl (fun _ _ => rfl) (v := yR k0) rfl rfl ?_
    refine yG.getS9 A_hp.1 (w_Shorts_net W H_k0) q_r1 rfl rfl ?_
    refine yG.getI A_hp.1 (w_Net_shortKind W H_r1) rfl rfl (fun z4 e_z4 i_z4 l_z4 u_z4 => ?_)
    refine yG.num (c := 3) rfl (fun _ _ => rfl) (by decide) ?_
    refine yG.icmp rfl (t := 26) rfl ⟨by omega, by omega⟩ ⟨by omega, by omega⟩ (fun c5 => ?_) (fun c5 => ?_)
    · have c5 : (z4 : Int) ≠ 3 := c5
      refine yG.num (c := 0) rfl (fun _ _ => rfl) (by decide) ?_
      refine yG.ret rfl (fun _ _ => rfl) ?_
      exact (yP.bool (by omega) ⟨⟨0, rfl, by omega, by omega, trivial⟩, rfl⟩)
    · have c5 : (z4 : Int) = 3 := c5
      refine yG.num (c := 1) rfl (fun _ _ => rfl) (by decide) ?_
      refine yG.goto rfl (t := 27) rfl ?_
      refine yG.ret rfl (fun _ _ => rfl) ?_
      exact (yP.bool (by omega) ⟨⟨1, rfl, by omega, by omega, trivial⟩, rfl⟩)
theorem c_Shorts_isOnLine {hp : xH} (W : bW G) (d : Nat) (hT : zTy G hp) {k0 : Nat} (H_k0 : bRo G 75 k0) {n0 : Nat} (H_n0 : bRo G 18 n0) (Q_n0 : zsl hp k0 1 = yR n0) : yC (xcall 89 xfts xpools xms (d + 1)) 235 [yR k0] hp (bQpi hp 0 1 (fun z => (z = 1 → 0 ≤ ys hp n0 5) ∧ (z = 0 → 0 ≤ 0 - ys hp n0 5 - 1))) := by
  have A_hp : bAx G [] hp hp := bAx.rf hT
  refine yC.of (M := (xt_X9_isOnLine, (1, (4, (10, []))))) rfl rfl (N := 30) (yfuel (by decide)) ?_
  show yG 89 xfts (xcall 89 xfts xpools xms d) (xpool xp_RX9) [] xt_X9_isOnLine (yP 4 (bQpi hp 0 1 (fun z => (z = 1 → 0 ≤ ys hp n0 5) ∧ (z = 0 → 0 ≤ 0 - ys hp n0 5 - 1)))) 30 0 [(0, yR k0)] [] hp
  obtain ⟨gg0, E_0⟩ : ∃ z : Int, ys hp n0 5 = z := ⟨_, rfl⟩
  obtain ⟨-, -, g_0l, g_0u⟩ := (w_Net_shortLine W H_n0).int hT
  refine yG.load xak rfl (fun _ _ => rfl) (v := yR k0) rfl rfl ?_
  refine yG.getS9 A_hp.1 (w_Shorts_net W H_k0) Q_n0 rfl rfl ?_
  refine yG.getI A_hp.1 (w_Net_shortLine W H_n0) rfl rfl (fun z1 e_z1 i_z1 l_z1 u_z1 => ?_)
  refine yG.num (c := -1) rfl (fun _ _ => rfl) (by decide) ?_
  refine yG.icmp rfl (t := 15) rfl ⟨by omega, by omega⟩ ⟨by omega, by omega⟩ (fun c2 => ?_) (fun c2 => ?_)
  · have c2 : (z1 : Int) = (-1) := c2
    refine yG.num (c := 0) rfl (fun _ _ => rfl) (by decide) ?_
    refine yG.ret rfl (fun _ _ => rfl) ?_
    exact (yP.bool (by omega) ⟨⟨0, rfl, by omega, by omega, by omega⟩, rfl⟩)
  · have c2 : (z1 : Int) ≠ (-1) := c2
    refine yG.num (c := 1) rfl (fun _ _ => rfl) (by decide) ?_
    refine yG.goto rfl (t := 16) rfl ?_
    refine yG.ret rfl (fun _ _ => rfl) ?_
    exact (yP.bool (by omega) ⟨⟨1, rfl, by omega, by omega, by omega⟩, rfl⟩)
theorem c_Shorts_isThere_on {hp : xH} (W : bW G) (d : Nat) (hT : zTy G hp) {k0 : Nat} (H_k0 : bRo G 75 k0) {n0 : Nat} (H_n0 : bRo G 18 n0) (Q_n0 : zsl hp k0 1 = yR n0) (q0l : 0 ≤ ys hp n0 5) (q0u : ys hp n0 5 ≤ 19) : yC (xcall 89 xfts xpools xms (d + 2)) 236 [yR k0] hp (bQi G [(37778931862957161709568, 7), (37778931862957161709568, 8), (75557863725914323419136, 256)] hp 0 1 (fun _ => True)) := by
  have A_hp : bAx G [(37778931862957161709568, 7), (37778931862957161709568, 8), (75557863725914323419136, 256)] hp hp := bAx.rf hT
  have H : ∀ m : Nat, (∀ a1 : Int, ∀ gg0 : Int, ∀ hq, bAx G [(37778931862957161709568, 7), (37778931862957161709568, 8), (75557863725914323419136, 256)] hp hq → ys hq n0 5 = gg0 → 0 ≤ a1 → (-16) ≤ 0 - a1 → 0 ≤ gg0 → (-19) ≤ 0 - gg0 → 0 - 2 * a1 + 33 < (m : Int) → yG 89 xfts (xcall 89 xfts xpools xms (d + 1)) (xpool xp_RX9) [] xt_X9_isThere (yP 4 (bQi G [(37778931862957161709568, 7), (37778931862957161709568, 8), (75557863725914323419136, 256)] hp 0 1 (fun _ => True))) (27 * m) 76 [(0, yR k0), (1, yI (a1))] [] hq) := by
    intro m
    induction m with
    | zero =>
      intros; exfalso; omega
    | succ m ih =>
      have i_76 := ih
      clear ih
      intro a1 gg0 hq A_hq E_0 f0 f1 f2 f3 hm
      refine yG.mono (N := 27 * m + 27) ?_ (by omega)
      obtain ⟨-, -, g_0l, g_0u⟩ := (w_Net_shortLine W H_n0).int A_hq.1
      replace Q_n0 : zsl hq k0 1 = yR n0 := (A_hq.sl H_k0 (by decide)).trans Q_n0
      refine yG.load xik rfl (fun _ _ => rfl) (v := yI (a1)) rfl rfl ?_
      refine yG.num (c := 16) rfl (fun _ _ => rfl) (by decide) ?_
      refine yG.icmp rfl (t := 107) rfl ⟨by omega, by omega⟩ ⟨by omega, by omega⟩ (fun c1 => ?_) (fun c1 => ?_)
      · have c1 : (a1 : Int) ≥ 16 := c1
        refine yG.load xak rfl (fun _ _ => rfl) (v := yR k0) rfl rfl ?_
        refine yG.getO A_hq.1 (w_Shorts_shape W H_k0) rfl rfl (fun r2 H_r2 O_r2 q_r2 => ?_)
        refine yG.getO A_hq.1 (w_Shape_live W H_r2) rfl rfl (fun r3 H_r3 O_r3 q_r3 => ?_)
        refine yG.load xak rfl (fun _ _ => rfl) (v := yR k0) rfl rfl ?_
        refine yG.getI A_hq.1 (w_Shorts_island W H_k0) rfl rfl (fun z4 e_z4 i_z4 l_z4 u_z4 => ?_)
        refine yG.bald A_hq.1 (v_Shape_live W H_r3) rfl (by omega) (by omega) (fun z5 e_z5 i_z5 l_z5 u_z5 => ?_)
        refine yG.ifz rfl (t := 152) rfl ⟨by omega, by omega⟩ (fun c6 => ?_) (fun c6 => ?_)
        · have c6 : (z5 : Int) = 0 := c6
          refine yG.num (c := 0) rfl (fun _ _ => rfl) (by decide) ?_
          refine yG.ret rfl (fun _ _ => rfl) ?_
          exact (yP.bool (by omega) ⟨⟨0, rfl, by omega, by omega, trivial⟩, A_hq⟩)
        · have c6 : (z5 : Int) ≠ 0 := c6
          refine yG.load xak rfl (fun _ _ => rfl) (v := yR k0) rfl rfl ?_
          refine yG.invV (rest := []) A_hq.1 (bOb (d_Shorts W) H_k0) rfl rfl rfl rfl (c_Shorts_isOnLine W d A_hq.1 H_k0 H_n0 Q_n0) (fun rv hp9 q9 => ?_)
          obtain ⟨⟨z7, rfl, l_z7, u_z7, R_z7⟩, e9⟩ := q9
          rw [e9]
          show yG _ _ _ _ _ _ _ _ _ _ (yI z7 :: []) _
          refine yG.ifz rfl (t := 148) rfl ⟨by omega, by omega⟩ (fun c8 => ?_) (fun c8 => ?_)
          · have c8 : (z7 : Int) = 0 := c8
            exfalso; omega
          · have c8 : (z7 : Int) ≠ 0 := c8
            refine yG.load xak rfl (fun _ _ => rfl) (v := yR k0) rfl rfl ?_
            refine yG.getS9 A_hq.1 (w_Shorts_net W H_k0) Q_n0 rfl rfl ?_
            refine yG.num (c := 2) rfl (fun _ _ => rfl) (by decide) ?_
            refine yG.load xak rfl (fun _ _ => rfl) (v := yR k0) rfl rfl ?_
            refine yG.getS9 A_hq.1 (w_Shorts_net W H_k0) Q_n0 rfl rfl ?_
            refine yG.getI A_hq.1 (w_Net_shortLine W H_n0) rfl rfl (fun z9 e_z9 i_z9 l_z9 u_z9 => ?_)
            refine yG.num (c := 0) rfl (fun _ _ => rfl) (by decide) ?_
            refine yG.invV (rest := []) A_hq.1 (bOb (d_Net W) H_n0) rfl rfl rfl rfl (c_Net_is_2 W d A_hq.1 H_n0 (z9) (0) (by omega) (by omega) (by omega) (by omega)) (fun rv hp9 q9 => ?_)
            obtain ⟨⟨z10, rfl, l_z10, u_z10, R_z10⟩, e9⟩ := q9
            rw [e9]
            show yG _ _ _ _ _ _ _ _ _ _ (yI z10 :: []) _
            refine yG.ifz rfl (t := 152) rfl ⟨by omega, by omega⟩ (fun c11 => ?_) (fun c11 => ?_)
            · have c11 : (z10 : Int) = 0 := c11
              refine yG.num (c := 0) rfl (fun _ _ => rfl) (by decide) ?_
              refine yG.ret rfl (fun _ _ => rfl) ?_
              exact (yP.bool (by omega) ⟨⟨0, rfl, by omega, by omega, trivial⟩, A_hq⟩)
            · have c11 : (z10 : Int) ≠ 0 := c11
              refine yG.num (c := 1) rfl (fun _ _ => rfl) (by decide) ?_
              refine yG.goto rfl (t := 153) rfl ?_
              refine yG.ret rfl (fun _ _ => rfl) ?_
              exact (yP.bool (by omega) ⟨⟨1, rfl, by omega, by omega, trivial⟩, A_hq⟩)
      · have c1 : (a1 : Int) < 16 := c1
        refine yG.load xak rfl (fun _ _ => rfl) (v := yR k0) rfl rfl ?_
        refine yG.getO A_hq.1 (w_Shorts_taken W H_k0) rfl rfl (fun r12 H_r12 O_r12 q_r12 => ?_)
        refine yG.load xik rfl (fun _ _ => rfl) (v := yI (a1)) rfl rfl ?_
        refine yG.load xik rfl (fun _ _ => rfl) (v := yI (a1)) rfl rfl ?_
        refine yG.load xak rfl (fun _ _ => rfl) (v := yR k0) rfl rfl ?_
        refine yG.getI A_hq.1 (w_Shorts_island W H_k0) rfl rfl (fun z13 e_z13 i_z13 l_z13 u_z13 => ?_)
        refine yG.icmp rfl (t := 99) rfl ⟨by omega, by omega⟩ ⟨by omega, by omega⟩ (fun c14 => ?_) (fun c14 => ?_)
        · have c14 : (a1 : Int) ≠ z13 := c14
          refine yG.num (c := 0) rfl (fun _ _ => rfl) (by decide) ?_
          refine yG.bast A_hq.1 (v_Shorts_taken W H_r12) (W.2.1 _ _ H_r12 (by decide) (by decide)) rfl (by omega) (by omega) ⟨by omega, by omega⟩ (by omega) (by omega) (fun h15 T_h15 b_h15 f_h15 y_h15 => ?_)
          have A_h15 := A_hq.put T_h15 b_h15 f_h15 H_r12 (bAll_ok (by decide) _)
          have : ys h15 n0 5 = ys hq n0 5 := (y_h15 n0 5).trans (if_neg (fun e => (bRo.ne H_n0 H_r12 (by decide)) e.1))
          have qq1 : zsl h15 k0 1 = yR n0 := ((f_h15 k0 1).trans (if_neg (fun e => (bRo.ne H_k0 H_r12 (by decide)) e.1))).trans Q_n0
          refine yG.iinc rfl (a := a1) rfl (L' := [(1, yI (a1 + 1)), (0, yR k0)]) rfl ?_
          refine yG.goto rfl (t := 76) rfl ?_
          exact yG.mono (yG.sub (i_76 (a1 + 1) (ys h15 n0 5) h15 A_h15  rfl (by omega) (by omega) (by omega) (by omega) (by omega)) (ySub.cons rfl (ySub.cons rfl (ySub.nil)))) (by omega)
        · have c14 : (a1 : Int) = z13 := c14
          refine yG.num (c := 1) rfl (fun _ _ => rfl) (by decide) ?_
          refine yG.goto rfl (t := 100) rfl ?_
          refine yG.bast A_hq.1 (v_Shorts_taken W H_r12) (W.2.1 _ _ H_r12 (by decide) (by decide)) rfl (by omega) (by omega) ⟨by omega, by omega⟩ (by omega) (by omega) (fun h16 T_h16 b_h16 f_h16 y_h16 => ?_)
          have A_h16 := A_hq.put T_h16 b_h16 f_h16 H_r12 (bAll_ok (by decide) _)
          have : ys h16 n0 5 = ys hq n0 5 := (y_h16 n0 5).trans (if_neg (fun e => (bRo.ne H_n0 H_r12 (by decide)) e.1))
          have qq2 : zsl h16 k0 1 = yR n0 := ((f_h16 k0 1).trans (if_neg (fun e => (bRo.ne H_k0 H_r12 (by decide)) e.1))).trans Q_n0
          refine yG.iinc rfl (a := a1) rfl (L' := [(1, yI (a1 + 1)), (0, yR k0)]) rfl ?_
          refine yG.goto rfl (t := 76) rfl ?_
          exact yG.mono (yG.sub (i_76 (a1 + 1) (ys h16 n0 5) h16 A_h16  rfl (by omega) (by omega) (by omega) (by omega) (by omega)) (ySub.cons rfl (ySub.cons rfl (ySub.nil)))) (by omega)
  refine yC.of (M := (xt_X9_isThere, (2, (4, (10, []))))) rfl rfl (N := 972) (yfuel (by decide)) ?_
  show yG 89 xfts (xcall 89 xfts xpools xms (d + 1)) (xpool xp_RX9) [] xt_X9_isThere (yP 4 (bQi G [(37778931862957161709568, 7), (37778931862957161709568, 8), (75557863725914323419136, 256)] hp 0 1 (fun _ => True))) 972 0 [(0, yR k0)] [] hp
  have i_76 := H 35
  obtain ⟨gg0, E_0⟩ : ∃ z : Int, ys hp n0 5 = z := ⟨_, rfl⟩
  obtain ⟨-, -, g_0l, g_0u⟩ := (w_Net_shortLine W H_n0).int hT
  refine yG.load xak rfl (fun _ _ => rfl) (v := yR k0) rfl rfl ?_
  refine yG.load xak rfl (fun _ _ => rfl) (v := yR k0) rfl rfl ?_
  refine yG.invV (rest := [yR k0]) A_hp.1 (bOb (d_Shorts W) H_k0) rfl rfl rfl rfl (c_Shorts_isOnLine W d A_hp.1 H_k0 H_n0 Q_n0) (fun rv hp9 q9 => ?_)
  obtain ⟨⟨z1, rfl, l_z1, u_z1, R_z1⟩, e9⟩ := q9
  rw [e9]
  show yG _ _ _ _ _ _ _ _ _ _ (yI z1 :: [yR k0]) _
  refine yG.ifz rfl (t := 25) rfl ⟨by omega, by omega⟩ (fun c2 => ?_) (fun c2 => ?_)
  · have c2 : (z1 : Int) = 0 := c2
    exfalso; omega
  · have c2 : (z1 : Int) ≠ 0 := c2
    refine yG.load xak rfl (fun _ _ => rfl) (v := yR k0) rfl rfl ?_
    refine yG.getO A_hp.1 (w_Shorts_shape W H_k0) rfl rfl (fun r3 H_r3 O_r3 q_r3 => ?_)
    refine yG.load xak rfl (fun _ _ => rfl) (v := yR k0) rfl rfl ?_
    refine yG.getS9 A_hp.1 (w_Shorts_net W H_k0) Q_n0 rfl rfl ?_
    refine yG.getI A_hp.1 (w_Net_shortLine W H_n0) rfl rfl (fun z4 e_z4 i_z4 l_z4 u_z4 => ?_)
    refine yG.invV (rest := [yR k0]) A_hp.1 (bOb (d_Shape W) H_r3) rfl rfl rfl rfl (c_Shape_islandOfLine W d A_hp.1 H_r3 (z4) (by omega) (by omega)) (fun rv hp9 q9 => ?_)
    obtain ⟨⟨z5, rfl, l_z5, u_z5, R_z5⟩, e9⟩ := q9
    rw [e9]
    show yG _ _ _ _ _ _ _ _ _ _ (yI z5 :: [yR k0]) _
    refine yG.goto rfl (t := 40) rfl ?_
    refine yG.putI A_hp.1 (w_Shorts_island W H_k0) (W.2.1 _ _ H_k0 (by decide) (by decide)) rfl rfl (.inl rfl) ⟨by omega, by omega⟩ (by omega) (by omega) (fun h6 T_h6 b_h6 f_h6 y_h6 => ?_)
    have A_h6 := A_hp.put T_h6 b_h6 f_h6 H_k0 (by decide)
    have : ys h6 n0 5 = ys hp n0 5 := (y_h6 n0 5).trans (if_neg (fun e => (bRo.ne H_n0 H_k0 (by decide)) e.1))
    have qq1 : zsl h6 k0 1 = yR n0 := ((f_h6 k0 1).trans (if_neg (fun e => absurd e.2 (by decide)))).trans Q_n0
    refine yG.load xak rfl (fun _ _ => rfl) (v := yR k0) rfl rfl ?_
    refine yG.load xak rfl (fun _ _ => rfl) (v := yR k0) rfl rfl ?_
    refine yG.invV (rest := [yR k0]) A_h6.1 (bOb (d_Shorts W) H_k0) rfl rfl rfl rfl (c_Shorts_isOnLine W d A_h6.1 H_k0 H_n0 qq1) (fun rv hp9 q9 => ?_)
    obtain ⟨⟨z7, rfl, l_z7, u_z7, R_z7⟩, e9⟩ := q9
    rw [e9]
    show yG _ _ _ _ _ _ _ _ _ _ (yI z7 :: [yR k0]) _
    refine yG.ifz rfl (t := 56) rfl ⟨by omega, by omega⟩ (fun c8 => ?_) (fun c8 => ?_)
    · have c8 : (z7 : Int) = 0 := c8
      exfalso; omega
    · have c8 : (z7 : Int) ≠ 0 := c8
      refine yG.num (c := 16) rfl (fun _ _ => rfl) (by decide) ?_
      refine yG.goto rfl (t := 71) rfl ?_
      refine yG.putI A_h6.1 (w_Shorts_place W H_k0) (W.2.1 _ _ H_k0 (by decide) (by decide)) rfl rfl (.inl rfl) ⟨by omega, by omega⟩ (by omega) (by omega) (fun h9 T_h9 b_h9 f_h9 y_h9 => ?_)
      have A_h9 := A_h6.put T_h9 b_h9 f_h9 H_k0 (by decide)
      have : ys h9 n0 5 = ys h6 n0 5 := (y_h9 n0 5).trans (if_neg (fun e => (bRo.ne H_n0 H_k0 (by decide)) e.1))
      have qq2 : zsl h9 k0 1 = yR n0 := ((f_h9 k0 1).trans (if_neg (fun e => absurd e.2 (by decide)))).trans qq1
      refine yG.num (c := 0) rfl (fun _ _ => rfl) (by decide) ?_
      refine yG.store1 xik (L' := [(1, yI (0)), (0, yR k0)]) rfl (fun _ _ => rfl) rfl rfl ?_
      exact yG.mono (yG.sub (i_76 (0) (ys h9 n0 5) h9 A_h9  rfl (by omega) (by omega) (by omega) (by omega) (by omega)) (ySub.cons rfl (ySub.cons rfl (ySub.nil)))) (by omega)
theorem c_Shorts_isThere_off {hp : xH} (W : bW G) (d : Nat) (hT : zTy G hp) (M_bSh : bSh G hp) {k0 : Nat} (H_k0 : bRo G 75 k0) {n0 : Nat} (H_n0 : bRo G 18 n0) (Q_n0 : zsl hp k0 1 = yR n0) (q0l : (-1) ≤ ys hp n0 5) (q0u : ys hp n0 5 ≤ (-1)) (q1l : 0 ≤ ys hp n0 3) (q1u : ys hp n0 3 ≤ 3) : yC (xcall 89 xfts xpools xms (d + 2)) 236 [yR k0] hp (fun rv hp' => (bQi G [(37778931862957161709568, 7), (37778931862957161709568, 8), (75557863725914323419136, 256)] hp 0 1 (fun _ => True)) rv hp' ∧ (0 ≤ ys hp' k0 8 ∧ ys hp' k0 8 ≤ 15)) := by
  have A_hp : bAx G [(37778931862957161709568, 7), (37778931862957161709568, 8), (75557863725914323419136, 256)] hp hp := bAx.rf hT
  have H : ∀ m : Nat, (∀ a1 : Int, ∀ gg0 : Int, ∀ gg1 : Int, ∀ gg2 : Int, ∀ gg3 : Int, ∀ hq, bAx G [(37778931862957161709568, 7), (37778931862957161709568, 8), (75557863725914323419136, 256)] hp hq → ys hq n0 5 = gg0 → ys hq n0 3 = gg1 → ys hq n0 4 = gg2 → ys hq k0 8 = gg3 → 0 ≤ a1 → (-16) ≤ 0 - a1 → (-1) ≤ gg0 → 1 ≤ 0 - gg0 → 0 ≤ gg1 → (-3) ≤ 0 - gg1 → 0 ≤ gg2 → (-15) ≤ 0 - gg2 → 0 ≤ gg3 → (-15) ≤ 0 - gg3 → 0 ≤ gg2 - gg3 → 0 - 2 * a1 + 33 < (m : Int) → yG 89 xfts (xcall 89 xfts xpools xms (d + 1)) (xpool xp_RX9) [] xt_X9_isThere (yP 4 (fun rv hp' => (bQi G [(37778931862957161709568, 7), (37778931862957161709568, 8), (75557863725914323419136, 256)] hp 0 1 (fun _ => True)) rv hp' ∧ (0 ≤ ys hp' k0 8 ∧ ys hp' k0 8 ≤ 15))) (28 * m) 76 [(0, yR k0), (1, yI (a1))] [] hq) := by
    intro m
    induction m with
    | zero =>
      intros; exfalso; omega
    | succ m ih =>
      have i_76 := ih
      clear ih
      intro a1 gg0 gg1 gg2 gg3 hq A_hq E_0 E_1 E_2 E_3 f0 f1 f2 f3 f4 f5 f6 f7 f8 f9 f10 hm
      refine yG.mono (N := 28 * m + 28) ?_ (by omega)
      obtain ⟨-, -, g_0l, g_0u⟩ := (w_Net_shortLine W H_n0).int A_hq.1
      obtain ⟨-, -, g_1l, g_1u⟩ := (w_Net_shortKind W H_n0).int A_hq.1
      obtain ⟨-, -, g_2l, g_2u⟩ := (w_Net_shortBar W H_n0).int A_hq.1
      obtain ⟨-, -, g_3l, g_3u⟩ := (w_Shorts_place W H_k0).int A_hq.1
      replace Q_n0 : zsl hq k0 1 = yR n0 := (A_hq.sl H_k0 (by decide)).trans Q_n0
      refine yG.load xik rfl (fun _ _ => rfl) (v := yI (a1)) rfl rfl ?_
      refine yG.num (c := 16) rfl (fun _ _ => rfl) (by decide) ?_
      refine yG.icmp rfl (t := 107) rfl ⟨by omega, by omega⟩ ⟨by omega, by omega⟩ (fun c1 => ?_) (fun c1 => ?_)
      · have c1 : (a1 : Int) ≥ 16 := c1
        refine yG.load xak rfl (fun _ _ => rfl) (v := yR k0) rfl rfl ?_
        refine yG.getO A_hq.1 (w_Shorts_shape W H_k0) rfl rfl (fun r2 H_r2 O_r2 q_r2 => ?_)
        refine yG.getO A_hq.1 (w_Shape_live W H_r2) rfl rfl (fun r3 H_r3 O_r3 q_r3 => ?_)
        refine yG.load xak rfl (fun _ _ => rfl) (v := yR k0) rfl rfl ?_
        refine yG.getI A_hq.1 (w_Shorts_island W H_k0) rfl rfl (fun z4 e_z4 i_z4 l_z4 u_z4 => ?_)
        refine yG.bald A_hq.1 (v_Shape_live W H_r3) rfl (by omega) (by omega) (fun z5 e_z5 i_z5 l_z5 u_z5 => ?_)
        refine yG.ifz rfl (t := 152) rfl ⟨by omega, by omega⟩ (fun c6 => ?_) (fun c6 => ?_)
        · have c6 : (z5 : Int) = 0 := c6
          refine yG.num (c := 0) rfl (fun _ _ => rfl) (by decide) ?_
          refine yG.ret rfl (fun _ _ => rfl) ?_
          exact (yP.bool (by omega) ⟨⟨⟨0, rfl, by omega, by omega, trivial⟩, A_hq⟩, by omega, by omega⟩)
        · have c6 : (z5 : Int) ≠ 0 := c6
          refine yG.load xak rfl (fun _ _ => rfl) (v := yR k0) rfl rfl ?_
          refine yG.invV (rest := []) A_hq.1 (bOb (d_Shorts W) H_k0) rfl rfl rfl rfl (c_Shorts_isOnLine W d A_hq.1 H_k0 H_n0 Q_n0) (fun rv hp9 q9 => ?_)
          obtain ⟨⟨z7, rfl, l_z7, u_z7, R_z7⟩, e9⟩ := q9
          rw [e9]
          show yG _ _ _ _ _ _ _ _ _ _ (yI z7 :: []) _
          refine yG.ifz rfl (t := 148) rfl ⟨by omega, by omega⟩ (fun c8 => ?_) (fun c8 => ?_)
          · have c8 : (z7 : Int) = 0 := c8
            refine yG.num (c := 1) rfl (fun _ _ => rfl) (by decide) ?_
            refine yG.goto rfl (t := 153) rfl ?_
            refine yG.ret rfl (fun _ _ => rfl) ?_
            exact (yP.bool (by omega) ⟨⟨⟨1, rfl, by omega, by omega, trivial⟩, A_hq⟩, by omega, by omega⟩)
          · have c8 : (z7 : Int) ≠ 0 := c8
            exfalso; omega
      · have c1 : (a1 : Int) < 16 := c1
        refine yG.load xak rfl (fun _ _ => rfl) (v := yR k0) rfl rfl ?_
        refine yG.getO A_hq.1 (w_Shorts_taken W H_k0) rfl rfl (fun r9 H_r9 O_r9 q_r9 => ?_)
        refine yG.load xik rfl (fun _ _ => rfl) (v := yI (a1)) rfl rfl ?_
        refine yG.load xik rfl (fun _ _ => rfl) (v := yI (a1)) rfl rfl ?_
        refine yG.load xak rfl (fun _ _ => rfl) (v := yR k0) rfl rfl ?_
        refine yG.getI A_hq.1 (w_Shorts_island W H_k0) rfl rfl (fun z10 e_z10 i_z10 l_z10 u_z10 => ?_)
        refine yG.icmp rfl (t := 99) rfl ⟨by omega, by omega⟩ ⟨by omega, by omega⟩ (fun c11 => ?_) (fun c11 => ?_)
        · have c11 : (a1 : Int) ≠ z10 := c11
          refine yG.num (c := 0) rfl (fun _ _ => rfl) (by decide) ?_
          refine yG.bast A_hq.1 (v_Shorts_taken W H_r9) (W.2.1 _ _ H_r9 (by decide) (by decide)) rfl (by omega) (by omega) ⟨by omega, by omega⟩ (by omega) (by omega) (fun h12 T_h12 b_h12 f_h12 y_h12 => ?_)
          have A_h12 := A_hq.put T_h12 b_h12 f_h12 H_r9 (bAll_ok (by decide) _)
          have : ys h12 n0 5 = ys hq n0 5 := (y_h12 n0 5).trans (if_neg (fun e => (bRo.ne H_n0 H_r9 (by decide)) e.1))
          have : ys h12 n0 3 = ys hq n0 3 := (y_h12 n0 3).trans (if_neg (fun e => (bRo.ne H_n0 H_r9 (by decide)) e.1))
          have : ys h12 n0 4 = ys hq n0 4 := (y_h12 n0 4).trans (if_neg (fun e => (bRo.ne H_n0 H_r9 (by decide)) e.1))
          have : ys h12 k0 8 = ys hq k0 8 := (y_h12 k0 8).trans (if_neg (fun e => (bRo.ne H_k0 H_r9 (by decide)) e.1))
          have qq1 : zsl h12 k0 1 = yR n0 := ((f_h12 k0 1).trans (if_neg (fun e => (bRo.ne H_k0 H_r9 (by decide)) e.1))).trans Q_n0
          refine yG.iinc rfl (a := a1) rfl (L' := [(1, yI (a1 + 1)), (0, yR k0)]) rfl ?_
          refine yG.goto rfl (t := 76) rfl ?_
          exact yG.mono (yG.sub (i_76 (a1 + 1) (ys h12 n0 5) (ys h12 n0 3) (ys h12 n0 4) (ys h12 k0 8) h12 A_h12  rfl rfl rfl rfl (by omega) (by omega) (by omega) (by omega) (by omega) (by omega) (by omega) (by omega) (by omega) (by omega) (by omega) (by omega)) (ySub.cons rfl (ySub.cons rfl (ySub.nil)))) (by omega)
        · have c11 : (a1 : Int) = z10 := c11
          refine yG.num (c := 1) rfl (fun _ _ => rfl) (by decide) ?_
          refine yG.goto rfl (t := 100) rfl ?_
          refine yG.bast A_hq.1 (v_Shorts_taken W H_r9) (W.2.1 _ _ H_r9 (by decide) (by decide)) rfl (by omega) (by omega) ⟨by omega, by omega⟩ (by omega) (by omega) (fun h13 T_h13 b_h13 f_h13 y_h13 => ?_)
          have A_h13 := A_hq.put T_h13 b_h13 f_h13 H_r9 (bAll_ok (by decide) _)
          have : ys h13 n0 5 = ys hq n0 5 := (y_h13 n0 5).trans (if_neg (fun e => (bRo.ne H_n0 H_r9 (by decide)) e.1))
          have : ys h13 n0 3 = ys hq n0 3 := (y_h13 n0 3).trans (if_neg (fun e => (bRo.ne H_n0 H_r9 (by decide)) e.1))
          have : ys h13 n0 4 = ys hq n0 4 := (y_h13 n0 4).trans (if_neg (fun e => (bRo.ne H_n0 H_r9 (by decide)) e.1))
          have : ys h13 k0 8 = ys hq k0 8 := (y_h13 k0 8).trans (if_neg (fun e => (bRo.ne H_k0 H_r9 (by decide)) e.1))
          have qq2 : zsl h13 k0 1 = yR n0 := ((f_h13 k0 1).trans (if_neg (fun e => (bRo.ne H_k0 H_r9 (by decide)) e.1))).trans Q_n0
          refine yG.iinc rfl (a := a1) rfl (L' := [(1, yI (a1 + 1)), (0, yR k0)]) rfl ?_
          refine yG.goto rfl (t := 76) rfl ?_
          exact yG.mono (yG.sub (i_76 (a1 + 1) (ys h13 n0 5) (ys h13 n0 3) (ys h13 n0 4) (ys h13 k0 8) h13 A_h13  rfl rfl rfl rfl (by omega) (by omega) (by omega) (by omega) (by omega) (by omega) (by omega) (by omega) (by omega) (by omega) (by omega) (by omega)) (ySub.cons rfl (ySub.cons rfl (ySub.nil)))) (by omega)
  refine yC.of (M := (xt_X9_isThere, (2, (4, (10, []))))) rfl rfl (N := 1008) (yfuel (by decide)) ?_
  show yG 89 xfts (xcall 89 xfts xpools xms (d + 1)) (xpool xp_RX9) [] xt_X9_isThere (yP 4 (fun rv hp' => (bQi G [(37778931862957161709568, 7), (37778931862957161709568, 8), (75557863725914323419136, 256)] hp 0 1 (fun _ => True)) rv hp' ∧ (0 ≤ ys hp' k0 8 ∧ ys hp' k0 8 ≤ 15))) 1008 0 [(0, yR k0)] [] hp
  have i_76 := H 35
  obtain ⟨gg0, E_0⟩ : ∃ z : Int, ys hp n0 5 = z := ⟨_, rfl⟩
  obtain ⟨-, -, g_0l, g_0u⟩ := (w_Net_shortLine W H_n0).int hT
  obtain ⟨gg1, E_1⟩ : ∃ z : Int, ys hp n0 3 = z := ⟨_, rfl⟩
  obtain ⟨-, -, g_1l, g_1u⟩ := (w_Net_shortKind W H_n0).int hT
  obtain ⟨gg2, E_2⟩ : ∃ z : Int, ys hp n0 4 = z := ⟨_, rfl⟩
  obtain ⟨-, -, g_2l, g_2u⟩ := (w_Net_shortBar W H_n0).int hT
  obtain ⟨gg3, E_3⟩ : ∃ z : Int, ys hp k0 8 = z := ⟨_, rfl⟩
  obtain ⟨-, -, g_3l, g_3u⟩ := (w_Shorts_place W H_k0).int hT
  refine yG.load xak rfl (fun _ _ => rfl) (v := yR k0) rfl rfl ?_
  refine yG.load xak rfl (fun _ _ => rfl) (v := yR k0) rfl rfl ?_
  refine yG.invV (rest := [yR k0]) A_hp.1 (bOb (d_Shorts W) H_k0) rfl rfl rfl rfl (c_Shorts_isOnLine W d A_hp.1 H_k0 H_n0 Q_n0) (fun rv hp9 q9 => ?_)
  obtain ⟨⟨z1, rfl, l_z1, u_z1, R_z1⟩, e9⟩ := q9
  rw [e9]
  show yG _ _ _ _ _ _ _ _ _ _ (yI z1 :: [yR k0]) _
  refine yG.ifz rfl (t := 25) rfl ⟨by omega, by omega⟩ (fun c2 => ?_) (fun c2 => ?_)
  · have c2 : (z1 : Int) = 0 := c2
    refine yG.load xak rfl (fun _ _ => rfl) (v := yR k0) rfl rfl ?_
    refine yG.getO A_hp.1 (w_Shorts_shape W H_k0) rfl rfl (fun r3 H_r3 O_r3 q_r3 => ?_)
    refine yG.getO A_hp.1 (w_Shape_island W H_r3) rfl rfl (fun r4 H_r4 O_r4 q_r4 => ?_)
    refine yG.load xak rfl (fun _ _ => rfl) (v := yR k0) rfl rfl ?_
    refine yG.getS9 A_hp.1 (w_Shorts_net W H_k0) Q_n0 rfl rfl ?_
    have v36 := M_bSh n0 H_n0
    refine yG.getI A_hp.1 (w_Net_shortBar W H_n0) rfl rfl (fun z5 e_z5 i_z5 l_z5 u_z5 => ?_)
    refine yG.ialdF A_hp.1 (v_Shape_island W H_r4) rfl rfl (by omega) (by omega) (fun z6 e_z6 i_z6 l_z6 u_z6 => ?_)
    refine yG.putI A_hp.1 (w_Shorts_island W H_k0) (W.2.1 _ _ H_k0 (by decide) (by decide)) rfl rfl (.inl rfl) ⟨by omega, by omega⟩ (by omega) (by omega) (fun h7 T_h7 b_h7 f_h7 y_h7 => ?_)
    have A_h7 := A_hp.put T_h7 b_h7 f_h7 H_k0 (by decide)
    have : ys h7 n0 5 = ys hp n0 5 := (y_h7 n0 5).trans (if_neg (fun e => (bRo.ne H_n0 H_k0 (by decide)) e.1))
    have : ys h7 n0 3 = ys hp n0 3 := (y_h7 n0 3).trans (if_neg (fun e => (bRo.ne H_n0 H_k0 (by decide)) e.1))
    have : ys h7 n0 4 = ys hp n0 4 := (y_h7 n0 4).trans (if_neg (fun e => (bRo.ne H_n0 H_k0 (by decide)) e.1))
    have : ys h7 k0 8 = ys hp k0 8 := (y_h7 k0 8).trans (if_neg (fun e => absurd e.2 (by decide)))
    have qq1 : zsl h7 k0 1 = yR n0 := ((f_h7 k0 1).trans (if_neg (fun e => absurd e.2 (by decide)))).trans Q_n0
    have qq2 : zsl h7 k0 0 = yR r3 := ((f_h7 k0 0).trans (if_neg (fun e => absurd e.2 (by decide)))).trans q_r3
    refine yG.load xak rfl (fun _ _ => rfl) (v := yR k0) rfl rfl ?_
    refine yG.load xak rfl (fun _ _ => rfl) (v := yR k0) rfl rfl ?_
    refine yG.invV (rest := [yR k0]) A_h7.1 (bOb (d_Shorts W) H_k0) rfl rfl rfl rfl (c_Shorts_isOnLine W d A_h7.1 H_k0 H_n0 qq1) (fun rv hp9 q9 => ?_)
    obtain ⟨⟨z8, rfl, l_z8, u_z8, R_z8⟩, e9⟩ := q9
    rw [e9]
    show yG _ _ _ _ _ _ _ _ _ _ (yI z8 :: [yR k0]) _
    refine yG.ifz rfl (t := 56) rfl ⟨by omega, by omega⟩ (fun c9 => ?_) (fun c9 => ?_)
    · have c9 : (z8 : Int) = 0 := c9
      refine yG.load xak rfl (fun _ _ => rfl) (v := yR k0) rfl rfl ?_
      refine yG.getS9 A_h7.1 (w_Shorts_shape W H_k0) qq2 rfl rfl ?_
      refine yG.getO A_h7.1 (w_Shape_node W H_r3) rfl rfl (fun r10 H_r10 O_r10 q_r10 => ?_)
      refine yG.load xak rfl (fun _ _ => rfl) (v := yR k0) rfl rfl ?_
      refine yG.getS9 A_h7.1 (w_Shorts_net W H_k0) qq1 rfl rfl ?_
      have v67 := (M_bSh.fr A_h7 (by decide)) n0 H_n0
      refine yG.getI A_h7.1 (w_Net_shortBar W H_n0) rfl rfl (fun z11 e_z11 i_z11 l_z11 u_z11 => ?_)
      refine yG.ialdF A_h7.1 (v_Shape_node W H_r10) rfl rfl (by omega) (by omega) (fun z12 e_z12 i_z12 l_z12 u_z12 => ?_)
      refine yG.putI A_h7.1 (w_Shorts_place W H_k0) (W.2.1 _ _ H_k0 (by decide) (by decide)) rfl rfl (.inl rfl) ⟨by omega, by omega⟩ (by omega) (by omega) (fun h13 T_h13 b_h13 f_h13 y_h13 => ?_)
      have A_h13 := A_h7.put T_h13 b_h13 f_h13 H_k0 (by decide)
      have : ys h13 n0 5 = ys h7 n0 5 := (y_h13 n0 5).trans (if_neg (fun e => (bRo.ne H_n0 H_k0 (by decide)) e.1))
      have : ys h13 n0 3 = ys h7 n0 3 := (y_h13 n0 3).trans (if_neg (fun e => (bRo.ne H_n0 H_k0 (by decide)) e.1))
      have : ys h13 n0 4 = ys h7 n0 4 := (y_h13 n0 4).trans (if_neg (fun e => (bRo.ne H_n0 H_k0 (by decide)) e.1))
      have qq3 : zsl h13 k0 1 = yR n0 := ((f_h13 k0 1).trans (if_neg (fun e => absurd e.2 (by decide)))).trans qq1
      have qq4 : zsl h13 k0 0 = yR r3 := ((f_h13 k0 0).trans (if_neg (fun e => absurd e.2 (by decide)))).trans qq2
      have : ys h13 k0 8 = z12 := (y_h13 k0 8).trans (if_pos ⟨rfl, rfl⟩)
      refine yG.num (c := 0) rfl (fun _ _ => rfl) (by decide) ?_
      refine yG.store1 xik (L' := [(1, yI (0)), (0, yR k0)]) rfl (fun _ _ => rfl) rfl rfl ?_
      exact yG.mono (yG.sub (i_76 (0) (ys h13 n0 5) (ys h13 n0 3) (ys h13 n0 4) (ys h13 k0 8) h13 A_h13  rfl rfl rfl rfl (by omega) (by omega) (by omega) (by omega) (by omega) (by omega) (by omega) (by omega) (by omega) (by omega) (by omega) (by omega)) (ySub.cons rfl (ySub.cons rfl (ySub.nil)))) (by omega)
    · have c9 : (z8 : Int) ≠ 0 := c9
      exfalso; omega
  · have c2 : (z1 : Int) ≠ 0 := c2
    exfalso; omega
theorem c_Shorts_isGrounded {hp : xH} (W : bW G) (d : Nat) (hT : zTy G hp) {k0 : Nat} (H_k0 : bRo G 75 k0) : yC (xcall 89 xfts xpools xms (d + 2)) 233 [yR k0] hp (bQpi hp 0 1 (fun _ => True)) := by
  have A_hp : bAx G [] hp hp := bAx.rf hT
  have H : ∀ m : Nat, (∀ a1 : Int, 0 ≤ a1 → (-6) ≤ 0 - a1 → 0 - 2 * a1 + 13 < (m : Int) → yG 89 xfts (xcall 89 xfts xpools xms (d + 1)) (xpool xp_RX9) [] xt_X9_isGrounded (yP 4 (bQpi hp 0 1 (fun _ => True))) (25 * m) 2 [(0, yR k0), (1, yI (a1))] [] hp) := by
    intro m
    induction m with
    | zero =>
      intros; exfalso; omega
    | succ m ih =>
      have i_2 := ih
      clear ih
      intro a1 f0 f1 hm
      refine yG.mono (N := 25 * m + 25) ?_ (by omega)
      refine yG.load xik rfl (fun _ _ => rfl) (v := yI (a1)) rfl rfl ?_
      refine yG.load xak rfl (fun _ _ => rfl) (v := yR k0) rfl rfl ?_
      refine yG.getO A_hp.1 (w_Shorts_net W H_k0) rfl rfl (fun r1 H_r1 O_r1 q_r1 => ?_)
      refine yG.getO A_hp.1 (w_Net_count W H_r1) rfl rfl (fun r2 H_r2 O_r2 q_r2 => ?_)
      refine yG.num (c := 3) rfl (fun _ _ => rfl) (by decide) ?_
      refine yG.ialdF A_hp.1 (v_Net_count W H_r2) rfl rfl (by omega) (by omega) (fun z3 e_z3 i_z3 l_z3 u_z3 => ?_)
      refine yG.icmp rfl (t := 51) rfl ⟨by omega, by omega⟩ ⟨by omega, by omega⟩ (fun c4 => ?_) (fun c4 => ?_)
      · have c4 : (a1 : Int) ≥ z3 := c4
        refine yG.num (c := 0) rfl (fun _ _ => rfl) (by decide) ?_
        refine yG.ret rfl (fun _ _ => rfl) ?_
        exact (yP.bool (by omega) ⟨⟨0, rfl, by omega, by omega, trivial⟩, rfl⟩)
      · have c4 : (a1 : Int) < z3 := c4
        refine yG.load xak rfl (fun _ _ => rfl) (v := yR k0) rfl rfl ?_
        refine yG.getO A_hp.1 (w_Shorts_shape W H_k0) rfl rfl (fun r5 H_r5 O_r5 q_r5 => ?_)
        refine yG.load xik rfl (fun _ _ => rfl) (v := yI (a1)) rfl rfl ?_
        refine yG.load xak rfl (fun _ _ => rfl) (v := yR k0) rfl rfl ?_
        refine yG.getO A_hp.1 (w_Shorts_taken W H_k0) rfl rfl (fun r6 H_r6 O_r6 q_r6 => ?_)
        refine yG.invV (rest := []) A_hp.1 (bOb (d_Shape W) H_r5) rfl rfl rfl rfl (c_Shape_isMachineIn_2 W d A_hp.1 H_r5 H_r6 (a1) (by omega) (by omega)) (fun rv hp9 q9 => ?_)
        obtain ⟨⟨z7, rfl, l_z7, u_z7, R_z7⟩, e9⟩ := q9
        rw [e9]
        show yG _ _ _ _ _ _ _ _ _ _ (yI z7 :: []) _
        refine yG.ifz rfl (t := 45) rfl ⟨by omega, by omega⟩ (fun c8 => ?_) (fun c8 => ?_)
        · have c8 : (z7 : Int) = 0 := c8
          refine yG.iinc rfl (a := a1) rfl (L' := [(1, yI (a1 + 1)), (0, yR k0)]) rfl ?_
          refine yG.goto rfl (t := 2) rfl ?_
          exact yG.mono (yG.sub (i_2 (a1 + 1)     (by omega) (by omega) (by omega)) (ySub.cons rfl (ySub.cons rfl (ySub.nil)))) (by omega)
        · have c8 : (z7 : Int) ≠ 0 := c8
          refine yG.load xak rfl (fun _ _ => rfl) (v := yR k0) rfl rfl ?_
          refine yG.getS9 A_hp.1 (w_Shorts_net W H_k0) q_r1 rfl rfl ?_
          refine yG.num (c := 3) rfl (fun _ _ => rfl) (by decide) ?_
          refine yG.load xik rfl (fun _ _ => rfl) (v := yI (a1)) rfl rfl ?_
          refine yG.num (c := 3) rfl (fun _ _ => rfl) (by decide) ?_
          refine yG.invV (rest := []) A_hp.1 (bOb (d_Net W) H_r1) rfl rfl rfl rfl (c_Net_at_3_3 W d A_hp.1 H_r1 (a1) (by omega) (by omega)) (fun rv hp9 q9 => ?_)
          obtain ⟨⟨z9, rfl, l_z9, u_z9, R_z9⟩, e9⟩ := q9
          rw [e9]
          show yG _ _ _ _ _ _ _ _ _ _ (yI z9 :: []) _
          refine yG.ifz rfl (t := 45) rfl ⟨by omega, by omega⟩ (fun c10 => ?_) (fun c10 => ?_)
          · have c10 : (z9 : Int) ≤ 0 := c10
            refine yG.iinc rfl (a := a1) rfl (L' := [(1, yI (a1 + 1)), (0, yR k0)]) rfl ?_
            refine yG.goto rfl (t := 2) rfl ?_
            exact yG.mono (yG.sub (i_2 (a1 + 1)     (by omega) (by omega) (by omega)) (ySub.cons rfl (ySub.cons rfl (ySub.nil)))) (by omega)
          · have c10 : (z9 : Int) > 0 := c10
            refine yG.num (c := 1) rfl (fun _ _ => rfl) (by decide) ?_
            refine yG.ret rfl (fun _ _ => rfl) ?_
            exact (yP.bool (by omega) ⟨⟨1, rfl, by omega, by omega, trivial⟩, rfl⟩)
  refine yC.of (M := (xt_X9_isGrounded, (2, (4, (10, []))))) rfl rfl (N := 400) (yfuel (by decide)) ?_
  show yG 89 xfts (xcall 89 xfts xpools xms (d + 1)) (xpool xp_RX9) [] xt_X9_isGrounded (yP 4 (bQpi hp 0 1 (fun _ => True))) 400 0 [(0, yR k0)] [] hp
  have i_2 := H 15
  refine yG.num (c := 0) rfl (fun _ _ => rfl) (by decide) ?_
  refine yG.store1 xik (L' := [(1, yI (0)), (0, yR k0)]) rfl (fun _ _ => rfl) rfl rfl ?_
  exact yG.mono (yG.sub (i_2 (0)     (by omega) (by omega) (by omega)) (ySub.cons rfl (ySub.cons rfl (ySub.nil)))) (by omega)
theorem c_Shorts_sixteenths {hp : xH} (W : bW G) (d : Nat) (hT : zTy G hp) {k0 : Nat} (H_k0 : bRo G 75 k0) (p1 : Int) (h1l : (-2147483648) ≤ p1) (h1u : p1 ≤ 2147483647) : yC (xcall 89 xfts xpools xms (d + 1)) 241 [yR k0, yI (p1)] hp (bQpi hp 0 16 (fun z => 0 ≤ 0 - p1 + z + 2147483646)) := by
  have A_hp : bAx G [] hp hp := bAx.rf hT
  refine yC.of (M := (xt_X9_sixteenths, (2, (1, (10, []))))) rfl rfl (N := 30) (yfuel (by decide)) ?_
  show yG 89 xfts (xcall 89 xfts xpools xms d) (xpool xp_RX9) [] xt_X9_sixteenths (yP 1 (bQpi hp 0 16 (fun z => 0 ≤ 0 - p1 + z + 2147483646))) 30 0 [(0, yR k0), (1, yI (p1))] [] hp
  refine yG.load xik rfl (fun _ _ => rfl) (v := yI (p1)) rfl rfl ?_
  refine yG.ifz rfl (t := 14) rfl ⟨by omega, by omega⟩ (fun c1 => ?_) (fun c1 => ?_)
  · have c1 : (p1 : Int) ≠ 0 := c1
    refine yG.num (c := 16) rfl (fun _ _ => rfl) (by decide) ?_
    refine yG.load xak rfl (fun _ _ => rfl) (v := yR k0) rfl rfl ?_
    refine yG.getO A_hp.1 (w_Shorts_net W H_k0) rfl rfl (fun r2 H_r2 O_r2 q_r2 => ?_)
    refine yG.getI A_hp.1 (w_Net_shortPart W H_r2) rfl rfl (fun z3 e_z3 i_z3 l_z3 u_z3 => ?_)
    refine yG.isub rfl ?_
    refine yG.ret rfl (fun _ _ => rfl) ?_
    exact (yP.int ⟨by omega, by omega⟩ ⟨⟨16 - z3, rfl, by omega, by omega, by omega⟩, rfl⟩)
  · have c1 : (p1 : Int) = 0 := c1
    refine yG.load xak rfl (fun _ _ => rfl) (v := yR k0) rfl rfl ?_
    refine yG.getO A_hp.1 (w_Shorts_net W H_k0) rfl rfl (fun r4 H_r4 O_r4 q_r4 => ?_)
    refine yG.getI A_hp.1 (w_Net_shortPart W H_r4) rfl rfl (fun z5 e_z5 i_z5 l_z5 u_z5 => ?_)
    refine yG.goto rfl (t := 24) rfl ?_
    refine yG.ret rfl (fun _ _ => rfl) ?_
    exact (yP.int ⟨by omega, by omega⟩ ⟨⟨z5, rfl, by omega, by omega, by omega⟩, rfl⟩)
theorem c_Shorts_bits {hp : xH} (W : bW G) (d : Nat) (hT : zTy G hp) {k0 : Nat} (H_k0 : bRo G 75 k0) (p1 : Int) (h1l : 0 ≤ p1) (h1u : p1 ≤ 1) : yC (xcall 89 xfts xpools xms (d + 3)) 229 [yR k0, yI (p1)] hp (bQpi hp (-2147483648) 2147483647 (fun _ => True)) := by
  have A_hp : bAx G [] hp hp := bAx.rf hT
  have H : ∀ m : Nat, (∀ a2 : Int, ∀ a3 : Int, (-2147483648) ≤ a2 → (-2147483647) ≤ 0 - a2 → 0 ≤ a3 → (-6) ≤ 0 - a3 → 0 ≤ p1 → (-1) ≤ 0 - p1 → 0 - 2 * a3 + 13 < (m : Int) → yG 89 xfts (xcall 89 xfts xpools xms (d + 2)) (xpool xp_RX9) [] xt_X9_bits (yP 1 (bQpi hp (-2147483648) 2147483647 (fun _ => True))) (33 * m) 44 [(0, yR k0), (1, yI (p1)), (2, yI (a2)), (3, yI (a3))] [] hp) := by
    intro m
    induction m with
    | zero =>
      intros; exfalso; omega
    | succ m ih =>
      have i_44 := ih
      clear ih
      intro a2 a3 f0 f1 f2 f3 f4 f5 hm
      refine yG.mono (N := 33 * m + 33) ?_ (by omega)
      refine yG.load xik rfl (fun _ _ => rfl) (v := yI (a3)) rfl rfl ?_
      refine yG.load xak rfl (fun _ _ => rfl) (v := yR k0) rfl rfl ?_
      refine yG.getO A_hp.1 (w_Shorts_net W H_k0) rfl rfl (fun r1 H_r1 O_r1 q_r1 => ?_)
      refine yG.getO A_hp.1 (w_Net_count W H_r1) rfl rfl (fun r2 H_r2 O_r2 q_r2 => ?_)
      refine yG.num (c := 3) rfl (fun _ _ => rfl) (by decide) ?_
      refine yG.ialdF A_hp.1 (v_Net_count W H_r2) rfl rfl (by omega) (by omega) (fun z3 e_z3 i_z3 l_z3 u_z3 => ?_)
      refine yG.icmp rfl (t := 104) rfl ⟨by omega, by omega⟩ ⟨by omega, by omega⟩ (fun c4 => ?_) (fun c4 => ?_)
      · have c4 : (a3 : Int) ≥ z3 := c4
        refine yG.load xik rfl (fun _ _ => rfl) (v := yI (a2)) rfl rfl ?_
        refine yG.ret rfl (fun _ _ => rfl) ?_
        exact (yP.int ⟨by omega, by omega⟩ ⟨⟨a2, rfl, by omega, by omega, trivial⟩, rfl⟩)
      · have c4 : (a3 : Int) < z3 := c4
        refine yG.load xak rfl (fun _ _ => rfl) (v := yR k0) rfl rfl ?_
        refine yG.getO A_hp.1 (w_Shorts_shape W H_k0) rfl rfl (fun r5 H_r5 O_r5 q_r5 => ?_)
        refine yG.load xik rfl (fun _ _ => rfl) (v := yI (a3)) rfl rfl ?_
        refine yG.load xak rfl (fun _ _ => rfl) (v := yR k0) rfl rfl ?_
        refine yG.getO A_hp.1 (w_Shorts_taken W H_k0) rfl rfl (fun r6 H_r6 O_r6 q_r6 => ?_)
        refine yG.invV (rest := []) A_hp.1 (bOb (d_Shape W) H_r5) rfl rfl rfl rfl (c_Shape_isMachineIn_2 W (d + 1) A_hp.1 H_r5 H_r6 (a3) (by omega) (by omega)) (fun rv hp9 q9 => ?_)
        obtain ⟨⟨z7, rfl, l_z7, u_z7, R_z7⟩, e9⟩ := q9
        rw [e9]
        show yG _ _ _ _ _ _ _ _ _ _ (yI z7 :: []) _
        refine yG.ifz rfl (t := 98) rfl ⟨by omega, by omega⟩ (fun c8 => ?_) (fun c8 => ?_)
        · have c8 : (z7 : Int) = 0 := c8
          refine yG.iinc rfl (a := a3) rfl (L' := [(3, yI (a3 + 1)), (0, yR k0), (1, yI (p1)), (2, yI (a2))]) rfl ?_
          refine yG.goto rfl (t := 44) rfl ?_
          exact yG.mono (yG.sub (i_44 (a2) (a3 + 1)     (by omega) (by omega) (by omega) (by omega) (by omega) (by omega) (by omega)) (ySub.cons rfl (ySub.cons rfl (ySub.cons rfl (ySub.cons rfl (ySub.nil)))))) (by omega)
        · have c8 : (z7 : Int) ≠ 0 := c8
          refine yG.load xik rfl (fun _ _ => rfl) (v := yI (a2)) rfl rfl ?_
          refine yG.load xak rfl (fun _ _ => rfl) (v := yR k0) rfl rfl ?_
          refine yG.getS9 A_hp.1 (w_Shorts_net W H_k0) q_r1 rfl rfl ?_
          refine yG.num (c := 3) rfl (fun _ _ => rfl) (by decide) ?_
          refine yG.load xik rfl (fun _ _ => rfl) (v := yI (a3)) rfl rfl ?_
          refine yG.load xik rfl (fun _ _ => rfl) (v := yI (p1)) rfl rfl ?_
          refine yG.ifz rfl (t := 87) rfl ⟨by omega, by omega⟩ (fun c9 => ?_) (fun c9 => ?_)
          · have c9 : (p1 : Int) = 0 := c9
            refine yG.num (c := 2) rfl (fun _ _ => rfl) (by decide) ?_
            refine yG.invV (rest := [yI (a2)]) A_hp.1 (bOb (d_Net W) H_r1) rfl rfl rfl rfl (c_Net_at_3_2 W (d + 1) A_hp.1 H_r1 (a3) (by omega) (by omega)) (fun rv hp9 q9 => ?_)
            obtain ⟨⟨z10, rfl, l_z10, u_z10, R_z10⟩, e9⟩ := q9
            rw [e9]
            show yG _ _ _ _ _ _ _ _ _ _ (yI z10 :: [yI (a2)]) _
            refine yG.num (c := 1) rfl (fun _ _ => rfl) (by decide) ?_
            refine yG.iadd rfl ?_
            refine yG.invS (rest := [yI (a2)]) rfl rfl rfl rfl (c_Shape_bitsOf W (d + 1) A_hp.1 (z10 + 1) (by omega) (by omega)) (fun rv hp9 q9 => ?_)
            obtain ⟨⟨z11, rfl, l_z11, u_z11, R_z11⟩, e9⟩ := q9
            rw [e9]
            show yG _ _ _ _ _ _ _ _ _ _ (yI z11 :: [yI (a2)]) _
            refine yG.iadd rfl ?_
            obtain ⟨z12, e_z12, l_z12, u_z12⟩ := ywI (a2 + z11)
            rw [e_z12]
            refine yG.store1 xik (L' := [(2, yI (z12)), (0, yR k0), (1, yI (p1)), (3, yI (a3))]) rfl (fun _ _ => rfl) rfl rfl ?_
            refine yG.iinc rfl (a := a3) rfl (L' := [(3, yI (a3 + 1)), (2, yI (z12)), (0, yR k0), (1, yI (p1))]) rfl ?_
            refine yG.goto rfl (t := 44) rfl ?_
            exact yG.mono (yG.sub (i_44 (z12) (a3 + 1)     (by omega) (by omega) (by omega) (by omega) (by omega) (by omega) (by omega)) (ySub.cons rfl (ySub.cons rfl (ySub.cons rfl (ySub.cons rfl (ySub.nil)))))) (by omega)
          · have c9 : (p1 : Int) ≠ 0 := c9
            refine yG.num (c := 3) rfl (fun _ _ => rfl) (by decide) ?_
            refine yG.goto rfl (t := 88) rfl ?_
            refine yG.invV (rest := [yI (a2)]) A_hp.1 (bOb (d_Net W) H_r1) rfl rfl rfl rfl (c_Net_at_3_3 W (d + 1) A_hp.1 H_r1 (a3) (by omega) (by omega)) (fun rv hp9 q9 => ?_)
            obtain ⟨⟨z13, rfl, l_z13, u_z13, R_z13⟩, e9⟩ := q9
            rw [e9]
            show yG _ _ _ _ _ _ _ _ _ _ (yI z13 :: [yI (a2)]) _
            refine yG.num (c := 1) rfl (fun _ _ => rfl) (by decide) ?_
            refine yG.iadd rfl ?_
            refine yG.invS (rest := [yI (a2)]) rfl rfl rfl rfl (c_Shape_bitsOf W (d + 1) A_hp.1 (z13 + 1) (by omega) (by omega)) (fun rv hp9 q9 => ?_)
            obtain ⟨⟨z14, rfl, l_z14, u_z14, R_z14⟩, e9⟩ := q9
            rw [e9]
            show yG _ _ _ _ _ _ _ _ _ _ (yI z14 :: [yI (a2)]) _
            refine yG.iadd rfl ?_
            obtain ⟨z15, e_z15, l_z15, u_z15⟩ := ywI (a2 + z14)
            rw [e_z15]
            refine yG.store1 xik (L' := [(2, yI (z15)), (0, yR k0), (1, yI (p1)), (3, yI (a3))]) rfl (fun _ _ => rfl) rfl rfl ?_
            refine yG.iinc rfl (a := a3) rfl (L' := [(3, yI (a3 + 1)), (2, yI (z15)), (0, yR k0), (1, yI (p1))]) rfl ?_
            refine yG.goto rfl (t := 44) rfl ?_
            exact yG.mono (yG.sub (i_44 (z15) (a3 + 1)     (by omega) (by omega) (by omega) (by omega) (by omega) (by omega) (by omega)) (ySub.cons rfl (ySub.cons rfl (ySub.cons rfl (ySub.cons rfl (ySub.nil)))))) (by omega)
  refine yC.of (M := (xt_X9_bits, (4, (1, (10, []))))) rfl rfl (N := 528) (yfuel (by decide)) ?_
  show yG 89 xfts (xcall 89 xfts xpools xms (d + 2)) (xpool xp_RX9) [] xt_X9_bits (yP 1 (bQpi hp (-2147483648) 2147483647 (fun _ => True))) 528 0 [(0, yR k0), (1, yI (p1))] [] hp
  have i_44 := H 15
  refine yG.load xak rfl (fun _ _ => rfl) (v := yR k0) rfl rfl ?_
  refine yG.getO A_hp.1 (w_Shorts_shape W H_k0) rfl rfl (fun r1 H_r1 O_r1 q_r1 => ?_)
  refine yG.load xak rfl (fun _ _ => rfl) (v := yR k0) rfl rfl ?_
  refine yG.getO A_hp.1 (w_Shorts_taken W H_k0) rfl rfl (fun r2 H_r2 O_r2 q_r2 => ?_)
  refine yG.load xik rfl (fun _ _ => rfl) (v := yI (p1)) rfl rfl ?_
  refine yG.ifz rfl (t := 16) rfl ⟨by omega, by omega⟩ (fun c3 => ?_) (fun c3 => ?_)
  · have c3 : (p1 : Int) = 0 := c3
    refine yG.num (c := 1) rfl (fun _ _ => rfl) (by decide) ?_
    refine yG.load xak rfl (fun _ _ => rfl) (v := yR k0) rfl rfl ?_
    refine yG.getO A_hp.1 (w_Shorts_net W H_k0) rfl rfl (fun r4 H_r4 O_r4 q_r4 => ?_)
    refine yG.getI A_hp.1 (w_Net_shortLine W H_r4) rfl rfl (fun z5 e_z5 i_z5 l_z5 u_z5 => ?_)
    refine yG.invV (rest := []) A_hp.1 (bOb (d_Shape W) H_r1) rfl rfl rfl rfl (c_Shape_bits_2 W d A_hp.1 H_r1 H_r2 (1) (z5) (by omega) (by omega) (by omega) (by omega)) (fun rv hp9 q9 => ?_)
    obtain ⟨⟨z6, rfl, l_z6, u_z6, R_z6⟩, e9⟩ := q9
    rw [e9]
    show yG _ _ _ _ _ _ _ _ _ _ (yI z6 :: []) _
    refine yG.load xak rfl (fun _ _ => rfl) (v := yR k0) rfl rfl ?_
    refine yG.invV (rest := [yI (z6)]) A_hp.1 (bOb (d_Shorts W) H_k0) rfl rfl rfl rfl (c_Shorts_isOnLine W (d + 1) A_hp.1 H_k0 H_r4 q_r4) (fun rv hp9 q9 => ?_)
    obtain ⟨⟨z7, rfl, l_z7, u_z7, R_z7⟩, e9⟩ := q9
    rw [e9]
    show yG _ _ _ _ _ _ _ _ _ _ (yI z7 :: [yI (z6)]) _
    refine yG.ifz rfl (t := 39) rfl ⟨by omega, by omega⟩ (fun c8 => ?_) (fun c8 => ?_)
    · have c8 : (z7 : Int) = 0 := c8
      refine yG.num (c := 2) rfl (fun _ _ => rfl) (by decide) ?_
      refine yG.iadd rfl ?_
      obtain ⟨z9, e_z9, l_z9, u_z9⟩ := ywI (z6 + 2)
      rw [e_z9]
      refine yG.store1 xik (L' := [(2, yI (z9)), (0, yR k0), (1, yI (p1))]) rfl (fun _ _ => rfl) rfl rfl ?_
      refine yG.num (c := 0) rfl (fun _ _ => rfl) (by decide) ?_
      refine yG.store1 xik (L' := [(3, yI (0)), (2, yI (z9)), (0, yR k0), (1, yI (p1))]) rfl (fun _ _ => rfl) rfl rfl ?_
      exact yG.mono (yG.sub (i_44 (z9) (0)     (by omega) (by omega) (by omega) (by omega) (by omega) (by omega) (by omega)) (ySub.cons rfl (ySub.cons rfl (ySub.cons rfl (ySub.cons rfl (ySub.nil)))))) (by omega)
    · have c8 : (z7 : Int) ≠ 0 := c8
      refine yG.num (c := 26) rfl (fun _ _ => rfl) (by decide) ?_
      refine yG.goto rfl (t := 40) rfl ?_
      refine yG.iadd rfl ?_
      obtain ⟨z10, e_z10, l_z10, u_z10⟩ := ywI (z6 + 26)
      rw [e_z10]
      refine yG.store1 xik (L' := [(2, yI (z10)), (0, yR k0), (1, yI (p1))]) rfl (fun _ _ => rfl) rfl rfl ?_
      refine yG.num (c := 0) rfl (fun _ _ => rfl) (by decide) ?_
      refine yG.store1 xik (L' := [(3, yI (0)), (2, yI (z10)), (0, yR k0), (1, yI (p1))]) rfl (fun _ _ => rfl) rfl rfl ?_
      exact yG.mono (yG.sub (i_44 (z10) (0)     (by omega) (by omega) (by omega) (by omega) (by omega) (by omega) (by omega)) (ySub.cons rfl (ySub.cons rfl (ySub.cons rfl (ySub.cons rfl (ySub.nil)))))) (by omega)
  · have c3 : (p1 : Int) ≠ 0 := c3
    refine yG.num (c := 2) rfl (fun _ _ => rfl) (by decide) ?_
    refine yG.goto rfl (t := 17) rfl ?_
    refine yG.load xak rfl (fun _ _ => rfl) (v := yR k0) rfl rfl ?_
    refine yG.getO A_hp.1 (w_Shorts_net W H_k0) rfl rfl (fun r11 H_r11 O_r11 q_r11 => ?_)
    refine yG.getI A_hp.1 (w_Net_shortLine W H_r11) rfl rfl (fun z12 e_z12 i_z12 l_z12 u_z12 => ?_)
    refine yG.invV (rest := []) A_hp.1 (bOb (d_Shape W) H_r1) rfl rfl rfl rfl (c_Shape_bits_2 W d A_hp.1 H_r1 H_r2 (2) (z12) (by omega) (by omega) (by omega) (by omega)) (fun rv hp9 q9 => ?_)
    obtain ⟨⟨z13, rfl, l_z13, u_z13, R_z13⟩, e9⟩ := q9
    rw [e9]
    show yG _ _ _ _ _ _ _ _ _ _ (yI z13 :: []) _
    refine yG.load xak rfl (fun _ _ => rfl) (v := yR k0) rfl rfl ?_
    refine yG.invV (rest := [yI (z13)]) A_hp.1 (bOb (d_Shorts W) H_k0) rfl rfl rfl rfl (c_Shorts_isOnLine W (d + 1) A_hp.1 H_k0 H_r11 q_r11) (fun rv hp9 q9 => ?_)
    obtain ⟨⟨z14, rfl, l_z14, u_z14, R_z14⟩, e9⟩ := q9
    rw [e9]
    show yG _ _ _ _ _ _ _ _ _ _ (yI z14 :: [yI (z13)]) _
    refine yG.ifz rfl (t := 39) rfl ⟨by omega, by omega⟩ (fun c15 => ?_) (fun c15 => ?_)
    · have c15 : (z14 : Int) = 0 := c15
      refine yG.num (c := 2) rfl (fun _ _ => rfl) (by decide) ?_
      refine yG.iadd rfl ?_
      obtain ⟨z16, e_z16, l_z16, u_z16⟩ := ywI (z13 + 2)
      rw [e_z16]
      refine yG.store1 xik (L' := [(2, yI (z16)), (0, yR k0), (1, yI (p1))]) rfl (fun _ _ => rfl) rfl rfl ?_
      refine yG.num (c := 0) rfl (fun _ _ => rfl) (by decide) ?_
      refine yG.store1 xik (L' := [(3, yI (0)), (2, yI (z16)), (0, yR k0), (1, yI (p1))]) rfl (fun _ _ => rfl) rfl rfl ?_
      exact yG.mono (yG.sub (i_44 (z16) (0)     (by omega) (by omega) (by omega) (by omega) (by omega) (by omega) (by omega)) (ySub.cons rfl (ySub.cons rfl (ySub.cons rfl (ySub.cons rfl (ySub.nil)))))) (by omega)
    · have c15 : (z14 : Int) ≠ 0 := c15
      refine yG.num (c := 26) rfl (fun _ _ => rfl) (by decide) ?_
      refine yG.goto rfl (t := 40) rfl ?_
      refine yG.iadd rfl ?_
      obtain ⟨z17, e_z17, l_z17, u_z17⟩ := ywI (z13 + 26)
      rw [e_z17]
      refine yG.store1 xik (L' := [(2, yI (z17)), (0, yR k0), (1, yI (p1))]) rfl (fun _ _ => rfl) rfl rfl ?_
      refine yG.num (c := 0) rfl (fun _ _ => rfl) (by decide) ?_
      refine yG.store1 xik (L' := [(3, yI (0)), (2, yI (z17)), (0, yR k0), (1, yI (p1))]) rfl (fun _ _ => rfl) rfl rfl ?_
      exact yG.mono (yG.sub (i_44 (z17) (0)     (by omega) (by omega) (by omega) (by omega) (by omega) (by omega) (by omega)) (ySub.cons rfl (ySub.cons rfl (ySub.cons rfl (ySub.cons rfl (ySub.nil)))))) (by omega)
theorem c_Shorts_lay_on {hp : xH} (W : bW G) (d : Nat) (hT : zTy G hp) {k0 : Nat} (H_k0 : bRo G 75 k0) {n0 : Nat} (H_n0 : bRo G 18 n0) (Q_n0 : zsl hp k0 1 = yR n0) (p1 p2 : Int) (h1l : 0 ≤ p1) (h1u : p1 ≤ 1) (h2l : (-2147483648) ≤ p2) (h2u : p2 ≤ 2147483647) (q0l : 0 ≤ ys hp n0 5) (q0u : ys hp n0 5 ≤ 19) : yC (xcall 89 xfts xpools xms (d + 3)) 237 [yR k0, yI (p1), yI (p2)] hp (bQj G [(4398046511104, 256)] hp 0 2147483646 (fun _ => True)) := by
  have A_hp : bAx G [(4398046511104, 256)] hp hp := bAx.rf hT
  have H : ∀ m : Nat, (∀ a3 : Int, ∀ a4 : Int, ∀ a6 : Int, ∀ gg0 : Int, ∀ hq, bAx G [(4398046511104, 256)] hp hq → ys hq n0 5 = gg0 → 1 ≤ a3 → (-2) ≤ 0 - a3 → 0 ≤ a4 → (-2147483646) ≤ 0 - a4 → 0 ≤ a6 → (-6) ≤ 0 - a6 → 0 ≤ gg0 → (-19) ≤ 0 - gg0 → 0 ≤ p1 → (-1) ≤ 0 - p1 → (-2147483648) ≤ p2 → (-2147483647) ≤ 0 - p2 → 1 ≤ a3 - p1 → (-1) ≤ 0 - a3 + p1 → 0 - 7 * a6 + 48 < (m : Int) → yG 89 xfts (xcall 89 xfts xpools xms (d + 2)) (xpool xp_RX9) [] xt_X9_lay (yP 2 (bQj G [(4398046511104, 256)] hp 0 2147483646 (fun _ => True))) (52 * m) 38 [(0, yR k0), (1, yI (p1)), (2, yI (p2)), (3, yI (a3)), (4, yJ (a4)), (6, yI (a6))] [] hq) ∧ (∀ a3 : Int, ∀ a4 : Int, ∀ a6 : Int, ∀ gg0 : Int, ∀ hq, bAx G [(4398046511104, 256)] hp hq → ys hq n0 5 = gg0 → 1 ≤ a3 → (-2) ≤ 0 - a3 → 0 ≤ a4 → (-2147483646) ≤ 0 - a4 → 0 ≤ a6 → (-2) ≤ 0 - a6 → 0 ≤ gg0 → (-19) ≤ 0 - gg0 → 0 ≤ p1 → (-1) ≤ 0 - p1 → (-2147483648) ≤ p2 → (-2147483647) ≤ 0 - p2 → 1 ≤ a3 - p1 → (-1) ≤ 0 - a3 + p1 → 0 - 2 * a6 + 5 < (m : Int) → yG 89 xfts (xcall 89 xfts xpools xms (d + 2)) (xpool xp_RX9) [] xt_X9_lay (yP 2 (bQj G [(4398046511104, 256)] hp 0 2147483646 (fun _ => True))) (52 * m) 146 [(0, yR k0), (2, yI (p2)), (3, yI (a3)), (4, yJ (a4)), (6, yI (a6))] [] hq) := by
    intro m
    induction m with
    | zero =>
      refine ⟨?_, ?_⟩ <;> (intros; exfalso; omega)
    | succ m ih =>
      obtain ⟨i_38, i_146⟩ := ih
      refine ⟨?_, ?_⟩
      · intro a3 a4 a6 gg0 hq A_hq E_0 f0 f1 f2 f3 f4 f5 f6 f7 f8 f9 f10 f11 f12 f13 hm
        refine yG.mono (N := 52 * m + 52) ?_ (by omega)
        obtain ⟨-, -, g_0l, g_0u⟩ := (w_Net_shortLine W H_n0).int A_hq.1
        replace Q_n0 : zsl hq k0 1 = yR n0 := (A_hq.sl H_k0 (by decide)).trans Q_n0
        refine yG.load xik rfl (fun _ _ => rfl) (v := yI (a6)) rfl rfl ?_
        refine yG.load xak rfl (fun _ _ => rfl) (v := yR k0) rfl rfl ?_
        refine yG.getS9 A_hq.1 (w_Shorts_net W H_k0) Q_n0 rfl rfl ?_
        refine yG.getO A_hq.1 (w_Net_count W H_n0) rfl rfl (fun r1 H_r1 O_r1 q_r1 => ?_)
        refine yG.num (c := 3) rfl (fun _ _ => rfl) (by decide) ?_
        refine yG.ialdF A_hq.1 (v_Net_count W H_r1) rfl rfl (by omega) (by omega) (fun z2 e_z2 i_z2 l_z2 u_z2 => ?_)
        refine yG.icmp rfl (t := 143) rfl ⟨by omega, by omega⟩ ⟨by omega, by omega⟩ (fun c3 => ?_) (fun c3 => ?_)
        · have c3 : (a6 : Int) ≥ z2 := c3
          refine yG.num (c := 0) rfl (fun _ _ => rfl) (by decide) ?_
          refine yG.store1 xik (L' := [(6, yI (0)), (0, yR k0), (1, yI (p1)), (2, yI (p2)), (3, yI (a3)), (4, yJ (a4))]) rfl (fun _ _ => rfl) rfl rfl ?_
          exact yG.mono (yG.sub (i_146 (a3) (a4) (0) (ys hq n0 5) hq A_hq  rfl (by omega) (by omega) (by omega) (by omega) (by omega) (by omega) (by omega) (by omega) (by omega) (by omega) (by omega) (by omega) (by omega) (by omega) (by omega)) (ySub.cons rfl (ySub.cons rfl (ySub.cons rfl (ySub.cons rfl (ySub.cons rfl (ySub.nil))))))) (by omega)
        · have c3 : (a6 : Int) < z2 := c3
          refine yG.load xak rfl (fun _ _ => rfl) (v := yR k0) rfl rfl ?_
          refine yG.getS9 A_hq.1 (w_Shorts_net W H_k0) Q_n0 rfl rfl ?_
          refine yG.num (c := 3) rfl (fun _ _ => rfl) (by decide) ?_
          refine yG.load xik rfl (fun _ _ => rfl) (v := yI (a6)) rfl rfl ?_
          refine yG.load xik rfl (fun _ _ => rfl) (v := yI (p1)) rfl rfl ?_
          refine yG.ifz rfl (t := 67) rfl ⟨by omega, by omega⟩ (fun c4 => ?_) (fun c4 => ?_)
          · have c4 : (p1 : Int) = 0 := c4
            refine yG.num (c := 2) rfl (fun _ _ => rfl) (by decide) ?_
            refine yG.invV (rest := []) A_hq.1 (bOb (d_Net W) H_n0) rfl rfl rfl rfl (c_Net_at_3_2 W (d + 1) A_hq.1 H_n0 (a6) (by omega) (by omega)) (fun rv hp9 q9 => ?_)
            obtain ⟨⟨z5, rfl, l_z5, u_z5, R_z5⟩, e9⟩ := q9
            rw [e9]
            show yG _ _ _ _ _ _ _ _ _ _ (yI z5 :: []) _
            refine yG.store1 xik (L' := [(7, yI (z5)), (0, yR k0), (1, yI (p1)), (2, yI (p2)), (3, yI (a3)), (4, yJ (a4)), (6, yI (a6))]) rfl (fun _ _ => rfl) rfl rfl ?_
            refine yG.load xik rfl (fun _ _ => rfl) (v := yI (z5)) rfl rfl ?_
            refine yG.ifz rfl (t := 137) rfl ⟨by omega, by omega⟩ (fun c6 => ?_) (fun c6 => ?_)
            · have c6 : (z5 : Int) ≤ 0 := c6
              refine yG.iinc rfl (a := a6) rfl (L' := [(6, yI (a6 + 1)), (7, yI (z5)), (0, yR k0), (1, yI (p1)), (2, yI (p2)), (3, yI (a3)), (4, yJ (a4))]) rfl ?_
              refine yG.goto rfl (t := 38) rfl ?_
              exact yG.mono (yG.sub (i_38 (a3) (a4) (a6 + 1) (ys hq n0 5) hq A_hq  rfl (by omega) (by omega) (by omega) (by omega) (by omega) (by omega) (by omega) (by omega) (by omega) (by omega) (by omega) (by omega) (by omega) (by omega) (by omega)) (ySub.cons rfl (ySub.cons rfl (ySub.cons rfl (ySub.cons rfl (ySub.cons rfl (ySub.cons rfl (ySub.nil)))))))) (by omega)
            · have c6 : (z5 : Int) > 0 := c6
              refine yG.load xak rfl (fun _ _ => rfl) (v := yR k0) rfl rfl ?_
              refine yG.getO A_hq.1 (w_Shorts_shape W H_k0) rfl rfl (fun r7 H_r7 O_r7 q_r7 => ?_)
              refine yG.load xik rfl (fun _ _ => rfl) (v := yI (a6)) rfl rfl ?_
              refine yG.load xak rfl (fun _ _ => rfl) (v := yR k0) rfl rfl ?_
              refine yG.getO A_hq.1 (w_Shorts_taken W H_k0) rfl rfl (fun r8 H_r8 O_r8 q_r8 => ?_)
              refine yG.invV (rest := []) A_hq.1 (bOb (d_Shape W) H_r7) rfl rfl rfl rfl (c_Shape_isMachineIn_2 W (d + 1) A_hq.1 H_r7 H_r8 (a6) (by omega) (by omega)) (fun rv hp9 q9 => ?_)
              obtain ⟨⟨z9, rfl, l_z9, u_z9, R_z9⟩, e9⟩ := q9
              rw [e9]
              show yG _ _ _ _ _ _ _ _ _ _ (yI z9 :: []) _
              refine yG.ifz rfl (t := 137) rfl ⟨by omega, by omega⟩ (fun c10 => ?_) (fun c10 => ?_)
              · have c10 : (z9 : Int) = 0 := c10
                refine yG.iinc rfl (a := a6) rfl (L' := [(6, yI (a6 + 1)), (7, yI (z5)), (0, yR k0), (1, yI (p1)), (2, yI (p2)), (3, yI (a3)), (4, yJ (a4))]) rfl ?_
                refine yG.goto rfl (t := 38) rfl ?_
                exact yG.mono (yG.sub (i_38 (a3) (a4) (a6 + 1) (ys hq n0 5) hq A_hq  rfl (by omega) (by omega) (by omega) (by omega) (by omega) (by omega) (by omega) (by omega) (by omega) (by omega) (by omega) (by omega) (by omega) (by omega) (by omega)) (ySub.cons rfl (ySub.cons rfl (ySub.cons rfl (ySub.cons rfl (ySub.cons rfl (ySub.cons rfl (ySub.nil)))))))) (by omega)
              · have c10 : (z9 : Int) ≠ 0 := c10
                refine yG.load xak rfl (fun _ _ => rfl) (v := yR k0) rfl rfl ?_
                refine yG.getO A_hq.1 (w_Shorts_solver W H_k0) rfl rfl (fun r11 H_r11 O_r11 q_r11 => ?_)
                refine yG.load xak rfl (fun _ _ => rfl) (v := yR k0) rfl rfl ?_
                refine yG.getS9 A_hq.1 (w_Shorts_shape W H_k0) q_r7 rfl rfl ?_
                refine yG.load xik rfl (fun _ _ => rfl) (v := yI (a6)) rfl rfl ?_
                refine yG.invV (rest := [yR r11]) A_hq.1 (bOb (d_Shape W) H_r7) rfl rfl rfl rfl (c_Shape_rowOfMachine W (d + 1) A_hq.1 H_r7 (a6) (by omega) (by omega)) (fun rv hp9 q9 => ?_)
                obtain ⟨⟨z12, rfl, l_z12, u_z12, R_z12⟩, e9⟩ := q9
                rw [e9]
                show yG _ _ _ _ _ _ _ _ _ _ (yI z12 :: [yR r11]) _
                refine yG.num (c := -1) rfl (fun _ _ => rfl) (by decide) ?_
                refine yG.load xak rfl (fun _ _ => rfl) (v := yR k0) rfl rfl ?_
                refine yG.getS9 A_hq.1 (w_Shorts_solver W H_k0) q_r11 rfl rfl ?_
                refine yG.load xik rfl (fun _ _ => rfl) (v := yI (z5)) rfl rfl ?_
                refine yG.i2l rfl ⟨by omega, by omega⟩ ?_
                refine yG.invV (rest := [yI ((-1)), yI (z12), yR r11]) A_hq.1 (bOb (d_Solver W) H_r11) rfl rfl rfl rfl (c_Solver_inverse W (d + 1) A_hq.1 H_r11 (z5) (by omega) (by omega)) (fun rv hp9 q9 => ?_)
                obtain ⟨⟨z13, rfl, l_z13, u_z13, R_z13⟩, e9⟩ := q9
                rw [e9]
                show yG _ _ _ _ _ _ _ _ _ _ (yJ z13 :: [yI ((-1)), yI (z12), yR r11]) _
                refine yG.invV (rest := []) A_hq.1 (bOb (d_Solver W) H_r11) rfl rfl rfl rfl (c_Solver_edge W (d + 1) A_hq.1 H_r11 (z12) ((-1)) (z13) (by omega) (by omega) (by omega) (by omega) (by omega) (by omega)) (fun rv h14 q9 => ?_)
                obtain ⟨⟨rfl, R_z15⟩, B_h14⟩ := q9
                have A_h14 := A_hq.tr B_h14 (by decide)
                have : ys h14 n0 5 = ys hq n0 5 := B_h14.ys H_n0 (by decide)
                have qq1 : zsl h14 k0 1 = yR n0 := (B_h14.sl H_k0 (by decide)).trans Q_n0
                have qq2 : zsl h14 k0 0 = yR r7 := (B_h14.sl H_k0 (by decide)).trans q_r7
                have qq3 : zsl h14 k0 2 = yR r11 := (B_h14.sl H_k0 (by decide)).trans q_r11
                show yG _ _ _ _ _ _ _ _ _ _ [] _
                refine yG.load xlk2 rfl (fun _ _ => rfl) (v := yJ (a4)) rfl rfl ?_
                refine yG.load xik rfl (fun _ _ => rfl) (v := yI (z5)) rfl rfl ?_
                refine yG.i2l rfl ⟨by omega, by omega⟩ ?_
                refine yG.lmul rfl ?_
                obtain ⟨z16, e_z16⟩ : ∃ z : Int, z = a4 * z5 := ⟨_, rfl⟩
                rw [← e_z16]
                have b_z16 : 0 ≤ z16 ∧ z16 ≤ 212600880954 := e_z16 ▸ ymulb (A := 2147483646) (B := 99) (by omega) (by omega) (by omega) (by omega) (by decide)
                have b2_z16 : z16 ≤ 2147483646 * z5 := e_z16 ▸ bmulx (by omega) (by omega)
                have b3_z16 : z16 ≤ 99 * a4 := e_z16 ▸ bmuly (by omega) (by omega)
                refine yG.load xak rfl (fun _ _ => rfl) (v := yR k0) rfl rfl ?_
                refine yG.getS9 A_h14.1 (w_Shorts_solver W H_k0) qq3 rfl rfl ?_
                refine yG.getJ A_h14.1 (w_Solver_prime W H_r11) rfl rfl (fun z17 e_z17 i_z17 l_z17 u_z17 => ?_)
                refine yG.lrem rfl ⟨by omega, by omega⟩ ⟨by omega, by omega⟩ (by omega) (by omega) ?_
                obtain ⟨z18, e_z18⟩ : ∃ z : Int, z = (z16) % (z17) := ⟨_, rfl⟩
                rw [← e_z18]
                have b_z18 : 0 ≤ z18 ∧ z18 < z17 := e_z18 ▸ ⟨Int.emod_nonneg _ (by omega), Int.emod_lt_of_pos _ (by omega)⟩
                refine yG.store2 xlk2 (L' := [(4, yJ (z18)), (7, yI (z5)), (0, yR k0), (1, yI (p1)), (2, yI (p2)), (3, yI (a3)), (6, yI (a6))]) rfl (fun _ _ => rfl) rfl rfl ?_
                refine yG.iinc rfl (a := a6) rfl (L' := [(6, yI (a6 + 1)), (4, yJ (z18)), (7, yI (z5)), (0, yR k0), (1, yI (p1)), (2, yI (p2)), (3, yI (a3))]) rfl ?_
                refine yG.goto rfl (t := 38) rfl ?_
                exact yG.mono (yG.sub (i_38 (a3) (z18) (a6 + 1) (ys h14 n0 5) h14 A_h14  rfl (by omega) (by omega) (by omega) (by omega) (by omega) (by omega) (by omega) (by omega) (by omega) (by omega) (by omega) (by omega) (by omega) (by omega) (by omega)) (ySub.cons rfl (ySub.cons rfl (ySub.cons rfl (ySub.cons rfl (ySub.cons rfl (ySub.cons rfl (ySub.nil)))))))) (by omega)
          · have c4 : (p1 : Int) ≠ 0 := c4
            refine yG.num (c := 3) rfl (fun _ _ => rfl) (by decide) ?_
            refine yG.goto rfl (t := 68) rfl ?_
            refine yG.invV (rest := []) A_hq.1 (bOb (d_Net W) H_n0) rfl rfl rfl rfl (c_Net_at_3_3 W (d + 1) A_hq.1 H_n0 (a6) (by omega) (by omega)) (fun rv hp9 q9 => ?_)
            obtain ⟨⟨z19, rfl, l_z19, u_z19, R_z19⟩, e9⟩ := q9
            rw [e9]
            show yG _ _ _ _ _ _ _ _ _ _ (yI z19 :: []) _
            refine yG.store1 xik (L' := [(7, yI (z19)), (0, yR k0), (1, yI (p1)), (2, yI (p2)), (3, yI (a3)), (4, yJ (a4)), (6, yI (a6))]) rfl (fun _ _ => rfl) rfl rfl ?_
            refine yG.load xik rfl (fun _ _ => rfl) (v := yI (z19)) rfl rfl ?_
            refine yG.ifz rfl (t := 137) rfl ⟨by omega, by omega⟩ (fun c20 => ?_) (fun c20 => ?_)
            · have c20 : (z19 : Int) ≤ 0 := c20
              refine yG.iinc rfl (a := a6) rfl (L' := [(6, yI (a6 + 1)), (7, yI (z19)), (0, yR k0), (1, yI (p1)), (2, yI (p2)), (3, yI (a3)), (4, yJ (a4))]) rfl ?_
              refine yG.goto rfl (t := 38) rfl ?_
              exact yG.mono (yG.sub (i_38 (a3) (a4) (a6 + 1) (ys hq n0 5) hq A_hq  rfl (by omega) (by omega) (by omega) (by omega) (by omega) (by omega) (by omega) (by omega) (by omega) (by omega) (by omega) (by omega) (by omega) (by omega) (by omega)) (ySub.cons rfl (ySub.cons rfl (ySub.cons rfl (ySub.cons rfl (ySub.cons rfl (ySub.cons rfl (ySub.nil)))))))) (by omega)
            · have c20 : (z19 : Int) > 0 := c20
              refine yG.load xak rfl (fun _ _ => rfl) (v := yR k0) rfl rfl ?_
              refine yG.getO A_hq.1 (w_Shorts_shape W H_k0) rfl rfl (fun r21 H_r21 O_r21 q_r21 => ?_)
              refine yG.load xik rfl (fun _ _ => rfl) (v := yI (a6)) rfl rfl ?_
              refine yG.load xak rfl (fun _ _ => rfl) (v := yR k0) rfl rfl ?_
              refine yG.getO A_hq.1 (w_Shorts_taken W H_k0) rfl rfl (fun r22 H_r22 O_r22 q_r22 => ?_)
              refine yG.invV (rest := []) A_hq.1 (bOb (d_Shape W) H_r21) rfl rfl rfl rfl (c_Shape_isMachineIn_2 W (d + 1) A_hq.1 H_r21 H_r22 (a6) (by omega) (by omega)) (fun rv hp9 q9 => ?_)
              obtain ⟨⟨z23, rfl, l_z23, u_z23, R_z23⟩, e9⟩ := q9
              rw [e9]
              show yG _ _ _ _ _ _ _ _ _ _ (yI z23 :: []) _
              refine yG.ifz rfl (t := 137) rfl ⟨by omega, by omega⟩ (fun c24 => ?_) (fun c24 => ?_)
              · have c24 : (z23 : Int) = 0 := c24
                refine yG.iinc rfl (a := a6) rfl (L' := [(6, yI (a6 + 1)), (7, yI (z19)), (0, yR k0), (1, yI (p1)), (2, yI (p2)), (3, yI (a3)), (4, yJ (a4))]) rfl ?_
                refine yG.goto rfl (t := 38) rfl ?_
                exact yG.mono (yG.sub (i_38 (a3) (a4) (a6 + 1) (ys hq n0 5) hq A_hq  rfl (by omega) (by omega) (by omega) (by omega) (by omega) (by omega) (by omega) (by omega) (by omega) (by omega) (by omega) (by omega) (by omega) (by omega) (by omega)) (ySub.cons rfl (ySub.cons rfl (ySub.cons rfl (ySub.cons rfl (ySub.cons rfl (ySub.cons rfl (ySub.nil)))))))) (by omega)
              · have c24 : (z23 : Int) ≠ 0 := c24
                refine yG.load xak rfl (fun _ _ => rfl) (v := yR k0) rfl rfl ?_
                refine yG.getO A_hq.1 (w_Shorts_solver W H_k0) rfl rfl (fun r25 H_r25 O_r25 q_r25 => ?_)
                refine yG.load xak rfl (fun _ _ => rfl) (v := yR k0) rfl rfl ?_
                refine yG.getS9 A_hq.1 (w_Shorts_shape W H_k0) q_r21 rfl rfl ?_
                refine yG.load xik rfl (fun _ _ => rfl) (v := yI (a6)) rfl rfl ?_
                refine yG.invV (rest := [yR r25]) A_hq.1 (bOb (d_Shape W) H_r21) rfl rfl rfl rfl (c_Shape_rowOfMachine W (d + 1) A_hq.1 H_r21 (a6) (by omega) (by omega)) (fun rv hp9 q9 => ?_)
                obtain ⟨⟨z26, rfl, l_z26, u_z26, R_z26⟩, e9⟩ := q9
                rw [e9]
                show yG _ _ _ _ _ _ _ _ _ _ (yI z26 :: [yR r25]) _
                refine yG.num (c := -1) rfl (fun _ _ => rfl) (by decide) ?_
                refine yG.load xak rfl (fun _ _ => rfl) (v := yR k0) rfl rfl ?_
                refine yG.getS9 A_hq.1 (w_Shorts_solver W H_k0) q_r25 rfl rfl ?_
                refine yG.load xik rfl (fun _ _ => rfl) (v := yI (z19)) rfl rfl ?_
                refine yG.i2l rfl ⟨by omega, by omega⟩ ?_
                refine yG.invV (rest := [yI ((-1)), yI (z26), yR r25]) A_hq.1 (bOb (d_Solver W) H_r25) rfl rfl rfl rfl (c_Solver_inverse W (d + 1) A_hq.1 H_r25 (z19) (by omega) (by omega)) (fun rv hp9 q9 => ?_)
                obtain ⟨⟨z27, rfl, l_z27, u_z27, R_z27⟩, e9⟩ := q9
                rw [e9]
                show yG _ _ _ _ _ _ _ _ _ _ (yJ z27 :: [yI ((-1)), yI (z26), yR r25]) _
                refine yG.invV (rest := []) A_hq.1 (bOb (d_Solver W) H_r25) rfl rfl rfl rfl (c_Solver_edge W (d + 1) A_hq.1 H_r25 (z26) ((-1)) (z27) (by omega) (by omega) (by omega) (by omega) (by omega) (by omega)) (fun rv h28 q9 => ?_)
                obtain ⟨⟨rfl, R_z29⟩, B_h28⟩ := q9
                have A_h28 := A_hq.tr B_h28 (by decide)
                have : ys h28 n0 5 = ys hq n0 5 := B_h28.ys H_n0 (by decide)
                have qq4 : zsl h28 k0 1 = yR n0 := (B_h28.sl H_k0 (by decide)).trans Q_n0
                have qq5 : zsl h28 k0 0 = yR r21 := (B_h28.sl H_k0 (by decide)).trans q_r21
                have qq6 : zsl h28 k0 2 = yR r25 := (B_h28.sl H_k0 (by decide)).trans q_r25
                show yG _ _ _ _ _ _ _ _ _ _ [] _
                refine yG.load xlk2 rfl (fun _ _ => rfl) (v := yJ (a4)) rfl rfl ?_
                refine yG.load xik rfl (fun _ _ => rfl) (v := yI (z19)) rfl rfl ?_
                refine yG.i2l rfl ⟨by omega, by omega⟩ ?_
                refine yG.lmul rfl ?_
                obtain ⟨z30, e_z30⟩ : ∃ z : Int, z = a4 * z19 := ⟨_, rfl⟩
                rw [← e_z30]
                have b_z30 : 0 ≤ z30 ∧ z30 ≤ 642097610154 := e_z30 ▸ ymulb (A := 2147483646) (B := 299) (by omega) (by omega) (by omega) (by omega) (by decide)
                have b2_z30 : z30 ≤ 2147483646 * z19 := e_z30 ▸ bmulx (by omega) (by omega)
                have b3_z30 : z30 ≤ 299 * a4 := e_z30 ▸ bmuly (by omega) (by omega)
                refine yG.load xak rfl (fun _ _ => rfl) (v := yR k0) rfl rfl ?_
                refine yG.getS9 A_h28.1 (w_Shorts_solver W H_k0) qq6 rfl rfl ?_
                refine yG.getJ A_h28.1 (w_Solver_prime W H_r25) rfl rfl (fun z31 e_z31 i_z31 l_z31 u_z31 => ?_)
                refine yG.lrem rfl ⟨by omega, by omega⟩ ⟨by omega, by omega⟩ (by omega) (by omega) ?_
                obtain ⟨z32, e_z32⟩ : ∃ z : Int, z = (z30) % (z31) := ⟨_, rfl⟩
                rw [← e_z32]
                have b_z32 : 0 ≤ z32 ∧ z32 < z31 := e_z32 ▸ ⟨Int.emod_nonneg _ (by omega), Int.emod_lt_of_pos _ (by omega)⟩
                refine yG.store2 xlk2 (L' := [(4, yJ (z32)), (7, yI (z19)), (0, yR k0), (1, yI (p1)), (2, yI (p2)), (3, yI (a3)), (6, yI (a6))]) rfl (fun _ _ => rfl) rfl rfl ?_
                refine yG.iinc rfl (a := a6) rfl (L' := [(6, yI (a6 + 1)), (4, yJ (z32)), (7, yI (z19)), (0, yR k0), (1, yI (p1)), (2, yI (p2)), (3, yI (a3))]) rfl ?_
                refine yG.goto rfl (t := 38) rfl ?_
                exact yG.mono (yG.sub (i_38 (a3) (z32) (a6 + 1) (ys h28 n0 5) h28 A_h28  rfl (by omega) (by omega) (by omega) (by omega) (by omega) (by omega) (by omega) (by omega) (by omega) (by omega) (by omega) (by omega) (by omega) (by omega) (by omega)) (ySub.cons rfl (ySub.cons rfl (ySub.cons rfl (ySub.cons rfl (ySub.cons rfl (ySub.cons rfl (ySub.nil)))))))) (by omega)
      · intro a3 a4 a6 gg0 hq A_hq E_0 f0 f1 f2 f3 f4 f5 f6 f7 f8 f9 f10 f11 f12 f13 hm
        refine yG.mono (N := 52 * m + 52) ?_ (by omega)
        obtain ⟨-, -, g_0l, g_0u⟩ := (w_Net_shortLine W H_n0).int A_hq.1
        replace Q_n0 : zsl hq k0 1 = yR n0 := (A_hq.sl H_k0 (by decide)).trans Q_n0
        refine yG.load xik rfl (fun _ _ => rfl) (v := yI (a6)) rfl rfl ?_
        refine yG.num (c := 2) rfl (fun _ _ => rfl) (by decide) ?_
        refine yG.icmp rfl (t := 244) rfl ⟨by omega, by omega⟩ ⟨by omega, by omega⟩ (fun c1 => ?_) (fun c1 => ?_)
        · have c1 : (a6 : Int) ≥ 2 := c1
          refine yG.load xlk2 rfl (fun _ _ => rfl) (v := yJ (a4)) rfl rfl ?_
          refine yG.ret rfl (fun _ _ => rfl) ?_
          exact (yP.long ⟨by omega, by omega⟩ ⟨⟨a4, rfl, by omega, by omega, trivial⟩, A_hq⟩)
        · have c1 : (a6 : Int) < 2 := c1
          refine yG.load xak rfl (fun _ _ => rfl) (v := yR k0) rfl rfl ?_
          refine yG.invV (rest := []) A_hq.1 (bOb (d_Shorts W) H_k0) rfl rfl rfl rfl (c_Shorts_isOnLine W (d + 1) A_hq.1 H_k0 H_n0 Q_n0) (fun rv hp9 q9 => ?_)
          obtain ⟨⟨z2, rfl, l_z2, u_z2, R_z2⟩, e9⟩ := q9
          rw [e9]
          show yG _ _ _ _ _ _ _ _ _ _ (yI z2 :: []) _
          refine yG.ifz rfl (t := 244) rfl ⟨by omega, by omega⟩ (fun c3 => ?_) (fun c3 => ?_)
          · have c3 : (z2 : Int) = 0 := c3
            exfalso; omega
          · have c3 : (z2 : Int) ≠ 0 := c3
            refine yG.load xak rfl (fun _ _ => rfl) (v := yR k0) rfl rfl ?_
            refine yG.getS9 A_hq.1 (w_Shorts_net W H_k0) Q_n0 rfl rfl ?_
            refine yG.num (c := 2) rfl (fun _ _ => rfl) (by decide) ?_
            refine yG.load xak rfl (fun _ _ => rfl) (v := yR k0) rfl rfl ?_
            refine yG.getS9 A_hq.1 (w_Shorts_net W H_k0) Q_n0 rfl rfl ?_
            refine yG.getI A_hq.1 (w_Net_shortLine W H_n0) rfl rfl (fun z4 e_z4 i_z4 l_z4 u_z4 => ?_)
            refine yG.load xik rfl (fun _ _ => rfl) (v := yI (a3)) rfl rfl ?_
            refine yG.invV (rest := []) A_hq.1 (bOb (d_Net W) H_n0) rfl rfl rfl rfl (c_Net_at_2z W (d + 1) A_hq.1 H_n0 (z4) (a3) (by omega) (by omega) (by omega) (by omega)) (fun rv hp9 q9 => ?_)
            obtain ⟨⟨z5, rfl, l_z5, u_z5, R_z5⟩, e9⟩ := q9
            rw [e9]
            show yG _ _ _ _ _ _ _ _ _ _ (yI z5 :: []) _
            refine yG.i2l rfl ⟨by omega, by omega⟩ ?_
            refine yG.load xak rfl (fun _ _ => rfl) (v := yR k0) rfl rfl ?_
            refine yG.load xik rfl (fun _ _ => rfl) (v := yI (a6)) rfl rfl ?_
            refine yG.invV (rest := [yJ (z5)]) A_hq.1 (bOb (d_Shorts W) H_k0) rfl rfl rfl rfl (c_Shorts_sixteenths W (d + 1) A_hq.1 H_k0 (a6) (by omega) (by omega)) (fun rv hp9 q9 => ?_)
            obtain ⟨⟨z6, rfl, l_z6, u_z6, R_z6⟩, e9⟩ := q9
            rw [e9]
            show yG _ _ _ _ _ _ _ _ _ _ (yI z6 :: [yJ (z5)]) _
            refine yG.i2l rfl ⟨by omega, by omega⟩ ?_
            refine yG.lmul rfl ?_
            obtain ⟨z7, e_z7⟩ : ∃ z : Int, z = z5 * z6 := ⟨_, rfl⟩
            rw [← e_z7]
            have b_z7 : 0 ≤ z7 ∧ z7 ≤ 159984 := e_z7 ▸ ymulb (A := 9999) (B := 16) (by omega) (by omega) (by omega) (by omega) (by decide)
            have b2_z7 : z7 ≤ 9999 * z6 := e_z7 ▸ bmulx (by omega) (by omega)
            have b3_z7 : z7 ≤ 16 * z5 := e_z7 ▸ bmuly (by omega) (by omega)
            refine yG.store2 xlk2 (L' := [(7, yJ (z7)), (0, yR k0), (2, yI (p2)), (3, yI (a3)), (4, yJ (a4)), (6, yI (a6))]) rfl (fun _ _ => rfl) rfl rfl ?_
            refine yG.load xak rfl (fun _ _ => rfl) (v := yR k0) rfl rfl ?_
            refine yG.getO A_hq.1 (w_Shorts_solver W H_k0) rfl rfl (fun r8 H_r8 O_r8 q_r8 => ?_)
            refine yG.load xak rfl (fun _ _ => rfl) (v := yR k0) rfl rfl ?_
            refine yG.getO A_hq.1 (w_Shorts_shape W H_k0) rfl rfl (fun r9 H_r9 O_r9 q_r9 => ?_)
            refine yG.load xak rfl (fun _ _ => rfl) (v := yR k0) rfl rfl ?_
            refine yG.getS9 A_hq.1 (w_Shorts_net W H_k0) Q_n0 rfl rfl ?_
            refine yG.getI A_hq.1 (w_Net_shortLine W H_n0) rfl rfl (fun z10 e_z10 i_z10 l_z10 u_z10 => ?_)
            refine yG.load xik rfl (fun _ _ => rfl) (v := yI (a6)) rfl rfl ?_
            refine yG.invV (rest := [yR r8]) A_hq.1 (bOb (d_Shape W) H_r9) rfl rfl rfl rfl (c_Shape_rowOfEnd W (d + 1) A_hq.1 H_r9 (z10) (a6) (by omega) (by omega) (by omega) (by omega)) (fun rv hp9 q9 => ?_)
            obtain ⟨⟨z11, rfl, l_z11, u_z11, R_z11⟩, e9⟩ := q9
            rw [e9]
            show yG _ _ _ _ _ _ _ _ _ _ (yI z11 :: [yR r8]) _
            refine yG.load xik rfl (fun _ _ => rfl) (v := yI (p2)) rfl rfl ?_
            refine yG.numl (c := 16) rfl (fun _ _ => rfl) (by decide) ?_
            refine yG.load xak rfl (fun _ _ => rfl) (v := yR k0) rfl rfl ?_
            refine yG.getS9 A_hq.1 (w_Shorts_solver W H_k0) q_r8 rfl rfl ?_
            refine yG.load xlk2 rfl (fun _ _ => rfl) (v := yJ (z7)) rfl rfl ?_
            refine yG.invV (rest := [yJ (16), yI (p2), yI (z11), yR r8]) A_hq.1 (bOb (d_Solver W) H_r8) rfl rfl rfl rfl (c_Solver_inverse W (d + 1) A_hq.1 H_r8 (z7) (by omega) (by omega)) (fun rv hp9 q9 => ?_)
            obtain ⟨⟨z12, rfl, l_z12, u_z12, R_z12⟩, e9⟩ := q9
            rw [e9]
            show yG _ _ _ _ _ _ _ _ _ _ (yJ z12 :: [yJ (16), yI (p2), yI (z11), yR r8]) _
            refine yG.lmul rfl ?_
            obtain ⟨z13, e_z13, l_z13, u_z13⟩ := ywJ (16 * z12)
            rw [e_z13]
            refine yG.invV (rest := []) A_hq.1 (bOb (d_Solver W) H_r8) rfl rfl rfl rfl (c_Solver_edge W (d + 1) A_hq.1 H_r8 (z11) (p2) (z13) (by omega) (by omega) (by omega) (by omega) (by omega) (by omega)) (fun rv h14 q9 => ?_)
            obtain ⟨⟨rfl, R_z15⟩, B_h14⟩ := q9
            have A_h14 := A_hq.tr B_h14 (by decide)
            have : ys h14 n0 5 = ys hq n0 5 := B_h14.ys H_n0 (by decide)
            have qq1 : zsl h14 k0 1 = yR n0 := (B_h14.sl H_k0 (by decide)).trans Q_n0
            have qq2 : zsl h14 k0 2 = yR r8 := (B_h14.sl H_k0 (by decide)).trans q_r8
            show yG _ _ _ _ _ _ _ _ _ _ [] _
            refine yG.load xlk2 rfl (fun _ _ => rfl) (v := yJ (a4)) rfl rfl ?_
            refine yG.load xlk2 rfl (fun _ _ => rfl) (v := yJ (z7)) rfl rfl ?_
            refine yG.lmul rfl ?_
            obtain ⟨z16, e_z16⟩ : ∃ z : Int, z = a4 * z7 := ⟨_, rfl⟩
            rw [← e_z16]
            have b_z16 : 0 ≤ z16 ∧ z16 ≤ 343563023621664 := e_z16 ▸ ymulb (A := 2147483646) (B := 159984) (by omega) (by omega) (by omega) (by omega) (by decide)
            have b2_z16 : z16 ≤ 2147483646 * z7 := e_z16 ▸ bmulx (by omega) (by omega)
            have b3_z16 : z16 ≤ 159984 * a4 := e_z16 ▸ bmuly (by omega) (by omega)
            refine yG.load xak rfl (fun _ _ => rfl) (v := yR k0) rfl rfl ?_
            refine yG.getS9 A_h14.1 (w_Shorts_solver W H_k0) qq2 rfl rfl ?_
            refine yG.getJ A_h14.1 (w_Solver_prime W H_r8) rfl rfl (fun z17 e_z17 i_z17 l_z17 u_z17 => ?_)
            refine yG.lrem rfl ⟨by omega, by omega⟩ ⟨by omega, by omega⟩ (by omega) (by omega) ?_
            obtain ⟨z18, e_z18⟩ : ∃ z : Int, z = (z16) % (z17) := ⟨_, rfl⟩
            rw [← e_z18]
            have b_z18 : 0 ≤ z18 ∧ z18 < z17 := e_z18 ▸ ⟨Int.emod_nonneg _ (by omega), Int.emod_lt_of_pos _ (by omega)⟩
            refine yG.store2 xlk2 (L' := [(4, yJ (z18)), (7, yJ (z7)), (0, yR k0), (2, yI (p2)), (3, yI (a3)), (6, yI (a6))]) rfl (fun _ _ => rfl) rfl rfl ?_
            refine yG.iinc rfl (a := a6) rfl (L' := [(6, yI (a6 + 1)), (4, yJ (z18)), (7, yJ (z7)), (0, yR k0), (2, yI (p2)), (3, yI (a3))]) rfl ?_
            refine yG.goto rfl (t := 146) rfl ?_
            exact yG.mono (yG.sub (i_146 (a3) (z18) (a6 + 1) (ys h14 n0 5) h14 A_h14  rfl (by omega) (by omega) (by omega) (by omega) (by omega) (by omega) (by omega) (by omega) (by omega) (by omega) (by omega) (by omega) (by omega) (by omega) (by omega)) (ySub.cons rfl (ySub.cons rfl (ySub.cons rfl (ySub.cons rfl (ySub.cons rfl (ySub.nil))))))) (by omega)
  refine yC.of (M := (xt_X9_lay, (9, (2, (10, []))))) rfl rfl (N := 2652) (yfuel (by decide)) ?_
  show yG 89 xfts (xcall 89 xfts xpools xms (d + 2)) (xpool xp_RX9) [] xt_X9_lay (yP 2 (bQj G [(4398046511104, 256)] hp 0 2147483646 (fun _ => True))) 2652 0 [(0, yR k0), (1, yI (p1)), (2, yI (p2))] [] hp
  obtain ⟨i_38, i_146⟩ := H 50
  obtain ⟨gg0, E_0⟩ : ∃ z : Int, ys hp n0 5 = z := ⟨_, rfl⟩
  obtain ⟨-, -, g_0l, g_0u⟩ := (w_Net_shortLine W H_n0).int hT
  refine yG.load xik rfl (fun _ _ => rfl) (v := yI (p1)) rfl rfl ?_
  refine yG.ifz rfl (t := 8) rfl ⟨by omega, by omega⟩ (fun c1 => ?_) (fun c1 => ?_)
  · have c1 : (p1 : Int) = 0 := c1
    refine yG.num (c := 1) rfl (fun _ _ => rfl) (by decide) ?_
    refine yG.store1 xik (L' := [(3, yI (1)), (0, yR k0), (1, yI (p1)), (2, yI (p2))]) rfl (fun _ _ => rfl) rfl rfl ?_
    refine yG.load xak rfl (fun _ _ => rfl) (v := yR k0) rfl rfl ?_
    refine yG.getO A_hp.1 (w_Shorts_shape W H_k0) rfl rfl (fun r2 H_r2 O_r2 q_r2 => ?_)
    refine yG.load xak rfl (fun _ _ => rfl) (v := yR k0) rfl rfl ?_
    refine yG.getO A_hp.1 (w_Shorts_solver W H_k0) rfl rfl (fun r3 H_r3 O_r3 q_r3 => ?_)
    refine yG.load xak rfl (fun _ _ => rfl) (v := yR k0) rfl rfl ?_
    refine yG.getO A_hp.1 (w_Shorts_taken W H_k0) rfl rfl (fun r4 H_r4 O_r4 q_r4 => ?_)
    refine yG.load xik rfl (fun _ _ => rfl) (v := yI (1)) rfl rfl ?_
    refine yG.load xak rfl (fun _ _ => rfl) (v := yR k0) rfl rfl ?_
    refine yG.getS9 A_hp.1 (w_Shorts_net W H_k0) Q_n0 rfl rfl ?_
    refine yG.getI A_hp.1 (w_Net_shortLine W H_n0) rfl rfl (fun z5 e_z5 i_z5 l_z5 u_z5 => ?_)
    refine yG.invV (rest := []) A_hp.1 (bOb (d_Shape W) H_r2) rfl rfl rfl rfl (c_Shape_lay_2 W d A_hp.1 H_r2 H_r3 H_r4 (1) (z5) (by omega) (by omega) (by omega) (by omega)) (fun rv h6 q9 => ?_)
    obtain ⟨⟨z7, rfl, l_z7, u_z7, R_z7⟩, B_h6⟩ := q9
    have A_h6 := A_hp.tr B_h6 (by decide)
    have : ys h6 n0 5 = ys hp n0 5 := B_h6.ys H_n0 (by decide)
    have qq1 : zsl h6 k0 1 = yR n0 := (B_h6.sl H_k0 (by decide)).trans Q_n0
    show yG _ _ _ _ _ _ _ _ _ _ (yJ z7 :: []) _
    refine yG.store2 xlk2 (L' := [(4, yJ (z7)), (3, yI (1)), (0, yR k0), (1, yI (p1)), (2, yI (p2))]) rfl (fun _ _ => rfl) rfl rfl ?_
    refine yG.num (c := 0) rfl (fun _ _ => rfl) (by decide) ?_
    refine yG.store1 xik (L' := [(6, yI (0)), (4, yJ (z7)), (3, yI (1)), (0, yR k0), (1, yI (p1)), (2, yI (p2))]) rfl (fun _ _ => rfl) rfl rfl ?_
    exact yG.mono (yG.sub (i_38 (1) (z7) (0) (ys h6 n0 5) h6 A_h6  rfl (by omega) (by omega) (by omega) (by omega) (by omega) (by omega) (by omega) (by omega) (by omega) (by omega) (by omega) (by omega) (by omega) (by omega) (by omega)) (ySub.cons rfl (ySub.cons rfl (ySub.cons rfl (ySub.cons rfl (ySub.cons rfl (ySub.cons rfl (ySub.nil)))))))) (by omega)
  · have c1 : (p1 : Int) ≠ 0 := c1
    refine yG.num (c := 2) rfl (fun _ _ => rfl) (by decide) ?_
    refine yG.goto rfl (t := 9) rfl ?_
    refine yG.store1 xik (L' := [(3, yI (2)), (0, yR k0), (1, yI (p1)), (2, yI (p2))]) rfl (fun _ _ => rfl) rfl rfl ?_
    refine yG.load xak rfl (fun _ _ => rfl) (v := yR k0) rfl rfl ?_
    refine yG.getO A_hp.1 (w_Shorts_shape W H_k0) rfl rfl (fun r8 H_r8 O_r8 q_r8 => ?_)
    refine yG.load xak rfl (fun _ _ => rfl) (v := yR k0) rfl rfl ?_
    refine yG.getO A_hp.1 (w_Shorts_solver W H_k0) rfl rfl (fun r9 H_r9 O_r9 q_r9 => ?_)
    refine yG.load xak rfl (fun _ _ => rfl) (v := yR k0) rfl rfl ?_
    refine yG.getO A_hp.1 (w_Shorts_taken W H_k0) rfl rfl (fun r10 H_r10 O_r10 q_r10 => ?_)
    refine yG.load xik rfl (fun _ _ => rfl) (v := yI (2)) rfl rfl ?_
    refine yG.load xak rfl (fun _ _ => rfl) (v := yR k0) rfl rfl ?_
    refine yG.getS9 A_hp.1 (w_Shorts_net W H_k0) Q_n0 rfl rfl ?_
    refine yG.getI A_hp.1 (w_Net_shortLine W H_n0) rfl rfl (fun z11 e_z11 i_z11 l_z11 u_z11 => ?_)
    refine yG.invV (rest := []) A_hp.1 (bOb (d_Shape W) H_r8) rfl rfl rfl rfl (c_Shape_lay_2 W d A_hp.1 H_r8 H_r9 H_r10 (2) (z11) (by omega) (by omega) (by omega) (by omega)) (fun rv h12 q9 => ?_)
    obtain ⟨⟨z13, rfl, l_z13, u_z13, R_z13⟩, B_h12⟩ := q9
    have A_h12 := A_hp.tr B_h12 (by decide)
    have : ys h12 n0 5 = ys hp n0 5 := B_h12.ys H_n0 (by decide)
    have qq2 : zsl h12 k0 1 = yR n0 := (B_h12.sl H_k0 (by decide)).trans Q_n0
    show yG _ _ _ _ _ _ _ _ _ _ (yJ z13 :: []) _
    refine yG.store2 xlk2 (L' := [(4, yJ (z13)), (3, yI (2)), (0, yR k0), (1, yI (p1)), (2, yI (p2))]) rfl (fun _ _ => rfl) rfl rfl ?_
    refine yG.num (c := 0) rfl (fun _ _ => rfl) (by decide) ?_
    refine yG.store1 xik (L' := [(6, yI (0)), (4, yJ (z13)), (3, yI (2)), (0, yR k0), (1, yI (p1)), (2, yI (p2))]) rfl (fun _ _ => rfl) rfl rfl ?_
    exact yG.mono (yG.sub (i_38 (2) (z13) (0) (ys h12 n0 5) h12 A_h12  rfl (by omega) (by omega) (by omega) (by omega) (by omega) (by omega) (by omega) (by omega) (by omega) (by omega) (by omega) (by omega) (by omega) (by omega) (by omega)) (ySub.cons rfl (ySub.cons rfl (ySub.cons rfl (ySub.cons rfl (ySub.cons rfl (ySub.cons rfl (ySub.nil)))))))) (by omega)
theorem c_Shorts_lay_off {hp : xH} (W : bW G) (d : Nat) (hT : zTy G hp) {k0 : Nat} (H_k0 : bRo G 75 k0) {n0 : Nat} (H_n0 : bRo G 18 n0) (Q_n0 : zsl hp k0 1 = yR n0) (p1 p2 : Int) (h1l : 0 ≤ p1) (h1u : p1 ≤ 1) (h2l : (-2147483648) ≤ p2) (h2u : p2 ≤ 2147483647) (q0l : (-1) ≤ ys hp n0 5) (q0u : ys hp n0 5 ≤ (-1)) : yC (xcall 89 xfts xpools xms (d + 3)) 237 [yR k0, yI (p1), yI (p2)] hp (bQj G [(4398046511104, 256)] hp 0 2147483646 (fun _ => True)) := by
  have A_hp : bAx G [(4398046511104, 256)] hp hp := bAx.rf hT
  have H : ∀ m : Nat, (∀ a3 : Int, ∀ a4 : Int, ∀ a6 : Int, ∀ gg0 : Int, ∀ hq, bAx G [(4398046511104, 256)] hp hq → ys hq n0 5 = gg0 → 1 ≤ a3 → (-2) ≤ 0 - a3 → 0 ≤ a4 → (-2147483646) ≤ 0 - a4 → 0 ≤ a6 → (-6) ≤ 0 - a6 → (-1) ≤ gg0 → 1 ≤ 0 - gg0 → 0 ≤ p1 → (-1) ≤ 0 - p1 → (-2147483648) ≤ p2 → (-2147483647) ≤ 0 - p2 → 1 ≤ a3 - p1 → (-1) ≤ 0 - a3 + p1 → 0 - 5 * a6 + 34 < (m : Int) → yG 89 xfts (xcall 89 xfts xpools xms (d + 2)) (xpool xp_RX9) [] xt_X9_lay (yP 2 (bQj G [(4398046511104, 256)] hp 0 2147483646 (fun _ => True))) (52 * m) 38 [(0, yR k0), (1, yI (p1)), (2, yI (p2)), (3, yI (a3)), (4, yJ (a4)), (6, yI (a6))] [] hq) ∧ (∀ a3 : Int, ∀ a4 : Int, ∀ a6 : Int, ∀ gg0 : Int, ∀ hq, bAx G [(4398046511104, 256)] hp hq → ys hq n0 5 = gg0 → 1 ≤ a3 → (-2) ≤ 0 - a3 → 0 ≤ a4 → (-2147483646) ≤ 0 - a4 → 0 ≤ a6 → 0 ≤ 0 - a6 → (-1) ≤ gg0 → 1 ≤ 0 - gg0 → 0 ≤ p1 → (-1) ≤ 0 - p1 → (-2147483648) ≤ p2 → (-2147483647) ≤ 0 - p2 → 1 ≤ a3 - p1 → (-1) ≤ 0 - a3 + p1 → 0 - 2 * a3 + 5 < (m : Int) → yG 89 xfts (xcall 89 xfts xpools xms (d + 2)) (xpool xp_RX9) [] xt_X9_lay (yP 2 (bQj G [(4398046511104, 256)] hp 0 2147483646 (fun _ => True))) (52 * m) 146 [(0, yR k0), (2, yI (p2)), (3, yI (a3)), (4, yJ (a4)), (6, yI (a6))] [] hq) := by
    intro m
    induction m with
    | zero =>
      refine ⟨?_, ?_⟩ <;> (intros; exfalso; omega)
    | succ m ih =>
      obtain ⟨i_38, i_146⟩ := ih
      refine ⟨?_, ?_⟩
      · intro a3 a4 a6 gg0 hq A_hq E_0 f0 f1 f2 f3 f4 f5 f6 f7 f8 f9 f10 f11 f12 f13 hm
        refine yG.mono (N := 52 * m + 52) ?_ (by omega)
        obtain ⟨-, -, g_0l, g_0u⟩ := (w_Net_shortLine W H_n0).int A_hq.1
        replace Q_n0 : zsl hq k0 1 = yR n0 := (A_hq.sl H_k0 (by decide)).trans Q_n0
        refine yG.load xik rfl (fun _ _ => rfl) (v := yI (a6)) rfl rfl ?_
        refine yG.load xak rfl (fun _ _ => rfl) (v := yR k0) rfl rfl ?_
        refine yG.getS9 A_hq.1 (w_Shorts_net W H_k0) Q_n0 rfl rfl ?_
        refine yG.getO A_hq.1 (w_Net_count W H_n0) rfl rfl (fun r1 H_r1 O_r1 q_r1 => ?_)
        refine yG.num (c := 3) rfl (fun _ _ => rfl) (by decide) ?_
        refine yG.ialdF A_hq.1 (v_Net_count W H_r1) rfl rfl (by omega) (by omega) (fun z2 e_z2 i_z2 l_z2 u_z2 => ?_)
        refine yG.icmp rfl (t := 143) rfl ⟨by omega, by omega⟩ ⟨by omega, by omega⟩ (fun c3 => ?_) (fun c3 => ?_)
        · have c3 : (a6 : Int) ≥ z2 := c3
          refine yG.num (c := 0) rfl (fun _ _ => rfl) (by decide) ?_
          refine yG.store1 xik (L' := [(6, yI (0)), (0, yR k0), (1, yI (p1)), (2, yI (p2)), (3, yI (a3)), (4, yJ (a4))]) rfl (fun _ _ => rfl) rfl rfl ?_
          exact yG.mono (yG.sub (i_146 (a3) (a4) (0) (ys hq n0 5) hq A_hq  rfl (by omega) (by omega) (by omega) (by omega) (by omega) (by omega) (by omega) (by omega) (by omega) (by omega) (by omega) (by omega) (by omega) (by omega) (by omega)) (ySub.cons rfl (ySub.cons rfl (ySub.cons rfl (ySub.cons rfl (ySub.cons rfl (ySub.nil))))))) (by omega)
        · have c3 : (a6 : Int) < z2 := c3
          refine yG.load xak rfl (fun _ _ => rfl) (v := yR k0) rfl rfl ?_
          refine yG.getS9 A_hq.1 (w_Shorts_net W H_k0) Q_n0 rfl rfl ?_
          refine yG.num (c := 3) rfl (fun _ _ => rfl) (by decide) ?_
          refine yG.load xik rfl (fun _ _ => rfl) (v := yI (a6)) rfl rfl ?_
          refine yG.load xik rfl (fun _ _ => rfl) (v := yI (p1)) rfl rfl ?_
          refine yG.ifz rfl (t := 67) rfl ⟨by omega, by omega⟩ (fun c4 => ?_) (fun c4 => ?_)
          · have c4 : (p1 : Int) = 0 := c4
            refine yG.num (c := 2) rfl (fun _ _ => rfl) (by decide) ?_
            refine yG.invV (rest := []) A_hq.1 (bOb (d_Net W) H_n0) rfl rfl rfl rfl (c_Net_at_3_2 W (d + 1) A_hq.1 H_n0 (a6) (by omega) (by omega)) (fun rv hp9 q9 => ?_)
            obtain ⟨⟨z5, rfl, l_z5, u_z5, R_z5⟩, e9⟩ := q9
            rw [e9]
            show yG _ _ _ _ _ _ _ _ _ _ (yI z5 :: []) _
            refine yG.store1 xik (L' := [(7, yI (z5)), (0, yR k0), (1, yI (p1)), (2, yI (p2)), (3, yI (a3)), (4, yJ (a4)), (6, yI (a6))]) rfl (fun _ _ => rfl) rfl rfl ?_
            refine yG.load xik rfl (fun _ _ => rfl) (v := yI (z5)) rfl rfl ?_
            refine yG.ifz rfl (t := 137) rfl ⟨by omega, by omega⟩ (fun c6 => ?_) (fun c6 => ?_)
            · have c6 : (z5 : Int) ≤ 0 := c6
              refine yG.iinc rfl (a := a6) rfl (L' := [(6, yI (a6 + 1)), (7, yI (z5)), (0, yR k0), (1, yI (p1)), (2, yI (p2)), (3, yI (a3)), (4, yJ (a4))]) rfl ?_
              refine yG.goto rfl (t := 38) rfl ?_
              exact yG.mono (yG.sub (i_38 (a3) (a4) (a6 + 1) (ys hq n0 5) hq A_hq  rfl (by omega) (by omega) (by omega) (by omega) (by omega) (by omega) (by omega) (by omega) (by omega) (by omega) (by omega) (by omega) (by omega) (by omega) (by omega)) (ySub.cons rfl (ySub.cons rfl (ySub.cons rfl (ySub.cons rfl (ySub.cons rfl (ySub.cons rfl (ySub.nil)))))))) (by omega)
            · have c6 : (z5 : Int) > 0 := c6
              refine yG.load xak rfl (fun _ _ => rfl) (v := yR k0) rfl rfl ?_
              refine yG.getO A_hq.1 (w_Shorts_shape W H_k0) rfl rfl (fun r7 H_r7 O_r7 q_r7 => ?_)
              refine yG.load xik rfl (fun _ _ => rfl) (v := yI (a6)) rfl rfl ?_
              refine yG.load xak rfl (fun _ _ => rfl) (v := yR k0) rfl rfl ?_
              refine yG.getO A_hq.1 (w_Shorts_taken W H_k0) rfl rfl (fun r8 H_r8 O_r8 q_r8 => ?_)
              refine yG.invV (rest := []) A_hq.1 (bOb (d_Shape W) H_r7) rfl rfl rfl rfl (c_Shape_isMachineIn_2 W (d + 1) A_hq.1 H_r7 H_r8 (a6) (by omega) (by omega)) (fun rv hp9 q9 => ?_)
              obtain ⟨⟨z9, rfl, l_z9, u_z9, R_z9⟩, e9⟩ := q9
              rw [e9]
              show yG _ _ _ _ _ _ _ _ _ _ (yI z9 :: []) _
              refine yG.ifz rfl (t := 137) rfl ⟨by omega, by omega⟩ (fun c10 => ?_) (fun c10 => ?_)
              · have c10 : (z9 : Int) = 0 := c10
                refine yG.iinc rfl (a := a6) rfl (L' := [(6, yI (a6 + 1)), (7, yI (z5)), (0, yR k0), (1, yI (p1)), (2, yI (p2)), (3, yI (a3)), (4, yJ (a4))]) rfl ?_
                refine yG.goto rfl (t := 38) rfl ?_
                exact yG.mono (yG.sub (i_38 (a3) (a4) (a6 + 1) (ys hq n0 5) hq A_hq  rfl (by omega) (by omega) (by omega) (by omega) (by omega) (by omega) (by omega) (by omega) (by omega) (by omega) (by omega) (by omega) (by omega) (by omega) (by omega)) (ySub.cons rfl (ySub.cons rfl (ySub.cons rfl (ySub.cons rfl (ySub.cons rfl (ySub.cons rfl (ySub.nil)))))))) (by omega)
              · have c10 : (z9 : Int) ≠ 0 := c10
                refine yG.load xak rfl (fun _ _ => rfl) (v := yR k0) rfl rfl ?_
                refine yG.getO A_hq.1 (w_Shorts_solver W H_k0) rfl rfl (fun r11 H_r11 O_r11 q_r11 => ?_)
                refine yG.load xak rfl (fun _ _ => rfl) (v := yR k0) rfl rfl ?_
                refine yG.getS9 A_hq.1 (w_Shorts_shape W H_k0) q_r7 rfl rfl ?_
                refine yG.load xik rfl (fun _ _ => rfl) (v := yI (a6)) rfl rfl ?_
                refine yG.invV (rest := [yR r11]) A_hq.1 (bOb (d_Shape W) H_r7) rfl rfl rfl rfl (c_Shape_rowOfMachine W (d + 1) A_hq.1 H_r7 (a6) (by omega) (by omega)) (fun rv hp9 q9 => ?_)
                obtain ⟨⟨z12, rfl, l_z12, u_z12, R_z12⟩, e9⟩ := q9
                rw [e9]
                show yG _ _ _ _ _ _ _ _ _ _ (yI z12 :: [yR r11]) _
                refine yG.num (c := -1) rfl (fun _ _ => rfl) (by decide) ?_
                refine yG.load xak rfl (fun _ _ => rfl) (v := yR k0) rfl rfl ?_
                refine yG.getS9 A_hq.1 (w_Shorts_solver W H_k0) q_r11 rfl rfl ?_
                refine yG.load xik rfl (fun _ _ => rfl) (v := yI (z5)) rfl rfl ?_
                refine yG.i2l rfl ⟨by omega, by omega⟩ ?_
                refine yG.invV (rest := [yI ((-1)), yI (z12), yR r11]) A_hq.1 (bOb (d_Solver W) H_r11) rfl rfl rfl rfl (c_Solver_inverse W (d + 1) A_hq.1 H_r11 (z5) (by omega) (by omega)) (fun rv hp9 q9 => ?_)
                obtain ⟨⟨z13, rfl, l_z13, u_z13, R_z13⟩, e9⟩ := q9
                rw [e9]
                show yG _ _ _ _ _ _ _ _ _ _ (yJ z13 :: [yI ((-1)), yI (z12), yR r11]) _
                refine yG.invV (rest := []) A_hq.1 (bOb (d_Solver W) H_r11) rfl rfl rfl rfl (c_Solver_edge W (d + 1) A_hq.1 H_r11 (z12) ((-1)) (z13) (by omega) (by omega) (by omega) (by omega) (by omega) (by omega)) (fun rv h14 q9 => ?_)
                obtain ⟨⟨rfl, R_z15⟩, B_h14⟩ := q9
                have A_h14 := A_hq.tr B_h14 (by decide)
                have : ys h14 n0 5 = ys hq n0 5 := B_h14.ys H_n0 (by decide)
                have qq1 : zsl h14 k0 1 = yR n0 := (B_h14.sl H_k0 (by decide)).trans Q_n0
                have qq2 : zsl h14 k0 0 = yR r7 := (B_h14.sl H_k0 (by decide)).trans q_r7
                have qq3 : zsl h14 k0 2 = yR r11 := (B_h14.sl H_k0 (by decide)).trans q_r11
                show yG _ _ _ _ _ _ _ _ _ _ [] _
                refine yG.load xlk2 rfl (fun _ _ => rfl) (v := yJ (a4)) rfl rfl ?_
                refine yG.load xik rfl (fun _ _ => rfl) (v := yI (z5)) rfl rfl ?_
                refine yG.i2l rfl ⟨by omega, by omega⟩ ?_
                refine yG.lmul rfl ?_
                obtain ⟨z16, e_z16⟩ : ∃ z : Int, z = a4 * z5 := ⟨_, rfl⟩
                rw [← e_z16]
                have b_z16 : 0 ≤ z16 ∧ z16 ≤ 212600880954 := e_z16 ▸ ymulb (A := 2147483646) (B := 99) (by omega) (by omega) (by omega) (by omega) (by decide)
                have b2_z16 : z16 ≤ 2147483646 * z5 := e_z16 ▸ bmulx (by omega) (by omega)
                have b3_z16 : z16 ≤ 99 * a4 := e_z16 ▸ bmuly (by omega) (by omega)
                refine yG.load xak rfl (fun _ _ => rfl) (v := yR k0) rfl rfl ?_
                refine yG.getS9 A_h14.1 (w_Shorts_solver W H_k0) qq3 rfl rfl ?_
                refine yG.getJ A_h14.1 (w_Solver_prime W H_r11) rfl rfl (fun z17 e_z17 i_z17 l_z17 u_z17 => ?_)
                refine yG.lrem rfl ⟨by omega, by omega⟩ ⟨by omega, by omega⟩ (by omega) (by omega) ?_
                obtain ⟨z18, e_z18⟩ : ∃ z : Int, z = (z16) % (z17) := ⟨_, rfl⟩
                rw [← e_z18]
                have b_z18 : 0 ≤ z18 ∧ z18 < z17 := e_z18 ▸ ⟨Int.emod_nonneg _ (by omega), Int.emod_lt_of_pos _ (by omega)⟩
                refine yG.store2 xlk2 (L' := [(4, yJ (z18)), (7, yI (z5)), (0, yR k0), (1, yI (p1)), (2, yI (p2)), (3, yI (a3)), (6, yI (a6))]) rfl (fun _ _ => rfl) rfl rfl ?_
                refine yG.iinc rfl (a := a6) rfl (L' := [(6, yI (a6 + 1)), (4, yJ (z18)), (7, yI (z5)), (0, yR k0), (1, yI (p1)), (2, yI (p2)), (3, yI (a3))]) rfl ?_
                refine yG.goto rfl (t := 38) rfl ?_
                exact yG.mono (yG.sub (i_38 (a3) (z18) (a6 + 1) (ys h14 n0 5) h14 A_h14  rfl (by omega) (by omega) (by omega) (by omega) (by omega) (by omega) (by omega) (by omega) (by omega) (by omega) (by omega) (by omega) (by omega) (by omega) (by omega)) (ySub.cons rfl (ySub.cons rfl (ySub.cons rfl (ySub.cons rfl (ySub.cons rfl (ySub.cons rfl (ySub.nil)))))))) (by omega)
          · have c4 : (p1 : Int) ≠ 0 := c4
            refine yG.num (c := 3) rfl (fun _ _ => rfl) (by decide) ?_
            refine yG.goto rfl (t := 68) rfl ?_
            refine yG.invV (rest := []) A_hq.1 (bOb (d_Net W) H_n0) rfl rfl rfl rfl (c_Net_at_3_3 W (d + 1) A_hq.1 H_n0 (a6) (by omega) (by omega)) (fun rv hp9 q9 => ?_)
            obtain ⟨⟨z19, rfl, l_z19, u_z19, R_z19⟩, e9⟩ := q9
            rw [e9]
            show yG _ _ _ _ _ _ _ _ _ _ (yI z19 :: []) _
            refine yG.store1 xik (L' := [(7, yI (z19)), (0, yR k0), (1, yI (p1)), (2, yI (p2)), (3, yI (a3)), (4, yJ (a4)), (6, yI (a6))]) rfl (fun _ _ => rfl) rfl rfl ?_
            refine yG.load xik rfl (fun _ _ => rfl) (v := yI (z19)) rfl rfl ?_
            refine yG.ifz rfl (t := 137) rfl ⟨by omega, by omega⟩ (fun c20 => ?_) (fun c20 => ?_)
            · have c20 : (z19 : Int) ≤ 0 := c20
              refine yG.iinc rfl (a := a6) rfl (L' := [(6, yI (a6 + 1)), (7, yI (z19)), (0, yR k0), (1, yI (p1)), (2, yI (p2)), (3, yI (a3)), (4, yJ (a4))]) rfl ?_
              refine yG.goto rfl (t := 38) rfl ?_
              exact yG.mono (yG.sub (i_38 (a3) (a4) (a6 + 1) (ys hq n0 5) hq A_hq  rfl (by omega) (by omega) (by omega) (by omega) (by omega) (by omega) (by omega) (by omega) (by omega) (by omega) (by omega) (by omega) (by omega) (by omega) (by omega)) (ySub.cons rfl (ySub.cons rfl (ySub.cons rfl (ySub.cons rfl (ySub.cons rfl (ySub.cons rfl (ySub.nil)))))))) (by omega)
            · have c20 : (z19 : Int) > 0 := c20
              refine yG.load xak rfl (fun _ _ => rfl) (v := yR k0) rfl rfl ?_
              refine yG.getO A_hq.1 (w_Shorts_shape W H_k0) rfl rfl (fun r21 H_r21 O_r21 q_r21 => ?_)
              refine yG.load xik rfl (fun _ _ => rfl) (v := yI (a6)) rfl rfl ?_
              refine yG.load xak rfl (fun _ _ => rfl) (v := yR k0) rfl rfl ?_
              refine yG.getO A_hq.1 (w_Shorts_taken W H_k0) rfl rfl (fun r22 H_r22 O_r22 q_r22 => ?_)
              refine yG.invV (rest := []) A_hq.1 (bOb (d_Shape W) H_r21) rfl rfl rfl rfl (c_Shape_isMachineIn_2 W (d + 1) A_hq.1 H_r21 H_r22 (a6) (by omega) (by omega)) (fun rv hp9 q9 => ?_)
              obtain ⟨⟨z23, rfl, l_z23, u_z23, R_z23⟩, e9⟩ := q9
              rw [e9]
              show yG _ _ _ _ _ _ _ _ _ _ (yI z23 :: []) _
              refine yG.ifz rfl (t := 137) rfl ⟨by omega, by omega⟩ (fun c24 => ?_) (fun c24 => ?_)
              · have c24 : (z23 : Int) = 0 := c24
                refine yG.iinc rfl (a := a6) rfl (L' := [(6, yI (a6 + 1)), (7, yI (z19)), (0, yR k0), (1, yI (p1)), (2, yI (p2)), (3, yI (a3)), (4, yJ (a4))]) rfl ?_
                refine yG.goto rfl (t := 38) rfl ?_
                exact yG.mono (yG.sub (i_38 (a3) (a4) (a6 + 1) (ys hq n0 5) hq A_hq  rfl (by omega) (by omega) (by omega) (by omega) (by omega) (by omega) (by omega) (by omega) (by omega) (by omega) (by omega) (by omega) (by omega) (by omega) (by omega)) (ySub.cons rfl (ySub.cons rfl (ySub.cons rfl (ySub.cons rfl (ySub.cons rfl (ySub.cons rfl (ySub.nil)))))))) (by omega)
              · have c24 : (z23 : Int) ≠ 0 := c24
                refine yG.load xak rfl (fun _ _ => rfl) (v := yR k0) rfl rfl ?_
                refine yG.getO A_hq.1 (w_Shorts_solver W H_k0) rfl rfl (fun r25 H_r25 O_r25 q_r25 => ?_)
                refine yG.load xak rfl (fun _ _ => rfl) (v := yR k0) rfl rfl ?_
                refine yG.getS9 A_hq.1 (w_Shorts_shape W H_k0) q_r21 rfl rfl ?_
                refine yG.load xik rfl (fun _ _ => rfl) (v := yI (a6)) rfl rfl ?_
                refine yG.invV (rest := [yR r25]) A_hq.1 (bOb (d_Shape W) H_r21) rfl rfl rfl rfl (c_Shape_rowOfMachine W (d + 1) A_hq.1 H_r21 (a6) (by omega) (by omega)) (fun rv hp9 q9 => ?_)
                obtain ⟨⟨z26, rfl, l_z26, u_z26, R_z26⟩, e9⟩ := q9
                rw [e9]
                show yG _ _ _ _ _ _ _ _ _ _ (yI z26 :: [yR r25]) _
                refine yG.num (c := -1) rfl (fun _ _ => rfl) (by decide) ?_
                refine yG.load xak rfl (fun _ _ => rfl) (v := yR k0) rfl rfl ?_
                refine yG.getS9 A_hq.1 (w_Shorts_solver W H_k0) q_r25 rfl rfl ?_
                refine yG.load xik rfl (fun _ _ => rfl) (v := yI (z19)) rfl rfl ?_
                refine yG.i2l rfl ⟨by omega, by omega⟩ ?_
                refine yG.invV (rest := [yI ((-1)), yI (z26), yR r25]) A_hq.1 (bOb (d_Solver W) H_r25) rfl rfl rfl rfl (c_Solver_inverse W (d + 1) A_hq.1 H_r25 (z19) (by omega) (by omega)) (fun rv hp9 q9 => ?_)
                obtain ⟨⟨z27, rfl, l_z27, u_z27, R_z27⟩, e9⟩ := q9
                rw [e9]
                show yG _ _ _ _ _ _ _ _ _ _ (yJ z27 :: [yI ((-1)), yI (z26), yR r25]) _
                refine yG.invV (rest := []) A_hq.1 (bOb (d_Solver W) H_r25) rfl rfl rfl rfl (c_Solver_edge W (d + 1) A_hq.1 H_r25 (z26) ((-1)) (z27) (by omega) (by omega) (by omega) (by omega) (by omega) (by omega)) (fun rv h28 q9 => ?_)
                obtain ⟨⟨rfl, R_z29⟩, B_h28⟩ := q9
                have A_h28 := A_hq.tr B_h28 (by decide)
                have : ys h28 n0 5 = ys hq n0 5 := B_h28.ys H_n0 (by decide)
                have qq4 : zsl h28 k0 1 = yR n0 := (B_h28.sl H_k0 (by decide)).trans Q_n0
                have qq5 : zsl h28 k0 0 = yR r21 := (B_h28.sl H_k0 (by decide)).trans q_r21
                have qq6 : zsl h28 k0 2 = yR r25 := (B_h28.sl H_k0 (by decide)).trans q_r25
                show yG _ _ _ _ _ _ _ _ _ _ [] _
                refine yG.load xlk2 rfl (fun _ _ => rfl) (v := yJ (a4)) rfl rfl ?_
                refine yG.load xik rfl (fun _ _ => rfl) (v := yI (z19)) rfl rfl ?_
                refine yG.i2l rfl ⟨by omega, by omega⟩ ?_
                refine yG.lmul rfl ?_
                obtain ⟨z30, e_z30⟩ : ∃ z : Int, z = a4 * z19 := ⟨_, rfl⟩
                rw [← e_z30]
                have b_z30 : 0 ≤ z30 ∧ z30 ≤ 642097610154 := e_z30 ▸ ymulb (A := 2147483646) (B := 299) (by omega) (by omega) (by omega) (by omega) (by decide)
                have b2_z30 : z30 ≤ 2147483646 * z19 := e_z30 ▸ bmulx (by omega) (by omega)
                have b3_z30 : z30 ≤ 299 * a4 := e_z30 ▸ bmuly (by omega) (by omega)
                refine yG.load xak rfl (fun _ _ => rfl) (v := yR k0) rfl rfl ?_
                refine yG.getS9 A_h28.1 (w_Shorts_solver W H_k0) qq6 rfl rfl ?_
                refine yG.getJ A_h28.1 (w_Solver_prime W H_r25) rfl rfl (fun z31 e_z31 i_z31 l_z31 u_z31 => ?_)
                refine yG.lrem rfl ⟨by omega, by omega⟩ ⟨by omega, by omega⟩ (by omega) (by omega) ?_
                obtain ⟨z32, e_z32⟩ : ∃ z : Int, z = (z30) % (z31) := ⟨_, rfl⟩
                rw [← e_z32]
                have b_z32 : 0 ≤ z32 ∧ z32 < z31 := e_z32 ▸ ⟨Int.emod_nonneg _ (by omega), Int.emod_lt_of_pos _ (by omega)⟩
                refine yG.store2 xlk2 (L' := [(4, yJ (z32)), (7, yI (z19)), (0, yR k0), (1, yI (p1)), (2, yI (p2)), (3, yI (a3)), (6, yI (a6))]) rfl (fun _ _ => rfl) rfl rfl ?_
                refine yG.iinc rfl (a := a6) rfl (L' := [(6, yI (a6 + 1)), (4, yJ (z32)), (7, yI (z19)), (0, yR k0), (1, yI (p1)), (2, yI (p2)), (3, yI (a3))]) rfl ?_
                refine yG.goto rfl (t := 38) rfl ?_
                exact yG.mono (yG.sub (i_38 (a3) (z32) (a6 + 1) (ys h28 n0 5) h28 A_h28  rfl (by omega) (by omega) (by omega) (by omega) (by omega) (by omega) (by omega) (by omega) (by omega) (by omega) (by omega) (by omega) (by omega) (by omega) (by omega)) (ySub.cons rfl (ySub.cons rfl (ySub.cons rfl (ySub.cons rfl (ySub.cons rfl (ySub.cons rfl (ySub.nil)))))))) (by omega)
      · intro a3 a4 a6 gg0 hq A_hq E_0 f0 f1 f2 f3 f4 f5 f6 f7 f8 f9 f10 f11 f12 f13 hm
        refine yG.mono (N := 52 * m + 52) ?_ (by omega)
        obtain ⟨-, -, g_0l, g_0u⟩ := (w_Net_shortLine W H_n0).int A_hq.1
        replace Q_n0 : zsl hq k0 1 = yR n0 := (A_hq.sl H_k0 (by decide)).trans Q_n0
        refine yG.load xik rfl (fun _ _ => rfl) (v := yI (a6)) rfl rfl ?_
        refine yG.num (c := 2) rfl (fun _ _ => rfl) (by decide) ?_
        refine yG.icmp rfl (t := 244) rfl ⟨by omega, by omega⟩ ⟨by omega, by omega⟩ (fun c1 => ?_) (fun c1 => ?_)
        · have c1 : (a6 : Int) ≥ 2 := c1
          exfalso; omega
        · have c1 : (a6 : Int) < 2 := c1
          refine yG.load xak rfl (fun _ _ => rfl) (v := yR k0) rfl rfl ?_
          refine yG.invV (rest := []) A_hq.1 (bOb (d_Shorts W) H_k0) rfl rfl rfl rfl (c_Shorts_isOnLine W (d + 1) A_hq.1 H_k0 H_n0 Q_n0) (fun rv hp9 q9 => ?_)
          obtain ⟨⟨z2, rfl, l_z2, u_z2, R_z2⟩, e9⟩ := q9
          rw [e9]
          show yG _ _ _ _ _ _ _ _ _ _ (yI z2 :: []) _
          refine yG.ifz rfl (t := 244) rfl ⟨by omega, by omega⟩ (fun c3 => ?_) (fun c3 => ?_)
          · have c3 : (z2 : Int) = 0 := c3
            refine yG.load xlk2 rfl (fun _ _ => rfl) (v := yJ (a4)) rfl rfl ?_
            refine yG.ret rfl (fun _ _ => rfl) ?_
            exact (yP.long ⟨by omega, by omega⟩ ⟨⟨a4, rfl, by omega, by omega, trivial⟩, A_hq⟩)
          · have c3 : (z2 : Int) ≠ 0 := c3
            exfalso; omega
  refine yC.of (M := (xt_X9_lay, (9, (2, (10, []))))) rfl rfl (N := 1924) (yfuel (by decide)) ?_
  show yG 89 xfts (xcall 89 xfts xpools xms (d + 2)) (xpool xp_RX9) [] xt_X9_lay (yP 2 (bQj G [(4398046511104, 256)] hp 0 2147483646 (fun _ => True))) 1924 0 [(0, yR k0), (1, yI (p1)), (2, yI (p2))] [] hp
  obtain ⟨i_38, i_146⟩ := H 36
  obtain ⟨gg0, E_0⟩ : ∃ z : Int, ys hp n0 5 = z := ⟨_, rfl⟩
  obtain ⟨-, -, g_0l, g_0u⟩ := (w_Net_shortLine W H_n0).int hT
  refine yG.load xik rfl (fun _ _ => rfl) (v := yI (p1)) rfl rfl ?_
  refine yG.ifz rfl (t := 8) rfl ⟨by omega, by omega⟩ (fun c1 => ?_) (fun c1 => ?_)
  · have c1 : (p1 : Int) = 0 := c1
    refine yG.num (c := 1) rfl (fun _ _ => rfl) (by decide) ?_
    refine yG.store1 xik (L' := [(3, yI (1)), (0, yR k0), (1, yI (p1)), (2, yI (p2))]) rfl (fun _ _ => rfl) rfl rfl ?_
    refine yG.load xak rfl (fun _ _ => rfl) (v := yR k0) rfl rfl ?_
    refine yG.getO A_hp.1 (w_Shorts_shape W H_k0) rfl rfl (fun r2 H_r2 O_r2 q_r2 => ?_)
    refine yG.load xak rfl (fun _ _ => rfl) (v := yR k0) rfl rfl ?_
    refine yG.getO A_hp.1 (w_Shorts_solver W H_k0) rfl rfl (fun r3 H_r3 O_r3 q_r3 => ?_)
    refine yG.load xak rfl (fun _ _ => rfl) (v := yR k0) rfl rfl ?_
    refine yG.getO A_hp.1 (w_Shorts_taken W H_k0) rfl rfl (fun r4 H_r4 O_r4 q_r4 => ?_)
    refine yG.load xik rfl (fun _ _ => rfl) (v := yI (1)) rfl rfl ?_
    refine yG.load xak rfl (fun _ _ => rfl) (v := yR k0) rfl rfl ?_
    refine yG.getS9 A_hp.1 (w_Shorts_net W H_k0) Q_n0 rfl rfl ?_
    refine yG.getI A_hp.1 (w_Net_shortLine W H_n0) rfl rfl (fun z5 e_z5 i_z5 l_z5 u_z5 => ?_)
    refine yG.invV (rest := []) A_hp.1 (bOb (d_Shape W) H_r2) rfl rfl rfl rfl (c_Shape_lay_2 W d A_hp.1 H_r2 H_r3 H_r4 (1) (z5) (by omega) (by omega) (by omega) (by omega)) (fun rv h6 q9 => ?_)
    obtain ⟨⟨z7, rfl, l_z7, u_z7, R_z7⟩, B_h6⟩ := q9
    have A_h6 := A_hp.tr B_h6 (by decide)
    have : ys h6 n0 5 = ys hp n0 5 := B_h6.ys H_n0 (by decide)
    have qq1 : zsl h6 k0 1 = yR n0 := (B_h6.sl H_k0 (by decide)).trans Q_n0
    show yG _ _ _ _ _ _ _ _ _ _ (yJ z7 :: []) _
    refine yG.store2 xlk2 (L' := [(4, yJ (z7)), (3, yI (1)), (0, yR k0), (1, yI (p1)), (2, yI (p2))]) rfl (fun _ _ => rfl) rfl rfl ?_
    refine yG.num (c := 0) rfl (fun _ _ => rfl) (by decide) ?_
    refine yG.store1 xik (L' := [(6, yI (0)), (4, yJ (z7)), (3, yI (1)), (0, yR k0), (1, yI (p1)), (2, yI (p2))]) rfl (fun _ _ => rfl) rfl rfl ?_
    exact yG.mono (yG.sub (i_38 (1) (z7) (0) (ys h6 n0 5) h6 A_h6  rfl (by omega) (by omega) (by omega) (by omega) (by omega) (by omega) (by omega) (by omega) (by omega) (by omega) (by omega) (by omega) (by omega) (by omega) (by omega)) (ySub.cons rfl (ySub.cons rfl (ySub.cons rfl (ySub.cons rfl (ySub.cons rfl (ySub.cons rfl (ySub.nil)))))))) (by omega)
  · have c1 : (p1 : Int) ≠ 0 := c1
    refine yG.num (c := 2) rfl (fun _ _ => rfl) (by decide) ?_
    refine yG.goto rfl (t := 9) rfl ?_
    refine yG.store1 xik (L' := [(3, yI (2)), (0, yR k0), (1, yI (p1)), (2, yI (p2))]) rfl (fun _ _ => rfl) rfl rfl ?_
    refine yG.load xak rfl (fun _ _ => rfl) (v := yR k0) rfl rfl ?_
    refine yG.getO A_hp.1 (w_Shorts_shape W H_k0) rfl rfl (fun r8 H_r8 O_r8 q_r8 => ?_)
    refine yG.load xak rfl (fun _ _ => rfl) (v := yR k0) rfl rfl ?_
    refine yG.getO A_hp.1 (w_Shorts_solver W H_k0) rfl rfl (fun r9 H_r9 O_r9 q_r9 => ?_)
    refine yG.load xak rfl (fun _ _ => rfl) (v := yR k0) rfl rfl ?_
    refine yG.getO A_hp.1 (w_Shorts_taken W H_k0) rfl rfl (fun r10 H_r10 O_r10 q_r10 => ?_)
    refine yG.load xik rfl (fun _ _ => rfl) (v := yI (2)) rfl rfl ?_
    refine yG.load xak rfl (fun _ _ => rfl) (v := yR k0) rfl rfl ?_
    refine yG.getS9 A_hp.1 (w_Shorts_net W H_k0) Q_n0 rfl rfl ?_
    refine yG.getI A_hp.1 (w_Net_shortLine W H_n0) rfl rfl (fun z11 e_z11 i_z11 l_z11 u_z11 => ?_)
    refine yG.invV (rest := []) A_hp.1 (bOb (d_Shape W) H_r8) rfl rfl rfl rfl (c_Shape_lay_2 W d A_hp.1 H_r8 H_r9 H_r10 (2) (z11) (by omega) (by omega) (by omega) (by omega)) (fun rv h12 q9 => ?_)
    obtain ⟨⟨z13, rfl, l_z13, u_z13, R_z13⟩, B_h12⟩ := q9
    have A_h12 := A_hp.tr B_h12 (by decide)
    have : ys h12 n0 5 = ys hp n0 5 := B_h12.ys H_n0 (by decide)
    have qq2 : zsl h12 k0 1 = yR n0 := (B_h12.sl H_k0 (by decide)).trans Q_n0
    show yG _ _ _ _ _ _ _ _ _ _ (yJ z13 :: []) _
    refine yG.store2 xlk2 (L' := [(4, yJ (z13)), (3, yI (2)), (0, yR k0), (1, yI (p1)), (2, yI (p2))]) rfl (fun _ _ => rfl) rfl rfl ?_
    refine yG.num (c := 0) rfl (fun _ _ => rfl) (by decide) ?_
    refine yG.store1 xik (L' := [(6, yI (0)), (4, yJ (z13)), (3, yI (2)), (0, yR k0), (1, yI (p1)), (2, yI (p2))]) rfl (fun _ _ => rfl) rfl rfl ?_
    exact yG.mono (yG.sub (i_38 (2) (z13) (0) (ys h12 n0 5) h12 A_h12  rfl (by omega) (by omega) (by omega) (by omega) (by omega) (by omega) (by omega) (by omega) (by omega) (by omega) (by omega) (by omega) (by omega) (by omega) (by omega)) (ySub.cons rfl (ySub.cons rfl (ySub.cons rfl (ySub.cons rfl (ySub.cons rfl (ySub.cons rfl (ySub.nil)))))))) (by omega)
theorem c_Shorts_sequence_on {hp : xH} (W : bW G) (d : Nat) (hT : zTy G hp) {k0 : Nat} (H_k0 : bRo G 75 k0) {n0 : Nat} (H_n0 : bRo G 18 n0) (Q_n0 : zsl hp k0 1 = yR n0) (p1 : Int) (h1l : 0 ≤ p1) (h1u : p1 ≤ 1) (q0l : 0 ≤ ys hp n0 5) (q0u : ys hp n0 5 ≤ 19) : yC (xcall 89 xfts xpools xms (d + 5)) 240 [yR k0, yI (p1)] hp (fun rv hp' => (rv = none ∧ True) ∧ bAx G [(34359738368, 1), (1133871366144, 2), (1099511627776, 3), (1099511627776, 6), (1099511627776, 7), (1099511627776, 8), (18029860391747584, 256)] hp hp') := by
  have A_hp : bAx G [(34359738368, 1), (1133871366144, 2), (1099511627776, 3), (1099511627776, 6), (1099511627776, 7), (1099511627776, 8), (18029860391747584, 256)] hp hp := bAx.rf hT
  have H : ∀ m : Nat, (∀ a2 : Nat, ∀ a3 : Nat, ∀ a4 : Int, ∀ a5 : Int, ∀ a6 : Int, ∀ a7 : Int, ∀ gg0 : Int, ∀ hq, bAx G [(34359738368, 1), (1133871366144, 2), (1099511627776, 3), (1099511627776, 6), (1099511627776, 7), (1099511627776, 8), (18029860391747584, 256)] hp hq → bRo G 77 a2 → bRo G 35 a3 → ys hq n0 5 = gg0 → 0 ≤ a4 → (-16) ≤ 0 - a4 → 1 ≤ a5 → (-17) ≤ 0 - a5 → 0 ≤ a6 → (-16) ≤ 0 - a6 → 0 ≤ a7 → (-1000000) ≤ 0 - a7 → 0 ≤ gg0 → (-19) ≤ 0 - gg0 → 0 ≤ p1 → (-1) ≤ 0 - p1 → 0 ≤ a4 - a6 → 1 ≤ a5 - a6 → 0 ≤ 0 - a4 + a6 → (-1) ≤ 0 - a5 + a6 → 0 - 3 * a7 + 3000002 < (m : Int) → yG 89 xfts (xcall 89 xfts xpools xms (d + 4)) (xpool xp_RX9) [] xt_X9_sequence (yP 0 (fun rv hp' => (rv = none ∧ True) ∧ bAx G [(34359738368, 1), (1133871366144, 2), (1099511627776, 3), (1099511627776, 6), (1099511627776, 7), (1099511627776, 8), (18029860391747584, 256)] hp hp')) (76 * m) 106 [(0, yR k0), (1, yI (p1)), (2, yR a2), (3, yR a3), (4, yI (a4)), (5, yI (a5)), (6, yI (a6)), (7, yI (a7))] [] hq) ∧ (∀ a2 : Nat, ∀ gg0 : Int, ∀ hq, bAx G [(34359738368, 1), (1133871366144, 2), (1099511627776, 3), (1099511627776, 6), (1099511627776, 7), (1099511627776, 8), (18029860391747584, 256)] hp hq → bRo G 77 a2 → ys hq n0 5 = gg0 → 0 ≤ gg0 → (-19) ≤ 0 - gg0 → 0 ≤ p1 → (-1) ≤ 0 - p1 → 1 < (m : Int) → yG 89 xfts (xcall 89 xfts xpools xms (d + 4)) (xpool xp_RX9) [] xt_X9_sequence (yP 0 (fun rv hp' => (rv = none ∧ True) ∧ bAx G [(34359738368, 1), (1133871366144, 2), (1099511627776, 3), (1099511627776, 6), (1099511627776, 7), (1099511627776, 8), (18029860391747584, 256)] hp hp')) (76 * m) 256 [(0, yR k0), (2, yR a2)] [] hq) := by
    intro m
    induction m with
    | zero =>
      refine ⟨?_, ?_⟩ <;> (intros; exfalso; omega)
    | succ m ih =>
      obtain ⟨i_106, i_256⟩ := ih
      refine ⟨?_, ?_⟩
      · intro a2 a3 a4 a5 a6 a7 gg0 hq A_hq H_a2 H_a3 E_0 f0 f1 f2 f3 f4 f5 f6 f7 f8 f9 f10 f11 f12 f13 f14 f15 hm
        refine yG.mono (N := 76 * m + 76) ?_ (by omega)
        obtain ⟨n_a3, N_a3⟩ : ∃ n : Int, n = ((zat G a3 : Nat) : Int) := ⟨_, rfl⟩
        have L_a3 := n_Big W H_a3
        obtain ⟨-, -, g_0l, g_0u⟩ := (w_Net_shortLine W H_n0).int A_hq.1
        replace Q_n0 : zsl hq k0 1 = yR n0 := (A_hq.sl H_k0 (by decide)).trans Q_n0
        refine yG.load xik rfl (fun _ _ => rfl) (v := yI (a7)) rfl rfl ?_
        refine yG.num (c := 1000000) rfl (fun _ _ => rfl) (by decide) ?_
        refine yG.icmp rfl (t := 256) rfl ⟨by omega, by omega⟩ ⟨by omega, by omega⟩ (fun c1 => ?_) (fun c1 => ?_)
        · have c1 : (a7 : Int) ≥ 1000000 := c1
          exact yG.mono (yG.sub (i_256 a2 (ys hq n0 5) hq A_hq H_a2 rfl (by omega) (by omega) (by omega) (by omega) (by omega)) (ySub.cons rfl (ySub.cons rfl (ySub.nil)))) (by omega)
        · have c1 : (a7 : Int) < 1000000 := c1
          refine yG.load xak rfl (fun _ _ => rfl) (v := yR k0) rfl rfl ?_
          refine yG.getO A_hq.1 (w_Shorts_solver W H_k0) rfl rfl (fun r2 H_r2 O_r2 q_r2 => ?_)
          refine yG.invV (rest := []) A_hq.1 (bOb (d_Solver W) H_r2) rfl rfl rfl rfl (c_Solver_more W (d + 2) A_hq.1 H_r2) (fun rv h3 q9 => ?_)
          obtain ⟨⟨z4, rfl, l_z4, u_z4, R_z4⟩, B_h3⟩ := q9
          have A_h3 := A_hq.tr B_h3 (by decide)
          have : ys h3 n0 5 = ys hq n0 5 := B_h3.ys H_n0 (by decide)
          have qq1 : zsl h3 k0 1 = yR n0 := (B_h3.sl H_k0 (by decide)).trans Q_n0
          have qq2 : zsl h3 k0 2 = yR r2 := (B_h3.sl H_k0 (by decide)).trans q_r2
          show yG _ _ _ _ _ _ _ _ _ _ (yI z4 :: []) _
          refine yG.ifz rfl (t := 256) rfl ⟨by omega, by omega⟩ (fun c5 => ?_) (fun c5 => ?_)
          · have c5 : (z4 : Int) = 0 := c5
            exact yG.mono (yG.sub (i_256 a2 (ys h3 n0 5) h3 A_h3 H_a2 rfl (by omega) (by omega) (by omega) (by omega) (by omega)) (ySub.cons rfl (ySub.cons rfl (ySub.nil)))) (by omega)
          · have c5 : (z4 : Int) ≠ 0 := c5
            refine yG.load xak rfl (fun _ _ => rfl) (v := yR k0) rfl rfl ?_
            refine yG.getS9 A_h3.1 (w_Shorts_solver W H_k0) qq2 rfl rfl ?_
            refine yG.load xik rfl (fun _ _ => rfl) (v := yI (a5)) rfl rfl ?_
            refine yG.load xik rfl (fun _ _ => rfl) (v := yI (a5)) rfl rfl ?_
            refine yG.num (c := 1) rfl (fun _ _ => rfl) (by decide) ?_
            refine yG.iadd rfl ?_
            refine yG.invV (rest := []) A_h3.1 (bOb (d_Solver W) H_r2) rfl rfl rfl rfl (c_Solver_blank W (d + 3) A_h3.1 H_r2 (a5) (a5 + 1) (by omega) (by omega) (by omega) (by omega)) (fun rv h6 q9 => ?_)
            obtain ⟨⟨rfl, R_z7⟩, B_h6⟩ := q9
            have A_h6 := A_h3.tr B_h6 (by decide)
            have : ys h6 n0 5 = ys h3 n0 5 := B_h6.ys H_n0 (by decide)
            have qq3 : zsl h6 k0 1 = yR n0 := (B_h6.sl H_k0 (by decide)).trans qq1
            have qq4 : zsl h6 k0 2 = yR r2 := (B_h6.sl H_k0 (by decide)).trans qq2
            show yG _ _ _ _ _ _ _ _ _ _ [] _
            refine yG.load xak rfl (fun _ _ => rfl) (v := yR k0) rfl rfl ?_
            refine yG.load xik rfl (fun _ _ => rfl) (v := yI (p1)) rfl rfl ?_
            refine yG.load xik rfl (fun _ _ => rfl) (v := yI (a4)) rfl rfl ?_
            refine yG.invV (rest := []) A_h6.1 (bOb (d_Shorts W) H_k0) rfl rfl rfl rfl (c_Shorts_lay_on W (d + 1) A_h6.1 H_k0 H_n0 qq3 (p1) (a4) (by omega) (by omega) (by omega) (by omega) (by omega) (by omega)) (fun rv h8 q9 => ?_)
            obtain ⟨⟨z9, rfl, l_z9, u_z9, R_z9⟩, B_h8⟩ := q9
            have A_h8 := A_h6.tr B_h8 (by decide)
            have : ys h8 n0 5 = ys h6 n0 5 := B_h8.ys H_n0 (by decide)
            have qq5 : zsl h8 k0 1 = yR n0 := (B_h8.sl H_k0 (by decide)).trans qq3
            have qq6 : zsl h8 k0 2 = yR r2 := (B_h8.sl H_k0 (by decide)).trans qq4
            show yG _ _ _ _ _ _ _ _ _ _ (yJ z9 :: []) _
            refine yG.store2 xlk2 (L' := [(8, yJ (z9)), (0, yR k0), (1, yI (p1)), (2, yR a2), (3, yR a3), (4, yI (a4)), (5, yI (a5)), (6, yI (a6)), (7, yI (a7))]) rfl (fun _ _ => rfl) rfl rfl ?_
            refine yG.load xak rfl (fun _ _ => rfl) (v := yR k0) rfl rfl ?_
            refine yG.getS9 A_h8.1 (w_Shorts_solver W H_k0) qq6 rfl rfl ?_
            refine yG.load xik rfl (fun _ _ => rfl) (v := yI (a6)) rfl rfl ?_
            refine yG.load xik rfl (fun _ _ => rfl) (v := yI (a5)) rfl rfl ?_
            refine yG.numl (c := 1) rfl (fun _ _ => rfl) (by decide) ?_
            refine yG.invV (rest := []) A_h8.1 (bOb (d_Solver W) H_r2) rfl rfl rfl rfl (c_Solver_plus W (d + 2) A_h8.1 H_r2 (a6) (a5) (1) (by omega) (by omega) (by omega) (by omega) (by omega) (by omega)) (fun rv h10 q9 => ?_)
            obtain ⟨⟨rfl, R_z11⟩, B_h10⟩ := q9
            have A_h10 := A_h8.tr B_h10 (by decide)
            have : ys h10 n0 5 = ys h8 n0 5 := B_h10.ys H_n0 (by decide)
            have qq7 : zsl h10 k0 1 = yR n0 := (B_h10.sl H_k0 (by decide)).trans qq5
            have qq8 : zsl h10 k0 2 = yR r2 := (B_h10.sl H_k0 (by decide)).trans qq6
            show yG _ _ _ _ _ _ _ _ _ _ [] _
            refine yG.load xak rfl (fun _ _ => rfl) (v := yR k0) rfl rfl ?_
            refine yG.getS9 A_h10.1 (w_Shorts_solver W H_k0) qq8 rfl rfl ?_
            refine yG.load xik rfl (fun _ _ => rfl) (v := yI (a5)) rfl rfl ?_
            refine yG.load xik rfl (fun _ _ => rfl) (v := yI (a5)) rfl rfl ?_
            refine yG.load xik rfl (fun _ _ => rfl) (v := yI (a5)) rfl rfl ?_
            refine yG.num (c := 1) rfl (fun _ _ => rfl) (by decide) ?_
            refine yG.iadd rfl ?_
            refine yG.invV (rest := []) A_h10.1 (bOb (d_Solver W) H_r2) rfl rfl rfl rfl (c_Solver_reduce W (d + 1) A_h10.1 H_r2 (a5) (a5) (a5 + 1) (by omega) (by omega) (by omega) (by omega) (by omega) (by omega)) (fun rv h12 q9 => ?_)
            obtain ⟨⟨z13, rfl, l_z13, u_z13, R_z13⟩, B_h12⟩ := q9
            have A_h12 := A_h10.tr B_h12 (by decide)
            have : ys h12 n0 5 = ys h10 n0 5 := B_h12.ys H_n0 (by decide)
            have qq9 : zsl h12 k0 1 = yR n0 := (B_h12.sl H_k0 (by decide)).trans qq7
            have qq10 : zsl h12 k0 2 = yR r2 := (B_h12.sl H_k0 (by decide)).trans qq8
            show yG _ _ _ _ _ _ _ _ _ _ (yI z13 :: []) _
            refine yG.load xik rfl (fun _ _ => rfl) (v := yI (a5)) rfl rfl ?_
            refine yG.icmp rfl (t := 250) rfl ⟨by omega, by omega⟩ ⟨by omega, by omega⟩ (fun c14 => ?_) (fun c14 => ?_)
            · have c14 : (z13 : Int) ≠ a5 := c14
              refine yG.iinc rfl (a := a7) rfl (L' := [(7, yI (a7 + 1)), (8, yJ (z9)), (0, yR k0), (1, yI (p1)), (2, yR a2), (3, yR a3), (4, yI (a4)), (5, yI (a5)), (6, yI (a6))]) rfl ?_
              refine yG.goto rfl (t := 106) rfl ?_
              exact yG.mono (yG.sub (i_106 a2 a3 (a4) (a5) (a6) (a7 + 1) (ys h12 n0 5) h12 A_h12 H_a2 H_a3 rfl (by omega) (by omega) (by omega) (by omega) (by omega) (by omega) (by omega) (by omega) (by omega) (by omega) (by omega) (by omega) (by omega) (by omega) (by omega) (by omega) (by omega)) (ySub.cons rfl (ySub.cons rfl (ySub.cons rfl (ySub.cons rfl (ySub.cons rfl (ySub.cons rfl (ySub.cons rfl (ySub.cons rfl (ySub.nil)))))))))) (by omega)
            · have c14 : (z13 : Int) = a5 := c14
              refine yG.load xak rfl (fun _ _ => rfl) (v := yR k0) rfl rfl ?_
              refine yG.getS9 A_h12.1 (w_Shorts_solver W H_k0) qq10 rfl rfl ?_
              refine yG.load xak rfl (fun _ _ => rfl) (v := yR k0) rfl rfl ?_
              refine yG.getO A_h12.1 (w_Shorts_shape W H_k0) rfl rfl (fun r15 H_r15 O_r15 q_r15 => ?_)
              refine yG.load xak rfl (fun _ _ => rfl) (v := yR a2) rfl rfl ?_
              refine yG.load xak rfl (fun _ _ => rfl) (v := yR a3) rfl rfl ?_
              refine yG.load xik rfl (fun _ _ => rfl) (v := yI (a5)) rfl rfl ?_
              refine yG.load xlk2 rfl (fun _ _ => rfl) (v := yJ (z9)) rfl rfl ?_
              refine yG.invV (rest := []) A_h12.1 (bOb (d_Solver W) H_r2) rfl rfl rfl rfl (c_Solver_take_17 W d A_h12.1 H_r2 H_r15 H_a2 H_a3 (a5) (z9) (by omega) (by omega) (by omega) (by omega)) (fun rv h16 q9 => ?_)
              obtain ⟨⟨rfl, R_z17⟩, B_h16⟩ := q9
              have A_h16 := A_h12.tr B_h16 (by decide)
              have : ys h16 n0 5 = ys h12 n0 5 := B_h16.ys H_n0 (by decide)
              have qq11 : zsl h16 k0 1 = yR n0 := (B_h16.sl H_k0 (by decide)).trans qq9
              have qq12 : zsl h16 k0 2 = yR r2 := (B_h16.sl H_k0 (by decide)).trans qq10
              show yG _ _ _ _ _ _ _ _ _ _ [] _
              refine yG.load xak rfl (fun _ _ => rfl) (v := yR k0) rfl rfl ?_
              refine yG.invV (rest := []) A_h16.1 (bOb (d_Shorts W) H_k0) rfl rfl rfl rfl (c_Shorts_isOnLine W (d + 3) A_h16.1 H_k0 H_n0 qq11) (fun rv hp9 q9 => ?_)
              obtain ⟨⟨z18, rfl, l_z18, u_z18, R_z18⟩, e9⟩ := q9
              rw [e9]
              show yG _ _ _ _ _ _ _ _ _ _ (yI z18 :: []) _
              refine yG.ifz rfl (t := 243) rfl ⟨by omega, by omega⟩ (fun c19 => ?_) (fun c19 => ?_)
              · have c19 : (z18 : Int) = 0 := c19
                exfalso; omega
              · have c19 : (z18 : Int) ≠ 0 := c19
                refine yG.load xak rfl (fun _ _ => rfl) (v := yR k0) rfl rfl ?_
                refine yG.getS9 A_h16.1 (w_Shorts_solver W H_k0) qq12 rfl rfl ?_
                refine yG.load xak rfl (fun _ _ => rfl) (v := yR a2) rfl rfl ?_
                refine yG.num (c := 16) rfl (fun _ _ => rfl) (by decide) ?_
                refine yG.aaldO (r := 35) A_h16.1 (v_Big17 W H_a2) rfl rfl rfl (by omega) (by omega) (fun r20 H_r20 q_r20 => ?_)
                obtain ⟨n_r20, N_r20⟩ : ∃ n : Int, n = ((zat G r20 : Nat) : Int) := ⟨_, rfl⟩
                have L_r20 := n_Big W H_r20
                refine yG.load xak rfl (fun _ _ => rfl) (v := yR k0) rfl rfl ?_
                refine yG.getS9 A_h16.1 (w_Shorts_solver W H_k0) qq12 rfl rfl ?_
                refine yG.getO A_h16.1 (w_Solver_cell W H_r2) rfl rfl (fun r21 H_r21 O_r21 q_r21 => ?_)
                refine yG.load xik rfl (fun _ _ => rfl) (v := yI (a6)) rfl rfl ?_
                refine yG.aaldO (r := 42) A_h16.1 (v_Solver_cell W H_r21) rfl rfl rfl (by omega) (by omega) (fun r22 H_r22 q_r22 => ?_)
                refine yG.load xik rfl (fun _ _ => rfl) (v := yI (a5)) rfl rfl ?_
                refine yG.lald A_h16.1 (v_Solver_cells W H_r22) rfl (by omega) (by omega) (fun z23 e_z23 i_z23 l_z23 u_z23 => ?_)
                refine yG.load xak rfl (fun _ _ => rfl) (v := yR k0) rfl rfl ?_
                refine yG.getS9 A_h16.1 (w_Shorts_solver W H_k0) qq12 rfl rfl ?_
                refine yG.load xlk2 rfl (fun _ _ => rfl) (v := yJ (z9)) rfl rfl ?_
                refine yG.invV (rest := [yJ (z23), yR r20, yR r2]) A_h16.1 (bOb (d_Solver W) H_r2) rfl rfl rfl rfl (c_Solver_times W (d + 3) A_h16.1 H_r2 (z9) (by omega) (by omega)) (fun rv hp9 q9 => ?_)
                obtain ⟨⟨z24, rfl, l_z24, u_z24, R_z24⟩, e9⟩ := q9
                rw [e9]
                show yG _ _ _ _ _ _ _ _ _ _ (yJ z24 :: [yJ (z23), yR r20, yR r2]) _
                refine yG.lmul rfl ?_
                obtain ⟨z25, e_z25⟩ : ∃ z : Int, z = z23 * z24 := ⟨_, rfl⟩
                rw [← e_z25]
                have b_z25 : -19807040610119340324676435968 ≤ z25 ∧ z25 ≤ 19807040610119340324676435968 := e_z25 ▸ ymuls (A := 9223372036854775808) (B := 2147483646) (by omega) (by omega) (by omega) (by omega) (by decide)
                refine yG.load xak rfl (fun _ _ => rfl) (v := yR k0) rfl rfl ?_
                refine yG.getS9 A_h16.1 (w_Shorts_solver W H_k0) qq12 rfl rfl ?_
                refine yG.getJ A_h16.1 (w_Solver_prime W H_r2) rfl rfl (fun z26 e_z26 i_z26 l_z26 u_z26 => ?_)
                obtain ⟨z27, e_z27, l_z27, u_z27⟩ := ywJ (z25)
                rw [e_z27]
                refine yG.lremS rfl ⟨by omega, by omega⟩ ⟨by omega, by omega⟩ (by omega) (fun z28 l_z28 u_z28 => ?_)
                refine yG.invV (rest := []) A_h16.1 (bOb (d_Solver W) H_r2) rfl rfl rfl rfl (c_Solver_fold W (d + 1) A_h16.1 H_r2 H_r20 (z28) (by omega) (by omega)) (fun rv h29 q9 => ?_)
                obtain ⟨⟨rfl, R_z30⟩, B_h29⟩ := q9
                have A_h29 := A_h16.tr B_h29 (by decide)
                have : ys h29 n0 5 = ys h16 n0 5 := B_h29.ys H_n0 (by decide)
                have qq13 : zsl h29 k0 1 = yR n0 := (B_h29.sl H_k0 (by decide)).trans qq11
                have qq14 : zsl h29 k0 2 = yR r2 := (B_h29.sl H_k0 (by decide)).trans qq12
                show yG _ _ _ _ _ _ _ _ _ _ [] _
                refine yG.load xak rfl (fun _ _ => rfl) (v := yR k0) rfl rfl ?_
                refine yG.getS9 A_h29.1 (w_Shorts_solver W H_k0) qq14 rfl rfl ?_
                refine yG.invV (rest := []) A_h29.1 (bOb (d_Solver W) H_r2) rfl rfl rfl rfl (c_Solver_close W (d + 1) A_h29.1 H_r2) (fun rv h31 q9 => ?_)
                obtain ⟨⟨rfl, R_z32⟩, B_h31⟩ := q9
                have A_h31 := A_h29.tr B_h31 (by decide)
                have : ys h31 n0 5 = ys h29 n0 5 := B_h31.ys H_n0 (by decide)
                have qq15 : zsl h31 k0 1 = yR n0 := (B_h31.sl H_k0 (by decide)).trans qq13
                have qq16 : zsl h31 k0 2 = yR r2 := (B_h31.sl H_k0 (by decide)).trans qq14
                show yG _ _ _ _ _ _ _ _ _ _ [] _
                refine yG.iinc rfl (a := a7) rfl (L' := [(7, yI (a7 + 1)), (8, yJ (z9)), (0, yR k0), (1, yI (p1)), (2, yR a2), (3, yR a3), (4, yI (a4)), (5, yI (a5)), (6, yI (a6))]) rfl ?_
                refine yG.goto rfl (t := 106) rfl ?_
                exact yG.mono (yG.sub (i_106 a2 a3 (a4) (a5) (a6) (a7 + 1) (ys h31 n0 5) h31 A_h31 H_a2 H_a3 rfl (by omega) (by omega) (by omega) (by omega) (by omega) (by omega) (by omega) (by omega) (by omega) (by omega) (by omega) (by omega) (by omega) (by omega) (by omega) (by omega) (by omega)) (ySub.cons rfl (ySub.cons rfl (ySub.cons rfl (ySub.cons rfl (ySub.cons rfl (ySub.cons rfl (ySub.cons rfl (ySub.cons rfl (ySub.nil)))))))))) (by omega)
      · intro a2 gg0 hq A_hq H_a2 E_0 f0 f1 f2 f3 hm
        refine yG.mono (N := 76 * m + 76) ?_ (by omega)
        obtain ⟨-, -, g_0l, g_0u⟩ := (w_Net_shortLine W H_n0).int A_hq.1
        replace Q_n0 : zsl hq k0 1 = yR n0 := (A_hq.sl H_k0 (by decide)).trans Q_n0
        refine yG.load xak rfl (fun _ _ => rfl) (v := yR k0) rfl rfl ?_
        refine yG.getO A_hq.1 (w_Shorts_solver W H_k0) rfl rfl (fun r1 H_r1 O_r1 q_r1 => ?_)
        refine yG.load xak rfl (fun _ _ => rfl) (v := yR a2) rfl rfl ?_
        refine yG.num (c := 17) rfl (fun _ _ => rfl) (by decide) ?_
        refine yG.invV (rest := []) A_hq.1 (bOb (d_Solver W) H_r1) rfl rfl rfl rfl (c_Solver_settle_17 W d A_hq.1 H_r1 H_a2 (17) (by omega) (by omega)) (fun rv h2 q9 => ?_)
        obtain ⟨⟨rfl, R_z3⟩, B_h2⟩ := q9
        have A_h2 := A_hq.tr B_h2 (by decide)
        have : ys h2 n0 5 = ys hq n0 5 := B_h2.ys H_n0 (by decide)
        have qq1 : zsl h2 k0 1 = yR n0 := (B_h2.sl H_k0 (by decide)).trans Q_n0
        show yG _ _ _ _ _ _ _ _ _ _ [] _
        refine yG.load xak rfl (fun _ _ => rfl) (v := yR k0) rfl rfl ?_
        refine yG.invV (rest := []) A_h2.1 (bOb (d_Shorts W) H_k0) rfl rfl rfl rfl (c_Shorts_isOnLine W (d + 3) A_h2.1 H_k0 H_n0 qq1) (fun rv hp9 q9 => ?_)
        obtain ⟨⟨z4, rfl, l_z4, u_z4, R_z4⟩, e9⟩ := q9
        rw [e9]
        show yG _ _ _ _ _ _ _ _ _ _ (yI z4 :: []) _
        refine yG.ifz rfl (t := 286) rfl ⟨by omega, by omega⟩ (fun c5 => ?_) (fun c5 => ?_)
        · have c5 : (z4 : Int) ≠ 0 := c5
          refine yG.ret rfl (fun _ _ => rfl) ?_
          exact (yP.void ⟨⟨rfl, trivial⟩, A_h2⟩)
        · have c5 : (z4 : Int) = 0 := c5
          exfalso; omega
  refine yC.of (M := (xt_X9_sequence, (10, (0, (10, []))))) rfl rfl (N := 228000380) (yfuel (by decide)) ?_
  show yG 89 xfts (xcall 89 xfts xpools xms (d + 4)) (xpool xp_RX9) [] xt_X9_sequence (yP 0 (fun rv hp' => (rv = none ∧ True) ∧ bAx G [(34359738368, 1), (1133871366144, 2), (1099511627776, 3), (1099511627776, 6), (1099511627776, 7), (1099511627776, 8), (18029860391747584, 256)] hp hp')) 228000380 0 [(0, yR k0), (1, yI (p1))] [] hp
  obtain ⟨i_106, i_256⟩ := H 3000004
  obtain ⟨gg0, E_0⟩ : ∃ z : Int, ys hp n0 5 = z := ⟨_, rfl⟩
  obtain ⟨-, -, g_0l, g_0u⟩ := (w_Net_shortLine W H_n0).int hT
  refine yG.load xik rfl (fun _ _ => rfl) (v := yI (p1)) rfl rfl ?_
  refine yG.ifz rfl (t := 11) rfl ⟨by omega, by omega⟩ (fun c1 => ?_) (fun c1 => ?_)
  · have c1 : (p1 : Int) = 0 := c1
    refine yG.load xak rfl (fun _ _ => rfl) (v := yR k0) rfl rfl ?_
    refine yG.getO A_hp.1 (w_Shorts_top1 W H_k0) rfl rfl (fun r2 H_r2 O_r2 q_r2 => ?_)
    refine yG.store1 xak (L' := [(2, yR r2), (0, yR k0), (1, yI (p1))]) rfl (fun _ _ => rfl) rfl rfl ?_
    refine yG.load xak rfl (fun _ _ => rfl) (v := yR k0) rfl rfl ?_
    refine yG.getO A_hp.1 (w_Shorts_whole W H_k0) rfl rfl (fun r3 H_r3 O_r3 q_r3 => ?_)
    refine yG.load xik rfl (fun _ _ => rfl) (v := yI (p1)) rfl rfl ?_
    refine yG.ifz rfl (t := 28) rfl ⟨by omega, by omega⟩ (fun c4 => ?_) (fun c4 => ?_)
    · have c4 : (p1 : Int) = 0 := c4
      refine yG.num (c := 1) rfl (fun _ _ => rfl) (by decide) ?_
      refine yG.aaldO (r := 35) A_hp.1 (v_Big2 W H_r3) rfl rfl rfl (by omega) (by omega) (fun r5 H_r5 q_r5 => ?_)
      obtain ⟨n_r5, N_r5⟩ : ∃ n : Int, n = ((zat G r5 : Nat) : Int) := ⟨_, rfl⟩
      have L_r5 := n_Big W H_r5
      refine yG.store1 xak (L' := [(3, yR r5), (2, yR r2), (0, yR k0), (1, yI (p1))]) rfl (fun _ _ => rfl) rfl rfl ?_
      refine yG.load xak rfl (fun _ _ => rfl) (v := yR k0) rfl rfl ?_
      refine yG.getO A_hp.1 (w_Shorts_shape W H_k0) rfl rfl (fun r6 H_r6 O_r6 q_r6 => ?_)
      refine yG.load xak rfl (fun _ _ => rfl) (v := yR k0) rfl rfl ?_
      refine yG.getO A_hp.1 (w_Shorts_taken W H_k0) rfl rfl (fun r7 H_r7 O_r7 q_r7 => ?_)
      refine yG.num (c := 1) rfl (fun _ _ => rfl) (by decide) ?_
      refine yG.invV (rest := []) A_hp.1 (bOb (d_Shape W) H_r6) rfl rfl rfl rfl (c_Shape_number_21 W (d + 3) A_hp.1 H_r6 H_r7) (fun rv h8 q9 => ?_)
      obtain ⟨⟨z9, rfl, l_z9, u_z9, R_z9⟩, B_h8⟩ := q9
      have A_h8 := A_hp.tr B_h8 (by decide)
      have : ys h8 n0 5 = ys hp n0 5 := B_h8.ys H_n0 (by decide)
      have qq1 : zsl h8 k0 1 = yR n0 := (B_h8.sl H_k0 (by decide)).trans Q_n0
      show yG _ _ _ _ _ _ _ _ _ _ (yI z9 :: []) _
      refine yG.store1 xik (L' := [(4, yI (z9)), (3, yR r5), (2, yR r2), (0, yR k0), (1, yI (p1))]) rfl (fun _ _ => rfl) rfl rfl ?_
      refine yG.load xak rfl (fun _ _ => rfl) (v := yR k0) rfl rfl ?_
      refine yG.invV (rest := []) A_h8.1 (bOb (d_Shorts W) H_k0) rfl rfl rfl rfl (c_Shorts_isOnLine W (d + 3) A_h8.1 H_k0 H_n0 qq1) (fun rv hp9 q9 => ?_)
      obtain ⟨⟨z10, rfl, l_z10, u_z10, R_z10⟩, e9⟩ := q9
      rw [e9]
      show yG _ _ _ _ _ _ _ _ _ _ (yI z10 :: []) _
      refine yG.ifz rfl (t := 59) rfl ⟨by omega, by omega⟩ (fun c11 => ?_) (fun c11 => ?_)
      · have c11 : (z10 : Int) = 0 := c11
        exfalso; omega
      · have c11 : (z10 : Int) ≠ 0 := c11
        refine yG.load xik rfl (fun _ _ => rfl) (v := yI (z9)) rfl rfl ?_
        refine yG.num (c := 1) rfl (fun _ _ => rfl) (by decide) ?_
        refine yG.iadd rfl ?_
        refine yG.goto rfl (t := 61) rfl ?_
        obtain ⟨z12, e_z12⟩ : ∃ z : Int, z = z9 + 1 := ⟨_, rfl⟩
        rw [← e_z12]
        refine yG.store1 xik (L' := [(5, yI (z12)), (4, yI (z9)), (3, yR r5), (2, yR r2), (0, yR k0), (1, yI (p1))]) rfl (fun _ _ => rfl) rfl rfl ?_
        refine yG.load xak rfl (fun _ _ => rfl) (v := yR k0) rfl rfl ?_
        refine yG.invV (rest := []) A_h8.1 (bOb (d_Shorts W) H_k0) rfl rfl rfl rfl (c_Shorts_isOnLine W (d + 3) A_h8.1 H_k0 H_n0 qq1) (fun rv hp9 q9 => ?_)
        obtain ⟨⟨z13, rfl, l_z13, u_z13, R_z13⟩, e9⟩ := q9
        rw [e9]
        show yG _ _ _ _ _ _ _ _ _ _ (yI z13 :: []) _
        refine yG.ifz rfl (t := 75) rfl ⟨by omega, by omega⟩ (fun c14 => ?_) (fun c14 => ?_)
        · have c14 : (z13 : Int) = 0 := c14
          exfalso; omega
        · have c14 : (z13 : Int) ≠ 0 := c14
          refine yG.load xik rfl (fun _ _ => rfl) (v := yI (z9)) rfl rfl ?_
          refine yG.goto rfl (t := 87) rfl ?_
          refine yG.store1 xik (L' := [(6, yI (z9)), (5, yI (z12)), (4, yI (z9)), (3, yR r5), (2, yR r2), (0, yR k0), (1, yI (p1))]) rfl (fun _ _ => rfl) rfl rfl ?_
          refine yG.load xak rfl (fun _ _ => rfl) (v := yR k0) rfl rfl ?_
          refine yG.getO A_h8.1 (w_Shorts_solver W H_k0) rfl rfl (fun r15 H_r15 O_r15 q_r15 => ?_)
          refine yG.load xak rfl (fun _ _ => rfl) (v := yR k0) rfl rfl ?_
          refine yG.load xik rfl (fun _ _ => rfl) (v := yI (p1)) rfl rfl ?_
          refine yG.invV (rest := [yR r15]) A_h8.1 (bOb (d_Shorts W) H_k0) rfl rfl rfl rfl (c_Shorts_bits W (d + 1) A_h8.1 H_k0 (p1) (by omega) (by omega)) (fun rv hp9 q9 => ?_)
          obtain ⟨⟨z16, rfl, l_z16, u_z16, R_z16⟩, e9⟩ := q9
          rw [e9]
          show yG _ _ _ _ _ _ _ _ _ _ (yI z16 :: [yR r15]) _
          refine yG.load xak rfl (fun _ _ => rfl) (v := yR r2) rfl rfl ?_
          refine yG.load xak rfl (fun _ _ => rfl) (v := yR r5) rfl rfl ?_
          refine yG.invV (rest := []) A_h8.1 (bOb (d_Solver W) H_r15) rfl rfl rfl rfl (c_Solver_start__17 W (d + 1) A_h8.1 H_r15 H_r2 H_r5 (z16) (by omega) (by omega)) (fun rv h17 q9 => ?_)
          obtain ⟨⟨rfl, R_z18⟩, B_h17⟩ := q9
          have A_h17 := A_h8.tr B_h17 (by decide)
          have : ys h17 n0 5 = ys h8 n0 5 := B_h17.ys H_n0 (by decide)
          have qq2 : zsl h17 k0 1 = yR n0 := (B_h17.sl H_k0 (by decide)).trans qq1
          show yG _ _ _ _ _ _ _ _ _ _ [] _
          refine yG.num (c := 0) rfl (fun _ _ => rfl) (by decide) ?_
          refine yG.store1 xik (L' := [(7, yI (0)), (6, yI (z9)), (5, yI (z12)), (4, yI (z9)), (3, yR r5), (2, yR r2), (0, yR k0), (1, yI (p1))]) rfl (fun _ _ => rfl) rfl rfl ?_
          exact yG.mono (yG.sub (i_106 r2 r5 (z9) (z12) (z9) (0) (ys h17 n0 5) h17 A_h17 H_r2 H_r5 rfl (by omega) (by omega) (by omega) (by omega) (by omega) (by omega) (by omega) (by omega) (by omega) (by omega) (by omega) (by omega) (by omega) (by omega) (by omega) (by omega) (by omega)) (ySub.cons rfl (ySub.cons rfl (ySub.cons rfl (ySub.cons rfl (ySub.cons rfl (ySub.cons rfl (ySub.cons rfl (ySub.cons rfl (ySub.nil)))))))))) (by omega)
    · have c4 : (p1 : Int) ≠ 0 := c4
      exfalso; omega
  · have c1 : (p1 : Int) ≠ 0 := c1
    refine yG.load xak rfl (fun _ _ => rfl) (v := yR k0) rfl rfl ?_
    refine yG.getO A_hp.1 (w_Shorts_top0 W H_k0) rfl rfl (fun r19 H_r19 O_r19 q_r19 => ?_)
    refine yG.goto rfl (t := 15) rfl ?_
    refine yG.store1 xak (L' := [(2, yR r19), (0, yR k0), (1, yI (p1))]) rfl (fun _ _ => rfl) rfl rfl ?_
    refine yG.load xak rfl (fun _ _ => rfl) (v := yR k0) rfl rfl ?_
    refine yG.getO A_hp.1 (w_Shorts_whole W H_k0) rfl rfl (fun r20 H_r20 O_r20 q_r20 => ?_)
    refine yG.load xik rfl (fun _ _ => rfl) (v := yI (p1)) rfl rfl ?_
    refine yG.ifz rfl (t := 28) rfl ⟨by omega, by omega⟩ (fun c21 => ?_) (fun c21 => ?_)
    · have c21 : (p1 : Int) = 0 := c21
      exfalso; omega
    · have c21 : (p1 : Int) ≠ 0 := c21
      refine yG.num (c := 0) rfl (fun _ _ => rfl) (by decide) ?_
      refine yG.goto rfl (t := 29) rfl ?_
      refine yG.aaldO (r := 35) A_hp.1 (v_Big2 W H_r20) rfl rfl rfl (by omega) (by omega) (fun r22 H_r22 q_r22 => ?_)
      obtain ⟨n_r22, N_r22⟩ : ∃ n : Int, n = ((zat G r22 : Nat) : Int) := ⟨_, rfl⟩
      have L_r22 := n_Big W H_r22
      refine yG.store1 xak (L' := [(3, yR r22), (2, yR r19), (0, yR k0), (1, yI (p1))]) rfl (fun _ _ => rfl) rfl rfl ?_
      refine yG.load xak rfl (fun _ _ => rfl) (v := yR k0) rfl rfl ?_
      refine yG.getO A_hp.1 (w_Shorts_shape W H_k0) rfl rfl (fun r23 H_r23 O_r23 q_r23 => ?_)
      refine yG.load xak rfl (fun _ _ => rfl) (v := yR k0) rfl rfl ?_
      refine yG.getO A_hp.1 (w_Shorts_taken W H_k0) rfl rfl (fun r24 H_r24 O_r24 q_r24 => ?_)
      refine yG.num (c := 1) rfl (fun _ _ => rfl) (by decide) ?_
      refine yG.invV (rest := []) A_hp.1 (bOb (d_Shape W) H_r23) rfl rfl rfl rfl (c_Shape_number_21 W (d + 3) A_hp.1 H_r23 H_r24) (fun rv h25 q9 => ?_)
      obtain ⟨⟨z26, rfl, l_z26, u_z26, R_z26⟩, B_h25⟩ := q9
      have A_h25 := A_hp.tr B_h25 (by decide)
      have : ys h25 n0 5 = ys hp n0 5 := B_h25.ys H_n0 (by decide)
      have qq3 : zsl h25 k0 1 = yR n0 := (B_h25.sl H_k0 (by decide)).trans Q_n0
      show yG _ _ _ _ _ _ _ _ _ _ (yI z26 :: []) _
      refine yG.store1 xik (L' := [(4, yI (z26)), (3, yR r22), (2, yR r19), (0, yR k0), (1, yI (p1))]) rfl (fun _ _ => rfl) rfl rfl ?_
      refine yG.load xak rfl (fun _ _ => rfl) (v := yR k0) rfl rfl ?_
      refine yG.invV (rest := []) A_h25.1 (bOb (d_Shorts W) H_k0) rfl rfl rfl rfl (c_Shorts_isOnLine W (d + 3) A_h25.1 H_k0 H_n0 qq3) (fun rv hp9 q9 => ?_)
      obtain ⟨⟨z27, rfl, l_z27, u_z27, R_z27⟩, e9⟩ := q9
      rw [e9]
      show yG _ _ _ _ _ _ _ _ _ _ (yI z27 :: []) _
      refine yG.ifz rfl (t := 59) rfl ⟨by omega, by omega⟩ (fun c28 => ?_) (fun c28 => ?_)
      · have c28 : (z27 : Int) = 0 := c28
        exfalso; omega
      · have c28 : (z27 : Int) ≠ 0 := c28
        refine yG.load xik rfl (fun _ _ => rfl) (v := yI (z26)) rfl rfl ?_
        refine yG.num (c := 1) rfl (fun _ _ => rfl) (by decide) ?_
        refine yG.iadd rfl ?_
        refine yG.goto rfl (t := 61) rfl ?_
        obtain ⟨z29, e_z29⟩ : ∃ z : Int, z = z26 + 1 := ⟨_, rfl⟩
        rw [← e_z29]
        refine yG.store1 xik (L' := [(5, yI (z29)), (4, yI (z26)), (3, yR r22), (2, yR r19), (0, yR k0), (1, yI (p1))]) rfl (fun _ _ => rfl) rfl rfl ?_
        refine yG.load xak rfl (fun _ _ => rfl) (v := yR k0) rfl rfl ?_
        refine yG.invV (rest := []) A_h25.1 (bOb (d_Shorts W) H_k0) rfl rfl rfl rfl (c_Shorts_isOnLine W (d + 3) A_h25.1 H_k0 H_n0 qq3) (fun rv hp9 q9 => ?_)
        obtain ⟨⟨z30, rfl, l_z30, u_z30, R_z30⟩, e9⟩ := q9
        rw [e9]
        show yG _ _ _ _ _ _ _ _ _ _ (yI z30 :: []) _
        refine yG.ifz rfl (t := 75) rfl ⟨by omega, by omega⟩ (fun c31 => ?_) (fun c31 => ?_)
        · have c31 : (z30 : Int) = 0 := c31
          exfalso; omega
        · have c31 : (z30 : Int) ≠ 0 := c31
          refine yG.load xik rfl (fun _ _ => rfl) (v := yI (z26)) rfl rfl ?_
          refine yG.goto rfl (t := 87) rfl ?_
          refine yG.store1 xik (L' := [(6, yI (z26)), (5, yI (z29)), (4, yI (z26)), (3, yR r22), (2, yR r19), (0, yR k0), (1, yI (p1))]) rfl (fun _ _ => rfl) rfl rfl ?_
          refine yG.load xak rfl (fun _ _ => rfl) (v := yR k0) rfl rfl ?_
          refine yG.getO A_h25.1 (w_Shorts_solver W H_k0) rfl rfl (fun r32 H_r32 O_r32 q_r32 => ?_)
          refine yG.load xak rfl (fun _ _ => rfl) (v := yR k0) rfl rfl ?_
          refine yG.load xik rfl (fun _ _ => rfl) (v := yI (p1)) rfl rfl ?_
          refine yG.invV (rest := [yR r32]) A_h25.1 (bOb (d_Shorts W) H_k0) rfl rfl rfl rfl (c_Shorts_bits W (d + 1) A_h25.1 H_k0 (p1) (by omega) (by omega)) (fun rv hp9 q9 => ?_)
          obtain ⟨⟨z33, rfl, l_z33, u_z33, R_z33⟩, e9⟩ := q9
          rw [e9]
          show yG _ _ _ _ _ _ _ _ _ _ (yI z33 :: [yR r32]) _
          refine yG.load xak rfl (fun _ _ => rfl) (v := yR r19) rfl rfl ?_
          refine yG.load xak rfl (fun _ _ => rfl) (v := yR r22) rfl rfl ?_
          refine yG.invV (rest := []) A_h25.1 (bOb (d_Solver W) H_r32) rfl rfl rfl rfl (c_Solver_start__17 W (d + 1) A_h25.1 H_r32 H_r19 H_r22 (z33) (by omega) (by omega)) (fun rv h34 q9 => ?_)
          obtain ⟨⟨rfl, R_z35⟩, B_h34⟩ := q9
          have A_h34 := A_h25.tr B_h34 (by decide)
          have : ys h34 n0 5 = ys h25 n0 5 := B_h34.ys H_n0 (by decide)
          have qq4 : zsl h34 k0 1 = yR n0 := (B_h34.sl H_k0 (by decide)).trans qq3
          show yG _ _ _ _ _ _ _ _ _ _ [] _
          refine yG.num (c := 0) rfl (fun _ _ => rfl) (by decide) ?_
          refine yG.store1 xik (L' := [(7, yI (0)), (6, yI (z26)), (5, yI (z29)), (4, yI (z26)), (3, yR r22), (2, yR r19), (0, yR k0), (1, yI (p1))]) rfl (fun _ _ => rfl) rfl rfl ?_
          exact yG.mono (yG.sub (i_106 r19 r22 (z26) (z29) (z26) (0) (ys h34 n0 5) h34 A_h34 H_r19 H_r22 rfl (by omega) (by omega) (by omega) (by omega) (by omega) (by omega) (by omega) (by omega) (by omega) (by omega) (by omega) (by omega) (by omega) (by omega) (by omega) (by omega) (by omega)) (ySub.cons rfl (ySub.cons rfl (ySub.cons rfl (ySub.cons rfl (ySub.cons rfl (ySub.cons rfl (ySub.cons rfl (ySub.cons rfl (ySub.nil)))))))))) (by omega)
theorem c_Shorts_sequence_off {hp : xH} (W : bW G) (d : Nat) (hT : zTy G hp) {k0 : Nat} (H_k0 : bRo G 75 k0) {n0 : Nat} (H_n0 : bRo G 18 n0) (Q_n0 : zsl hp k0 1 = yR n0) (p1 : Int) (h1l : 0 ≤ p1) (h1u : p1 ≤ 1) (q0l : (-1) ≤ ys hp n0 5) (q0u : ys hp n0 5 ≤ (-1)) (q1l : 0 ≤ ys hp k0 8) (q1u : ys hp k0 8 ≤ 15) : yC (xcall 89 xfts xpools xms (d + 5)) 240 [yR k0, yI (p1)] hp (fun rv hp' => (rv = none ∧ True) ∧ bAx G [(34359738368, 1), (1133871366144, 2), (1099511627776, 3), (1099511627776, 6), (1099511627776, 7), (1099511627776, 8), (18029860391747584, 256)] hp hp') := by
  have A_hp : bAx G [(34359738368, 1), (1133871366144, 2), (1099511627776, 3), (1099511627776, 6), (1099511627776, 7), (1099511627776, 8), (18029860391747584, 256)] hp hp := bAx.rf hT
  have H : ∀ m : Nat, (∀ a2 : Nat, ∀ a3 : Nat, ∀ a4 : Int, ∀ a5 : Int, ∀ a6 : Int, ∀ a7 : Int, ∀ gg0 : Int, ∀ gg1 : Int, ∀ hq, bAx G [(34359738368, 1), (1133871366144, 2), (1099511627776, 3), (1099511627776, 6), (1099511627776, 7), (1099511627776, 8), (18029860391747584, 256)] hp hq → bRo G 77 a2 → bRo G 35 a3 → ys hq n0 5 = gg0 → ys hq k0 8 = gg1 → 0 ≤ a4 → (-16) ≤ 0 - a4 → 0 ≤ a5 → (-16) ≤ 0 - a5 → (-1) ≤ a6 → (-15) ≤ 0 - a6 → 0 ≤ a7 → (-1000000) ≤ 0 - a7 → (-1) ≤ gg0 → 1 ≤ 0 - gg0 → 0 ≤ gg1 → (-15) ≤ 0 - gg1 → 0 ≤ p1 → (-1) ≤ 0 - p1 → 0 ≤ a4 - a5 → 0 ≤ 0 - a4 + a5 → 0 - 3 * a7 + 3000002 < (m : Int) → yG 89 xfts (xcall 89 xfts xpools xms (d + 4)) (xpool xp_RX9) [] xt_X9_sequence (yP 0 (fun rv hp' => (rv = none ∧ True) ∧ bAx G [(34359738368, 1), (1133871366144, 2), (1099511627776, 3), (1099511627776, 6), (1099511627776, 7), (1099511627776, 8), (18029860391747584, 256)] hp hp')) (54 * m) 106 [(0, yR k0), (1, yI (p1)), (2, yR a2), (3, yR a3), (4, yI (a4)), (5, yI (a5)), (6, yI (a6)), (7, yI (a7))] [] hq) ∧ (∀ a2 : Nat, ∀ gg0 : Int, ∀ gg1 : Int, ∀ hq, bAx G [(34359738368, 1), (1133871366144, 2), (1099511627776, 3), (1099511627776, 6), (1099511627776, 7), (1099511627776, 8), (18029860391747584, 256)] hp hq → bRo G 77 a2 → ys hq n0 5 = gg0 → ys hq k0 8 = gg1 → (-1) ≤ gg0 → 1 ≤ 0 - gg0 → 0 ≤ gg1 → (-15) ≤ 0 - gg1 → 0 ≤ p1 → (-1) ≤ 0 - p1 → 1 < (m : Int) → yG 89 xfts (xcall 89 xfts xpools xms (d + 4)) (xpool xp_RX9) [] xt_X9_sequence (yP 0 (fun rv hp' => (rv = none ∧ True) ∧ bAx G [(34359738368, 1), (1133871366144, 2), (1099511627776, 3), (1099511627776, 6), (1099511627776, 7), (1099511627776, 8), (18029860391747584, 256)] hp hp')) (54 * m) 256 [(0, yR k0), (2, yR a2)] [] hq) := by
    intro m
    induction m with
    | zero =>
      refine ⟨?_, ?_⟩ <;> (intros; exfalso; omega)
    | succ m ih =>
      obtain ⟨i_106, i_256⟩ := ih
      refine ⟨?_, ?_⟩
      · intro a2 a3 a4 a5 a6 a7 gg0 gg1 hq A_hq H_a2 H_a3 E_0 E_1 f0 f1 f2 f3 f4 f5 f6 f7 f8 f9 f10 f11 f12 f13 f14 f15 hm
        refine yG.mono (N := 54 * m + 54) ?_ (by omega)
        obtain ⟨n_a3, N_a3⟩ : ∃ n : Int, n = ((zat G a3 : Nat) : Int) := ⟨_, rfl⟩
        have L_a3 := n_Big W H_a3
        obtain ⟨-, -, g_0l, g_0u⟩ := (w_Net_shortLine W H_n0).int A_hq.1
        obtain ⟨-, -, g_1l, g_1u⟩ := (w_Shorts_place W H_k0).int A_hq.1
        replace Q_n0 : zsl hq k0 1 = yR n0 := (A_hq.sl H_k0 (by decide)).trans Q_n0
        refine yG.load xik rfl (fun _ _ => rfl) (v := yI (a7)) rfl rfl ?_
        refine yG.num (c := 1000000) rfl (fun _ _ => rfl) (by decide) ?_
        refine yG.icmp rfl (t := 256) rfl ⟨by omega, by omega⟩ ⟨by omega, by omega⟩ (fun c1 => ?_) (fun c1 => ?_)
        · have c1 : (a7 : Int) ≥ 1000000 := c1
          exact yG.mono (yG.sub (i_256 a2 (ys hq n0 5) (ys hq k0 8) hq A_hq H_a2 rfl rfl (by omega) (by omega) (by omega) (by omega) (by omega) (by omega) (by omega)) (ySub.cons rfl (ySub.cons rfl (ySub.nil)))) (by omega)
        · have c1 : (a7 : Int) < 1000000 := c1
          refine yG.load xak rfl (fun _ _ => rfl) (v := yR k0) rfl rfl ?_
          refine yG.getO A_hq.1 (w_Shorts_solver W H_k0) rfl rfl (fun r2 H_r2 O_r2 q_r2 => ?_)
          refine yG.invV (rest := []) A_hq.1 (bOb (d_Solver W) H_r2) rfl rfl rfl rfl (c_Solver_more W (d + 2) A_hq.1 H_r2) (fun rv h3 q9 => ?_)
          obtain ⟨⟨z4, rfl, l_z4, u_z4, R_z4⟩, B_h3⟩ := q9
          have A_h3 := A_hq.tr B_h3 (by decide)
          have : ys h3 n0 5 = ys hq n0 5 := B_h3.ys H_n0 (by decide)
          have : ys h3 k0 8 = ys hq k0 8 := B_h3.ys H_k0 (by decide)
          have qq1 : zsl h3 k0 1 = yR n0 := (B_h3.sl H_k0 (by decide)).trans Q_n0
          have qq2 : zsl h3 k0 2 = yR r2 := (B_h3.sl H_k0 (by decide)).trans q_r2
          show yG _ _ _ _ _ _ _ _ _ _ (yI z4 :: []) _
          refine yG.ifz rfl (t := 256) rfl ⟨by omega, by omega⟩ (fun c5 => ?_) (fun c5 => ?_)
          · have c5 : (z4 : Int) = 0 := c5
            exact yG.mono (yG.sub (i_256 a2 (ys h3 n0 5) (ys h3 k0 8) h3 A_h3 H_a2 rfl rfl (by omega) (by omega) (by omega) (by omega) (by omega) (by omega) (by omega)) (ySub.cons rfl (ySub.cons rfl (ySub.nil)))) (by omega)
          · have c5 : (z4 : Int) ≠ 0 := c5
            refine yG.load xak rfl (fun _ _ => rfl) (v := yR k0) rfl rfl ?_
            refine yG.getS9 A_h3.1 (w_Shorts_solver W H_k0) qq2 rfl rfl ?_
            refine yG.load xik rfl (fun _ _ => rfl) (v := yI (a5)) rfl rfl ?_
            refine yG.load xik rfl (fun _ _ => rfl) (v := yI (a5)) rfl rfl ?_
            refine yG.num (c := 1) rfl (fun _ _ => rfl) (by decide) ?_
            refine yG.iadd rfl ?_
            refine yG.invV (rest := []) A_h3.1 (bOb (d_Solver W) H_r2) rfl rfl rfl rfl (c_Solver_blank W (d + 3) A_h3.1 H_r2 (a5) (a5 + 1) (by omega) (by omega) (by omega) (by omega)) (fun rv h6 q9 => ?_)
            obtain ⟨⟨rfl, R_z7⟩, B_h6⟩ := q9
            have A_h6 := A_h3.tr B_h6 (by decide)
            have : ys h6 n0 5 = ys h3 n0 5 := B_h6.ys H_n0 (by decide)
            have : ys h6 k0 8 = ys h3 k0 8 := B_h6.ys H_k0 (by decide)
            have qq3 : zsl h6 k0 1 = yR n0 := (B_h6.sl H_k0 (by decide)).trans qq1
            have qq4 : zsl h6 k0 2 = yR r2 := (B_h6.sl H_k0 (by decide)).trans qq2
            show yG _ _ _ _ _ _ _ _ _ _ [] _
            refine yG.load xak rfl (fun _ _ => rfl) (v := yR k0) rfl rfl ?_
            refine yG.load xik rfl (fun _ _ => rfl) (v := yI (p1)) rfl rfl ?_
            refine yG.load xik rfl (fun _ _ => rfl) (v := yI (a4)) rfl rfl ?_
            refine yG.invV (rest := []) A_h6.1 (bOb (d_Shorts W) H_k0) rfl rfl rfl rfl (c_Shorts_lay_off W (d + 1) A_h6.1 H_k0 H_n0 qq3 (p1) (a4) (by omega) (by omega) (by omega) (by omega) (by omega) (by omega)) (fun rv h8 q9 => ?_)
            obtain ⟨⟨z9, rfl, l_z9, u_z9, R_z9⟩, B_h8⟩ := q9
            have A_h8 := A_h6.tr B_h8 (by decide)
            have : ys h8 n0 5 = ys h6 n0 5 := B_h8.ys H_n0 (by decide)
            have : ys h8 k0 8 = ys h6 k0 8 := B_h8.ys H_k0 (by decide)
            have qq5 : zsl h8 k0 1 = yR n0 := (B_h8.sl H_k0 (by decide)).trans qq3
            have qq6 : zsl h8 k0 2 = yR r2 := (B_h8.sl H_k0 (by decide)).trans qq4
            show yG _ _ _ _ _ _ _ _ _ _ (yJ z9 :: []) _
            refine yG.store2 xlk2 (L' := [(8, yJ (z9)), (0, yR k0), (1, yI (p1)), (2, yR a2), (3, yR a3), (4, yI (a4)), (5, yI (a5)), (6, yI (a6)), (7, yI (a7))]) rfl (fun _ _ => rfl) rfl rfl ?_
            refine yG.load xak rfl (fun _ _ => rfl) (v := yR k0) rfl rfl ?_
            refine yG.getS9 A_h8.1 (w_Shorts_solver W H_k0) qq6 rfl rfl ?_
            refine yG.load xik rfl (fun _ _ => rfl) (v := yI (a6)) rfl rfl ?_
            refine yG.load xik rfl (fun _ _ => rfl) (v := yI (a5)) rfl rfl ?_
            refine yG.numl (c := 1) rfl (fun _ _ => rfl) (by decide) ?_
            refine yG.invV (rest := []) A_h8.1 (bOb (d_Solver W) H_r2) rfl rfl rfl rfl (c_Solver_plus W (d + 2) A_h8.1 H_r2 (a6) (a5) (1) (by omega) (by omega) (by omega) (by omega) (by omega) (by omega)) (fun rv h10 q9 => ?_)
            obtain ⟨⟨rfl, R_z11⟩, B_h10⟩ := q9
            have A_h10 := A_h8.tr B_h10 (by decide)
            have : ys h10 n0 5 = ys h8 n0 5 := B_h10.ys H_n0 (by decide)
            have : ys h10 k0 8 = ys h8 k0 8 := B_h10.ys H_k0 (by decide)
            have qq7 : zsl h10 k0 1 = yR n0 := (B_h10.sl H_k0 (by decide)).trans qq5
            have qq8 : zsl h10 k0 2 = yR r2 := (B_h10.sl H_k0 (by decide)).trans qq6
            show yG _ _ _ _ _ _ _ _ _ _ [] _
            refine yG.load xak rfl (fun _ _ => rfl) (v := yR k0) rfl rfl ?_
            refine yG.getS9 A_h10.1 (w_Shorts_solver W H_k0) qq8 rfl rfl ?_
            refine yG.load xik rfl (fun _ _ => rfl) (v := yI (a5)) rfl rfl ?_
            refine yG.load xik rfl (fun _ _ => rfl) (v := yI (a5)) rfl rfl ?_
            refine yG.load xik rfl (fun _ _ => rfl) (v := yI (a5)) rfl rfl ?_
            refine yG.num (c := 1) rfl (fun _ _ => rfl) (by decide) ?_
            refine yG.iadd rfl ?_
            refine yG.invV (rest := []) A_h10.1 (bOb (d_Solver W) H_r2) rfl rfl rfl rfl (c_Solver_reduce W (d + 1) A_h10.1 H_r2 (a5) (a5) (a5 + 1) (by omega) (by omega) (by omega) (by omega) (by omega) (by omega)) (fun rv h12 q9 => ?_)
            obtain ⟨⟨z13, rfl, l_z13, u_z13, R_z13⟩, B_h12⟩ := q9
            have A_h12 := A_h10.tr B_h12 (by decide)
            have : ys h12 n0 5 = ys h10 n0 5 := B_h12.ys H_n0 (by decide)
            have : ys h12 k0 8 = ys h10 k0 8 := B_h12.ys H_k0 (by decide)
            have qq9 : zsl h12 k0 1 = yR n0 := (B_h12.sl H_k0 (by decide)).trans qq7
            have qq10 : zsl h12 k0 2 = yR r2 := (B_h12.sl H_k0 (by decide)).trans qq8
            show yG _ _ _ _ _ _ _ _ _ _ (yI z13 :: []) _
            refine yG.load xik rfl (fun _ _ => rfl) (v := yI (a5)) rfl rfl ?_
            refine yG.icmp rfl (t := 250) rfl ⟨by omega, by omega⟩ ⟨by omega, by omega⟩ (fun c14 => ?_) (fun c14 => ?_)
            · have c14 : (z13 : Int) ≠ a5 := c14
              refine yG.iinc rfl (a := a7) rfl (L' := [(7, yI (a7 + 1)), (8, yJ (z9)), (0, yR k0), (1, yI (p1)), (2, yR a2), (3, yR a3), (4, yI (a4)), (5, yI (a5)), (6, yI (a6))]) rfl ?_
              refine yG.goto rfl (t := 106) rfl ?_
              exact yG.mono (yG.sub (i_106 a2 a3 (a4) (a5) (a6) (a7 + 1) (ys h12 n0 5) (ys h12 k0 8) h12 A_h12 H_a2 H_a3 rfl rfl (by omega) (by omega) (by omega) (by omega) (by omega) (by omega) (by omega) (by omega) (by omega) (by omega) (by omega) (by omega) (by omega) (by omega) (by omega) (by omega) (by omega)) (ySub.cons rfl (ySub.cons rfl (ySub.cons rfl (ySub.cons rfl (ySub.cons rfl (ySub.cons rfl (ySub.cons rfl (ySub.cons rfl (ySub.nil)))))))))) (by omega)
            · have c14 : (z13 : Int) = a5 := c14
              refine yG.load xak rfl (fun _ _ => rfl) (v := yR k0) rfl rfl ?_
              refine yG.getS9 A_h12.1 (w_Shorts_solver W H_k0) qq10 rfl rfl ?_
              refine yG.load xak rfl (fun _ _ => rfl) (v := yR k0) rfl rfl ?_
              refine yG.getO A_h12.1 (w_Shorts_shape W H_k0) rfl rfl (fun r15 H_r15 O_r15 q_r15 => ?_)
              refine yG.load xak rfl (fun _ _ => rfl) (v := yR a2) rfl rfl ?_
              refine yG.load xak rfl (fun _ _ => rfl) (v := yR a3) rfl rfl ?_
              refine yG.load xik rfl (fun _ _ => rfl) (v := yI (a5)) rfl rfl ?_
              refine yG.load xlk2 rfl (fun _ _ => rfl) (v := yJ (z9)) rfl rfl ?_
              refine yG.invV (rest := []) A_h12.1 (bOb (d_Solver W) H_r2) rfl rfl rfl rfl (c_Solver_take_17 W d A_h12.1 H_r2 H_r15 H_a2 H_a3 (a5) (z9) (by omega) (by omega) (by omega) (by omega)) (fun rv h16 q9 => ?_)
              obtain ⟨⟨rfl, R_z17⟩, B_h16⟩ := q9
              have A_h16 := A_h12.tr B_h16 (by decide)
              have : ys h16 n0 5 = ys h12 n0 5 := B_h16.ys H_n0 (by decide)
              have : ys h16 k0 8 = ys h12 k0 8 := B_h16.ys H_k0 (by decide)
              have qq11 : zsl h16 k0 1 = yR n0 := (B_h16.sl H_k0 (by decide)).trans qq9
              have qq12 : zsl h16 k0 2 = yR r2 := (B_h16.sl H_k0 (by decide)).trans qq10
              show yG _ _ _ _ _ _ _ _ _ _ [] _
              refine yG.load xak rfl (fun _ _ => rfl) (v := yR k0) rfl rfl ?_
              refine yG.invV (rest := []) A_h16.1 (bOb (d_Shorts W) H_k0) rfl rfl rfl rfl (c_Shorts_isOnLine W (d + 3) A_h16.1 H_k0 H_n0 qq11) (fun rv hp9 q9 => ?_)
              obtain ⟨⟨z18, rfl, l_z18, u_z18, R_z18⟩, e9⟩ := q9
              rw [e9]
              show yG _ _ _ _ _ _ _ _ _ _ (yI z18 :: []) _
              refine yG.ifz rfl (t := 243) rfl ⟨by omega, by omega⟩ (fun c19 => ?_) (fun c19 => ?_)
              · have c19 : (z18 : Int) = 0 := c19
                refine yG.load xak rfl (fun _ _ => rfl) (v := yR k0) rfl rfl ?_
                refine yG.getS9 A_h16.1 (w_Shorts_solver W H_k0) qq12 rfl rfl ?_
                refine yG.invV (rest := []) A_h16.1 (bOb (d_Solver W) H_r2) rfl rfl rfl rfl (c_Solver_close W (d + 1) A_h16.1 H_r2) (fun rv h20 q9 => ?_)
                obtain ⟨⟨rfl, R_z21⟩, B_h20⟩ := q9
                have A_h20 := A_h16.tr B_h20 (by decide)
                have : ys h20 n0 5 = ys h16 n0 5 := B_h20.ys H_n0 (by decide)
                have : ys h20 k0 8 = ys h16 k0 8 := B_h20.ys H_k0 (by decide)
                have qq13 : zsl h20 k0 1 = yR n0 := (B_h20.sl H_k0 (by decide)).trans qq11
                have qq14 : zsl h20 k0 2 = yR r2 := (B_h20.sl H_k0 (by decide)).trans qq12
                show yG _ _ _ _ _ _ _ _ _ _ [] _
                refine yG.iinc rfl (a := a7) rfl (L' := [(7, yI (a7 + 1)), (8, yJ (z9)), (0, yR k0), (1, yI (p1)), (2, yR a2), (3, yR a3), (4, yI (a4)), (5, yI (a5)), (6, yI (a6))]) rfl ?_
                refine yG.goto rfl (t := 106) rfl ?_
                exact yG.mono (yG.sub (i_106 a2 a3 (a4) (a5) (a6) (a7 + 1) (ys h20 n0 5) (ys h20 k0 8) h20 A_h20 H_a2 H_a3 rfl rfl (by omega) (by omega) (by omega) (by omega) (by omega) (by omega) (by omega) (by omega) (by omega) (by omega) (by omega) (by omega) (by omega) (by omega) (by omega) (by omega) (by omega)) (ySub.cons rfl (ySub.cons rfl (ySub.cons rfl (ySub.cons rfl (ySub.cons rfl (ySub.cons rfl (ySub.cons rfl (ySub.cons rfl (ySub.nil)))))))))) (by omega)
              · have c19 : (z18 : Int) ≠ 0 := c19
                exfalso; omega
      · intro a2 gg0 gg1 hq A_hq H_a2 E_0 E_1 f0 f1 f2 f3 f4 f5 hm
        refine yG.mono (N := 54 * m + 54) ?_ (by omega)
        obtain ⟨-, -, g_0l, g_0u⟩ := (w_Net_shortLine W H_n0).int A_hq.1
        obtain ⟨-, -, g_1l, g_1u⟩ := (w_Shorts_place W H_k0).int A_hq.1
        replace Q_n0 : zsl hq k0 1 = yR n0 := (A_hq.sl H_k0 (by decide)).trans Q_n0
        refine yG.load xak rfl (fun _ _ => rfl) (v := yR k0) rfl rfl ?_
        refine yG.getO A_hq.1 (w_Shorts_solver W H_k0) rfl rfl (fun r1 H_r1 O_r1 q_r1 => ?_)
        refine yG.load xak rfl (fun _ _ => rfl) (v := yR a2) rfl rfl ?_
        refine yG.num (c := 17) rfl (fun _ _ => rfl) (by decide) ?_
        refine yG.invV (rest := []) A_hq.1 (bOb (d_Solver W) H_r1) rfl rfl rfl rfl (c_Solver_settle_17 W d A_hq.1 H_r1 H_a2 (17) (by omega) (by omega)) (fun rv h2 q9 => ?_)
        obtain ⟨⟨rfl, R_z3⟩, B_h2⟩ := q9
        have A_h2 := A_hq.tr B_h2 (by decide)
        have : ys h2 n0 5 = ys hq n0 5 := B_h2.ys H_n0 (by decide)
        have : ys h2 k0 8 = ys hq k0 8 := B_h2.ys H_k0 (by decide)
        have qq1 : zsl h2 k0 1 = yR n0 := (B_h2.sl H_k0 (by decide)).trans Q_n0
        show yG _ _ _ _ _ _ _ _ _ _ [] _
        refine yG.load xak rfl (fun _ _ => rfl) (v := yR k0) rfl rfl ?_
        refine yG.invV (rest := []) A_h2.1 (bOb (d_Shorts W) H_k0) rfl rfl rfl rfl (c_Shorts_isOnLine W (d + 3) A_h2.1 H_k0 H_n0 qq1) (fun rv hp9 q9 => ?_)
        obtain ⟨⟨z4, rfl, l_z4, u_z4, R_z4⟩, e9⟩ := q9
        rw [e9]
        show yG _ _ _ _ _ _ _ _ _ _ (yI z4 :: []) _
        refine yG.ifz rfl (t := 286) rfl ⟨by omega, by omega⟩ (fun c5 => ?_) (fun c5 => ?_)
        · have c5 : (z4 : Int) ≠ 0 := c5
          exfalso; omega
        · have c5 : (z4 : Int) = 0 := c5
          refine yG.load xak rfl (fun _ _ => rfl) (v := yR a2) rfl rfl ?_
          refine yG.num (c := 16) rfl (fun _ _ => rfl) (by decide) ?_
          refine yG.aaldO (r := 35) A_h2.1 (v_Big17 W H_a2) rfl rfl rfl (by omega) (by omega) (fun r6 H_r6 q_r6 => ?_)
          obtain ⟨n_r6, N_r6⟩ : ∃ n : Int, n = ((zat G r6 : Nat) : Int) := ⟨_, rfl⟩
          have L_r6 := n_Big W H_r6
          refine yG.load xak rfl (fun _ _ => rfl) (v := yR a2) rfl rfl ?_
          refine yG.load xak rfl (fun _ _ => rfl) (v := yR k0) rfl rfl ?_
          refine yG.getI A_h2.1 (w_Shorts_place W H_k0) rfl rfl (fun z7 e_z7 i_z7 l_z7 u_z7 => ?_)
          refine yG.aaldO (r := 35) A_h2.1 (v_Big17 W H_a2) rfl rfl rfl (by omega) (by omega) (fun r8 H_r8 q_r8 => ?_)
          obtain ⟨n_r8, N_r8⟩ : ∃ n : Int, n = ((zat G r8 : Nat) : Int) := ⟨_, rfl⟩
          have L_r8 := n_Big W H_r8
          refine yG.invV (rest := []) A_h2.1 (bOb (d_Big W) H_r6) rfl rfl rfl rfl (c_Big_copy W (d + 2) A_h2.1 H_r6 H_r8) (fun rv h9 q9 => ?_)
          obtain ⟨⟨rfl, R_z10⟩, B_h9⟩ := q9
          have A_h9 := A_h2.tr B_h9 (by decide)
          have : ys h9 n0 5 = ys h2 n0 5 := B_h9.ys H_n0 (by decide)
          have : ys h9 k0 8 = ys h2 k0 8 := B_h9.ys H_k0 (by decide)
          have qq2 : zsl h9 k0 1 = yR n0 := (B_h9.sl H_k0 (by decide)).trans qq1
          show yG _ _ _ _ _ _ _ _ _ _ [] _
          refine yG.ret rfl (fun _ _ => rfl) ?_
          exact (yP.void ⟨⟨rfl, trivial⟩, A_h9⟩)
  refine yC.of (M := (xt_X9_sequence, (10, (0, (10, []))))) rfl rfl (N := 162000270) (yfuel (by decide)) ?_
  show yG 89 xfts (xcall 89 xfts xpools xms (d + 4)) (xpool xp_RX9) [] xt_X9_sequence (yP 0 (fun rv hp' => (rv = none ∧ True) ∧ bAx G [(34359738368, 1), (1133871366144, 2), (1099511627776, 3), (1099511627776, 6), (1099511627776, 7), (1099511627776, 8), (18029860391747584, 256)] hp hp')) 162000270 0 [(0, yR k0), (1, yI (p1))] [] hp
  obtain ⟨i_106, i_256⟩ := H 3000004
  obtain ⟨gg0, E_0⟩ : ∃ z : Int, ys hp n0 5 = z := ⟨_, rfl⟩
  obtain ⟨-, -, g_0l, g_0u⟩ := (w_Net_shortLine W H_n0).int hT
  obtain ⟨gg1, E_1⟩ : ∃ z : Int, ys hp k0 8 = z := ⟨_, rfl⟩
  obtain ⟨-, -, g_1l, g_1u⟩ := (w_Shorts_place W H_k0).int hT
  refine yG.load xik rfl (fun _ _ => rfl) (v := yI (p1)) rfl rfl ?_
  refine yG.ifz rfl (t := 11) rfl ⟨by omega, by omega⟩ (fun c1 => ?_) (fun c1 => ?_)
  · have c1 : (p1 : Int) = 0 := c1
    refine yG.load xak rfl (fun _ _ => rfl) (v := yR k0) rfl rfl ?_
    refine yG.getO A_hp.1 (w_Shorts_top1 W H_k0) rfl rfl (fun r2 H_r2 O_r2 q_r2 => ?_)
    refine yG.store1 xak (L' := [(2, yR r2), (0, yR k0), (1, yI (p1))]) rfl (fun _ _ => rfl) rfl rfl ?_
    refine yG.load xak rfl (fun _ _ => rfl) (v := yR k0) rfl rfl ?_
    refine yG.getO A_hp.1 (w_Shorts_whole W H_k0) rfl rfl (fun r3 H_r3 O_r3 q_r3 => ?_)
    refine yG.load xik rfl (fun _ _ => rfl) (v := yI (p1)) rfl rfl ?_
    refine yG.ifz rfl (t := 28) rfl ⟨by omega, by omega⟩ (fun c4 => ?_) (fun c4 => ?_)
    · have c4 : (p1 : Int) = 0 := c4
      refine yG.num (c := 1) rfl (fun _ _ => rfl) (by decide) ?_
      refine yG.aaldO (r := 35) A_hp.1 (v_Big2 W H_r3) rfl rfl rfl (by omega) (by omega) (fun r5 H_r5 q_r5 => ?_)
      obtain ⟨n_r5, N_r5⟩ : ∃ n : Int, n = ((zat G r5 : Nat) : Int) := ⟨_, rfl⟩
      have L_r5 := n_Big W H_r5
      refine yG.store1 xak (L' := [(3, yR r5), (2, yR r2), (0, yR k0), (1, yI (p1))]) rfl (fun _ _ => rfl) rfl rfl ?_
      refine yG.load xak rfl (fun _ _ => rfl) (v := yR k0) rfl rfl ?_
      refine yG.getO A_hp.1 (w_Shorts_shape W H_k0) rfl rfl (fun r6 H_r6 O_r6 q_r6 => ?_)
      refine yG.load xak rfl (fun _ _ => rfl) (v := yR k0) rfl rfl ?_
      refine yG.getO A_hp.1 (w_Shorts_taken W H_k0) rfl rfl (fun r7 H_r7 O_r7 q_r7 => ?_)
      refine yG.num (c := 1) rfl (fun _ _ => rfl) (by decide) ?_
      refine yG.invV (rest := []) A_hp.1 (bOb (d_Shape W) H_r6) rfl rfl rfl rfl (c_Shape_number_21 W (d + 3) A_hp.1 H_r6 H_r7) (fun rv h8 q9 => ?_)
      obtain ⟨⟨z9, rfl, l_z9, u_z9, R_z9⟩, B_h8⟩ := q9
      have A_h8 := A_hp.tr B_h8 (by decide)
      have : ys h8 n0 5 = ys hp n0 5 := B_h8.ys H_n0 (by decide)
      have : ys h8 k0 8 = ys hp k0 8 := B_h8.ys H_k0 (by decide)
      have qq1 : zsl h8 k0 1 = yR n0 := (B_h8.sl H_k0 (by decide)).trans Q_n0
      have qq2 : zsl h8 k0 0 = yR r6 := (B_h8.sl H_k0 (by decide)).trans q_r6
      show yG _ _ _ _ _ _ _ _ _ _ (yI z9 :: []) _
      refine yG.store1 xik (L' := [(4, yI (z9)), (3, yR r5), (2, yR r2), (0, yR k0), (1, yI (p1))]) rfl (fun _ _ => rfl) rfl rfl ?_
      refine yG.load xak rfl (fun _ _ => rfl) (v := yR k0) rfl rfl ?_
      refine yG.invV (rest := []) A_h8.1 (bOb (d_Shorts W) H_k0) rfl rfl rfl rfl (c_Shorts_isOnLine W (d + 3) A_h8.1 H_k0 H_n0 qq1) (fun rv hp9 q9 => ?_)
      obtain ⟨⟨z10, rfl, l_z10, u_z10, R_z10⟩, e9⟩ := q9
      rw [e9]
      show yG _ _ _ _ _ _ _ _ _ _ (yI z10 :: []) _
      refine yG.ifz rfl (t := 59) rfl ⟨by omega, by omega⟩ (fun c11 => ?_) (fun c11 => ?_)
      · have c11 : (z10 : Int) = 0 := c11
        refine yG.load xik rfl (fun _ _ => rfl) (v := yI (z9)) rfl rfl ?_
        refine yG.store1 xik (L' := [(5, yI (z9)), (4, yI (z9)), (3, yR r5), (2, yR r2), (0, yR k0), (1, yI (p1))]) rfl (fun _ _ => rfl) rfl rfl ?_
        refine yG.load xak rfl (fun _ _ => rfl) (v := yR k0) rfl rfl ?_
        refine yG.invV (rest := []) A_h8.1 (bOb (d_Shorts W) H_k0) rfl rfl rfl rfl (c_Shorts_isOnLine W (d + 3) A_h8.1 H_k0 H_n0 qq1) (fun rv hp9 q9 => ?_)
        obtain ⟨⟨z12, rfl, l_z12, u_z12, R_z12⟩, e9⟩ := q9
        rw [e9]
        show yG _ _ _ _ _ _ _ _ _ _ (yI z12 :: []) _
        refine yG.ifz rfl (t := 75) rfl ⟨by omega, by omega⟩ (fun c13 => ?_) (fun c13 => ?_)
        · have c13 : (z12 : Int) = 0 := c13
          refine yG.load xak rfl (fun _ _ => rfl) (v := yR k0) rfl rfl ?_
          refine yG.getS9 A_h8.1 (w_Shorts_shape W H_k0) qq2 rfl rfl ?_
          refine yG.getO A_h8.1 (w_Shape_row W H_r6) rfl rfl (fun r14 H_r14 O_r14 q_r14 => ?_)
          refine yG.load xak rfl (fun _ _ => rfl) (v := yR k0) rfl rfl ?_
          refine yG.getI A_h8.1 (w_Shorts_place W H_k0) rfl rfl (fun z15 e_z15 i_z15 l_z15 u_z15 => ?_)
          refine yG.iald A_h8.1 (v_Shape_row W H_r14) rfl (by omega) (by omega) (fun z16 e_z16 i_z16 l_z16 u_z16 => ?_)
          refine yG.store1 xik (L' := [(6, yI (z16)), (5, yI (z9)), (4, yI (z9)), (3, yR r5), (2, yR r2), (0, yR k0), (1, yI (p1))]) rfl (fun _ _ => rfl) rfl rfl ?_
          refine yG.load xak rfl (fun _ _ => rfl) (v := yR k0) rfl rfl ?_
          refine yG.getO A_h8.1 (w_Shorts_solver W H_k0) rfl rfl (fun r17 H_r17 O_r17 q_r17 => ?_)
          refine yG.load xak rfl (fun _ _ => rfl) (v := yR k0) rfl rfl ?_
          refine yG.load xik rfl (fun _ _ => rfl) (v := yI (p1)) rfl rfl ?_
          refine yG.invV (rest := [yR r17]) A_h8.1 (bOb (d_Shorts W) H_k0) rfl rfl rfl rfl (c_Shorts_bits W (d + 1) A_h8.1 H_k0 (p1) (by omega) (by omega)) (fun rv hp9 q9 => ?_)
          obtain ⟨⟨z18, rfl, l_z18, u_z18, R_z18⟩, e9⟩ := q9
          rw [e9]
          show yG _ _ _ _ _ _ _ _ _ _ (yI z18 :: [yR r17]) _
          refine yG.load xak rfl (fun _ _ => rfl) (v := yR r2) rfl rfl ?_
          refine yG.load xak rfl (fun _ _ => rfl) (v := yR r5) rfl rfl ?_
          refine yG.invV (rest := []) A_h8.1 (bOb (d_Solver W) H_r17) rfl rfl rfl rfl (c_Solver_start__17 W (d + 1) A_h8.1 H_r17 H_r2 H_r5 (z18) (by omega) (by omega)) (fun rv h19 q9 => ?_)
          obtain ⟨⟨rfl, R_z20⟩, B_h19⟩ := q9
          have A_h19 := A_h8.tr B_h19 (by decide)
          have : ys h19 n0 5 = ys h8 n0 5 := B_h19.ys H_n0 (by decide)
          have : ys h19 k0 8 = ys h8 k0 8 := B_h19.ys H_k0 (by decide)
          have qq3 : zsl h19 k0 1 = yR n0 := (B_h19.sl H_k0 (by decide)).trans qq1
          have qq4 : zsl h19 k0 0 = yR r6 := (B_h19.sl H_k0 (by decide)).trans qq2
          show yG _ _ _ _ _ _ _ _ _ _ [] _
          refine yG.num (c := 0) rfl (fun _ _ => rfl) (by decide) ?_
          refine yG.store1 xik (L' := [(7, yI (0)), (6, yI (z16)), (5, yI (z9)), (4, yI (z9)), (3, yR r5), (2, yR r2), (0, yR k0), (1, yI (p1))]) rfl (fun _ _ => rfl) rfl rfl ?_
          exact yG.mono (yG.sub (i_106 r2 r5 (z9) (z9) (z16) (0) (ys h19 n0 5) (ys h19 k0 8) h19 A_h19 H_r2 H_r5 rfl rfl (by omega) (by omega) (by omega) (by omega) (by omega) (by omega) (by omega) (by omega) (by omega) (by omega) (by omega) (by omega) (by omega) (by omega) (by omega) (by omega) (by omega)) (ySub.cons rfl (ySub.cons rfl (ySub.cons rfl (ySub.cons rfl (ySub.cons rfl (ySub.cons rfl (ySub.cons rfl (ySub.cons rfl (ySub.nil)))))))))) (by omega)
        · have c13 : (z12 : Int) ≠ 0 := c13
          exfalso; omega
      · have c11 : (z10 : Int) ≠ 0 := c11
        exfalso; omega
    · have c4 : (p1 : Int) ≠ 0 := c4
      exfalso; omega
  · have c1 : (p1 : Int) ≠ 0 := c1
    refine yG.load xak rfl (fun _ _ => rfl) (v := yR k0) rfl rfl ?_
    refine yG.getO A_hp.1 (w_Shorts_top0 W H_k0) rfl rfl (fun r21 H_r21 O_r21 q_r21 => ?_)
    refine yG.goto rfl (t := 15) rfl ?_
    refine yG.store1 xak (L' := [(2, yR r21), (0, yR k0), (1, yI (p1))]) rfl (fun _ _ => rfl) rfl rfl ?_
    refine yG.load xak rfl (fun _ _ => rfl) (v := yR k0) rfl rfl ?_
    refine yG.getO A_hp.1 (w_Shorts_whole W H_k0) rfl rfl (fun r22 H_r22 O_r22 q_r22 => ?_)
    refine yG.load xik rfl (fun _ _ => rfl) (v := yI (p1)) rfl rfl ?_
    refine yG.ifz rfl (t := 28) rfl ⟨by omega, by omega⟩ (fun c23 => ?_) (fun c23 => ?_)
    · have c23 : (p1 : Int) = 0 := c23
      exfalso; omega
    · have c23 : (p1 : Int) ≠ 0 := c23
      refine yG.num (c := 0) rfl (fun _ _ => rfl) (by decide) ?_
      refine yG.goto rfl (t := 29) rfl ?_
      refine yG.aaldO (r := 35) A_hp.1 (v_Big2 W H_r22) rfl rfl rfl (by omega) (by omega) (fun r24 H_r24 q_r24 => ?_)
      obtain ⟨n_r24, N_r24⟩ : ∃ n : Int, n = ((zat G r24 : Nat) : Int) := ⟨_, rfl⟩
      have L_r24 := n_Big W H_r24
      refine yG.store1 xak (L' := [(3, yR r24), (2, yR r21), (0, yR k0), (1, yI (p1))]) rfl (fun _ _ => rfl) rfl rfl ?_
      refine yG.load xak rfl (fun _ _ => rfl) (v := yR k0) rfl rfl ?_
      refine yG.getO A_hp.1 (w_Shorts_shape W H_k0) rfl rfl (fun r25 H_r25 O_r25 q_r25 => ?_)
      refine yG.load xak rfl (fun _ _ => rfl) (v := yR k0) rfl rfl ?_
      refine yG.getO A_hp.1 (w_Shorts_taken W H_k0) rfl rfl (fun r26 H_r26 O_r26 q_r26 => ?_)
      refine yG.num (c := 1) rfl (fun _ _ => rfl) (by decide) ?_
      refine yG.invV (rest := []) A_hp.1 (bOb (d_Shape W) H_r25) rfl rfl rfl rfl (c_Shape_number_21 W (d + 3) A_hp.1 H_r25 H_r26) (fun rv h27 q9 => ?_)
      obtain ⟨⟨z28, rfl, l_z28, u_z28, R_z28⟩, B_h27⟩ := q9
      have A_h27 := A_hp.tr B_h27 (by decide)
      have : ys h27 n0 5 = ys hp n0 5 := B_h27.ys H_n0 (by decide)
      have : ys h27 k0 8 = ys hp k0 8 := B_h27.ys H_k0 (by decide)
      have qq5 : zsl h27 k0 1 = yR n0 := (B_h27.sl H_k0 (by decide)).trans Q_n0
      have qq6 : zsl h27 k0 0 = yR r25 := (B_h27.sl H_k0 (by decide)).trans q_r25
      show yG _ _ _ _ _ _ _ _ _ _ (yI z28 :: []) _
      refine yG.store1 xik (L' := [(4, yI (z28)), (3, yR r24), (2, yR r21), (0, yR k0), (1, yI (p1))]) rfl (fun _ _ => rfl) rfl rfl ?_
      refine yG.load xak rfl (fun _ _ => rfl) (v := yR k0) rfl rfl ?_
      refine yG.invV (rest := []) A_h27.1 (bOb (d_Shorts W) H_k0) rfl rfl rfl rfl (c_Shorts_isOnLine W (d + 3) A_h27.1 H_k0 H_n0 qq5) (fun rv hp9 q9 => ?_)
      obtain ⟨⟨z29, rfl, l_z29, u_z29, R_z29⟩, e9⟩ := q9
      rw [e9]
      show yG _ _ _ _ _ _ _ _ _ _ (yI z29 :: []) _
      refine yG.ifz rfl (t := 59) rfl ⟨by omega, by omega⟩ (fun c30 => ?_) (fun c30 => ?_)
      · have c30 : (z29 : Int) = 0 := c30
        refine yG.load xik rfl (fun _ _ => rfl) (v := yI (z28)) rfl rfl ?_
        refine yG.store1 xik (L' := [(5, yI (z28)), (4, yI (z28)), (3, yR r24), (2, yR r21), (0, yR k0), (1, yI (p1))]) rfl (fun _ _ => rfl) rfl rfl ?_
        refine yG.load xak rfl (fun _ _ => rfl) (v := yR k0) rfl rfl ?_
        refine yG.invV (rest := []) A_h27.1 (bOb (d_Shorts W) H_k0) rfl rfl rfl rfl (c_Shorts_isOnLine W (d + 3) A_h27.1 H_k0 H_n0 qq5) (fun rv hp9 q9 => ?_)
        obtain ⟨⟨z31, rfl, l_z31, u_z31, R_z31⟩, e9⟩ := q9
        rw [e9]
        show yG _ _ _ _ _ _ _ _ _ _ (yI z31 :: []) _
        refine yG.ifz rfl (t := 75) rfl ⟨by omega, by omega⟩ (fun c32 => ?_) (fun c32 => ?_)
        · have c32 : (z31 : Int) = 0 := c32
          refine yG.load xak rfl (fun _ _ => rfl) (v := yR k0) rfl rfl ?_
          refine yG.getS9 A_h27.1 (w_Shorts_shape W H_k0) qq6 rfl rfl ?_
          refine yG.getO A_h27.1 (w_Shape_row W H_r25) rfl rfl (fun r33 H_r33 O_r33 q_r33 => ?_)
          refine yG.load xak rfl (fun _ _ => rfl) (v := yR k0) rfl rfl ?_
          refine yG.getI A_h27.1 (w_Shorts_place W H_k0) rfl rfl (fun z34 e_z34 i_z34 l_z34 u_z34 => ?_)
          refine yG.iald A_h27.1 (v_Shape_row W H_r33) rfl (by omega) (by omega) (fun z35 e_z35 i_z35 l_z35 u_z35 => ?_)
          refine yG.store1 xik (L' := [(6, yI (z35)), (5, yI (z28)), (4, yI (z28)), (3, yR r24), (2, yR r21), (0, yR k0), (1, yI (p1))]) rfl (fun _ _ => rfl) rfl rfl ?_
          refine yG.load xak rfl (fun _ _ => rfl) (v := yR k0) rfl rfl ?_
          refine yG.getO A_h27.1 (w_Shorts_solver W H_k0) rfl rfl (fun r36 H_r36 O_r36 q_r36 => ?_)
          refine yG.load xak rfl (fun _ _ => rfl) (v := yR k0) rfl rfl ?_
          refine yG.load xik rfl (fun _ _ => rfl) (v := yI (p1)) rfl rfl ?_
          refine yG.invV (rest := [yR r36]) A_h27.1 (bOb (d_Shorts W) H_k0) rfl rfl rfl rfl (c_Shorts_bits W (d + 1) A_h27.1 H_k0 (p1) (by omega) (by omega)) (fun rv hp9 q9 => ?_)
          obtain ⟨⟨z37, rfl, l_z37, u_z37, R_z37⟩, e9⟩ := q9
          rw [e9]
          show yG _ _ _ _ _ _ _ _ _ _ (yI z37 :: [yR r36]) _
          refine yG.load xak rfl (fun _ _ => rfl) (v := yR r21) rfl rfl ?_
          refine yG.load xak rfl (fun _ _ => rfl) (v := yR r24) rfl rfl ?_
          refine yG.invV (rest := []) A_h27.1 (bOb (d_Solver W) H_r36) rfl rfl rfl rfl (c_Solver_start__17 W (d + 1) A_h27.1 H_r36 H_r21 H_r24 (z37) (by omega) (by omega)) (fun rv h38 q9 => ?_)
          obtain ⟨⟨rfl, R_z39⟩, B_h38⟩ := q9
          have A_h38 := A_h27.tr B_h38 (by decide)
          have : ys h38 n0 5 = ys h27 n0 5 := B_h38.ys H_n0 (by decide)
          have : ys h38 k0 8 = ys h27 k0 8 := B_h38.ys H_k0 (by decide)
          have qq7 : zsl h38 k0 1 = yR n0 := (B_h38.sl H_k0 (by decide)).trans qq5
          have qq8 : zsl h38 k0 0 = yR r25 := (B_h38.sl H_k0 (by decide)).trans qq6
          show yG _ _ _ _ _ _ _ _ _ _ [] _
          refine yG.num (c := 0) rfl (fun _ _ => rfl) (by decide) ?_
          refine yG.store1 xik (L' := [(7, yI (0)), (6, yI (z35)), (5, yI (z28)), (4, yI (z28)), (3, yR r24), (2, yR r21), (0, yR k0), (1, yI (p1))]) rfl (fun _ _ => rfl) rfl rfl ?_
          exact yG.mono (yG.sub (i_106 r21 r24 (z28) (z28) (z35) (0) (ys h38 n0 5) (ys h38 k0 8) h38 A_h38 H_r21 H_r24 rfl rfl (by omega) (by omega) (by omega) (by omega) (by omega) (by omega) (by omega) (by omega) (by omega) (by omega) (by omega) (by omega) (by omega) (by omega) (by omega) (by omega) (by omega)) (ySub.cons rfl (ySub.cons rfl (ySub.cons rfl (ySub.cons rfl (ySub.cons rfl (ySub.cons rfl (ySub.cons rfl (ySub.cons rfl (ySub.nil)))))))))) (by omega)
        · have c32 : (z31 : Int) ≠ 0 := c32
          exfalso; omega
      · have c30 : (z29 : Int) ≠ 0 := c30
        exfalso; omega
theorem c_Shorts_weighOdd {hp : xH} (W : bW G) (d : Nat) (hT : zTy G hp) {k0 : Nat} (H_k0 : bRo G 75 k0) {k1 : Nat} (H_k1 : bRo G 35 k1) {k2 : Nat} (H_k2 : bRo G 35 k2) : yC (xcall 89 xfts xpools xms (d + 4)) 248 [yR k0, yR k1, yR k2] hp (fun rv hp' => (rv = none ∧ True) ∧ bAx G [(34359738368, 1), (34359738368, 2), (68719476736, 256)] hp hp') := by
  have A_hp : bAx G [(34359738368, 1), (34359738368, 2), (68719476736, 256)] hp hp := bAx.rf hT
  obtain ⟨n_k1, N_k1⟩ : ∃ n : Int, n = ((zat G k1 : Nat) : Int) := ⟨_, rfl⟩
  have L_k1 := n_Big W H_k1
  obtain ⟨n_k2, N_k2⟩ : ∃ n : Int, n = ((zat G k2 : Nat) : Int) := ⟨_, rfl⟩
  have L_k2 := n_Big W H_k2
  refine yC.of (M := (xt_X9_weighOdd, (6, (0, (10, []))))) rfl rfl (N := 309) (yfuel (by decide)) ?_
  show yG 89 xfts (xcall 89 xfts xpools xms (d + 3)) (xpool xp_RX9) [] xt_X9_weighOdd (yP 0 (fun rv hp' => (rv = none ∧ True) ∧ bAx G [(34359738368, 1), (34359738368, 2), (68719476736, 256)] hp hp')) 309 0 [(0, yR k0), (1, yR k1), (2, yR k2)] [] hp
  refine yG.load xak rfl (fun _ _ => rfl) (v := yR k0) rfl rfl ?_
  refine yG.getO A_hp.1 (w_Shorts_help W H_k0) rfl rfl (fun r1 H_r1 O_r1 q_r1 => ?_)
  refine yG.num (c := 0) rfl (fun _ _ => rfl) (by decide) ?_
  refine yG.aaldO (r := 35) A_hp.1 (v_Big4 W H_r1) rfl rfl rfl (by omega) (by omega) (fun r2 H_r2 q_r2 => ?_)
  obtain ⟨n_r2, N_r2⟩ : ∃ n : Int, n = ((zat G r2 : Nat) : Int) := ⟨_, rfl⟩
  have L_r2 := n_Big W H_r2
  refine yG.store1 xak (L' := [(3, yR r2), (0, yR k0), (1, yR k1), (2, yR k2)]) rfl (fun _ _ => rfl) rfl rfl ?_
  refine yG.load xak rfl (fun _ _ => rfl) (v := yR k0) rfl rfl ?_
  refine yG.getS9 A_hp.1 (w_Shorts_help W H_k0) q_r1 rfl rfl ?_
  refine yG.num (c := 1) rfl (fun _ _ => rfl) (by decide) ?_
  refine yG.aaldO (r := 35) A_hp.1 (v_Big4 W H_r1) rfl rfl rfl (by omega) (by omega) (fun r3 H_r3 q_r3 => ?_)
  obtain ⟨n_r3, N_r3⟩ : ∃ n : Int, n = ((zat G r3 : Nat) : Int) := ⟨_, rfl⟩
  have L_r3 := n_Big W H_r3
  refine yG.store1 xak (L' := [(4, yR r3), (3, yR r2), (0, yR k0), (1, yR k1), (2, yR k2)]) rfl (fun _ _ => rfl) rfl rfl ?_
  refine yG.load xak rfl (fun _ _ => rfl) (v := yR k0) rfl rfl ?_
  refine yG.getS9 A_hp.1 (w_Shorts_help W H_k0) q_r1 rfl rfl ?_
  refine yG.num (c := 2) rfl (fun _ _ => rfl) (by decide) ?_
  refine yG.aaldO (r := 35) A_hp.1 (v_Big4 W H_r1) rfl rfl rfl (by omega) (by omega) (fun r4 H_r4 q_r4 => ?_)
  obtain ⟨n_r4, N_r4⟩ : ∃ n : Int, n = ((zat G r4 : Nat) : Int) := ⟨_, rfl⟩
  have L_r4 := n_Big W H_r4
  refine yG.store1 xak (L' := [(5, yR r4), (4, yR r3), (3, yR r2), (0, yR k0), (1, yR k1), (2, yR k2)]) rfl (fun _ _ => rfl) rfl rfl ?_
  refine yG.load xak rfl (fun _ _ => rfl) (v := yR r2) rfl rfl ?_
  refine yG.load xak rfl (fun _ _ => rfl) (v := yR k1) rfl rfl ?_
  refine yG.load xak rfl (fun _ _ => rfl) (v := yR k0) rfl rfl ?_
  refine yG.getO A_hp.1 (w_Shorts_whole W H_k0) rfl rfl (fun r5 H_r5 O_r5 q_r5 => ?_)
  refine yG.num (c := 0) rfl (fun _ _ => rfl) (by decide) ?_
  refine yG.aaldO (r := 35) A_hp.1 (v_Big2 W H_r5) rfl rfl rfl (by omega) (by omega) (fun r6 H_r6 q_r6 => ?_)
  obtain ⟨n_r6, N_r6⟩ : ∃ n : Int, n = ((zat G r6 : Nat) : Int) := ⟨_, rfl⟩
  have L_r6 := n_Big W H_r6
  refine yG.invV (rest := []) A_hp.1 (bOb (d_Big W) H_r2) rfl rfl rfl rfl (c_Big_product W (d + 1) A_hp.1 H_r2 H_k1 H_r6) (fun rv h7 q9 => ?_)
  obtain ⟨⟨rfl, R_z8⟩, B_h7⟩ := q9
  have A_h7 := A_hp.tr B_h7 (by decide)
  have qq1 : zsl h7 k0 17 = yR r1 := (B_h7.sl H_k0 (by decide)).trans q_r1
  have qq2 : zsl h7 k0 11 = yR r5 := (B_h7.sl H_k0 (by decide)).trans q_r5
  have qq3 : zsl h7 r5 (0 : Int).toNat = yR r6 := (B_h7.sl H_r5 (bNo_ok (by decide) _)).trans q_r6
  show yG _ _ _ _ _ _ _ _ _ _ [] _
  refine yG.load xak rfl (fun _ _ => rfl) (v := yR r4) rfl rfl ?_
  refine yG.load xak rfl (fun _ _ => rfl) (v := yR k0) rfl rfl ?_
  refine yG.getS9 A_h7.1 (w_Shorts_whole W H_k0) qq2 rfl rfl ?_
  refine yG.num (c := 0) rfl (fun _ _ => rfl) (by decide) ?_
  refine yG.aaldO (r := 35) A_h7.1 (v_Big2 W H_r5) rfl rfl rfl (by omega) (by omega) (fun r9 H_r9 q_r9 => ?_)
  obtain ⟨n_r9, N_r9⟩ : ∃ n : Int, n = ((zat G r9 : Nat) : Int) := ⟨_, rfl⟩
  have L_r9 := n_Big W H_r9
  have s_r9 : r9 = r6 := by have e9 := q_r9.symm.trans qq3; cases e9; rfl
  rw [s_r9]
  refine yG.invV (rest := []) A_h7.1 (bOb (d_Big W) H_r4) rfl rfl rfl rfl (c_Big_copy W (d + 1) A_h7.1 H_r4 H_r6) (fun rv h10 q9 => ?_)
  obtain ⟨⟨rfl, R_z11⟩, B_h10⟩ := q9
  have A_h10 := A_h7.tr B_h10 (by decide)
  have qq4 : zsl h10 k0 17 = yR r1 := (B_h10.sl H_k0 (by decide)).trans qq1
  have qq5 : zsl h10 k0 11 = yR r5 := (B_h10.sl H_k0 (by decide)).trans qq2
  have qq6 : zsl h10 r5 (0 : Int).toNat = yR r6 := (B_h10.sl H_r5 (bNo_ok (by decide) _)).trans qq3
  show yG _ _ _ _ _ _ _ _ _ _ [] _
  refine yG.load xak rfl (fun _ _ => rfl) (v := yR r4) rfl rfl ?_
  refine yG.num (c := 3) rfl (fun _ _ => rfl) (by decide) ?_
  refine yG.load xak rfl (fun _ _ => rfl) (v := yR k0) rfl rfl ?_
  refine yG.getO A_h10.1 (w_Shorts_net W H_k0) rfl rfl (fun r12 H_r12 O_r12 q_r12 => ?_)
  refine yG.getI A_h10.1 (w_Net_shortZ W H_r12) rfl rfl (fun z13 e_z13 i_z13 l_z13 u_z13 => ?_)
  refine yG.imul rfl ?_
  refine yG.i2l rfl ⟨by omega, by omega⟩ ?_
  refine yG.invV (rest := []) A_h10.1 (bOb (d_Big W) H_r4) rfl rfl rfl rfl (c_Big_scale W (d + 1) A_h10.1 H_r4 (3 * z13) (by omega) (by omega)) (fun rv h14 q9 => ?_)
  obtain ⟨⟨rfl, R_z15⟩, B_h14⟩ := q9
  have A_h14 := A_h10.tr B_h14 (by decide)
  have qq7 : zsl h14 k0 17 = yR r1 := (B_h14.sl H_k0 (by decide)).trans qq4
  have qq8 : zsl h14 k0 11 = yR r5 := (B_h14.sl H_k0 (by decide)).trans qq5
  have qq9 : zsl h14 r5 (0 : Int).toNat = yR r6 := (B_h14.sl H_r5 (bNo_ok (by decide) _)).trans qq6
  have qq10 : zsl h14 k0 1 = yR r12 := (B_h14.sl H_k0 (by decide)).trans q_r12
  show yG _ _ _ _ _ _ _ _ _ _ [] _
  refine yG.load xak rfl (fun _ _ => rfl) (v := yR r4) rfl rfl ?_
  refine yG.load xak rfl (fun _ _ => rfl) (v := yR k2) rfl rfl ?_
  refine yG.invV (rest := []) A_h14.1 (bOb (d_Big W) H_r4) rfl rfl rfl rfl (c_Big_more W d A_h14.1 H_r4 H_k2) (fun rv h16 q9 => ?_)
  obtain ⟨⟨rfl, R_z17⟩, B_h16⟩ := q9
  have A_h16 := A_h14.tr B_h16 (by decide)
  have qq11 : zsl h16 k0 17 = yR r1 := (B_h16.sl H_k0 (by decide)).trans qq7
  have qq12 : zsl h16 k0 11 = yR r5 := (B_h16.sl H_k0 (by decide)).trans qq8
  have qq13 : zsl h16 r5 (0 : Int).toNat = yR r6 := (B_h16.sl H_r5 (bNo_ok (by decide) _)).trans qq9
  have qq14 : zsl h16 k0 1 = yR r12 := (B_h16.sl H_k0 (by decide)).trans qq10
  show yG _ _ _ _ _ _ _ _ _ _ [] _
  refine yG.load xak rfl (fun _ _ => rfl) (v := yR r3) rfl rfl ?_
  refine yG.load xak rfl (fun _ _ => rfl) (v := yR r4) rfl rfl ?_
  refine yG.load xak rfl (fun _ _ => rfl) (v := yR k0) rfl rfl ?_
  refine yG.getS9 A_h16.1 (w_Shorts_whole W H_k0) qq12 rfl rfl ?_
  refine yG.num (c := 1) rfl (fun _ _ => rfl) (by decide) ?_
  refine yG.aaldO (r := 35) A_h16.1 (v_Big2 W H_r5) rfl rfl rfl (by omega) (by omega) (fun r18 H_r18 q_r18 => ?_)
  obtain ⟨n_r18, N_r18⟩ : ∃ n : Int, n = ((zat G r18 : Nat) : Int) := ⟨_, rfl⟩
  have L_r18 := n_Big W H_r18
  refine yG.invV (rest := []) A_h16.1 (bOb (d_Big W) H_r3) rfl rfl rfl rfl (c_Big_product W (d + 1) A_h16.1 H_r3 H_r4 H_r18) (fun rv h19 q9 => ?_)
  obtain ⟨⟨rfl, R_z20⟩, B_h19⟩ := q9
  have A_h19 := A_h16.tr B_h19 (by decide)
  have qq15 : zsl h19 k0 17 = yR r1 := (B_h19.sl H_k0 (by decide)).trans qq11
  have qq16 : zsl h19 k0 11 = yR r5 := (B_h19.sl H_k0 (by decide)).trans qq12
  have qq17 : zsl h19 r5 (0 : Int).toNat = yR r6 := (B_h19.sl H_r5 (bNo_ok (by decide) _)).trans qq13
  have qq18 : zsl h19 k0 1 = yR r12 := (B_h19.sl H_k0 (by decide)).trans qq14
  have qq19 : zsl h19 r5 (1 : Int).toNat = yR r18 := (B_h19.sl H_r5 (bNo_ok (by decide) _)).trans q_r18
  show yG _ _ _ _ _ _ _ _ _ _ [] _
  refine yG.load xak rfl (fun _ _ => rfl) (v := yR k0) rfl rfl ?_
  refine yG.getS9 A_h19.1 (w_Shorts_net W H_k0) qq18 rfl rfl ?_
  refine yG.getI A_h19.1 (w_Net_shortKind W H_r12) rfl rfl (fun z21 e_z21 i_z21 l_z21 u_z21 => ?_)
  refine yG.num (c := 1) rfl (fun _ _ => rfl) (by decide) ?_
  refine yG.icmp rfl (t := 163) rfl ⟨by omega, by omega⟩ ⟨by omega, by omega⟩ (fun c22 => ?_) (fun c22 => ?_)
  · have c22 : (z21 : Int) ≠ 1 := c22
    refine yG.load xak rfl (fun _ _ => rfl) (v := yR k0) rfl rfl ?_
    refine yG.getO A_h19.1 (w_Shorts_part W H_k0) rfl rfl (fun r23 H_r23 O_r23 q_r23 => ?_)
    refine yG.num (c := 1) rfl (fun _ _ => rfl) (by decide) ?_
    refine yG.aaldO (r := 35) A_h19.1 (v_Big3 W H_r23) rfl rfl rfl (by omega) (by omega) (fun r24 H_r24 q_r24 => ?_)
    obtain ⟨n_r24, N_r24⟩ : ∃ n : Int, n = ((zat G r24 : Nat) : Int) := ⟨_, rfl⟩
    have L_r24 := n_Big W H_r24
    refine yG.load xak rfl (fun _ _ => rfl) (v := yR r2) rfl rfl ?_
    refine yG.invV (rest := []) A_h19.1 (bOb (d_Big W) H_r24) rfl rfl rfl rfl (c_Big_copy W (d + 1) A_h19.1 H_r24 H_r2) (fun rv h25 q9 => ?_)
    obtain ⟨⟨rfl, R_z26⟩, B_h25⟩ := q9
    have A_h25 := A_h19.tr B_h25 (by decide)
    have qq20 : zsl h25 k0 17 = yR r1 := (B_h25.sl H_k0 (by decide)).trans qq15
    have qq21 : zsl h25 k0 11 = yR r5 := (B_h25.sl H_k0 (by decide)).trans qq16
    have qq22 : zsl h25 r5 (0 : Int).toNat = yR r6 := (B_h25.sl H_r5 (bNo_ok (by decide) _)).trans qq17
    have qq23 : zsl h25 k0 1 = yR r12 := (B_h25.sl H_k0 (by decide)).trans qq18
    have qq24 : zsl h25 r5 (1 : Int).toNat = yR r18 := (B_h25.sl H_r5 (bNo_ok (by decide) _)).trans qq19
    have qq25 : zsl h25 k0 12 = yR r23 := (B_h25.sl H_k0 (by decide)).trans q_r23
    have qq26 : zsl h25 r23 (1 : Int).toNat = yR r24 := (B_h25.sl H_r23 (bNo_ok (by decide) _)).trans q_r24
    show yG _ _ _ _ _ _ _ _ _ _ [] _
    refine yG.load xak rfl (fun _ _ => rfl) (v := yR k0) rfl rfl ?_
    refine yG.getS9 A_h25.1 (w_Shorts_part W H_k0) qq25 rfl rfl ?_
    refine yG.num (c := 1) rfl (fun _ _ => rfl) (by decide) ?_
    refine yG.aaldO (r := 35) A_h25.1 (v_Big3 W H_r23) rfl rfl rfl (by omega) (by omega) (fun r27 H_r27 q_r27 => ?_)
    obtain ⟨n_r27, N_r27⟩ : ∃ n : Int, n = ((zat G r27 : Nat) : Int) := ⟨_, rfl⟩
    have L_r27 := n_Big W H_r27
    have s_r27 : r27 = r24 := by have e9 := q_r27.symm.trans qq26; cases e9; rfl
    rw [s_r27]
    refine yG.load xak rfl (fun _ _ => rfl) (v := yR r3) rfl rfl ?_
    refine yG.invV (rest := []) A_h25.1 (bOb (d_Big W) H_r24) rfl rfl rfl rfl (c_Big_more W d A_h25.1 H_r24 H_r3) (fun rv h28 q9 => ?_)
    obtain ⟨⟨rfl, R_z29⟩, B_h28⟩ := q9
    have A_h28 := A_h25.tr B_h28 (by decide)
    have qq27 : zsl h28 k0 17 = yR r1 := (B_h28.sl H_k0 (by decide)).trans qq20
    have qq28 : zsl h28 k0 11 = yR r5 := (B_h28.sl H_k0 (by decide)).trans qq21
    have qq29 : zsl h28 r5 (0 : Int).toNat = yR r6 := (B_h28.sl H_r5 (bNo_ok (by decide) _)).trans qq22
    have qq30 : zsl h28 k0 1 = yR r12 := (B_h28.sl H_k0 (by decide)).trans qq23
    have qq31 : zsl h28 r5 (1 : Int).toNat = yR r18 := (B_h28.sl H_r5 (bNo_ok (by decide) _)).trans qq24
    have qq32 : zsl h28 k0 12 = yR r23 := (B_h28.sl H_k0 (by decide)).trans qq25
    have qq33 : zsl h28 r23 (1 : Int).toNat = yR r24 := (B_h28.sl H_r23 (bNo_ok (by decide) _)).trans qq26
    show yG _ _ _ _ _ _ _ _ _ _ [] _
    refine yG.load xak rfl (fun _ _ => rfl) (v := yR k0) rfl rfl ?_
    refine yG.getS9 A_h28.1 (w_Shorts_part W H_k0) qq32 rfl rfl ?_
    refine yG.num (c := 2) rfl (fun _ _ => rfl) (by decide) ?_
    refine yG.aaldO (r := 35) A_h28.1 (v_Big3 W H_r23) rfl rfl rfl (by omega) (by omega) (fun r30 H_r30 q_r30 => ?_)
    obtain ⟨n_r30, N_r30⟩ : ∃ n : Int, n = ((zat G r30 : Nat) : Int) := ⟨_, rfl⟩
    have L_r30 := n_Big W H_r30
    refine yG.load xak rfl (fun _ _ => rfl) (v := yR r3) rfl rfl ?_
    refine yG.invV (rest := []) A_h28.1 (bOb (d_Big W) H_r30) rfl rfl rfl rfl (c_Big_copy W (d + 1) A_h28.1 H_r30 H_r3) (fun rv h31 q9 => ?_)
    obtain ⟨⟨rfl, R_z32⟩, B_h31⟩ := q9
    have A_h31 := A_h28.tr B_h31 (by decide)
    have qq34 : zsl h31 k0 17 = yR r1 := (B_h31.sl H_k0 (by decide)).trans qq27
    have qq35 : zsl h31 k0 11 = yR r5 := (B_h31.sl H_k0 (by decide)).trans qq28
    have qq36 : zsl h31 r5 (0 : Int).toNat = yR r6 := (B_h31.sl H_r5 (bNo_ok (by decide) _)).trans qq29
    have qq37 : zsl h31 k0 1 = yR r12 := (B_h31.sl H_k0 (by decide)).trans qq30
    have qq38 : zsl h31 r5 (1 : Int).toNat = yR r18 := (B_h31.sl H_r5 (bNo_ok (by decide) _)).trans qq31
    have qq39 : zsl h31 k0 12 = yR r23 := (B_h31.sl H_k0 (by decide)).trans qq32
    have qq40 : zsl h31 r23 (1 : Int).toNat = yR r24 := (B_h31.sl H_r23 (bNo_ok (by decide) _)).trans qq33
    have qq41 : zsl h31 r23 (2 : Int).toNat = yR r30 := (B_h31.sl H_r23 (bNo_ok (by decide) _)).trans q_r30
    show yG _ _ _ _ _ _ _ _ _ _ [] _
    refine yG.load xak rfl (fun _ _ => rfl) (v := yR k0) rfl rfl ?_
    refine yG.getS9 A_h31.1 (w_Shorts_part W H_k0) qq39 rfl rfl ?_
    refine yG.num (c := 2) rfl (fun _ _ => rfl) (by decide) ?_
    refine yG.aaldO (r := 35) A_h31.1 (v_Big3 W H_r23) rfl rfl rfl (by omega) (by omega) (fun r33 H_r33 q_r33 => ?_)
    obtain ⟨n_r33, N_r33⟩ : ∃ n : Int, n = ((zat G r33 : Nat) : Int) := ⟨_, rfl⟩
    have L_r33 := n_Big W H_r33
    have s_r33 : r33 = r30 := by have e9 := q_r33.symm.trans qq41; cases e9; rfl
    rw [s_r33]
    refine yG.invV (rest := []) A_h31.1 (bOb (d_Big W) H_r30) rfl rfl rfl rfl (c_Big_negate W (d + 2) A_h31.1 H_r30) (fun rv h34 q9 => ?_)
    obtain ⟨⟨rfl, R_z35⟩, B_h34⟩ := q9
    have A_h34 := A_h31.tr B_h34 (by decide)
    have qq42 : zsl h34 k0 17 = yR r1 := (B_h34.sl H_k0 (by decide)).trans qq34
    have qq43 : zsl h34 k0 11 = yR r5 := (B_h34.sl H_k0 (by decide)).trans qq35
    have qq44 : zsl h34 r5 (0 : Int).toNat = yR r6 := (B_h34.sl H_r5 (bNo_ok (by decide) _)).trans qq36
    have qq45 : zsl h34 k0 1 = yR r12 := (B_h34.sl H_k0 (by decide)).trans qq37
    have qq46 : zsl h34 r5 (1 : Int).toNat = yR r18 := (B_h34.sl H_r5 (bNo_ok (by decide) _)).trans qq38
    have qq47 : zsl h34 k0 12 = yR r23 := (B_h34.sl H_k0 (by decide)).trans qq39
    have qq48 : zsl h34 r23 (1 : Int).toNat = yR r24 := (B_h34.sl H_r23 (bNo_ok (by decide) _)).trans qq40
    have qq49 : zsl h34 r23 (2 : Int).toNat = yR r30 := (B_h34.sl H_r23 (bNo_ok (by decide) _)).trans qq41
    show yG _ _ _ _ _ _ _ _ _ _ [] _
    refine yG.load xak rfl (fun _ _ => rfl) (v := yR k0) rfl rfl ?_
    refine yG.getS9 A_h34.1 (w_Shorts_part W H_k0) qq47 rfl rfl ?_
    refine yG.num (c := 0) rfl (fun _ _ => rfl) (by decide) ?_
    refine yG.aaldO (r := 35) A_h34.1 (v_Big3 W H_r23) rfl rfl rfl (by omega) (by omega) (fun r36 H_r36 q_r36 => ?_)
    obtain ⟨n_r36, N_r36⟩ : ∃ n : Int, n = ((zat G r36 : Nat) : Int) := ⟨_, rfl⟩
    have L_r36 := n_Big W H_r36
    refine yG.load xak rfl (fun _ _ => rfl) (v := yR k0) rfl rfl ?_
    refine yG.getS9 A_h34.1 (w_Shorts_whole W H_k0) qq43 rfl rfl ?_
    refine yG.num (c := 1) rfl (fun _ _ => rfl) (by decide) ?_
    refine yG.aaldO (r := 35) A_h34.1 (v_Big2 W H_r5) rfl rfl rfl (by omega) (by omega) (fun r37 H_r37 q_r37 => ?_)
    obtain ⟨n_r37, N_r37⟩ : ∃ n : Int, n = ((zat G r37 : Nat) : Int) := ⟨_, rfl⟩
    have L_r37 := n_Big W H_r37
    have s_r37 : r37 = r18 := by have e9 := q_r37.symm.trans qq46; cases e9; rfl
    rw [s_r37]
    refine yG.load xak rfl (fun _ _ => rfl) (v := yR k1) rfl rfl ?_
    refine yG.invV (rest := []) A_h34.1 (bOb (d_Big W) H_r36) rfl rfl rfl rfl (c_Big_product W (d + 1) A_h34.1 H_r36 H_r18 H_k1) (fun rv h38 q9 => ?_)
    obtain ⟨⟨rfl, R_z39⟩, B_h38⟩ := q9
    have A_h38 := A_h34.tr B_h38 (by decide)
    have qq50 : zsl h38 k0 17 = yR r1 := (B_h38.sl H_k0 (by decide)).trans qq42
    have qq51 : zsl h38 k0 11 = yR r5 := (B_h38.sl H_k0 (by decide)).trans qq43
    have qq52 : zsl h38 r5 (0 : Int).toNat = yR r6 := (B_h38.sl H_r5 (bNo_ok (by decide) _)).trans qq44
    have qq53 : zsl h38 k0 1 = yR r12 := (B_h38.sl H_k0 (by decide)).trans qq45
    have qq54 : zsl h38 r5 (1 : Int).toNat = yR r18 := (B_h38.sl H_r5 (bNo_ok (by decide) _)).trans qq46
    have qq55 : zsl h38 k0 12 = yR r23 := (B_h38.sl H_k0 (by decide)).trans qq47
    have qq56 : zsl h38 r23 (1 : Int).toNat = yR r24 := (B_h38.sl H_r23 (bNo_ok (by decide) _)).trans qq48
    have qq57 : zsl h38 r23 (2 : Int).toNat = yR r30 := (B_h38.sl H_r23 (bNo_ok (by decide) _)).trans qq49
    have qq58 : zsl h38 r23 (0 : Int).toNat = yR r36 := (B_h38.sl H_r23 (bNo_ok (by decide) _)).trans q_r36
    show yG _ _ _ _ _ _ _ _ _ _ [] _
    refine yG.load xak rfl (fun _ _ => rfl) (v := yR k0) rfl rfl ?_
    refine yG.getS9 A_h38.1 (w_Shorts_part W H_k0) qq55 rfl rfl ?_
    refine yG.num (c := 0) rfl (fun _ _ => rfl) (by decide) ?_
    refine yG.aaldO (r := 35) A_h38.1 (v_Big3 W H_r23) rfl rfl rfl (by omega) (by omega) (fun r40 H_r40 q_r40 => ?_)
    obtain ⟨n_r40, N_r40⟩ : ∃ n : Int, n = ((zat G r40 : Nat) : Int) := ⟨_, rfl⟩
    have L_r40 := n_Big W H_r40
    have s_r40 : r40 = r36 := by have e9 := q_r40.symm.trans qq58; cases e9; rfl
    rw [s_r40]
    refine yG.invV (rest := []) A_h38.1 (bOb (d_Big W) H_r36) rfl rfl rfl rfl (c_Big_negate W (d + 2) A_h38.1 H_r36) (fun rv h41 q9 => ?_)
    obtain ⟨⟨rfl, R_z42⟩, B_h41⟩ := q9
    have A_h41 := A_h38.tr B_h41 (by decide)
    have qq59 : zsl h41 k0 17 = yR r1 := (B_h41.sl H_k0 (by decide)).trans qq50
    have qq60 : zsl h41 k0 11 = yR r5 := (B_h41.sl H_k0 (by decide)).trans qq51
    have qq61 : zsl h41 r5 (0 : Int).toNat = yR r6 := (B_h41.sl H_r5 (bNo_ok (by decide) _)).trans qq52
    have qq62 : zsl h41 k0 1 = yR r12 := (B_h41.sl H_k0 (by decide)).trans qq53
    have qq63 : zsl h41 r5 (1 : Int).toNat = yR r18 := (B_h41.sl H_r5 (bNo_ok (by decide) _)).trans qq54
    have qq64 : zsl h41 k0 12 = yR r23 := (B_h41.sl H_k0 (by decide)).trans qq55
    have qq65 : zsl h41 r23 (1 : Int).toNat = yR r24 := (B_h41.sl H_r23 (bNo_ok (by decide) _)).trans qq56
    have qq66 : zsl h41 r23 (2 : Int).toNat = yR r30 := (B_h41.sl H_r23 (bNo_ok (by decide) _)).trans qq57
    have qq67 : zsl h41 r23 (0 : Int).toNat = yR r36 := (B_h41.sl H_r23 (bNo_ok (by decide) _)).trans qq58
    show yG _ _ _ _ _ _ _ _ _ _ [] _
    refine yG.load xak rfl (fun _ _ => rfl) (v := yR r3) rfl rfl ?_
    refine yG.numl (c := 2) rfl (fun _ _ => rfl) (by decide) ?_
    refine yG.invV (rest := []) A_h41.1 (bOb (d_Big W) H_r3) rfl rfl rfl rfl (c_Big_scale W (d + 1) A_h41.1 H_r3 (2) (by omega) (by omega)) (fun rv h43 q9 => ?_)
    obtain ⟨⟨rfl, R_z44⟩, B_h43⟩ := q9
    have A_h43 := A_h41.tr B_h43 (by decide)
    have qq68 : zsl h43 k0 17 = yR r1 := (B_h43.sl H_k0 (by decide)).trans qq59
    have qq69 : zsl h43 k0 11 = yR r5 := (B_h43.sl H_k0 (by decide)).trans qq60
    have qq70 : zsl h43 r5 (0 : Int).toNat = yR r6 := (B_h43.sl H_r5 (bNo_ok (by decide) _)).trans qq61
    have qq71 : zsl h43 k0 1 = yR r12 := (B_h43.sl H_k0 (by decide)).trans qq62
    have qq72 : zsl h43 r5 (1 : Int).toNat = yR r18 := (B_h43.sl H_r5 (bNo_ok (by decide) _)).trans qq63
    have qq73 : zsl h43 k0 12 = yR r23 := (B_h43.sl H_k0 (by decide)).trans qq64
    have qq74 : zsl h43 r23 (1 : Int).toNat = yR r24 := (B_h43.sl H_r23 (bNo_ok (by decide) _)).trans qq65
    have qq75 : zsl h43 r23 (2 : Int).toNat = yR r30 := (B_h43.sl H_r23 (bNo_ok (by decide) _)).trans qq66
    have qq76 : zsl h43 r23 (0 : Int).toNat = yR r36 := (B_h43.sl H_r23 (bNo_ok (by decide) _)).trans qq67
    show yG _ _ _ _ _ _ _ _ _ _ [] _
    refine yG.load xak rfl (fun _ _ => rfl) (v := yR r3) rfl rfl ?_
    refine yG.load xak rfl (fun _ _ => rfl) (v := yR r2) rfl rfl ?_
    refine yG.invV (rest := []) A_h43.1 (bOb (d_Big W) H_r3) rfl rfl rfl rfl (c_Big_more W d A_h43.1 H_r3 H_r2) (fun rv h45 q9 => ?_)
    obtain ⟨⟨rfl, R_z46⟩, B_h45⟩ := q9
    have A_h45 := A_h43.tr B_h45 (by decide)
    have qq77 : zsl h45 k0 17 = yR r1 := (B_h45.sl H_k0 (by decide)).trans qq68
    have qq78 : zsl h45 k0 11 = yR r5 := (B_h45.sl H_k0 (by decide)).trans qq69
    have qq79 : zsl h45 r5 (0 : Int).toNat = yR r6 := (B_h45.sl H_r5 (bNo_ok (by decide) _)).trans qq70
    have qq80 : zsl h45 k0 1 = yR r12 := (B_h45.sl H_k0 (by decide)).trans qq71
    have qq81 : zsl h45 r5 (1 : Int).toNat = yR r18 := (B_h45.sl H_r5 (bNo_ok (by decide) _)).trans qq72
    have qq82 : zsl h45 k0 12 = yR r23 := (B_h45.sl H_k0 (by decide)).trans qq73
    have qq83 : zsl h45 r23 (1 : Int).toNat = yR r24 := (B_h45.sl H_r23 (bNo_ok (by decide) _)).trans qq74
    have qq84 : zsl h45 r23 (2 : Int).toNat = yR r30 := (B_h45.sl H_r23 (bNo_ok (by decide) _)).trans qq75
    have qq85 : zsl h45 r23 (0 : Int).toNat = yR r36 := (B_h45.sl H_r23 (bNo_ok (by decide) _)).trans qq76
    show yG _ _ _ _ _ _ _ _ _ _ [] _
    refine yG.load xak rfl (fun _ _ => rfl) (v := yR k0) rfl rfl ?_
    refine yG.getO A_h45.1 (w_Shorts_below W H_k0) rfl rfl (fun r47 H_r47 O_r47 q_r47 => ?_)
    obtain ⟨n_r47, N_r47⟩ : ∃ n : Int, n = ((zat G r47 : Nat) : Int) := ⟨_, rfl⟩
    have L_r47 := n_Big W H_r47
    refine yG.load xak rfl (fun _ _ => rfl) (v := yR k1) rfl rfl ?_
    refine yG.load xak rfl (fun _ _ => rfl) (v := yR r3) rfl rfl ?_
    refine yG.invV (rest := []) A_h45.1 (bOb (d_Big W) H_r47) rfl rfl rfl rfl (c_Big_product W (d + 1) A_h45.1 H_r47 H_k1 H_r3) (fun rv h48 q9 => ?_)
    obtain ⟨⟨rfl, R_z49⟩, B_h48⟩ := q9
    have A_h48 := A_h45.tr B_h48 (by decide)
    have qq86 : zsl h48 k0 17 = yR r1 := (B_h48.sl H_k0 (by decide)).trans qq77
    have qq87 : zsl h48 k0 11 = yR r5 := (B_h48.sl H_k0 (by decide)).trans qq78
    have qq88 : zsl h48 r5 (0 : Int).toNat = yR r6 := (B_h48.sl H_r5 (bNo_ok (by decide) _)).trans qq79
    have qq89 : zsl h48 k0 1 = yR r12 := (B_h48.sl H_k0 (by decide)).trans qq80
    have qq90 : zsl h48 r5 (1 : Int).toNat = yR r18 := (B_h48.sl H_r5 (bNo_ok (by decide) _)).trans qq81
    have qq91 : zsl h48 k0 12 = yR r23 := (B_h48.sl H_k0 (by decide)).trans qq82
    have qq92 : zsl h48 r23 (1 : Int).toNat = yR r24 := (B_h48.sl H_r23 (bNo_ok (by decide) _)).trans qq83
    have qq93 : zsl h48 r23 (2 : Int).toNat = yR r30 := (B_h48.sl H_r23 (bNo_ok (by decide) _)).trans qq84
    have qq94 : zsl h48 r23 (0 : Int).toNat = yR r36 := (B_h48.sl H_r23 (bNo_ok (by decide) _)).trans qq85
    have qq95 : zsl h48 k0 13 = yR r47 := (B_h48.sl H_k0 (by decide)).trans q_r47
    show yG _ _ _ _ _ _ _ _ _ _ [] _
    refine yG.ret rfl (fun _ _ => rfl) ?_
    exact (yP.void ⟨⟨rfl, trivial⟩, A_h48⟩)
  · have c22 : (z21 : Int) = 1 := c22
    refine yG.load xak rfl (fun _ _ => rfl) (v := yR k0) rfl rfl ?_
    refine yG.getO A_h19.1 (w_Shorts_below W H_k0) rfl rfl (fun r50 H_r50 O_r50 q_r50 => ?_)
    obtain ⟨n_r50, N_r50⟩ : ∃ n : Int, n = ((zat G r50 : Nat) : Int) := ⟨_, rfl⟩
    have L_r50 := n_Big W H_r50
    refine yG.load xak rfl (fun _ _ => rfl) (v := yR r2) rfl rfl ?_
    refine yG.invV (rest := []) A_h19.1 (bOb (d_Big W) H_r50) rfl rfl rfl rfl (c_Big_copy W (d + 1) A_h19.1 H_r50 H_r2) (fun rv h51 q9 => ?_)
    obtain ⟨⟨rfl, R_z52⟩, B_h51⟩ := q9
    have A_h51 := A_h19.tr B_h51 (by decide)
    have qq96 : zsl h51 k0 17 = yR r1 := (B_h51.sl H_k0 (by decide)).trans qq15
    have qq97 : zsl h51 k0 11 = yR r5 := (B_h51.sl H_k0 (by decide)).trans qq16
    have qq98 : zsl h51 r5 (0 : Int).toNat = yR r6 := (B_h51.sl H_r5 (bNo_ok (by decide) _)).trans qq17
    have qq99 : zsl h51 k0 1 = yR r12 := (B_h51.sl H_k0 (by decide)).trans qq18
    have qq100 : zsl h51 r5 (1 : Int).toNat = yR r18 := (B_h51.sl H_r5 (bNo_ok (by decide) _)).trans qq19
    have qq101 : zsl h51 k0 13 = yR r50 := (B_h51.sl H_k0 (by decide)).trans q_r50
    show yG _ _ _ _ _ _ _ _ _ _ [] _
    refine yG.load xak rfl (fun _ _ => rfl) (v := yR k0) rfl rfl ?_
    refine yG.getS9 A_h51.1 (w_Shorts_below W H_k0) qq101 rfl rfl ?_
    refine yG.numl (c := 2) rfl (fun _ _ => rfl) (by decide) ?_
    refine yG.invV (rest := []) A_h51.1 (bOb (d_Big W) H_r50) rfl rfl rfl rfl (c_Big_scale W (d + 1) A_h51.1 H_r50 (2) (by omega) (by omega)) (fun rv h53 q9 => ?_)
    obtain ⟨⟨rfl, R_z54⟩, B_h53⟩ := q9
    have A_h53 := A_h51.tr B_h53 (by decide)
    have qq102 : zsl h53 k0 17 = yR r1 := (B_h53.sl H_k0 (by decide)).trans qq96
    have qq103 : zsl h53 k0 11 = yR r5 := (B_h53.sl H_k0 (by decide)).trans qq97
    have qq104 : zsl h53 r5 (0 : Int).toNat = yR r6 := (B_h53.sl H_r5 (bNo_ok (by decide) _)).trans qq98
    have qq105 : zsl h53 k0 1 = yR r12 := (B_h53.sl H_k0 (by decide)).trans qq99
    have qq106 : zsl h53 r5 (1 : Int).toNat = yR r18 := (B_h53.sl H_r5 (bNo_ok (by decide) _)).trans qq100
    have qq107 : zsl h53 k0 13 = yR r50 := (B_h53.sl H_k0 (by decide)).trans qq101
    show yG _ _ _ _ _ _ _ _ _ _ [] _
    refine yG.load xak rfl (fun _ _ => rfl) (v := yR k0) rfl rfl ?_
    refine yG.getS9 A_h53.1 (w_Shorts_below W H_k0) qq107 rfl rfl ?_
    refine yG.load xak rfl (fun _ _ => rfl) (v := yR r3) rfl rfl ?_
    refine yG.invV (rest := []) A_h53.1 (bOb (d_Big W) H_r50) rfl rfl rfl rfl (c_Big_more W d A_h53.1 H_r50 H_r3) (fun rv h55 q9 => ?_)
    obtain ⟨⟨rfl, R_z56⟩, B_h55⟩ := q9
    have A_h55 := A_h53.tr B_h55 (by decide)
    have qq108 : zsl h55 k0 17 = yR r1 := (B_h55.sl H_k0 (by decide)).trans qq102
    have qq109 : zsl h55 k0 11 = yR r5 := (B_h55.sl H_k0 (by decide)).trans qq103
    have qq110 : zsl h55 r5 (0 : Int).toNat = yR r6 := (B_h55.sl H_r5 (bNo_ok (by decide) _)).trans qq104
    have qq111 : zsl h55 k0 1 = yR r12 := (B_h55.sl H_k0 (by decide)).trans qq105
    have qq112 : zsl h55 r5 (1 : Int).toNat = yR r18 := (B_h55.sl H_r5 (bNo_ok (by decide) _)).trans qq106
    have qq113 : zsl h55 k0 13 = yR r50 := (B_h55.sl H_k0 (by decide)).trans qq107
    show yG _ _ _ _ _ _ _ _ _ _ [] _
    refine yG.load xak rfl (fun _ _ => rfl) (v := yR k0) rfl rfl ?_
    refine yG.getO A_h55.1 (w_Shorts_part W H_k0) rfl rfl (fun r57 H_r57 O_r57 q_r57 => ?_)
    refine yG.num (c := 1) rfl (fun _ _ => rfl) (by decide) ?_
    refine yG.aaldO (r := 35) A_h55.1 (v_Big3 W H_r57) rfl rfl rfl (by omega) (by omega) (fun r58 H_r58 q_r58 => ?_)
    obtain ⟨n_r58, N_r58⟩ : ∃ n : Int, n = ((zat G r58 : Nat) : Int) := ⟨_, rfl⟩
    have L_r58 := n_Big W H_r58
    refine yG.load xak rfl (fun _ _ => rfl) (v := yR k0) rfl rfl ?_
    refine yG.getS9 A_h55.1 (w_Shorts_whole W H_k0) qq109 rfl rfl ?_
    refine yG.num (c := 0) rfl (fun _ _ => rfl) (by decide) ?_
    refine yG.aaldO (r := 35) A_h55.1 (v_Big2 W H_r5) rfl rfl rfl (by omega) (by omega) (fun r59 H_r59 q_r59 => ?_)
    obtain ⟨n_r59, N_r59⟩ : ∃ n : Int, n = ((zat G r59 : Nat) : Int) := ⟨_, rfl⟩
    have L_r59 := n_Big W H_r59
    have s_r59 : r59 = r6 := by have e9 := q_r59.symm.trans qq110; cases e9; rfl
    rw [s_r59]
    refine yG.invV (rest := []) A_h55.1 (bOb (d_Big W) H_r58) rfl rfl rfl rfl (c_Big_copy W (d + 1) A_h55.1 H_r58 H_r6) (fun rv h60 q9 => ?_)
    obtain ⟨⟨rfl, R_z61⟩, B_h60⟩ := q9
    have A_h60 := A_h55.tr B_h60 (by decide)
    have qq114 : zsl h60 k0 17 = yR r1 := (B_h60.sl H_k0 (by decide)).trans qq108
    have qq115 : zsl h60 k0 11 = yR r5 := (B_h60.sl H_k0 (by decide)).trans qq109
    have qq116 : zsl h60 r5 (0 : Int).toNat = yR r6 := (B_h60.sl H_r5 (bNo_ok (by decide) _)).trans qq110
    have qq117 : zsl h60 k0 1 = yR r12 := (B_h60.sl H_k0 (by decide)).trans qq111
    have qq118 : zsl h60 r5 (1 : Int).toNat = yR r18 := (B_h60.sl H_r5 (bNo_ok (by decide) _)).trans qq112
    have qq119 : zsl h60 k0 13 = yR r50 := (B_h60.sl H_k0 (by decide)).trans qq113
    have qq120 : zsl h60 k0 12 = yR r57 := (B_h60.sl H_k0 (by decide)).trans q_r57
    show yG _ _ _ _ _ _ _ _ _ _ [] _
    refine yG.load xak rfl (fun _ _ => rfl) (v := yR k0) rfl rfl ?_
    refine yG.getS9 A_h60.1 (w_Shorts_part W H_k0) qq120 rfl rfl ?_
    refine yG.num (c := 2) rfl (fun _ _ => rfl) (by decide) ?_
    refine yG.aaldO (r := 35) A_h60.1 (v_Big3 W H_r57) rfl rfl rfl (by omega) (by omega) (fun r62 H_r62 q_r62 => ?_)
    obtain ⟨n_r62, N_r62⟩ : ∃ n : Int, n = ((zat G r62 : Nat) : Int) := ⟨_, rfl⟩
    have L_r62 := n_Big W H_r62
    refine yG.load xak rfl (fun _ _ => rfl) (v := yR k0) rfl rfl ?_
    refine yG.getS9 A_h60.1 (w_Shorts_whole W H_k0) qq115 rfl rfl ?_
    refine yG.num (c := 0) rfl (fun _ _ => rfl) (by decide) ?_
    refine yG.aaldO (r := 35) A_h60.1 (v_Big2 W H_r5) rfl rfl rfl (by omega) (by omega) (fun r63 H_r63 q_r63 => ?_)
    obtain ⟨n_r63, N_r63⟩ : ∃ n : Int, n = ((zat G r63 : Nat) : Int) := ⟨_, rfl⟩
    have L_r63 := n_Big W H_r63
    have s_r63 : r63 = r6 := by have e9 := q_r63.symm.trans qq116; cases e9; rfl
    rw [s_r63]
    refine yG.invV (rest := []) A_h60.1 (bOb (d_Big W) H_r62) rfl rfl rfl rfl (c_Big_copy W (d + 1) A_h60.1 H_r62 H_r6) (fun rv h64 q9 => ?_)
    obtain ⟨⟨rfl, R_z65⟩, B_h64⟩ := q9
    have A_h64 := A_h60.tr B_h64 (by decide)
    have qq121 : zsl h64 k0 17 = yR r1 := (B_h64.sl H_k0 (by decide)).trans qq114
    have qq122 : zsl h64 k0 11 = yR r5 := (B_h64.sl H_k0 (by decide)).trans qq115
    have qq123 : zsl h64 r5 (0 : Int).toNat = yR r6 := (B_h64.sl H_r5 (bNo_ok (by decide) _)).trans qq116
    have qq124 : zsl h64 k0 1 = yR r12 := (B_h64.sl H_k0 (by decide)).trans qq117
    have qq125 : zsl h64 r5 (1 : Int).toNat = yR r18 := (B_h64.sl H_r5 (bNo_ok (by decide) _)).trans qq118
    have qq126 : zsl h64 k0 13 = yR r50 := (B_h64.sl H_k0 (by decide)).trans qq119
    have qq127 : zsl h64 k0 12 = yR r57 := (B_h64.sl H_k0 (by decide)).trans qq120
    show yG _ _ _ _ _ _ _ _ _ _ [] _
    refine yG.load xak rfl (fun _ _ => rfl) (v := yR k0) rfl rfl ?_
    refine yG.getS9 A_h64.1 (w_Shorts_part W H_k0) qq127 rfl rfl ?_
    refine yG.num (c := 0) rfl (fun _ _ => rfl) (by decide) ?_
    refine yG.aaldO (r := 35) A_h64.1 (v_Big3 W H_r57) rfl rfl rfl (by omega) (by omega) (fun r66 H_r66 q_r66 => ?_)
    obtain ⟨n_r66, N_r66⟩ : ∃ n : Int, n = ((zat G r66 : Nat) : Int) := ⟨_, rfl⟩
    have L_r66 := n_Big W H_r66
    refine yG.load xak rfl (fun _ _ => rfl) (v := yR k0) rfl rfl ?_
    refine yG.getS9 A_h64.1 (w_Shorts_whole W H_k0) qq122 rfl rfl ?_
    refine yG.num (c := 1) rfl (fun _ _ => rfl) (by decide) ?_
    refine yG.aaldO (r := 35) A_h64.1 (v_Big2 W H_r5) rfl rfl rfl (by omega) (by omega) (fun r67 H_r67 q_r67 => ?_)
    obtain ⟨n_r67, N_r67⟩ : ∃ n : Int, n = ((zat G r67 : Nat) : Int) := ⟨_, rfl⟩
    have L_r67 := n_Big W H_r67
    have s_r67 : r67 = r18 := by have e9 := q_r67.symm.trans qq125; cases e9; rfl
    rw [s_r67]
    refine yG.invV (rest := []) A_h64.1 (bOb (d_Big W) H_r66) rfl rfl rfl rfl (c_Big_copy W (d + 1) A_h64.1 H_r66 H_r18) (fun rv h68 q9 => ?_)
    obtain ⟨⟨rfl, R_z69⟩, B_h68⟩ := q9
    have A_h68 := A_h64.tr B_h68 (by decide)
    have qq128 : zsl h68 k0 17 = yR r1 := (B_h68.sl H_k0 (by decide)).trans qq121
    have qq129 : zsl h68 k0 11 = yR r5 := (B_h68.sl H_k0 (by decide)).trans qq122
    have qq130 : zsl h68 r5 (0 : Int).toNat = yR r6 := (B_h68.sl H_r5 (bNo_ok (by decide) _)).trans qq123
    have qq131 : zsl h68 k0 1 = yR r12 := (B_h68.sl H_k0 (by decide)).trans qq124
    have qq132 : zsl h68 r5 (1 : Int).toNat = yR r18 := (B_h68.sl H_r5 (bNo_ok (by decide) _)).trans qq125
    have qq133 : zsl h68 k0 13 = yR r50 := (B_h68.sl H_k0 (by decide)).trans qq126
    have qq134 : zsl h68 k0 12 = yR r57 := (B_h68.sl H_k0 (by decide)).trans qq127
    show yG _ _ _ _ _ _ _ _ _ _ [] _
    refine yG.ret rfl (fun _ _ => rfl) ?_
    exact (yP.void ⟨⟨rfl, trivial⟩, A_h68⟩)
theorem c_Shorts_weigh {hp : xH} (W : bW G) (d : Nat) (hT : zTy G hp) {k0 : Nat} (H_k0 : bRo G 75 k0) : yC (xcall 89 xfts xpools xms (d + 5)) 247 [yR k0] hp (fun rv hp' => (rv = none ∧ True) ∧ bAx G [(34359738368, 1), (34359738368, 2), (68719476736, 256)] hp hp') := by
  have A_hp : bAx G [(34359738368, 1), (34359738368, 2), (68719476736, 256)] hp hp := bAx.rf hT
  have H : ∀ m : Nat, (∀ a1 : Nat, ∀ hq, bAx G [(34359738368, 1), (34359738368, 2), (68719476736, 256)] hp hq → bRo G 35 a1 → 1 < (m : Int) → yG 89 xfts (xcall 89 xfts xpools xms (d + 4)) (xpool xp_RX9) [] xt_X9_weigh (yP 0 (fun rv hp' => (rv = none ∧ True) ∧ bAx G [(34359738368, 1), (34359738368, 2), (68719476736, 256)] hp hp')) (49 * m) 35 [(0, yR k0), (1, yR a1)] [] hq) := by
    intro m
    induction m with
    | zero =>
      intros; exfalso; omega
    | succ m ih =>
      have i_35 := ih
      clear ih
      intro a1 hq A_hq H_a1 hm
      refine yG.mono (N := 49 * m + 49) ?_ (by omega)
      obtain ⟨n_a1, N_a1⟩ : ∃ n : Int, n = ((zat G a1 : Nat) : Int) := ⟨_, rfl⟩
      have L_a1 := n_Big W H_a1
      refine yG.load xak rfl (fun _ _ => rfl) (v := yR k0) rfl rfl ?_
      refine yG.getO A_hq.1 (w_Shorts_net W H_k0) rfl rfl (fun r1 H_r1 O_r1 q_r1 => ?_)
      refine yG.getI A_hq.1 (w_Net_shortKind W H_r1) rfl rfl (fun z2 e_z2 i_z2 l_z2 u_z2 => ?_)
      refine yG.store1 xik (L' := [(2, yI (z2)), (0, yR k0), (1, yR a1)]) rfl (fun _ _ => rfl) rfl rfl ?_
      refine yG.load xik rfl (fun _ _ => rfl) (v := yI (z2)) rfl rfl ?_
      refine yG.num (c := 1) rfl (fun _ _ => rfl) (by decide) ?_
      refine yG.icmp rfl (t := 49) rfl ⟨by omega, by omega⟩ ⟨by omega, by omega⟩ (fun c3 => ?_) (fun c3 => ?_)
      · have c3 : (z2 : Int) ≠ 1 := c3
        refine yG.load xak rfl (fun _ _ => rfl) (v := yR k0) rfl rfl ?_
        refine yG.getO A_hq.1 (w_Shorts_below W H_k0) rfl rfl (fun r4 H_r4 O_r4 q_r4 => ?_)
        obtain ⟨n_r4, N_r4⟩ : ∃ n : Int, n = ((zat G r4 : Nat) : Int) := ⟨_, rfl⟩
        have L_r4 := n_Big W H_r4
        refine yG.load xak rfl (fun _ _ => rfl) (v := yR k0) rfl rfl ?_
        refine yG.getO A_hq.1 (w_Shorts_whole W H_k0) rfl rfl (fun r5 H_r5 O_r5 q_r5 => ?_)
        refine yG.num (c := 1) rfl (fun _ _ => rfl) (by decide) ?_
        refine yG.aaldO (r := 35) A_hq.1 (v_Big2 W H_r5) rfl rfl rfl (by omega) (by omega) (fun r6 H_r6 q_r6 => ?_)
        obtain ⟨n_r6, N_r6⟩ : ∃ n : Int, n = ((zat G r6 : Nat) : Int) := ⟨_, rfl⟩
        have L_r6 := n_Big W H_r6
        refine yG.invV (rest := []) A_hq.1 (bOb (d_Big W) H_r4) rfl rfl rfl rfl (c_Big_copy W (d + 2) A_hq.1 H_r4 H_r6) (fun rv h7 q9 => ?_)
        obtain ⟨⟨rfl, R_z8⟩, B_h7⟩ := q9
        have A_h7 := A_hq.tr B_h7 (by decide)
        have qq1 : zsl h7 k0 1 = yR r1 := (B_h7.sl H_k0 (by decide)).trans q_r1
        have qq2 : zsl h7 k0 13 = yR r4 := (B_h7.sl H_k0 (by decide)).trans q_r4
        show yG _ _ _ _ _ _ _ _ _ _ [] _
        refine yG.load xak rfl (fun _ _ => rfl) (v := yR k0) rfl rfl ?_
        refine yG.getS9 A_h7.1 (w_Shorts_below W H_k0) qq2 rfl rfl ?_
        refine yG.load xik rfl (fun _ _ => rfl) (v := yI (z2)) rfl rfl ?_
        refine yG.num (c := 3) rfl (fun _ _ => rfl) (by decide) ?_
        refine yG.icmp rfl (t := 75) rfl ⟨by omega, by omega⟩ ⟨by omega, by omega⟩ (fun c9 => ?_) (fun c9 => ?_)
        · have c9 : (z2 : Int) ≠ 3 := c9
          refine yG.load xak rfl (fun _ _ => rfl) (v := yR k0) rfl rfl ?_
          refine yG.getS9 A_h7.1 (w_Shorts_net W H_k0) qq1 rfl rfl ?_
          refine yG.getI A_h7.1 (w_Net_shortZ W H_r1) rfl rfl (fun z10 e_z10 i_z10 l_z10 u_z10 => ?_)
          refine yG.i2l rfl ⟨by omega, by omega⟩ ?_
          refine yG.invV (rest := []) A_h7.1 (bOb (d_Big W) H_r4) rfl rfl rfl rfl (c_Big_scale W (d + 2) A_h7.1 H_r4 (z10) (by omega) (by omega)) (fun rv h11 q9 => ?_)
          obtain ⟨⟨rfl, R_z12⟩, B_h11⟩ := q9
          have A_h11 := A_h7.tr B_h11 (by decide)
          have qq3 : zsl h11 k0 1 = yR r1 := (B_h11.sl H_k0 (by decide)).trans qq1
          have qq4 : zsl h11 k0 13 = yR r4 := (B_h11.sl H_k0 (by decide)).trans qq2
          show yG _ _ _ _ _ _ _ _ _ _ [] _
          refine yG.load xak rfl (fun _ _ => rfl) (v := yR k0) rfl rfl ?_
          refine yG.getS9 A_h11.1 (w_Shorts_below W H_k0) qq4 rfl rfl ?_
          refine yG.load xak rfl (fun _ _ => rfl) (v := yR a1) rfl rfl ?_
          refine yG.invV (rest := []) A_h11.1 (bOb (d_Big W) H_r4) rfl rfl rfl rfl (c_Big_more W (d + 1) A_h11.1 H_r4 H_a1) (fun rv h13 q9 => ?_)
          obtain ⟨⟨rfl, R_z14⟩, B_h13⟩ := q9
          have A_h13 := A_h11.tr B_h13 (by decide)
          have qq5 : zsl h13 k0 1 = yR r1 := (B_h13.sl H_k0 (by decide)).trans qq3
          have qq6 : zsl h13 k0 13 = yR r4 := (B_h13.sl H_k0 (by decide)).trans qq4
          show yG _ _ _ _ _ _ _ _ _ _ [] _
          refine yG.load xak rfl (fun _ _ => rfl) (v := yR k0) rfl rfl ?_
          refine yG.getO A_h13.1 (w_Shorts_part W H_k0) rfl rfl (fun r15 H_r15 O_r15 q_r15 => ?_)
          refine yG.num (c := 1) rfl (fun _ _ => rfl) (by decide) ?_
          refine yG.aaldO (r := 35) A_h13.1 (v_Big3 W H_r15) rfl rfl rfl (by omega) (by omega) (fun r16 H_r16 q_r16 => ?_)
          obtain ⟨n_r16, N_r16⟩ : ∃ n : Int, n = ((zat G r16 : Nat) : Int) := ⟨_, rfl⟩
          have L_r16 := n_Big W H_r16
          refine yG.numl (c := 1) rfl (fun _ _ => rfl) (by decide) ?_
          refine yG.invV (rest := []) A_h13.1 (bOb (d_Big W) H_r16) rfl rfl rfl rfl (c_Big_put W (d + 2) A_h13.1 H_r16 (1) (by omega) (by omega)) (fun rv h17 q9 => ?_)
          obtain ⟨⟨rfl, R_z18⟩, B_h17⟩ := q9
          have A_h17 := A_h13.tr B_h17 (by decide)
          have qq7 : zsl h17 k0 1 = yR r1 := (B_h17.sl H_k0 (by decide)).trans qq5
          have qq8 : zsl h17 k0 13 = yR r4 := (B_h17.sl H_k0 (by decide)).trans qq6
          have qq9 : zsl h17 k0 12 = yR r15 := (B_h17.sl H_k0 (by decide)).trans q_r15
          show yG _ _ _ _ _ _ _ _ _ _ [] _
          refine yG.load xik rfl (fun _ _ => rfl) (v := yI (z2)) rfl rfl ?_
          refine yG.ifz rfl (t := 128) rfl ⟨by omega, by omega⟩ (fun c19 => ?_) (fun c19 => ?_)
          · have c19 : (z2 : Int) = 0 := c19
            refine yG.ret rfl (fun _ _ => rfl) ?_
            exact (yP.void ⟨⟨rfl, trivial⟩, A_h17⟩)
          · have c19 : (z2 : Int) ≠ 0 := c19
            refine yG.load xak rfl (fun _ _ => rfl) (v := yR k0) rfl rfl ?_
            refine yG.getS9 A_h17.1 (w_Shorts_below W H_k0) qq8 rfl rfl ?_
            refine yG.load xak rfl (fun _ _ => rfl) (v := yR a1) rfl rfl ?_
            refine yG.invV (rest := []) A_h17.1 (bOb (d_Big W) H_r4) rfl rfl rfl rfl (c_Big_more W (d + 1) A_h17.1 H_r4 H_a1) (fun rv h20 q9 => ?_)
            obtain ⟨⟨rfl, R_z21⟩, B_h20⟩ := q9
            have A_h20 := A_h17.tr B_h20 (by decide)
            have qq10 : zsl h20 k0 1 = yR r1 := (B_h20.sl H_k0 (by decide)).trans qq7
            have qq11 : zsl h20 k0 13 = yR r4 := (B_h20.sl H_k0 (by decide)).trans qq8
            have qq12 : zsl h20 k0 12 = yR r15 := (B_h20.sl H_k0 (by decide)).trans qq9
            show yG _ _ _ _ _ _ _ _ _ _ [] _
            refine yG.load xak rfl (fun _ _ => rfl) (v := yR k0) rfl rfl ?_
            refine yG.getS9 A_h20.1 (w_Shorts_part W H_k0) qq12 rfl rfl ?_
            refine yG.num (c := 2) rfl (fun _ _ => rfl) (by decide) ?_
            refine yG.aaldO (r := 35) A_h20.1 (v_Big3 W H_r15) rfl rfl rfl (by omega) (by omega) (fun r22 H_r22 q_r22 => ?_)
            obtain ⟨n_r22, N_r22⟩ : ∃ n : Int, n = ((zat G r22 : Nat) : Int) := ⟨_, rfl⟩
            have L_r22 := n_Big W H_r22
            refine yG.numl (c := -1) rfl (fun _ _ => rfl) (by decide) ?_
            refine yG.invV (rest := []) A_h20.1 (bOb (d_Big W) H_r22) rfl rfl rfl rfl (c_Big_put W (d + 2) A_h20.1 H_r22 ((-1)) (by omega) (by omega)) (fun rv h23 q9 => ?_)
            obtain ⟨⟨rfl, R_z24⟩, B_h23⟩ := q9
            have A_h23 := A_h20.tr B_h23 (by decide)
            have qq13 : zsl h23 k0 1 = yR r1 := (B_h23.sl H_k0 (by decide)).trans qq10
            have qq14 : zsl h23 k0 13 = yR r4 := (B_h23.sl H_k0 (by decide)).trans qq11
            have qq15 : zsl h23 k0 12 = yR r15 := (B_h23.sl H_k0 (by decide)).trans qq12
            show yG _ _ _ _ _ _ _ _ _ _ [] _
            refine yG.ret rfl (fun _ _ => rfl) ?_
            exact (yP.void ⟨⟨rfl, trivial⟩, A_h23⟩)
        · have c9 : (z2 : Int) = 3 := c9
          refine yG.numl (c := 0) rfl (fun _ _ => rfl) (by decide) ?_
          refine yG.goto rfl (t := 83) rfl ?_
          refine yG.invV (rest := []) A_h7.1 (bOb (d_Big W) H_r4) rfl rfl rfl rfl (c_Big_scale W (d + 2) A_h7.1 H_r4 (0) (by omega) (by omega)) (fun rv h25 q9 => ?_)
          obtain ⟨⟨rfl, R_z26⟩, B_h25⟩ := q9
          have A_h25 := A_h7.tr B_h25 (by decide)
          have qq16 : zsl h25 k0 1 = yR r1 := (B_h25.sl H_k0 (by decide)).trans qq1
          have qq17 : zsl h25 k0 13 = yR r4 := (B_h25.sl H_k0 (by decide)).trans qq2
          show yG _ _ _ _ _ _ _ _ _ _ [] _
          refine yG.load xak rfl (fun _ _ => rfl) (v := yR k0) rfl rfl ?_
          refine yG.getS9 A_h25.1 (w_Shorts_below W H_k0) qq17 rfl rfl ?_
          refine yG.load xak rfl (fun _ _ => rfl) (v := yR a1) rfl rfl ?_
          refine yG.invV (rest := []) A_h25.1 (bOb (d_Big W) H_r4) rfl rfl rfl rfl (c_Big_more W (d + 1) A_h25.1 H_r4 H_a1) (fun rv h27 q9 => ?_)
          obtain ⟨⟨rfl, R_z28⟩, B_h27⟩ := q9
          have A_h27 := A_h25.tr B_h27 (by decide)
          have qq18 : zsl h27 k0 1 = yR r1 := (B_h27.sl H_k0 (by decide)).trans qq16
          have qq19 : zsl h27 k0 13 = yR r4 := (B_h27.sl H_k0 (by decide)).trans qq17
          show yG _ _ _ _ _ _ _ _ _ _ [] _
          refine yG.load xak rfl (fun _ _ => rfl) (v := yR k0) rfl rfl ?_
          refine yG.getO A_h27.1 (w_Shorts_part W H_k0) rfl rfl (fun r29 H_r29 O_r29 q_r29 => ?_)
          refine yG.num (c := 1) rfl (fun _ _ => rfl) (by decide) ?_
          refine yG.aaldO (r := 35) A_h27.1 (v_Big3 W H_r29) rfl rfl rfl (by omega) (by omega) (fun r30 H_r30 q_r30 => ?_)
          obtain ⟨n_r30, N_r30⟩ : ∃ n : Int, n = ((zat G r30 : Nat) : Int) := ⟨_, rfl⟩
          have L_r30 := n_Big W H_r30
          refine yG.numl (c := 1) rfl (fun _ _ => rfl) (by decide) ?_
          refine yG.invV (rest := []) A_h27.1 (bOb (d_Big W) H_r30) rfl rfl rfl rfl (c_Big_put W (d + 2) A_h27.1 H_r30 (1) (by omega) (by omega)) (fun rv h31 q9 => ?_)
          obtain ⟨⟨rfl, R_z32⟩, B_h31⟩ := q9
          have A_h31 := A_h27.tr B_h31 (by decide)
          have qq20 : zsl h31 k0 1 = yR r1 := (B_h31.sl H_k0 (by decide)).trans qq18
          have qq21 : zsl h31 k0 13 = yR r4 := (B_h31.sl H_k0 (by decide)).trans qq19
          have qq22 : zsl h31 k0 12 = yR r29 := (B_h31.sl H_k0 (by decide)).trans q_r29
          show yG _ _ _ _ _ _ _ _ _ _ [] _
          refine yG.load xik rfl (fun _ _ => rfl) (v := yI (z2)) rfl rfl ?_
          refine yG.ifz rfl (t := 128) rfl ⟨by omega, by omega⟩ (fun c33 => ?_) (fun c33 => ?_)
          · have c33 : (z2 : Int) = 0 := c33
            exfalso; omega
          · have c33 : (z2 : Int) ≠ 0 := c33
            refine yG.load xak rfl (fun _ _ => rfl) (v := yR k0) rfl rfl ?_
            refine yG.getS9 A_h31.1 (w_Shorts_below W H_k0) qq21 rfl rfl ?_
            refine yG.load xak rfl (fun _ _ => rfl) (v := yR a1) rfl rfl ?_
            refine yG.invV (rest := []) A_h31.1 (bOb (d_Big W) H_r4) rfl rfl rfl rfl (c_Big_more W (d + 1) A_h31.1 H_r4 H_a1) (fun rv h34 q9 => ?_)
            obtain ⟨⟨rfl, R_z35⟩, B_h34⟩ := q9
            have A_h34 := A_h31.tr B_h34 (by decide)
            have qq23 : zsl h34 k0 1 = yR r1 := (B_h34.sl H_k0 (by decide)).trans qq20
            have qq24 : zsl h34 k0 13 = yR r4 := (B_h34.sl H_k0 (by decide)).trans qq21
            have qq25 : zsl h34 k0 12 = yR r29 := (B_h34.sl H_k0 (by decide)).trans qq22
            show yG _ _ _ _ _ _ _ _ _ _ [] _
            refine yG.load xak rfl (fun _ _ => rfl) (v := yR k0) rfl rfl ?_
            refine yG.getS9 A_h34.1 (w_Shorts_part W H_k0) qq25 rfl rfl ?_
            refine yG.num (c := 2) rfl (fun _ _ => rfl) (by decide) ?_
            refine yG.aaldO (r := 35) A_h34.1 (v_Big3 W H_r29) rfl rfl rfl (by omega) (by omega) (fun r36 H_r36 q_r36 => ?_)
            obtain ⟨n_r36, N_r36⟩ : ∃ n : Int, n = ((zat G r36 : Nat) : Int) := ⟨_, rfl⟩
            have L_r36 := n_Big W H_r36
            refine yG.numl (c := -1) rfl (fun _ _ => rfl) (by decide) ?_
            refine yG.invV (rest := []) A_h34.1 (bOb (d_Big W) H_r36) rfl rfl rfl rfl (c_Big_put W (d + 2) A_h34.1 H_r36 ((-1)) (by omega) (by omega)) (fun rv h37 q9 => ?_)
            obtain ⟨⟨rfl, R_z38⟩, B_h37⟩ := q9
            have A_h37 := A_h34.tr B_h37 (by decide)
            have qq26 : zsl h37 k0 1 = yR r1 := (B_h37.sl H_k0 (by decide)).trans qq23
            have qq27 : zsl h37 k0 13 = yR r4 := (B_h37.sl H_k0 (by decide)).trans qq24
            have qq28 : zsl h37 k0 12 = yR r29 := (B_h37.sl H_k0 (by decide)).trans qq25
            show yG _ _ _ _ _ _ _ _ _ _ [] _
            refine yG.ret rfl (fun _ _ => rfl) ?_
            exact (yP.void ⟨⟨rfl, trivial⟩, A_h37⟩)
      · have c3 : (z2 : Int) = 1 := c3
        refine yG.ret rfl (fun _ _ => rfl) ?_
        exact (yP.void ⟨⟨rfl, trivial⟩, A_hq⟩)
  refine yC.of (M := (xt_X9_weigh, (3, (0, (10, []))))) rfl rfl (N := 196) (yfuel (by decide)) ?_
  show yG 89 xfts (xcall 89 xfts xpools xms (d + 4)) (xpool xp_RX9) [] xt_X9_weigh (yP 0 (fun rv hp' => (rv = none ∧ True) ∧ bAx G [(34359738368, 1), (34359738368, 2), (68719476736, 256)] hp hp')) 196 0 [(0, yR k0)] [] hp
  have i_35 := H 3
  refine yG.load xak rfl (fun _ _ => rfl) (v := yR k0) rfl rfl ?_
  refine yG.getO A_hp.1 (w_Shorts_top1 W H_k0) rfl rfl (fun r1 H_r1 O_r1 q_r1 => ?_)
  refine yG.num (c := 16) rfl (fun _ _ => rfl) (by decide) ?_
  refine yG.aaldO (r := 35) A_hp.1 (v_Big17 W H_r1) rfl rfl rfl (by omega) (by omega) (fun r2 H_r2 q_r2 => ?_)
  obtain ⟨n_r2, N_r2⟩ : ∃ n : Int, n = ((zat G r2 : Nat) : Int) := ⟨_, rfl⟩
  have L_r2 := n_Big W H_r2
  refine yG.store1 xak (L' := [(1, yR r2), (0, yR k0)]) rfl (fun _ _ => rfl) rfl rfl ?_
  refine yG.load xak rfl (fun _ _ => rfl) (v := yR k0) rfl rfl ?_
  refine yG.invV (rest := []) A_hp.1 (bOb (d_Shorts W) H_k0) rfl rfl rfl rfl (c_Shorts_isOdd W (d + 3) A_hp.1 H_k0) (fun rv hp9 q9 => ?_)
  obtain ⟨⟨z3, rfl, l_z3, u_z3, R_z3⟩, e9⟩ := q9
  rw [e9]
  show yG _ _ _ _ _ _ _ _ _ _ (yI z3 :: []) _
  refine yG.ifz rfl (t := 35) rfl ⟨by omega, by omega⟩ (fun c4 => ?_) (fun c4 => ?_)
  · have c4 : (z3 : Int) = 0 := c4
    exact yG.mono (yG.sub (i_35 r2  hp A_hp H_r2   (by omega)) (ySub.cons rfl (ySub.cons rfl (ySub.nil)))) (by omega)
  · have c4 : (z3 : Int) ≠ 0 := c4
    refine yG.load xak rfl (fun _ _ => rfl) (v := yR k0) rfl rfl ?_
    refine yG.getI A_hp.1 (w_Shorts_grounded W H_k0) rfl rfl (fun z5 e_z5 i_z5 l_z5 u_z5 => ?_)
    refine yG.ifz rfl (t := 35) rfl ⟨by omega, by omega⟩ (fun c6 => ?_) (fun c6 => ?_)
    · have c6 : (z5 : Int) = 0 := c6
      exact yG.mono (yG.sub (i_35 r2  hp A_hp H_r2   (by omega)) (ySub.cons rfl (ySub.cons rfl (ySub.nil)))) (by omega)
    · have c6 : (z5 : Int) ≠ 0 := c6
      refine yG.load xak rfl (fun _ _ => rfl) (v := yR k0) rfl rfl ?_
      refine yG.load xak rfl (fun _ _ => rfl) (v := yR r2) rfl rfl ?_
      refine yG.load xak rfl (fun _ _ => rfl) (v := yR k0) rfl rfl ?_
      refine yG.getO A_hp.1 (w_Shorts_top0 W H_k0) rfl rfl (fun r7 H_r7 O_r7 q_r7 => ?_)
      refine yG.num (c := 16) rfl (fun _ _ => rfl) (by decide) ?_
      refine yG.aaldO (r := 35) A_hp.1 (v_Big17 W H_r7) rfl rfl rfl (by omega) (by omega) (fun r8 H_r8 q_r8 => ?_)
      obtain ⟨n_r8, N_r8⟩ : ∃ n : Int, n = ((zat G r8 : Nat) : Int) := ⟨_, rfl⟩
      have L_r8 := n_Big W H_r8
      refine yG.invV (rest := []) A_hp.1 (bOb (d_Shorts W) H_k0) rfl rfl rfl rfl (c_Shorts_weighOdd W d A_hp.1 H_k0 H_r2 H_r8) (fun rv h9 q9 => ?_)
      obtain ⟨⟨rfl, R_z10⟩, B_h9⟩ := q9
      have A_h9 := A_hp.tr B_h9 (by decide)
      show yG _ _ _ _ _ _ _ _ _ _ [] _
      refine yG.ret rfl (fun _ _ => rfl) ?_
      exact (yP.void ⟨⟨rfl, trivial⟩, A_h9⟩)
theorem c_Shorts_solve {hp : xH} (W : bW G) (d : Nat) (hT : zTy G hp) (M_bSh : bSh G hp) {k0 : Nat} (H_k0 : bRo G 75 k0) {n0 : Nat} (H_n0 : bRo G 18 n0) (Q_n0 : zsl hp k0 1 = yR n0) : yC (xcall 89 xfts xpools xms (d + 6)) 242 [yR k0] hp (fun rv hp' => (rv = none ∧ True) ∧ bAx G [(34359738368, 1), (1133871366144, 2), (1099511627776, 3), (37778931862957161709568, 4), (37778931862957161709568, 5), (37778931864056673337344, 6), (37778931864056673337344, 7), (37778931864056673337344, 8), (75557881755774715166720, 256)] hp hp') := by
  have A_hp : bAx G [(34359738368, 1), (1133871366144, 2), (1099511627776, 3), (37778931862957161709568, 4), (37778931862957161709568, 5), (37778931864056673337344, 6), (37778931864056673337344, 7), (37778931864056673337344, 8), (75557881755774715166720, 256)] hp hp := bAx.rf hT
  refine yC.of (M := (xt_X9_solve, (2, (0, (10, []))))) rfl rfl (N := 249) (yfuel (by decide)) ?_
  show yG 89 xfts (xcall 89 xfts xpools xms (d + 5)) (xpool xp_RX9) [] xt_X9_solve (yP 0 (fun rv hp' => (rv = none ∧ True) ∧ bAx G [(34359738368, 1), (1133871366144, 2), (1099511627776, 3), (37778931862957161709568, 4), (37778931862957161709568, 5), (37778931864056673337344, 6), (37778931864056673337344, 7), (37778931864056673337344, 8), (75557881755774715166720, 256)] hp hp')) 249 0 [(0, yR k0)] [] hp
  obtain ⟨gg0, E_0⟩ : ∃ z : Int, ys hp n0 5 = z := ⟨_, rfl⟩
  obtain ⟨-, -, g_0l, g_0u⟩ := (w_Net_shortLine W H_n0).int hT
  obtain ⟨gg1, E_1⟩ : ∃ z : Int, ys hp k0 8 = z := ⟨_, rfl⟩
  obtain ⟨-, -, g_1l, g_1u⟩ := (w_Shorts_place W H_k0).int hT
  obtain ⟨gg2, E_2⟩ : ∃ z : Int, ys hp n0 3 = z := ⟨_, rfl⟩
  obtain ⟨-, -, g_2l, g_2u⟩ := (w_Net_shortKind W H_n0).int hT
  rcases (show ys hp n0 5 ≤ (-1) ∨ 0 ≤ ys hp n0 5 by omega) with d1 | d1
  · skip
    refine yG.load xak rfl (fun _ _ => rfl) (v := yR k0) rfl rfl ?_
    refine yG.getI A_hp.1 (w_Shorts_known W H_k0) rfl rfl (fun z2 e_z2 i_z2 l_z2 u_z2 => ?_)
    refine yG.ifz rfl (t := 8) rfl ⟨by omega, by omega⟩ (fun c3 => ?_) (fun c3 => ?_)
    · have c3 : (z2 : Int) = 0 := c3
      refine yG.load xak rfl (fun _ _ => rfl) (v := yR k0) rfl rfl ?_
      refine yG.num (c := 1) rfl (fun _ _ => rfl) (by decide) ?_
      refine yG.putI A_hp.1 (w_Shorts_known W H_k0) (W.2.1 _ _ H_k0 (by decide) (by decide)) rfl rfl (.inr ⟨rfl, rfl, rfl⟩) ⟨by omega, by omega⟩ (by omega) (by omega) (fun h4 T_h4 b_h4 f_h4 y_h4 => ?_)
      have A_h4 := A_hp.put T_h4 b_h4 f_h4 H_k0 (by decide)
      have : ys h4 n0 5 = ys hp n0 5 := (y_h4 n0 5).trans (if_neg (fun e => (bRo.ne H_n0 H_k0 (by decide)) e.1))
      have : ys h4 k0 8 = ys hp k0 8 := (y_h4 k0 8).trans (if_neg (fun e => absurd e.2 (by decide)))
      have : ys h4 n0 3 = ys hp n0 3 := (y_h4 n0 3).trans (if_neg (fun e => (bRo.ne H_n0 H_k0 (by decide)) e.1))
      have qq1 : zsl h4 k0 1 = yR n0 := ((f_h4 k0 1).trans (if_neg (fun e => absurd e.2 (by decide)))).trans Q_n0
      refine yG.load xak rfl (fun _ _ => rfl) (v := yR k0) rfl rfl ?_
      refine yG.load xak rfl (fun _ _ => rfl) (v := yR k0) rfl rfl ?_
      refine yG.getS9 A_h4.1 (w_Shorts_net W H_k0) qq1 rfl rfl ?_
      refine yG.invV (rest := [yR k0]) A_h4.1 (bOb (d_Net W) H_n0) rfl rfl rfl rfl (c_Net_hasShort W (d + 4) A_h4.1 H_n0) (fun rv hp9 q9 => ?_)
      obtain ⟨⟨z5, rfl, l_z5, u_z5, R_z5⟩, e9⟩ := q9
      rw [e9]
      show yG _ _ _ _ _ _ _ _ _ _ (yI z5 :: [yR k0]) _
      refine yG.ifz rfl (t := 35) rfl ⟨by omega, by omega⟩ (fun c6 => ?_) (fun c6 => ?_)
      · have c6 : (z5 : Int) = 0 := c6
        refine yG.num (c := 0) rfl (fun _ _ => rfl) (by decide) ?_
        refine yG.putI A_h4.1 (w_Shorts_active W H_k0) (W.2.1 _ _ H_k0 (by decide) (by decide)) rfl rfl (.inr ⟨rfl, rfl, rfl⟩) ⟨by omega, by omega⟩ (by omega) (by omega) (fun h7 T_h7 b_h7 f_h7 y_h7 => ?_)
        have A_h7 := A_h4.put T_h7 b_h7 f_h7 H_k0 (by decide)
        have : ys h7 n0 5 = ys h4 n0 5 := (y_h7 n0 5).trans (if_neg (fun e => (bRo.ne H_n0 H_k0 (by decide)) e.1))
        have : ys h7 k0 8 = ys h4 k0 8 := (y_h7 k0 8).trans (if_neg (fun e => absurd e.2 (by decide)))
        have : ys h7 n0 3 = ys h4 n0 3 := (y_h7 n0 3).trans (if_neg (fun e => (bRo.ne H_n0 H_k0 (by decide)) e.1))
        have qq2 : zsl h7 k0 1 = yR n0 := ((f_h7 k0 1).trans (if_neg (fun e => absurd e.2 (by decide)))).trans qq1
        have : ys h7 k0 5 = 0 := (y_h7 k0 5).trans (if_pos ⟨rfl, rfl⟩)
        refine yG.num (c := 0) rfl (fun _ _ => rfl) (by decide) ?_
        refine yG.store1 xik (L' := [(1, yI (0)), (0, yR k0)]) rfl (fun _ _ => rfl) rfl rfl ?_
        refine yG.load xik rfl (fun _ _ => rfl) (v := yI (0)) rfl rfl ?_
        refine yG.num (c := 3) rfl (fun _ _ => rfl) (by decide) ?_
        refine yG.icmp rfl (t := 62) rfl ⟨by omega, by omega⟩ ⟨by omega, by omega⟩ (fun c8 => ?_) (fun c8 => ?_)
        · have c8 : (0 : Int) ≥ 3 := c8
          exfalso; omega
        · have c8 : (0 : Int) < 3 := c8
          refine yG.load xak rfl (fun _ _ => rfl) (v := yR k0) rfl rfl ?_
          refine yG.getO A_h7.1 (w_Shorts_part W H_k0) rfl rfl (fun r9 H_r9 O_r9 q_r9 => ?_)
          refine yG.load xik rfl (fun _ _ => rfl) (v := yI (0)) rfl rfl ?_
          refine yG.aaldO (r := 35) A_h7.1 (v_Big3 W H_r9) rfl rfl rfl (by omega) (by omega) (fun r10 H_r10 q_r10 => ?_)
          obtain ⟨n_r10, N_r10⟩ : ∃ n : Int, n = ((zat G r10 : Nat) : Int) := ⟨_, rfl⟩
          have L_r10 := n_Big W H_r10
          refine yG.numl (c := 0) rfl (fun _ _ => rfl) (by decide) ?_
          refine yG.invV (rest := []) A_h7.1 (bOb (d_Big W) H_r10) rfl rfl rfl rfl (c_Big_put W (d + 3) A_h7.1 H_r10 (0) (by omega) (by omega)) (fun rv h11 q9 => ?_)
          obtain ⟨⟨rfl, R_z12⟩, B_h11⟩ := q9
          have A_h11 := A_h7.tr B_h11 (by decide)
          have : ys h11 n0 5 = ys h7 n0 5 := B_h11.ys H_n0 (by decide)
          have : ys h11 k0 8 = ys h7 k0 8 := B_h11.ys H_k0 (by decide)
          have : ys h11 n0 3 = ys h7 n0 3 := B_h11.ys H_n0 (by decide)
          have qq3 : zsl h11 k0 1 = yR n0 := (B_h11.sl H_k0 (by decide)).trans qq2
          have : ys h11 k0 5 = ys h7 k0 5 := B_h11.ys H_k0 (by decide)
          have qq4 : zsl h11 k0 12 = yR r9 := (B_h11.sl H_k0 (by decide)).trans q_r9
          show yG _ _ _ _ _ _ _ _ _ _ [] _
          refine yG.iinc rfl (a := 0) rfl (L' := [(1, yI (0 + 1)), (0, yR k0)]) rfl ?_
          refine yG.goto rfl (t := 41) rfl ?_
          refine yG.load xik rfl (fun _ _ => rfl) (v := yI (0 + 1)) rfl rfl ?_
          refine yG.num (c := 3) rfl (fun _ _ => rfl) (by decide) ?_
          refine yG.icmp rfl (t := 62) rfl ⟨by omega, by omega⟩ ⟨by omega, by omega⟩ (fun c13 => ?_) (fun c13 => ?_)
          · have c13 : (0 + 1 : Int) ≥ 3 := c13
            exfalso; omega
          · have c13 : (0 + 1 : Int) < 3 := c13
            refine yG.load xak rfl (fun _ _ => rfl) (v := yR k0) rfl rfl ?_
            refine yG.getS9 A_h11.1 (w_Shorts_part W H_k0) qq4 rfl rfl ?_
            refine yG.load xik rfl (fun _ _ => rfl) (v := yI (0 + 1)) rfl rfl ?_
            refine yG.aaldO (r := 35) A_h11.1 (v_Big3 W H_r9) rfl rfl rfl (by omega) (by omega) (fun r14 H_r14 q_r14 => ?_)
            obtain ⟨n_r14, N_r14⟩ : ∃ n : Int, n = ((zat G r14 : Nat) : Int) := ⟨_, rfl⟩
            have L_r14 := n_Big W H_r14
            refine yG.numl (c := 0) rfl (fun _ _ => rfl) (by decide) ?_
            refine yG.invV (rest := []) A_h11.1 (bOb (d_Big W) H_r14) rfl rfl rfl rfl (c_Big_put W (d + 3) A_h11.1 H_r14 (0) (by omega) (by omega)) (fun rv h15 q9 => ?_)
            obtain ⟨⟨rfl, R_z16⟩, B_h15⟩ := q9
            have A_h15 := A_h11.tr B_h15 (by decide)
            have : ys h15 n0 5 = ys h11 n0 5 := B_h15.ys H_n0 (by decide)
            have : ys h15 k0 8 = ys h11 k0 8 := B_h15.ys H_k0 (by decide)
            have : ys h15 n0 3 = ys h11 n0 3 := B_h15.ys H_n0 (by decide)
            have qq5 : zsl h15 k0 1 = yR n0 := (B_h15.sl H_k0 (by decide)).trans qq3
            have : ys h15 k0 5 = ys h11 k0 5 := B_h15.ys H_k0 (by decide)
            have qq6 : zsl h15 k0 12 = yR r9 := (B_h15.sl H_k0 (by decide)).trans qq4
            show yG _ _ _ _ _ _ _ _ _ _ [] _
            refine yG.iinc rfl (a := 0 + 1) rfl (L' := [(1, yI ((0 + 1) + 1)), (0, yR k0)]) rfl ?_
            refine yG.goto rfl (t := 41) rfl ?_
            refine yG.load xik rfl (fun _ _ => rfl) (v := yI ((0 + 1) + 1)) rfl rfl ?_
            refine yG.num (c := 3) rfl (fun _ _ => rfl) (by decide) ?_
            refine yG.icmp rfl (t := 62) rfl ⟨by omega, by omega⟩ ⟨by omega, by omega⟩ (fun c17 => ?_) (fun c17 => ?_)
            · have c17 : ((0 + 1) + 1 : Int) ≥ 3 := c17
              exfalso; omega
            · have c17 : ((0 + 1) + 1 : Int) < 3 := c17
              refine yG.load xak rfl (fun _ _ => rfl) (v := yR k0) rfl rfl ?_
              refine yG.getS9 A_h15.1 (w_Shorts_part W H_k0) qq6 rfl rfl ?_
              refine yG.load xik rfl (fun _ _ => rfl) (v := yI ((0 + 1) + 1)) rfl rfl ?_
              refine yG.aaldO (r := 35) A_h15.1 (v_Big3 W H_r9) rfl rfl rfl (by omega) (by omega) (fun r18 H_r18 q_r18 => ?_)
              obtain ⟨n_r18, N_r18⟩ : ∃ n : Int, n = ((zat G r18 : Nat) : Int) := ⟨_, rfl⟩
              have L_r18 := n_Big W H_r18
              refine yG.numl (c := 0) rfl (fun _ _ => rfl) (by decide) ?_
              refine yG.invV (rest := []) A_h15.1 (bOb (d_Big W) H_r18) rfl rfl rfl rfl (c_Big_put W (d + 3) A_h15.1 H_r18 (0) (by omega) (by omega)) (fun rv h19 q9 => ?_)
              obtain ⟨⟨rfl, R_z20⟩, B_h19⟩ := q9
              have A_h19 := A_h15.tr B_h19 (by decide)
              have : ys h19 n0 5 = ys h15 n0 5 := B_h19.ys H_n0 (by decide)
              have : ys h19 k0 8 = ys h15 k0 8 := B_h19.ys H_k0 (by decide)
              have : ys h19 n0 3 = ys h15 n0 3 := B_h19.ys H_n0 (by decide)
              have qq7 : zsl h19 k0 1 = yR n0 := (B_h19.sl H_k0 (by decide)).trans qq5
              have : ys h19 k0 5 = ys h15 k0 5 := B_h19.ys H_k0 (by decide)
              have qq8 : zsl h19 k0 12 = yR r9 := (B_h19.sl H_k0 (by decide)).trans qq6
              show yG _ _ _ _ _ _ _ _ _ _ [] _
              refine yG.iinc rfl (a := (0 + 1) + 1) rfl (L' := [(1, yI (((0 + 1) + 1) + 1)), (0, yR k0)]) rfl ?_
              refine yG.goto rfl (t := 41) rfl ?_
              refine yG.load xik rfl (fun _ _ => rfl) (v := yI (((0 + 1) + 1) + 1)) rfl rfl ?_
              refine yG.num (c := 3) rfl (fun _ _ => rfl) (by decide) ?_
              refine yG.icmp rfl (t := 62) rfl ⟨by omega, by omega⟩ ⟨by omega, by omega⟩ (fun c21 => ?_) (fun c21 => ?_)
              · have c21 : (((0 + 1) + 1) + 1 : Int) ≥ 3 := c21
                refine yG.load xak rfl (fun _ _ => rfl) (v := yR k0) rfl rfl ?_
                refine yG.getO A_h19.1 (w_Shorts_below W H_k0) rfl rfl (fun r22 H_r22 O_r22 q_r22 => ?_)
                obtain ⟨n_r22, N_r22⟩ : ∃ n : Int, n = ((zat G r22 : Nat) : Int) := ⟨_, rfl⟩
                have L_r22 := n_Big W H_r22
                refine yG.numl (c := 1) rfl (fun _ _ => rfl) (by decide) ?_
                refine yG.invV (rest := []) A_h19.1 (bOb (d_Big W) H_r22) rfl rfl rfl rfl (c_Big_put W (d + 3) A_h19.1 H_r22 (1) (by omega) (by omega)) (fun rv h23 q9 => ?_)
                obtain ⟨⟨rfl, R_z24⟩, B_h23⟩ := q9
                have A_h23 := A_h19.tr B_h23 (by decide)
                have : ys h23 n0 5 = ys h19 n0 5 := B_h23.ys H_n0 (by decide)
                have : ys h23 k0 8 = ys h19 k0 8 := B_h23.ys H_k0 (by decide)
                have : ys h23 n0 3 = ys h19 n0 3 := B_h23.ys H_n0 (by decide)
                have qq9 : zsl h23 k0 1 = yR n0 := (B_h23.sl H_k0 (by decide)).trans qq7
                have : ys h23 k0 5 = ys h19 k0 5 := B_h23.ys H_k0 (by decide)
                have qq10 : zsl h23 k0 12 = yR r9 := (B_h23.sl H_k0 (by decide)).trans qq8
                show yG _ _ _ _ _ _ _ _ _ _ [] _
                refine yG.load xak rfl (fun _ _ => rfl) (v := yR k0) rfl rfl ?_
                refine yG.getI A_h23.1 (w_Shorts_active W H_k0) rfl rfl (fun z25 e_z25 i_z25 l_z25 u_z25 => ?_)
                refine yG.ifz rfl (t := 78) rfl ⟨by omega, by omega⟩ (fun c26 => ?_) (fun c26 => ?_)
                · have c26 : (z25 : Int) ≠ 0 := c26
                  exfalso; omega
                · have c26 : (z25 : Int) = 0 := c26
                  refine yG.ret rfl (fun _ _ => rfl) ?_
                  exact (yP.void ⟨⟨rfl, trivial⟩, A_h23⟩)
              · have c21 : (((0 + 1) + 1) + 1 : Int) < 3 := c21
                exfalso; omega
      · have c6 : (z5 : Int) ≠ 0 := c6
        refine yG.load xak rfl (fun _ _ => rfl) (v := yR k0) rfl rfl ?_
        refine yG.invV (rest := [yR k0]) A_h4.1 (bOb (d_Shorts W) H_k0) rfl rfl rfl rfl (c_Shorts_isThere_off W (d + 3) A_h4.1 (M_bSh.fr A_h4 (by decide)) H_k0 H_n0 qq1 (by omega) (by omega) (by omega) (by omega)) (fun rv h27 q9 => ?_)
        obtain ⟨q9, t0_z28, t1_z28⟩ := q9
        obtain ⟨⟨z28, rfl, l_z28, u_z28, R_z28⟩, B_h27⟩ := q9
        have A_h27 := A_h4.tr B_h27 (by decide)
        have : ys h27 n0 5 = ys h4 n0 5 := B_h27.ys H_n0 (by decide)
        have : ys h27 n0 3 = ys h4 n0 3 := B_h27.ys H_n0 (by decide)
        have qq11 : zsl h27 k0 1 = yR n0 := (B_h27.sl H_k0 (by decide)).trans qq1
        obtain ⟨g29, e_g29⟩ : ∃ z : Int, z = ys h27 k0 8 := ⟨_, rfl⟩
        show yG _ _ _ _ _ _ _ _ _ _ (yI z28 :: [yR k0]) _
        refine yG.ifz rfl (t := 35) rfl ⟨by omega, by omega⟩ (fun c30 => ?_) (fun c30 => ?_)
        · have c30 : (z28 : Int) = 0 := c30
          refine yG.num (c := 0) rfl (fun _ _ => rfl) (by decide) ?_
          refine yG.putI A_h27.1 (w_Shorts_active W H_k0) (W.2.1 _ _ H_k0 (by decide) (by decide)) rfl rfl (.inr ⟨rfl, rfl, rfl⟩) ⟨by omega, by omega⟩ (by omega) (by omega) (fun h31 T_h31 b_h31 f_h31 y_h31 => ?_)
          have A_h31 := A_h27.put T_h31 b_h31 f_h31 H_k0 (by decide)
          have : ys h31 n0 5 = ys h27 n0 5 := (y_h31 n0 5).trans (if_neg (fun e => (bRo.ne H_n0 H_k0 (by decide)) e.1))
          have : ys h31 n0 3 = ys h27 n0 3 := (y_h31 n0 3).trans (if_neg (fun e => (bRo.ne H_n0 H_k0 (by decide)) e.1))
          have qq12 : zsl h31 k0 1 = yR n0 := ((f_h31 k0 1).trans (if_neg (fun e => absurd e.2 (by decide)))).trans qq11
          have : ys h31 k0 8 = ys h27 k0 8 := (y_h31 k0 8).trans (if_neg (fun e => absurd e.2 (by decide)))
          have : ys h31 k0 5 = 0 := (y_h31 k0 5).trans (if_pos ⟨rfl, rfl⟩)
          refine yG.num (c := 0) rfl (fun _ _ => rfl) (by decide) ?_
          refine yG.store1 xik (L' := [(1, yI (0)), (0, yR k0)]) rfl (fun _ _ => rfl) rfl rfl ?_
          refine yG.load xik rfl (fun _ _ => rfl) (v := yI (0)) rfl rfl ?_
          refine yG.num (c := 3) rfl (fun _ _ => rfl) (by decide) ?_
          refine yG.icmp rfl (t := 62) rfl ⟨by omega, by omega⟩ ⟨by omega, by omega⟩ (fun c32 => ?_) (fun c32 => ?_)
          · have c32 : (0 : Int) ≥ 3 := c32
            exfalso; omega
          · have c32 : (0 : Int) < 3 := c32
            refine yG.load xak rfl (fun _ _ => rfl) (v := yR k0) rfl rfl ?_
            refine yG.getO A_h31.1 (w_Shorts_part W H_k0) rfl rfl (fun r33 H_r33 O_r33 q_r33 => ?_)
            refine yG.load xik rfl (fun _ _ => rfl) (v := yI (0)) rfl rfl ?_
            refine yG.aaldO (r := 35) A_h31.1 (v_Big3 W H_r33) rfl rfl rfl (by omega) (by omega) (fun r34 H_r34 q_r34 => ?_)
            obtain ⟨n_r34, N_r34⟩ : ∃ n : Int, n = ((zat G r34 : Nat) : Int) := ⟨_, rfl⟩
            have L_r34 := n_Big W H_r34
            refine yG.numl (c := 0) rfl (fun _ _ => rfl) (by decide) ?_
            refine yG.invV (rest := []) A_h31.1 (bOb (d_Big W) H_r34) rfl rfl rfl rfl (c_Big_put W (d + 3) A_h31.1 H_r34 (0) (by omega) (by omega)) (fun rv h35 q9 => ?_)
            obtain ⟨⟨rfl, R_z36⟩, B_h35⟩ := q9
            have A_h35 := A_h31.tr B_h35 (by decide)
            have : ys h35 n0 5 = ys h31 n0 5 := B_h35.ys H_n0 (by decide)
            have : ys h35 n0 3 = ys h31 n0 3 := B_h35.ys H_n0 (by decide)
            have qq13 : zsl h35 k0 1 = yR n0 := (B_h35.sl H_k0 (by decide)).trans qq12
            have : ys h35 k0 8 = ys h31 k0 8 := B_h35.ys H_k0 (by decide)
            have : ys h35 k0 5 = ys h31 k0 5 := B_h35.ys H_k0 (by decide)
            have qq14 : zsl h35 k0 12 = yR r33 := (B_h35.sl H_k0 (by decide)).trans q_r33
            show yG _ _ _ _ _ _ _ _ _ _ [] _
            refine yG.iinc rfl (a := 0) rfl (L' := [(1, yI (0 + 1)), (0, yR k0)]) rfl ?_
            refine yG.goto rfl (t := 41) rfl ?_
            refine yG.load xik rfl (fun _ _ => rfl) (v := yI (0 + 1)) rfl rfl ?_
            refine yG.num (c := 3) rfl (fun _ _ => rfl) (by decide) ?_
            refine yG.icmp rfl (t := 62) rfl ⟨by omega, by omega⟩ ⟨by omega, by omega⟩ (fun c37 => ?_) (fun c37 => ?_)
            · have c37 : (0 + 1 : Int) ≥ 3 := c37
              exfalso; omega
            · have c37 : (0 + 1 : Int) < 3 := c37
              refine yG.load xak rfl (fun _ _ => rfl) (v := yR k0) rfl rfl ?_
              refine yG.getS9 A_h35.1 (w_Shorts_part W H_k0) qq14 rfl rfl ?_
              refine yG.load xik rfl (fun _ _ => rfl) (v := yI (0 + 1)) rfl rfl ?_
              refine yG.aaldO (r := 35) A_h35.1 (v_Big3 W H_r33) rfl rfl rfl (by omega) (by omega) (fun r38 H_r38 q_r38 => ?_)
              obtain ⟨n_r38, N_r38⟩ : ∃ n : Int, n = ((zat G r38 : Nat) : Int) := ⟨_, rfl⟩
              have L_r38 := n_Big W H_r38
              refine yG.numl (c := 0) rfl (fun _ _ => rfl) (by decide) ?_
              refine yG.invV (rest := []) A_h35.1 (bOb (d_Big W) H_r38) rfl rfl rfl rfl (c_Big_put W (d + 3) A_h35.1 H_r38 (0) (by omega) (by omega)) (fun rv h39 q9 => ?_)
              obtain ⟨⟨rfl, R_z40⟩, B_h39⟩ := q9
              have A_h39 := A_h35.tr B_h39 (by decide)
              have : ys h39 n0 5 = ys h35 n0 5 := B_h39.ys H_n0 (by decide)
              have : ys h39 n0 3 = ys h35 n0 3 := B_h39.ys H_n0 (by decide)
              have qq15 : zsl h39 k0 1 = yR n0 := (B_h39.sl H_k0 (by decide)).trans qq13
              have : ys h39 k0 8 = ys h35 k0 8 := B_h39.ys H_k0 (by decide)
              have : ys h39 k0 5 = ys h35 k0 5 := B_h39.ys H_k0 (by decide)
              have qq16 : zsl h39 k0 12 = yR r33 := (B_h39.sl H_k0 (by decide)).trans qq14
              show yG _ _ _ _ _ _ _ _ _ _ [] _
              refine yG.iinc rfl (a := 0 + 1) rfl (L' := [(1, yI ((0 + 1) + 1)), (0, yR k0)]) rfl ?_
              refine yG.goto rfl (t := 41) rfl ?_
              refine yG.load xik rfl (fun _ _ => rfl) (v := yI ((0 + 1) + 1)) rfl rfl ?_
              refine yG.num (c := 3) rfl (fun _ _ => rfl) (by decide) ?_
              refine yG.icmp rfl (t := 62) rfl ⟨by omega, by omega⟩ ⟨by omega, by omega⟩ (fun c41 => ?_) (fun c41 => ?_)
              · have c41 : ((0 + 1) + 1 : Int) ≥ 3 := c41
                exfalso; omega
              · have c41 : ((0 + 1) + 1 : Int) < 3 := c41
                refine yG.load xak rfl (fun _ _ => rfl) (v := yR k0) rfl rfl ?_
                refine yG.getS9 A_h39.1 (w_Shorts_part W H_k0) qq16 rfl rfl ?_
                refine yG.load xik rfl (fun _ _ => rfl) (v := yI ((0 + 1) + 1)) rfl rfl ?_
                refine yG.aaldO (r := 35) A_h39.1 (v_Big3 W H_r33) rfl rfl rfl (by omega) (by omega) (fun r42 H_r42 q_r42 => ?_)
                obtain ⟨n_r42, N_r42⟩ : ∃ n : Int, n = ((zat G r42 : Nat) : Int) := ⟨_, rfl⟩
                have L_r42 := n_Big W H_r42
                refine yG.numl (c := 0) rfl (fun _ _ => rfl) (by decide) ?_
                refine yG.invV (rest := []) A_h39.1 (bOb (d_Big W) H_r42) rfl rfl rfl rfl (c_Big_put W (d + 3) A_h39.1 H_r42 (0) (by omega) (by omega)) (fun rv h43 q9 => ?_)
                obtain ⟨⟨rfl, R_z44⟩, B_h43⟩ := q9
                have A_h43 := A_h39.tr B_h43 (by decide)
                have : ys h43 n0 5 = ys h39 n0 5 := B_h43.ys H_n0 (by decide)
                have : ys h43 n0 3 = ys h39 n0 3 := B_h43.ys H_n0 (by decide)
                have qq17 : zsl h43 k0 1 = yR n0 := (B_h43.sl H_k0 (by decide)).trans qq15
                have : ys h43 k0 8 = ys h39 k0 8 := B_h43.ys H_k0 (by decide)
                have : ys h43 k0 5 = ys h39 k0 5 := B_h43.ys H_k0 (by decide)
                have qq18 : zsl h43 k0 12 = yR r33 := (B_h43.sl H_k0 (by decide)).trans qq16
                show yG _ _ _ _ _ _ _ _ _ _ [] _
                refine yG.iinc rfl (a := (0 + 1) + 1) rfl (L' := [(1, yI (((0 + 1) + 1) + 1)), (0, yR k0)]) rfl ?_
                refine yG.goto rfl (t := 41) rfl ?_
                refine yG.load xik rfl (fun _ _ => rfl) (v := yI (((0 + 1) + 1) + 1)) rfl rfl ?_
                refine yG.num (c := 3) rfl (fun _ _ => rfl) (by decide) ?_
                refine yG.icmp rfl (t := 62) rfl ⟨by omega, by omega⟩ ⟨by omega, by omega⟩ (fun c45 => ?_) (fun c45 => ?_)
                · have c45 : (((0 + 1) + 1) + 1 : Int) ≥ 3 := c45
                  refine yG.load xak rfl (fun _ _ => rfl) (v := yR k0) rfl rfl ?_
                  refine yG.getO A_h43.1 (w_Shorts_below W H_k0) rfl rfl (fun r46 H_r46 O_r46 q_r46 => ?_)
                  obtain ⟨n_r46, N_r46⟩ : ∃ n : Int, n = ((zat G r46 : Nat) : Int) := ⟨_, rfl⟩
                  have L_r46 := n_Big W H_r46
                  refine yG.numl (c := 1) rfl (fun _ _ => rfl) (by decide) ?_
                  refine yG.invV (rest := []) A_h43.1 (bOb (d_Big W) H_r46) rfl rfl rfl rfl (c_Big_put W (d + 3) A_h43.1 H_r46 (1) (by omega) (by omega)) (fun rv h47 q9 => ?_)
                  obtain ⟨⟨rfl, R_z48⟩, B_h47⟩ := q9
                  have A_h47 := A_h43.tr B_h47 (by decide)
                  have : ys h47 n0 5 = ys h43 n0 5 := B_h47.ys H_n0 (by decide)
                  have : ys h47 n0 3 = ys h43 n0 3 := B_h47.ys H_n0 (by decide)
                  have qq19 : zsl h47 k0 1 = yR n0 := (B_h47.sl H_k0 (by decide)).trans qq17
                  have : ys h47 k0 8 = ys h43 k0 8 := B_h47.ys H_k0 (by decide)
                  have : ys h47 k0 5 = ys h43 k0 5 := B_h47.ys H_k0 (by decide)
                  have qq20 : zsl h47 k0 12 = yR r33 := (B_h47.sl H_k0 (by decide)).trans qq18
                  show yG _ _ _ _ _ _ _ _ _ _ [] _
                  refine yG.load xak rfl (fun _ _ => rfl) (v := yR k0) rfl rfl ?_
                  refine yG.getI A_h47.1 (w_Shorts_active W H_k0) rfl rfl (fun z49 e_z49 i_z49 l_z49 u_z49 => ?_)
                  refine yG.ifz rfl (t := 78) rfl ⟨by omega, by omega⟩ (fun c50 => ?_) (fun c50 => ?_)
                  · have c50 : (z49 : Int) ≠ 0 := c50
                    exfalso; omega
                  · have c50 : (z49 : Int) = 0 := c50
                    refine yG.ret rfl (fun _ _ => rfl) ?_
                    exact (yP.void ⟨⟨rfl, trivial⟩, A_h47⟩)
                · have c45 : (((0 + 1) + 1) + 1 : Int) < 3 := c45
                  exfalso; omega
        · have c30 : (z28 : Int) ≠ 0 := c30
          refine yG.num (c := 1) rfl (fun _ _ => rfl) (by decide) ?_
          refine yG.goto rfl (t := 36) rfl ?_
          refine yG.putI A_h27.1 (w_Shorts_active W H_k0) (W.2.1 _ _ H_k0 (by decide) (by decide)) rfl rfl (.inr ⟨rfl, rfl, rfl⟩) ⟨by omega, by omega⟩ (by omega) (by omega) (fun h51 T_h51 b_h51 f_h51 y_h51 => ?_)
          have A_h51 := A_h27.put T_h51 b_h51 f_h51 H_k0 (by decide)
          have : ys h51 n0 5 = ys h27 n0 5 := (y_h51 n0 5).trans (if_neg (fun e => (bRo.ne H_n0 H_k0 (by decide)) e.1))
          have : ys h51 n0 3 = ys h27 n0 3 := (y_h51 n0 3).trans (if_neg (fun e => (bRo.ne H_n0 H_k0 (by decide)) e.1))
          have qq21 : zsl h51 k0 1 = yR n0 := ((f_h51 k0 1).trans (if_neg (fun e => absurd e.2 (by decide)))).trans qq11
          have : ys h51 k0 8 = ys h27 k0 8 := (y_h51 k0 8).trans (if_neg (fun e => absurd e.2 (by decide)))
          have : ys h51 k0 5 = 1 := (y_h51 k0 5).trans (if_pos ⟨rfl, rfl⟩)
          refine yG.num (c := 0) rfl (fun _ _ => rfl) (by decide) ?_
          refine yG.store1 xik (L' := [(1, yI (0)), (0, yR k0)]) rfl (fun _ _ => rfl) rfl rfl ?_
          refine yG.load xik rfl (fun _ _ => rfl) (v := yI (0)) rfl rfl ?_
          refine yG.num (c := 3) rfl (fun _ _ => rfl) (by decide) ?_
          refine yG.icmp rfl (t := 62) rfl ⟨by omega, by omega⟩ ⟨by omega, by omega⟩ (fun c52 => ?_) (fun c52 => ?_)
          · have c52 : (0 : Int) ≥ 3 := c52
            exfalso; omega
          · have c52 : (0 : Int) < 3 := c52
            refine yG.load xak rfl (fun _ _ => rfl) (v := yR k0) rfl rfl ?_
            refine yG.getO A_h51.1 (w_Shorts_part W H_k0) rfl rfl (fun r53 H_r53 O_r53 q_r53 => ?_)
            refine yG.load xik rfl (fun _ _ => rfl) (v := yI (0)) rfl rfl ?_
            refine yG.aaldO (r := 35) A_h51.1 (v_Big3 W H_r53) rfl rfl rfl (by omega) (by omega) (fun r54 H_r54 q_r54 => ?_)
            obtain ⟨n_r54, N_r54⟩ : ∃ n : Int, n = ((zat G r54 : Nat) : Int) := ⟨_, rfl⟩
            have L_r54 := n_Big W H_r54
            refine yG.numl (c := 0) rfl (fun _ _ => rfl) (by decide) ?_
            refine yG.invV (rest := []) A_h51.1 (bOb (d_Big W) H_r54) rfl rfl rfl rfl (c_Big_put W (d + 3) A_h51.1 H_r54 (0) (by omega) (by omega)) (fun rv h55 q9 => ?_)
            obtain ⟨⟨rfl, R_z56⟩, B_h55⟩ := q9
            have A_h55 := A_h51.tr B_h55 (by decide)
            have : ys h55 n0 5 = ys h51 n0 5 := B_h55.ys H_n0 (by decide)
            have : ys h55 n0 3 = ys h51 n0 3 := B_h55.ys H_n0 (by decide)
            have qq22 : zsl h55 k0 1 = yR n0 := (B_h55.sl H_k0 (by decide)).trans qq21
            have : ys h55 k0 8 = ys h51 k0 8 := B_h55.ys H_k0 (by decide)
            have : ys h55 k0 5 = ys h51 k0 5 := B_h55.ys H_k0 (by decide)
            have qq23 : zsl h55 k0 12 = yR r53 := (B_h55.sl H_k0 (by decide)).trans q_r53
            show yG _ _ _ _ _ _ _ _ _ _ [] _
            refine yG.iinc rfl (a := 0) rfl (L' := [(1, yI (0 + 1)), (0, yR k0)]) rfl ?_
            refine yG.goto rfl (t := 41) rfl ?_
            refine yG.load xik rfl (fun _ _ => rfl) (v := yI (0 + 1)) rfl rfl ?_
            refine yG.num (c := 3) rfl (fun _ _ => rfl) (by decide) ?_
            refine yG.icmp rfl (t := 62) rfl ⟨by omega, by omega⟩ ⟨by omega, by omega⟩ (fun c57 => ?_) (fun c57 => ?_)
            · have c57 : (0 + 1 : Int) ≥ 3 := c57
              exfalso; omega
            · have c57 : (0 + 1 : Int) < 3 := c57
              refine yG.load xak rfl (fun _ _ => rfl) (v := yR k0) rfl rfl ?_
              refine yG.getS9 A_h55.1 (w_Shorts_part W H_k0) qq23 rfl rfl ?_
              refine yG.load xik rfl (fun _ _ => rfl) (v := yI (0 + 1)) rfl rfl ?_
              refine yG.aaldO (r := 35) A_h55.1 (v_Big3 W H_r53) rfl rfl rfl (by omega) (by omega) (fun r58 H_r58 q_r58 => ?_)
              obtain ⟨n_r58, N_r58⟩ : ∃ n : Int, n = ((zat G r58 : Nat) : Int) := ⟨_, rfl⟩
              have L_r58 := n_Big W H_r58
              refine yG.numl (c := 0) rfl (fun _ _ => rfl) (by decide) ?_
              refine yG.invV (rest := []) A_h55.1 (bOb (d_Big W) H_r58) rfl rfl rfl rfl (c_Big_put W (d + 3) A_h55.1 H_r58 (0) (by omega) (by omega)) (fun rv h59 q9 => ?_)
              obtain ⟨⟨rfl, R_z60⟩, B_h59⟩ := q9
              have A_h59 := A_h55.tr B_h59 (by decide)
              have : ys h59 n0 5 = ys h55 n0 5 := B_h59.ys H_n0 (by decide)
              have : ys h59 n0 3 = ys h55 n0 3 := B_h59.ys H_n0 (by decide)
              have qq24 : zsl h59 k0 1 = yR n0 := (B_h59.sl H_k0 (by decide)).trans qq22
              have : ys h59 k0 8 = ys h55 k0 8 := B_h59.ys H_k0 (by decide)
              have : ys h59 k0 5 = ys h55 k0 5 := B_h59.ys H_k0 (by decide)
              have qq25 : zsl h59 k0 12 = yR r53 := (B_h59.sl H_k0 (by decide)).trans qq23
              show yG _ _ _ _ _ _ _ _ _ _ [] _
              refine yG.iinc rfl (a := 0 + 1) rfl (L' := [(1, yI ((0 + 1) + 1)), (0, yR k0)]) rfl ?_
              refine yG.goto rfl (t := 41) rfl ?_
              refine yG.load xik rfl (fun _ _ => rfl) (v := yI ((0 + 1) + 1)) rfl rfl ?_
              refine yG.num (c := 3) rfl (fun _ _ => rfl) (by decide) ?_
              refine yG.icmp rfl (t := 62) rfl ⟨by omega, by omega⟩ ⟨by omega, by omega⟩ (fun c61 => ?_) (fun c61 => ?_)
              · have c61 : ((0 + 1) + 1 : Int) ≥ 3 := c61
                exfalso; omega
              · have c61 : ((0 + 1) + 1 : Int) < 3 := c61
                refine yG.load xak rfl (fun _ _ => rfl) (v := yR k0) rfl rfl ?_
                refine yG.getS9 A_h59.1 (w_Shorts_part W H_k0) qq25 rfl rfl ?_
                refine yG.load xik rfl (fun _ _ => rfl) (v := yI ((0 + 1) + 1)) rfl rfl ?_
                refine yG.aaldO (r := 35) A_h59.1 (v_Big3 W H_r53) rfl rfl rfl (by omega) (by omega) (fun r62 H_r62 q_r62 => ?_)
                obtain ⟨n_r62, N_r62⟩ : ∃ n : Int, n = ((zat G r62 : Nat) : Int) := ⟨_, rfl⟩
                have L_r62 := n_Big W H_r62
                refine yG.numl (c := 0) rfl (fun _ _ => rfl) (by decide) ?_
                refine yG.invV (rest := []) A_h59.1 (bOb (d_Big W) H_r62) rfl rfl rfl rfl (c_Big_put W (d + 3) A_h59.1 H_r62 (0) (by omega) (by omega)) (fun rv h63 q9 => ?_)
                obtain ⟨⟨rfl, R_z64⟩, B_h63⟩ := q9
                have A_h63 := A_h59.tr B_h63 (by decide)
                have : ys h63 n0 5 = ys h59 n0 5 := B_h63.ys H_n0 (by decide)
                have : ys h63 n0 3 = ys h59 n0 3 := B_h63.ys H_n0 (by decide)
                have qq26 : zsl h63 k0 1 = yR n0 := (B_h63.sl H_k0 (by decide)).trans qq24
                have : ys h63 k0 8 = ys h59 k0 8 := B_h63.ys H_k0 (by decide)
                have : ys h63 k0 5 = ys h59 k0 5 := B_h63.ys H_k0 (by decide)
                have qq27 : zsl h63 k0 12 = yR r53 := (B_h63.sl H_k0 (by decide)).trans qq25
                show yG _ _ _ _ _ _ _ _ _ _ [] _
                refine yG.iinc rfl (a := (0 + 1) + 1) rfl (L' := [(1, yI (((0 + 1) + 1) + 1)), (0, yR k0)]) rfl ?_
                refine yG.goto rfl (t := 41) rfl ?_
                refine yG.load xik rfl (fun _ _ => rfl) (v := yI (((0 + 1) + 1) + 1)) rfl rfl ?_
                refine yG.num (c := 3) rfl (fun _ _ => rfl) (by decide) ?_
                refine yG.icmp rfl (t := 62) rfl ⟨by omega, by omega⟩ ⟨by omega, by omega⟩ (fun c65 => ?_) (fun c65 => ?_)
                · have c65 : (((0 + 1) + 1) + 1 : Int) ≥ 3 := c65
                  refine yG.load xak rfl (fun _ _ => rfl) (v := yR k0) rfl rfl ?_
                  refine yG.getO A_h63.1 (w_Shorts_below W H_k0) rfl rfl (fun r66 H_r66 O_r66 q_r66 => ?_)
                  obtain ⟨n_r66, N_r66⟩ : ∃ n : Int, n = ((zat G r66 : Nat) : Int) := ⟨_, rfl⟩
                  have L_r66 := n_Big W H_r66
                  refine yG.numl (c := 1) rfl (fun _ _ => rfl) (by decide) ?_
                  refine yG.invV (rest := []) A_h63.1 (bOb (d_Big W) H_r66) rfl rfl rfl rfl (c_Big_put W (d + 3) A_h63.1 H_r66 (1) (by omega) (by omega)) (fun rv h67 q9 => ?_)
                  obtain ⟨⟨rfl, R_z68⟩, B_h67⟩ := q9
                  have A_h67 := A_h63.tr B_h67 (by decide)
                  have : ys h67 n0 5 = ys h63 n0 5 := B_h67.ys H_n0 (by decide)
                  have : ys h67 n0 3 = ys h63 n0 3 := B_h67.ys H_n0 (by decide)
                  have qq28 : zsl h67 k0 1 = yR n0 := (B_h67.sl H_k0 (by decide)).trans qq26
                  have : ys h67 k0 8 = ys h63 k0 8 := B_h67.ys H_k0 (by decide)
                  have : ys h67 k0 5 = ys h63 k0 5 := B_h67.ys H_k0 (by decide)
                  have qq29 : zsl h67 k0 12 = yR r53 := (B_h67.sl H_k0 (by decide)).trans qq27
                  show yG _ _ _ _ _ _ _ _ _ _ [] _
                  refine yG.load xak rfl (fun _ _ => rfl) (v := yR k0) rfl rfl ?_
                  refine yG.getI A_h67.1 (w_Shorts_active W H_k0) rfl rfl (fun z69 e_z69 i_z69 l_z69 u_z69 => ?_)
                  refine yG.ifz rfl (t := 78) rfl ⟨by omega, by omega⟩ (fun c70 => ?_) (fun c70 => ?_)
                  · have c70 : (z69 : Int) ≠ 0 := c70
                    refine yG.load xak rfl (fun _ _ => rfl) (v := yR k0) rfl rfl ?_
                    refine yG.num (c := 0) rfl (fun _ _ => rfl) (by decide) ?_
                    refine yG.invV (rest := []) A_h67.1 (bOb (d_Shorts W) H_k0) rfl rfl rfl rfl (c_Shorts_sequence_off W d A_h67.1 H_k0 H_n0 qq28 (0) (by omega) (by omega) (by omega) (by omega) (by omega) (by omega)) (fun rv h71 q9 => ?_)
                    obtain ⟨⟨rfl, R_z72⟩, B_h71⟩ := q9
                    have A_h71 := A_h67.tr B_h71 (by decide)
                    have : ys h71 n0 5 = ys h67 n0 5 := B_h71.ys H_n0 (by decide)
                    have : ys h71 n0 3 = ys h67 n0 3 := B_h71.ys H_n0 (by decide)
                    have qq30 : zsl h71 k0 1 = yR n0 := (B_h71.sl H_k0 (by decide)).trans qq28
                    have : ys h71 k0 8 = ys h67 k0 8 := B_h71.ys H_k0 (by decide)
                    have : ys h71 k0 5 = ys h67 k0 5 := B_h71.ys H_k0 (by decide)
                    have qq31 : zsl h71 k0 12 = yR r53 := (B_h71.sl H_k0 (by decide)).trans qq29
                    show yG _ _ _ _ _ _ _ _ _ _ [] _
                    refine yG.load xak rfl (fun _ _ => rfl) (v := yR k0) rfl rfl ?_
                    refine yG.load xak rfl (fun _ _ => rfl) (v := yR k0) rfl rfl ?_
                    refine yG.invV (rest := [yR k0]) A_h71.1 (bOb (d_Shorts W) H_k0) rfl rfl rfl rfl (c_Shorts_isGrounded W (d + 3) A_h71.1 H_k0) (fun rv hp9 q9 => ?_)
                    obtain ⟨⟨z73, rfl, l_z73, u_z73, R_z73⟩, e9⟩ := q9
                    rw [e9]
                    show yG _ _ _ _ _ _ _ _ _ _ (yI z73 :: [yR k0]) _
                    refine yG.putI A_h71.1 (w_Shorts_grounded W H_k0) (W.2.1 _ _ H_k0 (by decide) (by decide)) rfl rfl (.inr ⟨rfl, rfl, rfl⟩) ⟨by omega, by omega⟩ (by omega) (by omega) (fun h74 T_h74 b_h74 f_h74 y_h74 => ?_)
                    have A_h74 := A_h71.put T_h74 b_h74 f_h74 H_k0 (by decide)
                    have : ys h74 n0 5 = ys h71 n0 5 := (y_h74 n0 5).trans (if_neg (fun e => (bRo.ne H_n0 H_k0 (by decide)) e.1))
                    have : ys h74 n0 3 = ys h71 n0 3 := (y_h74 n0 3).trans (if_neg (fun e => (bRo.ne H_n0 H_k0 (by decide)) e.1))
                    have qq32 : zsl h74 k0 1 = yR n0 := ((f_h74 k0 1).trans (if_neg (fun e => absurd e.2 (by decide)))).trans qq30
                    have : ys h74 k0 8 = ys h71 k0 8 := (y_h74 k0 8).trans (if_neg (fun e => absurd e.2 (by decide)))
                    have : ys h74 k0 5 = ys h71 k0 5 := (y_h74 k0 5).trans (if_neg (fun e => absurd e.2 (by decide)))
                    have qq33 : zsl h74 k0 12 = yR r53 := ((f_h74 k0 12).trans (if_neg (fun e => absurd e.2 (by decide)))).trans qq31
                    have : ys h74 k0 6 = z73 := (y_h74 k0 6).trans (if_pos ⟨rfl, rfl⟩)
                    refine yG.load xak rfl (fun _ _ => rfl) (v := yR k0) rfl rfl ?_
                    refine yG.getI A_h74.1 (w_Shorts_grounded W H_k0) rfl rfl (fun z75 e_z75 i_z75 l_z75 u_z75 => ?_)
                    refine yG.ifz rfl (t := 110) rfl ⟨by omega, by omega⟩ (fun c76 => ?_) (fun c76 => ?_)
                    · have c76 : (z75 : Int) = 0 := c76
                      refine yG.load xak rfl (fun _ _ => rfl) (v := yR k0) rfl rfl ?_
                      refine yG.invV (rest := []) A_h74.1 (bOb (d_Shorts W) H_k0) rfl rfl rfl rfl (c_Shorts_weigh W d A_h74.1 H_k0) (fun rv h77 q9 => ?_)
                      obtain ⟨⟨rfl, R_z78⟩, B_h77⟩ := q9
                      have A_h77 := A_h74.tr B_h77 (by decide)
                      have : ys h77 n0 5 = ys h74 n0 5 := B_h77.ys H_n0 (by decide)
                      have : ys h77 n0 3 = ys h74 n0 3 := B_h77.ys H_n0 (by decide)
                      have qq34 : zsl h77 k0 1 = yR n0 := (B_h77.sl H_k0 (by decide)).trans qq32
                      have : ys h77 k0 8 = ys h74 k0 8 := B_h77.ys H_k0 (by decide)
                      have : ys h77 k0 5 = ys h74 k0 5 := B_h77.ys H_k0 (by decide)
                      have qq35 : zsl h77 k0 12 = yR r53 := (B_h77.sl H_k0 (by decide)).trans qq33
                      have : ys h77 k0 6 = ys h74 k0 6 := B_h77.ys H_k0 (by decide)
                      show yG _ _ _ _ _ _ _ _ _ _ [] _
                      refine yG.ret rfl (fun _ _ => rfl) ?_
                      exact (yP.void ⟨⟨rfl, trivial⟩, A_h77⟩)
                    · have c76 : (z75 : Int) ≠ 0 := c76
                      refine yG.load xak rfl (fun _ _ => rfl) (v := yR k0) rfl rfl ?_
                      refine yG.invV (rest := []) A_h74.1 (bOb (d_Shorts W) H_k0) rfl rfl rfl rfl (c_Shorts_isOdd W (d + 4) A_h74.1 H_k0) (fun rv hp9 q9 => ?_)
                      obtain ⟨⟨z79, rfl, l_z79, u_z79, R_z79⟩, e9⟩ := q9
                      rw [e9]
                      show yG _ _ _ _ _ _ _ _ _ _ (yI z79 :: []) _
                      refine yG.ifz rfl (t := 110) rfl ⟨by omega, by omega⟩ (fun c80 => ?_) (fun c80 => ?_)
                      · have c80 : (z79 : Int) = 0 := c80
                        refine yG.load xak rfl (fun _ _ => rfl) (v := yR k0) rfl rfl ?_
                        refine yG.invV (rest := []) A_h74.1 (bOb (d_Shorts W) H_k0) rfl rfl rfl rfl (c_Shorts_weigh W d A_h74.1 H_k0) (fun rv h81 q9 => ?_)
                        obtain ⟨⟨rfl, R_z82⟩, B_h81⟩ := q9
                        have A_h81 := A_h74.tr B_h81 (by decide)
                        have : ys h81 n0 5 = ys h74 n0 5 := B_h81.ys H_n0 (by decide)
                        have : ys h81 n0 3 = ys h74 n0 3 := B_h81.ys H_n0 (by decide)
                        have qq36 : zsl h81 k0 1 = yR n0 := (B_h81.sl H_k0 (by decide)).trans qq32
                        have : ys h81 k0 8 = ys h74 k0 8 := B_h81.ys H_k0 (by decide)
                        have : ys h81 k0 5 = ys h74 k0 5 := B_h81.ys H_k0 (by decide)
                        have qq37 : zsl h81 k0 12 = yR r53 := (B_h81.sl H_k0 (by decide)).trans qq33
                        have : ys h81 k0 6 = ys h74 k0 6 := B_h81.ys H_k0 (by decide)
                        show yG _ _ _ _ _ _ _ _ _ _ [] _
                        refine yG.ret rfl (fun _ _ => rfl) ?_
                        exact (yP.void ⟨⟨rfl, trivial⟩, A_h81⟩)
                      · have c80 : (z79 : Int) ≠ 0 := c80
                        refine yG.load xak rfl (fun _ _ => rfl) (v := yR k0) rfl rfl ?_
                        refine yG.num (c := 1) rfl (fun _ _ => rfl) (by decide) ?_
                        refine yG.invV (rest := []) A_h74.1 (bOb (d_Shorts W) H_k0) rfl rfl rfl rfl (c_Shorts_sequence_off W d A_h74.1 H_k0 H_n0 qq32 (1) (by omega) (by omega) (by omega) (by omega) (by omega) (by omega)) (fun rv h83 q9 => ?_)
                        obtain ⟨⟨rfl, R_z84⟩, B_h83⟩ := q9
                        have A_h83 := A_h74.tr B_h83 (by decide)
                        have : ys h83 n0 5 = ys h74 n0 5 := B_h83.ys H_n0 (by decide)
                        have : ys h83 n0 3 = ys h74 n0 3 := B_h83.ys H_n0 (by decide)
                        have qq38 : zsl h83 k0 1 = yR n0 := (B_h83.sl H_k0 (by decide)).trans qq32
                        have : ys h83 k0 8 = ys h74 k0 8 := B_h83.ys H_k0 (by decide)
                        have : ys h83 k0 5 = ys h74 k0 5 := B_h83.ys H_k0 (by decide)
                        have qq39 : zsl h83 k0 12 = yR r53 := (B_h83.sl H_k0 (by decide)).trans qq33
                        have : ys h83 k0 6 = ys h74 k0 6 := B_h83.ys H_k0 (by decide)
                        show yG _ _ _ _ _ _ _ _ _ _ [] _
                        refine yG.load xak rfl (fun _ _ => rfl) (v := yR k0) rfl rfl ?_
                        refine yG.invV (rest := []) A_h83.1 (bOb (d_Shorts W) H_k0) rfl rfl rfl rfl (c_Shorts_weigh W d A_h83.1 H_k0) (fun rv h85 q9 => ?_)
                        obtain ⟨⟨rfl, R_z86⟩, B_h85⟩ := q9
                        have A_h85 := A_h83.tr B_h85 (by decide)
                        have : ys h85 n0 5 = ys h83 n0 5 := B_h85.ys H_n0 (by decide)
                        have : ys h85 n0 3 = ys h83 n0 3 := B_h85.ys H_n0 (by decide)
                        have qq40 : zsl h85 k0 1 = yR n0 := (B_h85.sl H_k0 (by decide)).trans qq38
                        have : ys h85 k0 8 = ys h83 k0 8 := B_h85.ys H_k0 (by decide)
                        have : ys h85 k0 5 = ys h83 k0 5 := B_h85.ys H_k0 (by decide)
                        have qq41 : zsl h85 k0 12 = yR r53 := (B_h85.sl H_k0 (by decide)).trans qq39
                        have : ys h85 k0 6 = ys h83 k0 6 := B_h85.ys H_k0 (by decide)
                        show yG _ _ _ _ _ _ _ _ _ _ [] _
                        refine yG.ret rfl (fun _ _ => rfl) ?_
                        exact (yP.void ⟨⟨rfl, trivial⟩, A_h85⟩)
                  · have c70 : (z69 : Int) = 0 := c70
                    exfalso; omega
                · have c65 : (((0 + 1) + 1) + 1 : Int) < 3 := c65
                  exfalso; omega
    · have c3 : (z2 : Int) ≠ 0 := c3
      refine yG.ret rfl (fun _ _ => rfl) ?_
      exact (yP.void ⟨⟨rfl, trivial⟩, A_hp⟩)
  · skip
    refine yG.load xak rfl (fun _ _ => rfl) (v := yR k0) rfl rfl ?_
    refine yG.getI A_hp.1 (w_Shorts_known W H_k0) rfl rfl (fun z87 e_z87 i_z87 l_z87 u_z87 => ?_)
    refine yG.ifz rfl (t := 8) rfl ⟨by omega, by omega⟩ (fun c88 => ?_) (fun c88 => ?_)
    · have c88 : (z87 : Int) = 0 := c88
      refine yG.load xak rfl (fun _ _ => rfl) (v := yR k0) rfl rfl ?_
      refine yG.num (c := 1) rfl (fun _ _ => rfl) (by decide) ?_
      refine yG.putI A_hp.1 (w_Shorts_known W H_k0) (W.2.1 _ _ H_k0 (by decide) (by decide)) rfl rfl (.inr ⟨rfl, rfl, rfl⟩) ⟨by omega, by omega⟩ (by omega) (by omega) (fun h89 T_h89 b_h89 f_h89 y_h89 => ?_)
      have A_h89 := A_hp.put T_h89 b_h89 f_h89 H_k0 (by decide)
      have : ys h89 n0 5 = ys hp n0 5 := (y_h89 n0 5).trans (if_neg (fun e => (bRo.ne H_n0 H_k0 (by decide)) e.1))
      have : ys h89 k0 8 = ys hp k0 8 := (y_h89 k0 8).trans (if_neg (fun e => absurd e.2 (by decide)))
      have : ys h89 n0 3 = ys hp n0 3 := (y_h89 n0 3).trans (if_neg (fun e => (bRo.ne H_n0 H_k0 (by decide)) e.1))
      have qq42 : zsl h89 k0 1 = yR n0 := ((f_h89 k0 1).trans (if_neg (fun e => absurd e.2 (by decide)))).trans Q_n0
      refine yG.load xak rfl (fun _ _ => rfl) (v := yR k0) rfl rfl ?_
      refine yG.load xak rfl (fun _ _ => rfl) (v := yR k0) rfl rfl ?_
      refine yG.getS9 A_h89.1 (w_Shorts_net W H_k0) qq42 rfl rfl ?_
      refine yG.invV (rest := [yR k0]) A_h89.1 (bOb (d_Net W) H_n0) rfl rfl rfl rfl (c_Net_hasShort W (d + 4) A_h89.1 H_n0) (fun rv hp9 q9 => ?_)
      obtain ⟨⟨z90, rfl, l_z90, u_z90, R_z90⟩, e9⟩ := q9
      rw [e9]
      show yG _ _ _ _ _ _ _ _ _ _ (yI z90 :: [yR k0]) _
      refine yG.ifz rfl (t := 35) rfl ⟨by omega, by omega⟩ (fun c91 => ?_) (fun c91 => ?_)
      · have c91 : (z90 : Int) = 0 := c91
        refine yG.num (c := 0) rfl (fun _ _ => rfl) (by decide) ?_
        refine yG.putI A_h89.1 (w_Shorts_active W H_k0) (W.2.1 _ _ H_k0 (by decide) (by decide)) rfl rfl (.inr ⟨rfl, rfl, rfl⟩) ⟨by omega, by omega⟩ (by omega) (by omega) (fun h92 T_h92 b_h92 f_h92 y_h92 => ?_)
        have A_h92 := A_h89.put T_h92 b_h92 f_h92 H_k0 (by decide)
        have : ys h92 n0 5 = ys h89 n0 5 := (y_h92 n0 5).trans (if_neg (fun e => (bRo.ne H_n0 H_k0 (by decide)) e.1))
        have : ys h92 k0 8 = ys h89 k0 8 := (y_h92 k0 8).trans (if_neg (fun e => absurd e.2 (by decide)))
        have : ys h92 n0 3 = ys h89 n0 3 := (y_h92 n0 3).trans (if_neg (fun e => (bRo.ne H_n0 H_k0 (by decide)) e.1))
        have qq43 : zsl h92 k0 1 = yR n0 := ((f_h92 k0 1).trans (if_neg (fun e => absurd e.2 (by decide)))).trans qq42
        have : ys h92 k0 5 = 0 := (y_h92 k0 5).trans (if_pos ⟨rfl, rfl⟩)
        refine yG.num (c := 0) rfl (fun _ _ => rfl) (by decide) ?_
        refine yG.store1 xik (L' := [(1, yI (0)), (0, yR k0)]) rfl (fun _ _ => rfl) rfl rfl ?_
        refine yG.load xik rfl (fun _ _ => rfl) (v := yI (0)) rfl rfl ?_
        refine yG.num (c := 3) rfl (fun _ _ => rfl) (by decide) ?_
        refine yG.icmp rfl (t := 62) rfl ⟨by omega, by omega⟩ ⟨by omega, by omega⟩ (fun c93 => ?_) (fun c93 => ?_)
        · have c93 : (0 : Int) ≥ 3 := c93
          exfalso; omega
        · have c93 : (0 : Int) < 3 := c93
          refine yG.load xak rfl (fun _ _ => rfl) (v := yR k0) rfl rfl ?_
          refine yG.getO A_h92.1 (w_Shorts_part W H_k0) rfl rfl (fun r94 H_r94 O_r94 q_r94 => ?_)
          refine yG.load xik rfl (fun _ _ => rfl) (v := yI (0)) rfl rfl ?_
          refine yG.aaldO (r := 35) A_h92.1 (v_Big3 W H_r94) rfl rfl rfl (by omega) (by omega) (fun r95 H_r95 q_r95 => ?_)
          obtain ⟨n_r95, N_r95⟩ : ∃ n : Int, n = ((zat G r95 : Nat) : Int) := ⟨_, rfl⟩
          have L_r95 := n_Big W H_r95
          refine yG.numl (c := 0) rfl (fun _ _ => rfl) (by decide) ?_
          refine yG.invV (rest := []) A_h92.1 (bOb (d_Big W) H_r95) rfl rfl rfl rfl (c_Big_put W (d + 3) A_h92.1 H_r95 (0) (by omega) (by omega)) (fun rv h96 q9 => ?_)
          obtain ⟨⟨rfl, R_z97⟩, B_h96⟩ := q9
          have A_h96 := A_h92.tr B_h96 (by decide)
          have : ys h96 n0 5 = ys h92 n0 5 := B_h96.ys H_n0 (by decide)
          have : ys h96 k0 8 = ys h92 k0 8 := B_h96.ys H_k0 (by decide)
          have : ys h96 n0 3 = ys h92 n0 3 := B_h96.ys H_n0 (by decide)
          have qq44 : zsl h96 k0 1 = yR n0 := (B_h96.sl H_k0 (by decide)).trans qq43
          have : ys h96 k0 5 = ys h92 k0 5 := B_h96.ys H_k0 (by decide)
          have qq45 : zsl h96 k0 12 = yR r94 := (B_h96.sl H_k0 (by decide)).trans q_r94
          show yG _ _ _ _ _ _ _ _ _ _ [] _
          refine yG.iinc rfl (a := 0) rfl (L' := [(1, yI (0 + 1)), (0, yR k0)]) rfl ?_
          refine yG.goto rfl (t := 41) rfl ?_
          refine yG.load xik rfl (fun _ _ => rfl) (v := yI (0 + 1)) rfl rfl ?_
          refine yG.num (c := 3) rfl (fun _ _ => rfl) (by decide) ?_
          refine yG.icmp rfl (t := 62) rfl ⟨by omega, by omega⟩ ⟨by omega, by omega⟩ (fun c98 => ?_) (fun c98 => ?_)
          · have c98 : (0 + 1 : Int) ≥ 3 := c98
            exfalso; omega
          · have c98 : (0 + 1 : Int) < 3 := c98
            refine yG.load xak rfl (fun _ _ => rfl) (v := yR k0) rfl rfl ?_
            refine yG.getS9 A_h96.1 (w_Shorts_part W H_k0) qq45 rfl rfl ?_
            refine yG.load xik rfl (fun _ _ => rfl) (v := yI (0 + 1)) rfl rfl ?_
            refine yG.aaldO (r := 35) A_h96.1 (v_Big3 W H_r94) rfl rfl rfl (by omega) (by omega) (fun r99 H_r99 q_r99 => ?_)
            obtain ⟨n_r99, N_r99⟩ : ∃ n : Int, n = ((zat G r99 : Nat) : Int) := ⟨_, rfl⟩
            have L_r99 := n_Big W H_r99
            refine yG.numl (c := 0) rfl (fun _ _ => rfl) (by decide) ?_
            refine yG.invV (rest := []) A_h96.1 (bOb (d_Big W) H_r99) rfl rfl rfl rfl (c_Big_put W (d + 3) A_h96.1 H_r99 (0) (by omega) (by omega)) (fun rv h100 q9 => ?_)
            obtain ⟨⟨rfl, R_z101⟩, B_h100⟩ := q9
            have A_h100 := A_h96.tr B_h100 (by decide)
            have : ys h100 n0 5 = ys h96 n0 5 := B_h100.ys H_n0 (by decide)
            have : ys h100 k0 8 = ys h96 k0 8 := B_h100.ys H_k0 (by decide)
            have : ys h100 n0 3 = ys h96 n0 3 := B_h100.ys H_n0 (by decide)
            have qq46 : zsl h100 k0 1 = yR n0 := (B_h100.sl H_k0 (by decide)).trans qq44
            have : ys h100 k0 5 = ys h96 k0 5 := B_h100.ys H_k0 (by decide)
            have qq47 : zsl h100 k0 12 = yR r94 := (B_h100.sl H_k0 (by decide)).trans qq45
            show yG _ _ _ _ _ _ _ _ _ _ [] _
            refine yG.iinc rfl (a := 0 + 1) rfl (L' := [(1, yI ((0 + 1) + 1)), (0, yR k0)]) rfl ?_
            refine yG.goto rfl (t := 41) rfl ?_
            refine yG.load xik rfl (fun _ _ => rfl) (v := yI ((0 + 1) + 1)) rfl rfl ?_
            refine yG.num (c := 3) rfl (fun _ _ => rfl) (by decide) ?_
            refine yG.icmp rfl (t := 62) rfl ⟨by omega, by omega⟩ ⟨by omega, by omega⟩ (fun c102 => ?_) (fun c102 => ?_)
            · have c102 : ((0 + 1) + 1 : Int) ≥ 3 := c102
              exfalso; omega
            · have c102 : ((0 + 1) + 1 : Int) < 3 := c102
              refine yG.load xak rfl (fun _ _ => rfl) (v := yR k0) rfl rfl ?_
              refine yG.getS9 A_h100.1 (w_Shorts_part W H_k0) qq47 rfl rfl ?_
              refine yG.load xik rfl (fun _ _ => rfl) (v := yI ((0 + 1) + 1)) rfl rfl ?_
              refine yG.aaldO (r := 35) A_h100.1 (v_Big3 W H_r94) rfl rfl rfl (by omega) (by omega) (fun r103 H_r103 q_r103 => ?_)
              obtain ⟨n_r103, N_r103⟩ : ∃ n : Int, n = ((zat G r103 : Nat) : Int) := ⟨_, rfl⟩
              have L_r103 := n_Big W H_r103
              refine yG.numl (c := 0) rfl (fun _ _ => rfl) (by decide) ?_
              refine yG.invV (rest := []) A_h100.1 (bOb (d_Big W) H_r103) rfl rfl rfl rfl (c_Big_put W (d + 3) A_h100.1 H_r103 (0) (by omega) (by omega)) (fun rv h104 q9 => ?_)
              obtain ⟨⟨rfl, R_z105⟩, B_h104⟩ := q9
              have A_h104 := A_h100.tr B_h104 (by decide)
              have : ys h104 n0 5 = ys h100 n0 5 := B_h104.ys H_n0 (by decide)
              have : ys h104 k0 8 = ys h100 k0 8 := B_h104.ys H_k0 (by decide)
              have : ys h104 n0 3 = ys h100 n0 3 := B_h104.ys H_n0 (by decide)
              have qq48 : zsl h104 k0 1 = yR n0 := (B_h104.sl H_k0 (by decide)).trans qq46
              have : ys h104 k0 5 = ys h100 k0 5 := B_h104.ys H_k0 (by decide)
              have qq49 : zsl h104 k0 12 = yR r94 := (B_h104.sl H_k0 (by decide)).trans qq47
              show yG _ _ _ _ _ _ _ _ _ _ [] _
              refine yG.iinc rfl (a := (0 + 1) + 1) rfl (L' := [(1, yI (((0 + 1) + 1) + 1)), (0, yR k0)]) rfl ?_
              refine yG.goto rfl (t := 41) rfl ?_
              refine yG.load xik rfl (fun _ _ => rfl) (v := yI (((0 + 1) + 1) + 1)) rfl rfl ?_
              refine yG.num (c := 3) rfl (fun _ _ => rfl) (by decide) ?_
              refine yG.icmp rfl (t := 62) rfl ⟨by omega, by omega⟩ ⟨by omega, by omega⟩ (fun c106 => ?_) (fun c106 => ?_)
              · have c106 : (((0 + 1) + 1) + 1 : Int) ≥ 3 := c106
                refine yG.load xak rfl (fun _ _ => rfl) (v := yR k0) rfl rfl ?_
                refine yG.getO A_h104.1 (w_Shorts_below W H_k0) rfl rfl (fun r107 H_r107 O_r107 q_r107 => ?_)
                obtain ⟨n_r107, N_r107⟩ : ∃ n : Int, n = ((zat G r107 : Nat) : Int) := ⟨_, rfl⟩
                have L_r107 := n_Big W H_r107
                refine yG.numl (c := 1) rfl (fun _ _ => rfl) (by decide) ?_
                refine yG.invV (rest := []) A_h104.1 (bOb (d_Big W) H_r107) rfl rfl rfl rfl (c_Big_put W (d + 3) A_h104.1 H_r107 (1) (by omega) (by omega)) (fun rv h108 q9 => ?_)
                obtain ⟨⟨rfl, R_z109⟩, B_h108⟩ := q9
                have A_h108 := A_h104.tr B_h108 (by decide)
                have : ys h108 n0 5 = ys h104 n0 5 := B_h108.ys H_n0 (by decide)
                have : ys h108 k0 8 = ys h104 k0 8 := B_h108.ys H_k0 (by decide)
                have : ys h108 n0 3 = ys h104 n0 3 := B_h108.ys H_n0 (by decide)
                have qq50 : zsl h108 k0 1 = yR n0 := (B_h108.sl H_k0 (by decide)).trans qq48
                have : ys h108 k0 5 = ys h104 k0 5 := B_h108.ys H_k0 (by decide)
                have qq51 : zsl h108 k0 12 = yR r94 := (B_h108.sl H_k0 (by decide)).trans qq49
                show yG _ _ _ _ _ _ _ _ _ _ [] _
                refine yG.load xak rfl (fun _ _ => rfl) (v := yR k0) rfl rfl ?_
                refine yG.getI A_h108.1 (w_Shorts_active W H_k0) rfl rfl (fun z110 e_z110 i_z110 l_z110 u_z110 => ?_)
                refine yG.ifz rfl (t := 78) rfl ⟨by omega, by omega⟩ (fun c111 => ?_) (fun c111 => ?_)
                · have c111 : (z110 : Int) ≠ 0 := c111
                  exfalso; omega
                · have c111 : (z110 : Int) = 0 := c111
                  refine yG.ret rfl (fun _ _ => rfl) ?_
                  exact (yP.void ⟨⟨rfl, trivial⟩, A_h108⟩)
              · have c106 : (((0 + 1) + 1) + 1 : Int) < 3 := c106
                exfalso; omega
      · have c91 : (z90 : Int) ≠ 0 := c91
        refine yG.load xak rfl (fun _ _ => rfl) (v := yR k0) rfl rfl ?_
        refine yG.invV (rest := [yR k0]) A_h89.1 (bOb (d_Shorts W) H_k0) rfl rfl rfl rfl (c_Shorts_isThere_on W (d + 3) A_h89.1 H_k0 H_n0 qq42 (by omega) (by omega)) (fun rv h112 q9 => ?_)
        obtain ⟨⟨z113, rfl, l_z113, u_z113, R_z113⟩, B_h112⟩ := q9
        have A_h112 := A_h89.tr B_h112 (by decide)
        have : ys h112 n0 5 = ys h89 n0 5 := B_h112.ys H_n0 (by decide)
        have : ys h112 n0 3 = ys h89 n0 3 := B_h112.ys H_n0 (by decide)
        have qq52 : zsl h112 k0 1 = yR n0 := (B_h112.sl H_k0 (by decide)).trans qq42
        show yG _ _ _ _ _ _ _ _ _ _ (yI z113 :: [yR k0]) _
        refine yG.ifz rfl (t := 35) rfl ⟨by omega, by omega⟩ (fun c114 => ?_) (fun c114 => ?_)
        · have c114 : (z113 : Int) = 0 := c114
          refine yG.num (c := 0) rfl (fun _ _ => rfl) (by decide) ?_
          refine yG.putI A_h112.1 (w_Shorts_active W H_k0) (W.2.1 _ _ H_k0 (by decide) (by decide)) rfl rfl (.inr ⟨rfl, rfl, rfl⟩) ⟨by omega, by omega⟩ (by omega) (by omega) (fun h115 T_h115 b_h115 f_h115 y_h115 => ?_)
          have A_h115 := A_h112.put T_h115 b_h115 f_h115 H_k0 (by decide)
          have : ys h115 n0 5 = ys h112 n0 5 := (y_h115 n0 5).trans (if_neg (fun e => (bRo.ne H_n0 H_k0 (by decide)) e.1))
          have : ys h115 n0 3 = ys h112 n0 3 := (y_h115 n0 3).trans (if_neg (fun e => (bRo.ne H_n0 H_k0 (by decide)) e.1))
          have qq53 : zsl h115 k0 1 = yR n0 := ((f_h115 k0 1).trans (if_neg (fun e => absurd e.2 (by decide)))).trans qq52
          have : ys h115 k0 5 = 0 := (y_h115 k0 5).trans (if_pos ⟨rfl, rfl⟩)
          refine yG.num (c := 0) rfl (fun _ _ => rfl) (by decide) ?_
          refine yG.store1 xik (L' := [(1, yI (0)), (0, yR k0)]) rfl (fun _ _ => rfl) rfl rfl ?_
          refine yG.load xik rfl (fun _ _ => rfl) (v := yI (0)) rfl rfl ?_
          refine yG.num (c := 3) rfl (fun _ _ => rfl) (by decide) ?_
          refine yG.icmp rfl (t := 62) rfl ⟨by omega, by omega⟩ ⟨by omega, by omega⟩ (fun c116 => ?_) (fun c116 => ?_)
          · have c116 : (0 : Int) ≥ 3 := c116
            exfalso; omega
          · have c116 : (0 : Int) < 3 := c116
            refine yG.load xak rfl (fun _ _ => rfl) (v := yR k0) rfl rfl ?_
            refine yG.getO A_h115.1 (w_Shorts_part W H_k0) rfl rfl (fun r117 H_r117 O_r117 q_r117 => ?_)
            refine yG.load xik rfl (fun _ _ => rfl) (v := yI (0)) rfl rfl ?_
            refine yG.aaldO (r := 35) A_h115.1 (v_Big3 W H_r117) rfl rfl rfl (by omega) (by omega) (fun r118 H_r118 q_r118 => ?_)
            obtain ⟨n_r118, N_r118⟩ : ∃ n : Int, n = ((zat G r118 : Nat) : Int) := ⟨_, rfl⟩
            have L_r118 := n_Big W H_r118
            refine yG.numl (c := 0) rfl (fun _ _ => rfl) (by decide) ?_
            refine yG.invV (rest := []) A_h115.1 (bOb (d_Big W) H_r118) rfl rfl rfl rfl (c_Big_put W (d + 3) A_h115.1 H_r118 (0) (by omega) (by omega)) (fun rv h119 q9 => ?_)
            obtain ⟨⟨rfl, R_z120⟩, B_h119⟩ := q9
            have A_h119 := A_h115.tr B_h119 (by decide)
            have : ys h119 n0 5 = ys h115 n0 5 := B_h119.ys H_n0 (by decide)
            have : ys h119 n0 3 = ys h115 n0 3 := B_h119.ys H_n0 (by decide)
            have qq54 : zsl h119 k0 1 = yR n0 := (B_h119.sl H_k0 (by decide)).trans qq53
            have : ys h119 k0 5 = ys h115 k0 5 := B_h119.ys H_k0 (by decide)
            have qq55 : zsl h119 k0 12 = yR r117 := (B_h119.sl H_k0 (by decide)).trans q_r117
            show yG _ _ _ _ _ _ _ _ _ _ [] _
            refine yG.iinc rfl (a := 0) rfl (L' := [(1, yI (0 + 1)), (0, yR k0)]) rfl ?_
            refine yG.goto rfl (t := 41) rfl ?_
            refine yG.load xik rfl (fun _ _ => rfl) (v := yI (0 + 1)) rfl rfl ?_
            refine yG.num (c := 3) rfl (fun _ _ => rfl) (by decide) ?_
            refine yG.icmp rfl (t := 62) rfl ⟨by omega, by omega⟩ ⟨by omega, by omega⟩ (fun c121 => ?_) (fun c121 => ?_)
            · have c121 : (0 + 1 : Int) ≥ 3 := c121
              exfalso; omega
            · have c121 : (0 + 1 : Int) < 3 := c121
              refine yG.load xak rfl (fun _ _ => rfl) (v := yR k0) rfl rfl ?_
              refine yG.getS9 A_h119.1 (w_Shorts_part W H_k0) qq55 rfl rfl ?_
              refine yG.load xik rfl (fun _ _ => rfl) (v := yI (0 + 1)) rfl rfl ?_
              refine yG.aaldO (r := 35) A_h119.1 (v_Big3 W H_r117) rfl rfl rfl (by omega) (by omega) (fun r122 H_r122 q_r122 => ?_)
              obtain ⟨n_r122, N_r122⟩ : ∃ n : Int, n = ((zat G r122 : Nat) : Int) := ⟨_, rfl⟩
              have L_r122 := n_Big W H_r122
              refine yG.numl (c := 0) rfl (fun _ _ => rfl) (by decide) ?_
              refine yG.invV (rest := []) A_h119.1 (bOb (d_Big W) H_r122) rfl rfl rfl rfl (c_Big_put W (d + 3) A_h119.1 H_r122 (0) (by omega) (by omega)) (fun rv h123 q9 => ?_)
              obtain ⟨⟨rfl, R_z124⟩, B_h123⟩ := q9
              have A_h123 := A_h119.tr B_h123 (by decide)
              have : ys h123 n0 5 = ys h119 n0 5 := B_h123.ys H_n0 (by decide)
              have : ys h123 n0 3 = ys h119 n0 3 := B_h123.ys H_n0 (by decide)
              have qq56 : zsl h123 k0 1 = yR n0 := (B_h123.sl H_k0 (by decide)).trans qq54
              have : ys h123 k0 5 = ys h119 k0 5 := B_h123.ys H_k0 (by decide)
              have qq57 : zsl h123 k0 12 = yR r117 := (B_h123.sl H_k0 (by decide)).trans qq55
              show yG _ _ _ _ _ _ _ _ _ _ [] _
              refine yG.iinc rfl (a := 0 + 1) rfl (L' := [(1, yI ((0 + 1) + 1)), (0, yR k0)]) rfl ?_
              refine yG.goto rfl (t := 41) rfl ?_
              refine yG.load xik rfl (fun _ _ => rfl) (v := yI ((0 + 1) + 1)) rfl rfl ?_
              refine yG.num (c := 3) rfl (fun _ _ => rfl) (by decide) ?_
              refine yG.icmp rfl (t := 62) rfl ⟨by omega, by omega⟩ ⟨by omega, by omega⟩ (fun c125 => ?_) (fun c125 => ?_)
              · have c125 : ((0 + 1) + 1 : Int) ≥ 3 := c125
                exfalso; omega
              · have c125 : ((0 + 1) + 1 : Int) < 3 := c125
                refine yG.load xak rfl (fun _ _ => rfl) (v := yR k0) rfl rfl ?_
                refine yG.getS9 A_h123.1 (w_Shorts_part W H_k0) qq57 rfl rfl ?_
                refine yG.load xik rfl (fun _ _ => rfl) (v := yI ((0 + 1) + 1)) rfl rfl ?_
                refine yG.aaldO (r := 35) A_h123.1 (v_Big3 W H_r117) rfl rfl rfl (by omega) (by omega) (fun r126 H_r126 q_r126 => ?_)
                obtain ⟨n_r126, N_r126⟩ : ∃ n : Int, n = ((zat G r126 : Nat) : Int) := ⟨_, rfl⟩
                have L_r126 := n_Big W H_r126
                refine yG.numl (c := 0) rfl (fun _ _ => rfl) (by decide) ?_
                refine yG.invV (rest := []) A_h123.1 (bOb (d_Big W) H_r126) rfl rfl rfl rfl (c_Big_put W (d + 3) A_h123.1 H_r126 (0) (by omega) (by omega)) (fun rv h127 q9 => ?_)
                obtain ⟨⟨rfl, R_z128⟩, B_h127⟩ := q9
                have A_h127 := A_h123.tr B_h127 (by decide)
                have : ys h127 n0 5 = ys h123 n0 5 := B_h127.ys H_n0 (by decide)
                have : ys h127 n0 3 = ys h123 n0 3 := B_h127.ys H_n0 (by decide)
                have qq58 : zsl h127 k0 1 = yR n0 := (B_h127.sl H_k0 (by decide)).trans qq56
                have : ys h127 k0 5 = ys h123 k0 5 := B_h127.ys H_k0 (by decide)
                have qq59 : zsl h127 k0 12 = yR r117 := (B_h127.sl H_k0 (by decide)).trans qq57
                show yG _ _ _ _ _ _ _ _ _ _ [] _
                refine yG.iinc rfl (a := (0 + 1) + 1) rfl (L' := [(1, yI (((0 + 1) + 1) + 1)), (0, yR k0)]) rfl ?_
                refine yG.goto rfl (t := 41) rfl ?_
                refine yG.load xik rfl (fun _ _ => rfl) (v := yI (((0 + 1) + 1) + 1)) rfl rfl ?_
                refine yG.num (c := 3) rfl (fun _ _ => rfl) (by decide) ?_
                refine yG.icmp rfl (t := 62) rfl ⟨by omega, by omega⟩ ⟨by omega, by omega⟩ (fun c129 => ?_) (fun c129 => ?_)
                · have c129 : (((0 + 1) + 1) + 1 : Int) ≥ 3 := c129
                  refine yG.load xak rfl (fun _ _ => rfl) (v := yR k0) rfl rfl ?_
                  refine yG.getO A_h127.1 (w_Shorts_below W H_k0) rfl rfl (fun r130 H_r130 O_r130 q_r130 => ?_)
                  obtain ⟨n_r130, N_r130⟩ : ∃ n : Int, n = ((zat G r130 : Nat) : Int) := ⟨_, rfl⟩
                  have L_r130 := n_Big W H_r130
                  refine yG.numl (c := 1) rfl (fun _ _ => rfl) (by decide) ?_
                  refine yG.invV (rest := []) A_h127.1 (bOb (d_Big W) H_r130) rfl rfl rfl rfl (c_Big_put W (d + 3) A_h127.1 H_r130 (1) (by omega) (by omega)) (fun rv h131 q9 => ?_)
                  obtain ⟨⟨rfl, R_z132⟩, B_h131⟩ := q9
                  have A_h131 := A_h127.tr B_h131 (by decide)
                  have : ys h131 n0 5 = ys h127 n0 5 := B_h131.ys H_n0 (by decide)
                  have : ys h131 n0 3 = ys h127 n0 3 := B_h131.ys H_n0 (by decide)
                  have qq60 : zsl h131 k0 1 = yR n0 := (B_h131.sl H_k0 (by decide)).trans qq58
                  have : ys h131 k0 5 = ys h127 k0 5 := B_h131.ys H_k0 (by decide)
                  have qq61 : zsl h131 k0 12 = yR r117 := (B_h131.sl H_k0 (by decide)).trans qq59
                  show yG _ _ _ _ _ _ _ _ _ _ [] _
                  refine yG.load xak rfl (fun _ _ => rfl) (v := yR k0) rfl rfl ?_
                  refine yG.getI A_h131.1 (w_Shorts_active W H_k0) rfl rfl (fun z133 e_z133 i_z133 l_z133 u_z133 => ?_)
                  refine yG.ifz rfl (t := 78) rfl ⟨by omega, by omega⟩ (fun c134 => ?_) (fun c134 => ?_)
                  · have c134 : (z133 : Int) ≠ 0 := c134
                    exfalso; omega
                  · have c134 : (z133 : Int) = 0 := c134
                    refine yG.ret rfl (fun _ _ => rfl) ?_
                    exact (yP.void ⟨⟨rfl, trivial⟩, A_h131⟩)
                · have c129 : (((0 + 1) + 1) + 1 : Int) < 3 := c129
                  exfalso; omega
        · have c114 : (z113 : Int) ≠ 0 := c114
          refine yG.num (c := 1) rfl (fun _ _ => rfl) (by decide) ?_
          refine yG.goto rfl (t := 36) rfl ?_
          refine yG.putI A_h112.1 (w_Shorts_active W H_k0) (W.2.1 _ _ H_k0 (by decide) (by decide)) rfl rfl (.inr ⟨rfl, rfl, rfl⟩) ⟨by omega, by omega⟩ (by omega) (by omega) (fun h135 T_h135 b_h135 f_h135 y_h135 => ?_)
          have A_h135 := A_h112.put T_h135 b_h135 f_h135 H_k0 (by decide)
          have : ys h135 n0 5 = ys h112 n0 5 := (y_h135 n0 5).trans (if_neg (fun e => (bRo.ne H_n0 H_k0 (by decide)) e.1))
          have : ys h135 n0 3 = ys h112 n0 3 := (y_h135 n0 3).trans (if_neg (fun e => (bRo.ne H_n0 H_k0 (by decide)) e.1))
          have qq62 : zsl h135 k0 1 = yR n0 := ((f_h135 k0 1).trans (if_neg (fun e => absurd e.2 (by decide)))).trans qq52
          have : ys h135 k0 5 = 1 := (y_h135 k0 5).trans (if_pos ⟨rfl, rfl⟩)
          refine yG.num (c := 0) rfl (fun _ _ => rfl) (by decide) ?_
          refine yG.store1 xik (L' := [(1, yI (0)), (0, yR k0)]) rfl (fun _ _ => rfl) rfl rfl ?_
          refine yG.load xik rfl (fun _ _ => rfl) (v := yI (0)) rfl rfl ?_
          refine yG.num (c := 3) rfl (fun _ _ => rfl) (by decide) ?_
          refine yG.icmp rfl (t := 62) rfl ⟨by omega, by omega⟩ ⟨by omega, by omega⟩ (fun c136 => ?_) (fun c136 => ?_)
          · have c136 : (0 : Int) ≥ 3 := c136
            exfalso; omega
          · have c136 : (0 : Int) < 3 := c136
            refine yG.load xak rfl (fun _ _ => rfl) (v := yR k0) rfl rfl ?_
            refine yG.getO A_h135.1 (w_Shorts_part W H_k0) rfl rfl (fun r137 H_r137 O_r137 q_r137 => ?_)
            refine yG.load xik rfl (fun _ _ => rfl) (v := yI (0)) rfl rfl ?_
            refine yG.aaldO (r := 35) A_h135.1 (v_Big3 W H_r137) rfl rfl rfl (by omega) (by omega) (fun r138 H_r138 q_r138 => ?_)
            obtain ⟨n_r138, N_r138⟩ : ∃ n : Int, n = ((zat G r138 : Nat) : Int) := ⟨_, rfl⟩
            have L_r138 := n_Big W H_r138
            refine yG.numl (c := 0) rfl (fun _ _ => rfl) (by decide) ?_
            refine yG.invV (rest := []) A_h135.1 (bOb (d_Big W) H_r138) rfl rfl rfl rfl (c_Big_put W (d + 3) A_h135.1 H_r138 (0) (by omega) (by omega)) (fun rv h139 q9 => ?_)
            obtain ⟨⟨rfl, R_z140⟩, B_h139⟩ := q9
            have A_h139 := A_h135.tr B_h139 (by decide)
            have : ys h139 n0 5 = ys h135 n0 5 := B_h139.ys H_n0 (by decide)
            have : ys h139 n0 3 = ys h135 n0 3 := B_h139.ys H_n0 (by decide)
            have qq63 : zsl h139 k0 1 = yR n0 := (B_h139.sl H_k0 (by decide)).trans qq62
            have : ys h139 k0 5 = ys h135 k0 5 := B_h139.ys H_k0 (by decide)
            have qq64 : zsl h139 k0 12 = yR r137 := (B_h139.sl H_k0 (by decide)).trans q_r137
            show yG _ _ _ _ _ _ _ _ _ _ [] _
            refine yG.iinc rfl (a := 0) rfl (L' := [(1, yI (0 + 1)), (0, yR k0)]) rfl ?_
            refine yG.goto rfl (t := 41) rfl ?_
            refine yG.load xik rfl (fun _ _ => rfl) (v := yI (0 + 1)) rfl rfl ?_
            refine yG.num (c := 3) rfl (fun _ _ => rfl) (by decide) ?_
            refine yG.icmp rfl (t := 62) rfl ⟨by omega, by omega⟩ ⟨by omega, by omega⟩ (fun c141 => ?_) (fun c141 => ?_)
            · have c141 : (0 + 1 : Int) ≥ 3 := c141
              exfalso; omega
            · have c141 : (0 + 1 : Int) < 3 := c141
              refine yG.load xak rfl (fun _ _ => rfl) (v := yR k0) rfl rfl ?_
              refine yG.getS9 A_h139.1 (w_Shorts_part W H_k0) qq64 rfl rfl ?_
              refine yG.load xik rfl (fun _ _ => rfl) (v := yI (0 + 1)) rfl rfl ?_
              refine yG.aaldO (r := 35) A_h139.1 (v_Big3 W H_r137) rfl rfl rfl (by omega) (by omega) (fun r142 H_r142 q_r142 => ?_)
              obtain ⟨n_r142, N_r142⟩ : ∃ n : Int, n = ((zat G r142 : Nat) : Int) := ⟨_, rfl⟩
              have L_r142 := n_Big W H_r142
              refine yG.numl (c := 0) rfl (fun _ _ => rfl) (by decide) ?_
              refine yG.invV (rest := []) A_h139.1 (bOb (d_Big W) H_r142) rfl rfl rfl rfl (c_Big_put W (d + 3) A_h139.1 H_r142 (0) (by omega) (by omega)) (fun rv h143 q9 => ?_)
              obtain ⟨⟨rfl, R_z144⟩, B_h143⟩ := q9
              have A_h143 := A_h139.tr B_h143 (by decide)
              have : ys h143 n0 5 = ys h139 n0 5 := B_h143.ys H_n0 (by decide)
              have : ys h143 n0 3 = ys h139 n0 3 := B_h143.ys H_n0 (by decide)
              have qq65 : zsl h143 k0 1 = yR n0 := (B_h143.sl H_k0 (by decide)).trans qq63
              have : ys h143 k0 5 = ys h139 k0 5 := B_h143.ys H_k0 (by decide)
              have qq66 : zsl h143 k0 12 = yR r137 := (B_h143.sl H_k0 (by decide)).trans qq64
              show yG _ _ _ _ _ _ _ _ _ _ [] _
              refine yG.iinc rfl (a := 0 + 1) rfl (L' := [(1, yI ((0 + 1) + 1)), (0, yR k0)]) rfl ?_
              refine yG.goto rfl (t := 41) rfl ?_
              refine yG.load xik rfl (fun _ _ => rfl) (v := yI ((0 + 1) + 1)) rfl rfl ?_
              refine yG.num (c := 3) rfl (fun _ _ => rfl) (by decide) ?_
              refine yG.icmp rfl (t := 62) rfl ⟨by omega, by omega⟩ ⟨by omega, by omega⟩ (fun c145 => ?_) (fun c145 => ?_)
              · have c145 : ((0 + 1) + 1 : Int) ≥ 3 := c145
                exfalso; omega
              · have c145 : ((0 + 1) + 1 : Int) < 3 := c145
                refine yG.load xak rfl (fun _ _ => rfl) (v := yR k0) rfl rfl ?_
                refine yG.getS9 A_h143.1 (w_Shorts_part W H_k0) qq66 rfl rfl ?_
                refine yG.load xik rfl (fun _ _ => rfl) (v := yI ((0 + 1) + 1)) rfl rfl ?_
                refine yG.aaldO (r := 35) A_h143.1 (v_Big3 W H_r137) rfl rfl rfl (by omega) (by omega) (fun r146 H_r146 q_r146 => ?_)
                obtain ⟨n_r146, N_r146⟩ : ∃ n : Int, n = ((zat G r146 : Nat) : Int) := ⟨_, rfl⟩
                have L_r146 := n_Big W H_r146
                refine yG.numl (c := 0) rfl (fun _ _ => rfl) (by decide) ?_
                refine yG.invV (rest := []) A_h143.1 (bOb (d_Big W) H_r146) rfl rfl rfl rfl (c_Big_put W (d + 3) A_h143.1 H_r146 (0) (by omega) (by omega)) (fun rv h147 q9 => ?_)
                obtain ⟨⟨rfl, R_z148⟩, B_h147⟩ := q9
                have A_h147 := A_h143.tr B_h147 (by decide)
                have : ys h147 n0 5 = ys h143 n0 5 := B_h147.ys H_n0 (by decide)
                have : ys h147 n0 3 = ys h143 n0 3 := B_h147.ys H_n0 (by decide)
                have qq67 : zsl h147 k0 1 = yR n0 := (B_h147.sl H_k0 (by decide)).trans qq65
                have : ys h147 k0 5 = ys h143 k0 5 := B_h147.ys H_k0 (by decide)
                have qq68 : zsl h147 k0 12 = yR r137 := (B_h147.sl H_k0 (by decide)).trans qq66
                show yG _ _ _ _ _ _ _ _ _ _ [] _
                refine yG.iinc rfl (a := (0 + 1) + 1) rfl (L' := [(1, yI (((0 + 1) + 1) + 1)), (0, yR k0)]) rfl ?_
                refine yG.goto rfl (t := 41) rfl ?_
                refine yG.load xik rfl (fun _ _ => rfl) (v := yI (((0 + 1) + 1) + 1)) rfl rfl ?_
                refine yG.num (c := 3) rfl (fun _ _ => rfl) (by decide) ?_
                refine yG.icmp rfl (t := 62) rfl ⟨by omega, by omega⟩ ⟨by omega, by omega⟩ (fun c149 => ?_) (fun c149 => ?_)
                · have c149 : (((0 + 1) + 1) + 1 : Int) ≥ 3 := c149
                  refine yG.load xak rfl (fun _ _ => rfl) (v := yR k0) rfl rfl ?_
                  refine yG.getO A_h147.1 (w_Shorts_below W H_k0) rfl rfl (fun r150 H_r150 O_r150 q_r150 => ?_)
                  obtain ⟨n_r150, N_r150⟩ : ∃ n : Int, n = ((zat G r150 : Nat) : Int) := ⟨_, rfl⟩
                  have L_r150 := n_Big W H_r150
                  refine yG.numl (c := 1) rfl (fun _ _ => rfl) (by decide) ?_
                  refine yG.invV (rest := []) A_h147.1 (bOb (d_Big W) H_r150) rfl rfl rfl rfl (c_Big_put W (d + 3) A_h147.1 H_r150 (1) (by omega) (by omega)) (fun rv h151 q9 => ?_)
                  obtain ⟨⟨rfl, R_z152⟩, B_h151⟩ := q9
                  have A_h151 := A_h147.tr B_h151 (by decide)
                  have : ys h151 n0 5 = ys h147 n0 5 := B_h151.ys H_n0 (by decide)
                  have : ys h151 n0 3 = ys h147 n0 3 := B_h151.ys H_n0 (by decide)
                  have qq69 : zsl h151 k0 1 = yR n0 := (B_h151.sl H_k0 (by decide)).trans qq67
                  have : ys h151 k0 5 = ys h147 k0 5 := B_h151.ys H_k0 (by decide)
                  have qq70 : zsl h151 k0 12 = yR r137 := (B_h151.sl H_k0 (by decide)).trans qq68
                  show yG _ _ _ _ _ _ _ _ _ _ [] _
                  refine yG.load xak rfl (fun _ _ => rfl) (v := yR k0) rfl rfl ?_
                  refine yG.getI A_h151.1 (w_Shorts_active W H_k0) rfl rfl (fun z153 e_z153 i_z153 l_z153 u_z153 => ?_)
                  refine yG.ifz rfl (t := 78) rfl ⟨by omega, by omega⟩ (fun c154 => ?_) (fun c154 => ?_)
                  · have c154 : (z153 : Int) ≠ 0 := c154
                    refine yG.load xak rfl (fun _ _ => rfl) (v := yR k0) rfl rfl ?_
                    refine yG.num (c := 0) rfl (fun _ _ => rfl) (by decide) ?_
                    refine yG.invV (rest := []) A_h151.1 (bOb (d_Shorts W) H_k0) rfl rfl rfl rfl (c_Shorts_sequence_on W d A_h151.1 H_k0 H_n0 qq69 (0) (by omega) (by omega) (by omega) (by omega)) (fun rv h155 q9 => ?_)
                    obtain ⟨⟨rfl, R_z156⟩, B_h155⟩ := q9
                    have A_h155 := A_h151.tr B_h155 (by decide)
                    have : ys h155 n0 5 = ys h151 n0 5 := B_h155.ys H_n0 (by decide)
                    have : ys h155 n0 3 = ys h151 n0 3 := B_h155.ys H_n0 (by decide)
                    have qq71 : zsl h155 k0 1 = yR n0 := (B_h155.sl H_k0 (by decide)).trans qq69
                    have : ys h155 k0 5 = ys h151 k0 5 := B_h155.ys H_k0 (by decide)
                    have qq72 : zsl h155 k0 12 = yR r137 := (B_h155.sl H_k0 (by decide)).trans qq70
                    show yG _ _ _ _ _ _ _ _ _ _ [] _
                    refine yG.load xak rfl (fun _ _ => rfl) (v := yR k0) rfl rfl ?_
                    refine yG.load xak rfl (fun _ _ => rfl) (v := yR k0) rfl rfl ?_
                    refine yG.invV (rest := [yR k0]) A_h155.1 (bOb (d_Shorts W) H_k0) rfl rfl rfl rfl (c_Shorts_isGrounded W (d + 3) A_h155.1 H_k0) (fun rv hp9 q9 => ?_)
                    obtain ⟨⟨z157, rfl, l_z157, u_z157, R_z157⟩, e9⟩ := q9
                    rw [e9]
                    show yG _ _ _ _ _ _ _ _ _ _ (yI z157 :: [yR k0]) _
                    refine yG.putI A_h155.1 (w_Shorts_grounded W H_k0) (W.2.1 _ _ H_k0 (by decide) (by decide)) rfl rfl (.inr ⟨rfl, rfl, rfl⟩) ⟨by omega, by omega⟩ (by omega) (by omega) (fun h158 T_h158 b_h158 f_h158 y_h158 => ?_)
                    have A_h158 := A_h155.put T_h158 b_h158 f_h158 H_k0 (by decide)
                    have : ys h158 n0 5 = ys h155 n0 5 := (y_h158 n0 5).trans (if_neg (fun e => (bRo.ne H_n0 H_k0 (by decide)) e.1))
                    have : ys h158 n0 3 = ys h155 n0 3 := (y_h158 n0 3).trans (if_neg (fun e => (bRo.ne H_n0 H_k0 (by decide)) e.1))
                    have qq73 : zsl h158 k0 1 = yR n0 := ((f_h158 k0 1).trans (if_neg (fun e => absurd e.2 (by decide)))).trans qq71
                    have : ys h158 k0 5 = ys h155 k0 5 := (y_h158 k0 5).trans (if_neg (fun e => absurd e.2 (by decide)))
                    have qq74 : zsl h158 k0 12 = yR r137 := ((f_h158 k0 12).trans (if_neg (fun e => absurd e.2 (by decide)))).trans qq72
                    have : ys h158 k0 6 = z157 := (y_h158 k0 6).trans (if_pos ⟨rfl, rfl⟩)
                    refine yG.load xak rfl (fun _ _ => rfl) (v := yR k0) rfl rfl ?_
                    refine yG.getI A_h158.1 (w_Shorts_grounded W H_k0) rfl rfl (fun z159 e_z159 i_z159 l_z159 u_z159 => ?_)
                    refine yG.ifz rfl (t := 110) rfl ⟨by omega, by omega⟩ (fun c160 => ?_) (fun c160 => ?_)
                    · have c160 : (z159 : Int) = 0 := c160
                      refine yG.load xak rfl (fun _ _ => rfl) (v := yR k0) rfl rfl ?_
                      refine yG.invV (rest := []) A_h158.1 (bOb (d_Shorts W) H_k0) rfl rfl rfl rfl (c_Shorts_weigh W d A_h158.1 H_k0) (fun rv h161 q9 => ?_)
                      obtain ⟨⟨rfl, R_z162⟩, B_h161⟩ := q9
                      have A_h161 := A_h158.tr B_h161 (by decide)
                      have : ys h161 n0 5 = ys h158 n0 5 := B_h161.ys H_n0 (by decide)
                      have : ys h161 n0 3 = ys h158 n0 3 := B_h161.ys H_n0 (by decide)
                      have qq75 : zsl h161 k0 1 = yR n0 := (B_h161.sl H_k0 (by decide)).trans qq73
                      have : ys h161 k0 5 = ys h158 k0 5 := B_h161.ys H_k0 (by decide)
                      have qq76 : zsl h161 k0 12 = yR r137 := (B_h161.sl H_k0 (by decide)).trans qq74
                      have : ys h161 k0 6 = ys h158 k0 6 := B_h161.ys H_k0 (by decide)
                      show yG _ _ _ _ _ _ _ _ _ _ [] _
                      refine yG.ret rfl (fun _ _ => rfl) ?_
                      exact (yP.void ⟨⟨rfl, trivial⟩, A_h161⟩)
                    · have c160 : (z159 : Int) ≠ 0 := c160
                      refine yG.load xak rfl (fun _ _ => rfl) (v := yR k0) rfl rfl ?_
                      refine yG.invV (rest := []) A_h158.1 (bOb (d_Shorts W) H_k0) rfl rfl rfl rfl (c_Shorts_isOdd W (d + 4) A_h158.1 H_k0) (fun rv hp9 q9 => ?_)
                      obtain ⟨⟨z163, rfl, l_z163, u_z163, R_z163⟩, e9⟩ := q9
                      rw [e9]
                      show yG _ _ _ _ _ _ _ _ _ _ (yI z163 :: []) _
                      refine yG.ifz rfl (t := 110) rfl ⟨by omega, by omega⟩ (fun c164 => ?_) (fun c164 => ?_)
                      · have c164 : (z163 : Int) = 0 := c164
                        refine yG.load xak rfl (fun _ _ => rfl) (v := yR k0) rfl rfl ?_
                        refine yG.invV (rest := []) A_h158.1 (bOb (d_Shorts W) H_k0) rfl rfl rfl rfl (c_Shorts_weigh W d A_h158.1 H_k0) (fun rv h165 q9 => ?_)
                        obtain ⟨⟨rfl, R_z166⟩, B_h165⟩ := q9
                        have A_h165 := A_h158.tr B_h165 (by decide)
                        have : ys h165 n0 5 = ys h158 n0 5 := B_h165.ys H_n0 (by decide)
                        have : ys h165 n0 3 = ys h158 n0 3 := B_h165.ys H_n0 (by decide)
                        have qq77 : zsl h165 k0 1 = yR n0 := (B_h165.sl H_k0 (by decide)).trans qq73
                        have : ys h165 k0 5 = ys h158 k0 5 := B_h165.ys H_k0 (by decide)
                        have qq78 : zsl h165 k0 12 = yR r137 := (B_h165.sl H_k0 (by decide)).trans qq74
                        have : ys h165 k0 6 = ys h158 k0 6 := B_h165.ys H_k0 (by decide)
                        show yG _ _ _ _ _ _ _ _ _ _ [] _
                        refine yG.ret rfl (fun _ _ => rfl) ?_
                        exact (yP.void ⟨⟨rfl, trivial⟩, A_h165⟩)
                      · have c164 : (z163 : Int) ≠ 0 := c164
                        refine yG.load xak rfl (fun _ _ => rfl) (v := yR k0) rfl rfl ?_
                        refine yG.num (c := 1) rfl (fun _ _ => rfl) (by decide) ?_
                        refine yG.invV (rest := []) A_h158.1 (bOb (d_Shorts W) H_k0) rfl rfl rfl rfl (c_Shorts_sequence_on W d A_h158.1 H_k0 H_n0 qq73 (1) (by omega) (by omega) (by omega) (by omega)) (fun rv h167 q9 => ?_)
                        obtain ⟨⟨rfl, R_z168⟩, B_h167⟩ := q9
                        have A_h167 := A_h158.tr B_h167 (by decide)
                        have : ys h167 n0 5 = ys h158 n0 5 := B_h167.ys H_n0 (by decide)
                        have : ys h167 n0 3 = ys h158 n0 3 := B_h167.ys H_n0 (by decide)
                        have qq79 : zsl h167 k0 1 = yR n0 := (B_h167.sl H_k0 (by decide)).trans qq73
                        have : ys h167 k0 5 = ys h158 k0 5 := B_h167.ys H_k0 (by decide)
                        have qq80 : zsl h167 k0 12 = yR r137 := (B_h167.sl H_k0 (by decide)).trans qq74
                        have : ys h167 k0 6 = ys h158 k0 6 := B_h167.ys H_k0 (by decide)
                        show yG _ _ _ _ _ _ _ _ _ _ [] _
                        refine yG.load xak rfl (fun _ _ => rfl) (v := yR k0) rfl rfl ?_
                        refine yG.invV (rest := []) A_h167.1 (bOb (d_Shorts W) H_k0) rfl rfl rfl rfl (c_Shorts_weigh W d A_h167.1 H_k0) (fun rv h169 q9 => ?_)
                        obtain ⟨⟨rfl, R_z170⟩, B_h169⟩ := q9
                        have A_h169 := A_h167.tr B_h169 (by decide)
                        have : ys h169 n0 5 = ys h167 n0 5 := B_h169.ys H_n0 (by decide)
                        have : ys h169 n0 3 = ys h167 n0 3 := B_h169.ys H_n0 (by decide)
                        have qq81 : zsl h169 k0 1 = yR n0 := (B_h169.sl H_k0 (by decide)).trans qq79
                        have : ys h169 k0 5 = ys h167 k0 5 := B_h169.ys H_k0 (by decide)
                        have qq82 : zsl h169 k0 12 = yR r137 := (B_h169.sl H_k0 (by decide)).trans qq80
                        have : ys h169 k0 6 = ys h167 k0 6 := B_h169.ys H_k0 (by decide)
                        show yG _ _ _ _ _ _ _ _ _ _ [] _
                        refine yG.ret rfl (fun _ _ => rfl) ?_
                        exact (yP.void ⟨⟨rfl, trivial⟩, A_h169⟩)
                  · have c154 : (z153 : Int) = 0 := c154
                    exfalso; omega
                · have c149 : (((0 + 1) + 1) + 1 : Int) < 3 := c149
                  exfalso; omega
    · have c88 : (z87 : Int) ≠ 0 := c88
      refine yG.ret rfl (fun _ _ => rfl) ?_
      exact (yP.void ⟨⟨rfl, trivial⟩, A_hp⟩)
theorem c_Shorts_tellInto {hp : xH} (W : bW G) (d : Nat) (hT : zTy G hp) {k0 : Nat} (H_k0 : bRo G 75 k0) {k2 : Nat} (H_k2 : bRo G 34 k2) (p1 : Int) (h1l : 0 ≤ p1) (h1u : p1 ≤ 2) : yC (xcall 89 xfts xpools xms (d + 3)) 245 [yR k0, yI (p1), yR k2] hp (fun rv hp' => (rv = none ∧ True) ∧ bAx G [(34359738368, 1), (34359738368, 2), (68719476736, 256)] hp hp') := by
  have A_hp : bAx G [(34359738368, 1), (34359738368, 2), (68719476736, 256)] hp hp := bAx.rf hT
  refine yC.of (M := (xt_X9_tellInto, (3, (0, (10, []))))) rfl rfl (N := 78) (yfuel (by decide)) ?_
  show yG 89 xfts (xcall 89 xfts xpools xms (d + 2)) (xpool xp_RX9) [] xt_X9_tellInto (yP 0 (fun rv hp' => (rv = none ∧ True) ∧ bAx G [(34359738368, 1), (34359738368, 2), (68719476736, 256)] hp hp')) 78 0 [(0, yR k0), (1, yI (p1)), (2, yR k2)] [] hp
  refine yG.load xak rfl (fun _ _ => rfl) (v := yR k2) rfl rfl ?_
  refine yG.getO A_hp.1 (w_Hand_above W H_k2) rfl rfl (fun r1 H_r1 O_r1 q_r1 => ?_)
  obtain ⟨n_r1, N_r1⟩ : ∃ n : Int, n = ((zat G r1 : Nat) : Int) := ⟨_, rfl⟩
  have L_r1 := n_Big W H_r1
  refine yG.load xak rfl (fun _ _ => rfl) (v := yR k0) rfl rfl ?_
  refine yG.getO A_hp.1 (w_Shorts_part W H_k0) rfl rfl (fun r2 H_r2 O_r2 q_r2 => ?_)
  refine yG.load xik rfl (fun _ _ => rfl) (v := yI (p1)) rfl rfl ?_
  refine yG.aaldO (r := 35) A_hp.1 (v_Big3 W H_r2) rfl rfl rfl (by omega) (by omega) (fun r3 H_r3 q_r3 => ?_)
  obtain ⟨n_r3, N_r3⟩ : ∃ n : Int, n = ((zat G r3 : Nat) : Int) := ⟨_, rfl⟩
  have L_r3 := n_Big W H_r3
  refine yG.load xak rfl (fun _ _ => rfl) (v := yR k0) rfl rfl ?_
  refine yG.getO A_hp.1 (w_Shorts_whole W H_k0) rfl rfl (fun r4 H_r4 O_r4 q_r4 => ?_)
  refine yG.load xik rfl (fun _ _ => rfl) (v := yI (p1)) rfl rfl ?_
  refine yG.ifz rfl (t := 22) rfl ⟨by omega, by omega⟩ (fun c5 => ?_) (fun c5 => ?_)
  · have c5 : (p1 : Int) ≠ 0 := c5
    refine yG.num (c := 1) rfl (fun _ _ => rfl) (by decide) ?_
    refine yG.aaldO (r := 35) A_hp.1 (v_Big2 W H_r4) rfl rfl rfl (by omega) (by omega) (fun r6 H_r6 q_r6 => ?_)
    obtain ⟨n_r6, N_r6⟩ : ∃ n : Int, n = ((zat G r6 : Nat) : Int) := ⟨_, rfl⟩
    have L_r6 := n_Big W H_r6
    refine yG.invV (rest := []) A_hp.1 (bOb (d_Big W) H_r1) rfl rfl rfl rfl (c_Big_product W d A_hp.1 H_r1 H_r3 H_r6) (fun rv h7 q9 => ?_)
    obtain ⟨⟨rfl, R_z8⟩, B_h7⟩ := q9
    have A_h7 := A_hp.tr B_h7 (by decide)
    have qq1 : zsl h7 k2 0 = yR r1 := (B_h7.sl H_k2 (by decide)).trans q_r1
    show yG _ _ _ _ _ _ _ _ _ _ [] _
    refine yG.load xak rfl (fun _ _ => rfl) (v := yR k2) rfl rfl ?_
    refine yG.getS9 A_h7.1 (w_Hand_above W H_k2) qq1 rfl rfl ?_
    refine yG.numl (c := 1000) rfl (fun _ _ => rfl) (by decide) ?_
    refine yG.invV (rest := []) A_h7.1 (bOb (d_Big W) H_r1) rfl rfl rfl rfl (c_Big_scale W d A_h7.1 H_r1 (1000) (by omega) (by omega)) (fun rv h9 q9 => ?_)
    obtain ⟨⟨rfl, R_z10⟩, B_h9⟩ := q9
    have A_h9 := A_h7.tr B_h9 (by decide)
    have qq2 : zsl h9 k2 0 = yR r1 := (B_h9.sl H_k2 (by decide)).trans qq1
    show yG _ _ _ _ _ _ _ _ _ _ [] _
    refine yG.load xak rfl (fun _ _ => rfl) (v := yR k2) rfl rfl ?_
    refine yG.getO A_h9.1 (w_Hand_below W H_k2) rfl rfl (fun r11 H_r11 O_r11 q_r11 => ?_)
    obtain ⟨n_r11, N_r11⟩ : ∃ n : Int, n = ((zat G r11 : Nat) : Int) := ⟨_, rfl⟩
    have L_r11 := n_Big W H_r11
    refine yG.load xak rfl (fun _ _ => rfl) (v := yR k0) rfl rfl ?_
    refine yG.getO A_h9.1 (w_Shorts_below W H_k0) rfl rfl (fun r12 H_r12 O_r12 q_r12 => ?_)
    obtain ⟨n_r12, N_r12⟩ : ∃ n : Int, n = ((zat G r12 : Nat) : Int) := ⟨_, rfl⟩
    have L_r12 := n_Big W H_r12
    refine yG.invV (rest := []) A_h9.1 (bOb (d_Big W) H_r11) rfl rfl rfl rfl (c_Big_copy W d A_h9.1 H_r11 H_r12) (fun rv h13 q9 => ?_)
    obtain ⟨⟨rfl, R_z14⟩, B_h13⟩ := q9
    have A_h13 := A_h9.tr B_h13 (by decide)
    have qq3 : zsl h13 k2 0 = yR r1 := (B_h13.sl H_k2 (by decide)).trans qq2
    show yG _ _ _ _ _ _ _ _ _ _ [] _
    refine yG.ret rfl (fun _ _ => rfl) ?_
    exact (yP.void ⟨⟨rfl, trivial⟩, A_h13⟩)
  · have c5 : (p1 : Int) = 0 := c5
    refine yG.num (c := 0) rfl (fun _ _ => rfl) (by decide) ?_
    refine yG.goto rfl (t := 23) rfl ?_
    refine yG.aaldO (r := 35) A_hp.1 (v_Big2 W H_r4) rfl rfl rfl (by omega) (by omega) (fun r15 H_r15 q_r15 => ?_)
    obtain ⟨n_r15, N_r15⟩ : ∃ n : Int, n = ((zat G r15 : Nat) : Int) := ⟨_, rfl⟩
    have L_r15 := n_Big W H_r15
    refine yG.invV (rest := []) A_hp.1 (bOb (d_Big W) H_r1) rfl rfl rfl rfl (c_Big_product W d A_hp.1 H_r1 H_r3 H_r15) (fun rv h16 q9 => ?_)
    obtain ⟨⟨rfl, R_z17⟩, B_h16⟩ := q9
    have A_h16 := A_hp.tr B_h16 (by decide)
    have qq4 : zsl h16 k2 0 = yR r1 := (B_h16.sl H_k2 (by decide)).trans q_r1
    show yG _ _ _ _ _ _ _ _ _ _ [] _
    refine yG.load xak rfl (fun _ _ => rfl) (v := yR k2) rfl rfl ?_
    refine yG.getS9 A_h16.1 (w_Hand_above W H_k2) qq4 rfl rfl ?_
    refine yG.numl (c := 1000) rfl (fun _ _ => rfl) (by decide) ?_
    refine yG.invV (rest := []) A_h16.1 (bOb (d_Big W) H_r1) rfl rfl rfl rfl (c_Big_scale W d A_h16.1 H_r1 (1000) (by omega) (by omega)) (fun rv h18 q9 => ?_)
    obtain ⟨⟨rfl, R_z19⟩, B_h18⟩ := q9
    have A_h18 := A_h16.tr B_h18 (by decide)
    have qq5 : zsl h18 k2 0 = yR r1 := (B_h18.sl H_k2 (by decide)).trans qq4
    show yG _ _ _ _ _ _ _ _ _ _ [] _
    refine yG.load xak rfl (fun _ _ => rfl) (v := yR k2) rfl rfl ?_
    refine yG.getO A_h18.1 (w_Hand_below W H_k2) rfl rfl (fun r20 H_r20 O_r20 q_r20 => ?_)
    obtain ⟨n_r20, N_r20⟩ : ∃ n : Int, n = ((zat G r20 : Nat) : Int) := ⟨_, rfl⟩
    have L_r20 := n_Big W H_r20
    refine yG.load xak rfl (fun _ _ => rfl) (v := yR k0) rfl rfl ?_
    refine yG.getO A_h18.1 (w_Shorts_below W H_k0) rfl rfl (fun r21 H_r21 O_r21 q_r21 => ?_)
    obtain ⟨n_r21, N_r21⟩ : ∃ n : Int, n = ((zat G r21 : Nat) : Int) := ⟨_, rfl⟩
    have L_r21 := n_Big W H_r21
    refine yG.invV (rest := []) A_h18.1 (bOb (d_Big W) H_r20) rfl rfl rfl rfl (c_Big_copy W d A_h18.1 H_r20 H_r21) (fun rv h22 q9 => ?_)
    obtain ⟨⟨rfl, R_z23⟩, B_h22⟩ := q9
    have A_h22 := A_h18.tr B_h22 (by decide)
    have qq6 : zsl h22 k2 0 = yR r1 := (B_h22.sl H_k2 (by decide)).trans qq5
    show yG _ _ _ _ _ _ _ _ _ _ [] _
    refine yG.ret rfl (fun _ _ => rfl) ?_
    exact (yP.void ⟨⟨rfl, trivial⟩, A_h22⟩)
theorem c_Shorts_scaleAll {hp : xH} (W : bW G) (d : Nat) (hT : zTy G hp) {k0 : Nat} (H_k0 : bRo G 75 k0) (p1 : Int) (h1l : (-2147483648) ≤ p1) (h1u : p1 ≤ 2147483647) : yC (xcall 89 xfts xpools xms (d + 3)) 239 [yR k0, yI (p1)] hp (fun rv hp' => (rv = none ∧ True) ∧ bAx G [(34359738368, 1), (34359738368, 2), (68719476736, 256)] hp hp') := by
  have A_hp : bAx G [(34359738368, 1), (34359738368, 2), (68719476736, 256)] hp hp := bAx.rf hT
  have H : ∀ m : Nat, (∀ a2 : Int, ∀ hq, bAx G [(34359738368, 1), (34359738368, 2), (68719476736, 256)] hp hq → 0 ≤ a2 → (-3) ≤ 0 - a2 → (-2147483648) ≤ p1 → (-2147483647) ≤ 0 - p1 → 0 - 2 * a2 + 7 < (m : Int) → yG 89 xfts (xcall 89 xfts xpools xms (d + 2)) (xpool xp_RX9) [] xt_X9_scaleAll (yP 0 (fun rv hp' => (rv = none ∧ True) ∧ bAx G [(34359738368, 1), (34359738368, 2), (68719476736, 256)] hp hp')) (14 * m) 2 [(0, yR k0), (1, yI (p1)), (2, yI (a2))] [] hq) := by
    intro m
    induction m with
    | zero =>
      intros; exfalso; omega
    | succ m ih =>
      have i_2 := ih
      clear ih
      intro a2 hq A_hq f0 f1 f2 f3 hm
      refine yG.mono (N := 14 * m + 14) ?_ (by omega)
      refine yG.load xik rfl (fun _ _ => rfl) (v := yI (a2)) rfl rfl ?_
      refine yG.num (c := 3) rfl (fun _ _ => rfl) (by decide) ?_
      refine yG.icmp rfl (t := 24) rfl ⟨by omega, by omega⟩ ⟨by omega, by omega⟩ (fun c1 => ?_) (fun c1 => ?_)
      · have c1 : (a2 : Int) ≥ 3 := c1
        refine yG.ret rfl (fun _ _ => rfl) ?_
        exact (yP.void ⟨⟨rfl, trivial⟩, A_hq⟩)
      · have c1 : (a2 : Int) < 3 := c1
        refine yG.load xak rfl (fun _ _ => rfl) (v := yR k0) rfl rfl ?_
        refine yG.getO A_hq.1 (w_Shorts_asked W H_k0) rfl rfl (fun r2 H_r2 O_r2 q_r2 => ?_)
        refine yG.load xik rfl (fun _ _ => rfl) (v := yI (a2)) rfl rfl ?_
        refine yG.aaldO (r := 35) A_hq.1 (v_Big3 W H_r2) rfl rfl rfl (by omega) (by omega) (fun r3 H_r3 q_r3 => ?_)
        obtain ⟨n_r3, N_r3⟩ : ∃ n : Int, n = ((zat G r3 : Nat) : Int) := ⟨_, rfl⟩
        have L_r3 := n_Big W H_r3
        refine yG.load xik rfl (fun _ _ => rfl) (v := yI (p1)) rfl rfl ?_
        refine yG.i2l rfl ⟨by omega, by omega⟩ ?_
        refine yG.invV (rest := []) A_hq.1 (bOb (d_Big W) H_r3) rfl rfl rfl rfl (c_Big_scale W d A_hq.1 H_r3 (p1) (by omega) (by omega)) (fun rv h4 q9 => ?_)
        obtain ⟨⟨rfl, R_z5⟩, B_h4⟩ := q9
        have A_h4 := A_hq.tr B_h4 (by decide)
        show yG _ _ _ _ _ _ _ _ _ _ [] _
        refine yG.iinc rfl (a := a2) rfl (L' := [(2, yI (a2 + 1)), (0, yR k0), (1, yI (p1))]) rfl ?_
        refine yG.goto rfl (t := 2) rfl ?_
        exact yG.mono (yG.sub (i_2 (a2 + 1)  h4 A_h4   (by omega) (by omega) (by omega) (by omega) (by omega)) (ySub.cons rfl (ySub.cons rfl (ySub.cons rfl (ySub.nil))))) (by omega)
  refine yC.of (M := (xt_X9_scaleAll, (3, (0, (10, []))))) rfl rfl (N := 140) (yfuel (by decide)) ?_
  show yG 89 xfts (xcall 89 xfts xpools xms (d + 2)) (xpool xp_RX9) [] xt_X9_scaleAll (yP 0 (fun rv hp' => (rv = none ∧ True) ∧ bAx G [(34359738368, 1), (34359738368, 2), (68719476736, 256)] hp hp')) 140 0 [(0, yR k0), (1, yI (p1))] [] hp
  have i_2 := H 9
  refine yG.num (c := 0) rfl (fun _ _ => rfl) (by decide) ?_
  refine yG.store1 xik (L' := [(2, yI (0)), (0, yR k0), (1, yI (p1))]) rfl (fun _ _ => rfl) rfl rfl ?_
  exact yG.mono (yG.sub (i_2 (0)  hp A_hp   (by omega) (by omega) (by omega) (by omega) (by omega)) (ySub.cons rfl (ySub.cons rfl (ySub.cons rfl (ySub.nil))))) (by omega)
theorem c_Shorts_volts {hp : xH} (W : bW G) (d : Nat) (hT : zTy G hp) {k0 : Nat} (H_k0 : bRo G 75 k0) (p1 : Int) (h1l : 0 ≤ p1) (h1u : p1 ≤ 15) : yC (xcall 89 xfts xpools xms (d + 4)) 246 [yR k0, yI (p1)] hp (fun rv hp' => (rv = none ∧ True) ∧ bAx G [(34359738368, 1), (34359738368, 2), (1208925819614697894182912, 256)] hp hp') := by
  have A_hp : bAx G [(34359738368, 1), (34359738368, 2), (1208925819614697894182912, 256)] hp hp := bAx.rf hT
  have H : ∀ m : Nat, (∀ a2 : Int, ∀ a3 : Int, ∀ hq, bAx G [(34359738368, 1), (34359738368, 2), (1208925819614697894182912, 256)] hp hq → 0 ≤ a2 → (-1) ≤ 0 - a2 → 0 ≤ a3 → (-3) ≤ 0 - a3 → 0 ≤ p1 → (-15) ≤ 0 - p1 → 0 - 2 * a3 + 7 < (m : Int) → yG 89 xfts (xcall 89 xfts xpools xms (d + 3)) (xpool xp_RX9) [] xt_X9_volts (yP 0 (fun rv hp' => (rv = none ∧ True) ∧ bAx G [(34359738368, 1), (34359738368, 2), (1208925819614697894182912, 256)] hp hp')) (41 * m) 31 [(0, yR k0), (1, yI (p1)), (2, yI (a2)), (3, yI (a3))] [] hq) := by
    intro m
    induction m with
    | zero =>
      intros; exfalso; omega
    | succ m ih =>
      have i_31 := ih
      clear ih
      intro a2 a3 hq A_hq f0 f1 f2 f3 f4 f5 hm
      refine yG.mono (N := 41 * m + 41) ?_ (by omega)
      refine yG.load xik rfl (fun _ _ => rfl) (v := yI (a3)) rfl rfl ?_
      refine yG.num (c := 3) rfl (fun _ _ => rfl) (by decide) ?_
      refine yG.icmp rfl (t := 106) rfl ⟨by omega, by omega⟩ ⟨by omega, by omega⟩ (fun c1 => ?_) (fun c1 => ?_)
      · have c1 : (a3 : Int) ≥ 3 := c1
        refine yG.load xak rfl (fun _ _ => rfl) (v := yR k0) rfl rfl ?_
        refine yG.getO A_hq.1 (w_Shorts_shape W H_k0) rfl rfl (fun r2 H_r2 O_r2 q_r2 => ?_)
        refine yG.getO A_hq.1 (w_Shape_live W H_r2) rfl rfl (fun r3 H_r3 O_r3 q_r3 => ?_)
        refine yG.load xak rfl (fun _ _ => rfl) (v := yR k0) rfl rfl ?_
        refine yG.getS9 A_hq.1 (w_Shorts_shape W H_k0) q_r2 rfl rfl ?_
        refine yG.getO A_hq.1 (w_Shape_island W H_r2) rfl rfl (fun r4 H_r4 O_r4 q_r4 => ?_)
        refine yG.load xik rfl (fun _ _ => rfl) (v := yI (p1)) rfl rfl ?_
        refine yG.ialdF A_hq.1 (v_Shape_island W H_r4) rfl rfl (by omega) (by omega) (fun z5 e_z5 i_z5 l_z5 u_z5 => ?_)
        refine yG.bald A_hq.1 (v_Shape_live W H_r3) rfl (by omega) (by omega) (fun z6 e_z6 i_z6 l_z6 u_z6 => ?_)
        refine yG.ifz rfl (t := 139) rfl ⟨by omega, by omega⟩ (fun c7 => ?_) (fun c7 => ?_)
        · have c7 : (z6 : Int) = 0 := c7
          refine yG.load xak rfl (fun _ _ => rfl) (v := yR k0) rfl rfl ?_
          refine yG.num (c := 1000) rfl (fun _ _ => rfl) (by decide) ?_
          refine yG.invV (rest := []) A_hq.1 (bOb (d_Shorts W) H_k0) rfl rfl rfl rfl (c_Shorts_scaleAll W d A_hq.1 H_k0 (1000) (by omega) (by omega)) (fun rv h8 q9 => ?_)
          obtain ⟨⟨rfl, R_z9⟩, B_h8⟩ := q9
          have A_h8 := A_hq.tr B_h8 (by decide)
          have qq1 : zsl h8 k0 0 = yR r2 := (B_h8.sl H_k0 (by decide)).trans q_r2
          show yG _ _ _ _ _ _ _ _ _ _ [] _
          refine yG.ret rfl (fun _ _ => rfl) ?_
          exact (yP.void ⟨⟨rfl, trivial⟩, A_h8⟩)
        · have c7 : (z6 : Int) ≠ 0 := c7
          refine yG.load xak rfl (fun _ _ => rfl) (v := yR k0) rfl rfl ?_
          refine yG.getO A_hq.1 (w_Shorts_asked W H_k0) rfl rfl (fun r10 H_r10 O_r10 q_r10 => ?_)
          refine yG.num (c := 1) rfl (fun _ _ => rfl) (by decide) ?_
          refine yG.aaldO (r := 35) A_hq.1 (v_Big3 W H_r10) rfl rfl rfl (by omega) (by omega) (fun r11 H_r11 q_r11 => ?_)
          obtain ⟨n_r11, N_r11⟩ : ∃ n : Int, n = ((zat G r11 : Nat) : Int) := ⟨_, rfl⟩
          have L_r11 := n_Big W H_r11
          refine yG.load xak rfl (fun _ _ => rfl) (v := yR k0) rfl rfl ?_
          refine yG.getO A_hq.1 (w_Shorts_below W H_k0) rfl rfl (fun r12 H_r12 O_r12 q_r12 => ?_)
          obtain ⟨n_r12, N_r12⟩ : ∃ n : Int, n = ((zat G r12 : Nat) : Int) := ⟨_, rfl⟩
          have L_r12 := n_Big W H_r12
          refine yG.invV (rest := []) A_hq.1 (bOb (d_Big W) H_r11) rfl rfl rfl rfl (c_Big_more W d A_hq.1 H_r11 H_r12) (fun rv h13 q9 => ?_)
          obtain ⟨⟨rfl, R_z14⟩, B_h13⟩ := q9
          have A_h13 := A_hq.tr B_h13 (by decide)
          have qq2 : zsl h13 k0 0 = yR r2 := (B_h13.sl H_k0 (by decide)).trans q_r2
          have qq3 : zsl h13 k0 14 = yR r10 := (B_h13.sl H_k0 (by decide)).trans q_r10
          show yG _ _ _ _ _ _ _ _ _ _ [] _
          refine yG.load xak rfl (fun _ _ => rfl) (v := yR k0) rfl rfl ?_
          refine yG.num (c := 1000) rfl (fun _ _ => rfl) (by decide) ?_
          refine yG.invV (rest := []) A_h13.1 (bOb (d_Shorts W) H_k0) rfl rfl rfl rfl (c_Shorts_scaleAll W d A_h13.1 H_k0 (1000) (by omega) (by omega)) (fun rv h15 q9 => ?_)
          obtain ⟨⟨rfl, R_z16⟩, B_h15⟩ := q9
          have A_h15 := A_h13.tr B_h15 (by decide)
          have qq4 : zsl h15 k0 0 = yR r2 := (B_h15.sl H_k0 (by decide)).trans qq2
          have qq5 : zsl h15 k0 14 = yR r10 := (B_h15.sl H_k0 (by decide)).trans qq3
          show yG _ _ _ _ _ _ _ _ _ _ [] _
          refine yG.ret rfl (fun _ _ => rfl) ?_
          exact (yP.void ⟨⟨rfl, trivial⟩, A_h15⟩)
      · have c1 : (a3 : Int) < 3 := c1
        refine yG.load xak rfl (fun _ _ => rfl) (v := yR k0) rfl rfl ?_
        refine yG.getO A_hq.1 (w_Shorts_reach W H_k0) rfl rfl (fun r17 H_r17 O_r17 q_r17 => ?_)
        refine yG.load xik rfl (fun _ _ => rfl) (v := yI (a3)) rfl rfl ?_
        refine yG.num (c := 1) rfl (fun _ _ => rfl) (by decide) ?_
        refine yG.iast A_hq.1 (v_Shorts_reach W H_r17) (W.2.1 _ _ H_r17 (by decide) (by decide)) rfl (by omega) (by omega) ⟨by omega, by omega⟩ (by omega) (by omega) (fun h18 T_h18 b_h18 f_h18 y_h18 => ?_)
        have A_h18 := A_hq.put T_h18 b_h18 f_h18 H_r17 (bAll_ok (by decide) _)
        refine yG.load xak rfl (fun _ _ => rfl) (v := yR k0) rfl rfl ?_
        refine yG.getO A_h18.1 (w_Shorts_asked W H_k0) rfl rfl (fun r19 H_r19 O_r19 q_r19 => ?_)
        refine yG.load xik rfl (fun _ _ => rfl) (v := yI (a3)) rfl rfl ?_
        refine yG.aaldO (r := 35) A_h18.1 (v_Big3 W H_r19) rfl rfl rfl (by omega) (by omega) (fun r20 H_r20 q_r20 => ?_)
        obtain ⟨n_r20, N_r20⟩ : ∃ n : Int, n = ((zat G r20 : Nat) : Int) := ⟨_, rfl⟩
        have L_r20 := n_Big W H_r20
        refine yG.numl (c := 0) rfl (fun _ _ => rfl) (by decide) ?_
        refine yG.invV (rest := []) A_h18.1 (bOb (d_Big W) H_r20) rfl rfl rfl rfl (c_Big_put W (d + 1) A_h18.1 H_r20 (0) (by omega) (by omega)) (fun rv h21 q9 => ?_)
        obtain ⟨⟨rfl, R_z22⟩, B_h21⟩ := q9
        have A_h21 := A_h18.tr B_h21 (by decide)
        have qq6 : zsl h21 k0 14 = yR r19 := (B_h21.sl H_k0 (by decide)).trans q_r19
        have qq7 : zsl h21 r19 (a3 : Int).toNat = yR r20 := (B_h21.sl H_r19 (bNo_ok (by decide) _)).trans q_r20
        show yG _ _ _ _ _ _ _ _ _ _ [] _
        refine yG.load xik rfl (fun _ _ => rfl) (v := yI (a2)) rfl rfl ?_
        refine yG.ifz rfl (t := 100) rfl ⟨by omega, by omega⟩ (fun c23 => ?_) (fun c23 => ?_)
        · have c23 : (a2 : Int) = 0 := c23
          refine yG.iinc rfl (a := a3) rfl (L' := [(3, yI (a3 + 1)), (0, yR k0), (1, yI (p1)), (2, yI (a2))]) rfl ?_
          refine yG.goto rfl (t := 31) rfl ?_
          exact yG.mono (yG.sub (i_31 (a2) (a3 + 1)  h21 A_h21   (by omega) (by omega) (by omega) (by omega) (by omega) (by omega) (by omega)) (ySub.cons rfl (ySub.cons rfl (ySub.cons rfl (ySub.cons rfl (ySub.nil)))))) (by omega)
        · have c23 : (a2 : Int) ≠ 0 := c23
          refine yG.load xak rfl (fun _ _ => rfl) (v := yR k0) rfl rfl ?_
          refine yG.getS9 A_h21.1 (w_Shorts_asked W H_k0) qq6 rfl rfl ?_
          refine yG.load xik rfl (fun _ _ => rfl) (v := yI (a3)) rfl rfl ?_
          refine yG.aaldO (r := 35) A_h21.1 (v_Big3 W H_r19) rfl rfl rfl (by omega) (by omega) (fun r24 H_r24 q_r24 => ?_)
          obtain ⟨n_r24, N_r24⟩ : ∃ n : Int, n = ((zat G r24 : Nat) : Int) := ⟨_, rfl⟩
          have L_r24 := n_Big W H_r24
          have s_r24 : r24 = r20 := by have e9 := q_r24.symm.trans qq7; cases e9; rfl
          rw [s_r24]
          refine yG.load xak rfl (fun _ _ => rfl) (v := yR k0) rfl rfl ?_
          refine yG.getO A_h21.1 (w_Shorts_part W H_k0) rfl rfl (fun r25 H_r25 O_r25 q_r25 => ?_)
          refine yG.load xik rfl (fun _ _ => rfl) (v := yI (a3)) rfl rfl ?_
          refine yG.aaldO (r := 35) A_h21.1 (v_Big3 W H_r25) rfl rfl rfl (by omega) (by omega) (fun r26 H_r26 q_r26 => ?_)
          obtain ⟨n_r26, N_r26⟩ : ∃ n : Int, n = ((zat G r26 : Nat) : Int) := ⟨_, rfl⟩
          have L_r26 := n_Big W H_r26
          refine yG.load xik rfl (fun _ _ => rfl) (v := yI (a3)) rfl rfl ?_
          refine yG.ifz rfl (t := 82) rfl ⟨by omega, by omega⟩ (fun c27 => ?_) (fun c27 => ?_)
          · have c27 : (a3 : Int) ≠ 0 := c27
            refine yG.load xak rfl (fun _ _ => rfl) (v := yR k0) rfl rfl ?_
            refine yG.getO A_h21.1 (w_Shorts_top1 W H_k0) rfl rfl (fun r28 H_r28 O_r28 q_r28 => ?_)
            refine yG.load xik rfl (fun _ _ => rfl) (v := yI (p1)) rfl rfl ?_
            refine yG.aaldO (r := 35) A_h21.1 (v_Big17 W H_r28) rfl rfl rfl (by omega) (by omega) (fun r29 H_r29 q_r29 => ?_)
            obtain ⟨n_r29, N_r29⟩ : ∃ n : Int, n = ((zat G r29 : Nat) : Int) := ⟨_, rfl⟩
            have L_r29 := n_Big W H_r29
            refine yG.invV (rest := []) A_h21.1 (bOb (d_Big W) H_r20) rfl rfl rfl rfl (c_Big_product W (d + 1) A_h21.1 H_r20 H_r26 H_r29) (fun rv h30 q9 => ?_)
            obtain ⟨⟨rfl, R_z31⟩, B_h30⟩ := q9
            have A_h30 := A_h21.tr B_h30 (by decide)
            have qq8 : zsl h30 k0 14 = yR r19 := (B_h30.sl H_k0 (by decide)).trans qq6
            have qq9 : zsl h30 r19 (a3 : Int).toNat = yR r20 := (B_h30.sl H_r19 (bNo_ok (by decide) _)).trans qq7
            show yG _ _ _ _ _ _ _ _ _ _ [] _
            refine yG.load xak rfl (fun _ _ => rfl) (v := yR k0) rfl rfl ?_
            refine yG.getS9 A_h30.1 (w_Shorts_asked W H_k0) qq8 rfl rfl ?_
            refine yG.load xik rfl (fun _ _ => rfl) (v := yI (a3)) rfl rfl ?_
            refine yG.aaldO (r := 35) A_h30.1 (v_Big3 W H_r19) rfl rfl rfl (by omega) (by omega) (fun r32 H_r32 q_r32 => ?_)
            obtain ⟨n_r32, N_r32⟩ : ∃ n : Int, n = ((zat G r32 : Nat) : Int) := ⟨_, rfl⟩
            have L_r32 := n_Big W H_r32
            have s_r32 : r32 = r20 := by have e9 := q_r32.symm.trans qq9; cases e9; rfl
            rw [s_r32]
            refine yG.invV (rest := []) A_h30.1 (bOb (d_Big W) H_r20) rfl rfl rfl rfl (c_Big_negate W (d + 2) A_h30.1 H_r20) (fun rv h33 q9 => ?_)
            obtain ⟨⟨rfl, R_z34⟩, B_h33⟩ := q9
            have A_h33 := A_h30.tr B_h33 (by decide)
            have qq10 : zsl h33 k0 14 = yR r19 := (B_h33.sl H_k0 (by decide)).trans qq8
            have qq11 : zsl h33 r19 (a3 : Int).toNat = yR r20 := (B_h33.sl H_r19 (bNo_ok (by decide) _)).trans qq9
            show yG _ _ _ _ _ _ _ _ _ _ [] _
            refine yG.iinc rfl (a := a3) rfl (L' := [(3, yI (a3 + 1)), (0, yR k0), (1, yI (p1)), (2, yI (a2))]) rfl ?_
            refine yG.goto rfl (t := 31) rfl ?_
            exact yG.mono (yG.sub (i_31 (a2) (a3 + 1)  h33 A_h33   (by omega) (by omega) (by omega) (by omega) (by omega) (by omega) (by omega)) (ySub.cons rfl (ySub.cons rfl (ySub.cons rfl (ySub.cons rfl (ySub.nil)))))) (by omega)
          · have c27 : (a3 : Int) = 0 := c27
            refine yG.load xak rfl (fun _ _ => rfl) (v := yR k0) rfl rfl ?_
            refine yG.getO A_h21.1 (w_Shorts_top0 W H_k0) rfl rfl (fun r35 H_r35 O_r35 q_r35 => ?_)
            refine yG.load xik rfl (fun _ _ => rfl) (v := yI (p1)) rfl rfl ?_
            refine yG.aaldO (r := 35) A_h21.1 (v_Big17 W H_r35) rfl rfl rfl (by omega) (by omega) (fun r36 H_r36 q_r36 => ?_)
            obtain ⟨n_r36, N_r36⟩ : ∃ n : Int, n = ((zat G r36 : Nat) : Int) := ⟨_, rfl⟩
            have L_r36 := n_Big W H_r36
            refine yG.goto rfl (t := 88) rfl ?_
            refine yG.invV (rest := []) A_h21.1 (bOb (d_Big W) H_r20) rfl rfl rfl rfl (c_Big_product W (d + 1) A_h21.1 H_r20 H_r26 H_r36) (fun rv h37 q9 => ?_)
            obtain ⟨⟨rfl, R_z38⟩, B_h37⟩ := q9
            have A_h37 := A_h21.tr B_h37 (by decide)
            have qq12 : zsl h37 k0 14 = yR r19 := (B_h37.sl H_k0 (by decide)).trans qq6
            have qq13 : zsl h37 r19 (a3 : Int).toNat = yR r20 := (B_h37.sl H_r19 (bNo_ok (by decide) _)).trans qq7
            show yG _ _ _ _ _ _ _ _ _ _ [] _
            refine yG.load xak rfl (fun _ _ => rfl) (v := yR k0) rfl rfl ?_
            refine yG.getS9 A_h37.1 (w_Shorts_asked W H_k0) qq12 rfl rfl ?_
            refine yG.load xik rfl (fun _ _ => rfl) (v := yI (a3)) rfl rfl ?_
            refine yG.aaldO (r := 35) A_h37.1 (v_Big3 W H_r19) rfl rfl rfl (by omega) (by omega) (fun r39 H_r39 q_r39 => ?_)
            obtain ⟨n_r39, N_r39⟩ : ∃ n : Int, n = ((zat G r39 : Nat) : Int) := ⟨_, rfl⟩
            have L_r39 := n_Big W H_r39
            have s_r39 : r39 = r20 := by have e9 := q_r39.symm.trans qq13; cases e9; rfl
            rw [s_r39]
            refine yG.invV (rest := []) A_h37.1 (bOb (d_Big W) H_r20) rfl rfl rfl rfl (c_Big_negate W (d + 2) A_h37.1 H_r20) (fun rv h40 q9 => ?_)
            obtain ⟨⟨rfl, R_z41⟩, B_h40⟩ := q9
            have A_h40 := A_h37.tr B_h40 (by decide)
            have qq14 : zsl h40 k0 14 = yR r19 := (B_h40.sl H_k0 (by decide)).trans qq12
            have qq15 : zsl h40 r19 (a3 : Int).toNat = yR r20 := (B_h40.sl H_r19 (bNo_ok (by decide) _)).trans qq13
            show yG _ _ _ _ _ _ _ _ _ _ [] _
            refine yG.iinc rfl (a := a3) rfl (L' := [(3, yI (a3 + 1)), (0, yR k0), (1, yI (p1)), (2, yI (a2))]) rfl ?_
            refine yG.goto rfl (t := 31) rfl ?_
            exact yG.mono (yG.sub (i_31 (a2) (a3 + 1)  h40 A_h40   (by omega) (by omega) (by omega) (by omega) (by omega) (by omega) (by omega)) (ySub.cons rfl (ySub.cons rfl (ySub.cons rfl (ySub.cons rfl (ySub.nil)))))) (by omega)
  refine yC.of (M := (xt_X9_volts, (4, (0, (10, []))))) rfl rfl (N := 410) (yfuel (by decide)) ?_
  show yG 89 xfts (xcall 89 xfts xpools xms (d + 3)) (xpool xp_RX9) [] xt_X9_volts (yP 0 (fun rv hp' => (rv = none ∧ True) ∧ bAx G [(34359738368, 1), (34359738368, 2), (1208925819614697894182912, 256)] hp hp')) 410 0 [(0, yR k0), (1, yI (p1))] [] hp
  have i_31 := H 9
  refine yG.load xak rfl (fun _ _ => rfl) (v := yR k0) rfl rfl ?_
  refine yG.getI A_hp.1 (w_Shorts_active W H_k0) rfl rfl (fun z1 e_z1 i_z1 l_z1 u_z1 => ?_)
  refine yG.ifz rfl (t := 27) rfl ⟨by omega, by omega⟩ (fun c2 => ?_) (fun c2 => ?_)
  · have c2 : (z1 : Int) = 0 := c2
    refine yG.num (c := 0) rfl (fun _ _ => rfl) (by decide) ?_
    refine yG.store1 xik (L' := [(2, yI (0)), (0, yR k0), (1, yI (p1))]) rfl (fun _ _ => rfl) rfl rfl ?_
    refine yG.num (c := 0) rfl (fun _ _ => rfl) (by decide) ?_
    refine yG.store1 xik (L' := [(3, yI (0)), (2, yI (0)), (0, yR k0), (1, yI (p1))]) rfl (fun _ _ => rfl) rfl rfl ?_
    exact yG.mono (yG.sub (i_31 (0) (0)  hp A_hp   (by omega) (by omega) (by omega) (by omega) (by omega) (by omega) (by omega)) (ySub.cons rfl (ySub.cons rfl (ySub.cons rfl (ySub.cons rfl (ySub.nil)))))) (by omega)
  · have c2 : (z1 : Int) ≠ 0 := c2
    refine yG.load xak rfl (fun _ _ => rfl) (v := yR k0) rfl rfl ?_
    refine yG.getO A_hp.1 (w_Shorts_shape W H_k0) rfl rfl (fun r3 H_r3 O_r3 q_r3 => ?_)
    refine yG.getO A_hp.1 (w_Shape_island W H_r3) rfl rfl (fun r4 H_r4 O_r4 q_r4 => ?_)
    refine yG.load xik rfl (fun _ _ => rfl) (v := yI (p1)) rfl rfl ?_
    refine yG.ialdF A_hp.1 (v_Shape_island W H_r4) rfl rfl (by omega) (by omega) (fun z5 e_z5 i_z5 l_z5 u_z5 => ?_)
    refine yG.load xak rfl (fun _ _ => rfl) (v := yR k0) rfl rfl ?_
    refine yG.getI A_hp.1 (w_Shorts_island W H_k0) rfl rfl (fun z6 e_z6 i_z6 l_z6 u_z6 => ?_)
    refine yG.icmp rfl (t := 27) rfl ⟨by omega, by omega⟩ ⟨by omega, by omega⟩ (fun c7 => ?_) (fun c7 => ?_)
    · have c7 : (z5 : Int) ≠ z6 := c7
      refine yG.num (c := 0) rfl (fun _ _ => rfl) (by decide) ?_
      refine yG.store1 xik (L' := [(2, yI (0)), (0, yR k0), (1, yI (p1))]) rfl (fun _ _ => rfl) rfl rfl ?_
      refine yG.num (c := 0) rfl (fun _ _ => rfl) (by decide) ?_
      refine yG.store1 xik (L' := [(3, yI (0)), (2, yI (0)), (0, yR k0), (1, yI (p1))]) rfl (fun _ _ => rfl) rfl rfl ?_
      exact yG.mono (yG.sub (i_31 (0) (0)  hp A_hp   (by omega) (by omega) (by omega) (by omega) (by omega) (by omega) (by omega)) (ySub.cons rfl (ySub.cons rfl (ySub.cons rfl (ySub.cons rfl (ySub.nil)))))) (by omega)
    · have c7 : (z5 : Int) = z6 := c7
      refine yG.num (c := 1) rfl (fun _ _ => rfl) (by decide) ?_
      refine yG.goto rfl (t := 28) rfl ?_
      refine yG.store1 xik (L' := [(2, yI (1)), (0, yR k0), (1, yI (p1))]) rfl (fun _ _ => rfl) rfl rfl ?_
      refine yG.num (c := 0) rfl (fun _ _ => rfl) (by decide) ?_
      refine yG.store1 xik (L' := [(3, yI (0)), (2, yI (1)), (0, yR k0), (1, yI (p1))]) rfl (fun _ _ => rfl) rfl rfl ?_
      exact yG.mono (yG.sub (i_31 (1) (0)  hp A_hp   (by omega) (by omega) (by omega) (by omega) (by omega) (by omega) (by omega)) (ySub.cons rfl (ySub.cons rfl (ySub.cons rfl (ySub.cons rfl (ySub.nil)))))) (by omega)
theorem c_Shorts_currents {hp : xH} (W : bW G) (d : Nat) (hT : zTy G hp) {k0 : Nat} (H_k0 : bRo G 75 k0) (p1 p2 : Int) (h1l : 0 ≤ p1) (h1u : p1 ≤ 19) (h2l : 0 ≤ p2) (h2u : p2 ≤ 1) : yC (xcall 89 xfts xpools xms (d + 4)) 230 [yR k0, yI (p1), yI (p2)] hp (fun rv hp' => (rv = none ∧ True) ∧ bAx G [(34359738368, 1), (34359738368, 2), (1208925819614697894182912, 256)] hp hp') := by
  have A_hp : bAx G [(34359738368, 1), (34359738368, 2), (1208925819614697894182912, 256)] hp hp := bAx.rf hT
  have H : ∀ m : Nat, (∀ a3 : Int, ∀ a4 : Int, ∀ a5 : Int, ∀ a6 : Int, ∀ a7 : Int, ∀ hq, bAx G [(34359738368, 1), (34359738368, 2), (1208925819614697894182912, 256)] hp hq → 0 ≤ a3 → (-1) ≤ 0 - a3 → 0 ≤ a4 → (-15) ≤ 0 - a4 → 0 ≤ a5 → (-16) ≤ 0 - a5 → 0 ≤ a6 → (-1) ≤ 0 - a6 → 0 ≤ a7 → (-3) ≤ 0 - a7 → 0 ≤ p1 → (-19) ≤ 0 - p1 → 0 ≤ p2 → (-1) ≤ 0 - p2 → (-15) ≤ a3 - a5 → 0 ≤ 0 - a3 + a5 → 0 - 2 * a7 + 7 < (m : Int) → yG 89 xfts (xcall 89 xfts xpools xms (d + 3)) (xpool xp_RX9) [] xt_X9_currents (yP 0 (fun rv hp' => (rv = none ∧ True) ∧ bAx G [(34359738368, 1), (34359738368, 2), (1208925819614697894182912, 256)] hp hp')) (70 * m) 108 [(0, yR k0), (1, yI (p1)), (2, yI (p2)), (3, yI (a3)), (4, yI (a4)), (5, yI (a5)), (6, yI (a6)), (7, yI (a7))] [] hq) := by
    intro m
    induction m with
    | zero =>
      intros; exfalso; omega
    | succ m ih =>
      have i_108 := ih
      clear ih
      intro a3 a4 a5 a6 a7 hq A_hq f0 f1 f2 f3 f4 f5 f6 f7 f8 f9 f10 f11 f12 f13 f14 f15 hm
      refine yG.mono (N := 70 * m + 70) ?_ (by omega)
      refine yG.load xik rfl (fun _ _ => rfl) (v := yI (a7)) rfl rfl ?_
      refine yG.num (c := 3) rfl (fun _ _ => rfl) (by decide) ?_
      refine yG.icmp rfl (t := 245) rfl ⟨by omega, by omega⟩ ⟨by omega, by omega⟩ (fun c1 => ?_) (fun c1 => ?_)
      · have c1 : (a7 : Int) ≥ 3 := c1
        refine yG.load xak rfl (fun _ _ => rfl) (v := yR k0) rfl rfl ?_
        refine yG.load xik rfl (fun _ _ => rfl) (v := yI (a3)) rfl rfl ?_
        refine yG.ifz rfl (t := 256) rfl ⟨by omega, by omega⟩ (fun c2 => ?_) (fun c2 => ?_)
        · have c2 : (a3 : Int) = 0 := c2
          refine yG.num (c := 1000) rfl (fun _ _ => rfl) (by decide) ?_
          refine yG.invV (rest := []) A_hq.1 (bOb (d_Shorts W) H_k0) rfl rfl rfl rfl (c_Shorts_scaleAll W d A_hq.1 H_k0 (1000) (by omega) (by omega)) (fun rv h3 q9 => ?_)
          obtain ⟨⟨rfl, R_z4⟩, B_h3⟩ := q9
          have A_h3 := A_hq.tr B_h3 (by decide)
          show yG _ _ _ _ _ _ _ _ _ _ [] _
          refine yG.ret rfl (fun _ _ => rfl) ?_
          exact (yP.void ⟨⟨rfl, trivial⟩, A_h3⟩)
        · have c2 : (a3 : Int) ≠ 0 := c2
          refine yG.num (c := 16000) rfl (fun _ _ => rfl) (by decide) ?_
          refine yG.goto rfl (t := 259) rfl ?_
          refine yG.invV (rest := []) A_hq.1 (bOb (d_Shorts W) H_k0) rfl rfl rfl rfl (c_Shorts_scaleAll W d A_hq.1 H_k0 (16000) (by omega) (by omega)) (fun rv h5 q9 => ?_)
          obtain ⟨⟨rfl, R_z6⟩, B_h5⟩ := q9
          have A_h5 := A_hq.tr B_h5 (by decide)
          show yG _ _ _ _ _ _ _ _ _ _ [] _
          refine yG.ret rfl (fun _ _ => rfl) ?_
          exact (yP.void ⟨⟨rfl, trivial⟩, A_h5⟩)
      · have c1 : (a7 : Int) < 3 := c1
        refine yG.load xik rfl (fun _ _ => rfl) (v := yI (a7)) rfl rfl ?_
        refine yG.ifz rfl (t := 126) rfl ⟨by omega, by omega⟩ (fun c7 => ?_) (fun c7 => ?_)
        · have c7 : (a7 : Int) ≠ 0 := c7
          refine yG.load xak rfl (fun _ _ => rfl) (v := yR k0) rfl rfl ?_
          refine yG.getO A_hq.1 (w_Shorts_top1 W H_k0) rfl rfl (fun r8 H_r8 O_r8 q_r8 => ?_)
          refine yG.store1 xak (L' := [(8, yR r8), (0, yR k0), (1, yI (p1)), (2, yI (p2)), (3, yI (a3)), (4, yI (a4)), (5, yI (a5)), (6, yI (a6)), (7, yI (a7))]) rfl (fun _ _ => rfl) rfl rfl ?_
          refine yG.load xak rfl (fun _ _ => rfl) (v := yR k0) rfl rfl ?_
          refine yG.getO A_hq.1 (w_Shorts_reach W H_k0) rfl rfl (fun r9 H_r9 O_r9 q_r9 => ?_)
          refine yG.load xik rfl (fun _ _ => rfl) (v := yI (a7)) rfl rfl ?_
          refine yG.load xak rfl (fun _ _ => rfl) (v := yR k0) rfl rfl ?_
          refine yG.getO A_hq.1 (w_Shorts_net W H_k0) rfl rfl (fun r10 H_r10 O_r10 q_r10 => ?_)
          refine yG.num (c := 2) rfl (fun _ _ => rfl) (by decide) ?_
          refine yG.load xik rfl (fun _ _ => rfl) (v := yI (p1)) rfl rfl ?_
          refine yG.load xik rfl (fun _ _ => rfl) (v := yI (a7)) rfl rfl ?_
          refine yG.ifz rfl (t := 153) rfl ⟨by omega, by omega⟩ (fun c11 => ?_) (fun c11 => ?_)
          · have c11 : (a7 : Int) ≠ 0 := c11
            refine yG.num (c := 1) rfl (fun _ _ => rfl) (by decide) ?_
            refine yG.invV (rest := [yI (a7), yR r9]) A_hq.1 (bOb (d_Net W) H_r10) rfl rfl rfl rfl (c_Net_at_2_1 W (d + 2) A_hq.1 H_r10 (p1) (by omega) (by omega)) (fun rv hp9 q9 => ?_)
            obtain ⟨⟨z12, rfl, l_z12, u_z12, R_z12⟩, e9⟩ := q9
            rw [e9]
            show yG _ _ _ _ _ _ _ _ _ _ (yI z12 :: [yI (a7), yR r9]) _
            refine yG.load xik rfl (fun _ _ => rfl) (v := yI (a3)) rfl rfl ?_
            refine yG.ifz rfl (t := 169) rfl ⟨by omega, by omega⟩ (fun c13 => ?_) (fun c13 => ?_)
            · have c13 : (a3 : Int) = 0 := c13
              refine yG.num (c := 1) rfl (fun _ _ => rfl) (by decide) ?_
              refine yG.imul rfl ?_
              refine yG.iast A_hq.1 (v_Shorts_reach W H_r9) (W.2.1 _ _ H_r9 (by decide) (by decide)) rfl (by omega) (by omega) ⟨by omega, by omega⟩ (by omega) (by omega) (fun h14 T_h14 b_h14 f_h14 y_h14 => ?_)
              have A_h14 := A_hq.put T_h14 b_h14 f_h14 H_r9 (bAll_ok (by decide) _)
              refine yG.load xak rfl (fun _ _ => rfl) (v := yR k0) rfl rfl ?_
              refine yG.getO A_h14.1 (w_Shorts_asked W H_k0) rfl rfl (fun r15 H_r15 O_r15 q_r15 => ?_)
              refine yG.load xik rfl (fun _ _ => rfl) (v := yI (a7)) rfl rfl ?_
              refine yG.aaldO (r := 35) A_h14.1 (v_Big3 W H_r15) rfl rfl rfl (by omega) (by omega) (fun r16 H_r16 q_r16 => ?_)
              obtain ⟨n_r16, N_r16⟩ : ∃ n : Int, n = ((zat G r16 : Nat) : Int) := ⟨_, rfl⟩
              have L_r16 := n_Big W H_r16
              refine yG.numl (c := 0) rfl (fun _ _ => rfl) (by decide) ?_
              refine yG.invV (rest := []) A_h14.1 (bOb (d_Big W) H_r16) rfl rfl rfl rfl (c_Big_put W (d + 1) A_h14.1 H_r16 (0) (by omega) (by omega)) (fun rv h17 q9 => ?_)
              obtain ⟨⟨rfl, R_z18⟩, B_h17⟩ := q9
              have A_h17 := A_h14.tr B_h17 (by decide)
              have qq1 : zsl h17 k0 14 = yR r15 := (B_h17.sl H_k0 (by decide)).trans q_r15
              have qq2 : zsl h17 r15 (a7 : Int).toNat = yR r16 := (B_h17.sl H_r15 (bNo_ok (by decide) _)).trans q_r16
              show yG _ _ _ _ _ _ _ _ _ _ [] _
              refine yG.load xik rfl (fun _ _ => rfl) (v := yI (a6)) rfl rfl ?_
              refine yG.ifz rfl (t := 239) rfl ⟨by omega, by omega⟩ (fun c19 => ?_) (fun c19 => ?_)
              · have c19 : (a6 : Int) = 0 := c19
                refine yG.iinc rfl (a := a7) rfl (L' := [(7, yI (a7 + 1)), (8, yR r8), (0, yR k0), (1, yI (p1)), (2, yI (p2)), (3, yI (a3)), (4, yI (a4)), (5, yI (a5)), (6, yI (a6))]) rfl ?_
                refine yG.goto rfl (t := 108) rfl ?_
                exact yG.mono (yG.sub (i_108 (a3) (a4) (a5) (a6) (a7 + 1)  h17 A_h17   (by omega) (by omega) (by omega) (by omega) (by omega) (by omega) (by omega) (by omega) (by omega) (by omega) (by omega) (by omega) (by omega) (by omega) (by omega) (by omega) (by omega)) (ySub.cons rfl (ySub.cons rfl (ySub.cons rfl (ySub.cons rfl (ySub.cons rfl (ySub.cons rfl (ySub.cons rfl (ySub.cons rfl (ySub.nil)))))))))) (by omega)
              · have c19 : (a6 : Int) ≠ 0 := c19
                refine yG.load xak rfl (fun _ _ => rfl) (v := yR k0) rfl rfl ?_
                refine yG.getO A_h17.1 (w_Shorts_help W H_k0) rfl rfl (fun r20 H_r20 O_r20 q_r20 => ?_)
                refine yG.num (c := 0) rfl (fun _ _ => rfl) (by decide) ?_
                refine yG.aaldO (r := 35) A_h17.1 (v_Big4 W H_r20) rfl rfl rfl (by omega) (by omega) (fun r21 H_r21 q_r21 => ?_)
                obtain ⟨n_r21, N_r21⟩ : ∃ n : Int, n = ((zat G r21 : Nat) : Int) := ⟨_, rfl⟩
                have L_r21 := n_Big W H_r21
                refine yG.load xak rfl (fun _ _ => rfl) (v := yR r8) rfl rfl ?_
                refine yG.load xik rfl (fun _ _ => rfl) (v := yI (a5)) rfl rfl ?_
                refine yG.aaldO (r := 35) A_h17.1 (v_Big17 W H_r8) rfl rfl rfl (by omega) (by omega) (fun r22 H_r22 q_r22 => ?_)
                obtain ⟨n_r22, N_r22⟩ : ∃ n : Int, n = ((zat G r22 : Nat) : Int) := ⟨_, rfl⟩
                have L_r22 := n_Big W H_r22
                refine yG.invV (rest := []) A_h17.1 (bOb (d_Big W) H_r21) rfl rfl rfl rfl (c_Big_copy W (d + 1) A_h17.1 H_r21 H_r22) (fun rv h23 q9 => ?_)
                obtain ⟨⟨rfl, R_z24⟩, B_h23⟩ := q9
                have A_h23 := A_h17.tr B_h23 (by decide)
                have qq3 : zsl h23 k0 14 = yR r15 := (B_h23.sl H_k0 (by decide)).trans qq1
                have qq4 : zsl h23 r15 (a7 : Int).toNat = yR r16 := (B_h23.sl H_r15 (bNo_ok (by decide) _)).trans qq2
                have qq5 : zsl h23 k0 17 = yR r20 := (B_h23.sl H_k0 (by decide)).trans q_r20
                have qq6 : zsl h23 r20 (0 : Int).toNat = yR r21 := (B_h23.sl H_r20 (bNo_ok (by decide) _)).trans q_r21
                show yG _ _ _ _ _ _ _ _ _ _ [] _
                refine yG.load xak rfl (fun _ _ => rfl) (v := yR k0) rfl rfl ?_
                refine yG.getS9 A_h23.1 (w_Shorts_help W H_k0) qq5 rfl rfl ?_
                refine yG.num (c := 0) rfl (fun _ _ => rfl) (by decide) ?_
                refine yG.aaldO (r := 35) A_h23.1 (v_Big4 W H_r20) rfl rfl rfl (by omega) (by omega) (fun r25 H_r25 q_r25 => ?_)
                obtain ⟨n_r25, N_r25⟩ : ∃ n : Int, n = ((zat G r25 : Nat) : Int) := ⟨_, rfl⟩
                have L_r25 := n_Big W H_r25
                have s_r25 : r25 = r21 := by have e9 := q_r25.symm.trans qq6; cases e9; rfl
                rw [s_r25]
                refine yG.load xak rfl (fun _ _ => rfl) (v := yR r8) rfl rfl ?_
                refine yG.load xik rfl (fun _ _ => rfl) (v := yI (a4)) rfl rfl ?_
                refine yG.aaldO (r := 35) A_h23.1 (v_Big17 W H_r8) rfl rfl rfl (by omega) (by omega) (fun r26 H_r26 q_r26 => ?_)
                obtain ⟨n_r26, N_r26⟩ : ∃ n : Int, n = ((zat G r26 : Nat) : Int) := ⟨_, rfl⟩
                have L_r26 := n_Big W H_r26
                refine yG.invV (rest := []) A_h23.1 (bOb (d_Big W) H_r21) rfl rfl rfl rfl (c_Big_less W d A_h23.1 H_r21 H_r26) (fun rv h27 q9 => ?_)
                obtain ⟨⟨rfl, R_z28⟩, B_h27⟩ := q9
                have A_h27 := A_h23.tr B_h27 (by decide)
                have qq7 : zsl h27 k0 14 = yR r15 := (B_h27.sl H_k0 (by decide)).trans qq3
                have qq8 : zsl h27 r15 (a7 : Int).toNat = yR r16 := (B_h27.sl H_r15 (bNo_ok (by decide) _)).trans qq4
                have qq9 : zsl h27 k0 17 = yR r20 := (B_h27.sl H_k0 (by decide)).trans qq5
                have qq10 : zsl h27 r20 (0 : Int).toNat = yR r21 := (B_h27.sl H_r20 (bNo_ok (by decide) _)).trans qq6
                show yG _ _ _ _ _ _ _ _ _ _ [] _
                refine yG.load xak rfl (fun _ _ => rfl) (v := yR k0) rfl rfl ?_
                refine yG.getS9 A_h27.1 (w_Shorts_asked W H_k0) qq7 rfl rfl ?_
                refine yG.load xik rfl (fun _ _ => rfl) (v := yI (a7)) rfl rfl ?_
                refine yG.aaldO (r := 35) A_h27.1 (v_Big3 W H_r15) rfl rfl rfl (by omega) (by omega) (fun r29 H_r29 q_r29 => ?_)
                obtain ⟨n_r29, N_r29⟩ : ∃ n : Int, n = ((zat G r29 : Nat) : Int) := ⟨_, rfl⟩
                have L_r29 := n_Big W H_r29
                have s_r29 : r29 = r16 := by have e9 := q_r29.symm.trans qq8; cases e9; rfl
                rw [s_r29]
                refine yG.load xak rfl (fun _ _ => rfl) (v := yR k0) rfl rfl ?_
                refine yG.getO A_h27.1 (w_Shorts_part W H_k0) rfl rfl (fun r30 H_r30 O_r30 q_r30 => ?_)
                refine yG.load xik rfl (fun _ _ => rfl) (v := yI (a7)) rfl rfl ?_
                refine yG.aaldO (r := 35) A_h27.1 (v_Big3 W H_r30) rfl rfl rfl (by omega) (by omega) (fun r31 H_r31 q_r31 => ?_)
                obtain ⟨n_r31, N_r31⟩ : ∃ n : Int, n = ((zat G r31 : Nat) : Int) := ⟨_, rfl⟩
                have L_r31 := n_Big W H_r31
                refine yG.load xak rfl (fun _ _ => rfl) (v := yR k0) rfl rfl ?_
                refine yG.getS9 A_h27.1 (w_Shorts_help W H_k0) qq9 rfl rfl ?_
                refine yG.num (c := 0) rfl (fun _ _ => rfl) (by decide) ?_
                refine yG.aaldO (r := 35) A_h27.1 (v_Big4 W H_r20) rfl rfl rfl (by omega) (by omega) (fun r32 H_r32 q_r32 => ?_)
                obtain ⟨n_r32, N_r32⟩ : ∃ n : Int, n = ((zat G r32 : Nat) : Int) := ⟨_, rfl⟩
                have L_r32 := n_Big W H_r32
                have s_r32 : r32 = r21 := by have e9 := q_r32.symm.trans qq10; cases e9; rfl
                rw [s_r32]
                refine yG.invV (rest := []) A_h27.1 (bOb (d_Big W) H_r16) rfl rfl rfl rfl (c_Big_product W (d + 1) A_h27.1 H_r16 H_r31 H_r21) (fun rv h33 q9 => ?_)
                obtain ⟨⟨rfl, R_z34⟩, B_h33⟩ := q9
                have A_h33 := A_h27.tr B_h33 (by decide)
                have qq11 : zsl h33 k0 14 = yR r15 := (B_h33.sl H_k0 (by decide)).trans qq7
                have qq12 : zsl h33 r15 (a7 : Int).toNat = yR r16 := (B_h33.sl H_r15 (bNo_ok (by decide) _)).trans qq8
                have qq13 : zsl h33 k0 17 = yR r20 := (B_h33.sl H_k0 (by decide)).trans qq9
                have qq14 : zsl h33 r20 (0 : Int).toNat = yR r21 := (B_h33.sl H_r20 (bNo_ok (by decide) _)).trans qq10
                show yG _ _ _ _ _ _ _ _ _ _ [] _
                refine yG.iinc rfl (a := a7) rfl (L' := [(7, yI (a7 + 1)), (8, yR r8), (0, yR k0), (1, yI (p1)), (2, yI (p2)), (3, yI (a3)), (4, yI (a4)), (5, yI (a5)), (6, yI (a6))]) rfl ?_
                refine yG.goto rfl (t := 108) rfl ?_
                exact yG.mono (yG.sub (i_108 (a3) (a4) (a5) (a6) (a7 + 1)  h33 A_h33   (by omega) (by omega) (by omega) (by omega) (by omega) (by omega) (by omega) (by omega) (by omega) (by omega) (by omega) (by omega) (by omega) (by omega) (by omega) (by omega) (by omega)) (ySub.cons rfl (ySub.cons rfl (ySub.cons rfl (ySub.cons rfl (ySub.cons rfl (ySub.cons rfl (ySub.cons rfl (ySub.cons rfl (ySub.nil)))))))))) (by omega)
            · have c13 : (a3 : Int) ≠ 0 := c13
              refine yG.load xak rfl (fun _ _ => rfl) (v := yR k0) rfl rfl ?_
              refine yG.load xik rfl (fun _ _ => rfl) (v := yI (p2)) rfl rfl ?_
              refine yG.invV (rest := [yI (z12), yI (a7), yR r9]) A_hq.1 (bOb (d_Shorts W) H_k0) rfl rfl rfl rfl (c_Shorts_sixteenths W (d + 2) A_hq.1 H_k0 (p2) (by omega) (by omega)) (fun rv hp9 q9 => ?_)
              obtain ⟨⟨z35, rfl, l_z35, u_z35, R_z35⟩, e9⟩ := q9
              rw [e9]
              show yG _ _ _ _ _ _ _ _ _ _ (yI z35 :: [yI (z12), yI (a7), yR r9]) _
              refine yG.goto rfl (t := 170) rfl ?_
              refine yG.imul rfl ?_
              obtain ⟨z36, e_z36⟩ : ∃ z : Int, z = z12 * z35 := ⟨_, rfl⟩
              rw [← e_z36]
              have b_z36 : 0 ≤ z36 ∧ z36 ≤ 1584 := e_z36 ▸ ymulb (A := 99) (B := 16) (by omega) (by omega) (by omega) (by omega) (by decide)
              have b2_z36 : z36 ≤ 99 * z35 := e_z36 ▸ bmulx (by omega) (by omega)
              have b3_z36 : z36 ≤ 16 * z12 := e_z36 ▸ bmuly (by omega) (by omega)
              refine yG.iast A_hq.1 (v_Shorts_reach W H_r9) (W.2.1 _ _ H_r9 (by decide) (by decide)) rfl (by omega) (by omega) ⟨by omega, by omega⟩ (by omega) (by omega) (fun h37 T_h37 b_h37 f_h37 y_h37 => ?_)
              have A_h37 := A_hq.put T_h37 b_h37 f_h37 H_r9 (bAll_ok (by decide) _)
              refine yG.load xak rfl (fun _ _ => rfl) (v := yR k0) rfl rfl ?_
              refine yG.getO A_h37.1 (w_Shorts_asked W H_k0) rfl rfl (fun r38 H_r38 O_r38 q_r38 => ?_)
              refine yG.load xik rfl (fun _ _ => rfl) (v := yI (a7)) rfl rfl ?_
              refine yG.aaldO (r := 35) A_h37.1 (v_Big3 W H_r38) rfl rfl rfl (by omega) (by omega) (fun r39 H_r39 q_r39 => ?_)
              obtain ⟨n_r39, N_r39⟩ : ∃ n : Int, n = ((zat G r39 : Nat) : Int) := ⟨_, rfl⟩
              have L_r39 := n_Big W H_r39
              refine yG.numl (c := 0) rfl (fun _ _ => rfl) (by decide) ?_
              refine yG.invV (rest := []) A_h37.1 (bOb (d_Big W) H_r39) rfl rfl rfl rfl (c_Big_put W (d + 1) A_h37.1 H_r39 (0) (by omega) (by omega)) (fun rv h40 q9 => ?_)
              obtain ⟨⟨rfl, R_z41⟩, B_h40⟩ := q9
              have A_h40 := A_h37.tr B_h40 (by decide)
              have qq15 : zsl h40 k0 14 = yR r38 := (B_h40.sl H_k0 (by decide)).trans q_r38
              have qq16 : zsl h40 r38 (a7 : Int).toNat = yR r39 := (B_h40.sl H_r38 (bNo_ok (by decide) _)).trans q_r39
              show yG _ _ _ _ _ _ _ _ _ _ [] _
              refine yG.load xik rfl (fun _ _ => rfl) (v := yI (a6)) rfl rfl ?_
              refine yG.ifz rfl (t := 239) rfl ⟨by omega, by omega⟩ (fun c42 => ?_) (fun c42 => ?_)
              · have c42 : (a6 : Int) = 0 := c42
                refine yG.iinc rfl (a := a7) rfl (L' := [(7, yI (a7 + 1)), (8, yR r8), (0, yR k0), (1, yI (p1)), (2, yI (p2)), (3, yI (a3)), (4, yI (a4)), (5, yI (a5)), (6, yI (a6))]) rfl ?_
                refine yG.goto rfl (t := 108) rfl ?_
                exact yG.mono (yG.sub (i_108 (a3) (a4) (a5) (a6) (a7 + 1)  h40 A_h40   (by omega) (by omega) (by omega) (by omega) (by omega) (by omega) (by omega) (by omega) (by omega) (by omega) (by omega) (by omega) (by omega) (by omega) (by omega) (by omega) (by omega)) (ySub.cons rfl (ySub.cons rfl (ySub.cons rfl (ySub.cons rfl (ySub.cons rfl (ySub.cons rfl (ySub.cons rfl (ySub.cons rfl (ySub.nil)))))))))) (by omega)
              · have c42 : (a6 : Int) ≠ 0 := c42
                refine yG.load xak rfl (fun _ _ => rfl) (v := yR k0) rfl rfl ?_
                refine yG.getO A_h40.1 (w_Shorts_help W H_k0) rfl rfl (fun r43 H_r43 O_r43 q_r43 => ?_)
                refine yG.num (c := 0) rfl (fun _ _ => rfl) (by decide) ?_
                refine yG.aaldO (r := 35) A_h40.1 (v_Big4 W H_r43) rfl rfl rfl (by omega) (by omega) (fun r44 H_r44 q_r44 => ?_)
                obtain ⟨n_r44, N_r44⟩ : ∃ n : Int, n = ((zat G r44 : Nat) : Int) := ⟨_, rfl⟩
                have L_r44 := n_Big W H_r44
                refine yG.load xak rfl (fun _ _ => rfl) (v := yR r8) rfl rfl ?_
                refine yG.load xik rfl (fun _ _ => rfl) (v := yI (a5)) rfl rfl ?_
                refine yG.aaldO (r := 35) A_h40.1 (v_Big17 W H_r8) rfl rfl rfl (by omega) (by omega) (fun r45 H_r45 q_r45 => ?_)
                obtain ⟨n_r45, N_r45⟩ : ∃ n : Int, n = ((zat G r45 : Nat) : Int) := ⟨_, rfl⟩
                have L_r45 := n_Big W H_r45
                refine yG.invV (rest := []) A_h40.1 (bOb (d_Big W) H_r44) rfl rfl rfl rfl (c_Big_copy W (d + 1) A_h40.1 H_r44 H_r45) (fun rv h46 q9 => ?_)
                obtain ⟨⟨rfl, R_z47⟩, B_h46⟩ := q9
                have A_h46 := A_h40.tr B_h46 (by decide)
                have qq17 : zsl h46 k0 14 = yR r38 := (B_h46.sl H_k0 (by decide)).trans qq15
                have qq18 : zsl h46 r38 (a7 : Int).toNat = yR r39 := (B_h46.sl H_r38 (bNo_ok (by decide) _)).trans qq16
                have qq19 : zsl h46 k0 17 = yR r43 := (B_h46.sl H_k0 (by decide)).trans q_r43
                have qq20 : zsl h46 r43 (0 : Int).toNat = yR r44 := (B_h46.sl H_r43 (bNo_ok (by decide) _)).trans q_r44
                show yG _ _ _ _ _ _ _ _ _ _ [] _
                refine yG.load xak rfl (fun _ _ => rfl) (v := yR k0) rfl rfl ?_
                refine yG.getS9 A_h46.1 (w_Shorts_help W H_k0) qq19 rfl rfl ?_
                refine yG.num (c := 0) rfl (fun _ _ => rfl) (by decide) ?_
                refine yG.aaldO (r := 35) A_h46.1 (v_Big4 W H_r43) rfl rfl rfl (by omega) (by omega) (fun r48 H_r48 q_r48 => ?_)
                obtain ⟨n_r48, N_r48⟩ : ∃ n : Int, n = ((zat G r48 : Nat) : Int) := ⟨_, rfl⟩
                have L_r48 := n_Big W H_r48
                have s_r48 : r48 = r44 := by have e9 := q_r48.symm.trans qq20; cases e9; rfl
                rw [s_r48]
                refine yG.load xak rfl (fun _ _ => rfl) (v := yR r8) rfl rfl ?_
                refine yG.load xik rfl (fun _ _ => rfl) (v := yI (a4)) rfl rfl ?_
                refine yG.aaldO (r := 35) A_h46.1 (v_Big17 W H_r8) rfl rfl rfl (by omega) (by omega) (fun r49 H_r49 q_r49 => ?_)
                obtain ⟨n_r49, N_r49⟩ : ∃ n : Int, n = ((zat G r49 : Nat) : Int) := ⟨_, rfl⟩
                have L_r49 := n_Big W H_r49
                refine yG.invV (rest := []) A_h46.1 (bOb (d_Big W) H_r44) rfl rfl rfl rfl (c_Big_less W d A_h46.1 H_r44 H_r49) (fun rv h50 q9 => ?_)
                obtain ⟨⟨rfl, R_z51⟩, B_h50⟩ := q9
                have A_h50 := A_h46.tr B_h50 (by decide)
                have qq21 : zsl h50 k0 14 = yR r38 := (B_h50.sl H_k0 (by decide)).trans qq17
                have qq22 : zsl h50 r38 (a7 : Int).toNat = yR r39 := (B_h50.sl H_r38 (bNo_ok (by decide) _)).trans qq18
                have qq23 : zsl h50 k0 17 = yR r43 := (B_h50.sl H_k0 (by decide)).trans qq19
                have qq24 : zsl h50 r43 (0 : Int).toNat = yR r44 := (B_h50.sl H_r43 (bNo_ok (by decide) _)).trans qq20
                show yG _ _ _ _ _ _ _ _ _ _ [] _
                refine yG.load xak rfl (fun _ _ => rfl) (v := yR k0) rfl rfl ?_
                refine yG.getS9 A_h50.1 (w_Shorts_asked W H_k0) qq21 rfl rfl ?_
                refine yG.load xik rfl (fun _ _ => rfl) (v := yI (a7)) rfl rfl ?_
                refine yG.aaldO (r := 35) A_h50.1 (v_Big3 W H_r38) rfl rfl rfl (by omega) (by omega) (fun r52 H_r52 q_r52 => ?_)
                obtain ⟨n_r52, N_r52⟩ : ∃ n : Int, n = ((zat G r52 : Nat) : Int) := ⟨_, rfl⟩
                have L_r52 := n_Big W H_r52
                have s_r52 : r52 = r39 := by have e9 := q_r52.symm.trans qq22; cases e9; rfl
                rw [s_r52]
                refine yG.load xak rfl (fun _ _ => rfl) (v := yR k0) rfl rfl ?_
                refine yG.getO A_h50.1 (w_Shorts_part W H_k0) rfl rfl (fun r53 H_r53 O_r53 q_r53 => ?_)
                refine yG.load xik rfl (fun _ _ => rfl) (v := yI (a7)) rfl rfl ?_
                refine yG.aaldO (r := 35) A_h50.1 (v_Big3 W H_r53) rfl rfl rfl (by omega) (by omega) (fun r54 H_r54 q_r54 => ?_)
                obtain ⟨n_r54, N_r54⟩ : ∃ n : Int, n = ((zat G r54 : Nat) : Int) := ⟨_, rfl⟩
                have L_r54 := n_Big W H_r54
                refine yG.load xak rfl (fun _ _ => rfl) (v := yR k0) rfl rfl ?_
                refine yG.getS9 A_h50.1 (w_Shorts_help W H_k0) qq23 rfl rfl ?_
                refine yG.num (c := 0) rfl (fun _ _ => rfl) (by decide) ?_
                refine yG.aaldO (r := 35) A_h50.1 (v_Big4 W H_r43) rfl rfl rfl (by omega) (by omega) (fun r55 H_r55 q_r55 => ?_)
                obtain ⟨n_r55, N_r55⟩ : ∃ n : Int, n = ((zat G r55 : Nat) : Int) := ⟨_, rfl⟩
                have L_r55 := n_Big W H_r55
                have s_r55 : r55 = r44 := by have e9 := q_r55.symm.trans qq24; cases e9; rfl
                rw [s_r55]
                refine yG.invV (rest := []) A_h50.1 (bOb (d_Big W) H_r39) rfl rfl rfl rfl (c_Big_product W (d + 1) A_h50.1 H_r39 H_r54 H_r44) (fun rv h56 q9 => ?_)
                obtain ⟨⟨rfl, R_z57⟩, B_h56⟩ := q9
                have A_h56 := A_h50.tr B_h56 (by decide)
                have qq25 : zsl h56 k0 14 = yR r38 := (B_h56.sl H_k0 (by decide)).trans qq21
                have qq26 : zsl h56 r38 (a7 : Int).toNat = yR r39 := (B_h56.sl H_r38 (bNo_ok (by decide) _)).trans qq22
                have qq27 : zsl h56 k0 17 = yR r43 := (B_h56.sl H_k0 (by decide)).trans qq23
                have qq28 : zsl h56 r43 (0 : Int).toNat = yR r44 := (B_h56.sl H_r43 (bNo_ok (by decide) _)).trans qq24
                show yG _ _ _ _ _ _ _ _ _ _ [] _
                refine yG.iinc rfl (a := a7) rfl (L' := [(7, yI (a7 + 1)), (8, yR r8), (0, yR k0), (1, yI (p1)), (2, yI (p2)), (3, yI (a3)), (4, yI (a4)), (5, yI (a5)), (6, yI (a6))]) rfl ?_
                refine yG.goto rfl (t := 108) rfl ?_
                exact yG.mono (yG.sub (i_108 (a3) (a4) (a5) (a6) (a7 + 1)  h56 A_h56   (by omega) (by omega) (by omega) (by omega) (by omega) (by omega) (by omega) (by omega) (by omega) (by omega) (by omega) (by omega) (by omega) (by omega) (by omega) (by omega) (by omega)) (ySub.cons rfl (ySub.cons rfl (ySub.cons rfl (ySub.cons rfl (ySub.cons rfl (ySub.cons rfl (ySub.cons rfl (ySub.cons rfl (ySub.nil)))))))))) (by omega)
          · have c11 : (a7 : Int) = 0 := c11
            exfalso; omega
        · have c7 : (a7 : Int) = 0 := c7
          refine yG.load xak rfl (fun _ _ => rfl) (v := yR k0) rfl rfl ?_
          refine yG.getO A_hq.1 (w_Shorts_top0 W H_k0) rfl rfl (fun r58 H_r58 O_r58 q_r58 => ?_)
          refine yG.goto rfl (t := 130) rfl ?_
          refine yG.store1 xak (L' := [(8, yR r58), (0, yR k0), (1, yI (p1)), (2, yI (p2)), (3, yI (a3)), (4, yI (a4)), (5, yI (a5)), (6, yI (a6)), (7, yI (a7))]) rfl (fun _ _ => rfl) rfl rfl ?_
          refine yG.load xak rfl (fun _ _ => rfl) (v := yR k0) rfl rfl ?_
          refine yG.getO A_hq.1 (w_Shorts_reach W H_k0) rfl rfl (fun r59 H_r59 O_r59 q_r59 => ?_)
          refine yG.load xik rfl (fun _ _ => rfl) (v := yI (a7)) rfl rfl ?_
          refine yG.load xak rfl (fun _ _ => rfl) (v := yR k0) rfl rfl ?_
          refine yG.getO A_hq.1 (w_Shorts_net W H_k0) rfl rfl (fun r60 H_r60 O_r60 q_r60 => ?_)
          refine yG.num (c := 2) rfl (fun _ _ => rfl) (by decide) ?_
          refine yG.load xik rfl (fun _ _ => rfl) (v := yI (p1)) rfl rfl ?_
          refine yG.load xik rfl (fun _ _ => rfl) (v := yI (a7)) rfl rfl ?_
          refine yG.ifz rfl (t := 153) rfl ⟨by omega, by omega⟩ (fun c61 => ?_) (fun c61 => ?_)
          · have c61 : (a7 : Int) ≠ 0 := c61
            exfalso; omega
          · have c61 : (a7 : Int) = 0 := c61
            refine yG.num (c := 2) rfl (fun _ _ => rfl) (by decide) ?_
            refine yG.goto rfl (t := 154) rfl ?_
            refine yG.invV (rest := [yI (a7), yR r59]) A_hq.1 (bOb (d_Net W) H_r60) rfl rfl rfl rfl (c_Net_at_2_2 W (d + 2) A_hq.1 H_r60 (p1) (by omega) (by omega)) (fun rv hp9 q9 => ?_)
            obtain ⟨⟨z62, rfl, l_z62, u_z62, R_z62⟩, e9⟩ := q9
            rw [e9]
            show yG _ _ _ _ _ _ _ _ _ _ (yI z62 :: [yI (a7), yR r59]) _
            refine yG.load xik rfl (fun _ _ => rfl) (v := yI (a3)) rfl rfl ?_
            refine yG.ifz rfl (t := 169) rfl ⟨by omega, by omega⟩ (fun c63 => ?_) (fun c63 => ?_)
            · have c63 : (a3 : Int) = 0 := c63
              refine yG.num (c := 1) rfl (fun _ _ => rfl) (by decide) ?_
              refine yG.imul rfl ?_
              refine yG.iast A_hq.1 (v_Shorts_reach W H_r59) (W.2.1 _ _ H_r59 (by decide) (by decide)) rfl (by omega) (by omega) ⟨by omega, by omega⟩ (by omega) (by omega) (fun h64 T_h64 b_h64 f_h64 y_h64 => ?_)
              have A_h64 := A_hq.put T_h64 b_h64 f_h64 H_r59 (bAll_ok (by decide) _)
              refine yG.load xak rfl (fun _ _ => rfl) (v := yR k0) rfl rfl ?_
              refine yG.getO A_h64.1 (w_Shorts_asked W H_k0) rfl rfl (fun r65 H_r65 O_r65 q_r65 => ?_)
              refine yG.load xik rfl (fun _ _ => rfl) (v := yI (a7)) rfl rfl ?_
              refine yG.aaldO (r := 35) A_h64.1 (v_Big3 W H_r65) rfl rfl rfl (by omega) (by omega) (fun r66 H_r66 q_r66 => ?_)
              obtain ⟨n_r66, N_r66⟩ : ∃ n : Int, n = ((zat G r66 : Nat) : Int) := ⟨_, rfl⟩
              have L_r66 := n_Big W H_r66
              refine yG.numl (c := 0) rfl (fun _ _ => rfl) (by decide) ?_
              refine yG.invV (rest := []) A_h64.1 (bOb (d_Big W) H_r66) rfl rfl rfl rfl (c_Big_put W (d + 1) A_h64.1 H_r66 (0) (by omega) (by omega)) (fun rv h67 q9 => ?_)
              obtain ⟨⟨rfl, R_z68⟩, B_h67⟩ := q9
              have A_h67 := A_h64.tr B_h67 (by decide)
              have qq29 : zsl h67 k0 14 = yR r65 := (B_h67.sl H_k0 (by decide)).trans q_r65
              have qq30 : zsl h67 r65 (a7 : Int).toNat = yR r66 := (B_h67.sl H_r65 (bNo_ok (by decide) _)).trans q_r66
              show yG _ _ _ _ _ _ _ _ _ _ [] _
              refine yG.load xik rfl (fun _ _ => rfl) (v := yI (a6)) rfl rfl ?_
              refine yG.ifz rfl (t := 239) rfl ⟨by omega, by omega⟩ (fun c69 => ?_) (fun c69 => ?_)
              · have c69 : (a6 : Int) = 0 := c69
                refine yG.iinc rfl (a := a7) rfl (L' := [(7, yI (a7 + 1)), (8, yR r58), (0, yR k0), (1, yI (p1)), (2, yI (p2)), (3, yI (a3)), (4, yI (a4)), (5, yI (a5)), (6, yI (a6))]) rfl ?_
                refine yG.goto rfl (t := 108) rfl ?_
                exact yG.mono (yG.sub (i_108 (a3) (a4) (a5) (a6) (a7 + 1)  h67 A_h67   (by omega) (by omega) (by omega) (by omega) (by omega) (by omega) (by omega) (by omega) (by omega) (by omega) (by omega) (by omega) (by omega) (by omega) (by omega) (by omega) (by omega)) (ySub.cons rfl (ySub.cons rfl (ySub.cons rfl (ySub.cons rfl (ySub.cons rfl (ySub.cons rfl (ySub.cons rfl (ySub.cons rfl (ySub.nil)))))))))) (by omega)
              · have c69 : (a6 : Int) ≠ 0 := c69
                refine yG.load xak rfl (fun _ _ => rfl) (v := yR k0) rfl rfl ?_
                refine yG.getO A_h67.1 (w_Shorts_help W H_k0) rfl rfl (fun r70 H_r70 O_r70 q_r70 => ?_)
                refine yG.num (c := 0) rfl (fun _ _ => rfl) (by decide) ?_
                refine yG.aaldO (r := 35) A_h67.1 (v_Big4 W H_r70) rfl rfl rfl (by omega) (by omega) (fun r71 H_r71 q_r71 => ?_)
                obtain ⟨n_r71, N_r71⟩ : ∃ n : Int, n = ((zat G r71 : Nat) : Int) := ⟨_, rfl⟩
                have L_r71 := n_Big W H_r71
                refine yG.load xak rfl (fun _ _ => rfl) (v := yR r58) rfl rfl ?_
                refine yG.load xik rfl (fun _ _ => rfl) (v := yI (a5)) rfl rfl ?_
                refine yG.aaldO (r := 35) A_h67.1 (v_Big17 W H_r58) rfl rfl rfl (by omega) (by omega) (fun r72 H_r72 q_r72 => ?_)
                obtain ⟨n_r72, N_r72⟩ : ∃ n : Int, n = ((zat G r72 : Nat) : Int) := ⟨_, rfl⟩
                have L_r72 := n_Big W H_r72
                refine yG.invV (rest := []) A_h67.1 (bOb (d_Big W) H_r71) rfl rfl rfl rfl (c_Big_copy W (d + 1) A_h67.1 H_r71 H_r72) (fun rv h73 q9 => ?_)
                obtain ⟨⟨rfl, R_z74⟩, B_h73⟩ := q9
                have A_h73 := A_h67.tr B_h73 (by decide)
                have qq31 : zsl h73 k0 14 = yR r65 := (B_h73.sl H_k0 (by decide)).trans qq29
                have qq32 : zsl h73 r65 (a7 : Int).toNat = yR r66 := (B_h73.sl H_r65 (bNo_ok (by decide) _)).trans qq30
                have qq33 : zsl h73 k0 17 = yR r70 := (B_h73.sl H_k0 (by decide)).trans q_r70
                have qq34 : zsl h73 r70 (0 : Int).toNat = yR r71 := (B_h73.sl H_r70 (bNo_ok (by decide) _)).trans q_r71
                show yG _ _ _ _ _ _ _ _ _ _ [] _
                refine yG.load xak rfl (fun _ _ => rfl) (v := yR k0) rfl rfl ?_
                refine yG.getS9 A_h73.1 (w_Shorts_help W H_k0) qq33 rfl rfl ?_
                refine yG.num (c := 0) rfl (fun _ _ => rfl) (by decide) ?_
                refine yG.aaldO (r := 35) A_h73.1 (v_Big4 W H_r70) rfl rfl rfl (by omega) (by omega) (fun r75 H_r75 q_r75 => ?_)
                obtain ⟨n_r75, N_r75⟩ : ∃ n : Int, n = ((zat G r75 : Nat) : Int) := ⟨_, rfl⟩
                have L_r75 := n_Big W H_r75
                have s_r75 : r75 = r71 := by have e9 := q_r75.symm.trans qq34; cases e9; rfl
                rw [s_r75]
                refine yG.load xak rfl (fun _ _ => rfl) (v := yR r58) rfl rfl ?_
                refine yG.load xik rfl (fun _ _ => rfl) (v := yI (a4)) rfl rfl ?_
                refine yG.aaldO (r := 35) A_h73.1 (v_Big17 W H_r58) rfl rfl rfl (by omega) (by omega) (fun r76 H_r76 q_r76 => ?_)
                obtain ⟨n_r76, N_r76⟩ : ∃ n : Int, n = ((zat G r76 : Nat) : Int) := ⟨_, rfl⟩
                have L_r76 := n_Big W H_r76
                refine yG.invV (rest := []) A_h73.1 (bOb (d_Big W) H_r71) rfl rfl rfl rfl (c_Big_less W d A_h73.1 H_r71 H_r76) (fun rv h77 q9 => ?_)
                obtain ⟨⟨rfl, R_z78⟩, B_h77⟩ := q9
                have A_h77 := A_h73.tr B_h77 (by decide)
                have qq35 : zsl h77 k0 14 = yR r65 := (B_h77.sl H_k0 (by decide)).trans qq31
                have qq36 : zsl h77 r65 (a7 : Int).toNat = yR r66 := (B_h77.sl H_r65 (bNo_ok (by decide) _)).trans qq32
                have qq37 : zsl h77 k0 17 = yR r70 := (B_h77.sl H_k0 (by decide)).trans qq33
                have qq38 : zsl h77 r70 (0 : Int).toNat = yR r71 := (B_h77.sl H_r70 (bNo_ok (by decide) _)).trans qq34
                show yG _ _ _ _ _ _ _ _ _ _ [] _
                refine yG.load xak rfl (fun _ _ => rfl) (v := yR k0) rfl rfl ?_
                refine yG.getS9 A_h77.1 (w_Shorts_asked W H_k0) qq35 rfl rfl ?_
                refine yG.load xik rfl (fun _ _ => rfl) (v := yI (a7)) rfl rfl ?_
                refine yG.aaldO (r := 35) A_h77.1 (v_Big3 W H_r65) rfl rfl rfl (by omega) (by omega) (fun r79 H_r79 q_r79 => ?_)
                obtain ⟨n_r79, N_r79⟩ : ∃ n : Int, n = ((zat G r79 : Nat) : Int) := ⟨_, rfl⟩
                have L_r79 := n_Big W H_r79
                have s_r79 : r79 = r66 := by have e9 := q_r79.symm.trans qq36; cases e9; rfl
                rw [s_r79]
                refine yG.load xak rfl (fun _ _ => rfl) (v := yR k0) rfl rfl ?_
                refine yG.getO A_h77.1 (w_Shorts_part W H_k0) rfl rfl (fun r80 H_r80 O_r80 q_r80 => ?_)
                refine yG.load xik rfl (fun _ _ => rfl) (v := yI (a7)) rfl rfl ?_
                refine yG.aaldO (r := 35) A_h77.1 (v_Big3 W H_r80) rfl rfl rfl (by omega) (by omega) (fun r81 H_r81 q_r81 => ?_)
                obtain ⟨n_r81, N_r81⟩ : ∃ n : Int, n = ((zat G r81 : Nat) : Int) := ⟨_, rfl⟩
                have L_r81 := n_Big W H_r81
                refine yG.load xak rfl (fun _ _ => rfl) (v := yR k0) rfl rfl ?_
                refine yG.getS9 A_h77.1 (w_Shorts_help W H_k0) qq37 rfl rfl ?_
                refine yG.num (c := 0) rfl (fun _ _ => rfl) (by decide) ?_
                refine yG.aaldO (r := 35) A_h77.1 (v_Big4 W H_r70) rfl rfl rfl (by omega) (by omega) (fun r82 H_r82 q_r82 => ?_)
                obtain ⟨n_r82, N_r82⟩ : ∃ n : Int, n = ((zat G r82 : Nat) : Int) := ⟨_, rfl⟩
                have L_r82 := n_Big W H_r82
                have s_r82 : r82 = r71 := by have e9 := q_r82.symm.trans qq38; cases e9; rfl
                rw [s_r82]
                refine yG.invV (rest := []) A_h77.1 (bOb (d_Big W) H_r66) rfl rfl rfl rfl (c_Big_product W (d + 1) A_h77.1 H_r66 H_r81 H_r71) (fun rv h83 q9 => ?_)
                obtain ⟨⟨rfl, R_z84⟩, B_h83⟩ := q9
                have A_h83 := A_h77.tr B_h83 (by decide)
                have qq39 : zsl h83 k0 14 = yR r65 := (B_h83.sl H_k0 (by decide)).trans qq35
                have qq40 : zsl h83 r65 (a7 : Int).toNat = yR r66 := (B_h83.sl H_r65 (bNo_ok (by decide) _)).trans qq36
                have qq41 : zsl h83 k0 17 = yR r70 := (B_h83.sl H_k0 (by decide)).trans qq37
                have qq42 : zsl h83 r70 (0 : Int).toNat = yR r71 := (B_h83.sl H_r70 (bNo_ok (by decide) _)).trans qq38
                show yG _ _ _ _ _ _ _ _ _ _ [] _
                refine yG.iinc rfl (a := a7) rfl (L' := [(7, yI (a7 + 1)), (8, yR r58), (0, yR k0), (1, yI (p1)), (2, yI (p2)), (3, yI (a3)), (4, yI (a4)), (5, yI (a5)), (6, yI (a6))]) rfl ?_
                refine yG.goto rfl (t := 108) rfl ?_
                exact yG.mono (yG.sub (i_108 (a3) (a4) (a5) (a6) (a7 + 1)  h83 A_h83   (by omega) (by omega) (by omega) (by omega) (by omega) (by omega) (by omega) (by omega) (by omega) (by omega) (by omega) (by omega) (by omega) (by omega) (by omega) (by omega) (by omega)) (ySub.cons rfl (ySub.cons rfl (ySub.cons rfl (ySub.cons rfl (ySub.cons rfl (ySub.cons rfl (ySub.cons rfl (ySub.cons rfl (ySub.nil)))))))))) (by omega)
            · have c63 : (a3 : Int) ≠ 0 := c63
              refine yG.load xak rfl (fun _ _ => rfl) (v := yR k0) rfl rfl ?_
              refine yG.load xik rfl (fun _ _ => rfl) (v := yI (p2)) rfl rfl ?_
              refine yG.invV (rest := [yI (z62), yI (a7), yR r59]) A_hq.1 (bOb (d_Shorts W) H_k0) rfl rfl rfl rfl (c_Shorts_sixteenths W (d + 2) A_hq.1 H_k0 (p2) (by omega) (by omega)) (fun rv hp9 q9 => ?_)
              obtain ⟨⟨z85, rfl, l_z85, u_z85, R_z85⟩, e9⟩ := q9
              rw [e9]
              show yG _ _ _ _ _ _ _ _ _ _ (yI z85 :: [yI (z62), yI (a7), yR r59]) _
              refine yG.goto rfl (t := 170) rfl ?_
              refine yG.imul rfl ?_
              obtain ⟨z86, e_z86⟩ : ∃ z : Int, z = z62 * z85 := ⟨_, rfl⟩
              rw [← e_z86]
              have b_z86 : 0 ≤ z86 ∧ z86 ≤ 4784 := e_z86 ▸ ymulb (A := 299) (B := 16) (by omega) (by omega) (by omega) (by omega) (by decide)
              have b2_z86 : z86 ≤ 299 * z85 := e_z86 ▸ bmulx (by omega) (by omega)
              have b3_z86 : z86 ≤ 16 * z62 := e_z86 ▸ bmuly (by omega) (by omega)
              refine yG.iast A_hq.1 (v_Shorts_reach W H_r59) (W.2.1 _ _ H_r59 (by decide) (by decide)) rfl (by omega) (by omega) ⟨by omega, by omega⟩ (by omega) (by omega) (fun h87 T_h87 b_h87 f_h87 y_h87 => ?_)
              have A_h87 := A_hq.put T_h87 b_h87 f_h87 H_r59 (bAll_ok (by decide) _)
              refine yG.load xak rfl (fun _ _ => rfl) (v := yR k0) rfl rfl ?_
              refine yG.getO A_h87.1 (w_Shorts_asked W H_k0) rfl rfl (fun r88 H_r88 O_r88 q_r88 => ?_)
              refine yG.load xik rfl (fun _ _ => rfl) (v := yI (a7)) rfl rfl ?_
              refine yG.aaldO (r := 35) A_h87.1 (v_Big3 W H_r88) rfl rfl rfl (by omega) (by omega) (fun r89 H_r89 q_r89 => ?_)
              obtain ⟨n_r89, N_r89⟩ : ∃ n : Int, n = ((zat G r89 : Nat) : Int) := ⟨_, rfl⟩
              have L_r89 := n_Big W H_r89
              refine yG.numl (c := 0) rfl (fun _ _ => rfl) (by decide) ?_
              refine yG.invV (rest := []) A_h87.1 (bOb (d_Big W) H_r89) rfl rfl rfl rfl (c_Big_put W (d + 1) A_h87.1 H_r89 (0) (by omega) (by omega)) (fun rv h90 q9 => ?_)
              obtain ⟨⟨rfl, R_z91⟩, B_h90⟩ := q9
              have A_h90 := A_h87.tr B_h90 (by decide)
              have qq43 : zsl h90 k0 14 = yR r88 := (B_h90.sl H_k0 (by decide)).trans q_r88
              have qq44 : zsl h90 r88 (a7 : Int).toNat = yR r89 := (B_h90.sl H_r88 (bNo_ok (by decide) _)).trans q_r89
              show yG _ _ _ _ _ _ _ _ _ _ [] _
              refine yG.load xik rfl (fun _ _ => rfl) (v := yI (a6)) rfl rfl ?_
              refine yG.ifz rfl (t := 239) rfl ⟨by omega, by omega⟩ (fun c92 => ?_) (fun c92 => ?_)
              · have c92 : (a6 : Int) = 0 := c92
                refine yG.iinc rfl (a := a7) rfl (L' := [(7, yI (a7 + 1)), (8, yR r58), (0, yR k0), (1, yI (p1)), (2, yI (p2)), (3, yI (a3)), (4, yI (a4)), (5, yI (a5)), (6, yI (a6))]) rfl ?_
                refine yG.goto rfl (t := 108) rfl ?_
                exact yG.mono (yG.sub (i_108 (a3) (a4) (a5) (a6) (a7 + 1)  h90 A_h90   (by omega) (by omega) (by omega) (by omega) (by omega) (by omega) (by omega) (by omega) (by omega) (by omega) (by omega) (by omega) (by omega) (by omega) (by omega) (by omega) (by omega)) (ySub.cons rfl (ySub.cons rfl (ySub.cons rfl (ySub.cons rfl (ySub.cons rfl (ySub.cons rfl (ySub.cons rfl (ySub.cons rfl (ySub.nil)))))))))) (by omega)
              · have c92 : (a6 : Int) ≠ 0 := c92
                refine yG.load xak rfl (fun _ _ => rfl) (v := yR k0) rfl rfl ?_
                refine yG.getO A_h90.1 (w_Shorts_help W H_k0) rfl rfl (fun r93 H_r93 O_r93 q_r93 => ?_)
                refine yG.num (c := 0) rfl (fun _ _ => rfl) (by decide) ?_
                refine yG.aaldO (r := 35) A_h90.1 (v_Big4 W H_r93) rfl rfl rfl (by omega) (by omega) (fun r94 H_r94 q_r94 => ?_)
                obtain ⟨n_r94, N_r94⟩ : ∃ n : Int, n = ((zat G r94 : Nat) : Int) := ⟨_, rfl⟩
                have L_r94 := n_Big W H_r94
                refine yG.load xak rfl (fun _ _ => rfl) (v := yR r58) rfl rfl ?_
                refine yG.load xik rfl (fun _ _ => rfl) (v := yI (a5)) rfl rfl ?_
                refine yG.aaldO (r := 35) A_h90.1 (v_Big17 W H_r58) rfl rfl rfl (by omega) (by omega) (fun r95 H_r95 q_r95 => ?_)
                obtain ⟨n_r95, N_r95⟩ : ∃ n : Int, n = ((zat G r95 : Nat) : Int) := ⟨_, rfl⟩
                have L_r95 := n_Big W H_r95
                refine yG.invV (rest := []) A_h90.1 (bOb (d_Big W) H_r94) rfl rfl rfl rfl (c_Big_copy W (d + 1) A_h90.1 H_r94 H_r95) (fun rv h96 q9 => ?_)
                obtain ⟨⟨rfl, R_z97⟩, B_h96⟩ := q9
                have A_h96 := A_h90.tr B_h96 (by decide)
                have qq45 : zsl h96 k0 14 = yR r88 := (B_h96.sl H_k0 (by decide)).trans qq43
                have qq46 : zsl h96 r88 (a7 : Int).toNat = yR r89 := (B_h96.sl H_r88 (bNo_ok (by decide) _)).trans qq44
                have qq47 : zsl h96 k0 17 = yR r93 := (B_h96.sl H_k0 (by decide)).trans q_r93
                have qq48 : zsl h96 r93 (0 : Int).toNat = yR r94 := (B_h96.sl H_r93 (bNo_ok (by decide) _)).trans q_r94
                show yG _ _ _ _ _ _ _ _ _ _ [] _
                refine yG.load xak rfl (fun _ _ => rfl) (v := yR k0) rfl rfl ?_
                refine yG.getS9 A_h96.1 (w_Shorts_help W H_k0) qq47 rfl rfl ?_
                refine yG.num (c := 0) rfl (fun _ _ => rfl) (by decide) ?_
                refine yG.aaldO (r := 35) A_h96.1 (v_Big4 W H_r93) rfl rfl rfl (by omega) (by omega) (fun r98 H_r98 q_r98 => ?_)
                obtain ⟨n_r98, N_r98⟩ : ∃ n : Int, n = ((zat G r98 : Nat) : Int) := ⟨_, rfl⟩
                have L_r98 := n_Big W H_r98
                have s_r98 : r98 = r94 := by have e9 := q_r98.symm.trans qq48; cases e9; rfl
                rw [s_r98]
                refine yG.load xak rfl (fun _ _ => rfl) (v := yR r58) rfl rfl ?_
                refine yG.load xik rfl (fun _ _ => rfl) (v := yI (a4)) rfl rfl ?_
                refine yG.aaldO (r := 35) A_h96.1 (v_Big17 W H_r58) rfl rfl rfl (by omega) (by omega) (fun r99 H_r99 q_r99 => ?_)
                obtain ⟨n_r99, N_r99⟩ : ∃ n : Int, n = ((zat G r99 : Nat) : Int) := ⟨_, rfl⟩
                have L_r99 := n_Big W H_r99
                refine yG.invV (rest := []) A_h96.1 (bOb (d_Big W) H_r94) rfl rfl rfl rfl (c_Big_less W d A_h96.1 H_r94 H_r99) (fun rv h100 q9 => ?_)
                obtain ⟨⟨rfl, R_z101⟩, B_h100⟩ := q9
                have A_h100 := A_h96.tr B_h100 (by decide)
                have qq49 : zsl h100 k0 14 = yR r88 := (B_h100.sl H_k0 (by decide)).trans qq45
                have qq50 : zsl h100 r88 (a7 : Int).toNat = yR r89 := (B_h100.sl H_r88 (bNo_ok (by decide) _)).trans qq46
                have qq51 : zsl h100 k0 17 = yR r93 := (B_h100.sl H_k0 (by decide)).trans qq47
                have qq52 : zsl h100 r93 (0 : Int).toNat = yR r94 := (B_h100.sl H_r93 (bNo_ok (by decide) _)).trans qq48
                show yG _ _ _ _ _ _ _ _ _ _ [] _
                refine yG.load xak rfl (fun _ _ => rfl) (v := yR k0) rfl rfl ?_
                refine yG.getS9 A_h100.1 (w_Shorts_asked W H_k0) qq49 rfl rfl ?_
                refine yG.load xik rfl (fun _ _ => rfl) (v := yI (a7)) rfl rfl ?_
                refine yG.aaldO (r := 35) A_h100.1 (v_Big3 W H_r88) rfl rfl rfl (by omega) (by omega) (fun r102 H_r102 q_r102 => ?_)
                obtain ⟨n_r102, N_r102⟩ : ∃ n : Int, n = ((zat G r102 : Nat) : Int) := ⟨_, rfl⟩
                have L_r102 := n_Big W H_r102
                have s_r102 : r102 = r89 := by have e9 := q_r102.symm.trans qq50; cases e9; rfl
                rw [s_r102]
                refine yG.load xak rfl (fun _ _ => rfl) (v := yR k0) rfl rfl ?_
                refine yG.getO A_h100.1 (w_Shorts_part W H_k0) rfl rfl (fun r103 H_r103 O_r103 q_r103 => ?_)
                refine yG.load xik rfl (fun _ _ => rfl) (v := yI (a7)) rfl rfl ?_
                refine yG.aaldO (r := 35) A_h100.1 (v_Big3 W H_r103) rfl rfl rfl (by omega) (by omega) (fun r104 H_r104 q_r104 => ?_)
                obtain ⟨n_r104, N_r104⟩ : ∃ n : Int, n = ((zat G r104 : Nat) : Int) := ⟨_, rfl⟩
                have L_r104 := n_Big W H_r104
                refine yG.load xak rfl (fun _ _ => rfl) (v := yR k0) rfl rfl ?_
                refine yG.getS9 A_h100.1 (w_Shorts_help W H_k0) qq51 rfl rfl ?_
                refine yG.num (c := 0) rfl (fun _ _ => rfl) (by decide) ?_
                refine yG.aaldO (r := 35) A_h100.1 (v_Big4 W H_r93) rfl rfl rfl (by omega) (by omega) (fun r105 H_r105 q_r105 => ?_)
                obtain ⟨n_r105, N_r105⟩ : ∃ n : Int, n = ((zat G r105 : Nat) : Int) := ⟨_, rfl⟩
                have L_r105 := n_Big W H_r105
                have s_r105 : r105 = r94 := by have e9 := q_r105.symm.trans qq52; cases e9; rfl
                rw [s_r105]
                refine yG.invV (rest := []) A_h100.1 (bOb (d_Big W) H_r89) rfl rfl rfl rfl (c_Big_product W (d + 1) A_h100.1 H_r89 H_r104 H_r94) (fun rv h106 q9 => ?_)
                obtain ⟨⟨rfl, R_z107⟩, B_h106⟩ := q9
                have A_h106 := A_h100.tr B_h106 (by decide)
                have qq53 : zsl h106 k0 14 = yR r88 := (B_h106.sl H_k0 (by decide)).trans qq49
                have qq54 : zsl h106 r88 (a7 : Int).toNat = yR r89 := (B_h106.sl H_r88 (bNo_ok (by decide) _)).trans qq50
                have qq55 : zsl h106 k0 17 = yR r93 := (B_h106.sl H_k0 (by decide)).trans qq51
                have qq56 : zsl h106 r93 (0 : Int).toNat = yR r94 := (B_h106.sl H_r93 (bNo_ok (by decide) _)).trans qq52
                show yG _ _ _ _ _ _ _ _ _ _ [] _
                refine yG.iinc rfl (a := a7) rfl (L' := [(7, yI (a7 + 1)), (8, yR r58), (0, yR k0), (1, yI (p1)), (2, yI (p2)), (3, yI (a3)), (4, yI (a4)), (5, yI (a5)), (6, yI (a6))]) rfl ?_
                refine yG.goto rfl (t := 108) rfl ?_
                exact yG.mono (yG.sub (i_108 (a3) (a4) (a5) (a6) (a7 + 1)  h106 A_h106   (by omega) (by omega) (by omega) (by omega) (by omega) (by omega) (by omega) (by omega) (by omega) (by omega) (by omega) (by omega) (by omega) (by omega) (by omega) (by omega) (by omega)) (ySub.cons rfl (ySub.cons rfl (ySub.cons rfl (ySub.cons rfl (ySub.cons rfl (ySub.cons rfl (ySub.cons rfl (ySub.cons rfl (ySub.nil)))))))))) (by omega)
  refine yC.of (M := (xt_X9_currents, (9, (0, (10, []))))) rfl rfl (N := 700) (yfuel (by decide)) ?_
  show yG 89 xfts (xcall 89 xfts xpools xms (d + 3)) (xpool xp_RX9) [] xt_X9_currents (yP 0 (fun rv hp' => (rv = none ∧ True) ∧ bAx G [(34359738368, 1), (34359738368, 2), (1208925819614697894182912, 256)] hp hp')) 700 0 [(0, yR k0), (1, yI (p1)), (2, yI (p2))] [] hp
  have i_108 := H 9
  refine yG.load xak rfl (fun _ _ => rfl) (v := yR k0) rfl rfl ?_
  refine yG.getI A_hp.1 (w_Shorts_active W H_k0) rfl rfl (fun z1 e_z1 i_z1 l_z1 u_z1 => ?_)
  refine yG.ifz rfl (t := 22) rfl ⟨by omega, by omega⟩ (fun c2 => ?_) (fun c2 => ?_)
  · have c2 : (z1 : Int) = 0 := c2
    refine yG.num (c := 0) rfl (fun _ _ => rfl) (by decide) ?_
    refine yG.store1 xik (L' := [(3, yI (0)), (0, yR k0), (1, yI (p1)), (2, yI (p2))]) rfl (fun _ _ => rfl) rfl rfl ?_
    refine yG.load xak rfl (fun _ _ => rfl) (v := yR k0) rfl rfl ?_
    refine yG.getO A_hp.1 (w_Shorts_shape W H_k0) rfl rfl (fun r3 H_r3 O_r3 q_r3 => ?_)
    refine yG.getO A_hp.1 (w_Shape_ends W H_r3) rfl rfl (fun r4 H_r4 O_r4 q_r4 => ?_)
    refine yG.load xik rfl (fun _ _ => rfl) (v := yI (p1)) rfl rfl ?_
    refine yG.aaldO (r := 57) A_hp.1 (v_Shape_ends W H_r4) rfl rfl rfl (by omega) (by omega) (fun r5 H_r5 q_r5 => ?_)
    refine yG.load xik rfl (fun _ _ => rfl) (v := yI (p2)) rfl rfl ?_
    refine yG.iald A_hp.1 (v_Shape_endss W H_r5) rfl (by omega) (by omega) (fun z6 e_z6 i_z6 l_z6 u_z6 => ?_)
    refine yG.store1 xik (L' := [(4, yI (z6)), (3, yI (0)), (0, yR k0), (1, yI (p1)), (2, yI (p2))]) rfl (fun _ _ => rfl) rfl rfl ?_
    refine yG.load xik rfl (fun _ _ => rfl) (v := yI (0)) rfl rfl ?_
    refine yG.ifz rfl (t := 46) rfl ⟨by omega, by omega⟩ (fun c7 => ?_) (fun c7 => ?_)
    · have c7 : (0 : Int) = 0 := c7
      refine yG.load xak rfl (fun _ _ => rfl) (v := yR k0) rfl rfl ?_
      refine yG.getS9 A_hp.1 (w_Shorts_shape W H_k0) q_r3 rfl rfl ?_
      refine yG.getS9 A_hp.1 (w_Shape_ends W H_r3) q_r4 rfl rfl ?_
      refine yG.load xik rfl (fun _ _ => rfl) (v := yI (p1)) rfl rfl ?_
      refine yG.aaldO (r := 57) A_hp.1 (v_Shape_ends W H_r4) rfl rfl rfl (by omega) (by omega) (fun r8 H_r8 q_r8 => ?_)
      have s_r8 : r8 = r5 := by have e9 := q_r8.symm.trans q_r5; cases e9; rfl
      rw [s_r8]
      refine yG.num (c := 1) rfl (fun _ _ => rfl) (by decide) ?_
      refine yG.load xik rfl (fun _ _ => rfl) (v := yI (p2)) rfl rfl ?_
      refine yG.isub rfl ?_
      refine yG.iald A_hp.1 (v_Shape_endss W H_r5) rfl (by omega) (by omega) (fun z9 e_z9 i_z9 l_z9 u_z9 => ?_)
      refine yG.store1 xik (L' := [(5, yI (z9)), (4, yI (z6)), (3, yI (0)), (0, yR k0), (1, yI (p1)), (2, yI (p2))]) rfl (fun _ _ => rfl) rfl rfl ?_
      refine yG.load xak rfl (fun _ _ => rfl) (v := yR k0) rfl rfl ?_
      refine yG.getI A_hp.1 (w_Shorts_active W H_k0) rfl rfl (fun z10 e_z10 i_z10 l_z10 u_z10 => ?_)
      refine yG.ifz rfl (t := 102) rfl ⟨by omega, by omega⟩ (fun c11 => ?_) (fun c11 => ?_)
      · have c11 : (z10 : Int) = 0 := c11
        refine yG.num (c := 0) rfl (fun _ _ => rfl) (by decide) ?_
        refine yG.store1 xik (L' := [(6, yI (0)), (5, yI (z9)), (4, yI (z6)), (3, yI (0)), (0, yR k0), (1, yI (p1)), (2, yI (p2))]) rfl (fun _ _ => rfl) rfl rfl ?_
        refine yG.num (c := 0) rfl (fun _ _ => rfl) (by decide) ?_
        refine yG.store1 xik (L' := [(7, yI (0)), (6, yI (0)), (5, yI (z9)), (4, yI (z6)), (3, yI (0)), (0, yR k0), (1, yI (p1)), (2, yI (p2))]) rfl (fun _ _ => rfl) rfl rfl ?_
        exact yG.mono (yG.sub (i_108 (0) (z6) (z9) (0) (0)  hp A_hp   (by omega) (by omega) (by omega) (by omega) (by omega) (by omega) (by omega) (by omega) (by omega) (by omega) (by omega) (by omega) (by omega) (by omega) (by omega) (by omega) (by omega)) (ySub.cons rfl (ySub.cons rfl (ySub.cons rfl (ySub.cons rfl (ySub.cons rfl (ySub.cons rfl (ySub.cons rfl (ySub.cons rfl (ySub.nil)))))))))) (by omega)
      · have c11 : (z10 : Int) ≠ 0 := c11
        exfalso; omega
    · have c7 : (0 : Int) ≠ 0 := c7
      exfalso; omega
  · have c2 : (z1 : Int) ≠ 0 := c2
    refine yG.load xik rfl (fun _ _ => rfl) (v := yI (p1)) rfl rfl ?_
    refine yG.load xak rfl (fun _ _ => rfl) (v := yR k0) rfl rfl ?_
    refine yG.getO A_hp.1 (w_Shorts_net W H_k0) rfl rfl (fun r12 H_r12 O_r12 q_r12 => ?_)
    refine yG.getI A_hp.1 (w_Net_shortLine W H_r12) rfl rfl (fun z13 e_z13 i_z13 l_z13 u_z13 => ?_)
    refine yG.icmp rfl (t := 22) rfl ⟨by omega, by omega⟩ ⟨by omega, by omega⟩ (fun c14 => ?_) (fun c14 => ?_)
    · have c14 : (p1 : Int) ≠ z13 := c14
      refine yG.num (c := 0) rfl (fun _ _ => rfl) (by decide) ?_
      refine yG.store1 xik (L' := [(3, yI (0)), (0, yR k0), (1, yI (p1)), (2, yI (p2))]) rfl (fun _ _ => rfl) rfl rfl ?_
      refine yG.load xak rfl (fun _ _ => rfl) (v := yR k0) rfl rfl ?_
      refine yG.getO A_hp.1 (w_Shorts_shape W H_k0) rfl rfl (fun r15 H_r15 O_r15 q_r15 => ?_)
      refine yG.getO A_hp.1 (w_Shape_ends W H_r15) rfl rfl (fun r16 H_r16 O_r16 q_r16 => ?_)
      refine yG.load xik rfl (fun _ _ => rfl) (v := yI (p1)) rfl rfl ?_
      refine yG.aaldO (r := 57) A_hp.1 (v_Shape_ends W H_r16) rfl rfl rfl (by omega) (by omega) (fun r17 H_r17 q_r17 => ?_)
      refine yG.load xik rfl (fun _ _ => rfl) (v := yI (p2)) rfl rfl ?_
      refine yG.iald A_hp.1 (v_Shape_endss W H_r17) rfl (by omega) (by omega) (fun z18 e_z18 i_z18 l_z18 u_z18 => ?_)
      refine yG.store1 xik (L' := [(4, yI (z18)), (3, yI (0)), (0, yR k0), (1, yI (p1)), (2, yI (p2))]) rfl (fun _ _ => rfl) rfl rfl ?_
      refine yG.load xik rfl (fun _ _ => rfl) (v := yI (0)) rfl rfl ?_
      refine yG.ifz rfl (t := 46) rfl ⟨by omega, by omega⟩ (fun c19 => ?_) (fun c19 => ?_)
      · have c19 : (0 : Int) = 0 := c19
        refine yG.load xak rfl (fun _ _ => rfl) (v := yR k0) rfl rfl ?_
        refine yG.getS9 A_hp.1 (w_Shorts_shape W H_k0) q_r15 rfl rfl ?_
        refine yG.getS9 A_hp.1 (w_Shape_ends W H_r15) q_r16 rfl rfl ?_
        refine yG.load xik rfl (fun _ _ => rfl) (v := yI (p1)) rfl rfl ?_
        refine yG.aaldO (r := 57) A_hp.1 (v_Shape_ends W H_r16) rfl rfl rfl (by omega) (by omega) (fun r20 H_r20 q_r20 => ?_)
        have s_r20 : r20 = r17 := by have e9 := q_r20.symm.trans q_r17; cases e9; rfl
        rw [s_r20]
        refine yG.num (c := 1) rfl (fun _ _ => rfl) (by decide) ?_
        refine yG.load xik rfl (fun _ _ => rfl) (v := yI (p2)) rfl rfl ?_
        refine yG.isub rfl ?_
        refine yG.iald A_hp.1 (v_Shape_endss W H_r17) rfl (by omega) (by omega) (fun z21 e_z21 i_z21 l_z21 u_z21 => ?_)
        refine yG.store1 xik (L' := [(5, yI (z21)), (4, yI (z18)), (3, yI (0)), (0, yR k0), (1, yI (p1)), (2, yI (p2))]) rfl (fun _ _ => rfl) rfl rfl ?_
        refine yG.load xak rfl (fun _ _ => rfl) (v := yR k0) rfl rfl ?_
        refine yG.getI A_hp.1 (w_Shorts_active W H_k0) rfl rfl (fun z22 e_z22 i_z22 l_z22 u_z22 => ?_)
        refine yG.ifz rfl (t := 102) rfl ⟨by omega, by omega⟩ (fun c23 => ?_) (fun c23 => ?_)
        · have c23 : (z22 : Int) = 0 := c23
          exfalso; omega
        · have c23 : (z22 : Int) ≠ 0 := c23
          refine yG.load xak rfl (fun _ _ => rfl) (v := yR k0) rfl rfl ?_
          refine yG.getS9 A_hp.1 (w_Shorts_net W H_k0) q_r12 rfl rfl ?_
          refine yG.num (c := 2) rfl (fun _ _ => rfl) (by decide) ?_
          refine yG.load xik rfl (fun _ _ => rfl) (v := yI (p1)) rfl rfl ?_
          refine yG.num (c := 0) rfl (fun _ _ => rfl) (by decide) ?_
          refine yG.invV (rest := []) A_hp.1 (bOb (d_Net W) H_r12) rfl rfl rfl rfl (c_Net_is_2 W (d + 2) A_hp.1 H_r12 (p1) (0) (by omega) (by omega) (by omega) (by omega)) (fun rv hp9 q9 => ?_)
          obtain ⟨⟨z24, rfl, l_z24, u_z24, R_z24⟩, e9⟩ := q9
          rw [e9]
          show yG _ _ _ _ _ _ _ _ _ _ (yI z24 :: []) _
          refine yG.ifz rfl (t := 102) rfl ⟨by omega, by omega⟩ (fun c25 => ?_) (fun c25 => ?_)
          · have c25 : (z24 : Int) = 0 := c25
            refine yG.num (c := 0) rfl (fun _ _ => rfl) (by decide) ?_
            refine yG.store1 xik (L' := [(6, yI (0)), (5, yI (z21)), (4, yI (z18)), (3, yI (0)), (0, yR k0), (1, yI (p1)), (2, yI (p2))]) rfl (fun _ _ => rfl) rfl rfl ?_
            refine yG.num (c := 0) rfl (fun _ _ => rfl) (by decide) ?_
            refine yG.store1 xik (L' := [(7, yI (0)), (6, yI (0)), (5, yI (z21)), (4, yI (z18)), (3, yI (0)), (0, yR k0), (1, yI (p1)), (2, yI (p2))]) rfl (fun _ _ => rfl) rfl rfl ?_
            exact yG.mono (yG.sub (i_108 (0) (z18) (z21) (0) (0)  hp A_hp   (by omega) (by omega) (by omega) (by omega) (by omega) (by omega) (by omega) (by omega) (by omega) (by omega) (by omega) (by omega) (by omega) (by omega) (by omega) (by omega) (by omega)) (ySub.cons rfl (ySub.cons rfl (ySub.cons rfl (ySub.cons rfl (ySub.cons rfl (ySub.cons rfl (ySub.cons rfl (ySub.cons rfl (ySub.nil)))))))))) (by omega)
          · have c25 : (z24 : Int) ≠ 0 := c25
            refine yG.load xak rfl (fun _ _ => rfl) (v := yR k0) rfl rfl ?_
            refine yG.getS9 A_hp.1 (w_Shorts_shape W H_k0) q_r15 rfl rfl ?_
            refine yG.getO A_hp.1 (w_Shape_island W H_r15) rfl rfl (fun r26 H_r26 O_r26 q_r26 => ?_)
            refine yG.load xik rfl (fun _ _ => rfl) (v := yI (z18)) rfl rfl ?_
            refine yG.ialdF A_hp.1 (v_Shape_island W H_r26) rfl rfl (by omega) (by omega) (fun z27 e_z27 i_z27 l_z27 u_z27 => ?_)
            refine yG.load xak rfl (fun _ _ => rfl) (v := yR k0) rfl rfl ?_
            refine yG.getI A_hp.1 (w_Shorts_island W H_k0) rfl rfl (fun z28 e_z28 i_z28 l_z28 u_z28 => ?_)
            refine yG.icmp rfl (t := 102) rfl ⟨by omega, by omega⟩ ⟨by omega, by omega⟩ (fun c29 => ?_) (fun c29 => ?_)
            · have c29 : (z27 : Int) ≠ z28 := c29
              refine yG.num (c := 0) rfl (fun _ _ => rfl) (by decide) ?_
              refine yG.store1 xik (L' := [(6, yI (0)), (5, yI (z21)), (4, yI (z18)), (3, yI (0)), (0, yR k0), (1, yI (p1)), (2, yI (p2))]) rfl (fun _ _ => rfl) rfl rfl ?_
              refine yG.num (c := 0) rfl (fun _ _ => rfl) (by decide) ?_
              refine yG.store1 xik (L' := [(7, yI (0)), (6, yI (0)), (5, yI (z21)), (4, yI (z18)), (3, yI (0)), (0, yR k0), (1, yI (p1)), (2, yI (p2))]) rfl (fun _ _ => rfl) rfl rfl ?_
              exact yG.mono (yG.sub (i_108 (0) (z18) (z21) (0) (0)  hp A_hp   (by omega) (by omega) (by omega) (by omega) (by omega) (by omega) (by omega) (by omega) (by omega) (by omega) (by omega) (by omega) (by omega) (by omega) (by omega) (by omega) (by omega)) (ySub.cons rfl (ySub.cons rfl (ySub.cons rfl (ySub.cons rfl (ySub.cons rfl (ySub.cons rfl (ySub.cons rfl (ySub.cons rfl (ySub.nil)))))))))) (by omega)
            · have c29 : (z27 : Int) = z28 := c29
              refine yG.num (c := 1) rfl (fun _ _ => rfl) (by decide) ?_
              refine yG.goto rfl (t := 103) rfl ?_
              refine yG.store1 xik (L' := [(6, yI (1)), (5, yI (z21)), (4, yI (z18)), (3, yI (0)), (0, yR k0), (1, yI (p1)), (2, yI (p2))]) rfl (fun _ _ => rfl) rfl rfl ?_
              refine yG.num (c := 0) rfl (fun _ _ => rfl) (by decide) ?_
              refine yG.store1 xik (L' := [(7, yI (0)), (6, yI (1)), (5, yI (z21)), (4, yI (z18)), (3, yI (0)), (0, yR k0), (1, yI (p1)), (2, yI (p2))]) rfl (fun _ _ => rfl) rfl rfl ?_
              exact yG.mono (yG.sub (i_108 (0) (z18) (z21) (1) (0)  hp A_hp   (by omega) (by omega) (by omega) (by omega) (by omega) (by omega) (by omega) (by omega) (by omega) (by omega) (by omega) (by omega) (by omega) (by omega) (by omega) (by omega) (by omega)) (ySub.cons rfl (ySub.cons rfl (ySub.cons rfl (ySub.cons rfl (ySub.cons rfl (ySub.cons rfl (ySub.cons rfl (ySub.cons rfl (ySub.nil)))))))))) (by omega)
      · have c19 : (0 : Int) ≠ 0 := c19
        exfalso; omega
    · have c14 : (p1 : Int) = z13 := c14
      refine yG.num (c := 1) rfl (fun _ _ => rfl) (by decide) ?_
      refine yG.goto rfl (t := 23) rfl ?_
      refine yG.store1 xik (L' := [(3, yI (1)), (0, yR k0), (1, yI (p1)), (2, yI (p2))]) rfl (fun _ _ => rfl) rfl rfl ?_
      refine yG.load xak rfl (fun _ _ => rfl) (v := yR k0) rfl rfl ?_
      refine yG.getO A_hp.1 (w_Shorts_shape W H_k0) rfl rfl (fun r30 H_r30 O_r30 q_r30 => ?_)
      refine yG.getO A_hp.1 (w_Shape_ends W H_r30) rfl rfl (fun r31 H_r31 O_r31 q_r31 => ?_)
      refine yG.load xik rfl (fun _ _ => rfl) (v := yI (p1)) rfl rfl ?_
      refine yG.aaldO (r := 57) A_hp.1 (v_Shape_ends W H_r31) rfl rfl rfl (by omega) (by omega) (fun r32 H_r32 q_r32 => ?_)
      refine yG.load xik rfl (fun _ _ => rfl) (v := yI (p2)) rfl rfl ?_
      refine yG.iald A_hp.1 (v_Shape_endss W H_r32) rfl (by omega) (by omega) (fun z33 e_z33 i_z33 l_z33 u_z33 => ?_)
      refine yG.store1 xik (L' := [(4, yI (z33)), (3, yI (1)), (0, yR k0), (1, yI (p1)), (2, yI (p2))]) rfl (fun _ _ => rfl) rfl rfl ?_
      refine yG.load xik rfl (fun _ _ => rfl) (v := yI (1)) rfl rfl ?_
      refine yG.ifz rfl (t := 46) rfl ⟨by omega, by omega⟩ (fun c34 => ?_) (fun c34 => ?_)
      · have c34 : (1 : Int) = 0 := c34
        exfalso; omega
      · have c34 : (1 : Int) ≠ 0 := c34
        refine yG.num (c := 16) rfl (fun _ _ => rfl) (by decide) ?_
        refine yG.goto rfl (t := 59) rfl ?_
        refine yG.store1 xik (L' := [(5, yI (16)), (4, yI (z33)), (3, yI (1)), (0, yR k0), (1, yI (p1)), (2, yI (p2))]) rfl (fun _ _ => rfl) rfl rfl ?_
        refine yG.load xak rfl (fun _ _ => rfl) (v := yR k0) rfl rfl ?_
        refine yG.getI A_hp.1 (w_Shorts_active W H_k0) rfl rfl (fun z35 e_z35 i_z35 l_z35 u_z35 => ?_)
        refine yG.ifz rfl (t := 102) rfl ⟨by omega, by omega⟩ (fun c36 => ?_) (fun c36 => ?_)
        · have c36 : (z35 : Int) = 0 := c36
          exfalso; omega
        · have c36 : (z35 : Int) ≠ 0 := c36
          refine yG.load xak rfl (fun _ _ => rfl) (v := yR k0) rfl rfl ?_
          refine yG.getS9 A_hp.1 (w_Shorts_net W H_k0) q_r12 rfl rfl ?_
          refine yG.num (c := 2) rfl (fun _ _ => rfl) (by decide) ?_
          refine yG.load xik rfl (fun _ _ => rfl) (v := yI (p1)) rfl rfl ?_
          refine yG.num (c := 0) rfl (fun _ _ => rfl) (by decide) ?_
          refine yG.invV (rest := []) A_hp.1 (bOb (d_Net W) H_r12) rfl rfl rfl rfl (c_Net_is_2 W (d + 2) A_hp.1 H_r12 (p1) (0) (by omega) (by omega) (by omega) (by omega)) (fun rv hp9 q9 => ?_)
          obtain ⟨⟨z37, rfl, l_z37, u_z37, R_z37⟩, e9⟩ := q9
          rw [e9]
          show yG _ _ _ _ _ _ _ _ _ _ (yI z37 :: []) _
          refine yG.ifz rfl (t := 102) rfl ⟨by omega, by omega⟩ (fun c38 => ?_) (fun c38 => ?_)
          · have c38 : (z37 : Int) = 0 := c38
            refine yG.num (c := 0) rfl (fun _ _ => rfl) (by decide) ?_
            refine yG.store1 xik (L' := [(6, yI (0)), (5, yI (16)), (4, yI (z33)), (3, yI (1)), (0, yR k0), (1, yI (p1)), (2, yI (p2))]) rfl (fun _ _ => rfl) rfl rfl ?_
            refine yG.num (c := 0) rfl (fun _ _ => rfl) (by decide) ?_
            refine yG.store1 xik (L' := [(7, yI (0)), (6, yI (0)), (5, yI (16)), (4, yI (z33)), (3, yI (1)), (0, yR k0), (1, yI (p1)), (2, yI (p2))]) rfl (fun _ _ => rfl) rfl rfl ?_
            exact yG.mono (yG.sub (i_108 (1) (z33) (16) (0) (0)  hp A_hp   (by omega) (by omega) (by omega) (by omega) (by omega) (by omega) (by omega) (by omega) (by omega) (by omega) (by omega) (by omega) (by omega) (by omega) (by omega) (by omega) (by omega)) (ySub.cons rfl (ySub.cons rfl (ySub.cons rfl (ySub.cons rfl (ySub.cons rfl (ySub.cons rfl (ySub.cons rfl (ySub.cons rfl (ySub.nil)))))))))) (by omega)
          · have c38 : (z37 : Int) ≠ 0 := c38
            refine yG.load xak rfl (fun _ _ => rfl) (v := yR k0) rfl rfl ?_
            refine yG.getS9 A_hp.1 (w_Shorts_shape W H_k0) q_r30 rfl rfl ?_
            refine yG.getO A_hp.1 (w_Shape_island W H_r30) rfl rfl (fun r39 H_r39 O_r39 q_r39 => ?_)
            refine yG.load xik rfl (fun _ _ => rfl) (v := yI (z33)) rfl rfl ?_
            refine yG.ialdF A_hp.1 (v_Shape_island W H_r39) rfl rfl (by omega) (by omega) (fun z40 e_z40 i_z40 l_z40 u_z40 => ?_)
            refine yG.load xak rfl (fun _ _ => rfl) (v := yR k0) rfl rfl ?_
            refine yG.getI A_hp.1 (w_Shorts_island W H_k0) rfl rfl (fun z41 e_z41 i_z41 l_z41 u_z41 => ?_)
            refine yG.icmp rfl (t := 102) rfl ⟨by omega, by omega⟩ ⟨by omega, by omega⟩ (fun c42 => ?_) (fun c42 => ?_)
            · have c42 : (z40 : Int) ≠ z41 := c42
              refine yG.num (c := 0) rfl (fun _ _ => rfl) (by decide) ?_
              refine yG.store1 xik (L' := [(6, yI (0)), (5, yI (16)), (4, yI (z33)), (3, yI (1)), (0, yR k0), (1, yI (p1)), (2, yI (p2))]) rfl (fun _ _ => rfl) rfl rfl ?_
              refine yG.num (c := 0) rfl (fun _ _ => rfl) (by decide) ?_
              refine yG.store1 xik (L' := [(7, yI (0)), (6, yI (0)), (5, yI (16)), (4, yI (z33)), (3, yI (1)), (0, yR k0), (1, yI (p1)), (2, yI (p2))]) rfl (fun _ _ => rfl) rfl rfl ?_
              exact yG.mono (yG.sub (i_108 (1) (z33) (16) (0) (0)  hp A_hp   (by omega) (by omega) (by omega) (by omega) (by omega) (by omega) (by omega) (by omega) (by omega) (by omega) (by omega) (by omega) (by omega) (by omega) (by omega) (by omega) (by omega)) (ySub.cons rfl (ySub.cons rfl (ySub.cons rfl (ySub.cons rfl (ySub.cons rfl (ySub.cons rfl (ySub.cons rfl (ySub.cons rfl (ySub.nil)))))))))) (by omega)
            · have c42 : (z40 : Int) = z41 := c42
              refine yG.num (c := 1) rfl (fun _ _ => rfl) (by decide) ?_
              refine yG.goto rfl (t := 103) rfl ?_
              refine yG.store1 xik (L' := [(6, yI (1)), (5, yI (16)), (4, yI (z33)), (3, yI (1)), (0, yR k0), (1, yI (p1)), (2, yI (p2))]) rfl (fun _ _ => rfl) rfl rfl ?_
              refine yG.num (c := 0) rfl (fun _ _ => rfl) (by decide) ?_
              refine yG.store1 xik (L' := [(7, yI (0)), (6, yI (1)), (5, yI (16)), (4, yI (z33)), (3, yI (1)), (0, yR k0), (1, yI (p1)), (2, yI (p2))]) rfl (fun _ _ => rfl) rfl rfl ?_
              exact yG.mono (yG.sub (i_108 (1) (z33) (16) (1) (0)  hp A_hp   (by omega) (by omega) (by omega) (by omega) (by omega) (by omega) (by omega) (by omega) (by omega) (by omega) (by omega) (by omega) (by omega) (by omega) (by omega) (by omega) (by omega)) (ySub.cons rfl (ySub.cons rfl (ySub.cons rfl (ySub.cons rfl (ySub.cons rfl (ySub.cons rfl (ySub.cons rfl (ySub.cons rfl (ySub.nil)))))))))) (by omega)
theorem c_Shorts_squares {hp : xH} (W : bW G) (d : Nat) (hT : zTy G hp) {k0 : Nat} (H_k0 : bRo G 75 k0) : yC (xcall 89 xfts xpools xms (d + 4)) 243 [yR k0] hp (fun rv hp' => (rv = none ∧ True) ∧ bAx G [(34359738368, 1), (34359738368, 2), (68719476736, 256)] hp hp') := by
  have A_hp : bAx G [(34359738368, 1), (34359738368, 2), (68719476736, 256)] hp hp := bAx.rf hT
  refine yC.of (M := (xt_X9_squares, (4, (0, (10, []))))) rfl rfl (N := 402) (yfuel (by decide)) ?_
  show yG 89 xfts (xcall 89 xfts xpools xms (d + 3)) (xpool xp_RX9) [] xt_X9_squares (yP 0 (fun rv hp' => (rv = none ∧ True) ∧ bAx G [(34359738368, 1), (34359738368, 2), (68719476736, 256)] hp hp')) 402 0 [(0, yR k0)] [] hp
  refine yG.load xak rfl (fun _ _ => rfl) (v := yR k0) rfl rfl ?_
  refine yG.getO A_hp.1 (w_Shorts_help W H_k0) rfl rfl (fun r1 H_r1 O_r1 q_r1 => ?_)
  refine yG.num (c := 0) rfl (fun _ _ => rfl) (by decide) ?_
  refine yG.aaldO (r := 35) A_hp.1 (v_Big4 W H_r1) rfl rfl rfl (by omega) (by omega) (fun r2 H_r2 q_r2 => ?_)
  obtain ⟨n_r2, N_r2⟩ : ∃ n : Int, n = ((zat G r2 : Nat) : Int) := ⟨_, rfl⟩
  have L_r2 := n_Big W H_r2
  refine yG.store1 xak (L' := [(1, yR r2), (0, yR k0)]) rfl (fun _ _ => rfl) rfl rfl ?_
  refine yG.load xak rfl (fun _ _ => rfl) (v := yR k0) rfl rfl ?_
  refine yG.getS9 A_hp.1 (w_Shorts_help W H_k0) q_r1 rfl rfl ?_
  refine yG.num (c := 1) rfl (fun _ _ => rfl) (by decide) ?_
  refine yG.aaldO (r := 35) A_hp.1 (v_Big4 W H_r1) rfl rfl rfl (by omega) (by omega) (fun r3 H_r3 q_r3 => ?_)
  obtain ⟨n_r3, N_r3⟩ : ∃ n : Int, n = ((zat G r3 : Nat) : Int) := ⟨_, rfl⟩
  have L_r3 := n_Big W H_r3
  refine yG.store1 xak (L' := [(2, yR r3), (1, yR r2), (0, yR k0)]) rfl (fun _ _ => rfl) rfl rfl ?_
  refine yG.load xak rfl (fun _ _ => rfl) (v := yR k0) rfl rfl ?_
  refine yG.getS9 A_hp.1 (w_Shorts_help W H_k0) q_r1 rfl rfl ?_
  refine yG.num (c := 2) rfl (fun _ _ => rfl) (by decide) ?_
  refine yG.aaldO (r := 35) A_hp.1 (v_Big4 W H_r1) rfl rfl rfl (by omega) (by omega) (fun r4 H_r4 q_r4 => ?_)
  obtain ⟨n_r4, N_r4⟩ : ∃ n : Int, n = ((zat G r4 : Nat) : Int) := ⟨_, rfl⟩
  have L_r4 := n_Big W H_r4
  refine yG.store1 xak (L' := [(3, yR r4), (2, yR r3), (1, yR r2), (0, yR k0)]) rfl (fun _ _ => rfl) rfl rfl ?_
  refine yG.load xak rfl (fun _ _ => rfl) (v := yR r2) rfl rfl ?_
  refine yG.load xak rfl (fun _ _ => rfl) (v := yR k0) rfl rfl ?_
  refine yG.getO A_hp.1 (w_Shorts_asked W H_k0) rfl rfl (fun r5 H_r5 O_r5 q_r5 => ?_)
  refine yG.num (c := 1) rfl (fun _ _ => rfl) (by decide) ?_
  refine yG.aaldO (r := 35) A_hp.1 (v_Big3 W H_r5) rfl rfl rfl (by omega) (by omega) (fun r6 H_r6 q_r6 => ?_)
  obtain ⟨n_r6, N_r6⟩ : ∃ n : Int, n = ((zat G r6 : Nat) : Int) := ⟨_, rfl⟩
  have L_r6 := n_Big W H_r6
  refine yG.invV (rest := []) A_hp.1 (bOb (d_Big W) H_r2) rfl rfl rfl rfl (c_Big_copy W (d + 1) A_hp.1 H_r2 H_r6) (fun rv h7 q9 => ?_)
  obtain ⟨⟨rfl, R_z8⟩, B_h7⟩ := q9
  have A_h7 := A_hp.tr B_h7 (by decide)
  have qq1 : zsl h7 k0 17 = yR r1 := (B_h7.sl H_k0 (by decide)).trans q_r1
  have qq2 : zsl h7 k0 14 = yR r5 := (B_h7.sl H_k0 (by decide)).trans q_r5
  have qq3 : zsl h7 r5 (1 : Int).toNat = yR r6 := (B_h7.sl H_r5 (bNo_ok (by decide) _)).trans q_r6
  show yG _ _ _ _ _ _ _ _ _ _ [] _
  refine yG.load xak rfl (fun _ _ => rfl) (v := yR r2) rfl rfl ?_
  refine yG.load xak rfl (fun _ _ => rfl) (v := yR k0) rfl rfl ?_
  refine yG.getS9 A_h7.1 (w_Shorts_asked W H_k0) qq2 rfl rfl ?_
  refine yG.num (c := 2) rfl (fun _ _ => rfl) (by decide) ?_
  refine yG.aaldO (r := 35) A_h7.1 (v_Big3 W H_r5) rfl rfl rfl (by omega) (by omega) (fun r9 H_r9 q_r9 => ?_)
  obtain ⟨n_r9, N_r9⟩ : ∃ n : Int, n = ((zat G r9 : Nat) : Int) := ⟨_, rfl⟩
  have L_r9 := n_Big W H_r9
  refine yG.invV (rest := []) A_h7.1 (bOb (d_Big W) H_r2) rfl rfl rfl rfl (c_Big_more W d A_h7.1 H_r2 H_r9) (fun rv h10 q9 => ?_)
  obtain ⟨⟨rfl, R_z11⟩, B_h10⟩ := q9
  have A_h10 := A_h7.tr B_h10 (by decide)
  have qq4 : zsl h10 k0 17 = yR r1 := (B_h10.sl H_k0 (by decide)).trans qq1
  have qq5 : zsl h10 k0 14 = yR r5 := (B_h10.sl H_k0 (by decide)).trans qq2
  have qq6 : zsl h10 r5 (1 : Int).toNat = yR r6 := (B_h10.sl H_r5 (bNo_ok (by decide) _)).trans qq3
  have qq7 : zsl h10 r5 (2 : Int).toNat = yR r9 := (B_h10.sl H_r5 (bNo_ok (by decide) _)).trans q_r9
  show yG _ _ _ _ _ _ _ _ _ _ [] _
  refine yG.load xak rfl (fun _ _ => rfl) (v := yR r2) rfl rfl ?_
  refine yG.load xak rfl (fun _ _ => rfl) (v := yR k0) rfl rfl ?_
  refine yG.getO A_h10.1 (w_Shorts_reach W H_k0) rfl rfl (fun r12 H_r12 O_r12 q_r12 => ?_)
  refine yG.num (c := 0) rfl (fun _ _ => rfl) (by decide) ?_
  refine yG.iald A_h10.1 (v_Shorts_reach W H_r12) rfl (by omega) (by omega) (fun z13 e_z13 i_z13 l_z13 u_z13 => ?_)
  refine yG.i2l rfl ⟨by omega, by omega⟩ ?_
  refine yG.invV (rest := []) A_h10.1 (bOb (d_Big W) H_r2) rfl rfl rfl rfl (c_Big_scale W (d + 1) A_h10.1 H_r2 (z13) (by omega) (by omega)) (fun rv h14 q9 => ?_)
  obtain ⟨⟨rfl, R_z15⟩, B_h14⟩ := q9
  have A_h14 := A_h10.tr B_h14 (by decide)
  have qq8 : zsl h14 k0 17 = yR r1 := (B_h14.sl H_k0 (by decide)).trans qq4
  have qq9 : zsl h14 k0 14 = yR r5 := (B_h14.sl H_k0 (by decide)).trans qq5
  have qq10 : zsl h14 r5 (1 : Int).toNat = yR r6 := (B_h14.sl H_r5 (bNo_ok (by decide) _)).trans qq6
  have qq11 : zsl h14 r5 (2 : Int).toNat = yR r9 := (B_h14.sl H_r5 (bNo_ok (by decide) _)).trans qq7
  have qq12 : zsl h14 k0 15 = yR r12 := (B_h14.sl H_k0 (by decide)).trans q_r12
  have : ys h14 r12 (0 : Int).toNat = ys h10 r12 (0 : Int).toNat := B_h14.ys H_r12 (bNo_ok (by decide) _)
  show yG _ _ _ _ _ _ _ _ _ _ [] _
  refine yG.load xak rfl (fun _ _ => rfl) (v := yR r4) rfl rfl ?_
  refine yG.load xak rfl (fun _ _ => rfl) (v := yR k0) rfl rfl ?_
  refine yG.getS9 A_h14.1 (w_Shorts_asked W H_k0) qq9 rfl rfl ?_
  refine yG.num (c := 1) rfl (fun _ _ => rfl) (by decide) ?_
  refine yG.aaldO (r := 35) A_h14.1 (v_Big3 W H_r5) rfl rfl rfl (by omega) (by omega) (fun r16 H_r16 q_r16 => ?_)
  obtain ⟨n_r16, N_r16⟩ : ∃ n : Int, n = ((zat G r16 : Nat) : Int) := ⟨_, rfl⟩
  have L_r16 := n_Big W H_r16
  have s_r16 : r16 = r6 := by have e9 := q_r16.symm.trans qq10; cases e9; rfl
  rw [s_r16]
  refine yG.invV (rest := []) A_h14.1 (bOb (d_Big W) H_r4) rfl rfl rfl rfl (c_Big_copy W (d + 1) A_h14.1 H_r4 H_r6) (fun rv h17 q9 => ?_)
  obtain ⟨⟨rfl, R_z18⟩, B_h17⟩ := q9
  have A_h17 := A_h14.tr B_h17 (by decide)
  have qq13 : zsl h17 k0 17 = yR r1 := (B_h17.sl H_k0 (by decide)).trans qq8
  have qq14 : zsl h17 k0 14 = yR r5 := (B_h17.sl H_k0 (by decide)).trans qq9
  have qq15 : zsl h17 r5 (1 : Int).toNat = yR r6 := (B_h17.sl H_r5 (bNo_ok (by decide) _)).trans qq10
  have qq16 : zsl h17 r5 (2 : Int).toNat = yR r9 := (B_h17.sl H_r5 (bNo_ok (by decide) _)).trans qq11
  have qq17 : zsl h17 k0 15 = yR r12 := (B_h17.sl H_k0 (by decide)).trans qq12
  have : ys h17 r12 (0 : Int).toNat = ys h14 r12 (0 : Int).toNat := B_h17.ys H_r12 (bNo_ok (by decide) _)
  show yG _ _ _ _ _ _ _ _ _ _ [] _
  refine yG.load xak rfl (fun _ _ => rfl) (v := yR r4) rfl rfl ?_
  refine yG.load xak rfl (fun _ _ => rfl) (v := yR k0) rfl rfl ?_
  refine yG.getS9 A_h17.1 (w_Shorts_asked W H_k0) qq14 rfl rfl ?_
  refine yG.num (c := 2) rfl (fun _ _ => rfl) (by decide) ?_
  refine yG.aaldO (r := 35) A_h17.1 (v_Big3 W H_r5) rfl rfl rfl (by omega) (by omega) (fun r19 H_r19 q_r19 => ?_)
  obtain ⟨n_r19, N_r19⟩ : ∃ n : Int, n = ((zat G r19 : Nat) : Int) := ⟨_, rfl⟩
  have L_r19 := n_Big W H_r19
  have s_r19 : r19 = r9 := by have e9 := q_r19.symm.trans qq16; cases e9; rfl
  rw [s_r19]
  refine yG.invV (rest := []) A_h17.1 (bOb (d_Big W) H_r4) rfl rfl rfl rfl (c_Big_less W d A_h17.1 H_r4 H_r9) (fun rv h20 q9 => ?_)
  obtain ⟨⟨rfl, R_z21⟩, B_h20⟩ := q9
  have A_h20 := A_h17.tr B_h20 (by decide)
  have qq18 : zsl h20 k0 17 = yR r1 := (B_h20.sl H_k0 (by decide)).trans qq13
  have qq19 : zsl h20 k0 14 = yR r5 := (B_h20.sl H_k0 (by decide)).trans qq14
  have qq20 : zsl h20 r5 (1 : Int).toNat = yR r6 := (B_h20.sl H_r5 (bNo_ok (by decide) _)).trans qq15
  have qq21 : zsl h20 r5 (2 : Int).toNat = yR r9 := (B_h20.sl H_r5 (bNo_ok (by decide) _)).trans qq16
  have qq22 : zsl h20 k0 15 = yR r12 := (B_h20.sl H_k0 (by decide)).trans qq17
  have : ys h20 r12 (0 : Int).toNat = ys h17 r12 (0 : Int).toNat := B_h20.ys H_r12 (bNo_ok (by decide) _)
  show yG _ _ _ _ _ _ _ _ _ _ [] _
  refine yG.load xak rfl (fun _ _ => rfl) (v := yR r4) rfl rfl ?_
  refine yG.load xak rfl (fun _ _ => rfl) (v := yR k0) rfl rfl ?_
  refine yG.getS9 A_h20.1 (w_Shorts_reach W H_k0) qq22 rfl rfl ?_
  refine yG.num (c := 0) rfl (fun _ _ => rfl) (by decide) ?_
  refine yG.iald A_h20.1 (v_Shorts_reach W H_r12) rfl (by omega) (by omega) (fun z22 e_z22 i_z22 l_z22 u_z22 => ?_)
  refine yG.i2l rfl ⟨by omega, by omega⟩ ?_
  refine yG.invV (rest := []) A_h20.1 (bOb (d_Big W) H_r4) rfl rfl rfl rfl (c_Big_scale W (d + 1) A_h20.1 H_r4 (z22) (by omega) (by omega)) (fun rv h23 q9 => ?_)
  obtain ⟨⟨rfl, R_z24⟩, B_h23⟩ := q9
  have A_h23 := A_h20.tr B_h23 (by decide)
  have qq23 : zsl h23 k0 17 = yR r1 := (B_h23.sl H_k0 (by decide)).trans qq18
  have qq24 : zsl h23 k0 14 = yR r5 := (B_h23.sl H_k0 (by decide)).trans qq19
  have qq25 : zsl h23 r5 (1 : Int).toNat = yR r6 := (B_h23.sl H_r5 (bNo_ok (by decide) _)).trans qq20
  have qq26 : zsl h23 r5 (2 : Int).toNat = yR r9 := (B_h23.sl H_r5 (bNo_ok (by decide) _)).trans qq21
  have qq27 : zsl h23 k0 15 = yR r12 := (B_h23.sl H_k0 (by decide)).trans qq22
  have : ys h23 r12 (0 : Int).toNat = ys h20 r12 (0 : Int).toNat := B_h23.ys H_r12 (bNo_ok (by decide) _)
  show yG _ _ _ _ _ _ _ _ _ _ [] _
  refine yG.load xak rfl (fun _ _ => rfl) (v := yR r3) rfl rfl ?_
  refine yG.load xak rfl (fun _ _ => rfl) (v := yR k0) rfl rfl ?_
  refine yG.getS9 A_h23.1 (w_Shorts_asked W H_k0) qq24 rfl rfl ?_
  refine yG.num (c := 0) rfl (fun _ _ => rfl) (by decide) ?_
  refine yG.aaldO (r := 35) A_h23.1 (v_Big3 W H_r5) rfl rfl rfl (by omega) (by omega) (fun r25 H_r25 q_r25 => ?_)
  obtain ⟨n_r25, N_r25⟩ : ∃ n : Int, n = ((zat G r25 : Nat) : Int) := ⟨_, rfl⟩
  have L_r25 := n_Big W H_r25
  refine yG.invV (rest := []) A_h23.1 (bOb (d_Big W) H_r3) rfl rfl rfl rfl (c_Big_copy W (d + 1) A_h23.1 H_r3 H_r25) (fun rv h26 q9 => ?_)
  obtain ⟨⟨rfl, R_z27⟩, B_h26⟩ := q9
  have A_h26 := A_h23.tr B_h26 (by decide)
  have qq28 : zsl h26 k0 17 = yR r1 := (B_h26.sl H_k0 (by decide)).trans qq23
  have qq29 : zsl h26 k0 14 = yR r5 := (B_h26.sl H_k0 (by decide)).trans qq24
  have qq30 : zsl h26 r5 (1 : Int).toNat = yR r6 := (B_h26.sl H_r5 (bNo_ok (by decide) _)).trans qq25
  have qq31 : zsl h26 r5 (2 : Int).toNat = yR r9 := (B_h26.sl H_r5 (bNo_ok (by decide) _)).trans qq26
  have qq32 : zsl h26 k0 15 = yR r12 := (B_h26.sl H_k0 (by decide)).trans qq27
  have : ys h26 r12 (0 : Int).toNat = ys h23 r12 (0 : Int).toNat := B_h26.ys H_r12 (bNo_ok (by decide) _)
  show yG _ _ _ _ _ _ _ _ _ _ [] _
  refine yG.load xak rfl (fun _ _ => rfl) (v := yR r3) rfl rfl ?_
  refine yG.numl (c := 2) rfl (fun _ _ => rfl) (by decide) ?_
  refine yG.load xak rfl (fun _ _ => rfl) (v := yR k0) rfl rfl ?_
  refine yG.getS9 A_h26.1 (w_Shorts_reach W H_k0) qq32 rfl rfl ?_
  refine yG.num (c := 1) rfl (fun _ _ => rfl) (by decide) ?_
  refine yG.iald A_h26.1 (v_Shorts_reach W H_r12) rfl (by omega) (by omega) (fun z28 e_z28 i_z28 l_z28 u_z28 => ?_)
  refine yG.i2l rfl ⟨by omega, by omega⟩ ?_
  refine yG.lmul rfl ?_
  refine yG.invV (rest := []) A_h26.1 (bOb (d_Big W) H_r3) rfl rfl rfl rfl (c_Big_scale W (d + 1) A_h26.1 H_r3 (2 * z28) (by omega) (by omega)) (fun rv h29 q9 => ?_)
  obtain ⟨⟨rfl, R_z30⟩, B_h29⟩ := q9
  have A_h29 := A_h26.tr B_h29 (by decide)
  have qq33 : zsl h29 k0 17 = yR r1 := (B_h29.sl H_k0 (by decide)).trans qq28
  have qq34 : zsl h29 k0 14 = yR r5 := (B_h29.sl H_k0 (by decide)).trans qq29
  have qq35 : zsl h29 r5 (1 : Int).toNat = yR r6 := (B_h29.sl H_r5 (bNo_ok (by decide) _)).trans qq30
  have qq36 : zsl h29 r5 (2 : Int).toNat = yR r9 := (B_h29.sl H_r5 (bNo_ok (by decide) _)).trans qq31
  have qq37 : zsl h29 k0 15 = yR r12 := (B_h29.sl H_k0 (by decide)).trans qq32
  have : ys h29 r12 (0 : Int).toNat = ys h26 r12 (0 : Int).toNat := B_h29.ys H_r12 (bNo_ok (by decide) _)
  show yG _ _ _ _ _ _ _ _ _ _ [] _
  refine yG.load xak rfl (fun _ _ => rfl) (v := yR k0) rfl rfl ?_
  refine yG.getS9 A_h29.1 (w_Shorts_help W H_k0) qq33 rfl rfl ?_
  refine yG.num (c := 3) rfl (fun _ _ => rfl) (by decide) ?_
  refine yG.aaldO (r := 35) A_h29.1 (v_Big4 W H_r1) rfl rfl rfl (by omega) (by omega) (fun r31 H_r31 q_r31 => ?_)
  obtain ⟨n_r31, N_r31⟩ : ∃ n : Int, n = ((zat G r31 : Nat) : Int) := ⟨_, rfl⟩
  have L_r31 := n_Big W H_r31
  refine yG.load xak rfl (fun _ _ => rfl) (v := yR r2) rfl rfl ?_
  refine yG.invV (rest := []) A_h29.1 (bOb (d_Big W) H_r31) rfl rfl rfl rfl (c_Big_copy W (d + 1) A_h29.1 H_r31 H_r2) (fun rv h32 q9 => ?_)
  obtain ⟨⟨rfl, R_z33⟩, B_h32⟩ := q9
  have A_h32 := A_h29.tr B_h32 (by decide)
  have qq38 : zsl h32 k0 17 = yR r1 := (B_h32.sl H_k0 (by decide)).trans qq33
  have qq39 : zsl h32 k0 14 = yR r5 := (B_h32.sl H_k0 (by decide)).trans qq34
  have qq40 : zsl h32 r5 (1 : Int).toNat = yR r6 := (B_h32.sl H_r5 (bNo_ok (by decide) _)).trans qq35
  have qq41 : zsl h32 r5 (2 : Int).toNat = yR r9 := (B_h32.sl H_r5 (bNo_ok (by decide) _)).trans qq36
  have qq42 : zsl h32 k0 15 = yR r12 := (B_h32.sl H_k0 (by decide)).trans qq37
  have : ys h32 r12 (0 : Int).toNat = ys h29 r12 (0 : Int).toNat := B_h32.ys H_r12 (bNo_ok (by decide) _)
  have qq43 : zsl h32 r1 (3 : Int).toNat = yR r31 := (B_h32.sl H_r1 (bNo_ok (by decide) _)).trans q_r31
  show yG _ _ _ _ _ _ _ _ _ _ [] _
  refine yG.load xak rfl (fun _ _ => rfl) (v := yR k0) rfl rfl ?_
  refine yG.getS9 A_h32.1 (w_Shorts_help W H_k0) qq38 rfl rfl ?_
  refine yG.num (c := 3) rfl (fun _ _ => rfl) (by decide) ?_
  refine yG.aaldO (r := 35) A_h32.1 (v_Big4 W H_r1) rfl rfl rfl (by omega) (by omega) (fun r34 H_r34 q_r34 => ?_)
  obtain ⟨n_r34, N_r34⟩ : ∃ n : Int, n = ((zat G r34 : Nat) : Int) := ⟨_, rfl⟩
  have L_r34 := n_Big W H_r34
  have s_r34 : r34 = r31 := by have e9 := q_r34.symm.trans qq43; cases e9; rfl
  rw [s_r34]
  refine yG.numl (c := 2) rfl (fun _ _ => rfl) (by decide) ?_
  refine yG.invV (rest := []) A_h32.1 (bOb (d_Big W) H_r31) rfl rfl rfl rfl (c_Big_scale W (d + 1) A_h32.1 H_r31 (2) (by omega) (by omega)) (fun rv h35 q9 => ?_)
  obtain ⟨⟨rfl, R_z36⟩, B_h35⟩ := q9
  have A_h35 := A_h32.tr B_h35 (by decide)
  have qq44 : zsl h35 k0 17 = yR r1 := (B_h35.sl H_k0 (by decide)).trans qq38
  have qq45 : zsl h35 k0 14 = yR r5 := (B_h35.sl H_k0 (by decide)).trans qq39
  have qq46 : zsl h35 r5 (1 : Int).toNat = yR r6 := (B_h35.sl H_r5 (bNo_ok (by decide) _)).trans qq40
  have qq47 : zsl h35 r5 (2 : Int).toNat = yR r9 := (B_h35.sl H_r5 (bNo_ok (by decide) _)).trans qq41
  have qq48 : zsl h35 k0 15 = yR r12 := (B_h35.sl H_k0 (by decide)).trans qq42
  have : ys h35 r12 (0 : Int).toNat = ys h32 r12 (0 : Int).toNat := B_h35.ys H_r12 (bNo_ok (by decide) _)
  have qq49 : zsl h35 r1 (3 : Int).toNat = yR r31 := (B_h35.sl H_r1 (bNo_ok (by decide) _)).trans qq43
  show yG _ _ _ _ _ _ _ _ _ _ [] _
  refine yG.load xak rfl (fun _ _ => rfl) (v := yR k0) rfl rfl ?_
  refine yG.getS9 A_h35.1 (w_Shorts_help W H_k0) qq44 rfl rfl ?_
  refine yG.num (c := 3) rfl (fun _ _ => rfl) (by decide) ?_
  refine yG.aaldO (r := 35) A_h35.1 (v_Big4 W H_r1) rfl rfl rfl (by omega) (by omega) (fun r37 H_r37 q_r37 => ?_)
  obtain ⟨n_r37, N_r37⟩ : ∃ n : Int, n = ((zat G r37 : Nat) : Int) := ⟨_, rfl⟩
  have L_r37 := n_Big W H_r37
  have s_r37 : r37 = r31 := by have e9 := q_r37.symm.trans qq49; cases e9; rfl
  rw [s_r37]
  refine yG.load xak rfl (fun _ _ => rfl) (v := yR r3) rfl rfl ?_
  refine yG.invV (rest := []) A_h35.1 (bOb (d_Big W) H_r31) rfl rfl rfl rfl (c_Big_more W d A_h35.1 H_r31 H_r3) (fun rv h38 q9 => ?_)
  obtain ⟨⟨rfl, R_z39⟩, B_h38⟩ := q9
  have A_h38 := A_h35.tr B_h38 (by decide)
  have qq50 : zsl h38 k0 17 = yR r1 := (B_h38.sl H_k0 (by decide)).trans qq44
  have qq51 : zsl h38 k0 14 = yR r5 := (B_h38.sl H_k0 (by decide)).trans qq45
  have qq52 : zsl h38 r5 (1 : Int).toNat = yR r6 := (B_h38.sl H_r5 (bNo_ok (by decide) _)).trans qq46
  have qq53 : zsl h38 r5 (2 : Int).toNat = yR r9 := (B_h38.sl H_r5 (bNo_ok (by decide) _)).trans qq47
  have qq54 : zsl h38 k0 15 = yR r12 := (B_h38.sl H_k0 (by decide)).trans qq48
  have : ys h38 r12 (0 : Int).toNat = ys h35 r12 (0 : Int).toNat := B_h38.ys H_r12 (bNo_ok (by decide) _)
  have qq55 : zsl h38 r1 (3 : Int).toNat = yR r31 := (B_h38.sl H_r1 (bNo_ok (by decide) _)).trans qq49
  show yG _ _ _ _ _ _ _ _ _ _ [] _
  refine yG.load xak rfl (fun _ _ => rfl) (v := yR k0) rfl rfl ?_
  refine yG.getO A_h38.1 (w_Shorts_square W H_k0) rfl rfl (fun r40 H_r40 O_r40 q_r40 => ?_)
  refine yG.num (c := 0) rfl (fun _ _ => rfl) (by decide) ?_
  refine yG.aaldO (r := 35) A_h38.1 (v_Big2 W H_r40) rfl rfl rfl (by omega) (by omega) (fun r41 H_r41 q_r41 => ?_)
  obtain ⟨n_r41, N_r41⟩ : ∃ n : Int, n = ((zat G r41 : Nat) : Int) := ⟨_, rfl⟩
  have L_r41 := n_Big W H_r41
  refine yG.load xak rfl (fun _ _ => rfl) (v := yR k0) rfl rfl ?_
  refine yG.getS9 A_h38.1 (w_Shorts_help W H_k0) qq50 rfl rfl ?_
  refine yG.num (c := 3) rfl (fun _ _ => rfl) (by decide) ?_
  refine yG.aaldO (r := 35) A_h38.1 (v_Big4 W H_r1) rfl rfl rfl (by omega) (by omega) (fun r42 H_r42 q_r42 => ?_)
  obtain ⟨n_r42, N_r42⟩ : ∃ n : Int, n = ((zat G r42 : Nat) : Int) := ⟨_, rfl⟩
  have L_r42 := n_Big W H_r42
  have s_r42 : r42 = r31 := by have e9 := q_r42.symm.trans qq55; cases e9; rfl
  rw [s_r42]
  refine yG.load xak rfl (fun _ _ => rfl) (v := yR k0) rfl rfl ?_
  refine yG.getS9 A_h38.1 (w_Shorts_help W H_k0) qq50 rfl rfl ?_
  refine yG.num (c := 3) rfl (fun _ _ => rfl) (by decide) ?_
  refine yG.aaldO (r := 35) A_h38.1 (v_Big4 W H_r1) rfl rfl rfl (by omega) (by omega) (fun r43 H_r43 q_r43 => ?_)
  obtain ⟨n_r43, N_r43⟩ : ∃ n : Int, n = ((zat G r43 : Nat) : Int) := ⟨_, rfl⟩
  have L_r43 := n_Big W H_r43
  have s_r43 : r43 = r31 := by have e9 := q_r43.symm.trans qq55; cases e9; rfl
  rw [s_r43]
  refine yG.invV (rest := []) A_h38.1 (bOb (d_Big W) H_r41) rfl rfl rfl rfl (c_Big_product W (d + 1) A_h38.1 H_r41 H_r31 H_r31) (fun rv h44 q9 => ?_)
  obtain ⟨⟨rfl, R_z45⟩, B_h44⟩ := q9
  have A_h44 := A_h38.tr B_h44 (by decide)
  have qq56 : zsl h44 k0 17 = yR r1 := (B_h44.sl H_k0 (by decide)).trans qq50
  have qq57 : zsl h44 k0 14 = yR r5 := (B_h44.sl H_k0 (by decide)).trans qq51
  have qq58 : zsl h44 r5 (1 : Int).toNat = yR r6 := (B_h44.sl H_r5 (bNo_ok (by decide) _)).trans qq52
  have qq59 : zsl h44 r5 (2 : Int).toNat = yR r9 := (B_h44.sl H_r5 (bNo_ok (by decide) _)).trans qq53
  have qq60 : zsl h44 k0 15 = yR r12 := (B_h44.sl H_k0 (by decide)).trans qq54
  have : ys h44 r12 (0 : Int).toNat = ys h38 r12 (0 : Int).toNat := B_h44.ys H_r12 (bNo_ok (by decide) _)
  have qq61 : zsl h44 r1 (3 : Int).toNat = yR r31 := (B_h44.sl H_r1 (bNo_ok (by decide) _)).trans qq55
  have qq62 : zsl h44 k0 16 = yR r40 := (B_h44.sl H_k0 (by decide)).trans q_r40
  show yG _ _ _ _ _ _ _ _ _ _ [] _
  refine yG.load xak rfl (fun _ _ => rfl) (v := yR r3) rfl rfl ?_
  refine yG.load xak rfl (fun _ _ => rfl) (v := yR r2) rfl rfl ?_
  refine yG.invV (rest := []) A_h44.1 (bOb (d_Big W) H_r3) rfl rfl rfl rfl (c_Big_less W d A_h44.1 H_r3 H_r2) (fun rv h46 q9 => ?_)
  obtain ⟨⟨rfl, R_z47⟩, B_h46⟩ := q9
  have A_h46 := A_h44.tr B_h46 (by decide)
  have qq63 : zsl h46 k0 17 = yR r1 := (B_h46.sl H_k0 (by decide)).trans qq56
  have qq64 : zsl h46 k0 14 = yR r5 := (B_h46.sl H_k0 (by decide)).trans qq57
  have qq65 : zsl h46 r5 (1 : Int).toNat = yR r6 := (B_h46.sl H_r5 (bNo_ok (by decide) _)).trans qq58
  have qq66 : zsl h46 r5 (2 : Int).toNat = yR r9 := (B_h46.sl H_r5 (bNo_ok (by decide) _)).trans qq59
  have qq67 : zsl h46 k0 15 = yR r12 := (B_h46.sl H_k0 (by decide)).trans qq60
  have : ys h46 r12 (0 : Int).toNat = ys h44 r12 (0 : Int).toNat := B_h46.ys H_r12 (bNo_ok (by decide) _)
  have qq68 : zsl h46 r1 (3 : Int).toNat = yR r31 := (B_h46.sl H_r1 (bNo_ok (by decide) _)).trans qq61
  have qq69 : zsl h46 k0 16 = yR r40 := (B_h46.sl H_k0 (by decide)).trans qq62
  show yG _ _ _ _ _ _ _ _ _ _ [] _
  refine yG.load xak rfl (fun _ _ => rfl) (v := yR k0) rfl rfl ?_
  refine yG.getS9 A_h46.1 (w_Shorts_square W H_k0) qq69 rfl rfl ?_
  refine yG.num (c := 1) rfl (fun _ _ => rfl) (by decide) ?_
  refine yG.aaldO (r := 35) A_h46.1 (v_Big2 W H_r40) rfl rfl rfl (by omega) (by omega) (fun r48 H_r48 q_r48 => ?_)
  obtain ⟨n_r48, N_r48⟩ : ∃ n : Int, n = ((zat G r48 : Nat) : Int) := ⟨_, rfl⟩
  have L_r48 := n_Big W H_r48
  refine yG.load xak rfl (fun _ _ => rfl) (v := yR r3) rfl rfl ?_
  refine yG.load xak rfl (fun _ _ => rfl) (v := yR r3) rfl rfl ?_
  refine yG.invV (rest := []) A_h46.1 (bOb (d_Big W) H_r48) rfl rfl rfl rfl (c_Big_product W (d + 1) A_h46.1 H_r48 H_r3 H_r3) (fun rv h49 q9 => ?_)
  obtain ⟨⟨rfl, R_z50⟩, B_h49⟩ := q9
  have A_h49 := A_h46.tr B_h49 (by decide)
  have qq70 : zsl h49 k0 17 = yR r1 := (B_h49.sl H_k0 (by decide)).trans qq63
  have qq71 : zsl h49 k0 14 = yR r5 := (B_h49.sl H_k0 (by decide)).trans qq64
  have qq72 : zsl h49 r5 (1 : Int).toNat = yR r6 := (B_h49.sl H_r5 (bNo_ok (by decide) _)).trans qq65
  have qq73 : zsl h49 r5 (2 : Int).toNat = yR r9 := (B_h49.sl H_r5 (bNo_ok (by decide) _)).trans qq66
  have qq74 : zsl h49 k0 15 = yR r12 := (B_h49.sl H_k0 (by decide)).trans qq67
  have : ys h49 r12 (0 : Int).toNat = ys h46 r12 (0 : Int).toNat := B_h49.ys H_r12 (bNo_ok (by decide) _)
  have qq75 : zsl h49 r1 (3 : Int).toNat = yR r31 := (B_h49.sl H_r1 (bNo_ok (by decide) _)).trans qq68
  have qq76 : zsl h49 k0 16 = yR r40 := (B_h49.sl H_k0 (by decide)).trans qq69
  have qq77 : zsl h49 r40 (1 : Int).toNat = yR r48 := (B_h49.sl H_r40 (bNo_ok (by decide) _)).trans q_r48
  show yG _ _ _ _ _ _ _ _ _ _ [] _
  refine yG.load xak rfl (fun _ _ => rfl) (v := yR k0) rfl rfl ?_
  refine yG.getS9 A_h49.1 (w_Shorts_help W H_k0) qq70 rfl rfl ?_
  refine yG.num (c := 3) rfl (fun _ _ => rfl) (by decide) ?_
  refine yG.aaldO (r := 35) A_h49.1 (v_Big4 W H_r1) rfl rfl rfl (by omega) (by omega) (fun r51 H_r51 q_r51 => ?_)
  obtain ⟨n_r51, N_r51⟩ : ∃ n : Int, n = ((zat G r51 : Nat) : Int) := ⟨_, rfl⟩
  have L_r51 := n_Big W H_r51
  have s_r51 : r51 = r31 := by have e9 := q_r51.symm.trans qq75; cases e9; rfl
  rw [s_r51]
  refine yG.load xak rfl (fun _ _ => rfl) (v := yR r4) rfl rfl ?_
  refine yG.load xak rfl (fun _ _ => rfl) (v := yR r4) rfl rfl ?_
  refine yG.invV (rest := []) A_h49.1 (bOb (d_Big W) H_r31) rfl rfl rfl rfl (c_Big_product W (d + 1) A_h49.1 H_r31 H_r4 H_r4) (fun rv h52 q9 => ?_)
  obtain ⟨⟨rfl, R_z53⟩, B_h52⟩ := q9
  have A_h52 := A_h49.tr B_h52 (by decide)
  have qq78 : zsl h52 k0 17 = yR r1 := (B_h52.sl H_k0 (by decide)).trans qq70
  have qq79 : zsl h52 k0 14 = yR r5 := (B_h52.sl H_k0 (by decide)).trans qq71
  have qq80 : zsl h52 r5 (1 : Int).toNat = yR r6 := (B_h52.sl H_r5 (bNo_ok (by decide) _)).trans qq72
  have qq81 : zsl h52 r5 (2 : Int).toNat = yR r9 := (B_h52.sl H_r5 (bNo_ok (by decide) _)).trans qq73
  have qq82 : zsl h52 k0 15 = yR r12 := (B_h52.sl H_k0 (by decide)).trans qq74
  have : ys h52 r12 (0 : Int).toNat = ys h49 r12 (0 : Int).toNat := B_h52.ys H_r12 (bNo_ok (by decide) _)
  have qq83 : zsl h52 r1 (3 : Int).toNat = yR r31 := (B_h52.sl H_r1 (bNo_ok (by decide) _)).trans qq75
  have qq84 : zsl h52 k0 16 = yR r40 := (B_h52.sl H_k0 (by decide)).trans qq76
  have qq85 : zsl h52 r40 (1 : Int).toNat = yR r48 := (B_h52.sl H_r40 (bNo_ok (by decide) _)).trans qq77
  show yG _ _ _ _ _ _ _ _ _ _ [] _
  refine yG.load xak rfl (fun _ _ => rfl) (v := yR k0) rfl rfl ?_
  refine yG.getS9 A_h52.1 (w_Shorts_help W H_k0) qq78 rfl rfl ?_
  refine yG.num (c := 3) rfl (fun _ _ => rfl) (by decide) ?_
  refine yG.aaldO (r := 35) A_h52.1 (v_Big4 W H_r1) rfl rfl rfl (by omega) (by omega) (fun r54 H_r54 q_r54 => ?_)
  obtain ⟨n_r54, N_r54⟩ : ∃ n : Int, n = ((zat G r54 : Nat) : Int) := ⟨_, rfl⟩
  have L_r54 := n_Big W H_r54
  have s_r54 : r54 = r31 := by have e9 := q_r54.symm.trans qq83; cases e9; rfl
  rw [s_r54]
  refine yG.numl (c := 3) rfl (fun _ _ => rfl) (by decide) ?_
  refine yG.invV (rest := []) A_h52.1 (bOb (d_Big W) H_r31) rfl rfl rfl rfl (c_Big_scale W (d + 1) A_h52.1 H_r31 (3) (by omega) (by omega)) (fun rv h55 q9 => ?_)
  obtain ⟨⟨rfl, R_z56⟩, B_h55⟩ := q9
  have A_h55 := A_h52.tr B_h55 (by decide)
  have qq86 : zsl h55 k0 17 = yR r1 := (B_h55.sl H_k0 (by decide)).trans qq78
  have qq87 : zsl h55 k0 14 = yR r5 := (B_h55.sl H_k0 (by decide)).trans qq79
  have qq88 : zsl h55 r5 (1 : Int).toNat = yR r6 := (B_h55.sl H_r5 (bNo_ok (by decide) _)).trans qq80
  have qq89 : zsl h55 r5 (2 : Int).toNat = yR r9 := (B_h55.sl H_r5 (bNo_ok (by decide) _)).trans qq81
  have qq90 : zsl h55 k0 15 = yR r12 := (B_h55.sl H_k0 (by decide)).trans qq82
  have : ys h55 r12 (0 : Int).toNat = ys h52 r12 (0 : Int).toNat := B_h55.ys H_r12 (bNo_ok (by decide) _)
  have qq91 : zsl h55 r1 (3 : Int).toNat = yR r31 := (B_h55.sl H_r1 (bNo_ok (by decide) _)).trans qq83
  have qq92 : zsl h55 k0 16 = yR r40 := (B_h55.sl H_k0 (by decide)).trans qq84
  have qq93 : zsl h55 r40 (1 : Int).toNat = yR r48 := (B_h55.sl H_r40 (bNo_ok (by decide) _)).trans qq85
  show yG _ _ _ _ _ _ _ _ _ _ [] _
  refine yG.load xak rfl (fun _ _ => rfl) (v := yR k0) rfl rfl ?_
  refine yG.getS9 A_h55.1 (w_Shorts_square W H_k0) qq92 rfl rfl ?_
  refine yG.num (c := 1) rfl (fun _ _ => rfl) (by decide) ?_
  refine yG.aaldO (r := 35) A_h55.1 (v_Big2 W H_r40) rfl rfl rfl (by omega) (by omega) (fun r57 H_r57 q_r57 => ?_)
  obtain ⟨n_r57, N_r57⟩ : ∃ n : Int, n = ((zat G r57 : Nat) : Int) := ⟨_, rfl⟩
  have L_r57 := n_Big W H_r57
  have s_r57 : r57 = r48 := by have e9 := q_r57.symm.trans qq93; cases e9; rfl
  rw [s_r57]
  refine yG.load xak rfl (fun _ _ => rfl) (v := yR k0) rfl rfl ?_
  refine yG.getS9 A_h55.1 (w_Shorts_help W H_k0) qq86 rfl rfl ?_
  refine yG.num (c := 3) rfl (fun _ _ => rfl) (by decide) ?_
  refine yG.aaldO (r := 35) A_h55.1 (v_Big4 W H_r1) rfl rfl rfl (by omega) (by omega) (fun r58 H_r58 q_r58 => ?_)
  obtain ⟨n_r58, N_r58⟩ : ∃ n : Int, n = ((zat G r58 : Nat) : Int) := ⟨_, rfl⟩
  have L_r58 := n_Big W H_r58
  have s_r58 : r58 = r31 := by have e9 := q_r58.symm.trans qq91; cases e9; rfl
  rw [s_r58]
  refine yG.invV (rest := []) A_h55.1 (bOb (d_Big W) H_r48) rfl rfl rfl rfl (c_Big_more W d A_h55.1 H_r48 H_r31) (fun rv h59 q9 => ?_)
  obtain ⟨⟨rfl, R_z60⟩, B_h59⟩ := q9
  have A_h59 := A_h55.tr B_h59 (by decide)
  have qq94 : zsl h59 k0 17 = yR r1 := (B_h59.sl H_k0 (by decide)).trans qq86
  have qq95 : zsl h59 k0 14 = yR r5 := (B_h59.sl H_k0 (by decide)).trans qq87
  have qq96 : zsl h59 r5 (1 : Int).toNat = yR r6 := (B_h59.sl H_r5 (bNo_ok (by decide) _)).trans qq88
  have qq97 : zsl h59 r5 (2 : Int).toNat = yR r9 := (B_h59.sl H_r5 (bNo_ok (by decide) _)).trans qq89
  have qq98 : zsl h59 k0 15 = yR r12 := (B_h59.sl H_k0 (by decide)).trans qq90
  have : ys h59 r12 (0 : Int).toNat = ys h55 r12 (0 : Int).toNat := B_h59.ys H_r12 (bNo_ok (by decide) _)
  have qq99 : zsl h59 r1 (3 : Int).toNat = yR r31 := (B_h59.sl H_r1 (bNo_ok (by decide) _)).trans qq91
  have qq100 : zsl h59 k0 16 = yR r40 := (B_h59.sl H_k0 (by decide)).trans qq92
  have qq101 : zsl h59 r40 (1 : Int).toNat = yR r48 := (B_h59.sl H_r40 (bNo_ok (by decide) _)).trans qq93
  show yG _ _ _ _ _ _ _ _ _ _ [] _
  refine yG.ret rfl (fun _ _ => rfl) ?_
  exact (yP.void ⟨⟨rfl, trivial⟩, A_h59⟩)
theorem c_Shorts_belowSquares {hp : xH} (W : bW G) (d : Nat) (hT : zTy G hp) {k0 : Nat} (H_k0 : bRo G 75 k0) {k1 : Nat} (H_k1 : bRo G 35 k1) : yC (xcall 89 xfts xpools xms (d + 3)) 228 [yR k0, yR k1] hp (fun rv hp' => (rv = none ∧ True) ∧ bAx G [(34359738368, 1), (34359738368, 2), (68719476736, 256)] hp hp') := by
  have A_hp : bAx G [(34359738368, 1), (34359738368, 2), (68719476736, 256)] hp hp := bAx.rf hT
  obtain ⟨n_k1, N_k1⟩ : ∃ n : Int, n = ((zat G k1 : Nat) : Int) := ⟨_, rfl⟩
  have L_k1 := n_Big W H_k1
  refine yC.of (M := (xt_X9_belowSquares, (2, (0, (10, []))))) rfl rfl (N := 126) (yfuel (by decide)) ?_
  show yG 89 xfts (xcall 89 xfts xpools xms (d + 2)) (xpool xp_RX9) [] xt_X9_belowSquares (yP 0 (fun rv hp' => (rv = none ∧ True) ∧ bAx G [(34359738368, 1), (34359738368, 2), (68719476736, 256)] hp hp')) 126 0 [(0, yR k0), (1, yR k1)] [] hp
  refine yG.load xak rfl (fun _ _ => rfl) (v := yR k0) rfl rfl ?_
  refine yG.getO A_hp.1 (w_Shorts_help W H_k0) rfl rfl (fun r1 H_r1 O_r1 q_r1 => ?_)
  refine yG.num (c := 0) rfl (fun _ _ => rfl) (by decide) ?_
  refine yG.aaldO (r := 35) A_hp.1 (v_Big4 W H_r1) rfl rfl rfl (by omega) (by omega) (fun r2 H_r2 q_r2 => ?_)
  obtain ⟨n_r2, N_r2⟩ : ∃ n : Int, n = ((zat G r2 : Nat) : Int) := ⟨_, rfl⟩
  have L_r2 := n_Big W H_r2
  refine yG.load xak rfl (fun _ _ => rfl) (v := yR k0) rfl rfl ?_
  refine yG.getO A_hp.1 (w_Shorts_below W H_k0) rfl rfl (fun r3 H_r3 O_r3 q_r3 => ?_)
  obtain ⟨n_r3, N_r3⟩ : ∃ n : Int, n = ((zat G r3 : Nat) : Int) := ⟨_, rfl⟩
  have L_r3 := n_Big W H_r3
  refine yG.invV (rest := []) A_hp.1 (bOb (d_Big W) H_r2) rfl rfl rfl rfl (c_Big_copy W d A_hp.1 H_r2 H_r3) (fun rv h4 q9 => ?_)
  obtain ⟨⟨rfl, R_z5⟩, B_h4⟩ := q9
  have A_h4 := A_hp.tr B_h4 (by decide)
  have qq1 : zsl h4 k0 17 = yR r1 := (B_h4.sl H_k0 (by decide)).trans q_r1
  have qq2 : zsl h4 r1 (0 : Int).toNat = yR r2 := (B_h4.sl H_r1 (bNo_ok (by decide) _)).trans q_r2
  show yG _ _ _ _ _ _ _ _ _ _ [] _
  refine yG.load xak rfl (fun _ _ => rfl) (v := yR k0) rfl rfl ?_
  refine yG.getS9 A_h4.1 (w_Shorts_help W H_k0) qq1 rfl rfl ?_
  refine yG.num (c := 0) rfl (fun _ _ => rfl) (by decide) ?_
  refine yG.aaldO (r := 35) A_h4.1 (v_Big4 W H_r1) rfl rfl rfl (by omega) (by omega) (fun r6 H_r6 q_r6 => ?_)
  obtain ⟨n_r6, N_r6⟩ : ∃ n : Int, n = ((zat G r6 : Nat) : Int) := ⟨_, rfl⟩
  have L_r6 := n_Big W H_r6
  have s_r6 : r6 = r2 := by have e9 := q_r6.symm.trans qq2; cases e9; rfl
  rw [s_r6]
  refine yG.numl (c := 2) rfl (fun _ _ => rfl) (by decide) ?_
  refine yG.load xak rfl (fun _ _ => rfl) (v := yR k0) rfl rfl ?_
  refine yG.getO A_h4.1 (w_Shorts_reach W H_k0) rfl rfl (fun r7 H_r7 O_r7 q_r7 => ?_)
  refine yG.num (c := 0) rfl (fun _ _ => rfl) (by decide) ?_
  refine yG.iald A_h4.1 (v_Shorts_reach W H_r7) rfl (by omega) (by omega) (fun z8 e_z8 i_z8 l_z8 u_z8 => ?_)
  refine yG.i2l rfl ⟨by omega, by omega⟩ ?_
  refine yG.lmul rfl ?_
  refine yG.invV (rest := []) A_h4.1 (bOb (d_Big W) H_r2) rfl rfl rfl rfl (c_Big_scale W d A_h4.1 H_r2 (2 * z8) (by omega) (by omega)) (fun rv h9 q9 => ?_)
  obtain ⟨⟨rfl, R_z10⟩, B_h9⟩ := q9
  have A_h9 := A_h4.tr B_h9 (by decide)
  have qq3 : zsl h9 k0 17 = yR r1 := (B_h9.sl H_k0 (by decide)).trans qq1
  have qq4 : zsl h9 r1 (0 : Int).toNat = yR r2 := (B_h9.sl H_r1 (bNo_ok (by decide) _)).trans qq2
  have qq5 : zsl h9 k0 15 = yR r7 := (B_h9.sl H_k0 (by decide)).trans q_r7
  show yG _ _ _ _ _ _ _ _ _ _ [] _
  refine yG.load xak rfl (fun _ _ => rfl) (v := yR k0) rfl rfl ?_
  refine yG.getS9 A_h9.1 (w_Shorts_help W H_k0) qq3 rfl rfl ?_
  refine yG.num (c := 0) rfl (fun _ _ => rfl) (by decide) ?_
  refine yG.aaldO (r := 35) A_h9.1 (v_Big4 W H_r1) rfl rfl rfl (by omega) (by omega) (fun r11 H_r11 q_r11 => ?_)
  obtain ⟨n_r11, N_r11⟩ : ∃ n : Int, n = ((zat G r11 : Nat) : Int) := ⟨_, rfl⟩
  have L_r11 := n_Big W H_r11
  have s_r11 : r11 = r2 := by have e9 := q_r11.symm.trans qq4; cases e9; rfl
  rw [s_r11]
  refine yG.load xak rfl (fun _ _ => rfl) (v := yR k0) rfl rfl ?_
  refine yG.getS9 A_h9.1 (w_Shorts_reach W H_k0) qq5 rfl rfl ?_
  refine yG.num (c := 1) rfl (fun _ _ => rfl) (by decide) ?_
  refine yG.iald A_h9.1 (v_Shorts_reach W H_r7) rfl (by omega) (by omega) (fun z12 e_z12 i_z12 l_z12 u_z12 => ?_)
  refine yG.i2l rfl ⟨by omega, by omega⟩ ?_
  refine yG.invV (rest := []) A_h9.1 (bOb (d_Big W) H_r2) rfl rfl rfl rfl (c_Big_scale W d A_h9.1 H_r2 (z12) (by omega) (by omega)) (fun rv h13 q9 => ?_)
  obtain ⟨⟨rfl, R_z14⟩, B_h13⟩ := q9
  have A_h13 := A_h9.tr B_h13 (by decide)
  have qq6 : zsl h13 k0 17 = yR r1 := (B_h13.sl H_k0 (by decide)).trans qq3
  have qq7 : zsl h13 r1 (0 : Int).toNat = yR r2 := (B_h13.sl H_r1 (bNo_ok (by decide) _)).trans qq4
  have qq8 : zsl h13 k0 15 = yR r7 := (B_h13.sl H_k0 (by decide)).trans qq5
  show yG _ _ _ _ _ _ _ _ _ _ [] _
  refine yG.load xak rfl (fun _ _ => rfl) (v := yR k1) rfl rfl ?_
  refine yG.load xak rfl (fun _ _ => rfl) (v := yR k0) rfl rfl ?_
  refine yG.getS9 A_h13.1 (w_Shorts_help W H_k0) qq6 rfl rfl ?_
  refine yG.num (c := 0) rfl (fun _ _ => rfl) (by decide) ?_
  refine yG.aaldO (r := 35) A_h13.1 (v_Big4 W H_r1) rfl rfl rfl (by omega) (by omega) (fun r15 H_r15 q_r15 => ?_)
  obtain ⟨n_r15, N_r15⟩ : ∃ n : Int, n = ((zat G r15 : Nat) : Int) := ⟨_, rfl⟩
  have L_r15 := n_Big W H_r15
  have s_r15 : r15 = r2 := by have e9 := q_r15.symm.trans qq7; cases e9; rfl
  rw [s_r15]
  refine yG.load xak rfl (fun _ _ => rfl) (v := yR k0) rfl rfl ?_
  refine yG.getS9 A_h13.1 (w_Shorts_help W H_k0) qq6 rfl rfl ?_
  refine yG.num (c := 0) rfl (fun _ _ => rfl) (by decide) ?_
  refine yG.aaldO (r := 35) A_h13.1 (v_Big4 W H_r1) rfl rfl rfl (by omega) (by omega) (fun r16 H_r16 q_r16 => ?_)
  obtain ⟨n_r16, N_r16⟩ : ∃ n : Int, n = ((zat G r16 : Nat) : Int) := ⟨_, rfl⟩
  have L_r16 := n_Big W H_r16
  have s_r16 : r16 = r2 := by have e9 := q_r16.symm.trans qq7; cases e9; rfl
  rw [s_r16]
  refine yG.invV (rest := []) A_h13.1 (bOb (d_Big W) H_k1) rfl rfl rfl rfl (c_Big_product W d A_h13.1 H_k1 H_r2 H_r2) (fun rv h17 q9 => ?_)
  obtain ⟨⟨rfl, R_z18⟩, B_h17⟩ := q9
  have A_h17 := A_h13.tr B_h17 (by decide)
  have qq9 : zsl h17 k0 17 = yR r1 := (B_h17.sl H_k0 (by decide)).trans qq6
  have qq10 : zsl h17 r1 (0 : Int).toNat = yR r2 := (B_h17.sl H_r1 (bNo_ok (by decide) _)).trans qq7
  have qq11 : zsl h17 k0 15 = yR r7 := (B_h17.sl H_k0 (by decide)).trans qq8
  show yG _ _ _ _ _ _ _ _ _ _ [] _
  refine yG.ret rfl (fun _ _ => rfl) ?_
  exact (yP.void ⟨⟨rfl, trivial⟩, A_h17⟩)
theorem c_Shorts_tell {hp : xH} (W : bW G) (d : Nat) (hT : zTy G hp) {k0 : Nat} (H_k0 : bRo G 75 k0) {k2 : Nat} (H_k2 : bRo G 34 k2) (p1 : Int) (h1l : 0 ≤ p1) (h1u : p1 ≤ 4) : yC (xcall 89 xfts xpools xms (d + 5)) 244 [yR k0, yI (p1), yR k2] hp (fun rv hp' => (rv = none ∧ True) ∧ bAx G [(34359738368, 1), (34359738368, 2), (68719476736, 256)] hp hp') := by
  have A_hp : bAx G [(34359738368, 1), (34359738368, 2), (68719476736, 256)] hp hp := bAx.rf hT
  refine yC.of (M := (xt_X9_tell, (3, (0, (10, []))))) rfl rfl (N := 81) (yfuel (by decide)) ?_
  show yG 89 xfts (xcall 89 xfts xpools xms (d + 4)) (xpool xp_RX9) [] xt_X9_tell (yP 0 (fun rv hp' => (rv = none ∧ True) ∧ bAx G [(34359738368, 1), (34359738368, 2), (68719476736, 256)] hp hp')) 81 0 [(0, yR k0), (1, yI (p1)), (2, yR k2)] [] hp
  refine yG.load xik rfl (fun _ _ => rfl) (v := yI (p1)) rfl rfl ?_
  refine yG.num (c := 3) rfl (fun _ _ => rfl) (by decide) ?_
  refine yG.icmp rfl (t := 46) rfl ⟨by omega, by omega⟩ ⟨by omega, by omega⟩ (fun c1 => ?_) (fun c1 => ?_)
  · have c1 : (p1 : Int) ≥ 3 := c1
    refine yG.load xak rfl (fun _ _ => rfl) (v := yR k0) rfl rfl ?_
    refine yG.invV (rest := []) A_hp.1 (bOb (d_Shorts W) H_k0) rfl rfl rfl rfl (c_Shorts_squares W d A_hp.1 H_k0) (fun rv h2 q9 => ?_)
    obtain ⟨⟨rfl, R_z3⟩, B_h2⟩ := q9
    have A_h2 := A_hp.tr B_h2 (by decide)
    show yG _ _ _ _ _ _ _ _ _ _ [] _
    refine yG.load xak rfl (fun _ _ => rfl) (v := yR k2) rfl rfl ?_
    refine yG.getO A_h2.1 (w_Hand_above W H_k2) rfl rfl (fun r4 H_r4 O_r4 q_r4 => ?_)
    obtain ⟨n_r4, N_r4⟩ : ∃ n : Int, n = ((zat G r4 : Nat) : Int) := ⟨_, rfl⟩
    have L_r4 := n_Big W H_r4
    refine yG.load xak rfl (fun _ _ => rfl) (v := yR k0) rfl rfl ?_
    refine yG.getO A_h2.1 (w_Shorts_square W H_k0) rfl rfl (fun r5 H_r5 O_r5 q_r5 => ?_)
    refine yG.load xik rfl (fun _ _ => rfl) (v := yI (p1)) rfl rfl ?_
    refine yG.num (c := 3) rfl (fun _ _ => rfl) (by decide) ?_
    refine yG.isub rfl ?_
    refine yG.aaldO (r := 35) A_h2.1 (v_Big2 W H_r5) rfl rfl rfl (by omega) (by omega) (fun r6 H_r6 q_r6 => ?_)
    obtain ⟨n_r6, N_r6⟩ : ∃ n : Int, n = ((zat G r6 : Nat) : Int) := ⟨_, rfl⟩
    have L_r6 := n_Big W H_r6
    refine yG.invV (rest := []) A_h2.1 (bOb (d_Big W) H_r4) rfl rfl rfl rfl (c_Big_copy W (d + 2) A_h2.1 H_r4 H_r6) (fun rv h7 q9 => ?_)
    obtain ⟨⟨rfl, R_z8⟩, B_h7⟩ := q9
    have A_h7 := A_h2.tr B_h7 (by decide)
    show yG _ _ _ _ _ _ _ _ _ _ [] _
    refine yG.load xak rfl (fun _ _ => rfl) (v := yR k0) rfl rfl ?_
    refine yG.load xak rfl (fun _ _ => rfl) (v := yR k2) rfl rfl ?_
    refine yG.getO A_h7.1 (w_Hand_below W H_k2) rfl rfl (fun r9 H_r9 O_r9 q_r9 => ?_)
    obtain ⟨n_r9, N_r9⟩ : ∃ n : Int, n = ((zat G r9 : Nat) : Int) := ⟨_, rfl⟩
    have L_r9 := n_Big W H_r9
    refine yG.invV (rest := []) A_h7.1 (bOb (d_Shorts W) H_k0) rfl rfl rfl rfl (c_Shorts_belowSquares W (d + 1) A_h7.1 H_k0 H_r9) (fun rv h10 q9 => ?_)
    obtain ⟨⟨rfl, R_z11⟩, B_h10⟩ := q9
    have A_h10 := A_h7.tr B_h10 (by decide)
    have qq1 : zsl h10 k2 1 = yR r9 := (B_h10.sl H_k2 (by decide)).trans q_r9
    show yG _ _ _ _ _ _ _ _ _ _ [] _
    refine yG.ret rfl (fun _ _ => rfl) ?_
    exact (yP.void ⟨⟨rfl, trivial⟩, A_h10⟩)
  · have c1 : (p1 : Int) < 3 := c1
    refine yG.load xak rfl (fun _ _ => rfl) (v := yR k2) rfl rfl ?_
    refine yG.getO A_hp.1 (w_Hand_above W H_k2) rfl rfl (fun r12 H_r12 O_r12 q_r12 => ?_)
    obtain ⟨n_r12, N_r12⟩ : ∃ n : Int, n = ((zat G r12 : Nat) : Int) := ⟨_, rfl⟩
    have L_r12 := n_Big W H_r12
    refine yG.load xak rfl (fun _ _ => rfl) (v := yR k0) rfl rfl ?_
    refine yG.getO A_hp.1 (w_Shorts_asked W H_k0) rfl rfl (fun r13 H_r13 O_r13 q_r13 => ?_)
    refine yG.load xik rfl (fun _ _ => rfl) (v := yI (p1)) rfl rfl ?_
    refine yG.aaldO (r := 35) A_hp.1 (v_Big3 W H_r13) rfl rfl rfl (by omega) (by omega) (fun r14 H_r14 q_r14 => ?_)
    obtain ⟨n_r14, N_r14⟩ : ∃ n : Int, n = ((zat G r14 : Nat) : Int) := ⟨_, rfl⟩
    have L_r14 := n_Big W H_r14
    refine yG.invV (rest := []) A_hp.1 (bOb (d_Big W) H_r12) rfl rfl rfl rfl (c_Big_copy W (d + 2) A_hp.1 H_r12 H_r14) (fun rv h15 q9 => ?_)
    obtain ⟨⟨rfl, R_z16⟩, B_h15⟩ := q9
    have A_h15 := A_hp.tr B_h15 (by decide)
    show yG _ _ _ _ _ _ _ _ _ _ [] _
    refine yG.load xak rfl (fun _ _ => rfl) (v := yR k2) rfl rfl ?_
    refine yG.getO A_h15.1 (w_Hand_below W H_k2) rfl rfl (fun r17 H_r17 O_r17 q_r17 => ?_)
    obtain ⟨n_r17, N_r17⟩ : ∃ n : Int, n = ((zat G r17 : Nat) : Int) := ⟨_, rfl⟩
    have L_r17 := n_Big W H_r17
    refine yG.load xak rfl (fun _ _ => rfl) (v := yR k0) rfl rfl ?_
    refine yG.getO A_h15.1 (w_Shorts_below W H_k0) rfl rfl (fun r18 H_r18 O_r18 q_r18 => ?_)
    obtain ⟨n_r18, N_r18⟩ : ∃ n : Int, n = ((zat G r18 : Nat) : Int) := ⟨_, rfl⟩
    have L_r18 := n_Big W H_r18
    refine yG.invV (rest := []) A_h15.1 (bOb (d_Big W) H_r17) rfl rfl rfl rfl (c_Big_copy W (d + 2) A_h15.1 H_r17 H_r18) (fun rv h19 q9 => ?_)
    obtain ⟨⟨rfl, R_z20⟩, B_h19⟩ := q9
    have A_h19 := A_h15.tr B_h19 (by decide)
    have qq2 : zsl h19 k2 1 = yR r17 := (B_h19.sl H_k2 (by decide)).trans q_r17
    show yG _ _ _ _ _ _ _ _ _ _ [] _
    refine yG.load xak rfl (fun _ _ => rfl) (v := yR k2) rfl rfl ?_
    refine yG.getS9 A_h19.1 (w_Hand_below W H_k2) qq2 rfl rfl ?_
    refine yG.load xak rfl (fun _ _ => rfl) (v := yR k0) rfl rfl ?_
    refine yG.getO A_h19.1 (w_Shorts_reach W H_k0) rfl rfl (fun r21 H_r21 O_r21 q_r21 => ?_)
    refine yG.load xik rfl (fun _ _ => rfl) (v := yI (p1)) rfl rfl ?_
    refine yG.iald A_h19.1 (v_Shorts_reach W H_r21) rfl (by omega) (by omega) (fun z22 e_z22 i_z22 l_z22 u_z22 => ?_)
    refine yG.i2l rfl ⟨by omega, by omega⟩ ?_
    refine yG.invV (rest := []) A_h19.1 (bOb (d_Big W) H_r17) rfl rfl rfl rfl (c_Big_scale W (d + 2) A_h19.1 H_r17 (z22) (by omega) (by omega)) (fun rv h23 q9 => ?_)
    obtain ⟨⟨rfl, R_z24⟩, B_h23⟩ := q9
    have A_h23 := A_h19.tr B_h23 (by decide)
    have qq3 : zsl h23 k2 1 = yR r17 := (B_h23.sl H_k2 (by decide)).trans qq2
    show yG _ _ _ _ _ _ _ _ _ _ [] _
    refine yG.goto rfl (t := 73) rfl ?_
    refine yG.ret rfl (fun _ _ => rfl) ?_
    exact (yP.void ⟨⟨rfl, trivial⟩, A_h23⟩)
theorem c_Shorts_measure {hp : xH} (W : bW G) (d : Nat) (hT : zTy G hp) {k0 : Nat} (H_k0 : bRo G 75 k0) (p1 p2 p3 : Int) (h1l : 0 ≤ p1) (h1u : p1 ≤ 19) (h2l : 0 ≤ p2) (h2u : p2 ≤ 1) (h3l : 0 ≤ p3) (h3u : p3 ≤ 1) : yC (xcall 89 xfts xpools xms (d + 5)) 238 [yR k0, yI (p1), yI (p2), yI (p3)] hp (bQi G [(34359738368, 1), (34359738368, 2), (1208925819614697894182912, 256)] hp 0 1 (fun z => (z = 0 → 0 ≤ p3 - 1))) := by
  have A_hp : bAx G [(34359738368, 1), (34359738368, 2), (1208925819614697894182912, 256)] hp hp := bAx.rf hT
  refine yC.of (M := (xt_X9_measure, (8, (4, (10, []))))) rfl rfl (N := 255) (yfuel (by decide)) ?_
  show yG 89 xfts (xcall 89 xfts xpools xms (d + 4)) (xpool xp_RX9) [] xt_X9_measure (yP 4 (bQi G [(34359738368, 1), (34359738368, 2), (1208925819614697894182912, 256)] hp 0 1 (fun z => (z = 0 → 0 ≤ p3 - 1)))) 255 0 [(0, yR k0), (1, yI (p1)), (2, yI (p2)), (3, yI (p3))] [] hp
  refine yG.load xak rfl (fun _ _ => rfl) (v := yR k0) rfl rfl ?_
  refine yG.load xik rfl (fun _ _ => rfl) (v := yI (p1)) rfl rfl ?_
  refine yG.load xik rfl (fun _ _ => rfl) (v := yI (p2)) rfl rfl ?_
  refine yG.invV (rest := []) A_hp.1 (bOb (d_Shorts W) H_k0) rfl rfl rfl rfl (c_Shorts_currents W d A_hp.1 H_k0 (p1) (p2) (by omega) (by omega) (by omega) (by omega)) (fun rv h1 q9 => ?_)
  obtain ⟨⟨rfl, R_z2⟩, B_h1⟩ := q9
  have A_h1 := A_hp.tr B_h1 (by decide)
  show yG _ _ _ _ _ _ _ _ _ _ [] _
  refine yG.load xak rfl (fun _ _ => rfl) (v := yR k0) rfl rfl ?_
  refine yG.invV (rest := []) A_h1.1 (bOb (d_Shorts W) H_k0) rfl rfl rfl rfl (c_Shorts_squares W d A_h1.1 H_k0) (fun rv h3 q9 => ?_)
  obtain ⟨⟨rfl, R_z4⟩, B_h3⟩ := q9
  have A_h3 := A_h1.tr B_h3 (by decide)
  show yG _ _ _ _ _ _ _ _ _ _ [] _
  refine yG.load xak rfl (fun _ _ => rfl) (v := yR k0) rfl rfl ?_
  refine yG.getO A_h3.1 (w_Shorts_square W H_k0) rfl rfl (fun r5 H_r5 O_r5 q_r5 => ?_)
  refine yG.num (c := 1) rfl (fun _ _ => rfl) (by decide) ?_
  refine yG.aaldO (r := 35) A_h3.1 (v_Big2 W H_r5) rfl rfl rfl (by omega) (by omega) (fun r6 H_r6 q_r6 => ?_)
  obtain ⟨n_r6, N_r6⟩ : ∃ n : Int, n = ((zat G r6 : Nat) : Int) := ⟨_, rfl⟩
  have L_r6 := n_Big W H_r6
  refine yG.load xak rfl (fun _ _ => rfl) (v := yR k0) rfl rfl ?_
  refine yG.getS9 A_h3.1 (w_Shorts_square W H_k0) q_r5 rfl rfl ?_
  refine yG.num (c := 0) rfl (fun _ _ => rfl) (by decide) ?_
  refine yG.aaldO (r := 35) A_h3.1 (v_Big2 W H_r5) rfl rfl rfl (by omega) (by omega) (fun r7 H_r7 q_r7 => ?_)
  obtain ⟨n_r7, N_r7⟩ : ∃ n : Int, n = ((zat G r7 : Nat) : Int) := ⟨_, rfl⟩
  have L_r7 := n_Big W H_r7
  refine yG.invV (rest := []) A_h3.1 (bOb (d_Big W) H_r6) rfl rfl rfl rfl (c_Big_compareSize W (d + 3) A_h3.1 H_r6 H_r7) (fun rv hp9 q9 => ?_)
  obtain ⟨⟨z8, rfl, l_z8, u_z8, R_z8⟩, e9⟩ := q9
  rw [e9]
  show yG _ _ _ _ _ _ _ _ _ _ (yI z8 :: []) _
  refine yG.ifz rfl (t := 32) rfl ⟨by omega, by omega⟩ (fun c9 => ?_) (fun c9 => ?_)
  · have c9 : (z8 : Int) ≤ 0 := c9
    refine yG.num (c := 0) rfl (fun _ _ => rfl) (by decide) ?_
    refine yG.store1 xik (L' := [(4, yI (0)), (0, yR k0), (1, yI (p1)), (2, yI (p2)), (3, yI (p3))]) rfl (fun _ _ => rfl) rfl rfl ?_
    refine yG.load xik rfl (fun _ _ => rfl) (v := yI (p3)) rfl rfl ?_
    refine yG.ifz rfl (t := 63) rfl ⟨by omega, by omega⟩ (fun c10 => ?_) (fun c10 => ?_)
    · have c10 : (p3 : Int) ≠ 0 := c10
      refine yG.load xak rfl (fun _ _ => rfl) (v := yR k0) rfl rfl ?_
      refine yG.getO A_h3.1 (w_Shorts_asked W H_k0) rfl rfl (fun r11 H_r11 O_r11 q_r11 => ?_)
      refine yG.num (c := 1) rfl (fun _ _ => rfl) (by decide) ?_
      refine yG.aaldO (r := 35) A_h3.1 (v_Big3 W H_r11) rfl rfl rfl (by omega) (by omega) (fun r12 H_r12 q_r12 => ?_)
      obtain ⟨n_r12, N_r12⟩ : ∃ n : Int, n = ((zat G r12 : Nat) : Int) := ⟨_, rfl⟩
      have L_r12 := n_Big W H_r12
      refine yG.invV (rest := []) A_h3.1 (bOb (d_Big W) H_r12) rfl rfl rfl rfl (c_Big_sign W (d + 3) A_h3.1 H_r12) (fun rv hp9 q9 => ?_)
      obtain ⟨⟨z13, rfl, l_z13, u_z13, R_z13⟩, e9⟩ := q9
      rw [e9]
      show yG _ _ _ _ _ _ _ _ _ _ (yI z13 :: []) _
      refine yG.ifz rfl (t := 92) rfl ⟨by omega, by omega⟩ (fun c14 => ?_) (fun c14 => ?_)
      · have c14 : (z13 : Int) ≤ 0 := c14
        refine yG.num (c := 0) rfl (fun _ _ => rfl) (by decide) ?_
        refine yG.store1 xik (L' := [(5, yI (0)), (4, yI (0)), (0, yR k0), (1, yI (p1)), (2, yI (p2)), (3, yI (p3))]) rfl (fun _ _ => rfl) rfl rfl ?_
        refine yG.load xak rfl (fun _ _ => rfl) (v := yR k0) rfl rfl ?_
        refine yG.getO A_h3.1 (w_Shorts_reach W H_k0) rfl rfl (fun r15 H_r15 O_r15 q_r15 => ?_)
        refine yG.num (c := 0) rfl (fun _ _ => rfl) (by decide) ?_
        refine yG.iald A_h3.1 (v_Shorts_reach W H_r15) rfl (by omega) (by omega) (fun z16 e_z16 i_z16 l_z16 u_z16 => ?_)
        refine yG.i2l rfl ⟨by omega, by omega⟩ ?_
        refine yG.load xak rfl (fun _ _ => rfl) (v := yR k0) rfl rfl ?_
        refine yG.getS9 A_h3.1 (w_Shorts_reach W H_k0) q_r15 rfl rfl ?_
        refine yG.num (c := 1) rfl (fun _ _ => rfl) (by decide) ?_
        refine yG.iald A_h3.1 (v_Shorts_reach W H_r15) rfl (by omega) (by omega) (fun z17 e_z17 i_z17 l_z17 u_z17 => ?_)
        refine yG.i2l rfl ⟨by omega, by omega⟩ ?_
        refine yG.lmul rfl ?_
        obtain ⟨z18, e_z18⟩ : ∃ z : Int, z = z16 * z17 := ⟨_, rfl⟩
        rw [← e_z18]
        have b_z18 : -4611686018427387904 ≤ z18 ∧ z18 ≤ 4611686018427387904 := e_z18 ▸ ymuls (A := 2147483648) (B := 2147483648) (by omega) (by omega) (by omega) (by omega) (by decide)
        refine yG.store2 xlk2 (L' := [(6, yJ (z18)), (5, yI (0)), (4, yI (0)), (0, yR k0), (1, yI (p1)), (2, yI (p2)), (3, yI (p3))]) rfl (fun _ _ => rfl) rfl rfl ?_
        refine yG.load xak rfl (fun _ _ => rfl) (v := yR k0) rfl rfl ?_
        refine yG.getO A_h3.1 (w_Shorts_second W H_k0) rfl rfl (fun r19 H_r19 O_r19 q_r19 => ?_)
        obtain ⟨n_r19, N_r19⟩ : ∃ n : Int, n = ((zat G r19 : Nat) : Int) := ⟨_, rfl⟩
        have L_r19 := n_Big W H_r19
        refine yG.load xak rfl (fun _ _ => rfl) (v := yR k0) rfl rfl ?_
        refine yG.getS9 A_h3.1 (w_Shorts_square W H_k0) q_r5 rfl rfl ?_
        refine yG.load xik rfl (fun _ _ => rfl) (v := yI (0)) rfl rfl ?_
        refine yG.aaldO (r := 35) A_h3.1 (v_Big2 W H_r5) rfl rfl rfl (by omega) (by omega) (fun r20 H_r20 q_r20 => ?_)
        obtain ⟨n_r20, N_r20⟩ : ∃ n : Int, n = ((zat G r20 : Nat) : Int) := ⟨_, rfl⟩
        have L_r20 := n_Big W H_r20
        have s_r20 : r20 = r7 := by have e9 := q_r20.symm.trans q_r7; cases e9; rfl
        rw [s_r20]
        refine yG.invV (rest := []) A_h3.1 (bOb (d_Big W) H_r19) rfl rfl rfl rfl (c_Big_copy W (d + 2) A_h3.1 H_r19 H_r7) (fun rv h21 q9 => ?_)
        obtain ⟨⟨rfl, R_z22⟩, B_h21⟩ := q9
        have A_h21 := A_h3.tr B_h21 (by decide)
        have qq1 : zsl h21 k0 16 = yR r5 := (B_h21.sl H_k0 (by decide)).trans q_r5
        have qq2 : zsl h21 r5 (1 : Int).toNat = yR r6 := (B_h21.sl H_r5 (bNo_ok (by decide) _)).trans q_r6
        have qq3 : zsl h21 r5 (0 : Int).toNat = yR r7 := (B_h21.sl H_r5 (bNo_ok (by decide) _)).trans q_r7
        have qq4 : zsl h21 k0 15 = yR r15 := (B_h21.sl H_k0 (by decide)).trans q_r15
        show yG _ _ _ _ _ _ _ _ _ _ [] _
        refine yG.load xak rfl (fun _ _ => rfl) (v := yR k0) rfl rfl ?_
        refine yG.load xak rfl (fun _ _ => rfl) (v := yR k0) rfl rfl ?_
        refine yG.getO A_h21.1 (w_Shorts_shape W H_k0) rfl rfl (fun r23 H_r23 O_r23 q_r23 => ?_)
        refine yG.getO A_h21.1 (w_Shape_ends W H_r23) rfl rfl (fun r24 H_r24 O_r24 q_r24 => ?_)
        refine yG.load xik rfl (fun _ _ => rfl) (v := yI (p1)) rfl rfl ?_
        refine yG.aaldO (r := 57) A_h21.1 (v_Shape_ends W H_r24) rfl rfl rfl (by omega) (by omega) (fun r25 H_r25 q_r25 => ?_)
        refine yG.load xik rfl (fun _ _ => rfl) (v := yI (p2)) rfl rfl ?_
        refine yG.iald A_h21.1 (v_Shape_endss W H_r25) rfl (by omega) (by omega) (fun z26 e_z26 i_z26 l_z26 u_z26 => ?_)
        refine yG.invV (rest := []) A_h21.1 (bOb (d_Shorts W) H_k0) rfl rfl rfl rfl (c_Shorts_volts W d A_h21.1 H_k0 (z26) (by omega) (by omega)) (fun rv h27 q9 => ?_)
        obtain ⟨⟨rfl, R_z28⟩, B_h27⟩ := q9
        have A_h27 := A_h21.tr B_h27 (by decide)
        have qq5 : zsl h27 k0 16 = yR r5 := (B_h27.sl H_k0 (by decide)).trans qq1
        have qq6 : zsl h27 r5 (1 : Int).toNat = yR r6 := (B_h27.sl H_r5 (bNo_ok (by decide) _)).trans qq2
        have qq7 : zsl h27 r5 (0 : Int).toNat = yR r7 := (B_h27.sl H_r5 (bNo_ok (by decide) _)).trans qq3
        have qq8 : zsl h27 k0 15 = yR r15 := (B_h27.sl H_k0 (by decide)).trans qq4
        show yG _ _ _ _ _ _ _ _ _ _ [] _
        refine yG.load xak rfl (fun _ _ => rfl) (v := yR k0) rfl rfl ?_
        refine yG.invV (rest := []) A_h27.1 (bOb (d_Shorts W) H_k0) rfl rfl rfl rfl (c_Shorts_squares W d A_h27.1 H_k0) (fun rv h29 q9 => ?_)
        obtain ⟨⟨rfl, R_z30⟩, B_h29⟩ := q9
        have A_h29 := A_h27.tr B_h29 (by decide)
        have qq9 : zsl h29 k0 16 = yR r5 := (B_h29.sl H_k0 (by decide)).trans qq5
        have qq10 : zsl h29 r5 (1 : Int).toNat = yR r6 := (B_h29.sl H_r5 (bNo_ok (by decide) _)).trans qq6
        have qq11 : zsl h29 r5 (0 : Int).toNat = yR r7 := (B_h29.sl H_r5 (bNo_ok (by decide) _)).trans qq7
        have qq12 : zsl h29 k0 15 = yR r15 := (B_h29.sl H_k0 (by decide)).trans qq8
        show yG _ _ _ _ _ _ _ _ _ _ [] _
        refine yG.load xak rfl (fun _ _ => rfl) (v := yR k0) rfl rfl ?_
        refine yG.getO A_h29.1 (w_Shorts_first W H_k0) rfl rfl (fun r31 H_r31 O_r31 q_r31 => ?_)
        obtain ⟨n_r31, N_r31⟩ : ∃ n : Int, n = ((zat G r31 : Nat) : Int) := ⟨_, rfl⟩
        have L_r31 := n_Big W H_r31
        refine yG.load xak rfl (fun _ _ => rfl) (v := yR k0) rfl rfl ?_
        refine yG.getS9 A_h29.1 (w_Shorts_square W H_k0) qq9 rfl rfl ?_
        refine yG.load xik rfl (fun _ _ => rfl) (v := yI (0)) rfl rfl ?_
        refine yG.aaldO (r := 35) A_h29.1 (v_Big2 W H_r5) rfl rfl rfl (by omega) (by omega) (fun r32 H_r32 q_r32 => ?_)
        obtain ⟨n_r32, N_r32⟩ : ∃ n : Int, n = ((zat G r32 : Nat) : Int) := ⟨_, rfl⟩
        have L_r32 := n_Big W H_r32
        have s_r32 : r32 = r7 := by have e9 := q_r32.symm.trans qq11; cases e9; rfl
        rw [s_r32]
        refine yG.invV (rest := []) A_h29.1 (bOb (d_Big W) H_r31) rfl rfl rfl rfl (c_Big_copy W (d + 2) A_h29.1 H_r31 H_r7) (fun rv h33 q9 => ?_)
        obtain ⟨⟨rfl, R_z34⟩, B_h33⟩ := q9
        have A_h33 := A_h29.tr B_h33 (by decide)
        have qq13 : zsl h33 k0 16 = yR r5 := (B_h33.sl H_k0 (by decide)).trans qq9
        have qq14 : zsl h33 r5 (1 : Int).toNat = yR r6 := (B_h33.sl H_r5 (bNo_ok (by decide) _)).trans qq10
        have qq15 : zsl h33 r5 (0 : Int).toNat = yR r7 := (B_h33.sl H_r5 (bNo_ok (by decide) _)).trans qq11
        have qq16 : zsl h33 k0 15 = yR r15 := (B_h33.sl H_k0 (by decide)).trans qq12
        have qq17 : zsl h33 k0 18 = yR r31 := (B_h33.sl H_k0 (by decide)).trans q_r31
        show yG _ _ _ _ _ _ _ _ _ _ [] _
        refine yG.load xak rfl (fun _ _ => rfl) (v := yR k0) rfl rfl ?_
        refine yG.getS9 A_h33.1 (w_Shorts_first W H_k0) qq17 rfl rfl ?_
        refine yG.load xlk2 rfl (fun _ _ => rfl) (v := yJ (z18)) rfl rfl ?_
        refine yG.invV (rest := []) A_h33.1 (bOb (d_Big W) H_r31) rfl rfl rfl rfl (c_Big_scale W (d + 2) A_h33.1 H_r31 (z18) (by omega) (by omega)) (fun rv h35 q9 => ?_)
        obtain ⟨⟨rfl, R_z36⟩, B_h35⟩ := q9
        have A_h35 := A_h33.tr B_h35 (by decide)
        have qq18 : zsl h35 k0 16 = yR r5 := (B_h35.sl H_k0 (by decide)).trans qq13
        have qq19 : zsl h35 r5 (1 : Int).toNat = yR r6 := (B_h35.sl H_r5 (bNo_ok (by decide) _)).trans qq14
        have qq20 : zsl h35 r5 (0 : Int).toNat = yR r7 := (B_h35.sl H_r5 (bNo_ok (by decide) _)).trans qq15
        have qq21 : zsl h35 k0 15 = yR r15 := (B_h35.sl H_k0 (by decide)).trans qq16
        have qq22 : zsl h35 k0 18 = yR r31 := (B_h35.sl H_k0 (by decide)).trans qq17
        show yG _ _ _ _ _ _ _ _ _ _ [] _
        refine yG.load xak rfl (fun _ _ => rfl) (v := yR k0) rfl rfl ?_
        refine yG.getS9 A_h35.1 (w_Shorts_first W H_k0) qq22 rfl rfl ?_
        refine yG.load xlk2 rfl (fun _ _ => rfl) (v := yJ (z18)) rfl rfl ?_
        refine yG.invV (rest := []) A_h35.1 (bOb (d_Big W) H_r31) rfl rfl rfl rfl (c_Big_scale W (d + 2) A_h35.1 H_r31 (z18) (by omega) (by omega)) (fun rv h37 q9 => ?_)
        obtain ⟨⟨rfl, R_z38⟩, B_h37⟩ := q9
        have A_h37 := A_h35.tr B_h37 (by decide)
        have qq23 : zsl h37 k0 16 = yR r5 := (B_h37.sl H_k0 (by decide)).trans qq18
        have qq24 : zsl h37 r5 (1 : Int).toNat = yR r6 := (B_h37.sl H_r5 (bNo_ok (by decide) _)).trans qq19
        have qq25 : zsl h37 r5 (0 : Int).toNat = yR r7 := (B_h37.sl H_r5 (bNo_ok (by decide) _)).trans qq20
        have qq26 : zsl h37 k0 15 = yR r15 := (B_h37.sl H_k0 (by decide)).trans qq21
        have qq27 : zsl h37 k0 18 = yR r31 := (B_h37.sl H_k0 (by decide)).trans qq22
        show yG _ _ _ _ _ _ _ _ _ _ [] _
        refine yG.load xik rfl (fun _ _ => rfl) (v := yI (0)) rfl rfl ?_
        refine yG.ret rfl (fun _ _ => rfl) ?_
        exact (yP.bool (by omega) ⟨⟨0, rfl, by omega, by omega, by omega⟩, A_h37⟩)
      · have c14 : (z13 : Int) > 0 := c14
        refine yG.load xak rfl (fun _ _ => rfl) (v := yR k0) rfl rfl ?_
        refine yG.getS9 A_h3.1 (w_Shorts_square W H_k0) q_r5 rfl rfl ?_
        refine yG.load xik rfl (fun _ _ => rfl) (v := yI (0)) rfl rfl ?_
        refine yG.aaldO (r := 35) A_h3.1 (v_Big2 W H_r5) rfl rfl rfl (by omega) (by omega) (fun r39 H_r39 q_r39 => ?_)
        obtain ⟨n_r39, N_r39⟩ : ∃ n : Int, n = ((zat G r39 : Nat) : Int) := ⟨_, rfl⟩
        have L_r39 := n_Big W H_r39
        have s_r39 : r39 = r7 := by have e9 := q_r39.symm.trans q_r7; cases e9; rfl
        rw [s_r39]
        refine yG.invV (rest := []) A_h3.1 (bOb (d_Big W) H_r7) rfl rfl rfl rfl (c_Big_sign W (d + 3) A_h3.1 H_r7) (fun rv hp9 q9 => ?_)
        obtain ⟨⟨z40, rfl, l_z40, u_z40, R_z40⟩, e9⟩ := q9
        rw [e9]
        show yG _ _ _ _ _ _ _ _ _ _ (yI z40 :: []) _
        refine yG.ifz rfl (t := 92) rfl ⟨by omega, by omega⟩ (fun c41 => ?_) (fun c41 => ?_)
        · have c41 : (z40 : Int) ≤ 0 := c41
          refine yG.num (c := 0) rfl (fun _ _ => rfl) (by decide) ?_
          refine yG.store1 xik (L' := [(5, yI (0)), (4, yI (0)), (0, yR k0), (1, yI (p1)), (2, yI (p2)), (3, yI (p3))]) rfl (fun _ _ => rfl) rfl rfl ?_
          refine yG.load xak rfl (fun _ _ => rfl) (v := yR k0) rfl rfl ?_
          refine yG.getO A_h3.1 (w_Shorts_reach W H_k0) rfl rfl (fun r42 H_r42 O_r42 q_r42 => ?_)
          refine yG.num (c := 0) rfl (fun _ _ => rfl) (by decide) ?_
          refine yG.iald A_h3.1 (v_Shorts_reach W H_r42) rfl (by omega) (by omega) (fun z43 e_z43 i_z43 l_z43 u_z43 => ?_)
          refine yG.i2l rfl ⟨by omega, by omega⟩ ?_
          refine yG.load xak rfl (fun _ _ => rfl) (v := yR k0) rfl rfl ?_
          refine yG.getS9 A_h3.1 (w_Shorts_reach W H_k0) q_r42 rfl rfl ?_
          refine yG.num (c := 1) rfl (fun _ _ => rfl) (by decide) ?_
          refine yG.iald A_h3.1 (v_Shorts_reach W H_r42) rfl (by omega) (by omega) (fun z44 e_z44 i_z44 l_z44 u_z44 => ?_)
          refine yG.i2l rfl ⟨by omega, by omega⟩ ?_
          refine yG.lmul rfl ?_
          obtain ⟨z45, e_z45⟩ : ∃ z : Int, z = z43 * z44 := ⟨_, rfl⟩
          rw [← e_z45]
          have b_z45 : -4611686018427387904 ≤ z45 ∧ z45 ≤ 4611686018427387904 := e_z45 ▸ ymuls (A := 2147483648) (B := 2147483648) (by omega) (by omega) (by omega) (by omega) (by decide)
          refine yG.store2 xlk2 (L' := [(6, yJ (z45)), (5, yI (0)), (4, yI (0)), (0, yR k0), (1, yI (p1)), (2, yI (p2)), (3, yI (p3))]) rfl (fun _ _ => rfl) rfl rfl ?_
          refine yG.load xak rfl (fun _ _ => rfl) (v := yR k0) rfl rfl ?_
          refine yG.getO A_h3.1 (w_Shorts_second W H_k0) rfl rfl (fun r46 H_r46 O_r46 q_r46 => ?_)
          obtain ⟨n_r46, N_r46⟩ : ∃ n : Int, n = ((zat G r46 : Nat) : Int) := ⟨_, rfl⟩
          have L_r46 := n_Big W H_r46
          refine yG.load xak rfl (fun _ _ => rfl) (v := yR k0) rfl rfl ?_
          refine yG.getS9 A_h3.1 (w_Shorts_square W H_k0) q_r5 rfl rfl ?_
          refine yG.load xik rfl (fun _ _ => rfl) (v := yI (0)) rfl rfl ?_
          refine yG.aaldO (r := 35) A_h3.1 (v_Big2 W H_r5) rfl rfl rfl (by omega) (by omega) (fun r47 H_r47 q_r47 => ?_)
          obtain ⟨n_r47, N_r47⟩ : ∃ n : Int, n = ((zat G r47 : Nat) : Int) := ⟨_, rfl⟩
          have L_r47 := n_Big W H_r47
          have s_r47 : r47 = r7 := by have e9 := q_r47.symm.trans q_r7; cases e9; rfl
          rw [s_r47]
          refine yG.invV (rest := []) A_h3.1 (bOb (d_Big W) H_r46) rfl rfl rfl rfl (c_Big_copy W (d + 2) A_h3.1 H_r46 H_r7) (fun rv h48 q9 => ?_)
          obtain ⟨⟨rfl, R_z49⟩, B_h48⟩ := q9
          have A_h48 := A_h3.tr B_h48 (by decide)
          have qq28 : zsl h48 k0 16 = yR r5 := (B_h48.sl H_k0 (by decide)).trans q_r5
          have qq29 : zsl h48 r5 (1 : Int).toNat = yR r6 := (B_h48.sl H_r5 (bNo_ok (by decide) _)).trans q_r6
          have qq30 : zsl h48 r5 (0 : Int).toNat = yR r7 := (B_h48.sl H_r5 (bNo_ok (by decide) _)).trans q_r7
          have qq31 : zsl h48 k0 15 = yR r42 := (B_h48.sl H_k0 (by decide)).trans q_r42
          show yG _ _ _ _ _ _ _ _ _ _ [] _
          refine yG.load xak rfl (fun _ _ => rfl) (v := yR k0) rfl rfl ?_
          refine yG.load xak rfl (fun _ _ => rfl) (v := yR k0) rfl rfl ?_
          refine yG.getO A_h48.1 (w_Shorts_shape W H_k0) rfl rfl (fun r50 H_r50 O_r50 q_r50 => ?_)
          refine yG.getO A_h48.1 (w_Shape_ends W H_r50) rfl rfl (fun r51 H_r51 O_r51 q_r51 => ?_)
          refine yG.load xik rfl (fun _ _ => rfl) (v := yI (p1)) rfl rfl ?_
          refine yG.aaldO (r := 57) A_h48.1 (v_Shape_ends W H_r51) rfl rfl rfl (by omega) (by omega) (fun r52 H_r52 q_r52 => ?_)
          refine yG.load xik rfl (fun _ _ => rfl) (v := yI (p2)) rfl rfl ?_
          refine yG.iald A_h48.1 (v_Shape_endss W H_r52) rfl (by omega) (by omega) (fun z53 e_z53 i_z53 l_z53 u_z53 => ?_)
          refine yG.invV (rest := []) A_h48.1 (bOb (d_Shorts W) H_k0) rfl rfl rfl rfl (c_Shorts_volts W d A_h48.1 H_k0 (z53) (by omega) (by omega)) (fun rv h54 q9 => ?_)
          obtain ⟨⟨rfl, R_z55⟩, B_h54⟩ := q9
          have A_h54 := A_h48.tr B_h54 (by decide)
          have qq32 : zsl h54 k0 16 = yR r5 := (B_h54.sl H_k0 (by decide)).trans qq28
          have qq33 : zsl h54 r5 (1 : Int).toNat = yR r6 := (B_h54.sl H_r5 (bNo_ok (by decide) _)).trans qq29
          have qq34 : zsl h54 r5 (0 : Int).toNat = yR r7 := (B_h54.sl H_r5 (bNo_ok (by decide) _)).trans qq30
          have qq35 : zsl h54 k0 15 = yR r42 := (B_h54.sl H_k0 (by decide)).trans qq31
          show yG _ _ _ _ _ _ _ _ _ _ [] _
          refine yG.load xak rfl (fun _ _ => rfl) (v := yR k0) rfl rfl ?_
          refine yG.invV (rest := []) A_h54.1 (bOb (d_Shorts W) H_k0) rfl rfl rfl rfl (c_Shorts_squares W d A_h54.1 H_k0) (fun rv h56 q9 => ?_)
          obtain ⟨⟨rfl, R_z57⟩, B_h56⟩ := q9
          have A_h56 := A_h54.tr B_h56 (by decide)
          have qq36 : zsl h56 k0 16 = yR r5 := (B_h56.sl H_k0 (by decide)).trans qq32
          have qq37 : zsl h56 r5 (1 : Int).toNat = yR r6 := (B_h56.sl H_r5 (bNo_ok (by decide) _)).trans qq33
          have qq38 : zsl h56 r5 (0 : Int).toNat = yR r7 := (B_h56.sl H_r5 (bNo_ok (by decide) _)).trans qq34
          have qq39 : zsl h56 k0 15 = yR r42 := (B_h56.sl H_k0 (by decide)).trans qq35
          show yG _ _ _ _ _ _ _ _ _ _ [] _
          refine yG.load xak rfl (fun _ _ => rfl) (v := yR k0) rfl rfl ?_
          refine yG.getO A_h56.1 (w_Shorts_first W H_k0) rfl rfl (fun r58 H_r58 O_r58 q_r58 => ?_)
          obtain ⟨n_r58, N_r58⟩ : ∃ n : Int, n = ((zat G r58 : Nat) : Int) := ⟨_, rfl⟩
          have L_r58 := n_Big W H_r58
          refine yG.load xak rfl (fun _ _ => rfl) (v := yR k0) rfl rfl ?_
          refine yG.getS9 A_h56.1 (w_Shorts_square W H_k0) qq36 rfl rfl ?_
          refine yG.load xik rfl (fun _ _ => rfl) (v := yI (0)) rfl rfl ?_
          refine yG.aaldO (r := 35) A_h56.1 (v_Big2 W H_r5) rfl rfl rfl (by omega) (by omega) (fun r59 H_r59 q_r59 => ?_)
          obtain ⟨n_r59, N_r59⟩ : ∃ n : Int, n = ((zat G r59 : Nat) : Int) := ⟨_, rfl⟩
          have L_r59 := n_Big W H_r59
          have s_r59 : r59 = r7 := by have e9 := q_r59.symm.trans qq38; cases e9; rfl
          rw [s_r59]
          refine yG.invV (rest := []) A_h56.1 (bOb (d_Big W) H_r58) rfl rfl rfl rfl (c_Big_copy W (d + 2) A_h56.1 H_r58 H_r7) (fun rv h60 q9 => ?_)
          obtain ⟨⟨rfl, R_z61⟩, B_h60⟩ := q9
          have A_h60 := A_h56.tr B_h60 (by decide)
          have qq40 : zsl h60 k0 16 = yR r5 := (B_h60.sl H_k0 (by decide)).trans qq36
          have qq41 : zsl h60 r5 (1 : Int).toNat = yR r6 := (B_h60.sl H_r5 (bNo_ok (by decide) _)).trans qq37
          have qq42 : zsl h60 r5 (0 : Int).toNat = yR r7 := (B_h60.sl H_r5 (bNo_ok (by decide) _)).trans qq38
          have qq43 : zsl h60 k0 15 = yR r42 := (B_h60.sl H_k0 (by decide)).trans qq39
          have qq44 : zsl h60 k0 18 = yR r58 := (B_h60.sl H_k0 (by decide)).trans q_r58
          show yG _ _ _ _ _ _ _ _ _ _ [] _
          refine yG.load xak rfl (fun _ _ => rfl) (v := yR k0) rfl rfl ?_
          refine yG.getS9 A_h60.1 (w_Shorts_first W H_k0) qq44 rfl rfl ?_
          refine yG.load xlk2 rfl (fun _ _ => rfl) (v := yJ (z45)) rfl rfl ?_
          refine yG.invV (rest := []) A_h60.1 (bOb (d_Big W) H_r58) rfl rfl rfl rfl (c_Big_scale W (d + 2) A_h60.1 H_r58 (z45) (by omega) (by omega)) (fun rv h62 q9 => ?_)
          obtain ⟨⟨rfl, R_z63⟩, B_h62⟩ := q9
          have A_h62 := A_h60.tr B_h62 (by decide)
          have qq45 : zsl h62 k0 16 = yR r5 := (B_h62.sl H_k0 (by decide)).trans qq40
          have qq46 : zsl h62 r5 (1 : Int).toNat = yR r6 := (B_h62.sl H_r5 (bNo_ok (by decide) _)).trans qq41
          have qq47 : zsl h62 r5 (0 : Int).toNat = yR r7 := (B_h62.sl H_r5 (bNo_ok (by decide) _)).trans qq42
          have qq48 : zsl h62 k0 15 = yR r42 := (B_h62.sl H_k0 (by decide)).trans qq43
          have qq49 : zsl h62 k0 18 = yR r58 := (B_h62.sl H_k0 (by decide)).trans qq44
          show yG _ _ _ _ _ _ _ _ _ _ [] _
          refine yG.load xak rfl (fun _ _ => rfl) (v := yR k0) rfl rfl ?_
          refine yG.getS9 A_h62.1 (w_Shorts_first W H_k0) qq49 rfl rfl ?_
          refine yG.load xlk2 rfl (fun _ _ => rfl) (v := yJ (z45)) rfl rfl ?_
          refine yG.invV (rest := []) A_h62.1 (bOb (d_Big W) H_r58) rfl rfl rfl rfl (c_Big_scale W (d + 2) A_h62.1 H_r58 (z45) (by omega) (by omega)) (fun rv h64 q9 => ?_)
          obtain ⟨⟨rfl, R_z65⟩, B_h64⟩ := q9
          have A_h64 := A_h62.tr B_h64 (by decide)
          have qq50 : zsl h64 k0 16 = yR r5 := (B_h64.sl H_k0 (by decide)).trans qq45
          have qq51 : zsl h64 r5 (1 : Int).toNat = yR r6 := (B_h64.sl H_r5 (bNo_ok (by decide) _)).trans qq46
          have qq52 : zsl h64 r5 (0 : Int).toNat = yR r7 := (B_h64.sl H_r5 (bNo_ok (by decide) _)).trans qq47
          have qq53 : zsl h64 k0 15 = yR r42 := (B_h64.sl H_k0 (by decide)).trans qq48
          have qq54 : zsl h64 k0 18 = yR r58 := (B_h64.sl H_k0 (by decide)).trans qq49
          show yG _ _ _ _ _ _ _ _ _ _ [] _
          refine yG.load xik rfl (fun _ _ => rfl) (v := yI (0)) rfl rfl ?_
          refine yG.ret rfl (fun _ _ => rfl) ?_
          exact (yP.bool (by omega) ⟨⟨0, rfl, by omega, by omega, by omega⟩, A_h64⟩)
        · have c41 : (z40 : Int) > 0 := c41
          refine yG.num (c := 1) rfl (fun _ _ => rfl) (by decide) ?_
          refine yG.goto rfl (t := 93) rfl ?_
          refine yG.store1 xik (L' := [(5, yI (1)), (4, yI (0)), (0, yR k0), (1, yI (p1)), (2, yI (p2)), (3, yI (p3))]) rfl (fun _ _ => rfl) rfl rfl ?_
          refine yG.load xak rfl (fun _ _ => rfl) (v := yR k0) rfl rfl ?_
          refine yG.getO A_h3.1 (w_Shorts_reach W H_k0) rfl rfl (fun r66 H_r66 O_r66 q_r66 => ?_)
          refine yG.num (c := 0) rfl (fun _ _ => rfl) (by decide) ?_
          refine yG.iald A_h3.1 (v_Shorts_reach W H_r66) rfl (by omega) (by omega) (fun z67 e_z67 i_z67 l_z67 u_z67 => ?_)
          refine yG.i2l rfl ⟨by omega, by omega⟩ ?_
          refine yG.load xak rfl (fun _ _ => rfl) (v := yR k0) rfl rfl ?_
          refine yG.getS9 A_h3.1 (w_Shorts_reach W H_k0) q_r66 rfl rfl ?_
          refine yG.num (c := 1) rfl (fun _ _ => rfl) (by decide) ?_
          refine yG.iald A_h3.1 (v_Shorts_reach W H_r66) rfl (by omega) (by omega) (fun z68 e_z68 i_z68 l_z68 u_z68 => ?_)
          refine yG.i2l rfl ⟨by omega, by omega⟩ ?_
          refine yG.lmul rfl ?_
          obtain ⟨z69, e_z69⟩ : ∃ z : Int, z = z67 * z68 := ⟨_, rfl⟩
          rw [← e_z69]
          have b_z69 : -4611686018427387904 ≤ z69 ∧ z69 ≤ 4611686018427387904 := e_z69 ▸ ymuls (A := 2147483648) (B := 2147483648) (by omega) (by omega) (by omega) (by omega) (by decide)
          refine yG.store2 xlk2 (L' := [(6, yJ (z69)), (5, yI (1)), (4, yI (0)), (0, yR k0), (1, yI (p1)), (2, yI (p2)), (3, yI (p3))]) rfl (fun _ _ => rfl) rfl rfl ?_
          refine yG.load xak rfl (fun _ _ => rfl) (v := yR k0) rfl rfl ?_
          refine yG.getO A_h3.1 (w_Shorts_second W H_k0) rfl rfl (fun r70 H_r70 O_r70 q_r70 => ?_)
          obtain ⟨n_r70, N_r70⟩ : ∃ n : Int, n = ((zat G r70 : Nat) : Int) := ⟨_, rfl⟩
          have L_r70 := n_Big W H_r70
          refine yG.load xak rfl (fun _ _ => rfl) (v := yR k0) rfl rfl ?_
          refine yG.getS9 A_h3.1 (w_Shorts_square W H_k0) q_r5 rfl rfl ?_
          refine yG.load xik rfl (fun _ _ => rfl) (v := yI (0)) rfl rfl ?_
          refine yG.aaldO (r := 35) A_h3.1 (v_Big2 W H_r5) rfl rfl rfl (by omega) (by omega) (fun r71 H_r71 q_r71 => ?_)
          obtain ⟨n_r71, N_r71⟩ : ∃ n : Int, n = ((zat G r71 : Nat) : Int) := ⟨_, rfl⟩
          have L_r71 := n_Big W H_r71
          have s_r71 : r71 = r7 := by have e9 := q_r71.symm.trans q_r7; cases e9; rfl
          rw [s_r71]
          refine yG.invV (rest := []) A_h3.1 (bOb (d_Big W) H_r70) rfl rfl rfl rfl (c_Big_copy W (d + 2) A_h3.1 H_r70 H_r7) (fun rv h72 q9 => ?_)
          obtain ⟨⟨rfl, R_z73⟩, B_h72⟩ := q9
          have A_h72 := A_h3.tr B_h72 (by decide)
          have qq55 : zsl h72 k0 16 = yR r5 := (B_h72.sl H_k0 (by decide)).trans q_r5
          have qq56 : zsl h72 r5 (1 : Int).toNat = yR r6 := (B_h72.sl H_r5 (bNo_ok (by decide) _)).trans q_r6
          have qq57 : zsl h72 r5 (0 : Int).toNat = yR r7 := (B_h72.sl H_r5 (bNo_ok (by decide) _)).trans q_r7
          have qq58 : zsl h72 k0 15 = yR r66 := (B_h72.sl H_k0 (by decide)).trans q_r66
          show yG _ _ _ _ _ _ _ _ _ _ [] _
          refine yG.load xak rfl (fun _ _ => rfl) (v := yR k0) rfl rfl ?_
          refine yG.load xak rfl (fun _ _ => rfl) (v := yR k0) rfl rfl ?_
          refine yG.getO A_h72.1 (w_Shorts_shape W H_k0) rfl rfl (fun r74 H_r74 O_r74 q_r74 => ?_)
          refine yG.getO A_h72.1 (w_Shape_ends W H_r74) rfl rfl (fun r75 H_r75 O_r75 q_r75 => ?_)
          refine yG.load xik rfl (fun _ _ => rfl) (v := yI (p1)) rfl rfl ?_
          refine yG.aaldO (r := 57) A_h72.1 (v_Shape_ends W H_r75) rfl rfl rfl (by omega) (by omega) (fun r76 H_r76 q_r76 => ?_)
          refine yG.load xik rfl (fun _ _ => rfl) (v := yI (p2)) rfl rfl ?_
          refine yG.iald A_h72.1 (v_Shape_endss W H_r76) rfl (by omega) (by omega) (fun z77 e_z77 i_z77 l_z77 u_z77 => ?_)
          refine yG.invV (rest := []) A_h72.1 (bOb (d_Shorts W) H_k0) rfl rfl rfl rfl (c_Shorts_volts W d A_h72.1 H_k0 (z77) (by omega) (by omega)) (fun rv h78 q9 => ?_)
          obtain ⟨⟨rfl, R_z79⟩, B_h78⟩ := q9
          have A_h78 := A_h72.tr B_h78 (by decide)
          have qq59 : zsl h78 k0 16 = yR r5 := (B_h78.sl H_k0 (by decide)).trans qq55
          have qq60 : zsl h78 r5 (1 : Int).toNat = yR r6 := (B_h78.sl H_r5 (bNo_ok (by decide) _)).trans qq56
          have qq61 : zsl h78 r5 (0 : Int).toNat = yR r7 := (B_h78.sl H_r5 (bNo_ok (by decide) _)).trans qq57
          have qq62 : zsl h78 k0 15 = yR r66 := (B_h78.sl H_k0 (by decide)).trans qq58
          show yG _ _ _ _ _ _ _ _ _ _ [] _
          refine yG.load xak rfl (fun _ _ => rfl) (v := yR k0) rfl rfl ?_
          refine yG.invV (rest := []) A_h78.1 (bOb (d_Shorts W) H_k0) rfl rfl rfl rfl (c_Shorts_squares W d A_h78.1 H_k0) (fun rv h80 q9 => ?_)
          obtain ⟨⟨rfl, R_z81⟩, B_h80⟩ := q9
          have A_h80 := A_h78.tr B_h80 (by decide)
          have qq63 : zsl h80 k0 16 = yR r5 := (B_h80.sl H_k0 (by decide)).trans qq59
          have qq64 : zsl h80 r5 (1 : Int).toNat = yR r6 := (B_h80.sl H_r5 (bNo_ok (by decide) _)).trans qq60
          have qq65 : zsl h80 r5 (0 : Int).toNat = yR r7 := (B_h80.sl H_r5 (bNo_ok (by decide) _)).trans qq61
          have qq66 : zsl h80 k0 15 = yR r66 := (B_h80.sl H_k0 (by decide)).trans qq62
          show yG _ _ _ _ _ _ _ _ _ _ [] _
          refine yG.load xak rfl (fun _ _ => rfl) (v := yR k0) rfl rfl ?_
          refine yG.getO A_h80.1 (w_Shorts_first W H_k0) rfl rfl (fun r82 H_r82 O_r82 q_r82 => ?_)
          obtain ⟨n_r82, N_r82⟩ : ∃ n : Int, n = ((zat G r82 : Nat) : Int) := ⟨_, rfl⟩
          have L_r82 := n_Big W H_r82
          refine yG.load xak rfl (fun _ _ => rfl) (v := yR k0) rfl rfl ?_
          refine yG.getS9 A_h80.1 (w_Shorts_square W H_k0) qq63 rfl rfl ?_
          refine yG.load xik rfl (fun _ _ => rfl) (v := yI (0)) rfl rfl ?_
          refine yG.aaldO (r := 35) A_h80.1 (v_Big2 W H_r5) rfl rfl rfl (by omega) (by omega) (fun r83 H_r83 q_r83 => ?_)
          obtain ⟨n_r83, N_r83⟩ : ∃ n : Int, n = ((zat G r83 : Nat) : Int) := ⟨_, rfl⟩
          have L_r83 := n_Big W H_r83
          have s_r83 : r83 = r7 := by have e9 := q_r83.symm.trans qq65; cases e9; rfl
          rw [s_r83]
          refine yG.invV (rest := []) A_h80.1 (bOb (d_Big W) H_r82) rfl rfl rfl rfl (c_Big_copy W (d + 2) A_h80.1 H_r82 H_r7) (fun rv h84 q9 => ?_)
          obtain ⟨⟨rfl, R_z85⟩, B_h84⟩ := q9
          have A_h84 := A_h80.tr B_h84 (by decide)
          have qq67 : zsl h84 k0 16 = yR r5 := (B_h84.sl H_k0 (by decide)).trans qq63
          have qq68 : zsl h84 r5 (1 : Int).toNat = yR r6 := (B_h84.sl H_r5 (bNo_ok (by decide) _)).trans qq64
          have qq69 : zsl h84 r5 (0 : Int).toNat = yR r7 := (B_h84.sl H_r5 (bNo_ok (by decide) _)).trans qq65
          have qq70 : zsl h84 k0 15 = yR r66 := (B_h84.sl H_k0 (by decide)).trans qq66
          have qq71 : zsl h84 k0 18 = yR r82 := (B_h84.sl H_k0 (by decide)).trans q_r82
          show yG _ _ _ _ _ _ _ _ _ _ [] _
          refine yG.load xak rfl (fun _ _ => rfl) (v := yR k0) rfl rfl ?_
          refine yG.getS9 A_h84.1 (w_Shorts_first W H_k0) qq71 rfl rfl ?_
          refine yG.load xlk2 rfl (fun _ _ => rfl) (v := yJ (z69)) rfl rfl ?_
          refine yG.invV (rest := []) A_h84.1 (bOb (d_Big W) H_r82) rfl rfl rfl rfl (c_Big_scale W (d + 2) A_h84.1 H_r82 (z69) (by omega) (by omega)) (fun rv h86 q9 => ?_)
          obtain ⟨⟨rfl, R_z87⟩, B_h86⟩ := q9
          have A_h86 := A_h84.tr B_h86 (by decide)
          have qq72 : zsl h86 k0 16 = yR r5 := (B_h86.sl H_k0 (by decide)).trans qq67
          have qq73 : zsl h86 r5 (1 : Int).toNat = yR r6 := (B_h86.sl H_r5 (bNo_ok (by decide) _)).trans qq68
          have qq74 : zsl h86 r5 (0 : Int).toNat = yR r7 := (B_h86.sl H_r5 (bNo_ok (by decide) _)).trans qq69
          have qq75 : zsl h86 k0 15 = yR r66 := (B_h86.sl H_k0 (by decide)).trans qq70
          have qq76 : zsl h86 k0 18 = yR r82 := (B_h86.sl H_k0 (by decide)).trans qq71
          show yG _ _ _ _ _ _ _ _ _ _ [] _
          refine yG.load xak rfl (fun _ _ => rfl) (v := yR k0) rfl rfl ?_
          refine yG.getS9 A_h86.1 (w_Shorts_first W H_k0) qq76 rfl rfl ?_
          refine yG.load xlk2 rfl (fun _ _ => rfl) (v := yJ (z69)) rfl rfl ?_
          refine yG.invV (rest := []) A_h86.1 (bOb (d_Big W) H_r82) rfl rfl rfl rfl (c_Big_scale W (d + 2) A_h86.1 H_r82 (z69) (by omega) (by omega)) (fun rv h88 q9 => ?_)
          obtain ⟨⟨rfl, R_z89⟩, B_h88⟩ := q9
          have A_h88 := A_h86.tr B_h88 (by decide)
          have qq77 : zsl h88 k0 16 = yR r5 := (B_h88.sl H_k0 (by decide)).trans qq72
          have qq78 : zsl h88 r5 (1 : Int).toNat = yR r6 := (B_h88.sl H_r5 (bNo_ok (by decide) _)).trans qq73
          have qq79 : zsl h88 r5 (0 : Int).toNat = yR r7 := (B_h88.sl H_r5 (bNo_ok (by decide) _)).trans qq74
          have qq80 : zsl h88 k0 15 = yR r66 := (B_h88.sl H_k0 (by decide)).trans qq75
          have qq81 : zsl h88 k0 18 = yR r82 := (B_h88.sl H_k0 (by decide)).trans qq76
          show yG _ _ _ _ _ _ _ _ _ _ [] _
          refine yG.load xik rfl (fun _ _ => rfl) (v := yI (1)) rfl rfl ?_
          refine yG.ret rfl (fun _ _ => rfl) ?_
          exact (yP.bool (by omega) ⟨⟨1, rfl, by omega, by omega, by omega⟩, A_h88⟩)
    · have c10 : (p3 : Int) = 0 := c10
      refine yG.load xak rfl (fun _ _ => rfl) (v := yR k0) rfl rfl ?_
      refine yG.getO A_h3.1 (w_Shorts_first W H_k0) rfl rfl (fun r90 H_r90 O_r90 q_r90 => ?_)
      obtain ⟨n_r90, N_r90⟩ : ∃ n : Int, n = ((zat G r90 : Nat) : Int) := ⟨_, rfl⟩
      have L_r90 := n_Big W H_r90
      refine yG.load xak rfl (fun _ _ => rfl) (v := yR k0) rfl rfl ?_
      refine yG.getS9 A_h3.1 (w_Shorts_square W H_k0) q_r5 rfl rfl ?_
      refine yG.load xik rfl (fun _ _ => rfl) (v := yI (0)) rfl rfl ?_
      refine yG.aaldO (r := 35) A_h3.1 (v_Big2 W H_r5) rfl rfl rfl (by omega) (by omega) (fun r91 H_r91 q_r91 => ?_)
      obtain ⟨n_r91, N_r91⟩ : ∃ n : Int, n = ((zat G r91 : Nat) : Int) := ⟨_, rfl⟩
      have L_r91 := n_Big W H_r91
      have s_r91 : r91 = r7 := by have e9 := q_r91.symm.trans q_r7; cases e9; rfl
      rw [s_r91]
      refine yG.invV (rest := []) A_h3.1 (bOb (d_Big W) H_r90) rfl rfl rfl rfl (c_Big_copy W (d + 2) A_h3.1 H_r90 H_r7) (fun rv h92 q9 => ?_)
      obtain ⟨⟨rfl, R_z93⟩, B_h92⟩ := q9
      have A_h92 := A_h3.tr B_h92 (by decide)
      have qq82 : zsl h92 k0 16 = yR r5 := (B_h92.sl H_k0 (by decide)).trans q_r5
      have qq83 : zsl h92 r5 (1 : Int).toNat = yR r6 := (B_h92.sl H_r5 (bNo_ok (by decide) _)).trans q_r6
      have qq84 : zsl h92 r5 (0 : Int).toNat = yR r7 := (B_h92.sl H_r5 (bNo_ok (by decide) _)).trans q_r7
      have qq85 : zsl h92 k0 18 = yR r90 := (B_h92.sl H_k0 (by decide)).trans q_r90
      show yG _ _ _ _ _ _ _ _ _ _ [] _
      refine yG.load xak rfl (fun _ _ => rfl) (v := yR k0) rfl rfl ?_
      refine yG.load xak rfl (fun _ _ => rfl) (v := yR k0) rfl rfl ?_
      refine yG.getO A_h92.1 (w_Shorts_second W H_k0) rfl rfl (fun r94 H_r94 O_r94 q_r94 => ?_)
      obtain ⟨n_r94, N_r94⟩ : ∃ n : Int, n = ((zat G r94 : Nat) : Int) := ⟨_, rfl⟩
      have L_r94 := n_Big W H_r94
      refine yG.invV (rest := []) A_h92.1 (bOb (d_Shorts W) H_k0) rfl rfl rfl rfl (c_Shorts_belowSquares W (d + 1) A_h92.1 H_k0 H_r94) (fun rv h95 q9 => ?_)
      obtain ⟨⟨rfl, R_z96⟩, B_h95⟩ := q9
      have A_h95 := A_h92.tr B_h95 (by decide)
      have qq86 : zsl h95 k0 16 = yR r5 := (B_h95.sl H_k0 (by decide)).trans qq82
      have qq87 : zsl h95 r5 (1 : Int).toNat = yR r6 := (B_h95.sl H_r5 (bNo_ok (by decide) _)).trans qq83
      have qq88 : zsl h95 r5 (0 : Int).toNat = yR r7 := (B_h95.sl H_r5 (bNo_ok (by decide) _)).trans qq84
      have qq89 : zsl h95 k0 18 = yR r90 := (B_h95.sl H_k0 (by decide)).trans qq85
      show yG _ _ _ _ _ _ _ _ _ _ [] _
      refine yG.num (c := 1) rfl (fun _ _ => rfl) (by decide) ?_
      refine yG.ret rfl (fun _ _ => rfl) ?_
      exact (yP.bool (by omega) ⟨⟨1, rfl, by omega, by omega, by omega⟩, A_h95⟩)
  · have c9 : (z8 : Int) > 0 := c9
    refine yG.num (c := 1) rfl (fun _ _ => rfl) (by decide) ?_
    refine yG.goto rfl (t := 33) rfl ?_
    refine yG.store1 xik (L' := [(4, yI (1)), (0, yR k0), (1, yI (p1)), (2, yI (p2)), (3, yI (p3))]) rfl (fun _ _ => rfl) rfl rfl ?_
    refine yG.load xik rfl (fun _ _ => rfl) (v := yI (p3)) rfl rfl ?_
    refine yG.ifz rfl (t := 63) rfl ⟨by omega, by omega⟩ (fun c97 => ?_) (fun c97 => ?_)
    · have c97 : (p3 : Int) ≠ 0 := c97
      refine yG.load xak rfl (fun _ _ => rfl) (v := yR k0) rfl rfl ?_
      refine yG.getO A_h3.1 (w_Shorts_asked W H_k0) rfl rfl (fun r98 H_r98 O_r98 q_r98 => ?_)
      refine yG.num (c := 1) rfl (fun _ _ => rfl) (by decide) ?_
      refine yG.aaldO (r := 35) A_h3.1 (v_Big3 W H_r98) rfl rfl rfl (by omega) (by omega) (fun r99 H_r99 q_r99 => ?_)
      obtain ⟨n_r99, N_r99⟩ : ∃ n : Int, n = ((zat G r99 : Nat) : Int) := ⟨_, rfl⟩
      have L_r99 := n_Big W H_r99
      refine yG.invV (rest := []) A_h3.1 (bOb (d_Big W) H_r99) rfl rfl rfl rfl (c_Big_sign W (d + 3) A_h3.1 H_r99) (fun rv hp9 q9 => ?_)
      obtain ⟨⟨z100, rfl, l_z100, u_z100, R_z100⟩, e9⟩ := q9
      rw [e9]
      show yG _ _ _ _ _ _ _ _ _ _ (yI z100 :: []) _
      refine yG.ifz rfl (t := 92) rfl ⟨by omega, by omega⟩ (fun c101 => ?_) (fun c101 => ?_)
      · have c101 : (z100 : Int) ≤ 0 := c101
        refine yG.num (c := 0) rfl (fun _ _ => rfl) (by decide) ?_
        refine yG.store1 xik (L' := [(5, yI (0)), (4, yI (1)), (0, yR k0), (1, yI (p1)), (2, yI (p2)), (3, yI (p3))]) rfl (fun _ _ => rfl) rfl rfl ?_
        refine yG.load xak rfl (fun _ _ => rfl) (v := yR k0) rfl rfl ?_
        refine yG.getO A_h3.1 (w_Shorts_reach W H_k0) rfl rfl (fun r102 H_r102 O_r102 q_r102 => ?_)
        refine yG.num (c := 0) rfl (fun _ _ => rfl) (by decide) ?_
        refine yG.iald A_h3.1 (v_Shorts_reach W H_r102) rfl (by omega) (by omega) (fun z103 e_z103 i_z103 l_z103 u_z103 => ?_)
        refine yG.i2l rfl ⟨by omega, by omega⟩ ?_
        refine yG.load xak rfl (fun _ _ => rfl) (v := yR k0) rfl rfl ?_
        refine yG.getS9 A_h3.1 (w_Shorts_reach W H_k0) q_r102 rfl rfl ?_
        refine yG.num (c := 1) rfl (fun _ _ => rfl) (by decide) ?_
        refine yG.iald A_h3.1 (v_Shorts_reach W H_r102) rfl (by omega) (by omega) (fun z104 e_z104 i_z104 l_z104 u_z104 => ?_)
        refine yG.i2l rfl ⟨by omega, by omega⟩ ?_
        refine yG.lmul rfl ?_
        obtain ⟨z105, e_z105⟩ : ∃ z : Int, z = z103 * z104 := ⟨_, rfl⟩
        rw [← e_z105]
        have b_z105 : -4611686018427387904 ≤ z105 ∧ z105 ≤ 4611686018427387904 := e_z105 ▸ ymuls (A := 2147483648) (B := 2147483648) (by omega) (by omega) (by omega) (by omega) (by decide)
        refine yG.store2 xlk2 (L' := [(6, yJ (z105)), (5, yI (0)), (4, yI (1)), (0, yR k0), (1, yI (p1)), (2, yI (p2)), (3, yI (p3))]) rfl (fun _ _ => rfl) rfl rfl ?_
        refine yG.load xak rfl (fun _ _ => rfl) (v := yR k0) rfl rfl ?_
        refine yG.getO A_h3.1 (w_Shorts_second W H_k0) rfl rfl (fun r106 H_r106 O_r106 q_r106 => ?_)
        obtain ⟨n_r106, N_r106⟩ : ∃ n : Int, n = ((zat G r106 : Nat) : Int) := ⟨_, rfl⟩
        have L_r106 := n_Big W H_r106
        refine yG.load xak rfl (fun _ _ => rfl) (v := yR k0) rfl rfl ?_
        refine yG.getS9 A_h3.1 (w_Shorts_square W H_k0) q_r5 rfl rfl ?_
        refine yG.load xik rfl (fun _ _ => rfl) (v := yI (1)) rfl rfl ?_
        refine yG.aaldO (r := 35) A_h3.1 (v_Big2 W H_r5) rfl rfl rfl (by omega) (by omega) (fun r107 H_r107 q_r107 => ?_)
        obtain ⟨n_r107, N_r107⟩ : ∃ n : Int, n = ((zat G r107 : Nat) : Int) := ⟨_, rfl⟩
        have L_r107 := n_Big W H_r107
        have s_r107 : r107 = r6 := by have e9 := q_r107.symm.trans q_r6; cases e9; rfl
        rw [s_r107]
        refine yG.invV (rest := []) A_h3.1 (bOb (d_Big W) H_r106) rfl rfl rfl rfl (c_Big_copy W (d + 2) A_h3.1 H_r106 H_r6) (fun rv h108 q9 => ?_)
        obtain ⟨⟨rfl, R_z109⟩, B_h108⟩ := q9
        have A_h108 := A_h3.tr B_h108 (by decide)
        have qq90 : zsl h108 k0 16 = yR r5 := (B_h108.sl H_k0 (by decide)).trans q_r5
        have qq91 : zsl h108 r5 (1 : Int).toNat = yR r6 := (B_h108.sl H_r5 (bNo_ok (by decide) _)).trans q_r6
        have qq92 : zsl h108 r5 (0 : Int).toNat = yR r7 := (B_h108.sl H_r5 (bNo_ok (by decide) _)).trans q_r7
        have qq93 : zsl h108 k0 15 = yR r102 := (B_h108.sl H_k0 (by decide)).trans q_r102
        show yG _ _ _ _ _ _ _ _ _ _ [] _
        refine yG.load xak rfl (fun _ _ => rfl) (v := yR k0) rfl rfl ?_
        refine yG.load xak rfl (fun _ _ => rfl) (v := yR k0) rfl rfl ?_
        refine yG.getO A_h108.1 (w_Shorts_shape W H_k0) rfl rfl (fun r110 H_r110 O_r110 q_r110 => ?_)
        refine yG.getO A_h108.1 (w_Shape_ends W H_r110) rfl rfl (fun r111 H_r111 O_r111 q_r111 => ?_)
        refine yG.load xik rfl (fun _ _ => rfl) (v := yI (p1)) rfl rfl ?_
        refine yG.aaldO (r := 57) A_h108.1 (v_Shape_ends W H_r111) rfl rfl rfl (by omega) (by omega) (fun r112 H_r112 q_r112 => ?_)
        refine yG.load xik rfl (fun _ _ => rfl) (v := yI (p2)) rfl rfl ?_
        refine yG.iald A_h108.1 (v_Shape_endss W H_r112) rfl (by omega) (by omega) (fun z113 e_z113 i_z113 l_z113 u_z113 => ?_)
        refine yG.invV (rest := []) A_h108.1 (bOb (d_Shorts W) H_k0) rfl rfl rfl rfl (c_Shorts_volts W d A_h108.1 H_k0 (z113) (by omega) (by omega)) (fun rv h114 q9 => ?_)
        obtain ⟨⟨rfl, R_z115⟩, B_h114⟩ := q9
        have A_h114 := A_h108.tr B_h114 (by decide)
        have qq94 : zsl h114 k0 16 = yR r5 := (B_h114.sl H_k0 (by decide)).trans qq90
        have qq95 : zsl h114 r5 (1 : Int).toNat = yR r6 := (B_h114.sl H_r5 (bNo_ok (by decide) _)).trans qq91
        have qq96 : zsl h114 r5 (0 : Int).toNat = yR r7 := (B_h114.sl H_r5 (bNo_ok (by decide) _)).trans qq92
        have qq97 : zsl h114 k0 15 = yR r102 := (B_h114.sl H_k0 (by decide)).trans qq93
        show yG _ _ _ _ _ _ _ _ _ _ [] _
        refine yG.load xak rfl (fun _ _ => rfl) (v := yR k0) rfl rfl ?_
        refine yG.invV (rest := []) A_h114.1 (bOb (d_Shorts W) H_k0) rfl rfl rfl rfl (c_Shorts_squares W d A_h114.1 H_k0) (fun rv h116 q9 => ?_)
        obtain ⟨⟨rfl, R_z117⟩, B_h116⟩ := q9
        have A_h116 := A_h114.tr B_h116 (by decide)
        have qq98 : zsl h116 k0 16 = yR r5 := (B_h116.sl H_k0 (by decide)).trans qq94
        have qq99 : zsl h116 r5 (1 : Int).toNat = yR r6 := (B_h116.sl H_r5 (bNo_ok (by decide) _)).trans qq95
        have qq100 : zsl h116 r5 (0 : Int).toNat = yR r7 := (B_h116.sl H_r5 (bNo_ok (by decide) _)).trans qq96
        have qq101 : zsl h116 k0 15 = yR r102 := (B_h116.sl H_k0 (by decide)).trans qq97
        show yG _ _ _ _ _ _ _ _ _ _ [] _
        refine yG.load xak rfl (fun _ _ => rfl) (v := yR k0) rfl rfl ?_
        refine yG.getO A_h116.1 (w_Shorts_first W H_k0) rfl rfl (fun r118 H_r118 O_r118 q_r118 => ?_)
        obtain ⟨n_r118, N_r118⟩ : ∃ n : Int, n = ((zat G r118 : Nat) : Int) := ⟨_, rfl⟩
        have L_r118 := n_Big W H_r118
        refine yG.load xak rfl (fun _ _ => rfl) (v := yR k0) rfl rfl ?_
        refine yG.getS9 A_h116.1 (w_Shorts_square W H_k0) qq98 rfl rfl ?_
        refine yG.load xik rfl (fun _ _ => rfl) (v := yI (1)) rfl rfl ?_
        refine yG.aaldO (r := 35) A_h116.1 (v_Big2 W H_r5) rfl rfl rfl (by omega) (by omega) (fun r119 H_r119 q_r119 => ?_)
        obtain ⟨n_r119, N_r119⟩ : ∃ n : Int, n = ((zat G r119 : Nat) : Int) := ⟨_, rfl⟩
        have L_r119 := n_Big W H_r119
        have s_r119 : r119 = r6 := by have e9 := q_r119.symm.trans qq99; cases e9; rfl
        rw [s_r119]
        refine yG.invV (rest := []) A_h116.1 (bOb (d_Big W) H_r118) rfl rfl rfl rfl (c_Big_copy W (d + 2) A_h116.1 H_r118 H_r6) (fun rv h120 q9 => ?_)
        obtain ⟨⟨rfl, R_z121⟩, B_h120⟩ := q9
        have A_h120 := A_h116.tr B_h120 (by decide)
        have qq102 : zsl h120 k0 16 = yR r5 := (B_h120.sl H_k0 (by decide)).trans qq98
        have qq103 : zsl h120 r5 (1 : Int).toNat = yR r6 := (B_h120.sl H_r5 (bNo_ok (by decide) _)).trans qq99
        have qq104 : zsl h120 r5 (0 : Int).toNat = yR r7 := (B_h120.sl H_r5 (bNo_ok (by decide) _)).trans qq100
        have qq105 : zsl h120 k0 15 = yR r102 := (B_h120.sl H_k0 (by decide)).trans qq101
        have qq106 : zsl h120 k0 18 = yR r118 := (B_h120.sl H_k0 (by decide)).trans q_r118
        show yG _ _ _ _ _ _ _ _ _ _ [] _
        refine yG.load xak rfl (fun _ _ => rfl) (v := yR k0) rfl rfl ?_
        refine yG.getS9 A_h120.1 (w_Shorts_first W H_k0) qq106 rfl rfl ?_
        refine yG.load xlk2 rfl (fun _ _ => rfl) (v := yJ (z105)) rfl rfl ?_
        refine yG.invV (rest := []) A_h120.1 (bOb (d_Big W) H_r118) rfl rfl rfl rfl (c_Big_scale W (d + 2) A_h120.1 H_r118 (z105) (by omega) (by omega)) (fun rv h122 q9 => ?_)
        obtain ⟨⟨rfl, R_z123⟩, B_h122⟩ := q9
        have A_h122 := A_h120.tr B_h122 (by decide)
        have qq107 : zsl h122 k0 16 = yR r5 := (B_h122.sl H_k0 (by decide)).trans qq102
        have qq108 : zsl h122 r5 (1 : Int).toNat = yR r6 := (B_h122.sl H_r5 (bNo_ok (by decide) _)).trans qq103
        have qq109 : zsl h122 r5 (0 : Int).toNat = yR r7 := (B_h122.sl H_r5 (bNo_ok (by decide) _)).trans qq104
        have qq110 : zsl h122 k0 15 = yR r102 := (B_h122.sl H_k0 (by decide)).trans qq105
        have qq111 : zsl h122 k0 18 = yR r118 := (B_h122.sl H_k0 (by decide)).trans qq106
        show yG _ _ _ _ _ _ _ _ _ _ [] _
        refine yG.load xak rfl (fun _ _ => rfl) (v := yR k0) rfl rfl ?_
        refine yG.getS9 A_h122.1 (w_Shorts_first W H_k0) qq111 rfl rfl ?_
        refine yG.load xlk2 rfl (fun _ _ => rfl) (v := yJ (z105)) rfl rfl ?_
        refine yG.invV (rest := []) A_h122.1 (bOb (d_Big W) H_r118) rfl rfl rfl rfl (c_Big_scale W (d + 2) A_h122.1 H_r118 (z105) (by omega) (by omega)) (fun rv h124 q9 => ?_)
        obtain ⟨⟨rfl, R_z125⟩, B_h124⟩ := q9
        have A_h124 := A_h122.tr B_h124 (by decide)
        have qq112 : zsl h124 k0 16 = yR r5 := (B_h124.sl H_k0 (by decide)).trans qq107
        have qq113 : zsl h124 r5 (1 : Int).toNat = yR r6 := (B_h124.sl H_r5 (bNo_ok (by decide) _)).trans qq108
        have qq114 : zsl h124 r5 (0 : Int).toNat = yR r7 := (B_h124.sl H_r5 (bNo_ok (by decide) _)).trans qq109
        have qq115 : zsl h124 k0 15 = yR r102 := (B_h124.sl H_k0 (by decide)).trans qq110
        have qq116 : zsl h124 k0 18 = yR r118 := (B_h124.sl H_k0 (by decide)).trans qq111
        show yG _ _ _ _ _ _ _ _ _ _ [] _
        refine yG.load xik rfl (fun _ _ => rfl) (v := yI (0)) rfl rfl ?_
        refine yG.ret rfl (fun _ _ => rfl) ?_
        exact (yP.bool (by omega) ⟨⟨0, rfl, by omega, by omega, by omega⟩, A_h124⟩)
      · have c101 : (z100 : Int) > 0 := c101
        refine yG.load xak rfl (fun _ _ => rfl) (v := yR k0) rfl rfl ?_
        refine yG.getS9 A_h3.1 (w_Shorts_square W H_k0) q_r5 rfl rfl ?_
        refine yG.load xik rfl (fun _ _ => rfl) (v := yI (1)) rfl rfl ?_
        refine yG.aaldO (r := 35) A_h3.1 (v_Big2 W H_r5) rfl rfl rfl (by omega) (by omega) (fun r126 H_r126 q_r126 => ?_)
        obtain ⟨n_r126, N_r126⟩ : ∃ n : Int, n = ((zat G r126 : Nat) : Int) := ⟨_, rfl⟩
        have L_r126 := n_Big W H_r126
        have s_r126 : r126 = r6 := by have e9 := q_r126.symm.trans q_r6; cases e9; rfl
        rw [s_r126]
        refine yG.invV (rest := []) A_h3.1 (bOb (d_Big W) H_r6) rfl rfl rfl rfl (c_Big_sign W (d + 3) A_h3.1 H_r6) (fun rv hp9 q9 => ?_)
        obtain ⟨⟨z127, rfl, l_z127, u_z127, R_z127⟩, e9⟩ := q9
        rw [e9]
        show yG _ _ _ _ _ _ _ _ _ _ (yI z127 :: []) _
        refine yG.ifz rfl (t := 92) rfl ⟨by omega, by omega⟩ (fun c128 => ?_) (fun c128 => ?_)
        · have c128 : (z127 : Int) ≤ 0 := c128
          refine yG.num (c := 0) rfl (fun _ _ => rfl) (by decide) ?_
          refine yG.store1 xik (L' := [(5, yI (0)), (4, yI (1)), (0, yR k0), (1, yI (p1)), (2, yI (p2)), (3, yI (p3))]) rfl (fun _ _ => rfl) rfl rfl ?_
          refine yG.load xak rfl (fun _ _ => rfl) (v := yR k0) rfl rfl ?_
          refine yG.getO A_h3.1 (w_Shorts_reach W H_k0) rfl rfl (fun r129 H_r129 O_r129 q_r129 => ?_)
          refine yG.num (c := 0) rfl (fun _ _ => rfl) (by decide) ?_
          refine yG.iald A_h3.1 (v_Shorts_reach W H_r129) rfl (by omega) (by omega) (fun z130 e_z130 i_z130 l_z130 u_z130 => ?_)
          refine yG.i2l rfl ⟨by omega, by omega⟩ ?_
          refine yG.load xak rfl (fun _ _ => rfl) (v := yR k0) rfl rfl ?_
          refine yG.getS9 A_h3.1 (w_Shorts_reach W H_k0) q_r129 rfl rfl ?_
          refine yG.num (c := 1) rfl (fun _ _ => rfl) (by decide) ?_
          refine yG.iald A_h3.1 (v_Shorts_reach W H_r129) rfl (by omega) (by omega) (fun z131 e_z131 i_z131 l_z131 u_z131 => ?_)
          refine yG.i2l rfl ⟨by omega, by omega⟩ ?_
          refine yG.lmul rfl ?_
          obtain ⟨z132, e_z132⟩ : ∃ z : Int, z = z130 * z131 := ⟨_, rfl⟩
          rw [← e_z132]
          have b_z132 : -4611686018427387904 ≤ z132 ∧ z132 ≤ 4611686018427387904 := e_z132 ▸ ymuls (A := 2147483648) (B := 2147483648) (by omega) (by omega) (by omega) (by omega) (by decide)
          refine yG.store2 xlk2 (L' := [(6, yJ (z132)), (5, yI (0)), (4, yI (1)), (0, yR k0), (1, yI (p1)), (2, yI (p2)), (3, yI (p3))]) rfl (fun _ _ => rfl) rfl rfl ?_
          refine yG.load xak rfl (fun _ _ => rfl) (v := yR k0) rfl rfl ?_
          refine yG.getO A_h3.1 (w_Shorts_second W H_k0) rfl rfl (fun r133 H_r133 O_r133 q_r133 => ?_)
          obtain ⟨n_r133, N_r133⟩ : ∃ n : Int, n = ((zat G r133 : Nat) : Int) := ⟨_, rfl⟩
          have L_r133 := n_Big W H_r133
          refine yG.load xak rfl (fun _ _ => rfl) (v := yR k0) rfl rfl ?_
          refine yG.getS9 A_h3.1 (w_Shorts_square W H_k0) q_r5 rfl rfl ?_
          refine yG.load xik rfl (fun _ _ => rfl) (v := yI (1)) rfl rfl ?_
          refine yG.aaldO (r := 35) A_h3.1 (v_Big2 W H_r5) rfl rfl rfl (by omega) (by omega) (fun r134 H_r134 q_r134 => ?_)
          obtain ⟨n_r134, N_r134⟩ : ∃ n : Int, n = ((zat G r134 : Nat) : Int) := ⟨_, rfl⟩
          have L_r134 := n_Big W H_r134
          have s_r134 : r134 = r6 := by have e9 := q_r134.symm.trans q_r6; cases e9; rfl
          rw [s_r134]
          refine yG.invV (rest := []) A_h3.1 (bOb (d_Big W) H_r133) rfl rfl rfl rfl (c_Big_copy W (d + 2) A_h3.1 H_r133 H_r6) (fun rv h135 q9 => ?_)
          obtain ⟨⟨rfl, R_z136⟩, B_h135⟩ := q9
          have A_h135 := A_h3.tr B_h135 (by decide)
          have qq117 : zsl h135 k0 16 = yR r5 := (B_h135.sl H_k0 (by decide)).trans q_r5
          have qq118 : zsl h135 r5 (1 : Int).toNat = yR r6 := (B_h135.sl H_r5 (bNo_ok (by decide) _)).trans q_r6
          have qq119 : zsl h135 r5 (0 : Int).toNat = yR r7 := (B_h135.sl H_r5 (bNo_ok (by decide) _)).trans q_r7
          have qq120 : zsl h135 k0 15 = yR r129 := (B_h135.sl H_k0 (by decide)).trans q_r129
          show yG _ _ _ _ _ _ _ _ _ _ [] _
          refine yG.load xak rfl (fun _ _ => rfl) (v := yR k0) rfl rfl ?_
          refine yG.load xak rfl (fun _ _ => rfl) (v := yR k0) rfl rfl ?_
          refine yG.getO A_h135.1 (w_Shorts_shape W H_k0) rfl rfl (fun r137 H_r137 O_r137 q_r137 => ?_)
          refine yG.getO A_h135.1 (w_Shape_ends W H_r137) rfl rfl (fun r138 H_r138 O_r138 q_r138 => ?_)
          refine yG.load xik rfl (fun _ _ => rfl) (v := yI (p1)) rfl rfl ?_
          refine yG.aaldO (r := 57) A_h135.1 (v_Shape_ends W H_r138) rfl rfl rfl (by omega) (by omega) (fun r139 H_r139 q_r139 => ?_)
          refine yG.load xik rfl (fun _ _ => rfl) (v := yI (p2)) rfl rfl ?_
          refine yG.iald A_h135.1 (v_Shape_endss W H_r139) rfl (by omega) (by omega) (fun z140 e_z140 i_z140 l_z140 u_z140 => ?_)
          refine yG.invV (rest := []) A_h135.1 (bOb (d_Shorts W) H_k0) rfl rfl rfl rfl (c_Shorts_volts W d A_h135.1 H_k0 (z140) (by omega) (by omega)) (fun rv h141 q9 => ?_)
          obtain ⟨⟨rfl, R_z142⟩, B_h141⟩ := q9
          have A_h141 := A_h135.tr B_h141 (by decide)
          have qq121 : zsl h141 k0 16 = yR r5 := (B_h141.sl H_k0 (by decide)).trans qq117
          have qq122 : zsl h141 r5 (1 : Int).toNat = yR r6 := (B_h141.sl H_r5 (bNo_ok (by decide) _)).trans qq118
          have qq123 : zsl h141 r5 (0 : Int).toNat = yR r7 := (B_h141.sl H_r5 (bNo_ok (by decide) _)).trans qq119
          have qq124 : zsl h141 k0 15 = yR r129 := (B_h141.sl H_k0 (by decide)).trans qq120
          show yG _ _ _ _ _ _ _ _ _ _ [] _
          refine yG.load xak rfl (fun _ _ => rfl) (v := yR k0) rfl rfl ?_
          refine yG.invV (rest := []) A_h141.1 (bOb (d_Shorts W) H_k0) rfl rfl rfl rfl (c_Shorts_squares W d A_h141.1 H_k0) (fun rv h143 q9 => ?_)
          obtain ⟨⟨rfl, R_z144⟩, B_h143⟩ := q9
          have A_h143 := A_h141.tr B_h143 (by decide)
          have qq125 : zsl h143 k0 16 = yR r5 := (B_h143.sl H_k0 (by decide)).trans qq121
          have qq126 : zsl h143 r5 (1 : Int).toNat = yR r6 := (B_h143.sl H_r5 (bNo_ok (by decide) _)).trans qq122
          have qq127 : zsl h143 r5 (0 : Int).toNat = yR r7 := (B_h143.sl H_r5 (bNo_ok (by decide) _)).trans qq123
          have qq128 : zsl h143 k0 15 = yR r129 := (B_h143.sl H_k0 (by decide)).trans qq124
          show yG _ _ _ _ _ _ _ _ _ _ [] _
          refine yG.load xak rfl (fun _ _ => rfl) (v := yR k0) rfl rfl ?_
          refine yG.getO A_h143.1 (w_Shorts_first W H_k0) rfl rfl (fun r145 H_r145 O_r145 q_r145 => ?_)
          obtain ⟨n_r145, N_r145⟩ : ∃ n : Int, n = ((zat G r145 : Nat) : Int) := ⟨_, rfl⟩
          have L_r145 := n_Big W H_r145
          refine yG.load xak rfl (fun _ _ => rfl) (v := yR k0) rfl rfl ?_
          refine yG.getS9 A_h143.1 (w_Shorts_square W H_k0) qq125 rfl rfl ?_
          refine yG.load xik rfl (fun _ _ => rfl) (v := yI (1)) rfl rfl ?_
          refine yG.aaldO (r := 35) A_h143.1 (v_Big2 W H_r5) rfl rfl rfl (by omega) (by omega) (fun r146 H_r146 q_r146 => ?_)
          obtain ⟨n_r146, N_r146⟩ : ∃ n : Int, n = ((zat G r146 : Nat) : Int) := ⟨_, rfl⟩
          have L_r146 := n_Big W H_r146
          have s_r146 : r146 = r6 := by have e9 := q_r146.symm.trans qq126; cases e9; rfl
          rw [s_r146]
          refine yG.invV (rest := []) A_h143.1 (bOb (d_Big W) H_r145) rfl rfl rfl rfl (c_Big_copy W (d + 2) A_h143.1 H_r145 H_r6) (fun rv h147 q9 => ?_)
          obtain ⟨⟨rfl, R_z148⟩, B_h147⟩ := q9
          have A_h147 := A_h143.tr B_h147 (by decide)
          have qq129 : zsl h147 k0 16 = yR r5 := (B_h147.sl H_k0 (by decide)).trans qq125
          have qq130 : zsl h147 r5 (1 : Int).toNat = yR r6 := (B_h147.sl H_r5 (bNo_ok (by decide) _)).trans qq126
          have qq131 : zsl h147 r5 (0 : Int).toNat = yR r7 := (B_h147.sl H_r5 (bNo_ok (by decide) _)).trans qq127
          have qq132 : zsl h147 k0 15 = yR r129 := (B_h147.sl H_k0 (by decide)).trans qq128
          have qq133 : zsl h147 k0 18 = yR r145 := (B_h147.sl H_k0 (by decide)).trans q_r145
          show yG _ _ _ _ _ _ _ _ _ _ [] _
          refine yG.load xak rfl (fun _ _ => rfl) (v := yR k0) rfl rfl ?_
          refine yG.getS9 A_h147.1 (w_Shorts_first W H_k0) qq133 rfl rfl ?_
          refine yG.load xlk2 rfl (fun _ _ => rfl) (v := yJ (z132)) rfl rfl ?_
          refine yG.invV (rest := []) A_h147.1 (bOb (d_Big W) H_r145) rfl rfl rfl rfl (c_Big_scale W (d + 2) A_h147.1 H_r145 (z132) (by omega) (by omega)) (fun rv h149 q9 => ?_)
          obtain ⟨⟨rfl, R_z150⟩, B_h149⟩ := q9
          have A_h149 := A_h147.tr B_h149 (by decide)
          have qq134 : zsl h149 k0 16 = yR r5 := (B_h149.sl H_k0 (by decide)).trans qq129
          have qq135 : zsl h149 r5 (1 : Int).toNat = yR r6 := (B_h149.sl H_r5 (bNo_ok (by decide) _)).trans qq130
          have qq136 : zsl h149 r5 (0 : Int).toNat = yR r7 := (B_h149.sl H_r5 (bNo_ok (by decide) _)).trans qq131
          have qq137 : zsl h149 k0 15 = yR r129 := (B_h149.sl H_k0 (by decide)).trans qq132
          have qq138 : zsl h149 k0 18 = yR r145 := (B_h149.sl H_k0 (by decide)).trans qq133
          show yG _ _ _ _ _ _ _ _ _ _ [] _
          refine yG.load xak rfl (fun _ _ => rfl) (v := yR k0) rfl rfl ?_
          refine yG.getS9 A_h149.1 (w_Shorts_first W H_k0) qq138 rfl rfl ?_
          refine yG.load xlk2 rfl (fun _ _ => rfl) (v := yJ (z132)) rfl rfl ?_
          refine yG.invV (rest := []) A_h149.1 (bOb (d_Big W) H_r145) rfl rfl rfl rfl (c_Big_scale W (d + 2) A_h149.1 H_r145 (z132) (by omega) (by omega)) (fun rv h151 q9 => ?_)
          obtain ⟨⟨rfl, R_z152⟩, B_h151⟩ := q9
          have A_h151 := A_h149.tr B_h151 (by decide)
          have qq139 : zsl h151 k0 16 = yR r5 := (B_h151.sl H_k0 (by decide)).trans qq134
          have qq140 : zsl h151 r5 (1 : Int).toNat = yR r6 := (B_h151.sl H_r5 (bNo_ok (by decide) _)).trans qq135
          have qq141 : zsl h151 r5 (0 : Int).toNat = yR r7 := (B_h151.sl H_r5 (bNo_ok (by decide) _)).trans qq136
          have qq142 : zsl h151 k0 15 = yR r129 := (B_h151.sl H_k0 (by decide)).trans qq137
          have qq143 : zsl h151 k0 18 = yR r145 := (B_h151.sl H_k0 (by decide)).trans qq138
          show yG _ _ _ _ _ _ _ _ _ _ [] _
          refine yG.load xik rfl (fun _ _ => rfl) (v := yI (0)) rfl rfl ?_
          refine yG.ret rfl (fun _ _ => rfl) ?_
          exact (yP.bool (by omega) ⟨⟨0, rfl, by omega, by omega, by omega⟩, A_h151⟩)
        · have c128 : (z127 : Int) > 0 := c128
          refine yG.num (c := 1) rfl (fun _ _ => rfl) (by decide) ?_
          refine yG.goto rfl (t := 93) rfl ?_
          refine yG.store1 xik (L' := [(5, yI (1)), (4, yI (1)), (0, yR k0), (1, yI (p1)), (2, yI (p2)), (3, yI (p3))]) rfl (fun _ _ => rfl) rfl rfl ?_
          refine yG.load xak rfl (fun _ _ => rfl) (v := yR k0) rfl rfl ?_
          refine yG.getO A_h3.1 (w_Shorts_reach W H_k0) rfl rfl (fun r153 H_r153 O_r153 q_r153 => ?_)
          refine yG.num (c := 0) rfl (fun _ _ => rfl) (by decide) ?_
          refine yG.iald A_h3.1 (v_Shorts_reach W H_r153) rfl (by omega) (by omega) (fun z154 e_z154 i_z154 l_z154 u_z154 => ?_)
          refine yG.i2l rfl ⟨by omega, by omega⟩ ?_
          refine yG.load xak rfl (fun _ _ => rfl) (v := yR k0) rfl rfl ?_
          refine yG.getS9 A_h3.1 (w_Shorts_reach W H_k0) q_r153 rfl rfl ?_
          refine yG.num (c := 1) rfl (fun _ _ => rfl) (by decide) ?_
          refine yG.iald A_h3.1 (v_Shorts_reach W H_r153) rfl (by omega) (by omega) (fun z155 e_z155 i_z155 l_z155 u_z155 => ?_)
          refine yG.i2l rfl ⟨by omega, by omega⟩ ?_
          refine yG.lmul rfl ?_
          obtain ⟨z156, e_z156⟩ : ∃ z : Int, z = z154 * z155 := ⟨_, rfl⟩
          rw [← e_z156]
          have b_z156 : -4611686018427387904 ≤ z156 ∧ z156 ≤ 4611686018427387904 := e_z156 ▸ ymuls (A := 2147483648) (B := 2147483648) (by omega) (by omega) (by omega) (by omega) (by decide)
          refine yG.store2 xlk2 (L' := [(6, yJ (z156)), (5, yI (1)), (4, yI (1)), (0, yR k0), (1, yI (p1)), (2, yI (p2)), (3, yI (p3))]) rfl (fun _ _ => rfl) rfl rfl ?_
          refine yG.load xak rfl (fun _ _ => rfl) (v := yR k0) rfl rfl ?_
          refine yG.getO A_h3.1 (w_Shorts_second W H_k0) rfl rfl (fun r157 H_r157 O_r157 q_r157 => ?_)
          obtain ⟨n_r157, N_r157⟩ : ∃ n : Int, n = ((zat G r157 : Nat) : Int) := ⟨_, rfl⟩
          have L_r157 := n_Big W H_r157
          refine yG.load xak rfl (fun _ _ => rfl) (v := yR k0) rfl rfl ?_
          refine yG.getS9 A_h3.1 (w_Shorts_square W H_k0) q_r5 rfl rfl ?_
          refine yG.load xik rfl (fun _ _ => rfl) (v := yI (1)) rfl rfl ?_
          refine yG.aaldO (r := 35) A_h3.1 (v_Big2 W H_r5) rfl rfl rfl (by omega) (by omega) (fun r158 H_r158 q_r158 => ?_)
          obtain ⟨n_r158, N_r158⟩ : ∃ n : Int, n = ((zat G r158 : Nat) : Int) := ⟨_, rfl⟩
          have L_r158 := n_Big W H_r158
          have s_r158 : r158 = r6 := by have e9 := q_r158.symm.trans q_r6; cases e9; rfl
          rw [s_r158]
          refine yG.invV (rest := []) A_h3.1 (bOb (d_Big W) H_r157) rfl rfl rfl rfl (c_Big_copy W (d + 2) A_h3.1 H_r157 H_r6) (fun rv h159 q9 => ?_)
          obtain ⟨⟨rfl, R_z160⟩, B_h159⟩ := q9
          have A_h159 := A_h3.tr B_h159 (by decide)
          have qq144 : zsl h159 k0 16 = yR r5 := (B_h159.sl H_k0 (by decide)).trans q_r5
          have qq145 : zsl h159 r5 (1 : Int).toNat = yR r6 := (B_h159.sl H_r5 (bNo_ok (by decide) _)).trans q_r6
          have qq146 : zsl h159 r5 (0 : Int).toNat = yR r7 := (B_h159.sl H_r5 (bNo_ok (by decide) _)).trans q_r7
          have qq147 : zsl h159 k0 15 = yR r153 := (B_h159.sl H_k0 (by decide)).trans q_r153
          show yG _ _ _ _ _ _ _ _ _ _ [] _
          refine yG.load xak rfl (fun _ _ => rfl) (v := yR k0) rfl rfl ?_
          refine yG.load xak rfl (fun _ _ => rfl) (v := yR k0) rfl rfl ?_
          refine yG.getO A_h159.1 (w_Shorts_shape W H_k0) rfl rfl (fun r161 H_r161 O_r161 q_r161 => ?_)
          refine yG.getO A_h159.1 (w_Shape_ends W H_r161) rfl rfl (fun r162 H_r162 O_r162 q_r162 => ?_)
          refine yG.load xik rfl (fun _ _ => rfl) (v := yI (p1)) rfl rfl ?_
          refine yG.aaldO (r := 57) A_h159.1 (v_Shape_ends W H_r162) rfl rfl rfl (by omega) (by omega) (fun r163 H_r163 q_r163 => ?_)
          refine yG.load xik rfl (fun _ _ => rfl) (v := yI (p2)) rfl rfl ?_
          refine yG.iald A_h159.1 (v_Shape_endss W H_r163) rfl (by omega) (by omega) (fun z164 e_z164 i_z164 l_z164 u_z164 => ?_)
          refine yG.invV (rest := []) A_h159.1 (bOb (d_Shorts W) H_k0) rfl rfl rfl rfl (c_Shorts_volts W d A_h159.1 H_k0 (z164) (by omega) (by omega)) (fun rv h165 q9 => ?_)
          obtain ⟨⟨rfl, R_z166⟩, B_h165⟩ := q9
          have A_h165 := A_h159.tr B_h165 (by decide)
          have qq148 : zsl h165 k0 16 = yR r5 := (B_h165.sl H_k0 (by decide)).trans qq144
          have qq149 : zsl h165 r5 (1 : Int).toNat = yR r6 := (B_h165.sl H_r5 (bNo_ok (by decide) _)).trans qq145
          have qq150 : zsl h165 r5 (0 : Int).toNat = yR r7 := (B_h165.sl H_r5 (bNo_ok (by decide) _)).trans qq146
          have qq151 : zsl h165 k0 15 = yR r153 := (B_h165.sl H_k0 (by decide)).trans qq147
          show yG _ _ _ _ _ _ _ _ _ _ [] _
          refine yG.load xak rfl (fun _ _ => rfl) (v := yR k0) rfl rfl ?_
          refine yG.invV (rest := []) A_h165.1 (bOb (d_Shorts W) H_k0) rfl rfl rfl rfl (c_Shorts_squares W d A_h165.1 H_k0) (fun rv h167 q9 => ?_)
          obtain ⟨⟨rfl, R_z168⟩, B_h167⟩ := q9
          have A_h167 := A_h165.tr B_h167 (by decide)
          have qq152 : zsl h167 k0 16 = yR r5 := (B_h167.sl H_k0 (by decide)).trans qq148
          have qq153 : zsl h167 r5 (1 : Int).toNat = yR r6 := (B_h167.sl H_r5 (bNo_ok (by decide) _)).trans qq149
          have qq154 : zsl h167 r5 (0 : Int).toNat = yR r7 := (B_h167.sl H_r5 (bNo_ok (by decide) _)).trans qq150
          have qq155 : zsl h167 k0 15 = yR r153 := (B_h167.sl H_k0 (by decide)).trans qq151
          show yG _ _ _ _ _ _ _ _ _ _ [] _
          refine yG.load xak rfl (fun _ _ => rfl) (v := yR k0) rfl rfl ?_
          refine yG.getO A_h167.1 (w_Shorts_first W H_k0) rfl rfl (fun r169 H_r169 O_r169 q_r169 => ?_)
          obtain ⟨n_r169, N_r169⟩ : ∃ n : Int, n = ((zat G r169 : Nat) : Int) := ⟨_, rfl⟩
          have L_r169 := n_Big W H_r169
          refine yG.load xak rfl (fun _ _ => rfl) (v := yR k0) rfl rfl ?_
          refine yG.getS9 A_h167.1 (w_Shorts_square W H_k0) qq152 rfl rfl ?_
          refine yG.load xik rfl (fun _ _ => rfl) (v := yI (1)) rfl rfl ?_
          refine yG.aaldO (r := 35) A_h167.1 (v_Big2 W H_r5) rfl rfl rfl (by omega) (by omega) (fun r170 H_r170 q_r170 => ?_)
          obtain ⟨n_r170, N_r170⟩ : ∃ n : Int, n = ((zat G r170 : Nat) : Int) := ⟨_, rfl⟩
          have L_r170 := n_Big W H_r170
          have s_r170 : r170 = r6 := by have e9 := q_r170.symm.trans qq153; cases e9; rfl
          rw [s_r170]
          refine yG.invV (rest := []) A_h167.1 (bOb (d_Big W) H_r169) rfl rfl rfl rfl (c_Big_copy W (d + 2) A_h167.1 H_r169 H_r6) (fun rv h171 q9 => ?_)
          obtain ⟨⟨rfl, R_z172⟩, B_h171⟩ := q9
          have A_h171 := A_h167.tr B_h171 (by decide)
          have qq156 : zsl h171 k0 16 = yR r5 := (B_h171.sl H_k0 (by decide)).trans qq152
          have qq157 : zsl h171 r5 (1 : Int).toNat = yR r6 := (B_h171.sl H_r5 (bNo_ok (by decide) _)).trans qq153
          have qq158 : zsl h171 r5 (0 : Int).toNat = yR r7 := (B_h171.sl H_r5 (bNo_ok (by decide) _)).trans qq154
          have qq159 : zsl h171 k0 15 = yR r153 := (B_h171.sl H_k0 (by decide)).trans qq155
          have qq160 : zsl h171 k0 18 = yR r169 := (B_h171.sl H_k0 (by decide)).trans q_r169
          show yG _ _ _ _ _ _ _ _ _ _ [] _
          refine yG.load xak rfl (fun _ _ => rfl) (v := yR k0) rfl rfl ?_
          refine yG.getS9 A_h171.1 (w_Shorts_first W H_k0) qq160 rfl rfl ?_
          refine yG.load xlk2 rfl (fun _ _ => rfl) (v := yJ (z156)) rfl rfl ?_
          refine yG.invV (rest := []) A_h171.1 (bOb (d_Big W) H_r169) rfl rfl rfl rfl (c_Big_scale W (d + 2) A_h171.1 H_r169 (z156) (by omega) (by omega)) (fun rv h173 q9 => ?_)
          obtain ⟨⟨rfl, R_z174⟩, B_h173⟩ := q9
          have A_h173 := A_h171.tr B_h173 (by decide)
          have qq161 : zsl h173 k0 16 = yR r5 := (B_h173.sl H_k0 (by decide)).trans qq156
          have qq162 : zsl h173 r5 (1 : Int).toNat = yR r6 := (B_h173.sl H_r5 (bNo_ok (by decide) _)).trans qq157
          have qq163 : zsl h173 r5 (0 : Int).toNat = yR r7 := (B_h173.sl H_r5 (bNo_ok (by decide) _)).trans qq158
          have qq164 : zsl h173 k0 15 = yR r153 := (B_h173.sl H_k0 (by decide)).trans qq159
          have qq165 : zsl h173 k0 18 = yR r169 := (B_h173.sl H_k0 (by decide)).trans qq160
          show yG _ _ _ _ _ _ _ _ _ _ [] _
          refine yG.load xak rfl (fun _ _ => rfl) (v := yR k0) rfl rfl ?_
          refine yG.getS9 A_h173.1 (w_Shorts_first W H_k0) qq165 rfl rfl ?_
          refine yG.load xlk2 rfl (fun _ _ => rfl) (v := yJ (z156)) rfl rfl ?_
          refine yG.invV (rest := []) A_h173.1 (bOb (d_Big W) H_r169) rfl rfl rfl rfl (c_Big_scale W (d + 2) A_h173.1 H_r169 (z156) (by omega) (by omega)) (fun rv h175 q9 => ?_)
          obtain ⟨⟨rfl, R_z176⟩, B_h175⟩ := q9
          have A_h175 := A_h173.tr B_h175 (by decide)
          have qq166 : zsl h175 k0 16 = yR r5 := (B_h175.sl H_k0 (by decide)).trans qq161
          have qq167 : zsl h175 r5 (1 : Int).toNat = yR r6 := (B_h175.sl H_r5 (bNo_ok (by decide) _)).trans qq162
          have qq168 : zsl h175 r5 (0 : Int).toNat = yR r7 := (B_h175.sl H_r5 (bNo_ok (by decide) _)).trans qq163
          have qq169 : zsl h175 k0 15 = yR r153 := (B_h175.sl H_k0 (by decide)).trans qq164
          have qq170 : zsl h175 k0 18 = yR r169 := (B_h175.sl H_k0 (by decide)).trans qq165
          show yG _ _ _ _ _ _ _ _ _ _ [] _
          refine yG.load xik rfl (fun _ _ => rfl) (v := yI (1)) rfl rfl ?_
          refine yG.ret rfl (fun _ _ => rfl) ?_
          exact (yP.bool (by omega) ⟨⟨1, rfl, by omega, by omega, by omega⟩, A_h175⟩)
    · have c97 : (p3 : Int) = 0 := c97
      refine yG.load xak rfl (fun _ _ => rfl) (v := yR k0) rfl rfl ?_
      refine yG.getO A_h3.1 (w_Shorts_first W H_k0) rfl rfl (fun r177 H_r177 O_r177 q_r177 => ?_)
      obtain ⟨n_r177, N_r177⟩ : ∃ n : Int, n = ((zat G r177 : Nat) : Int) := ⟨_, rfl⟩
      have L_r177 := n_Big W H_r177
      refine yG.load xak rfl (fun _ _ => rfl) (v := yR k0) rfl rfl ?_
      refine yG.getS9 A_h3.1 (w_Shorts_square W H_k0) q_r5 rfl rfl ?_
      refine yG.load xik rfl (fun _ _ => rfl) (v := yI (1)) rfl rfl ?_
      refine yG.aaldO (r := 35) A_h3.1 (v_Big2 W H_r5) rfl rfl rfl (by omega) (by omega) (fun r178 H_r178 q_r178 => ?_)
      obtain ⟨n_r178, N_r178⟩ : ∃ n : Int, n = ((zat G r178 : Nat) : Int) := ⟨_, rfl⟩
      have L_r178 := n_Big W H_r178
      have s_r178 : r178 = r6 := by have e9 := q_r178.symm.trans q_r6; cases e9; rfl
      rw [s_r178]
      refine yG.invV (rest := []) A_h3.1 (bOb (d_Big W) H_r177) rfl rfl rfl rfl (c_Big_copy W (d + 2) A_h3.1 H_r177 H_r6) (fun rv h179 q9 => ?_)
      obtain ⟨⟨rfl, R_z180⟩, B_h179⟩ := q9
      have A_h179 := A_h3.tr B_h179 (by decide)
      have qq171 : zsl h179 k0 16 = yR r5 := (B_h179.sl H_k0 (by decide)).trans q_r5
      have qq172 : zsl h179 r5 (1 : Int).toNat = yR r6 := (B_h179.sl H_r5 (bNo_ok (by decide) _)).trans q_r6
      have qq173 : zsl h179 r5 (0 : Int).toNat = yR r7 := (B_h179.sl H_r5 (bNo_ok (by decide) _)).trans q_r7
      have qq174 : zsl h179 k0 18 = yR r177 := (B_h179.sl H_k0 (by decide)).trans q_r177
      show yG _ _ _ _ _ _ _ _ _ _ [] _
      refine yG.load xak rfl (fun _ _ => rfl) (v := yR k0) rfl rfl ?_
      refine yG.load xak rfl (fun _ _ => rfl) (v := yR k0) rfl rfl ?_
      refine yG.getO A_h179.1 (w_Shorts_second W H_k0) rfl rfl (fun r181 H_r181 O_r181 q_r181 => ?_)
      obtain ⟨n_r181, N_r181⟩ : ∃ n : Int, n = ((zat G r181 : Nat) : Int) := ⟨_, rfl⟩
      have L_r181 := n_Big W H_r181
      refine yG.invV (rest := []) A_h179.1 (bOb (d_Shorts W) H_k0) rfl rfl rfl rfl (c_Shorts_belowSquares W (d + 1) A_h179.1 H_k0 H_r181) (fun rv h182 q9 => ?_)
      obtain ⟨⟨rfl, R_z183⟩, B_h182⟩ := q9
      have A_h182 := A_h179.tr B_h182 (by decide)
      have qq175 : zsl h182 k0 16 = yR r5 := (B_h182.sl H_k0 (by decide)).trans qq171
      have qq176 : zsl h182 r5 (1 : Int).toNat = yR r6 := (B_h182.sl H_r5 (bNo_ok (by decide) _)).trans qq172
      have qq177 : zsl h182 r5 (0 : Int).toNat = yR r7 := (B_h182.sl H_r5 (bNo_ok (by decide) _)).trans qq173
      have qq178 : zsl h182 k0 18 = yR r177 := (B_h182.sl H_k0 (by decide)).trans qq174
      show yG _ _ _ _ _ _ _ _ _ _ [] _
      refine yG.num (c := 1) rfl (fun _ _ => rfl) (by decide) ?_
      refine yG.ret rfl (fun _ _ => rfl) ?_
      exact (yP.bool (by omega) ⟨⟨1, rfl, by omega, by omega, by omega⟩, A_h182⟩)
theorem c_Shorts_isAbove {hp : xH} (W : bW G) (d : Nat) (hT : zTy G hp) {k0 : Nat} (H_k0 : bRo G 75 k0) (p1 : Int) (h1l : (-2147483648) ≤ p1) (h1u : p1 ≤ 2147483647) : yC (xcall 89 xfts xpools xms (d + 3)) 232 [yR k0, yI (p1)] hp (bQi G [(34359738368, 1), (34359738368, 2), (68719476736, 256)] hp 0 1 (fun _ => True)) := by
  have A_hp : bAx G [(34359738368, 1), (34359738368, 2), (68719476736, 256)] hp hp := bAx.rf hT
  refine yC.of (M := (xt_X9_isAbove, (2, (4, (10, []))))) rfl rfl (N := 102) (yfuel (by decide)) ?_
  show yG 89 xfts (xcall 89 xfts xpools xms (d + 2)) (xpool xp_RX9) [] xt_X9_isAbove (yP 4 (bQi G [(34359738368, 1), (34359738368, 2), (68719476736, 256)] hp 0 1 (fun _ => True))) 102 0 [(0, yR k0), (1, yI (p1))] [] hp
  refine yG.load xak rfl (fun _ _ => rfl) (v := yR k0) rfl rfl ?_
  refine yG.getO A_hp.1 (w_Shorts_help W H_k0) rfl rfl (fun r1 H_r1 O_r1 q_r1 => ?_)
  refine yG.num (c := 0) rfl (fun _ _ => rfl) (by decide) ?_
  refine yG.aaldO (r := 35) A_hp.1 (v_Big4 W H_r1) rfl rfl rfl (by omega) (by omega) (fun r2 H_r2 q_r2 => ?_)
  obtain ⟨n_r2, N_r2⟩ : ∃ n : Int, n = ((zat G r2 : Nat) : Int) := ⟨_, rfl⟩
  have L_r2 := n_Big W H_r2
  refine yG.load xak rfl (fun _ _ => rfl) (v := yR k0) rfl rfl ?_
  refine yG.getO A_hp.1 (w_Shorts_second W H_k0) rfl rfl (fun r3 H_r3 O_r3 q_r3 => ?_)
  obtain ⟨n_r3, N_r3⟩ : ∃ n : Int, n = ((zat G r3 : Nat) : Int) := ⟨_, rfl⟩
  have L_r3 := n_Big W H_r3
  refine yG.invV (rest := []) A_hp.1 (bOb (d_Big W) H_r2) rfl rfl rfl rfl (c_Big_copy W d A_hp.1 H_r2 H_r3) (fun rv h4 q9 => ?_)
  obtain ⟨⟨rfl, R_z5⟩, B_h4⟩ := q9
  have A_h4 := A_hp.tr B_h4 (by decide)
  have qq1 : zsl h4 k0 17 = yR r1 := (B_h4.sl H_k0 (by decide)).trans q_r1
  have qq2 : zsl h4 r1 (0 : Int).toNat = yR r2 := (B_h4.sl H_r1 (bNo_ok (by decide) _)).trans q_r2
  show yG _ _ _ _ _ _ _ _ _ _ [] _
  refine yG.load xak rfl (fun _ _ => rfl) (v := yR k0) rfl rfl ?_
  refine yG.getS9 A_h4.1 (w_Shorts_help W H_k0) qq1 rfl rfl ?_
  refine yG.num (c := 0) rfl (fun _ _ => rfl) (by decide) ?_
  refine yG.aaldO (r := 35) A_h4.1 (v_Big4 W H_r1) rfl rfl rfl (by omega) (by omega) (fun r6 H_r6 q_r6 => ?_)
  obtain ⟨n_r6, N_r6⟩ : ∃ n : Int, n = ((zat G r6 : Nat) : Int) := ⟨_, rfl⟩
  have L_r6 := n_Big W H_r6
  have s_r6 : r6 = r2 := by have e9 := q_r6.symm.trans qq2; cases e9; rfl
  rw [s_r6]
  refine yG.load xik rfl (fun _ _ => rfl) (v := yI (p1)) rfl rfl ?_
  refine yG.i2l rfl ⟨by omega, by omega⟩ ?_
  refine yG.invV (rest := []) A_h4.1 (bOb (d_Big W) H_r2) rfl rfl rfl rfl (c_Big_scale W d A_h4.1 H_r2 (p1) (by omega) (by omega)) (fun rv h7 q9 => ?_)
  obtain ⟨⟨rfl, R_z8⟩, B_h7⟩ := q9
  have A_h7 := A_h4.tr B_h7 (by decide)
  have qq3 : zsl h7 k0 17 = yR r1 := (B_h7.sl H_k0 (by decide)).trans qq1
  have qq4 : zsl h7 r1 (0 : Int).toNat = yR r2 := (B_h7.sl H_r1 (bNo_ok (by decide) _)).trans qq2
  show yG _ _ _ _ _ _ _ _ _ _ [] _
  refine yG.load xak rfl (fun _ _ => rfl) (v := yR k0) rfl rfl ?_
  refine yG.getS9 A_h7.1 (w_Shorts_help W H_k0) qq3 rfl rfl ?_
  refine yG.num (c := 0) rfl (fun _ _ => rfl) (by decide) ?_
  refine yG.aaldO (r := 35) A_h7.1 (v_Big4 W H_r1) rfl rfl rfl (by omega) (by omega) (fun r9 H_r9 q_r9 => ?_)
  obtain ⟨n_r9, N_r9⟩ : ∃ n : Int, n = ((zat G r9 : Nat) : Int) := ⟨_, rfl⟩
  have L_r9 := n_Big W H_r9
  have s_r9 : r9 = r2 := by have e9 := q_r9.symm.trans qq4; cases e9; rfl
  rw [s_r9]
  refine yG.load xik rfl (fun _ _ => rfl) (v := yI (p1)) rfl rfl ?_
  refine yG.i2l rfl ⟨by omega, by omega⟩ ?_
  refine yG.invV (rest := []) A_h7.1 (bOb (d_Big W) H_r2) rfl rfl rfl rfl (c_Big_scale W d A_h7.1 H_r2 (p1) (by omega) (by omega)) (fun rv h10 q9 => ?_)
  obtain ⟨⟨rfl, R_z11⟩, B_h10⟩ := q9
  have A_h10 := A_h7.tr B_h10 (by decide)
  have qq5 : zsl h10 k0 17 = yR r1 := (B_h10.sl H_k0 (by decide)).trans qq3
  have qq6 : zsl h10 r1 (0 : Int).toNat = yR r2 := (B_h10.sl H_r1 (bNo_ok (by decide) _)).trans qq4
  show yG _ _ _ _ _ _ _ _ _ _ [] _
  refine yG.load xak rfl (fun _ _ => rfl) (v := yR k0) rfl rfl ?_
  refine yG.getO A_h10.1 (w_Shorts_first W H_k0) rfl rfl (fun r12 H_r12 O_r12 q_r12 => ?_)
  obtain ⟨n_r12, N_r12⟩ : ∃ n : Int, n = ((zat G r12 : Nat) : Int) := ⟨_, rfl⟩
  have L_r12 := n_Big W H_r12
  refine yG.load xak rfl (fun _ _ => rfl) (v := yR k0) rfl rfl ?_
  refine yG.getS9 A_h10.1 (w_Shorts_help W H_k0) qq5 rfl rfl ?_
  refine yG.num (c := 0) rfl (fun _ _ => rfl) (by decide) ?_
  refine yG.aaldO (r := 35) A_h10.1 (v_Big4 W H_r1) rfl rfl rfl (by omega) (by omega) (fun r13 H_r13 q_r13 => ?_)
  obtain ⟨n_r13, N_r13⟩ : ∃ n : Int, n = ((zat G r13 : Nat) : Int) := ⟨_, rfl⟩
  have L_r13 := n_Big W H_r13
  have s_r13 : r13 = r2 := by have e9 := q_r13.symm.trans qq6; cases e9; rfl
  rw [s_r13]
  refine yG.invV (rest := []) A_h10.1 (bOb (d_Big W) H_r12) rfl rfl rfl rfl (c_Big_compareSize W (d + 1) A_h10.1 H_r12 H_r2) (fun rv hp9 q9 => ?_)
  obtain ⟨⟨z14, rfl, l_z14, u_z14, R_z14⟩, e9⟩ := q9
  rw [e9]
  show yG _ _ _ _ _ _ _ _ _ _ (yI z14 :: []) _
  refine yG.ifz rfl (t := 55) rfl ⟨by omega, by omega⟩ (fun c15 => ?_) (fun c15 => ?_)
  · have c15 : (z14 : Int) ≤ 0 := c15
    refine yG.num (c := 0) rfl (fun _ _ => rfl) (by decide) ?_
    refine yG.ret rfl (fun _ _ => rfl) ?_
    exact (yP.bool (by omega) ⟨⟨0, rfl, by omega, by omega, trivial⟩, A_h10⟩)
  · have c15 : (z14 : Int) > 0 := c15
    refine yG.num (c := 1) rfl (fun _ _ => rfl) (by decide) ?_
    refine yG.goto rfl (t := 56) rfl ?_
    refine yG.ret rfl (fun _ _ => rfl) ?_
    exact (yP.bool (by omega) ⟨⟨1, rfl, by omega, by omega, trivial⟩, A_h10⟩)
end BShorts
