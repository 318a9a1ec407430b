/-! ===== the class: flows, the number in hand, printed by a program ===== -/
section BFlow
variable {G : zW}
theorem c_Flow_addLoads_m {hp : xH} (W : bW G) (d : Nat) (hT : zTy G hp) {k0 : Nat} (H_k0 : bRo G 44 k0) : yC (xcall 89 xfts xpools xms (d + 3)) 100 [yR k0] hp (fun rv hp' => (rv = none ∧ True) ∧ bAx G [(17592186044416, 13), (35184372088832, 256)] hp hp') := by
  have A_hp : bAx G [(17592186044416, 13), (35184372088832, 256)] hp hp := bAx.rf hT
  have H : ∀ m : Nat, (∀ a1 : Int, ∀ hq, bAx G [(17592186044416, 13), (35184372088832, 256)] hp hq → 0 ≤ a1 → (-12) ≤ 0 - a1 → 0 - 2 * a1 + 25 < (m : Int) → yG 89 xfts (xcall 89 xfts xpools xms (d + 2)) (xpool xp_RX2) [] xt_X2_addLoads (yP 0 (fun rv hp' => (rv = none ∧ True) ∧ bAx G [(17592186044416, 13), (35184372088832, 256)] hp hp')) (44 * m) 2 [(0, yR k0), (1, yI (a1))] [] hq) := by
    intro m
    induction m with
    | zero =>
      intros; exfalso; omega
    | succ m ih =>
      have i_2 := ih
      clear ih
      intro a1 hq A_hq f0 f1 hm
      refine yG.mono (N := 44 * m + 44) ?_ (by omega)
      refine yG.load xik rfl (fun _ _ => rfl) (v := yI (a1)) rfl rfl ?_
      refine yG.load xak rfl (fun _ _ => rfl) (v := yR k0) rfl rfl ?_
      refine yG.getO A_hq.1 (w_Flow_net W H_k0) rfl rfl (fun r1 H_r1 O_r1 q_r1 => ?_)
      refine yG.getO A_hq.1 (w_Net_count W H_r1) rfl rfl (fun r2 H_r2 O_r2 q_r2 => ?_)
      refine yG.num (c := 4) rfl (fun _ _ => rfl) (by decide) ?_
      refine yG.ialdF A_hq.1 (v_Net_count W H_r2) rfl rfl (by omega) (by omega) (fun z3 e_z3 i_z3 l_z3 u_z3 => ?_)
      refine yG.icmp rfl (t := 77) rfl ⟨by omega, by omega⟩ ⟨by omega, by omega⟩ (fun c4 => ?_) (fun c4 => ?_)
      · have c4 : (a1 : Int) ≥ z3 := c4
        refine yG.ret rfl (fun _ _ => rfl) ?_
        exact (yP.void ⟨⟨rfl, trivial⟩, A_hq⟩)
      · have c4 : (a1 : Int) < z3 := c4
        refine yG.load xak rfl (fun _ _ => rfl) (v := yR k0) rfl rfl ?_
        refine yG.getO A_hq.1 (w_Flow_shape W H_k0) rfl rfl (fun r5 H_r5 O_r5 q_r5 => ?_)
        refine yG.load xik rfl (fun _ _ => rfl) (v := yI (a1)) rfl rfl ?_
        refine yG.invV (rest := []) A_hq.1 (bOb (d_Shape W) H_r5) rfl rfl rfl rfl (c_Shape_islandOfLoad W d A_hq.1 H_r5 (a1) (by omega) (by omega)) (fun rv hp9 q9 => ?_)
        obtain ⟨⟨z6, rfl, l_z6, u_z6, R_z6⟩, e9⟩ := q9
        rw [e9]
        show yG _ _ _ _ _ _ _ _ _ _ (yI z6 :: []) _
        refine yG.store1 xik (L' := [(2, yI (z6)), (0, yR k0), (1, yI (a1))]) rfl (fun _ _ => rfl) rfl rfl ?_
        refine yG.load xak rfl (fun _ _ => rfl) (v := yR k0) rfl rfl ?_
        refine yG.getS9 A_hq.1 (w_Flow_net W H_k0) q_r1 rfl rfl ?_
        refine yG.num (c := 4) rfl (fun _ _ => rfl) (by decide) ?_
        refine yG.load xik rfl (fun _ _ => rfl) (v := yI (a1)) rfl rfl ?_
        refine yG.num (c := 0) rfl (fun _ _ => rfl) (by decide) ?_
        refine yG.invV (rest := []) A_hq.1 (bOb (d_Net W) H_r1) rfl rfl rfl rfl (c_Net_at_4_0 W (d + 1) A_hq.1 H_r1 (a1) (by omega) (by omega)) (fun rv hp9 q9 => ?_)
        obtain ⟨⟨z7, rfl, l_z7, u_z7, R_z7⟩, e9⟩ := q9
        rw [e9]
        show yG _ _ _ _ _ _ _ _ _ _ (yI z7 :: []) _
        refine yG.store1 xik (L' := [(3, yI (z7)), (2, yI (z6)), (0, yR k0), (1, yI (a1))]) rfl (fun _ _ => rfl) rfl rfl ?_
        refine yG.load xak rfl (fun _ _ => rfl) (v := yR k0) rfl rfl ?_
        refine yG.getO A_hq.1 (w_Flow_gap W H_k0) rfl rfl (fun r8 H_r8 O_r8 q_r8 => ?_)
        refine yG.load xik rfl (fun _ _ => rfl) (v := yI (z6)) rfl rfl ?_
        refine yG.step (pc' := 41) (stk' := [yI (z6), yR r8, yI (z6), yR r8]) rfl (fun _ _ => rfl) ?_
        refine yG.iald A_hq.1 (v_Flow_gap W H_r8) rfl (by omega) (by omega) (fun z9 e_z9 i_z9 l_z9 u_z9 => ?_)
        refine yG.load xik rfl (fun _ _ => rfl) (v := yI (z7)) rfl rfl ?_
        refine yG.iadd rfl ?_
        obtain ⟨z10, e_z10, l_z10, u_z10⟩ := ywI (z9 + z7)
        rw [e_z10]
        refine yG.iast A_hq.1 (v_Flow_gap W H_r8) (W.2.1 _ _ H_r8 (by decide) (by decide)) rfl (by omega) (by omega) ⟨by omega, by omega⟩ (by omega) (by omega) (fun h11 T_h11 b_h11 f_h11 y_h11 => ?_)
        have A_h11 := A_hq.put T_h11 b_h11 f_h11 H_r8 (bAll_ok (by decide) _)
        have qq1 : zsl h11 k0 1 = yR r1 := ((f_h11 k0 1).trans (if_neg (fun e => (bRo.ne H_k0 H_r8 (by decide)) e.1))).trans q_r1
        have qq2 : zsl h11 k0 0 = yR r5 := ((f_h11 k0 0).trans (if_neg (fun e => (bRo.ne H_k0 H_r8 (by decide)) e.1))).trans q_r5
        refine yG.load xak rfl (fun _ _ => rfl) (v := yR k0) rfl rfl ?_
        refine yG.step (pc' := 47) (stk' := [yR k0, yR k0]) rfl (fun _ _ => rfl) ?_
        refine yG.getI A_h11.1 (w_Flow_lost W H_k0) rfl rfl (fun z12 e_z12 i_z12 l_z12 u_z12 => ?_)
        refine yG.load xak rfl (fun _ _ => rfl) (v := yR k0) rfl rfl ?_
        refine yG.getS9 A_h11.1 (w_Flow_shape W H_k0) qq2 rfl rfl ?_
        refine yG.getO A_h11.1 (w_Shape_live W H_r5) rfl rfl (fun r13 H_r13 O_r13 q_r13 => ?_)
        refine yG.load xik rfl (fun _ _ => rfl) (v := yI (z6)) rfl rfl ?_
        refine yG.bald A_h11.1 (v_Shape_live W H_r13) rfl (by omega) (by omega) (fun z14 e_z14 i_z14 l_z14 u_z14 => ?_)
        refine yG.ifz rfl (t := 66) rfl ⟨by omega, by omega⟩ (fun c15 => ?_) (fun c15 => ?_)
        · have c15 : (z14 : Int) = 0 := c15
          refine yG.load xik rfl (fun _ _ => rfl) (v := yI (z7)) rfl rfl ?_
          refine yG.iadd rfl ?_
          obtain ⟨z17, e_z17, l_z17, u_z17⟩ := ywI (z12 + z7)
          rw [e_z17]
          refine yG.putI A_h11.1 (w_Flow_lost W H_k0) (W.2.1 _ _ H_k0 (by decide) (by decide)) rfl rfl (.inl rfl) ⟨by omega, by omega⟩ (by omega) (by omega) (fun h16 T_h16 b_h16 f_h16 y_h16 => ?_)
          have A_h16 := A_h11.put T_h16 b_h16 f_h16 H_k0 (by decide)
          have qq3 : zsl h16 k0 1 = yR r1 := ((f_h16 k0 1).trans (if_neg (fun e => absurd e.2 (by decide)))).trans qq1
          have qq4 : zsl h16 k0 0 = yR r5 := ((f_h16 k0 0).trans (if_neg (fun e => absurd e.2 (by decide)))).trans qq2
          refine yG.iinc rfl (a := a1) rfl (L' := [(1, yI (a1 + 1)), (3, yI (z7)), (2, yI (z6)), (0, yR k0)]) rfl ?_
          refine yG.goto rfl (t := 2) rfl ?_
          exact yG.mono (yG.sub (i_2 (a1 + 1)  h16 A_h16   (by omega) (by omega) (by omega)) (ySub.cons rfl (ySub.cons rfl (ySub.nil)))) (by omega)
        · have c15 : (z14 : Int) ≠ 0 := c15
          refine yG.num (c := 0) rfl (fun _ _ => rfl) (by decide) ?_
          refine yG.goto rfl (t := 67) rfl ?_
          refine yG.iadd rfl ?_
          refine yG.putI A_h11.1 (w_Flow_lost W H_k0) (W.2.1 _ _ H_k0 (by decide) (by decide)) rfl rfl (.inl rfl) ⟨by omega, by omega⟩ (by omega) (by omega) (fun h18 T_h18 b_h18 f_h18 y_h18 => ?_)
          have A_h18 := A_h11.put T_h18 b_h18 f_h18 H_k0 (by decide)
          have qq5 : zsl h18 k0 1 = yR r1 := ((f_h18 k0 1).trans (if_neg (fun e => absurd e.2 (by decide)))).trans qq1
          have qq6 : zsl h18 k0 0 = yR r5 := ((f_h18 k0 0).trans (if_neg (fun e => absurd e.2 (by decide)))).trans qq2
          refine yG.iinc rfl (a := a1) rfl (L' := [(1, yI (a1 + 1)), (3, yI (z7)), (2, yI (z6)), (0, yR k0)]) rfl ?_
          refine yG.goto rfl (t := 2) rfl ?_
          exact yG.mono (yG.sub (i_2 (a1 + 1)  h18 A_h18   (by omega) (by omega) (by omega)) (ySub.cons rfl (ySub.cons rfl (ySub.nil)))) (by omega)
  refine yC.of (M := (xt_X2_addLoads, (4, (0, (3, []))))) rfl rfl (N := 1232) (yfuel (by decide)) ?_
  show yG 89 xfts (xcall 89 xfts xpools xms (d + 2)) (xpool xp_RX2) [] xt_X2_addLoads (yP 0 (fun rv hp' => (rv = none ∧ True) ∧ bAx G [(17592186044416, 13), (35184372088832, 256)] hp hp')) 1232 0 [(0, yR k0)] [] hp
  have i_2 := H 27
  refine yG.num (c := 0) rfl (fun _ _ => rfl) (by decide) ?_
  refine yG.store1 xik (L' := [(1, yI (0)), (0, yR k0)]) rfl (fun _ _ => rfl) rfl rfl ?_
  exact yG.mono (yG.sub (i_2 (0)  hp A_hp   (by omega) (by omega) (by omega)) (ySub.cons rfl (ySub.cons rfl (ySub.nil)))) (by omega)
theorem c_Flow_addMachines_m {hp : xH} (W : bW G) (d : Nat) (hT : zTy G hp) {k0 : Nat} (H_k0 : bRo G 44 k0) : yC (xcall 89 xfts xpools xms (d + 2)) 101 [yR k0] hp (fun rv hp' => (rv = none ∧ True) ∧ bAx G [(105553116266496, 256)] hp hp') := by
  have A_hp : bAx G [(105553116266496, 256)] hp hp := bAx.rf hT
  have H : ∀ m : Nat, (∀ a1 : Int, ∀ hq, bAx G [(105553116266496, 256)] hp hq → 0 ≤ a1 → (-6) ≤ 0 - a1 → 0 - 2 * a1 + 13 < (m : Int) → yG 89 xfts (xcall 89 xfts xpools xms (d + 1)) (xpool xp_RX2) [] xt_X2_addMachines (yP 0 (fun rv hp' => (rv = none ∧ True) ∧ bAx G [(105553116266496, 256)] hp hp')) (48 * m) 2 [(0, yR k0), (1, yI (a1))] [] hq) := by
    intro m
    induction m with
    | zero =>
      intros; exfalso; omega
    | succ m ih =>
      have i_2 := ih
      clear ih
      intro a1 hq A_hq f0 f1 hm
      refine yG.mono (N := 48 * m + 48) ?_ (by omega)
      refine yG.load xik rfl (fun _ _ => rfl) (v := yI (a1)) rfl rfl ?_
      refine yG.load xak rfl (fun _ _ => rfl) (v := yR k0) rfl rfl ?_
      refine yG.getO A_hq.1 (w_Flow_net W H_k0) rfl rfl (fun r1 H_r1 O_r1 q_r1 => ?_)
      refine yG.getO A_hq.1 (w_Net_count W H_r1) rfl rfl (fun r2 H_r2 O_r2 q_r2 => ?_)
      refine yG.num (c := 3) rfl (fun _ _ => rfl) (by decide) ?_
      refine yG.ialdF A_hq.1 (v_Net_count W H_r2) rfl rfl (by omega) (by omega) (fun z3 e_z3 i_z3 l_z3 u_z3 => ?_)
      refine yG.icmp rfl (t := 81) rfl ⟨by omega, by omega⟩ ⟨by omega, by omega⟩ (fun c4 => ?_) (fun c4 => ?_)
      · have c4 : (a1 : Int) ≥ z3 := c4
        refine yG.ret rfl (fun _ _ => rfl) ?_
        exact (yP.void ⟨⟨rfl, trivial⟩, A_hq⟩)
      · have c4 : (a1 : Int) < z3 := c4
        refine yG.load xak rfl (fun _ _ => rfl) (v := yR k0) rfl rfl ?_
        refine yG.getO A_hq.1 (w_Flow_shape W H_k0) rfl rfl (fun r5 H_r5 O_r5 q_r5 => ?_)
        refine yG.getO A_hq.1 (w_Shape_on W H_r5) rfl rfl (fun r6 H_r6 O_r6 q_r6 => ?_)
        refine yG.load xik rfl (fun _ _ => rfl) (v := yI (a1)) rfl rfl ?_
        refine yG.bald A_hq.1 (v_Shape_on W H_r6) rfl (by omega) (by omega) (fun z7 e_z7 i_z7 l_z7 u_z7 => ?_)
        refine yG.ifz rfl (t := 75) rfl ⟨by omega, by omega⟩ (fun c8 => ?_) (fun c8 => ?_)
        · have c8 : (z7 : Int) = 0 := c8
          refine yG.iinc rfl (a := a1) rfl (L' := [(1, yI (a1 + 1)), (0, yR k0)]) rfl ?_
          refine yG.goto rfl (t := 2) rfl ?_
          exact yG.mono (yG.sub (i_2 (a1 + 1)  hq A_hq   (by omega) (by omega) (by omega)) (ySub.cons rfl (ySub.cons rfl (ySub.nil)))) (by omega)
        · have c8 : (z7 : Int) ≠ 0 := c8
          refine yG.load xak rfl (fun _ _ => rfl) (v := yR k0) rfl rfl ?_
          refine yG.getS9 A_hq.1 (w_Flow_shape W H_k0) q_r5 rfl rfl ?_
          refine yG.load xik rfl (fun _ _ => rfl) (v := yI (a1)) rfl rfl ?_
          refine yG.invV (rest := []) A_hq.1 (bOb (d_Shape W) H_r5) rfl rfl rfl rfl (c_Shape_islandOfMachine W d A_hq.1 H_r5 (a1) (by omega) (by omega)) (fun rv hp9 q9 => ?_)
          obtain ⟨⟨z9, rfl, l_z9, u_z9, R_z9⟩, e9⟩ := q9
          rw [e9]
          show yG _ _ _ _ _ _ _ _ _ _ (yI z9 :: []) _
          refine yG.store1 xik (L' := [(2, yI (z9)), (0, yR k0), (1, yI (a1))]) rfl (fun _ _ => rfl) rfl rfl ?_
          refine yG.load xak rfl (fun _ _ => rfl) (v := yR k0) rfl rfl ?_
          refine yG.getO A_hq.1 (w_Flow_gap W H_k0) rfl rfl (fun r10 H_r10 O_r10 q_r10 => ?_)
          refine yG.load xik rfl (fun _ _ => rfl) (v := yI (z9)) rfl rfl ?_
          refine yG.step (pc' := 42) (stk' := [yI (z9), yR r10, yI (z9), yR r10]) rfl (fun _ _ => rfl) ?_
          refine yG.iald A_hq.1 (v_Flow_gap W H_r10) rfl (by omega) (by omega) (fun z11 e_z11 i_z11 l_z11 u_z11 => ?_)
          refine yG.load xak rfl (fun _ _ => rfl) (v := yR k0) rfl rfl ?_
          refine yG.getS9 A_hq.1 (w_Flow_net W H_k0) q_r1 rfl rfl ?_
          refine yG.num (c := 3) rfl (fun _ _ => rfl) (by decide) ?_
          refine yG.load xik rfl (fun _ _ => rfl) (v := yI (a1)) rfl rfl ?_
          refine yG.num (c := 1) rfl (fun _ _ => rfl) (by decide) ?_
          refine yG.invV (rest := [yI (z11), yI (z9), yR r10]) A_hq.1 (bOb (d_Net W) H_r1) rfl rfl rfl rfl (c_Net_at_3_1 W d A_hq.1 H_r1 (a1) (by omega) (by omega)) (fun rv hp9 q9 => ?_)
          obtain ⟨⟨z12, rfl, l_z12, u_z12, R_z12⟩, e9⟩ := q9
          rw [e9]
          show yG _ _ _ _ _ _ _ _ _ _ (yI z12 :: [yI (z11), yI (z9), yR r10]) _
          refine yG.isub rfl ?_
          obtain ⟨z13, e_z13, l_z13, u_z13⟩ := ywI (z11 - z12)
          rw [e_z13]
          refine yG.iast A_hq.1 (v_Flow_gap W H_r10) (W.2.1 _ _ H_r10 (by decide) (by decide)) rfl (by omega) (by omega) ⟨by omega, by omega⟩ (by omega) (by omega) (fun h14 T_h14 b_h14 f_h14 y_h14 => ?_)
          have A_h14 := A_hq.put T_h14 b_h14 f_h14 H_r10 (bAll_ok (by decide) _)
          have qq1 : zsl h14 k0 1 = yR r1 := ((f_h14 k0 1).trans (if_neg (fun e => (bRo.ne H_k0 H_r10 (by decide)) e.1))).trans q_r1
          have qq2 : zsl h14 k0 0 = yR r5 := ((f_h14 k0 0).trans (if_neg (fun e => (bRo.ne H_k0 H_r10 (by decide)) e.1))).trans q_r5
          refine yG.load xak rfl (fun _ _ => rfl) (v := yR k0) rfl rfl ?_
          refine yG.getO A_h14.1 (w_Flow_total W H_k0) rfl rfl (fun r15 H_r15 O_r15 q_r15 => ?_)
          refine yG.load xik rfl (fun _ _ => rfl) (v := yI (z9)) rfl rfl ?_
          refine yG.step (pc' := 61) (stk' := [yI (z9), yR r15, yI (z9), yR r15]) rfl (fun _ _ => rfl) ?_
          refine yG.iald A_h14.1 (v_Flow_total W H_r15) rfl (by omega) (by omega) (fun z16 e_z16 i_z16 l_z16 u_z16 => ?_)
          refine yG.load xak rfl (fun _ _ => rfl) (v := yR k0) rfl rfl ?_
          refine yG.getS9 A_h14.1 (w_Flow_net W H_k0) qq1 rfl rfl ?_
          refine yG.num (c := 3) rfl (fun _ _ => rfl) (by decide) ?_
          refine yG.load xik rfl (fun _ _ => rfl) (v := yI (a1)) rfl rfl ?_
          refine yG.num (c := 9) rfl (fun _ _ => rfl) (by decide) ?_
          refine yG.invV (rest := [yI (z16), yI (z9), yR r15]) A_h14.1 (bOb (d_Net W) H_r1) rfl rfl rfl rfl (c_Net_at_3_9 W d A_h14.1 H_r1 (a1) (by omega) (by omega)) (fun rv hp9 q9 => ?_)
          obtain ⟨⟨z17, rfl, l_z17, u_z17, R_z17⟩, e9⟩ := q9
          rw [e9]
          show yG _ _ _ _ _ _ _ _ _ _ (yI z17 :: [yI (z16), yI (z9), yR r15]) _
          refine yG.iadd rfl ?_
          obtain ⟨z18, e_z18, l_z18, u_z18⟩ := ywI (z16 + z17)
          rw [e_z18]
          refine yG.iast A_h14.1 (v_Flow_total W H_r15) (W.2.1 _ _ H_r15 (by decide) (by decide)) rfl (by omega) (by omega) ⟨by omega, by omega⟩ (by omega) (by omega) (fun h19 T_h19 b_h19 f_h19 y_h19 => ?_)
          have A_h19 := A_h14.put T_h19 b_h19 f_h19 H_r15 (bAll_ok (by decide) _)
          have qq3 : zsl h19 k0 1 = yR r1 := ((f_h19 k0 1).trans (if_neg (fun e => (bRo.ne H_k0 H_r15 (by decide)) e.1))).trans qq1
          have qq4 : zsl h19 k0 0 = yR r5 := ((f_h19 k0 0).trans (if_neg (fun e => (bRo.ne H_k0 H_r15 (by decide)) e.1))).trans qq2
          refine yG.iinc rfl (a := a1) rfl (L' := [(1, yI (a1 + 1)), (2, yI (z9)), (0, yR k0)]) rfl ?_
          refine yG.goto rfl (t := 2) rfl ?_
          exact yG.mono (yG.sub (i_2 (a1 + 1)  h19 A_h19   (by omega) (by omega) (by omega)) (ySub.cons rfl (ySub.cons rfl (ySub.nil)))) (by omega)
  refine yC.of (M := (xt_X2_addMachines, (3, (0, (3, []))))) rfl rfl (N := 768) (yfuel (by decide)) ?_
  show yG 89 xfts (xcall 89 xfts xpools xms (d + 1)) (xpool xp_RX2) [] xt_X2_addMachines (yP 0 (fun rv hp' => (rv = none ∧ True) ∧ bAx G [(105553116266496, 256)] hp hp')) 768 0 [(0, yR k0)] [] hp
  have i_2 := H 15
  refine yG.num (c := 0) rfl (fun _ _ => rfl) (by decide) ?_
  refine yG.store1 xik (L' := [(1, yI (0)), (0, yR k0)]) rfl (fun _ _ => rfl) rfl rfl ?_
  exact yG.mono (yG.sub (i_2 (0)  hp A_hp   (by omega) (by omega) (by omega)) (ySub.cons rfl (ySub.cons rfl (ySub.nil)))) (by omega)
theorem c_Flow_look_m {hp : xH} (W : bW G) (d : Nat) (hT : zTy G hp) {k0 : Nat} (H_k0 : bRo G 44 k0) : yC (xcall 89 xfts xpools xms (d + 4)) 107 [yR k0] hp (fun rv hp' => (rv = none ∧ True) ∧ bAx G [(2251799813685248, 9), (2251799813685248, 10), (2269391999729664, 11), (17592186044416, 12), (17592186044416, 13), (17592186044416, 14), (17592186044416, 15), (2211795182620246016, 256)] hp hp') := by
  have A_hp : bAx G [(2251799813685248, 9), (2251799813685248, 10), (2269391999729664, 11), (17592186044416, 12), (17592186044416, 13), (17592186044416, 14), (17592186044416, 15), (2211795182620246016, 256)] hp hp := bAx.rf hT
  have H : ∀ m : Nat, (∀ a1 : Int, ∀ hq, bAx G [(2251799813685248, 9), (2251799813685248, 10), (2269391999729664, 11), (17592186044416, 12), (17592186044416, 13), (17592186044416, 14), (17592186044416, 15), (2211795182620246016, 256)] hp hq → 0 ≤ a1 → (-16) ≤ 0 - a1 → 0 - 35 * a1 + 594 < (m : Int) → yG 89 xfts (xcall 89 xfts xpools xms (d + 3)) (xpool xp_RX2) [] xt_X2_look (yP 0 (fun rv hp' => (rv = none ∧ True) ∧ bAx G [(2251799813685248, 9), (2251799813685248, 10), (2269391999729664, 11), (17592186044416, 12), (17592186044416, 13), (17592186044416, 14), (17592186044416, 15), (2211795182620246016, 256)] hp hp')) (67 * m) 35 [(0, yR k0), (1, yI (a1))] [] hq) ∧ (∀ a1 : Int, ∀ hq, bAx G [(2251799813685248, 9), (2251799813685248, 10), (2269391999729664, 11), (17592186044416, 12), (17592186044416, 13), (17592186044416, 14), (17592186044416, 15), (2211795182620246016, 256)] hp hq → 0 ≤ a1 → (-16) ≤ 0 - a1 → 0 - 2 * a1 + 33 < (m : Int) → yG 89 xfts (xcall 89 xfts xpools xms (d + 3)) (xpool xp_RX2) [] xt_X2_look (yP 0 (fun rv hp' => (rv = none ∧ True) ∧ bAx G [(2251799813685248, 9), (2251799813685248, 10), (2269391999729664, 11), (17592186044416, 12), (17592186044416, 13), (17592186044416, 14), (17592186044416, 15), (2211795182620246016, 256)] hp hp')) (67 * m) 71 [(0, yR k0), (1, yI (a1))] [] hq) := by
    intro m
    induction m with
    | zero =>
      refine ⟨?_, ?_⟩ <;> (intros; exfalso; omega)
    | succ m ih =>
      obtain ⟨i_35, i_71⟩ := ih
      refine ⟨?_, ?_⟩
      · intro a1 hq A_hq f0 f1 hm
        refine yG.mono (N := 67 * m + 67) ?_ (by omega)
        refine yG.load xik rfl (fun _ _ => rfl) (v := yI (a1)) rfl rfl ?_
        refine yG.num (c := 16) rfl (fun _ _ => rfl) (by decide) ?_
        refine yG.icmp rfl (t := 61) rfl ⟨by omega, by omega⟩ ⟨by omega, by omega⟩ (fun c1 => ?_) (fun c1 => ?_)
        · have c1 : (a1 : Int) ≥ 16 := c1
          refine yG.load xak rfl (fun _ _ => rfl) (v := yR k0) rfl rfl ?_
          refine yG.invV (rest := []) A_hq.1 (bOb (d_Flow W) H_k0) rfl rfl rfl rfl (c_Flow_addLoads_m W d A_hq.1 H_k0) (fun rv h2 q9 => ?_)
          obtain ⟨⟨rfl, R_z3⟩, B_h2⟩ := q9
          have A_h2 := A_hq.tr B_h2 (by decide)
          show yG _ _ _ _ _ _ _ _ _ _ [] _
          refine yG.load xak rfl (fun _ _ => rfl) (v := yR k0) rfl rfl ?_
          refine yG.invV (rest := []) A_h2.1 (bOb (d_Flow W) H_k0) rfl rfl rfl rfl (c_Flow_addMachines_m W (d + 1) A_h2.1 H_k0) (fun rv h4 q9 => ?_)
          obtain ⟨⟨rfl, R_z5⟩, B_h4⟩ := q9
          have A_h4 := A_h2.tr B_h4 (by decide)
          show yG _ _ _ _ _ _ _ _ _ _ [] _
          refine yG.num (c := 0) rfl (fun _ _ => rfl) (by decide) ?_
          refine yG.store1 xik (L' := [(1, yI (0)), (0, yR k0)]) rfl (fun _ _ => rfl) rfl rfl ?_
          exact yG.mono (yG.sub (i_71 (0)  h4 A_h4   (by omega) (by omega) (by omega)) (ySub.cons rfl (ySub.cons rfl (ySub.nil)))) (by omega)
        · have c1 : (a1 : Int) < 16 := c1
          refine yG.load xak rfl (fun _ _ => rfl) (v := yR k0) rfl rfl ?_
          refine yG.getO A_hq.1 (w_Flow_gap W H_k0) rfl rfl (fun r6 H_r6 O_r6 q_r6 => ?_)
          refine yG.load xik rfl (fun _ _ => rfl) (v := yI (a1)) rfl rfl ?_
          refine yG.num (c := 0) rfl (fun _ _ => rfl) (by decide) ?_
          refine yG.iast A_hq.1 (v_Flow_gap W H_r6) (W.2.1 _ _ H_r6 (by decide) (by decide)) rfl (by omega) (by omega) ⟨by omega, by omega⟩ (by omega) (by omega) (fun h7 T_h7 b_h7 f_h7 y_h7 => ?_)
          have A_h7 := A_hq.put T_h7 b_h7 f_h7 H_r6 (bAll_ok (by decide) _)
          refine yG.load xak rfl (fun _ _ => rfl) (v := yR k0) rfl rfl ?_
          refine yG.getO A_h7.1 (w_Flow_total W H_k0) rfl rfl (fun r8 H_r8 O_r8 q_r8 => ?_)
          refine yG.load xik rfl (fun _ _ => rfl) (v := yI (a1)) rfl rfl ?_
          refine yG.num (c := 0) rfl (fun _ _ => rfl) (by decide) ?_
          refine yG.iast A_h7.1 (v_Flow_total W H_r8) (W.2.1 _ _ H_r8 (by decide) (by decide)) rfl (by omega) (by omega) ⟨by omega, by omega⟩ (by omega) (by omega) (fun h9 T_h9 b_h9 f_h9 y_h9 => ?_)
          have A_h9 := A_h7.put T_h9 b_h9 f_h9 H_r8 (bAll_ok (by decide) _)
          refine yG.iinc rfl (a := a1) rfl (L' := [(1, yI (a1 + 1)), (0, yR k0)]) rfl ?_
          refine yG.goto rfl (t := 35) rfl ?_
          exact yG.mono (yG.sub (i_35 (a1 + 1)  h9 A_h9   (by omega) (by omega) (by omega)) (ySub.cons rfl (ySub.cons rfl (ySub.nil)))) (by omega)
      · intro a1 hq A_hq f0 f1 hm
        refine yG.mono (N := 67 * m + 67) ?_ (by omega)
        refine yG.load xik rfl (fun _ _ => rfl) (v := yI (a1)) rfl rfl ?_
        refine yG.num (c := 16) rfl (fun _ _ => rfl) (by decide) ?_
        refine yG.icmp rfl (t := 195) rfl ⟨by omega, by omega⟩ ⟨by omega, by omega⟩ (fun c1 => ?_) (fun c1 => ?_)
        · have c1 : (a1 : Int) ≥ 16 := c1
          refine yG.ret rfl (fun _ _ => rfl) ?_
          exact (yP.void ⟨⟨rfl, trivial⟩, A_hq⟩)
        · have c1 : (a1 : Int) < 16 := c1
          refine yG.load xak rfl (fun _ _ => rfl) (v := yR k0) rfl rfl ?_
          refine yG.getO A_hq.1 (w_Flow_stuck W H_k0) rfl rfl (fun r2 H_r2 O_r2 q_r2 => ?_)
          refine yG.load xik rfl (fun _ _ => rfl) (v := yI (a1)) rfl rfl ?_
          refine yG.load xak rfl (fun _ _ => rfl) (v := yR k0) rfl rfl ?_
          refine yG.getO A_hq.1 (w_Flow_shape W H_k0) rfl rfl (fun r3 H_r3 O_r3 q_r3 => ?_)
          refine yG.getO A_hq.1 (w_Shape_live W H_r3) rfl rfl (fun r4 H_r4 O_r4 q_r4 => ?_)
          refine yG.load xik rfl (fun _ _ => rfl) (v := yI (a1)) rfl rfl ?_
          refine yG.bald A_hq.1 (v_Shape_live W H_r4) rfl (by omega) (by omega) (fun z5 e_z5 i_z5 l_z5 u_z5 => ?_)
          refine yG.ifz rfl (t := 116) rfl ⟨by omega, by omega⟩ (fun c6 => ?_) (fun c6 => ?_)
          · have c6 : (z5 : Int) = 0 := c6
            refine yG.num (c := 0) rfl (fun _ _ => rfl) (by decide) ?_
            refine yG.bast A_hq.1 (v_Flow_stuck W H_r2) (W.2.1 _ _ H_r2 (by decide) (by decide)) rfl (by omega) (by omega) ⟨by omega, by omega⟩ (by omega) (by omega) (fun h7 T_h7 b_h7 f_h7 y_h7 => ?_)
            have A_h7 := A_hq.put T_h7 b_h7 f_h7 H_r2 (bAll_ok (by decide) _)
            have qq1 : zsl h7 k0 6 = yR r2 := ((f_h7 k0 6).trans (if_neg (fun e => (bRo.ne H_k0 H_r2 (by decide)) e.1))).trans q_r2
            have qq2 : zsl h7 k0 0 = yR r3 := ((f_h7 k0 0).trans (if_neg (fun e => (bRo.ne H_k0 H_r2 (by decide)) e.1))).trans q_r3
            have qq3 : zsl h7 r3 4 = yR r4 := ((f_h7 r3 4).trans (if_neg (fun e => (bRo.ne H_r3 H_r2 (by decide)) e.1))).trans q_r4
            have : ys h7 r4 (a1 : Int).toNat = ys hq r4 (a1 : Int).toNat := (y_h7 r4 (a1 : Int).toNat).trans (if_neg (fun e => (bRo.ne H_r4 H_r2 (by decide)) e.1))
            have : ys h7 r2 (a1 : Int).toNat = 0 := (y_h7 r2 _).trans (if_pos ⟨rfl, rfl⟩)
            refine yG.load xak rfl (fun _ _ => rfl) (v := yR k0) rfl rfl ?_
            refine yG.getO A_h7.1 (w_Flow_solvable W H_k0) rfl rfl (fun r8 H_r8 O_r8 q_r8 => ?_)
            refine yG.load xik rfl (fun _ _ => rfl) (v := yI (a1)) rfl rfl ?_
            refine yG.load xak rfl (fun _ _ => rfl) (v := yR k0) rfl rfl ?_
            refine yG.getS9 A_h7.1 (w_Flow_shape W H_k0) qq2 rfl rfl ?_
            refine yG.getS9 A_h7.1 (w_Shape_live W H_r3) qq3 rfl rfl ?_
            refine yG.load xik rfl (fun _ _ => rfl) (v := yI (a1)) rfl rfl ?_
            refine yG.bald A_h7.1 (v_Shape_live W H_r4) rfl (by omega) (by omega) (fun z9 e_z9 i_z9 l_z9 u_z9 => ?_)
            refine yG.ifz rfl (t := 148) rfl ⟨by omega, by omega⟩ (fun c10 => ?_) (fun c10 => ?_)
            · have c10 : (z9 : Int) = 0 := c10
              refine yG.num (c := 0) rfl (fun _ _ => rfl) (by decide) ?_
              refine yG.bast A_h7.1 (v_Flow_solvable W H_r8) (W.2.1 _ _ H_r8 (by decide) (by decide)) rfl (by omega) (by omega) ⟨by omega, by omega⟩ (by omega) (by omega) (fun h11 T_h11 b_h11 f_h11 y_h11 => ?_)
              have A_h11 := A_h7.put T_h11 b_h11 f_h11 H_r8 (bAll_ok (by decide) _)
              have qq4 : zsl h11 k0 6 = yR r2 := ((f_h11 k0 6).trans (if_neg (fun e => (bRo.ne H_k0 H_r8 (by decide)) e.1))).trans qq1
              have qq5 : zsl h11 k0 0 = yR r3 := ((f_h11 k0 0).trans (if_neg (fun e => (bRo.ne H_k0 H_r8 (by decide)) e.1))).trans qq2
              have qq6 : zsl h11 r3 4 = yR r4 := ((f_h11 r3 4).trans (if_neg (fun e => (bRo.ne H_r3 H_r8 (by decide)) e.1))).trans qq3
              have : ys h11 r4 (a1 : Int).toNat = ys h7 r4 (a1 : Int).toNat := (y_h11 r4 (a1 : Int).toNat).trans (if_neg (fun e => (bRo.ne H_r4 H_r8 (by decide)) e.1))
              have : ys h11 r2 (a1 : Int).toNat = ys h7 r2 (a1 : Int).toNat := (y_h11 r2 (a1 : Int).toNat).trans (if_neg (fun e => (bRo.ne H_r2 H_r8 (by decide)) e.1))
              refine yG.load xak rfl (fun _ _ => rfl) (v := yR k0) rfl rfl ?_
              refine yG.getO A_h11.1 (w_Flow_total W H_k0) rfl rfl (fun r12 H_r12 O_r12 q_r12 => ?_)
              refine yG.load xik rfl (fun _ _ => rfl) (v := yI (a1)) rfl rfl ?_
              refine yG.load xak rfl (fun _ _ => rfl) (v := yR k0) rfl rfl ?_
              refine yG.getS9 A_h11.1 (w_Flow_total W H_k0) q_r12 rfl rfl ?_
              refine yG.load xik rfl (fun _ _ => rfl) (v := yI (a1)) rfl rfl ?_
              refine yG.iald A_h11.1 (v_Flow_total W H_r12) rfl (by omega) (by omega) (fun z13 e_z13 i_z13 l_z13 u_z13 => ?_)
              refine yG.num (c := 1) rfl (fun _ _ => rfl) (by decide) ?_
              refine yG.invS (rest := [yI (a1), yR r12]) rfl rfl rfl rfl (c_J9_maxI W (d + 2) A_h11.1 (z13) (1) (by omega) (by omega) (by omega) (by omega)) (fun rv hp9 q9 => ?_)
              obtain ⟨⟨z14, rfl, l_z14, u_z14, R_z14⟩, e9⟩ := q9
              rw [e9]
              show yG _ _ _ _ _ _ _ _ _ _ (yI z14 :: [yI (a1), yR r12]) _
              refine yG.iast A_h11.1 (v_Flow_total W H_r12) (W.2.1 _ _ H_r12 (by decide) (by decide)) rfl (by omega) (by omega) ⟨by omega, by omega⟩ (by omega) (by omega) (fun h15 T_h15 b_h15 f_h15 y_h15 => ?_)
              have A_h15 := A_h11.put T_h15 b_h15 f_h15 H_r12 (bAll_ok (by decide) _)
              have qq7 : zsl h15 k0 6 = yR r2 := ((f_h15 k0 6).trans (if_neg (fun e => (bRo.ne H_k0 H_r12 (by decide)) e.1))).trans qq4
              have qq8 : zsl h15 k0 0 = yR r3 := ((f_h15 k0 0).trans (if_neg (fun e => (bRo.ne H_k0 H_r12 (by decide)) e.1))).trans qq5
              have qq9 : zsl h15 r3 4 = yR r4 := ((f_h15 r3 4).trans (if_neg (fun e => (bRo.ne H_r3 H_r12 (by decide)) e.1))).trans qq6
              have : ys h15 r4 (a1 : Int).toNat = ys h11 r4 (a1 : Int).toNat := (y_h15 r4 (a1 : Int).toNat).trans (if_neg (fun e => (bRo.ne H_r4 H_r12 (by decide)) e.1))
              have : ys h15 r2 (a1 : Int).toNat = ys h11 r2 (a1 : Int).toNat := (y_h15 r2 (a1 : Int).toNat).trans (if_neg (fun e => (bRo.ne H_r2 H_r12 (by decide)) e.1))
              have qq10 : zsl h15 k0 4 = yR r12 := ((f_h15 k0 4).trans (if_neg (fun e => (bRo.ne H_k0 H_r12 (by decide)) e.1))).trans q_r12
              refine yG.load xak rfl (fun _ _ => rfl) (v := yR k0) rfl rfl ?_
              refine yG.step (pc' := 168) (stk' := [yR k0, yR k0]) rfl (fun _ _ => rfl) ?_
              refine yG.getI A_h15.1 (w_Flow_stuckCount W H_k0) rfl rfl (fun z16 e_z16 i_z16 l_z16 u_z16 => ?_)
              refine yG.load xak rfl (fun _ _ => rfl) (v := yR k0) rfl rfl ?_
              refine yG.getS9 A_h15.1 (w_Flow_stuck W H_k0) qq7 rfl rfl ?_
              refine yG.load xik rfl (fun _ _ => rfl) (v := yI (a1)) rfl rfl ?_
              refine yG.bald A_h15.1 (v_Flow_stuck W H_r2) rfl (by omega) (by omega) (fun z17 e_z17 i_z17 l_z17 u_z17 => ?_)
              refine yG.ifz rfl (t := 184) rfl ⟨by omega, by omega⟩ (fun c18 => ?_) (fun c18 => ?_)
              · have c18 : (z17 : Int) = 0 := c18
                refine yG.num (c := 0) rfl (fun _ _ => rfl) (by decide) ?_
                refine yG.iadd rfl ?_
                refine yG.putI A_h15.1 (w_Flow_stuckCount W H_k0) (W.2.1 _ _ H_k0 (by decide) (by decide)) rfl rfl (.inl rfl) ⟨by omega, by omega⟩ (by omega) (by omega) (fun h19 T_h19 b_h19 f_h19 y_h19 => ?_)
                have A_h19 := A_h15.put T_h19 b_h19 f_h19 H_k0 (by decide)
                have qq11 : zsl h19 k0 6 = yR r2 := ((f_h19 k0 6).trans (if_neg (fun e => absurd e.2 (by decide)))).trans qq7
                have qq12 : zsl h19 k0 0 = yR r3 := ((f_h19 k0 0).trans (if_neg (fun e => absurd e.2 (by decide)))).trans qq8
                have qq13 : zsl h19 r3 4 = yR r4 := ((f_h19 r3 4).trans (if_neg (fun e => (bRo.ne H_r3 H_k0 (by decide)) e.1))).trans qq9
                have : ys h19 r4 (a1 : Int).toNat = ys h15 r4 (a1 : Int).toNat := (y_h19 r4 (a1 : Int).toNat).trans (if_neg (fun e => (bRo.ne H_r4 H_k0 (by decide)) e.1))
                have : ys h19 r2 (a1 : Int).toNat = ys h15 r2 (a1 : Int).toNat := (y_h19 r2 (a1 : Int).toNat).trans (if_neg (fun e => (bRo.ne H_r2 H_k0 (by decide)) e.1))
                have qq14 : zsl h19 k0 4 = yR r12 := ((f_h19 k0 4).trans (if_neg (fun e => absurd e.2 (by decide)))).trans qq10
                refine yG.iinc rfl (a := a1) rfl (L' := [(1, yI (a1 + 1)), (0, yR k0)]) rfl ?_
                refine yG.goto rfl (t := 71) rfl ?_
                exact yG.mono (yG.sub (i_71 (a1 + 1)  h19 A_h19   (by omega) (by omega) (by omega)) (ySub.cons rfl (ySub.cons rfl (ySub.nil)))) (by omega)
              · have c18 : (z17 : Int) ≠ 0 := c18
                exfalso; omega
            · have c10 : (z9 : Int) ≠ 0 := c10
              exfalso; omega
          · have c6 : (z5 : Int) ≠ 0 := c6
            refine yG.load xak rfl (fun _ _ => rfl) (v := yR k0) rfl rfl ?_
            refine yG.getO A_hq.1 (w_Flow_total W H_k0) rfl rfl (fun r20 H_r20 O_r20 q_r20 => ?_)
            refine yG.load xik rfl (fun _ _ => rfl) (v := yI (a1)) rfl rfl ?_
            refine yG.iald A_hq.1 (v_Flow_total W H_r20) rfl (by omega) (by omega) (fun z21 e_z21 i_z21 l_z21 u_z21 => ?_)
            refine yG.ifz rfl (t := 116) rfl ⟨by omega, by omega⟩ (fun c22 => ?_) (fun c22 => ?_)
            · have c22 : (z21 : Int) ≠ 0 := c22
              refine yG.num (c := 0) rfl (fun _ _ => rfl) (by decide) ?_
              refine yG.bast A_hq.1 (v_Flow_stuck W H_r2) (W.2.1 _ _ H_r2 (by decide) (by decide)) rfl (by omega) (by omega) ⟨by omega, by omega⟩ (by omega) (by omega) (fun h23 T_h23 b_h23 f_h23 y_h23 => ?_)
              have A_h23 := A_hq.put T_h23 b_h23 f_h23 H_r2 (bAll_ok (by decide) _)
              have qq15 : zsl h23 k0 6 = yR r2 := ((f_h23 k0 6).trans (if_neg (fun e => (bRo.ne H_k0 H_r2 (by decide)) e.1))).trans q_r2
              have qq16 : zsl h23 k0 0 = yR r3 := ((f_h23 k0 0).trans (if_neg (fun e => (bRo.ne H_k0 H_r2 (by decide)) e.1))).trans q_r3
              have qq17 : zsl h23 r3 4 = yR r4 := ((f_h23 r3 4).trans (if_neg (fun e => (bRo.ne H_r3 H_r2 (by decide)) e.1))).trans q_r4
              have : ys h23 r4 (a1 : Int).toNat = ys hq r4 (a1 : Int).toNat := (y_h23 r4 (a1 : Int).toNat).trans (if_neg (fun e => (bRo.ne H_r4 H_r2 (by decide)) e.1))
              have qq18 : zsl h23 k0 4 = yR r20 := ((f_h23 k0 4).trans (if_neg (fun e => (bRo.ne H_k0 H_r2 (by decide)) e.1))).trans q_r20
              have : ys h23 r20 (a1 : Int).toNat = ys hq r20 (a1 : Int).toNat := (y_h23 r20 (a1 : Int).toNat).trans (if_neg (fun e => (bRo.ne H_r20 H_r2 (by decide)) e.1))
              have : ys h23 r2 (a1 : Int).toNat = 0 := (y_h23 r2 _).trans (if_pos ⟨rfl, rfl⟩)
              refine yG.load xak rfl (fun _ _ => rfl) (v := yR k0) rfl rfl ?_
              refine yG.getO A_h23.1 (w_Flow_solvable W H_k0) rfl rfl (fun r24 H_r24 O_r24 q_r24 => ?_)
              refine yG.load xik rfl (fun _ _ => rfl) (v := yI (a1)) rfl rfl ?_
              refine yG.load xak rfl (fun _ _ => rfl) (v := yR k0) rfl rfl ?_
              refine yG.getS9 A_h23.1 (w_Flow_shape W H_k0) qq16 rfl rfl ?_
              refine yG.getS9 A_h23.1 (w_Shape_live W H_r3) qq17 rfl rfl ?_
              refine yG.load xik rfl (fun _ _ => rfl) (v := yI (a1)) rfl rfl ?_
              refine yG.bald A_h23.1 (v_Shape_live W H_r4) rfl (by omega) (by omega) (fun z25 e_z25 i_z25 l_z25 u_z25 => ?_)
              refine yG.ifz rfl (t := 148) rfl ⟨by omega, by omega⟩ (fun c26 => ?_) (fun c26 => ?_)
              · have c26 : (z25 : Int) = 0 := c26
                exfalso; omega
              · have c26 : (z25 : Int) ≠ 0 := c26
                refine yG.load xak rfl (fun _ _ => rfl) (v := yR k0) rfl rfl ?_
                refine yG.getS9 A_h23.1 (w_Flow_stuck W H_k0) qq15 rfl rfl ?_
                refine yG.load xik rfl (fun _ _ => rfl) (v := yI (a1)) rfl rfl ?_
                refine yG.bald A_h23.1 (v_Flow_stuck W H_r2) rfl (by omega) (by omega) (fun z27 e_z27 i_z27 l_z27 u_z27 => ?_)
                refine yG.ifz rfl (t := 148) rfl ⟨by omega, by omega⟩ (fun c28 => ?_) (fun c28 => ?_)
                · have c28 : (z27 : Int) ≠ 0 := c28
                  exfalso; omega
                · have c28 : (z27 : Int) = 0 := c28
                  refine yG.num (c := 1) rfl (fun _ _ => rfl) (by decide) ?_
                  refine yG.goto rfl (t := 149) rfl ?_
                  refine yG.bast A_h23.1 (v_Flow_solvable W H_r24) (W.2.1 _ _ H_r24 (by decide) (by decide)) rfl (by omega) (by omega) ⟨by omega, by omega⟩ (by omega) (by omega) (fun h29 T_h29 b_h29 f_h29 y_h29 => ?_)
                  have A_h29 := A_h23.put T_h29 b_h29 f_h29 H_r24 (bAll_ok (by decide) _)
                  have qq19 : zsl h29 k0 6 = yR r2 := ((f_h29 k0 6).trans (if_neg (fun e => (bRo.ne H_k0 H_r24 (by decide)) e.1))).trans qq15
                  have qq20 : zsl h29 k0 0 = yR r3 := ((f_h29 k0 0).trans (if_neg (fun e => (bRo.ne H_k0 H_r24 (by decide)) e.1))).trans qq16
                  have qq21 : zsl h29 r3 4 = yR r4 := ((f_h29 r3 4).trans (if_neg (fun e => (bRo.ne H_r3 H_r24 (by decide)) e.1))).trans qq17
                  have : ys h29 r4 (a1 : Int).toNat = ys h23 r4 (a1 : Int).toNat := (y_h29 r4 (a1 : Int).toNat).trans (if_neg (fun e => (bRo.ne H_r4 H_r24 (by decide)) e.1))
                  have qq22 : zsl h29 k0 4 = yR r20 := ((f_h29 k0 4).trans (if_neg (fun e => (bRo.ne H_k0 H_r24 (by decide)) e.1))).trans qq18
                  have : ys h29 r20 (a1 : Int).toNat = ys h23 r20 (a1 : Int).toNat := (y_h29 r20 (a1 : Int).toNat).trans (if_neg (fun e => (bRo.ne H_r20 H_r24 (by decide)) e.1))
                  have : ys h29 r2 (a1 : Int).toNat = ys h23 r2 (a1 : Int).toNat := (y_h29 r2 (a1 : Int).toNat).trans (if_neg (fun e => (bRo.ne H_r2 H_r24 (by decide)) e.1))
                  refine yG.load xak rfl (fun _ _ => rfl) (v := yR k0) rfl rfl ?_
                  refine yG.getS9 A_h29.1 (w_Flow_total W H_k0) qq22 rfl rfl ?_
                  refine yG.load xik rfl (fun _ _ => rfl) (v := yI (a1)) rfl rfl ?_
                  refine yG.load xak rfl (fun _ _ => rfl) (v := yR k0) rfl rfl ?_
                  refine yG.getS9 A_h29.1 (w_Flow_total W H_k0) qq22 rfl rfl ?_
                  refine yG.load xik rfl (fun _ _ => rfl) (v := yI (a1)) rfl rfl ?_
                  refine yG.iald A_h29.1 (v_Flow_total W H_r20) rfl (by omega) (by omega) (fun z30 e_z30 i_z30 l_z30 u_z30 => ?_)
                  refine yG.num (c := 1) rfl (fun _ _ => rfl) (by decide) ?_
                  refine yG.invS (rest := [yI (a1), yR r20]) rfl rfl rfl rfl (c_J9_maxI W (d + 2) A_h29.1 (z30) (1) (by omega) (by omega) (by omega) (by omega)) (fun rv hp9 q9 => ?_)
                  obtain ⟨⟨z31, rfl, l_z31, u_z31, R_z31⟩, e9⟩ := q9
                  rw [e9]
                  show yG _ _ _ _ _ _ _ _ _ _ (yI z31 :: [yI (a1), yR r20]) _
                  refine yG.iast A_h29.1 (v_Flow_total W H_r20) (W.2.1 _ _ H_r20 (by decide) (by decide)) rfl (by omega) (by omega) ⟨by omega, by omega⟩ (by omega) (by omega) (fun h32 T_h32 b_h32 f_h32 y_h32 => ?_)
                  have A_h32 := A_h29.put T_h32 b_h32 f_h32 H_r20 (bAll_ok (by decide) _)
                  have qq23 : zsl h32 k0 6 = yR r2 := ((f_h32 k0 6).trans (if_neg (fun e => (bRo.ne H_k0 H_r20 (by decide)) e.1))).trans qq19
                  have qq24 : zsl h32 k0 0 = yR r3 := ((f_h32 k0 0).trans (if_neg (fun e => (bRo.ne H_k0 H_r20 (by decide)) e.1))).trans qq20
                  have qq25 : zsl h32 r3 4 = yR r4 := ((f_h32 r3 4).trans (if_neg (fun e => (bRo.ne H_r3 H_r20 (by decide)) e.1))).trans qq21
                  have : ys h32 r4 (a1 : Int).toNat = ys h29 r4 (a1 : Int).toNat := (y_h32 r4 (a1 : Int).toNat).trans (if_neg (fun e => (bRo.ne H_r4 H_r20 (by decide)) e.1))
                  have qq26 : zsl h32 k0 4 = yR r20 := ((f_h32 k0 4).trans (if_neg (fun e => (bRo.ne H_k0 H_r20 (by decide)) e.1))).trans qq22
                  have : ys h32 r2 (a1 : Int).toNat = ys h29 r2 (a1 : Int).toNat := (y_h32 r2 (a1 : Int).toNat).trans (if_neg (fun e => (bRo.ne H_r2 H_r20 (by decide)) e.1))
                  have : ys h32 r20 (a1 : Int).toNat = z31 := (y_h32 r20 _).trans (if_pos ⟨rfl, rfl⟩)
                  refine yG.load xak rfl (fun _ _ => rfl) (v := yR k0) rfl rfl ?_
                  refine yG.step (pc' := 168) (stk' := [yR k0, yR k0]) rfl (fun _ _ => rfl) ?_
                  refine yG.getI A_h32.1 (w_Flow_stuckCount W H_k0) rfl rfl (fun z33 e_z33 i_z33 l_z33 u_z33 => ?_)
                  refine yG.load xak rfl (fun _ _ => rfl) (v := yR k0) rfl rfl ?_
                  refine yG.getS9 A_h32.1 (w_Flow_stuck W H_k0) qq23 rfl rfl ?_
                  refine yG.load xik rfl (fun _ _ => rfl) (v := yI (a1)) rfl rfl ?_
                  refine yG.bald A_h32.1 (v_Flow_stuck W H_r2) rfl (by omega) (by omega) (fun z34 e_z34 i_z34 l_z34 u_z34 => ?_)
                  refine yG.ifz rfl (t := 184) rfl ⟨by omega, by omega⟩ (fun c35 => ?_) (fun c35 => ?_)
                  · have c35 : (z34 : Int) = 0 := c35
                    refine yG.num (c := 0) rfl (fun _ _ => rfl) (by decide) ?_
                    refine yG.iadd rfl ?_
                    refine yG.putI A_h32.1 (w_Flow_stuckCount W H_k0) (W.2.1 _ _ H_k0 (by decide) (by decide)) rfl rfl (.inl rfl) ⟨by omega, by omega⟩ (by omega) (by omega) (fun h36 T_h36 b_h36 f_h36 y_h36 => ?_)
                    have A_h36 := A_h32.put T_h36 b_h36 f_h36 H_k0 (by decide)
                    have qq27 : zsl h36 k0 6 = yR r2 := ((f_h36 k0 6).trans (if_neg (fun e => absurd e.2 (by decide)))).trans qq23
                    have qq28 : zsl h36 k0 0 = yR r3 := ((f_h36 k0 0).trans (if_neg (fun e => absurd e.2 (by decide)))).trans qq24
                    have qq29 : zsl h36 r3 4 = yR r4 := ((f_h36 r3 4).trans (if_neg (fun e => (bRo.ne H_r3 H_k0 (by decide)) e.1))).trans qq25
                    have : ys h36 r4 (a1 : Int).toNat = ys h32 r4 (a1 : Int).toNat := (y_h36 r4 (a1 : Int).toNat).trans (if_neg (fun e => (bRo.ne H_r4 H_k0 (by decide)) e.1))
                    have qq30 : zsl h36 k0 4 = yR r20 := ((f_h36 k0 4).trans (if_neg (fun e => absurd e.2 (by decide)))).trans qq26
                    have : ys h36 r2 (a1 : Int).toNat = ys h32 r2 (a1 : Int).toNat := (y_h36 r2 (a1 : Int).toNat).trans (if_neg (fun e => (bRo.ne H_r2 H_k0 (by decide)) e.1))
                    have : ys h36 r20 (a1 : Int).toNat = ys h32 r20 (a1 : Int).toNat := (y_h36 r20 (a1 : Int).toNat).trans (if_neg (fun e => (bRo.ne H_r20 H_k0 (by decide)) e.1))
                    refine yG.iinc rfl (a := a1) rfl (L' := [(1, yI (a1 + 1)), (0, yR k0)]) rfl ?_
                    refine yG.goto rfl (t := 71) rfl ?_
                    exact yG.mono (yG.sub (i_71 (a1 + 1)  h36 A_h36   (by omega) (by omega) (by omega)) (ySub.cons rfl (ySub.cons rfl (ySub.nil)))) (by omega)
                  · have c35 : (z34 : Int) ≠ 0 := c35
                    exfalso; omega
            · have c22 : (z21 : Int) = 0 := c22
              refine yG.load xak rfl (fun _ _ => rfl) (v := yR k0) rfl rfl ?_
              refine yG.getO A_hq.1 (w_Flow_gap W H_k0) rfl rfl (fun r37 H_r37 O_r37 q_r37 => ?_)
              refine yG.load xik rfl (fun _ _ => rfl) (v := yI (a1)) rfl rfl ?_
              refine yG.iald A_hq.1 (v_Flow_gap W H_r37) rfl (by omega) (by omega) (fun z38 e_z38 i_z38 l_z38 u_z38 => ?_)
              refine yG.ifz rfl (t := 116) rfl ⟨by omega, by omega⟩ (fun c39 => ?_) (fun c39 => ?_)
              · have c39 : (z38 : Int) = 0 := c39
                refine yG.num (c := 0) rfl (fun _ _ => rfl) (by decide) ?_
                refine yG.bast A_hq.1 (v_Flow_stuck W H_r2) (W.2.1 _ _ H_r2 (by decide) (by decide)) rfl (by omega) (by omega) ⟨by omega, by omega⟩ (by omega) (by omega) (fun h40 T_h40 b_h40 f_h40 y_h40 => ?_)
                have A_h40 := A_hq.put T_h40 b_h40 f_h40 H_r2 (bAll_ok (by decide) _)
                have qq31 : zsl h40 k0 6 = yR r2 := ((f_h40 k0 6).trans (if_neg (fun e => (bRo.ne H_k0 H_r2 (by decide)) e.1))).trans q_r2
                have qq32 : zsl h40 k0 0 = yR r3 := ((f_h40 k0 0).trans (if_neg (fun e => (bRo.ne H_k0 H_r2 (by decide)) e.1))).trans q_r3
                have qq33 : zsl h40 r3 4 = yR r4 := ((f_h40 r3 4).trans (if_neg (fun e => (bRo.ne H_r3 H_r2 (by decide)) e.1))).trans q_r4
                have : ys h40 r4 (a1 : Int).toNat = ys hq r4 (a1 : Int).toNat := (y_h40 r4 (a1 : Int).toNat).trans (if_neg (fun e => (bRo.ne H_r4 H_r2 (by decide)) e.1))
                have qq34 : zsl h40 k0 4 = yR r20 := ((f_h40 k0 4).trans (if_neg (fun e => (bRo.ne H_k0 H_r2 (by decide)) e.1))).trans q_r20
                have : ys h40 r20 (a1 : Int).toNat = ys hq r20 (a1 : Int).toNat := (y_h40 r20 (a1 : Int).toNat).trans (if_neg (fun e => (bRo.ne H_r20 H_r2 (by decide)) e.1))
                have : ys h40 r2 (a1 : Int).toNat = 0 := (y_h40 r2 _).trans (if_pos ⟨rfl, rfl⟩)
                refine yG.load xak rfl (fun _ _ => rfl) (v := yR k0) rfl rfl ?_
                refine yG.getO A_h40.1 (w_Flow_solvable W H_k0) rfl rfl (fun r41 H_r41 O_r41 q_r41 => ?_)
                refine yG.load xik rfl (fun _ _ => rfl) (v := yI (a1)) rfl rfl ?_
                refine yG.load xak rfl (fun _ _ => rfl) (v := yR k0) rfl rfl ?_
                refine yG.getS9 A_h40.1 (w_Flow_shape W H_k0) qq32 rfl rfl ?_
                refine yG.getS9 A_h40.1 (w_Shape_live W H_r3) qq33 rfl rfl ?_
                refine yG.load xik rfl (fun _ _ => rfl) (v := yI (a1)) rfl rfl ?_
                refine yG.bald A_h40.1 (v_Shape_live W H_r4) rfl (by omega) (by omega) (fun z42 e_z42 i_z42 l_z42 u_z42 => ?_)
                refine yG.ifz rfl (t := 148) rfl ⟨by omega, by omega⟩ (fun c43 => ?_) (fun c43 => ?_)
                · have c43 : (z42 : Int) = 0 := c43
                  exfalso; omega
                · have c43 : (z42 : Int) ≠ 0 := c43
                  refine yG.load xak rfl (fun _ _ => rfl) (v := yR k0) rfl rfl ?_
                  refine yG.getS9 A_h40.1 (w_Flow_stuck W H_k0) qq31 rfl rfl ?_
                  refine yG.load xik rfl (fun _ _ => rfl) (v := yI (a1)) rfl rfl ?_
                  refine yG.bald A_h40.1 (v_Flow_stuck W H_r2) rfl (by omega) (by omega) (fun z44 e_z44 i_z44 l_z44 u_z44 => ?_)
                  refine yG.ifz rfl (t := 148) rfl ⟨by omega, by omega⟩ (fun c45 => ?_) (fun c45 => ?_)
                  · have c45 : (z44 : Int) ≠ 0 := c45
                    exfalso; omega
                  · have c45 : (z44 : Int) = 0 := c45
                    refine yG.num (c := 1) rfl (fun _ _ => rfl) (by decide) ?_
                    refine yG.goto rfl (t := 149) rfl ?_
                    refine yG.bast A_h40.1 (v_Flow_solvable W H_r41) (W.2.1 _ _ H_r41 (by decide) (by decide)) rfl (by omega) (by omega) ⟨by omega, by omega⟩ (by omega) (by omega) (fun h46 T_h46 b_h46 f_h46 y_h46 => ?_)
                    have A_h46 := A_h40.put T_h46 b_h46 f_h46 H_r41 (bAll_ok (by decide) _)
                    have qq35 : zsl h46 k0 6 = yR r2 := ((f_h46 k0 6).trans (if_neg (fun e => (bRo.ne H_k0 H_r41 (by decide)) e.1))).trans qq31
                    have qq36 : zsl h46 k0 0 = yR r3 := ((f_h46 k0 0).trans (if_neg (fun e => (bRo.ne H_k0 H_r41 (by decide)) e.1))).trans qq32
                    have qq37 : zsl h46 r3 4 = yR r4 := ((f_h46 r3 4).trans (if_neg (fun e => (bRo.ne H_r3 H_r41 (by decide)) e.1))).trans qq33
                    have : ys h46 r4 (a1 : Int).toNat = ys h40 r4 (a1 : Int).toNat := (y_h46 r4 (a1 : Int).toNat).trans (if_neg (fun e => (bRo.ne H_r4 H_r41 (by decide)) e.1))
                    have qq38 : zsl h46 k0 4 = yR r20 := ((f_h46 k0 4).trans (if_neg (fun e => (bRo.ne H_k0 H_r41 (by decide)) e.1))).trans qq34
                    have : ys h46 r20 (a1 : Int).toNat = ys h40 r20 (a1 : Int).toNat := (y_h46 r20 (a1 : Int).toNat).trans (if_neg (fun e => (bRo.ne H_r20 H_r41 (by decide)) e.1))
                    have : ys h46 r2 (a1 : Int).toNat = ys h40 r2 (a1 : Int).toNat := (y_h46 r2 (a1 : Int).toNat).trans (if_neg (fun e => (bRo.ne H_r2 H_r41 (by decide)) e.1))
                    refine yG.load xak rfl (fun _ _ => rfl) (v := yR k0) rfl rfl ?_
                    refine yG.getS9 A_h46.1 (w_Flow_total W H_k0) qq38 rfl rfl ?_
                    refine yG.load xik rfl (fun _ _ => rfl) (v := yI (a1)) rfl rfl ?_
                    refine yG.load xak rfl (fun _ _ => rfl) (v := yR k0) rfl rfl ?_
                    refine yG.getS9 A_h46.1 (w_Flow_total W H_k0) qq38 rfl rfl ?_
                    refine yG.load xik rfl (fun _ _ => rfl) (v := yI (a1)) rfl rfl ?_
                    refine yG.iald A_h46.1 (v_Flow_total W H_r20) rfl (by omega) (by omega) (fun z47 e_z47 i_z47 l_z47 u_z47 => ?_)
                    refine yG.num (c := 1) rfl (fun _ _ => rfl) (by decide) ?_
                    refine yG.invS (rest := [yI (a1), yR r20]) rfl rfl rfl rfl (c_J9_maxI W (d + 2) A_h46.1 (z47) (1) (by omega) (by omega) (by omega) (by omega)) (fun rv hp9 q9 => ?_)
                    obtain ⟨⟨z48, rfl, l_z48, u_z48, R_z48⟩, e9⟩ := q9
                    rw [e9]
                    show yG _ _ _ _ _ _ _ _ _ _ (yI z48 :: [yI (a1), yR r20]) _
                    refine yG.iast A_h46.1 (v_Flow_total W H_r20) (W.2.1 _ _ H_r20 (by decide) (by decide)) rfl (by omega) (by omega) ⟨by omega, by omega⟩ (by omega) (by omega) (fun h49 T_h49 b_h49 f_h49 y_h49 => ?_)
                    have A_h49 := A_h46.put T_h49 b_h49 f_h49 H_r20 (bAll_ok (by decide) _)
                    have qq39 : zsl h49 k0 6 = yR r2 := ((f_h49 k0 6).trans (if_neg (fun e => (bRo.ne H_k0 H_r20 (by decide)) e.1))).trans qq35
                    have qq40 : zsl h49 k0 0 = yR r3 := ((f_h49 k0 0).trans (if_neg (fun e => (bRo.ne H_k0 H_r20 (by decide)) e.1))).trans qq36
                    have qq41 : zsl h49 r3 4 = yR r4 := ((f_h49 r3 4).trans (if_neg (fun e => (bRo.ne H_r3 H_r20 (by decide)) e.1))).trans qq37
                    have : ys h49 r4 (a1 : Int).toNat = ys h46 r4 (a1 : Int).toNat := (y_h49 r4 (a1 : Int).toNat).trans (if_neg (fun e => (bRo.ne H_r4 H_r20 (by decide)) e.1))
                    have qq42 : zsl h49 k0 4 = yR r20 := ((f_h49 k0 4).trans (if_neg (fun e => (bRo.ne H_k0 H_r20 (by decide)) e.1))).trans qq38
                    have : ys h49 r2 (a1 : Int).toNat = ys h46 r2 (a1 : Int).toNat := (y_h49 r2 (a1 : Int).toNat).trans (if_neg (fun e => (bRo.ne H_r2 H_r20 (by decide)) e.1))
                    have : ys h49 r20 (a1 : Int).toNat = z48 := (y_h49 r20 _).trans (if_pos ⟨rfl, rfl⟩)
                    refine yG.load xak rfl (fun _ _ => rfl) (v := yR k0) rfl rfl ?_
                    refine yG.step (pc' := 168) (stk' := [yR k0, yR k0]) rfl (fun _ _ => rfl) ?_
                    refine yG.getI A_h49.1 (w_Flow_stuckCount W H_k0) rfl rfl (fun z50 e_z50 i_z50 l_z50 u_z50 => ?_)
                    refine yG.load xak rfl (fun _ _ => rfl) (v := yR k0) rfl rfl ?_
                    refine yG.getS9 A_h49.1 (w_Flow_stuck W H_k0) qq39 rfl rfl ?_
                    refine yG.load xik rfl (fun _ _ => rfl) (v := yI (a1)) rfl rfl ?_
                    refine yG.bald A_h49.1 (v_Flow_stuck W H_r2) rfl (by omega) (by omega) (fun z51 e_z51 i_z51 l_z51 u_z51 => ?_)
                    refine yG.ifz rfl (t := 184) rfl ⟨by omega, by omega⟩ (fun c52 => ?_) (fun c52 => ?_)
                    · have c52 : (z51 : Int) = 0 := c52
                      refine yG.num (c := 0) rfl (fun _ _ => rfl) (by decide) ?_
                      refine yG.iadd rfl ?_
                      refine yG.putI A_h49.1 (w_Flow_stuckCount W H_k0) (W.2.1 _ _ H_k0 (by decide) (by decide)) rfl rfl (.inl rfl) ⟨by omega, by omega⟩ (by omega) (by omega) (fun h53 T_h53 b_h53 f_h53 y_h53 => ?_)
                      have A_h53 := A_h49.put T_h53 b_h53 f_h53 H_k0 (by decide)
                      have qq43 : zsl h53 k0 6 = yR r2 := ((f_h53 k0 6).trans (if_neg (fun e => absurd e.2 (by decide)))).trans qq39
                      have qq44 : zsl h53 k0 0 = yR r3 := ((f_h53 k0 0).trans (if_neg (fun e => absurd e.2 (by decide)))).trans qq40
                      have qq45 : zsl h53 r3 4 = yR r4 := ((f_h53 r3 4).trans (if_neg (fun e => (bRo.ne H_r3 H_k0 (by decide)) e.1))).trans qq41
                      have : ys h53 r4 (a1 : Int).toNat = ys h49 r4 (a1 : Int).toNat := (y_h53 r4 (a1 : Int).toNat).trans (if_neg (fun e => (bRo.ne H_r4 H_k0 (by decide)) e.1))
                      have qq46 : zsl h53 k0 4 = yR r20 := ((f_h53 k0 4).trans (if_neg (fun e => absurd e.2 (by decide)))).trans qq42
                      have : ys h53 r2 (a1 : Int).toNat = ys h49 r2 (a1 : Int).toNat := (y_h53 r2 (a1 : Int).toNat).trans (if_neg (fun e => (bRo.ne H_r2 H_k0 (by decide)) e.1))
                      have : ys h53 r20 (a1 : Int).toNat = ys h49 r20 (a1 : Int).toNat := (y_h53 r20 (a1 : Int).toNat).trans (if_neg (fun e => (bRo.ne H_r20 H_k0 (by decide)) e.1))
                      refine yG.iinc rfl (a := a1) rfl (L' := [(1, yI (a1 + 1)), (0, yR k0)]) rfl ?_
                      refine yG.goto rfl (t := 71) rfl ?_
                      exact yG.mono (yG.sub (i_71 (a1 + 1)  h53 A_h53   (by omega) (by omega) (by omega)) (ySub.cons rfl (ySub.cons rfl (ySub.nil)))) (by omega)
                    · have c52 : (z51 : Int) ≠ 0 := c52
                      exfalso; omega
              · have c39 : (z38 : Int) ≠ 0 := c39
                refine yG.num (c := 1) rfl (fun _ _ => rfl) (by decide) ?_
                refine yG.goto rfl (t := 117) rfl ?_
                refine yG.bast A_hq.1 (v_Flow_stuck W H_r2) (W.2.1 _ _ H_r2 (by decide) (by decide)) rfl (by omega) (by omega) ⟨by omega, by omega⟩ (by omega) (by omega) (fun h54 T_h54 b_h54 f_h54 y_h54 => ?_)
                have A_h54 := A_hq.put T_h54 b_h54 f_h54 H_r2 (bAll_ok (by decide) _)
                have qq47 : zsl h54 k0 6 = yR r2 := ((f_h54 k0 6).trans (if_neg (fun e => (bRo.ne H_k0 H_r2 (by decide)) e.1))).trans q_r2
                have qq48 : zsl h54 k0 0 = yR r3 := ((f_h54 k0 0).trans (if_neg (fun e => (bRo.ne H_k0 H_r2 (by decide)) e.1))).trans q_r3
                have qq49 : zsl h54 r3 4 = yR r4 := ((f_h54 r3 4).trans (if_neg (fun e => (bRo.ne H_r3 H_r2 (by decide)) e.1))).trans q_r4
                have : ys h54 r4 (a1 : Int).toNat = ys hq r4 (a1 : Int).toNat := (y_h54 r4 (a1 : Int).toNat).trans (if_neg (fun e => (bRo.ne H_r4 H_r2 (by decide)) e.1))
                have qq50 : zsl h54 k0 4 = yR r20 := ((f_h54 k0 4).trans (if_neg (fun e => (bRo.ne H_k0 H_r2 (by decide)) e.1))).trans q_r20
                have : ys h54 r20 (a1 : Int).toNat = ys hq r20 (a1 : Int).toNat := (y_h54 r20 (a1 : Int).toNat).trans (if_neg (fun e => (bRo.ne H_r20 H_r2 (by decide)) e.1))
                have : ys h54 r2 (a1 : Int).toNat = 1 := (y_h54 r2 _).trans (if_pos ⟨rfl, rfl⟩)
                refine yG.load xak rfl (fun _ _ => rfl) (v := yR k0) rfl rfl ?_
                refine yG.getO A_h54.1 (w_Flow_solvable W H_k0) rfl rfl (fun r55 H_r55 O_r55 q_r55 => ?_)
                refine yG.load xik rfl (fun _ _ => rfl) (v := yI (a1)) rfl rfl ?_
                refine yG.load xak rfl (fun _ _ => rfl) (v := yR k0) rfl rfl ?_
                refine yG.getS9 A_h54.1 (w_Flow_shape W H_k0) qq48 rfl rfl ?_
                refine yG.getS9 A_h54.1 (w_Shape_live W H_r3) qq49 rfl rfl ?_
                refine yG.load xik rfl (fun _ _ => rfl) (v := yI (a1)) rfl rfl ?_
                refine yG.bald A_h54.1 (v_Shape_live W H_r4) rfl (by omega) (by omega) (fun z56 e_z56 i_z56 l_z56 u_z56 => ?_)
                refine yG.ifz rfl (t := 148) rfl ⟨by omega, by omega⟩ (fun c57 => ?_) (fun c57 => ?_)
                · have c57 : (z56 : Int) = 0 := c57
                  exfalso; omega
                · have c57 : (z56 : Int) ≠ 0 := c57
                  refine yG.load xak rfl (fun _ _ => rfl) (v := yR k0) rfl rfl ?_
                  refine yG.getS9 A_h54.1 (w_Flow_stuck W H_k0) qq47 rfl rfl ?_
                  refine yG.load xik rfl (fun _ _ => rfl) (v := yI (a1)) rfl rfl ?_
                  refine yG.bald A_h54.1 (v_Flow_stuck W H_r2) rfl (by omega) (by omega) (fun z58 e_z58 i_z58 l_z58 u_z58 => ?_)
                  refine yG.ifz rfl (t := 148) rfl ⟨by omega, by omega⟩ (fun c59 => ?_) (fun c59 => ?_)
                  · have c59 : (z58 : Int) ≠ 0 := c59
                    refine yG.num (c := 0) rfl (fun _ _ => rfl) (by decide) ?_
                    refine yG.bast A_h54.1 (v_Flow_solvable W H_r55) (W.2.1 _ _ H_r55 (by decide) (by decide)) rfl (by omega) (by omega) ⟨by omega, by omega⟩ (by omega) (by omega) (fun h60 T_h60 b_h60 f_h60 y_h60 => ?_)
                    have A_h60 := A_h54.put T_h60 b_h60 f_h60 H_r55 (bAll_ok (by decide) _)
                    have qq51 : zsl h60 k0 6 = yR r2 := ((f_h60 k0 6).trans (if_neg (fun e => (bRo.ne H_k0 H_r55 (by decide)) e.1))).trans qq47
                    have qq52 : zsl h60 k0 0 = yR r3 := ((f_h60 k0 0).trans (if_neg (fun e => (bRo.ne H_k0 H_r55 (by decide)) e.1))).trans qq48
                    have qq53 : zsl h60 r3 4 = yR r4 := ((f_h60 r3 4).trans (if_neg (fun e => (bRo.ne H_r3 H_r55 (by decide)) e.1))).trans qq49
                    have : ys h60 r4 (a1 : Int).toNat = ys h54 r4 (a1 : Int).toNat := (y_h60 r4 (a1 : Int).toNat).trans (if_neg (fun e => (bRo.ne H_r4 H_r55 (by decide)) e.1))
                    have qq54 : zsl h60 k0 4 = yR r20 := ((f_h60 k0 4).trans (if_neg (fun e => (bRo.ne H_k0 H_r55 (by decide)) e.1))).trans qq50
                    have : ys h60 r20 (a1 : Int).toNat = ys h54 r20 (a1 : Int).toNat := (y_h60 r20 (a1 : Int).toNat).trans (if_neg (fun e => (bRo.ne H_r20 H_r55 (by decide)) e.1))
                    have : ys h60 r2 (a1 : Int).toNat = ys h54 r2 (a1 : Int).toNat := (y_h60 r2 (a1 : Int).toNat).trans (if_neg (fun e => (bRo.ne H_r2 H_r55 (by decide)) e.1))
                    refine yG.load xak rfl (fun _ _ => rfl) (v := yR k0) rfl rfl ?_
                    refine yG.getS9 A_h60.1 (w_Flow_total W H_k0) qq54 rfl rfl ?_
                    refine yG.load xik rfl (fun _ _ => rfl) (v := yI (a1)) rfl rfl ?_
                    refine yG.load xak rfl (fun _ _ => rfl) (v := yR k0) rfl rfl ?_
                    refine yG.getS9 A_h60.1 (w_Flow_total W H_k0) qq54 rfl rfl ?_
                    refine yG.load xik rfl (fun _ _ => rfl) (v := yI (a1)) rfl rfl ?_
                    refine yG.iald A_h60.1 (v_Flow_total W H_r20) rfl (by omega) (by omega) (fun z61 e_z61 i_z61 l_z61 u_z61 => ?_)
                    refine yG.num (c := 1) rfl (fun _ _ => rfl) (by decide) ?_
                    refine yG.invS (rest := [yI (a1), yR r20]) rfl rfl rfl rfl (c_J9_maxI W (d + 2) A_h60.1 (z61) (1) (by omega) (by omega) (by omega) (by omega)) (fun rv hp9 q9 => ?_)
                    obtain ⟨⟨z62, rfl, l_z62, u_z62, R_z62⟩, e9⟩ := q9
                    rw [e9]
                    show yG _ _ _ _ _ _ _ _ _ _ (yI z62 :: [yI (a1), yR r20]) _
                    refine yG.iast A_h60.1 (v_Flow_total W H_r20) (W.2.1 _ _ H_r20 (by decide) (by decide)) rfl (by omega) (by omega) ⟨by omega, by omega⟩ (by omega) (by omega) (fun h63 T_h63 b_h63 f_h63 y_h63 => ?_)
                    have A_h63 := A_h60.put T_h63 b_h63 f_h63 H_r20 (bAll_ok (by decide) _)
                    have qq55 : zsl h63 k0 6 = yR r2 := ((f_h63 k0 6).trans (if_neg (fun e => (bRo.ne H_k0 H_r20 (by decide)) e.1))).trans qq51
                    have qq56 : zsl h63 k0 0 = yR r3 := ((f_h63 k0 0).trans (if_neg (fun e => (bRo.ne H_k0 H_r20 (by decide)) e.1))).trans qq52
                    have qq57 : zsl h63 r3 4 = yR r4 := ((f_h63 r3 4).trans (if_neg (fun e => (bRo.ne H_r3 H_r20 (by decide)) e.1))).trans qq53
                    have : ys h63 r4 (a1 : Int).toNat = ys h60 r4 (a1 : Int).toNat := (y_h63 r4 (a1 : Int).toNat).trans (if_neg (fun e => (bRo.ne H_r4 H_r20 (by decide)) e.1))
                    have qq58 : zsl h63 k0 4 = yR r20 := ((f_h63 k0 4).trans (if_neg (fun e => (bRo.ne H_k0 H_r20 (by decide)) e.1))).trans qq54
                    have : ys h63 r2 (a1 : Int).toNat = ys h60 r2 (a1 : Int).toNat := (y_h63 r2 (a1 : Int).toNat).trans (if_neg (fun e => (bRo.ne H_r2 H_r20 (by decide)) e.1))
                    have : ys h63 r20 (a1 : Int).toNat = z62 := (y_h63 r20 _).trans (if_pos ⟨rfl, rfl⟩)
                    refine yG.load xak rfl (fun _ _ => rfl) (v := yR k0) rfl rfl ?_
                    refine yG.step (pc' := 168) (stk' := [yR k0, yR k0]) rfl (fun _ _ => rfl) ?_
                    refine yG.getI A_h63.1 (w_Flow_stuckCount W H_k0) rfl rfl (fun z64 e_z64 i_z64 l_z64 u_z64 => ?_)
                    refine yG.load xak rfl (fun _ _ => rfl) (v := yR k0) rfl rfl ?_
                    refine yG.getS9 A_h63.1 (w_Flow_stuck W H_k0) qq55 rfl rfl ?_
                    refine yG.load xik rfl (fun _ _ => rfl) (v := yI (a1)) rfl rfl ?_
                    refine yG.bald A_h63.1 (v_Flow_stuck W H_r2) rfl (by omega) (by omega) (fun z65 e_z65 i_z65 l_z65 u_z65 => ?_)
                    refine yG.ifz rfl (t := 184) rfl ⟨by omega, by omega⟩ (fun c66 => ?_) (fun c66 => ?_)
                    · have c66 : (z65 : Int) = 0 := c66
                      exfalso; omega
                    · have c66 : (z65 : Int) ≠ 0 := c66
                      refine yG.num (c := 1) rfl (fun _ _ => rfl) (by decide) ?_
                      refine yG.goto rfl (t := 185) rfl ?_
                      refine yG.iadd rfl ?_
                      obtain ⟨z68, e_z68, l_z68, u_z68⟩ := ywI (z64 + 1)
                      rw [e_z68]
                      refine yG.putI A_h63.1 (w_Flow_stuckCount W H_k0) (W.2.1 _ _ H_k0 (by decide) (by decide)) rfl rfl (.inl rfl) ⟨by omega, by omega⟩ (by omega) (by omega) (fun h67 T_h67 b_h67 f_h67 y_h67 => ?_)
                      have A_h67 := A_h63.put T_h67 b_h67 f_h67 H_k0 (by decide)
                      have qq59 : zsl h67 k0 6 = yR r2 := ((f_h67 k0 6).trans (if_neg (fun e => absurd e.2 (by decide)))).trans qq55
                      have qq60 : zsl h67 k0 0 = yR r3 := ((f_h67 k0 0).trans (if_neg (fun e => absurd e.2 (by decide)))).trans qq56
                      have qq61 : zsl h67 r3 4 = yR r4 := ((f_h67 r3 4).trans (if_neg (fun e => (bRo.ne H_r3 H_k0 (by decide)) e.1))).trans qq57
                      have : ys h67 r4 (a1 : Int).toNat = ys h63 r4 (a1 : Int).toNat := (y_h67 r4 (a1 : Int).toNat).trans (if_neg (fun e => (bRo.ne H_r4 H_k0 (by decide)) e.1))
                      have qq62 : zsl h67 k0 4 = yR r20 := ((f_h67 k0 4).trans (if_neg (fun e => absurd e.2 (by decide)))).trans qq58
                      have : ys h67 r2 (a1 : Int).toNat = ys h63 r2 (a1 : Int).toNat := (y_h67 r2 (a1 : Int).toNat).trans (if_neg (fun e => (bRo.ne H_r2 H_k0 (by decide)) e.1))
                      have : ys h67 r20 (a1 : Int).toNat = ys h63 r20 (a1 : Int).toNat := (y_h67 r20 (a1 : Int).toNat).trans (if_neg (fun e => (bRo.ne H_r20 H_k0 (by decide)) e.1))
                      refine yG.iinc rfl (a := a1) rfl (L' := [(1, yI (a1 + 1)), (0, yR k0)]) rfl ?_
                      refine yG.goto rfl (t := 71) rfl ?_
                      exact yG.mono (yG.sub (i_71 (a1 + 1)  h67 A_h67   (by omega) (by omega) (by omega)) (ySub.cons rfl (ySub.cons rfl (ySub.nil)))) (by omega)
                  · have c59 : (z58 : Int) = 0 := c59
                    exfalso; omega
  refine yC.of (M := (xt_X2_look, (2, (0, (3, []))))) rfl rfl (N := 39999) (yfuel (by decide)) ?_
  show yG 89 xfts (xcall 89 xfts xpools xms (d + 3)) (xpool xp_RX2) [] xt_X2_look (yP 0 (fun rv hp' => (rv = none ∧ True) ∧ bAx G [(2251799813685248, 9), (2251799813685248, 10), (2269391999729664, 11), (17592186044416, 12), (17592186044416, 13), (17592186044416, 14), (17592186044416, 15), (2211795182620246016, 256)] hp hp')) 39999 0 [(0, yR k0)] [] hp
  obtain ⟨i_35, i_71⟩ := H 596
  refine yG.load xak rfl (fun _ _ => rfl) (v := yR k0) rfl rfl ?_
  refine yG.getO A_hp.1 (w_Flow_shape W H_k0) rfl rfl (fun r1 H_r1 O_r1 q_r1 => ?_)
  refine yG.num (c := 0) rfl (fun _ _ => rfl) (by decide) ?_
  refine yG.invV (rest := []) A_hp.1 (bOb (d_Shape W) H_r1) rfl rfl rfl rfl (c_Shape_look W d A_hp.1 H_r1 (0) (by omega) (by omega)) (fun rv h2 q9 => ?_)
  obtain ⟨⟨rfl, R_z3⟩, B_h2⟩ := q9
  have A_h2 := A_hp.tr B_h2 (by decide)
  show yG _ _ _ _ _ _ _ _ _ _ [] _
  refine yG.load xak rfl (fun _ _ => rfl) (v := yR k0) rfl rfl ?_
  refine yG.num (c := 0) rfl (fun _ _ => rfl) (by decide) ?_
  refine yG.putI A_h2.1 (w_Flow_solved W H_k0) (W.2.1 _ _ H_k0 (by decide) (by decide)) rfl rfl (.inr ⟨rfl, rfl, rfl⟩) ⟨by omega, by omega⟩ (by omega) (by omega) (fun h4 T_h4 b_h4 f_h4 y_h4 => ?_)
  have A_h4 := A_h2.put T_h4 b_h4 f_h4 H_k0 (by decide)
  refine yG.load xak rfl (fun _ _ => rfl) (v := yR k0) rfl rfl ?_
  refine yG.num (c := -1) rfl (fun _ _ => rfl) (by decide) ?_
  refine yG.putI A_h4.1 (w_Flow_overs W H_k0) (W.2.1 _ _ H_k0 (by decide) (by decide)) rfl rfl (.inl rfl) ⟨by omega, by omega⟩ (by omega) (by omega) (fun h5 T_h5 b_h5 f_h5 y_h5 => ?_)
  have A_h5 := A_h4.put T_h5 b_h5 f_h5 H_k0 (by decide)
  refine yG.load xak rfl (fun _ _ => rfl) (v := yR k0) rfl rfl ?_
  refine yG.num (c := -1) rfl (fun _ _ => rfl) (by decide) ?_
  refine yG.putI A_h5.1 (w_Flow_troubles W H_k0) (W.2.1 _ _ H_k0 (by decide) (by decide)) rfl rfl (.inl rfl) ⟨by omega, by omega⟩ (by omega) (by omega) (fun h6 T_h6 b_h6 f_h6 y_h6 => ?_)
  have A_h6 := A_h5.put T_h6 b_h6 f_h6 H_k0 (by decide)
  refine yG.load xak rfl (fun _ _ => rfl) (v := yR k0) rfl rfl ?_
  refine yG.num (c := 0) rfl (fun _ _ => rfl) (by decide) ?_
  refine yG.putI A_h6.1 (w_Flow_lost W H_k0) (W.2.1 _ _ H_k0 (by decide) (by decide)) rfl rfl (.inl rfl) ⟨by omega, by omega⟩ (by omega) (by omega) (fun h7 T_h7 b_h7 f_h7 y_h7 => ?_)
  have A_h7 := A_h6.put T_h7 b_h7 f_h7 H_k0 (by decide)
  refine yG.load xak rfl (fun _ _ => rfl) (v := yR k0) rfl rfl ?_
  refine yG.num (c := 0) rfl (fun _ _ => rfl) (by decide) ?_
  refine yG.putI A_h7.1 (w_Flow_stuckCount W H_k0) (W.2.1 _ _ H_k0 (by decide) (by decide)) rfl rfl (.inl rfl) ⟨by omega, by omega⟩ (by omega) (by omega) (fun h8 T_h8 b_h8 f_h8 y_h8 => ?_)
  have A_h8 := A_h7.put T_h8 b_h8 f_h8 H_k0 (by decide)
  refine yG.num (c := 0) rfl (fun _ _ => rfl) (by decide) ?_
  refine yG.store1 xik (L' := [(1, yI (0)), (0, yR k0)]) rfl (fun _ _ => rfl) rfl rfl ?_
  exact yG.mono (yG.sub (i_35 (0)  h8 A_h8   (by omega) (by omega) (by omega)) (ySub.cons rfl (ySub.cons rfl (ySub.nil)))) (by omega)
theorem c_Flow_given_m {hp : xH} (W : bW G) (d : Nat) (hT : zTy G hp) {k0 : Nat} (H_k0 : bRo G 44 k0) (p1 : Int) (h1l : 0 ≤ p1) (h1u : p1 ≤ 5) : yC (xcall 89 xfts xpools xms (d + 2)) 104 [yR k0, yI (p1)] hp (bQpi hp (-2147483648) 2147483647 (fun _ => True)) := by
  have A_hp : bAx G [] hp hp := bAx.rf hT
  refine yC.of (M := (xt_X2_given, (3, (1, (3, []))))) rfl rfl (N := 114) (yfuel (by decide)) ?_
  show yG 89 xfts (xcall 89 xfts xpools xms (d + 1)) (xpool xp_RX2) [] xt_X2_given (yP 1 (bQpi hp (-2147483648) 2147483647 (fun _ => True))) 114 0 [(0, yR k0), (1, yI (p1))] [] hp
  refine yG.load xak rfl (fun _ _ => rfl) (v := yR k0) rfl rfl ?_
  refine yG.getO A_hp.1 (w_Flow_shape W H_k0) rfl rfl (fun r1 H_r1 O_r1 q_r1 => ?_)
  refine yG.load xik rfl (fun _ _ => rfl) (v := yI (p1)) rfl rfl ?_
  refine yG.invV (rest := []) A_hp.1 (bOb (d_Shape W) H_r1) rfl rfl rfl rfl (c_Shape_islandOfMachine W d A_hp.1 H_r1 (p1) (by omega) (by omega)) (fun rv hp9 q9 => ?_)
  obtain ⟨⟨z2, rfl, l_z2, u_z2, R_z2⟩, e9⟩ := q9
  rw [e9]
  show yG _ _ _ _ _ _ _ _ _ _ (yI z2 :: []) _
  refine yG.store1 xik (L' := [(2, yI (z2)), (0, yR k0), (1, yI (p1))]) rfl (fun _ _ => rfl) rfl rfl ?_
  refine yG.load xak rfl (fun _ _ => rfl) (v := yR k0) rfl rfl ?_
  refine yG.getS9 A_hp.1 (w_Flow_shape W H_k0) q_r1 rfl rfl ?_
  refine yG.load xik rfl (fun _ _ => rfl) (v := yI (p1)) rfl rfl ?_
  refine yG.load xak rfl (fun _ _ => rfl) (v := yR k0) rfl rfl ?_
  refine yG.getO A_hp.1 (w_Flow_solvable W H_k0) rfl rfl (fun r3 H_r3 O_r3 q_r3 => ?_)
  refine yG.invV (rest := []) A_hp.1 (bOb (d_Shape W) H_r1) rfl rfl rfl rfl (c_Shape_isMachineIn_0 W d A_hp.1 H_r1 H_r3 (p1) (by omega) (by omega)) (fun rv hp9 q9 => ?_)
  obtain ⟨⟨z4, rfl, l_z4, u_z4, R_z4⟩, e9⟩ := q9
  rw [e9]
  show yG _ _ _ _ _ _ _ _ _ _ (yI z4 :: []) _
  refine yG.ifz rfl (t := 26) rfl ⟨by omega, by omega⟩ (fun c5 => ?_) (fun c5 => ?_)
  · have c5 : (z4 : Int) ≠ 0 := c5
    refine yG.load xak rfl (fun _ _ => rfl) (v := yR k0) rfl rfl ?_
    refine yG.getO A_hp.1 (w_Flow_net W H_k0) rfl rfl (fun r6 H_r6 O_r6 q_r6 => ?_)
    refine yG.num (c := 3) rfl (fun _ _ => rfl) (by decide) ?_
    refine yG.load xik rfl (fun _ _ => rfl) (v := yI (p1)) rfl rfl ?_
    refine yG.num (c := 1) rfl (fun _ _ => rfl) (by decide) ?_
    refine yG.invV (rest := []) A_hp.1 (bOb (d_Net W) H_r6) rfl rfl rfl rfl (c_Net_at_3_1 W d A_hp.1 H_r6 (p1) (by omega) (by omega)) (fun rv hp9 q9 => ?_)
    obtain ⟨⟨z7, rfl, l_z7, u_z7, R_z7⟩, e9⟩ := q9
    rw [e9]
    show yG _ _ _ _ _ _ _ _ _ _ (yI z7 :: []) _
    refine yG.load xak rfl (fun _ _ => rfl) (v := yR k0) rfl rfl ?_
    refine yG.getO A_hp.1 (w_Flow_total W H_k0) rfl rfl (fun r8 H_r8 O_r8 q_r8 => ?_)
    refine yG.load xik rfl (fun _ _ => rfl) (v := yI (z2)) rfl rfl ?_
    refine yG.iald A_hp.1 (v_Flow_total W H_r8) rfl (by omega) (by omega) (fun z9 e_z9 i_z9 l_z9 u_z9 => ?_)
    refine yG.imul rfl ?_
    obtain ⟨z10, e_z10⟩ : ∃ z : Int, z = z7 * z9 := ⟨_, rfl⟩
    rw [← e_z10]
    have b_z10 : -21472688996352 ≤ z10 ∧ z10 ≤ 21472688996352 := e_z10 ▸ ymuls (A := 9999) (B := 2147483648) (by omega) (by omega) (by omega) (by omega) (by decide)
    refine yG.load xak rfl (fun _ _ => rfl) (v := yR k0) rfl rfl ?_
    refine yG.getS9 A_hp.1 (w_Flow_net W H_k0) q_r6 rfl rfl ?_
    refine yG.num (c := 3) rfl (fun _ _ => rfl) (by decide) ?_
    refine yG.load xik rfl (fun _ _ => rfl) (v := yI (p1)) rfl rfl ?_
    refine yG.num (c := 9) rfl (fun _ _ => rfl) (by decide) ?_
    refine yG.invV (rest := [yI (z10)]) A_hp.1 (bOb (d_Net W) H_r6) rfl rfl rfl rfl (c_Net_at_3_9 W d A_hp.1 H_r6 (p1) (by omega) (by omega)) (fun rv hp9 q9 => ?_)
    obtain ⟨⟨z11, rfl, l_z11, u_z11, R_z11⟩, e9⟩ := q9
    rw [e9]
    show yG _ _ _ _ _ _ _ _ _ _ (yI z11 :: [yI (z10)]) _
    refine yG.load xak rfl (fun _ _ => rfl) (v := yR k0) rfl rfl ?_
    refine yG.getO A_hp.1 (w_Flow_gap W H_k0) rfl rfl (fun r12 H_r12 O_r12 q_r12 => ?_)
    refine yG.load xik rfl (fun _ _ => rfl) (v := yI (z2)) rfl rfl ?_
    refine yG.iald A_hp.1 (v_Flow_gap W H_r12) rfl (by omega) (by omega) (fun z13 e_z13 i_z13 l_z13 u_z13 => ?_)
    refine yG.imul rfl ?_
    obtain ⟨z14, e_z14⟩ : ∃ z : Int, z = z11 * z13 := ⟨_, rfl⟩
    rw [← e_z14]
    have b_z14 : -19327352832 ≤ z14 ∧ z14 ≤ 19327352832 := e_z14 ▸ ymuls (A := 9) (B := 2147483648) (by omega) (by omega) (by omega) (by omega) (by decide)
    refine yG.iadd rfl ?_
    refine yG.ret rfl (fun _ _ => rfl) ?_
    obtain ⟨z15, e_z15, l_z15, u_z15⟩ := ywI (z10 + z14)
    rw [e_z15]
    exact (yP.int ⟨by omega, by omega⟩ ⟨⟨z15, rfl, by omega, by omega, trivial⟩, rfl⟩)
  · have c5 : (z4 : Int) = 0 := c5
    refine yG.num (c := 0) rfl (fun _ _ => rfl) (by decide) ?_
    refine yG.ret rfl (fun _ _ => rfl) ?_
    exact (yP.int ⟨by omega, by omega⟩ ⟨⟨0, rfl, by omega, by omega, trivial⟩, rfl⟩)
theorem c_Flow_inject_m {hp : xH} (W : bW G) (d : Nat) (hT : zTy G hp) {k0 : Nat} (H_k0 : bRo G 44 k0) (p1 : Int) (h1l : 0 ≤ p1) (h1u : p1 ≤ 47) : yC (xcall 89 xfts xpools xms (d + 3)) 106 [yR k0, yI (p1)] hp (fun rv hp' => (rv = none ∧ True) ∧ bAx G [(4398046511104, 256)] hp hp') := by
  have A_hp : bAx G [(4398046511104, 256)] hp hp := bAx.rf hT
  have H : ∀ m : Nat, (∀ a2 : Int, ∀ hq, bAx G [(4398046511104, 256)] hp hq → 0 ≤ a2 → (-6) ≤ 0 - a2 → 0 ≤ p1 → (-47) ≤ 0 - p1 → 0 - 27 * a2 + 188 < (m : Int) → yG 89 xfts (xcall 89 xfts xpools xms (d + 2)) (xpool xp_RX2) [] xt_X2_inject (yP 0 (fun rv hp' => (rv = none ∧ True) ∧ bAx G [(4398046511104, 256)] hp hp')) (37 * m) 2 [(0, yR k0), (1, yI (p1)), (2, yI (a2))] [] hq) ∧ (∀ a2 : Int, ∀ hq, bAx G [(4398046511104, 256)] hp hq → 0 ≤ a2 → (-12) ≤ 0 - a2 → 0 ≤ p1 → (-47) ≤ 0 - p1 → 0 - 2 * a2 + 25 < (m : Int) → yG 89 xfts (xcall 89 xfts xpools xms (d + 2)) (xpool xp_RX2) [] xt_X2_inject (yP 0 (fun rv hp' => (rv = none ∧ True) ∧ bAx G [(4398046511104, 256)] hp hp')) (37 * m) 45 [(0, yR k0), (1, yI (p1)), (2, yI (a2))] [] hq) := by
    intro m
    induction m with
    | zero =>
      refine ⟨?_, ?_⟩ <;> (intros; exfalso; omega)
    | succ m ih =>
      obtain ⟨i_2, i_45⟩ := ih
      refine ⟨?_, ?_⟩
      · intro a2 hq A_hq f0 f1 f2 f3 hm
        refine yG.mono (N := 37 * m + 37) ?_ (by omega)
        refine yG.load xik rfl (fun _ _ => rfl) (v := yI (a2)) rfl rfl ?_
        refine yG.load xak rfl (fun _ _ => rfl) (v := yR k0) rfl rfl ?_
        refine yG.getO A_hq.1 (w_Flow_net W H_k0) rfl rfl (fun r1 H_r1 O_r1 q_r1 => ?_)
        refine yG.getO A_hq.1 (w_Net_count W H_r1) rfl rfl (fun r2 H_r2 O_r2 q_r2 => ?_)
        refine yG.num (c := 3) rfl (fun _ _ => rfl) (by decide) ?_
        refine yG.ialdF A_hq.1 (v_Net_count W H_r2) rfl rfl (by omega) (by omega) (fun z3 e_z3 i_z3 l_z3 u_z3 => ?_)
        refine yG.icmp rfl (t := 43) rfl ⟨by omega, by omega⟩ ⟨by omega, by omega⟩ (fun c4 => ?_) (fun c4 => ?_)
        · have c4 : (a2 : Int) ≥ z3 := c4
          refine yG.num (c := 0) rfl (fun _ _ => rfl) (by decide) ?_
          refine yG.store1 xik (L' := [(2, yI (0)), (0, yR k0), (1, yI (p1))]) rfl (fun _ _ => rfl) rfl rfl ?_
          exact yG.mono (yG.sub (i_45 (0)  hq A_hq   (by omega) (by omega) (by omega) (by omega) (by omega)) (ySub.cons rfl (ySub.cons rfl (ySub.cons rfl (ySub.nil))))) (by omega)
        · have c4 : (a2 : Int) < z3 := c4
          refine yG.load xak rfl (fun _ _ => rfl) (v := yR k0) rfl rfl ?_
          refine yG.getO A_hq.1 (w_Flow_solver W H_k0) rfl rfl (fun r5 H_r5 O_r5 q_r5 => ?_)
          refine yG.load xak rfl (fun _ _ => rfl) (v := yR k0) rfl rfl ?_
          refine yG.getO A_hq.1 (w_Flow_shape W H_k0) rfl rfl (fun r6 H_r6 O_r6 q_r6 => ?_)
          refine yG.load xik rfl (fun _ _ => rfl) (v := yI (a2)) rfl rfl ?_
          refine yG.invV (rest := [yR r5]) A_hq.1 (bOb (d_Shape W) H_r6) rfl rfl rfl rfl (c_Shape_rowOfMachine W (d + 1) A_hq.1 H_r6 (a2) (by omega) (by omega)) (fun rv hp9 q9 => ?_)
          obtain ⟨⟨z7, rfl, l_z7, u_z7, R_z7⟩, e9⟩ := q9
          rw [e9]
          show yG _ _ _ _ _ _ _ _ _ _ (yI z7 :: [yR r5]) _
          refine yG.load xik rfl (fun _ _ => rfl) (v := yI (p1)) rfl rfl ?_
          refine yG.load xak rfl (fun _ _ => rfl) (v := yR k0) rfl rfl ?_
          refine yG.load xik rfl (fun _ _ => rfl) (v := yI (a2)) rfl rfl ?_
          refine yG.invV (rest := [yI (p1), yI (z7), yR r5]) A_hq.1 (bOb (d_Flow W) H_k0) rfl rfl rfl rfl (c_Flow_given_m W d A_hq.1 H_k0 (a2) (by omega) (by omega)) (fun rv hp9 q9 => ?_)
          obtain ⟨⟨z8, rfl, l_z8, u_z8, R_z8⟩, e9⟩ := q9
          rw [e9]
          show yG _ _ _ _ _ _ _ _ _ _ (yI z8 :: [yI (p1), yI (z7), yR r5]) _
          refine yG.i2l rfl ⟨by omega, by omega⟩ ?_
          refine yG.invV (rest := []) A_hq.1 (bOb (d_Solver W) H_r5) rfl rfl rfl rfl (c_Solver_plus W d A_hq.1 H_r5 (z7) (p1) (z8) (by omega) (by omega) (by omega) (by omega) (by omega) (by omega)) (fun rv h9 q9 => ?_)
          obtain ⟨⟨rfl, R_z10⟩, B_h9⟩ := q9
          have A_h9 := A_hq.tr B_h9 (by decide)
          show yG _ _ _ _ _ _ _ _ _ _ [] _
          refine yG.iinc rfl (a := a2) rfl (L' := [(2, yI (a2 + 1)), (0, yR k0), (1, yI (p1))]) rfl ?_
          refine yG.goto rfl (t := 2) rfl ?_
          exact yG.mono (yG.sub (i_2 (a2 + 1)  h9 A_h9   (by omega) (by omega) (by omega) (by omega) (by omega)) (ySub.cons rfl (ySub.cons rfl (ySub.cons rfl (ySub.nil))))) (by omega)
      · intro a2 hq A_hq f0 f1 f2 f3 hm
        refine yG.mono (N := 37 * m + 37) ?_ (by omega)
        refine yG.load xik rfl (fun _ _ => rfl) (v := yI (a2)) rfl rfl ?_
        refine yG.load xak rfl (fun _ _ => rfl) (v := yR k0) rfl rfl ?_
        refine yG.getO A_hq.1 (w_Flow_net W H_k0) rfl rfl (fun r1 H_r1 O_r1 q_r1 => ?_)
        refine yG.getO A_hq.1 (w_Net_count W H_r1) rfl rfl (fun r2 H_r2 O_r2 q_r2 => ?_)
        refine yG.num (c := 4) rfl (fun _ _ => rfl) (by decide) ?_
        refine yG.ialdF A_hq.1 (v_Net_count W H_r2) rfl rfl (by omega) (by omega) (fun z3 e_z3 i_z3 l_z3 u_z3 => ?_)
        refine yG.icmp rfl (t := 108) rfl ⟨by omega, by omega⟩ ⟨by omega, by omega⟩ (fun c4 => ?_) (fun c4 => ?_)
        · have c4 : (a2 : Int) ≥ z3 := c4
          refine yG.ret rfl (fun _ _ => rfl) ?_
          exact (yP.void ⟨⟨rfl, trivial⟩, A_hq⟩)
        · have c4 : (a2 : Int) < z3 := c4
          refine yG.load xak rfl (fun _ _ => rfl) (v := yR k0) rfl rfl ?_
          refine yG.getO A_hq.1 (w_Flow_shape W H_k0) rfl rfl (fun r5 H_r5 O_r5 q_r5 => ?_)
          refine yG.load xik rfl (fun _ _ => rfl) (v := yI (a2)) rfl rfl ?_
          refine yG.invV (rest := []) A_hq.1 (bOb (d_Shape W) H_r5) rfl rfl rfl rfl (c_Shape_islandOfLoad W d A_hq.1 H_r5 (a2) (by omega) (by omega)) (fun rv hp9 q9 => ?_)
          obtain ⟨⟨z6, rfl, l_z6, u_z6, R_z6⟩, e9⟩ := q9
          rw [e9]
          show yG _ _ _ _ _ _ _ _ _ _ (yI z6 :: []) _
          refine yG.store1 xik (L' := [(3, yI (z6)), (0, yR k0), (1, yI (p1)), (2, yI (a2))]) rfl (fun _ _ => rfl) rfl rfl ?_
          refine yG.load xak rfl (fun _ _ => rfl) (v := yR k0) rfl rfl ?_
          refine yG.getO A_hq.1 (w_Flow_solver W H_k0) rfl rfl (fun r7 H_r7 O_r7 q_r7 => ?_)
          refine yG.load xak rfl (fun _ _ => rfl) (v := yR k0) rfl rfl ?_
          refine yG.getS9 A_hq.1 (w_Flow_shape W H_k0) q_r5 rfl rfl ?_
          refine yG.load xik rfl (fun _ _ => rfl) (v := yI (a2)) rfl rfl ?_
          refine yG.invV (rest := [yR r7]) A_hq.1 (bOb (d_Shape W) H_r5) rfl rfl rfl rfl (c_Shape_rowOfLoad W d A_hq.1 H_r5 (a2) (by omega) (by omega)) (fun rv hp9 q9 => ?_)
          obtain ⟨⟨z8, rfl, l_z8, u_z8, R_z8⟩, e9⟩ := q9
          rw [e9]
          show yG _ _ _ _ _ _ _ _ _ _ (yI z8 :: [yR r7]) _
          refine yG.load xik rfl (fun _ _ => rfl) (v := yI (p1)) rfl rfl ?_
          refine yG.load xak rfl (fun _ _ => rfl) (v := yR k0) rfl rfl ?_
          refine yG.getS9 A_hq.1 (w_Flow_net W H_k0) q_r1 rfl rfl ?_
          refine yG.num (c := 4) rfl (fun _ _ => rfl) (by decide) ?_
          refine yG.load xik rfl (fun _ _ => rfl) (v := yI (a2)) rfl rfl ?_
          refine yG.num (c := 0) rfl (fun _ _ => rfl) (by decide) ?_
          refine yG.invV (rest := [yI (p1), yI (z8), yR r7]) A_hq.1 (bOb (d_Net W) H_r1) rfl rfl rfl rfl (c_Net_at_4_0 W (d + 1) A_hq.1 H_r1 (a2) (by omega) (by omega)) (fun rv hp9 q9 => ?_)
          obtain ⟨⟨z9, rfl, l_z9, u_z9, R_z9⟩, e9⟩ := q9
          rw [e9]
          show yG _ _ _ _ _ _ _ _ _ _ (yI z9 :: [yI (p1), yI (z8), yR r7]) _
          refine yG.ineg rfl ?_
          refine yG.load xak rfl (fun _ _ => rfl) (v := yR k0) rfl rfl ?_
          refine yG.getO A_hq.1 (w_Flow_total W H_k0) rfl rfl (fun r10 H_r10 O_r10 q_r10 => ?_)
          refine yG.load xik rfl (fun _ _ => rfl) (v := yI (z6)) rfl rfl ?_
          refine yG.iald A_hq.1 (v_Flow_total W H_r10) rfl (by omega) (by omega) (fun z11 e_z11 i_z11 l_z11 u_z11 => ?_)
          refine yG.imul rfl ?_
          obtain ⟨z12, e_z12⟩ : ∃ z : Int, z = (-(z9)) * z11 := ⟨_, rfl⟩
          rw [← e_z12]
          have b_z12 : -21472688996352 ≤ z12 ∧ z12 ≤ 21472688996352 := e_z12 ▸ ymuls (A := 9999) (B := 2147483648) (by omega) (by omega) (by omega) (by omega) (by decide)
          obtain ⟨z13, e_z13, l_z13, u_z13⟩ := ywI (z12)
          rw [e_z13]
          refine yG.i2l rfl ⟨by omega, by omega⟩ ?_
          refine yG.invV (rest := []) A_hq.1 (bOb (d_Solver W) H_r7) rfl rfl rfl rfl (c_Solver_plus W d A_hq.1 H_r7 (z8) (p1) (z13) (by omega) (by omega) (by omega) (by omega) (by omega) (by omega)) (fun rv h14 q9 => ?_)
          obtain ⟨⟨rfl, R_z15⟩, B_h14⟩ := q9
          have A_h14 := A_hq.tr B_h14 (by decide)
          have qq1 : zsl h14 k0 1 = yR r1 := (B_h14.sl H_k0 (by decide)).trans q_r1
          have qq2 : zsl h14 k0 0 = yR r5 := (B_h14.sl H_k0 (by decide)).trans q_r5
          show yG _ _ _ _ _ _ _ _ _ _ [] _
          refine yG.iinc rfl (a := a2) rfl (L' := [(2, yI (a2 + 1)), (3, yI (z6)), (0, yR k0), (1, yI (p1))]) rfl ?_
          refine yG.goto rfl (t := 45) rfl ?_
          exact yG.mono (yG.sub (i_45 (a2 + 1)  h14 A_h14   (by omega) (by omega) (by omega) (by omega) (by omega)) (ySub.cons rfl (ySub.cons rfl (ySub.cons rfl (ySub.nil))))) (by omega)
  refine yC.of (M := (xt_X2_inject, (4, (0, (3, []))))) rfl rfl (N := 7067) (yfuel (by decide)) ?_
  show yG 89 xfts (xcall 89 xfts xpools xms (d + 2)) (xpool xp_RX2) [] xt_X2_inject (yP 0 (fun rv hp' => (rv = none ∧ True) ∧ bAx G [(4398046511104, 256)] hp hp')) 7067 0 [(0, yR k0), (1, yI (p1))] [] hp
  obtain ⟨i_2, i_45⟩ := H 190
  refine yG.num (c := 0) rfl (fun _ _ => rfl) (by decide) ?_
  refine yG.store1 xik (L' := [(2, yI (0)), (0, yR k0), (1, yI (p1))]) rfl (fun _ _ => rfl) rfl rfl ?_
  exact yG.mono (yG.sub (i_2 (0)  hp A_hp   (by omega) (by omega) (by omega) (by omega) (by omega)) (ySub.cons rfl (ySub.cons rfl (ySub.cons rfl (ySub.nil))))) (by omega)
theorem c_Flow_solve_m {hp : xH} (W : bW G) (d : Nat) (hT : zTy G hp) {k0 : Nat} (H_k0 : bRo G 44 k0) : yC (xcall 89 xfts xpools xms (d + 5)) 109 [yR k0] hp (fun rv hp' => (rv = none ∧ True) ∧ bAx G [(34359738368, 1), (1133871366144, 2), (1099511627776, 3), (1099511627776, 6), (1099511627776, 7), (1099511627776, 8), (17592186044416, 11), (18029860391747584, 256)] hp hp') := by
  have A_hp : bAx G [(34359738368, 1), (1133871366144, 2), (1099511627776, 3), (1099511627776, 6), (1099511627776, 7), (1099511627776, 8), (17592186044416, 11), (18029860391747584, 256)] hp hp := bAx.rf hT
  have H : ∀ m : Nat, (∀ a1 : Int, ∀ a2 : Int, ∀ hq, bAx G [(34359738368, 1), (1133871366144, 2), (1099511627776, 3), (1099511627776, 6), (1099511627776, 7), (1099511627776, 8), (17592186044416, 11), (18029860391747584, 256)] hp hq → 0 ≤ a1 → (-15) ≤ 0 - a1 → 0 ≤ a2 → (-1000000) ≤ 0 - a2 → 0 - 2 * a2 + 2000001 < (m : Int) → yG 89 xfts (xcall 89 xfts xpools xms (d + 4)) (xpool xp_RX2) [] xt_X2_solve (yP 0 (fun rv hp' => (rv = none ∧ True) ∧ bAx G [(34359738368, 1), (1133871366144, 2), (1099511627776, 3), (1099511627776, 6), (1099511627776, 7), (1099511627776, 8), (17592186044416, 11), (18029860391747584, 256)] hp hp')) (55 * m) 59 [(0, yR k0), (1, yI (a1)), (2, yI (a2))] [] hq) := by
    intro m
    induction m with
    | zero =>
      intros; exfalso; omega
    | succ m ih =>
      have i_59 := ih
      clear ih
      intro a1 a2 hq A_hq f0 f1 f2 f3 hm
      refine yG.mono (N := 55 * m + 55) ?_ (by omega)
      refine yG.load xik rfl (fun _ _ => rfl) (v := yI (a2)) rfl rfl ?_
      refine yG.num (c := 1000000) rfl (fun _ _ => rfl) (by decide) ?_
      refine yG.icmp rfl (t := 159) rfl ⟨by omega, by omega⟩ ⟨by omega, by omega⟩ (fun c1 => ?_) (fun c1 => ?_)
      · have c1 : (a2 : Int) ≥ 1000000 := c1
        refine yG.load xak rfl (fun _ _ => rfl) (v := yR k0) rfl rfl ?_
        refine yG.getO A_hq.1 (w_Flow_solver W H_k0) rfl rfl (fun r2 H_r2 O_r2 q_r2 => ?_)
        refine yG.load xak rfl (fun _ _ => rfl) (v := yR k0) rfl rfl ?_
        refine yG.getO A_hq.1 (w_Flow_top W H_k0) rfl rfl (fun r3 H_r3 O_r3 q_r3 => ?_)
        refine yG.num (c := 16) rfl (fun _ _ => rfl) (by decide) ?_
        refine yG.invV (rest := []) A_hq.1 (bOb (d_Solver W) H_r2) rfl rfl rfl rfl (c_Solver_settle_16 W d A_hq.1 H_r2 H_r3 (16) (by omega) (by omega)) (fun rv h4 q9 => ?_)
        obtain ⟨⟨rfl, R_z5⟩, B_h4⟩ := q9
        have A_h4 := A_hq.tr B_h4 (by decide)
        have qq1 : zsl h4 k0 2 = yR r2 := (B_h4.sl H_k0 (by decide)).trans q_r2
        show yG _ _ _ _ _ _ _ _ _ _ [] _
        refine yG.ret rfl (fun _ _ => rfl) ?_
        exact (yP.void ⟨⟨rfl, trivial⟩, A_h4⟩)
      · have c1 : (a2 : Int) < 1000000 := c1
        refine yG.load xak rfl (fun _ _ => rfl) (v := yR k0) rfl rfl ?_
        refine yG.getO A_hq.1 (w_Flow_solver W H_k0) rfl rfl (fun r6 H_r6 O_r6 q_r6 => ?_)
        refine yG.invV (rest := []) A_hq.1 (bOb (d_Solver W) H_r6) rfl rfl rfl rfl (c_Solver_more W (d + 2) A_hq.1 H_r6) (fun rv h7 q9 => ?_)
        obtain ⟨⟨z8, rfl, l_z8, u_z8, R_z8⟩, B_h7⟩ := q9
        have A_h7 := A_hq.tr B_h7 (by decide)
        have qq2 : zsl h7 k0 2 = yR r6 := (B_h7.sl H_k0 (by decide)).trans q_r6
        show yG _ _ _ _ _ _ _ _ _ _ (yI z8 :: []) _
        refine yG.ifz rfl (t := 159) rfl ⟨by omega, by omega⟩ (fun c9 => ?_) (fun c9 => ?_)
        · have c9 : (z8 : Int) = 0 := c9
          refine yG.load xak rfl (fun _ _ => rfl) (v := yR k0) rfl rfl ?_
          refine yG.getS9 A_h7.1 (w_Flow_solver W H_k0) qq2 rfl rfl ?_
          refine yG.load xak rfl (fun _ _ => rfl) (v := yR k0) rfl rfl ?_
          refine yG.getO A_h7.1 (w_Flow_top W H_k0) rfl rfl (fun r10 H_r10 O_r10 q_r10 => ?_)
          refine yG.num (c := 16) rfl (fun _ _ => rfl) (by decide) ?_
          refine yG.invV (rest := []) A_h7.1 (bOb (d_Solver W) H_r6) rfl rfl rfl rfl (c_Solver_settle_16 W d A_h7.1 H_r6 H_r10 (16) (by omega) (by omega)) (fun rv h11 q9 => ?_)
          obtain ⟨⟨rfl, R_z12⟩, B_h11⟩ := q9
          have A_h11 := A_h7.tr B_h11 (by decide)
          have qq3 : zsl h11 k0 2 = yR r6 := (B_h11.sl H_k0 (by decide)).trans qq2
          show yG _ _ _ _ _ _ _ _ _ _ [] _
          refine yG.ret rfl (fun _ _ => rfl) ?_
          exact (yP.void ⟨⟨rfl, trivial⟩, A_h11⟩)
        · have c9 : (z8 : Int) ≠ 0 := c9
          refine yG.load xak rfl (fun _ _ => rfl) (v := yR k0) rfl rfl ?_
          refine yG.getS9 A_h7.1 (w_Flow_solver W H_k0) qq2 rfl rfl ?_
          refine yG.load xik rfl (fun _ _ => rfl) (v := yI (a1)) rfl rfl ?_
          refine yG.load xik rfl (fun _ _ => rfl) (v := yI (a1)) rfl rfl ?_
          refine yG.num (c := 1) rfl (fun _ _ => rfl) (by decide) ?_
          refine yG.iadd rfl ?_
          refine yG.invV (rest := []) A_h7.1 (bOb (d_Solver W) H_r6) rfl rfl rfl rfl (c_Solver_blank W (d + 3) A_h7.1 H_r6 (a1) (a1 + 1) (by omega) (by omega) (by omega) (by omega)) (fun rv h13 q9 => ?_)
          obtain ⟨⟨rfl, R_z14⟩, B_h13⟩ := q9
          have A_h13 := A_h7.tr B_h13 (by decide)
          have qq4 : zsl h13 k0 2 = yR r6 := (B_h13.sl H_k0 (by decide)).trans qq2
          show yG _ _ _ _ _ _ _ _ _ _ [] _
          refine yG.load xak rfl (fun _ _ => rfl) (v := yR k0) rfl rfl ?_
          refine yG.getO A_h13.1 (w_Flow_shape W H_k0) rfl rfl (fun r15 H_r15 O_r15 q_r15 => ?_)
          refine yG.load xak rfl (fun _ _ => rfl) (v := yR k0) rfl rfl ?_
          refine yG.getS9 A_h13.1 (w_Flow_solver W H_k0) qq4 rfl rfl ?_
          refine yG.load xak rfl (fun _ _ => rfl) (v := yR k0) rfl rfl ?_
          refine yG.getO A_h13.1 (w_Flow_solvable W H_k0) rfl rfl (fun r16 H_r16 O_r16 q_r16 => ?_)
          refine yG.num (c := 1) rfl (fun _ _ => rfl) (by decide) ?_
          refine yG.num (c := -1) rfl (fun _ _ => rfl) (by decide) ?_
          refine yG.invV (rest := []) A_h13.1 (bOb (d_Shape W) H_r15) rfl rfl rfl rfl (c_Shape_lay_0 W (d + 2) A_h13.1 H_r15 H_r6 H_r16 (1) ((-1)) (by omega) (by omega) (by omega) (by omega)) (fun rv h17 q9 => ?_)
          obtain ⟨⟨z18, rfl, l_z18, u_z18, R_z18⟩, B_h17⟩ := q9
          have A_h17 := A_h13.tr B_h17 (by decide)
          have qq5 : zsl h17 k0 2 = yR r6 := (B_h17.sl H_k0 (by decide)).trans qq4
          have qq6 : zsl h17 k0 0 = yR r15 := (B_h17.sl H_k0 (by decide)).trans q_r15
          show yG _ _ _ _ _ _ _ _ _ _ (yJ z18 :: []) _
          refine yG.store2 xlk2 (L' := [(3, yJ (z18)), (0, yR k0), (1, yI (a1)), (2, yI (a2))]) rfl (fun _ _ => rfl) rfl rfl ?_
          refine yG.load xak rfl (fun _ _ => rfl) (v := yR k0) rfl rfl ?_
          refine yG.load xik rfl (fun _ _ => rfl) (v := yI (a1)) rfl rfl ?_
          refine yG.invV (rest := []) A_h17.1 (bOb (d_Flow W) H_k0) rfl rfl rfl rfl (c_Flow_inject_m W (d + 1) A_h17.1 H_k0 (a1) (by omega) (by omega)) (fun rv h19 q9 => ?_)
          obtain ⟨⟨rfl, R_z20⟩, B_h19⟩ := q9
          have A_h19 := A_h17.tr B_h19 (by decide)
          have qq7 : zsl h19 k0 2 = yR r6 := (B_h19.sl H_k0 (by decide)).trans qq5
          have qq8 : zsl h19 k0 0 = yR r15 := (B_h19.sl H_k0 (by decide)).trans qq6
          show yG _ _ _ _ _ _ _ _ _ _ [] _
          refine yG.load xak rfl (fun _ _ => rfl) (v := yR k0) rfl rfl ?_
          refine yG.getS9 A_h19.1 (w_Flow_solver W H_k0) qq7 rfl rfl ?_
          refine yG.load xik rfl (fun _ _ => rfl) (v := yI (a1)) rfl rfl ?_
          refine yG.load xik rfl (fun _ _ => rfl) (v := yI (a1)) rfl rfl ?_
          refine yG.load xik rfl (fun _ _ => rfl) (v := yI (a1)) rfl rfl ?_
          refine yG.num (c := 1) rfl (fun _ _ => rfl) (by decide) ?_
          refine yG.iadd rfl ?_
          refine yG.invV (rest := []) A_h19.1 (bOb (d_Solver W) H_r6) rfl rfl rfl rfl (c_Solver_reduce W (d + 1) A_h19.1 H_r6 (a1) (a1) (a1 + 1) (by omega) (by omega) (by omega) (by omega) (by omega) (by omega)) (fun rv h21 q9 => ?_)
          obtain ⟨⟨z22, rfl, l_z22, u_z22, R_z22⟩, B_h21⟩ := q9
          have A_h21 := A_h19.tr B_h21 (by decide)
          have qq9 : zsl h21 k0 2 = yR r6 := (B_h21.sl H_k0 (by decide)).trans qq7
          have qq10 : zsl h21 k0 0 = yR r15 := (B_h21.sl H_k0 (by decide)).trans qq8
          show yG _ _ _ _ _ _ _ _ _ _ (yI z22 :: []) _
          refine yG.load xik rfl (fun _ _ => rfl) (v := yI (a1)) rfl rfl ?_
          refine yG.icmp rfl (t := 153) rfl ⟨by omega, by omega⟩ ⟨by omega, by omega⟩ (fun c23 => ?_) (fun c23 => ?_)
          · have c23 : (z22 : Int) ≠ a1 := c23
            refine yG.iinc rfl (a := a2) rfl (L' := [(2, yI (a2 + 1)), (3, yJ (z18)), (0, yR k0), (1, yI (a1))]) rfl ?_
            refine yG.goto rfl (t := 59) rfl ?_
            exact yG.mono (yG.sub (i_59 (a1) (a2 + 1)  h21 A_h21   (by omega) (by omega) (by omega) (by omega) (by omega)) (ySub.cons rfl (ySub.cons rfl (ySub.cons rfl (ySub.nil))))) (by omega)
          · have c23 : (z22 : Int) = a1 := c23
            refine yG.load xak rfl (fun _ _ => rfl) (v := yR k0) rfl rfl ?_
            refine yG.getS9 A_h21.1 (w_Flow_solver W H_k0) qq9 rfl rfl ?_
            refine yG.load xak rfl (fun _ _ => rfl) (v := yR k0) rfl rfl ?_
            refine yG.getS9 A_h21.1 (w_Flow_shape W H_k0) qq10 rfl rfl ?_
            refine yG.load xak rfl (fun _ _ => rfl) (v := yR k0) rfl rfl ?_
            refine yG.getO A_h21.1 (w_Flow_top W H_k0) rfl rfl (fun r24 H_r24 O_r24 q_r24 => ?_)
            refine yG.load xak rfl (fun _ _ => rfl) (v := yR k0) rfl rfl ?_
            refine yG.getO A_h21.1 (w_Flow_whole W H_k0) rfl rfl (fun r25 H_r25 O_r25 q_r25 => ?_)
            obtain ⟨n_r25, N_r25⟩ : ∃ n : Int, n = ((zat G r25 : Nat) : Int) := ⟨_, rfl⟩
            have L_r25 := n_Big W H_r25
            refine yG.load xik rfl (fun _ _ => rfl) (v := yI (a1)) rfl rfl ?_
            refine yG.load xlk2 rfl (fun _ _ => rfl) (v := yJ (z18)) rfl rfl ?_
            refine yG.invV (rest := []) A_h21.1 (bOb (d_Solver W) H_r6) rfl rfl rfl rfl (c_Solver_take_16 W d A_h21.1 H_r6 H_r15 H_r24 H_r25 (a1) (z18) (by omega) (by omega) (by omega) (by omega)) (fun rv h26 q9 => ?_)
            obtain ⟨⟨rfl, R_z27⟩, B_h26⟩ := q9
            have A_h26 := A_h21.tr B_h26 (by decide)
            have qq11 : zsl h26 k0 2 = yR r6 := (B_h26.sl H_k0 (by decide)).trans qq9
            have qq12 : zsl h26 k0 0 = yR r15 := (B_h26.sl H_k0 (by decide)).trans qq10
            show yG _ _ _ _ _ _ _ _ _ _ [] _
            refine yG.load xak rfl (fun _ _ => rfl) (v := yR k0) rfl rfl ?_
            refine yG.getS9 A_h26.1 (w_Flow_solver W H_k0) qq11 rfl rfl ?_
            refine yG.invV (rest := []) A_h26.1 (bOb (d_Solver W) H_r6) rfl rfl rfl rfl (c_Solver_close W (d + 1) A_h26.1 H_r6) (fun rv h28 q9 => ?_)
            obtain ⟨⟨rfl, R_z29⟩, B_h28⟩ := q9
            have A_h28 := A_h26.tr B_h28 (by decide)
            have qq13 : zsl h28 k0 2 = yR r6 := (B_h28.sl H_k0 (by decide)).trans qq11
            have qq14 : zsl h28 k0 0 = yR r15 := (B_h28.sl H_k0 (by decide)).trans qq12
            show yG _ _ _ _ _ _ _ _ _ _ [] _
            refine yG.iinc rfl (a := a2) rfl (L' := [(2, yI (a2 + 1)), (3, yJ (z18)), (0, yR k0), (1, yI (a1))]) rfl ?_
            refine yG.goto rfl (t := 59) rfl ?_
            exact yG.mono (yG.sub (i_59 (a1) (a2 + 1)  h28 A_h28   (by omega) (by omega) (by omega) (by omega) (by omega)) (ySub.cons rfl (ySub.cons rfl (ySub.cons rfl (ySub.nil))))) (by omega)
  refine yC.of (M := (xt_X2_solve, (5, (0, (3, []))))) rfl rfl (N := 110000220) (yfuel (by decide)) ?_
  show yG 89 xfts (xcall 89 xfts xpools xms (d + 4)) (xpool xp_RX2) [] xt_X2_solve (yP 0 (fun rv hp' => (rv = none ∧ True) ∧ bAx G [(34359738368, 1), (1133871366144, 2), (1099511627776, 3), (1099511627776, 6), (1099511627776, 7), (1099511627776, 8), (17592186044416, 11), (18029860391747584, 256)] hp hp')) 110000220 0 [(0, yR k0)] [] hp
  have i_59 := H 2000003
  refine yG.load xak rfl (fun _ _ => rfl) (v := yR k0) rfl rfl ?_
  refine yG.getI A_hp.1 (w_Flow_solved W H_k0) rfl rfl (fun z1 e_z1 i_z1 l_z1 u_z1 => ?_)
  refine yG.ifz rfl (t := 8) rfl ⟨by omega, by omega⟩ (fun c2 => ?_) (fun c2 => ?_)
  · have c2 : (z1 : Int) = 0 := c2
    refine yG.load xak rfl (fun _ _ => rfl) (v := yR k0) rfl rfl ?_
    refine yG.num (c := 1) rfl (fun _ _ => rfl) (by decide) ?_
    refine yG.putI A_hp.1 (w_Flow_solved W H_k0) (W.2.1 _ _ H_k0 (by decide) (by decide)) rfl rfl (.inr ⟨rfl, rfl, rfl⟩) ⟨by omega, by omega⟩ (by omega) (by omega) (fun h3 T_h3 b_h3 f_h3 y_h3 => ?_)
    have A_h3 := A_hp.put T_h3 b_h3 f_h3 H_k0 (by decide)
    refine yG.load xak rfl (fun _ _ => rfl) (v := yR k0) rfl rfl ?_
    refine yG.getO A_h3.1 (w_Flow_shape W H_k0) rfl rfl (fun r4 H_r4 O_r4 q_r4 => ?_)
    refine yG.load xak rfl (fun _ _ => rfl) (v := yR k0) rfl rfl ?_
    refine yG.getO A_h3.1 (w_Flow_solvable W H_k0) rfl rfl (fun r5 H_r5 O_r5 q_r5 => ?_)
    refine yG.num (c := 0) rfl (fun _ _ => rfl) (by decide) ?_
    refine yG.invV (rest := []) A_h3.1 (bOb (d_Shape W) H_r4) rfl rfl rfl rfl (c_Shape_number_00 W (d + 3) A_h3.1 H_r4 H_r5) (fun rv h6 q9 => ?_)
    obtain ⟨⟨z7, rfl, l_z7, u_z7, R_z7⟩, B_h6⟩ := q9
    have A_h6 := A_h3.tr B_h6 (by decide)
    have qq1 : zsl h6 k0 0 = yR r4 := (B_h6.sl H_k0 (by decide)).trans q_r4
    have qq2 : zsl h6 k0 5 = yR r5 := (B_h6.sl H_k0 (by decide)).trans q_r5
    show yG _ _ _ _ _ _ _ _ _ _ (yI z7 :: []) _
    refine yG.store1 xik (L' := [(1, yI (z7)), (0, yR k0)]) rfl (fun _ _ => rfl) rfl rfl ?_
    refine yG.load xak rfl (fun _ _ => rfl) (v := yR k0) rfl rfl ?_
    refine yG.getO A_h6.1 (w_Flow_solver W H_k0) rfl rfl (fun r8 H_r8 O_r8 q_r8 => ?_)
    refine yG.load xak rfl (fun _ _ => rfl) (v := yR k0) rfl rfl ?_
    refine yG.getS9 A_h6.1 (w_Flow_shape W H_k0) qq1 rfl rfl ?_
    refine yG.load xak rfl (fun _ _ => rfl) (v := yR k0) rfl rfl ?_
    refine yG.getS9 A_h6.1 (w_Flow_solvable W H_k0) qq2 rfl rfl ?_
    refine yG.num (c := 1) rfl (fun _ _ => rfl) (by decide) ?_
    refine yG.num (c := -1) rfl (fun _ _ => rfl) (by decide) ?_
    refine yG.invV (rest := [yR r8]) A_h6.1 (bOb (d_Shape W) H_r4) rfl rfl rfl rfl (c_Shape_bits_0 W (d + 2) A_h6.1 H_r4 H_r5 (1) ((-1)) (by omega) (by omega) (by omega) (by omega)) (fun rv hp9 q9 => ?_)
    obtain ⟨⟨z9, rfl, l_z9, u_z9, R_z9⟩, e9⟩ := q9
    rw [e9]
    show yG _ _ _ _ _ _ _ _ _ _ (yI z9 :: [yR r8]) _
    refine yG.num (c := 25) rfl (fun _ _ => rfl) (by decide) ?_
    refine yG.iadd rfl ?_
    refine yG.load xak rfl (fun _ _ => rfl) (v := yR k0) rfl rfl ?_
    refine yG.getO A_h6.1 (w_Flow_top W H_k0) rfl rfl (fun r10 H_r10 O_r10 q_r10 => ?_)
    refine yG.load xak rfl (fun _ _ => rfl) (v := yR k0) rfl rfl ?_
    refine yG.getO A_h6.1 (w_Flow_whole W H_k0) rfl rfl (fun r11 H_r11 O_r11 q_r11 => ?_)
    obtain ⟨n_r11, N_r11⟩ : ∃ n : Int, n = ((zat G r11 : Nat) : Int) := ⟨_, rfl⟩
    have L_r11 := n_Big W H_r11
    obtain ⟨z12, e_z12, l_z12, u_z12⟩ := ywI (z9 + 25)
    rw [e_z12]
    refine yG.invV (rest := []) A_h6.1 (bOb (d_Solver W) H_r8) rfl rfl rfl rfl (c_Solver_start__16 W (d + 1) A_h6.1 H_r8 H_r10 H_r11 (z12) (by omega) (by omega)) (fun rv h13 q9 => ?_)
    obtain ⟨⟨rfl, R_z14⟩, B_h13⟩ := q9
    have A_h13 := A_h6.tr B_h13 (by decide)
    have qq3 : zsl h13 k0 0 = yR r4 := (B_h13.sl H_k0 (by decide)).trans qq1
    have qq4 : zsl h13 k0 5 = yR r5 := (B_h13.sl H_k0 (by decide)).trans qq2
    show yG _ _ _ _ _ _ _ _ _ _ [] _
    refine yG.num (c := 0) rfl (fun _ _ => rfl) (by decide) ?_
    refine yG.store1 xik (L' := [(2, yI (0)), (1, yI (z7)), (0, yR k0)]) rfl (fun _ _ => rfl) rfl rfl ?_
    exact yG.mono (yG.sub (i_59 (z7) (0)  h13 A_h13   (by omega) (by omega) (by omega) (by omega) (by omega)) (ySub.cons rfl (ySub.cons rfl (ySub.cons rfl (ySub.nil))))) (by omega)
  · have c2 : (z1 : Int) ≠ 0 := c2
    refine yG.ret rfl (fun _ _ => rfl) ?_
    exact (yP.void ⟨⟨rfl, trivial⟩, A_hp⟩)
theorem c_Flow_carried_m {hp : xH} (W : bW G) (d : Nat) (hT : zTy G hp) {k0 : Nat} (H_k0 : bRo G 44 k0) {k2 : Nat} (H_k2 : bRo G 35 k2) {k3 : Nat} (H_k3 : bRo G 35 k3) (p1 : Int) (h1l : 0 ≤ p1) (h1u : p1 ≤ 19) : yC (xcall 89 xfts xpools xms (d + 4)) 102 [yR k0, yI (p1), yR k2, yR k3] hp (fun rv hp' => (rv = none ∧ True) ∧ bAx G [(34359738368, 1), (34359738368, 2), (68719476736, 256)] hp hp') := by
  have A_hp : bAx G [(34359738368, 1), (34359738368, 2), (68719476736, 256)] hp hp := bAx.rf hT
  obtain ⟨n_k2, N_k2⟩ : ∃ n : Int, n = ((zat G k2 : Nat) : Int) := ⟨_, rfl⟩
  have L_k2 := n_Big W H_k2
  obtain ⟨n_k3, N_k3⟩ : ∃ n : Int, n = ((zat G k3 : Nat) : Int) := ⟨_, rfl⟩
  have L_k3 := n_Big W H_k3
  refine yC.of (M := (xt_X2_carried, (4, (0, (3, []))))) rfl rfl (N := 174) (yfuel (by decide)) ?_
  show yG 89 xfts (xcall 89 xfts xpools xms (d + 3)) (xpool xp_RX2) [] xt_X2_carried (yP 0 (fun rv hp' => (rv = none ∧ True) ∧ bAx G [(34359738368, 1), (34359738368, 2), (68719476736, 256)] hp hp')) 174 0 [(0, yR k0), (1, yI (p1)), (2, yR k2), (3, yR k3)] [] hp
  refine yG.load xak rfl (fun _ _ => rfl) (v := yR k2) rfl rfl ?_
  refine yG.numl (c := 0) rfl (fun _ _ => rfl) (by decide) ?_
  refine yG.invV (rest := []) A_hp.1 (bOb (d_Big W) H_k2) rfl rfl rfl rfl (c_Big_put W (d + 1) A_hp.1 H_k2 (0) (by omega) (by omega)) (fun rv h1 q9 => ?_)
  obtain ⟨⟨rfl, R_z2⟩, B_h1⟩ := q9
  have A_h1 := A_hp.tr B_h1 (by decide)
  show yG _ _ _ _ _ _ _ _ _ _ [] _
  refine yG.load xak rfl (fun _ _ => rfl) (v := yR k3) rfl rfl ?_
  refine yG.load xak rfl (fun _ _ => rfl) (v := yR k0) rfl rfl ?_
  refine yG.getO A_h1.1 (w_Flow_whole W H_k0) rfl rfl (fun r3 H_r3 O_r3 q_r3 => ?_)
  obtain ⟨n_r3, N_r3⟩ : ∃ n : Int, n = ((zat G r3 : Nat) : Int) := ⟨_, rfl⟩
  have L_r3 := n_Big W H_r3
  refine yG.invV (rest := []) A_h1.1 (bOb (d_Big W) H_k3) rfl rfl rfl rfl (c_Big_copy W (d + 1) A_h1.1 H_k3 H_r3) (fun rv h4 q9 => ?_)
  obtain ⟨⟨rfl, R_z5⟩, B_h4⟩ := q9
  have A_h4 := A_h1.tr B_h4 (by decide)
  show yG _ _ _ _ _ _ _ _ _ _ [] _
  refine yG.load xak rfl (fun _ _ => rfl) (v := yR k0) rfl rfl ?_
  refine yG.getO A_h4.1 (w_Flow_shape W H_k0) rfl rfl (fun r6 H_r6 O_r6 q_r6 => ?_)
  refine yG.load xik rfl (fun _ _ => rfl) (v := yI (p1)) rfl rfl ?_
  refine yG.load xak rfl (fun _ _ => rfl) (v := yR k0) rfl rfl ?_
  refine yG.getO A_h4.1 (w_Flow_solvable W H_k0) rfl rfl (fun r7 H_r7 O_r7 q_r7 => ?_)
  refine yG.invV (rest := []) A_h4.1 (bOb (d_Shape W) H_r6) rfl rfl rfl rfl (c_Shape_isLineIn_0 W (d + 2) A_h4.1 H_r6 H_r7 (p1) (by omega) (by omega)) (fun rv hp9 q9 => ?_)
  obtain ⟨⟨z8, rfl, l_z8, u_z8, R_z8⟩, e9⟩ := q9
  rw [e9]
  show yG _ _ _ _ _ _ _ _ _ _ (yI z8 :: []) _
  refine yG.ifz rfl (t := 97) rfl ⟨by omega, by omega⟩ (fun c9 => ?_) (fun c9 => ?_)
  · have c9 : (z8 : Int) = 0 := c9
    refine yG.ret rfl (fun _ _ => rfl) ?_
    exact (yP.void ⟨⟨rfl, trivial⟩, A_h4⟩)
  · have c9 : (z8 : Int) ≠ 0 := c9
    refine yG.load xak rfl (fun _ _ => rfl) (v := yR k2) rfl rfl ?_
    refine yG.load xak rfl (fun _ _ => rfl) (v := yR k0) rfl rfl ?_
    refine yG.getO A_h4.1 (w_Flow_top W H_k0) rfl rfl (fun r10 H_r10 O_r10 q_r10 => ?_)
    refine yG.load xak rfl (fun _ _ => rfl) (v := yR k0) rfl rfl ?_
    refine yG.getS9 A_h4.1 (w_Flow_shape W H_k0) q_r6 rfl rfl ?_
    refine yG.getO A_h4.1 (w_Shape_ends W H_r6) rfl rfl (fun r11 H_r11 O_r11 q_r11 => ?_)
    refine yG.load xik rfl (fun _ _ => rfl) (v := yI (p1)) rfl rfl ?_
    refine yG.aaldO (r := 57) A_h4.1 (v_Shape_ends W H_r11) rfl rfl rfl (by omega) (by omega) (fun r12 H_r12 q_r12 => ?_)
    refine yG.num (c := 0) rfl (fun _ _ => rfl) (by decide) ?_
    refine yG.iald A_h4.1 (v_Shape_endss W H_r12) rfl (by omega) (by omega) (fun z13 e_z13 i_z13 l_z13 u_z13 => ?_)
    refine yG.aaldO (r := 35) A_h4.1 (v_Big16 W H_r10) rfl rfl rfl (by omega) (by omega) (fun r14 H_r14 q_r14 => ?_)
    obtain ⟨n_r14, N_r14⟩ : ∃ n : Int, n = ((zat G r14 : Nat) : Int) := ⟨_, rfl⟩
    have L_r14 := n_Big W H_r14
    refine yG.invV (rest := []) A_h4.1 (bOb (d_Big W) H_k2) rfl rfl rfl rfl (c_Big_copy W (d + 1) A_h4.1 H_k2 H_r14) (fun rv h15 q9 => ?_)
    obtain ⟨⟨rfl, R_z16⟩, B_h15⟩ := q9
    have A_h15 := A_h4.tr B_h15 (by decide)
    have qq1 : zsl h15 k0 0 = yR r6 := (B_h15.sl H_k0 (by decide)).trans q_r6
    have qq2 : zsl h15 k0 7 = yR r10 := (B_h15.sl H_k0 (by decide)).trans q_r10
    have qq3 : zsl h15 r6 5 = yR r11 := (B_h15.sl H_r6 (by decide)).trans q_r11
    have qq4 : zsl h15 r11 (p1 : Int).toNat = yR r12 := (B_h15.sl H_r11 (bNo_ok (by decide) _)).trans q_r12
    show yG _ _ _ _ _ _ _ _ _ _ [] _
    refine yG.load xak rfl (fun _ _ => rfl) (v := yR k2) rfl rfl ?_
    refine yG.load xak rfl (fun _ _ => rfl) (v := yR k0) rfl rfl ?_
    refine yG.getS9 A_h15.1 (w_Flow_top W H_k0) qq2 rfl rfl ?_
    refine yG.load xak rfl (fun _ _ => rfl) (v := yR k0) rfl rfl ?_
    refine yG.getS9 A_h15.1 (w_Flow_shape W H_k0) qq1 rfl rfl ?_
    refine yG.getS9 A_h15.1 (w_Shape_ends W H_r6) qq3 rfl rfl ?_
    refine yG.load xik rfl (fun _ _ => rfl) (v := yI (p1)) rfl rfl ?_
    refine yG.aaldO (r := 57) A_h15.1 (v_Shape_ends W H_r11) rfl rfl rfl (by omega) (by omega) (fun r17 H_r17 q_r17 => ?_)
    have s_r17 : r17 = r12 := by have e9 := q_r17.symm.trans qq4; cases e9; rfl
    rw [s_r17]
    refine yG.num (c := 1) rfl (fun _ _ => rfl) (by decide) ?_
    refine yG.iald A_h15.1 (v_Shape_endss W H_r12) rfl (by omega) (by omega) (fun z18 e_z18 i_z18 l_z18 u_z18 => ?_)
    refine yG.aaldO (r := 35) A_h15.1 (v_Big16 W H_r10) rfl rfl rfl (by omega) (by omega) (fun r19 H_r19 q_r19 => ?_)
    obtain ⟨n_r19, N_r19⟩ : ∃ n : Int, n = ((zat G r19 : Nat) : Int) := ⟨_, rfl⟩
    have L_r19 := n_Big W H_r19
    refine yG.invV (rest := []) A_h15.1 (bOb (d_Big W) H_k2) rfl rfl rfl rfl (c_Big_less W d A_h15.1 H_k2 H_r19) (fun rv h20 q9 => ?_)
    obtain ⟨⟨rfl, R_z21⟩, B_h20⟩ := q9
    have A_h20 := A_h15.tr B_h20 (by decide)
    have qq5 : zsl h20 k0 0 = yR r6 := (B_h20.sl H_k0 (by decide)).trans qq1
    have qq6 : zsl h20 k0 7 = yR r10 := (B_h20.sl H_k0 (by decide)).trans qq2
    have qq7 : zsl h20 r6 5 = yR r11 := (B_h20.sl H_r6 (by decide)).trans qq3
    have qq8 : zsl h20 r11 (p1 : Int).toNat = yR r12 := (B_h20.sl H_r11 (bNo_ok (by decide) _)).trans qq4
    show yG _ _ _ _ _ _ _ _ _ _ [] _
    refine yG.load xak rfl (fun _ _ => rfl) (v := yR k3) rfl rfl ?_
    refine yG.load xak rfl (fun _ _ => rfl) (v := yR k0) rfl rfl ?_
    refine yG.getO A_h20.1 (w_Flow_net W H_k0) rfl rfl (fun r22 H_r22 O_r22 q_r22 => ?_)
    refine yG.num (c := 2) rfl (fun _ _ => rfl) (by decide) ?_
    refine yG.load xik rfl (fun _ _ => rfl) (v := yI (p1)) rfl rfl ?_
    refine yG.num (c := 1) rfl (fun _ _ => rfl) (by decide) ?_
    refine yG.invV (rest := [yR k3]) A_h20.1 (bOb (d_Net W) H_r22) rfl rfl rfl rfl (c_Net_at_2_1 W (d + 2) A_h20.1 H_r22 (p1) (by omega) (by omega)) (fun rv hp9 q9 => ?_)
    obtain ⟨⟨z23, rfl, l_z23, u_z23, R_z23⟩, e9⟩ := q9
    rw [e9]
    show yG _ _ _ _ _ _ _ _ _ _ (yI z23 :: [yR k3]) _
    refine yG.load xak rfl (fun _ _ => rfl) (v := yR k0) rfl rfl ?_
    refine yG.getO A_h20.1 (w_Flow_total W H_k0) rfl rfl (fun r24 H_r24 O_r24 q_r24 => ?_)
    refine yG.load xak rfl (fun _ _ => rfl) (v := yR k0) rfl rfl ?_
    refine yG.getS9 A_h20.1 (w_Flow_shape W H_k0) qq5 rfl rfl ?_
    refine yG.load xik rfl (fun _ _ => rfl) (v := yI (p1)) rfl rfl ?_
    refine yG.invV (rest := [yR r24, yI (z23), yR k3]) A_h20.1 (bOb (d_Shape W) H_r6) rfl rfl rfl rfl (c_Shape_islandOfLine W (d + 2) A_h20.1 H_r6 (p1) (by omega) (by omega)) (fun rv hp9 q9 => ?_)
    obtain ⟨⟨z25, rfl, l_z25, u_z25, R_z25⟩, e9⟩ := q9
    rw [e9]
    show yG _ _ _ _ _ _ _ _ _ _ (yI z25 :: [yR r24, yI (z23), yR k3]) _
    refine yG.iald A_h20.1 (v_Flow_total W H_r24) rfl (by omega) (by omega) (fun z26 e_z26 i_z26 l_z26 u_z26 => ?_)
    refine yG.imul rfl ?_
    obtain ⟨z27, e_z27⟩ : ∃ z : Int, z = z23 * z26 := ⟨_, rfl⟩
    rw [← e_z27]
    have b_z27 : -212600881152 ≤ z27 ∧ z27 ≤ 212600881152 := e_z27 ▸ ymuls (A := 99) (B := 2147483648) (by omega) (by omega) (by omega) (by omega) (by decide)
    obtain ⟨z28, e_z28, l_z28, u_z28⟩ := ywI (z27)
    rw [e_z28]
    refine yG.i2l rfl ⟨by omega, by omega⟩ ?_
    refine yG.invV (rest := []) A_h20.1 (bOb (d_Big W) H_k3) rfl rfl rfl rfl (c_Big_scale W (d + 1) A_h20.1 H_k3 (z28) (by omega) (by omega)) (fun rv h29 q9 => ?_)
    obtain ⟨⟨rfl, R_z30⟩, B_h29⟩ := q9
    have A_h29 := A_h20.tr B_h29 (by decide)
    have qq9 : zsl h29 k0 0 = yR r6 := (B_h29.sl H_k0 (by decide)).trans qq5
    have qq10 : zsl h29 k0 7 = yR r10 := (B_h29.sl H_k0 (by decide)).trans qq6
    have qq11 : zsl h29 r6 5 = yR r11 := (B_h29.sl H_r6 (by decide)).trans qq7
    have qq12 : zsl h29 r11 (p1 : Int).toNat = yR r12 := (B_h29.sl H_r11 (bNo_ok (by decide) _)).trans qq8
    show yG _ _ _ _ _ _ _ _ _ _ [] _
    refine yG.ret rfl (fun _ _ => rfl) ?_
    exact (yP.void ⟨⟨rfl, trivial⟩, A_h29⟩)
theorem c_Flow_countOver_m {hp : xH} (W : bW G) (d : Nat) (hT : zTy G hp) {k0 : Nat} (H_k0 : bRo G 44 k0) : yC (xcall 89 xfts xpools xms (d + 6)) 103 [yR k0] hp (fun rv hp' => (rv = none ∧ True) ∧ bAx G [(34359738368, 1), (1133871366144, 2), (1099511627776, 3), (1099511627776, 6), (1099511627776, 7), (1099511627776, 8), (17592186044416, 11), (17592186044416, 14), (18029860391747584, 256)] hp hp') := by
  have A_hp : bAx G [(34359738368, 1), (1133871366144, 2), (1099511627776, 3), (1099511627776, 6), (1099511627776, 7), (1099511627776, 8), (17592186044416, 11), (17592186044416, 14), (18029860391747584, 256)] hp hp := bAx.rf hT
  have H : ∀ m : Nat, (∀ a1 : Int, ∀ hq, bAx G [(34359738368, 1), (1133871366144, 2), (1099511627776, 3), (1099511627776, 6), (1099511627776, 7), (1099511627776, 8), (17592186044416, 11), (17592186044416, 14), (18029860391747584, 256)] hp hq → 0 ≤ a1 → (-20) ≤ 0 - a1 → 0 - 2 * a1 + 41 < (m : Int) → yG 89 xfts (xcall 89 xfts xpools xms (d + 5)) (xpool xp_RX2) [] xt_X2_countOver (yP 0 (fun rv hp' => (rv = none ∧ True) ∧ bAx G [(34359738368, 1), (1133871366144, 2), (1099511627776, 3), (1099511627776, 6), (1099511627776, 7), (1099511627776, 8), (17592186044416, 11), (17592186044416, 14), (18029860391747584, 256)] hp hp')) (41 * m) 20 [(0, yR k0), (1, yI (a1))] [] hq) := by
    intro m
    induction m with
    | zero =>
      intros; exfalso; omega
    | succ m ih =>
      have i_20 := ih
      clear ih
      intro a1 hq A_hq f0 f1 hm
      refine yG.mono (N := 41 * m + 41) ?_ (by omega)
      refine yG.load xik rfl (fun _ _ => rfl) (v := yI (a1)) rfl rfl ?_
      refine yG.load xak rfl (fun _ _ => rfl) (v := yR k0) rfl rfl ?_
      refine yG.getO A_hq.1 (w_Flow_net W H_k0) rfl rfl (fun r1 H_r1 O_r1 q_r1 => ?_)
      refine yG.getO A_hq.1 (w_Net_count W H_r1) rfl rfl (fun r2 H_r2 O_r2 q_r2 => ?_)
      refine yG.num (c := 2) rfl (fun _ _ => rfl) (by decide) ?_
      refine yG.ialdF A_hq.1 (v_Net_count W H_r2) rfl rfl (by omega) (by omega) (fun z3 e_z3 i_z3 l_z3 u_z3 => ?_)
      refine yG.icmp rfl (t := 98) rfl ⟨by omega, by omega⟩ ⟨by omega, by omega⟩ (fun c4 => ?_) (fun c4 => ?_)
      · have c4 : (a1 : Int) ≥ z3 := c4
        refine yG.ret rfl (fun _ _ => rfl) ?_
        exact (yP.void ⟨⟨rfl, trivial⟩, A_hq⟩)
      · have c4 : (a1 : Int) < z3 := c4
        refine yG.load xak rfl (fun _ _ => rfl) (v := yR k0) rfl rfl ?_
        refine yG.load xik rfl (fun _ _ => rfl) (v := yI (a1)) rfl rfl ?_
        refine yG.load xak rfl (fun _ _ => rfl) (v := yR k0) rfl rfl ?_
        refine yG.getO A_hq.1 (w_Flow_one W H_k0) rfl rfl (fun r5 H_r5 O_r5 q_r5 => ?_)
        obtain ⟨n_r5, N_r5⟩ : ∃ n : Int, n = ((zat G r5 : Nat) : Int) := ⟨_, rfl⟩
        have L_r5 := n_Big W H_r5
        refine yG.load xak rfl (fun _ _ => rfl) (v := yR k0) rfl rfl ?_
        refine yG.getO A_hq.1 (w_Flow_other W H_k0) rfl rfl (fun r6 H_r6 O_r6 q_r6 => ?_)
        obtain ⟨n_r6, N_r6⟩ : ∃ n : Int, n = ((zat G r6 : Nat) : Int) := ⟨_, rfl⟩
        have L_r6 := n_Big W H_r6
        refine yG.invV (rest := []) A_hq.1 (bOb (d_Flow W) H_k0) rfl rfl rfl rfl (c_Flow_carried_m W (d + 1) A_hq.1 H_k0 H_r5 H_r6 (a1) (by omega) (by omega)) (fun rv h7 q9 => ?_)
        obtain ⟨⟨rfl, R_z8⟩, B_h7⟩ := q9
        have A_h7 := A_hq.tr B_h7 (by decide)
        have qq1 : zsl h7 k0 1 = yR r1 := (B_h7.sl H_k0 (by decide)).trans q_r1
        have qq2 : zsl h7 k0 9 = yR r5 := (B_h7.sl H_k0 (by decide)).trans q_r5
        have qq3 : zsl h7 k0 10 = yR r6 := (B_h7.sl H_k0 (by decide)).trans q_r6
        show yG _ _ _ _ _ _ _ _ _ _ [] _
        refine yG.load xak rfl (fun _ _ => rfl) (v := yR k0) rfl rfl ?_
        refine yG.getS9 A_h7.1 (w_Flow_other W H_k0) qq3 rfl rfl ?_
        refine yG.load xak rfl (fun _ _ => rfl) (v := yR k0) rfl rfl ?_
        refine yG.getS9 A_h7.1 (w_Flow_net W H_k0) qq1 rfl rfl ?_
        refine yG.num (c := 2) rfl (fun _ _ => rfl) (by decide) ?_
        refine yG.load xik rfl (fun _ _ => rfl) (v := yI (a1)) rfl rfl ?_
        refine yG.num (c := 3) rfl (fun _ _ => rfl) (by decide) ?_
        refine yG.invV (rest := [yR r6]) A_h7.1 (bOb (d_Net W) H_r1) rfl rfl rfl rfl (c_Net_at_2_3 W (d + 4) A_h7.1 H_r1 (a1) (by omega) (by omega)) (fun rv hp9 q9 => ?_)
        obtain ⟨⟨z9, rfl, l_z9, u_z9, R_z9⟩, e9⟩ := q9
        rw [e9]
        show yG _ _ _ _ _ _ _ _ _ _ (yI z9 :: [yR r6]) _
        refine yG.i2l rfl ⟨by omega, by omega⟩ ?_
        refine yG.invV (rest := []) A_h7.1 (bOb (d_Big W) H_r6) rfl rfl rfl rfl (c_Big_scale W (d + 3) A_h7.1 H_r6 (z9) (by omega) (by omega)) (fun rv h10 q9 => ?_)
        obtain ⟨⟨rfl, R_z11⟩, B_h10⟩ := q9
        have A_h10 := A_h7.tr B_h10 (by decide)
        have qq4 : zsl h10 k0 1 = yR r1 := (B_h10.sl H_k0 (by decide)).trans qq1
        have qq5 : zsl h10 k0 9 = yR r5 := (B_h10.sl H_k0 (by decide)).trans qq2
        have qq6 : zsl h10 k0 10 = yR r6 := (B_h10.sl H_k0 (by decide)).trans qq3
        show yG _ _ _ _ _ _ _ _ _ _ [] _
        refine yG.load xak rfl (fun _ _ => rfl) (v := yR k0) rfl rfl ?_
        refine yG.step (pc' := 66) (stk' := [yR k0, yR k0]) rfl (fun _ _ => rfl) ?_
        refine yG.getI A_h10.1 (w_Flow_overs W H_k0) rfl rfl (fun z12 e_z12 i_z12 l_z12 u_z12 => ?_)
        refine yG.load xak rfl (fun _ _ => rfl) (v := yR k0) rfl rfl ?_
        refine yG.getS9 A_h10.1 (w_Flow_one W H_k0) qq5 rfl rfl ?_
        refine yG.load xak rfl (fun _ _ => rfl) (v := yR k0) rfl rfl ?_
        refine yG.getS9 A_h10.1 (w_Flow_other W H_k0) qq6 rfl rfl ?_
        refine yG.invV (rest := [yI (z12), yR k0]) A_h10.1 (bOb (d_Big W) H_r5) rfl rfl rfl rfl (c_Big_compareSize W (d + 4) A_h10.1 H_r5 H_r6) (fun rv hp9 q9 => ?_)
        obtain ⟨⟨z13, rfl, l_z13, u_z13, R_z13⟩, e9⟩ := q9
        rw [e9]
        show yG _ _ _ _ _ _ _ _ _ _ (yI z13 :: [yI (z12), yR k0]) _
        refine yG.ifz rfl (t := 87) rfl ⟨by omega, by omega⟩ (fun c14 => ?_) (fun c14 => ?_)
        · have c14 : (z13 : Int) ≤ 0 := c14
          refine yG.num (c := 0) rfl (fun _ _ => rfl) (by decide) ?_
          refine yG.iadd rfl ?_
          refine yG.putI A_h10.1 (w_Flow_overs W H_k0) (W.2.1 _ _ H_k0 (by decide) (by decide)) rfl rfl (.inl rfl) ⟨by omega, by omega⟩ (by omega) (by omega) (fun h15 T_h15 b_h15 f_h15 y_h15 => ?_)
          have A_h15 := A_h10.put T_h15 b_h15 f_h15 H_k0 (by decide)
          have qq7 : zsl h15 k0 1 = yR r1 := ((f_h15 k0 1).trans (if_neg (fun e => absurd e.2 (by decide)))).trans qq4
          have qq8 : zsl h15 k0 9 = yR r5 := ((f_h15 k0 9).trans (if_neg (fun e => absurd e.2 (by decide)))).trans qq5
          have qq9 : zsl h15 k0 10 = yR r6 := ((f_h15 k0 10).trans (if_neg (fun e => absurd e.2 (by decide)))).trans qq6
          refine yG.iinc rfl (a := a1) rfl (L' := [(1, yI (a1 + 1)), (0, yR k0)]) rfl ?_
          refine yG.goto rfl (t := 20) rfl ?_
          exact yG.mono (yG.sub (i_20 (a1 + 1)  h15 A_h15   (by omega) (by omega) (by omega)) (ySub.cons rfl (ySub.cons rfl (ySub.nil)))) (by omega)
        · have c14 : (z13 : Int) > 0 := c14
          refine yG.num (c := 1) rfl (fun _ _ => rfl) (by decide) ?_
          refine yG.goto rfl (t := 88) rfl ?_
          refine yG.iadd rfl ?_
          obtain ⟨z17, e_z17, l_z17, u_z17⟩ := ywI (z12 + 1)
          rw [e_z17]
          refine yG.putI A_h10.1 (w_Flow_overs W H_k0) (W.2.1 _ _ H_k0 (by decide) (by decide)) rfl rfl (.inl rfl) ⟨by omega, by omega⟩ (by omega) (by omega) (fun h16 T_h16 b_h16 f_h16 y_h16 => ?_)
          have A_h16 := A_h10.put T_h16 b_h16 f_h16 H_k0 (by decide)
          have qq10 : zsl h16 k0 1 = yR r1 := ((f_h16 k0 1).trans (if_neg (fun e => absurd e.2 (by decide)))).trans qq4
          have qq11 : zsl h16 k0 9 = yR r5 := ((f_h16 k0 9).trans (if_neg (fun e => absurd e.2 (by decide)))).trans qq5
          have qq12 : zsl h16 k0 10 = yR r6 := ((f_h16 k0 10).trans (if_neg (fun e => absurd e.2 (by decide)))).trans qq6
          refine yG.iinc rfl (a := a1) rfl (L' := [(1, yI (a1 + 1)), (0, yR k0)]) rfl ?_
          refine yG.goto rfl (t := 20) rfl ?_
          exact yG.mono (yG.sub (i_20 (a1 + 1)  h16 A_h16   (by omega) (by omega) (by omega)) (ySub.cons rfl (ySub.cons rfl (ySub.nil)))) (by omega)
  refine yC.of (M := (xt_X2_countOver, (2, (0, (3, []))))) rfl rfl (N := 1804) (yfuel (by decide)) ?_
  show yG 89 xfts (xcall 89 xfts xpools xms (d + 5)) (xpool xp_RX2) [] xt_X2_countOver (yP 0 (fun rv hp' => (rv = none ∧ True) ∧ bAx G [(34359738368, 1), (1133871366144, 2), (1099511627776, 3), (1099511627776, 6), (1099511627776, 7), (1099511627776, 8), (17592186044416, 11), (17592186044416, 14), (18029860391747584, 256)] hp hp')) 1804 0 [(0, yR k0)] [] hp
  have i_20 := H 43
  refine yG.load xak rfl (fun _ _ => rfl) (v := yR k0) rfl rfl ?_
  refine yG.getI A_hp.1 (w_Flow_overs W H_k0) rfl rfl (fun z1 e_z1 i_z1 l_z1 u_z1 => ?_)
  refine yG.num (c := -1) rfl (fun _ _ => rfl) (by decide) ?_
  refine yG.icmp rfl (t := 9) rfl ⟨by omega, by omega⟩ ⟨by omega, by omega⟩ (fun c2 => ?_) (fun c2 => ?_)
  · have c2 : (z1 : Int) = (-1) := c2
    refine yG.load xak rfl (fun _ _ => rfl) (v := yR k0) rfl rfl ?_
    refine yG.invV (rest := []) A_hp.1 (bOb (d_Flow W) H_k0) rfl rfl rfl rfl (c_Flow_solve_m W d A_hp.1 H_k0) (fun rv h3 q9 => ?_)
    obtain ⟨⟨rfl, R_z4⟩, B_h3⟩ := q9
    have A_h3 := A_hp.tr B_h3 (by decide)
    show yG _ _ _ _ _ _ _ _ _ _ [] _
    refine yG.load xak rfl (fun _ _ => rfl) (v := yR k0) rfl rfl ?_
    refine yG.num (c := 0) rfl (fun _ _ => rfl) (by decide) ?_
    refine yG.putI A_h3.1 (w_Flow_overs W H_k0) (W.2.1 _ _ H_k0 (by decide) (by decide)) rfl rfl (.inl rfl) ⟨by omega, by omega⟩ (by omega) (by omega) (fun h5 T_h5 b_h5 f_h5 y_h5 => ?_)
    have A_h5 := A_h3.put T_h5 b_h5 f_h5 H_k0 (by decide)
    refine yG.num (c := 0) rfl (fun _ _ => rfl) (by decide) ?_
    refine yG.store1 xik (L' := [(1, yI (0)), (0, yR k0)]) rfl (fun _ _ => rfl) rfl rfl ?_
    exact yG.mono (yG.sub (i_20 (0)  h5 A_h5   (by omega) (by omega) (by omega)) (ySub.cons rfl (ySub.cons rfl (ySub.nil)))) (by omega)
  · have c2 : (z1 : Int) ≠ (-1) := c2
    refine yG.ret rfl (fun _ _ => rfl) ?_
    exact (yP.void ⟨⟨rfl, trivial⟩, A_hp⟩)
theorem c_Flow_addLoads_s {hp : xH} (W : bW G) (d : Nat) (hT : zTy G hp) {k0 : Nat} (H_k0 : bRo G 115 k0) : yC (xcall 89 xfts xpools xms (d + 3)) 100 [yR k0] hp (fun rv hp' => (rv = none ∧ True) ∧ bAx G [(41538374868278621028243970633760768, 13), (35184372088832, 256)] hp hp') := by
  have A_hp : bAx G [(41538374868278621028243970633760768, 13), (35184372088832, 256)] hp hp := bAx.rf hT
  have H : ∀ m : Nat, (∀ a1 : Int, ∀ hq, bAx G [(41538374868278621028243970633760768, 13), (35184372088832, 256)] hp hq → 0 ≤ a1 → (-12) ≤ 0 - a1 → 0 - 2 * a1 + 25 < (m : Int) → yG 89 xfts (xcall 89 xfts xpools xms (d + 2)) (xpool xp_RX2) [] xt_X2_addLoads (yP 0 (fun rv hp' => (rv = none ∧ True) ∧ bAx G [(41538374868278621028243970633760768, 13), (35184372088832, 256)] hp hp')) (44 * m) 2 [(0, yR k0), (1, yI (a1))] [] hq) := by
    intro m
    induction m with
    | zero =>
      intros; exfalso; omega
    | succ m ih =>
      have i_2 := ih
      clear ih
      intro a1 hq A_hq f0 f1 hm
      refine yG.mono (N := 44 * m + 44) ?_ (by omega)
      refine yG.load xik rfl (fun _ _ => rfl) (v := yI (a1)) rfl rfl ?_
      refine yG.load xak rfl (fun _ _ => rfl) (v := yR k0) rfl rfl ?_
      refine yG.getO A_hq.1 (w_FlowS_net W H_k0) rfl rfl (fun r1 H_r1 O_r1 q_r1 => ?_)
      refine yG.getO A_hq.1 (w_Net_count W H_r1) rfl rfl (fun r2 H_r2 O_r2 q_r2 => ?_)
      refine yG.num (c := 4) rfl (fun _ _ => rfl) (by decide) ?_
      refine yG.ialdF A_hq.1 (v_Net_count W H_r2) rfl rfl (by omega) (by omega) (fun z3 e_z3 i_z3 l_z3 u_z3 => ?_)
      refine yG.icmp rfl (t := 77) rfl ⟨by omega, by omega⟩ ⟨by omega, by omega⟩ (fun c4 => ?_) (fun c4 => ?_)
      · have c4 : (a1 : Int) ≥ z3 := c4
        refine yG.ret rfl (fun _ _ => rfl) ?_
        exact (yP.void ⟨⟨rfl, trivial⟩, A_hq⟩)
      · have c4 : (a1 : Int) < z3 := c4
        refine yG.load xak rfl (fun _ _ => rfl) (v := yR k0) rfl rfl ?_
        refine yG.getO A_hq.1 (w_FlowS_shape W H_k0) rfl rfl (fun r5 H_r5 O_r5 q_r5 => ?_)
        refine yG.load xik rfl (fun _ _ => rfl) (v := yI (a1)) rfl rfl ?_
        refine yG.invV (rest := []) A_hq.1 (bOb (d_Shape W) H_r5) rfl rfl rfl rfl (c_Shape_islandOfLoad W d A_hq.1 H_r5 (a1) (by omega) (by omega)) (fun rv hp9 q9 => ?_)
        obtain ⟨⟨z6, rfl, l_z6, u_z6, R_z6⟩, e9⟩ := q9
        rw [e9]
        show yG _ _ _ _ _ _ _ _ _ _ (yI z6 :: []) _
        refine yG.store1 xik (L' := [(2, yI (z6)), (0, yR k0), (1, yI (a1))]) rfl (fun _ _ => rfl) rfl rfl ?_
        refine yG.load xak rfl (fun _ _ => rfl) (v := yR k0) rfl rfl ?_
        refine yG.getS9 A_hq.1 (w_FlowS_net W H_k0) q_r1 rfl rfl ?_
        refine yG.num (c := 4) rfl (fun _ _ => rfl) (by decide) ?_
        refine yG.load xik rfl (fun _ _ => rfl) (v := yI (a1)) rfl rfl ?_
        refine yG.num (c := 0) rfl (fun _ _ => rfl) (by decide) ?_
        refine yG.invV (rest := []) A_hq.1 (bOb (d_Net W) H_r1) rfl rfl rfl rfl (c_Net_at_4_0 W (d + 1) A_hq.1 H_r1 (a1) (by omega) (by omega)) (fun rv hp9 q9 => ?_)
        obtain ⟨⟨z7, rfl, l_z7, u_z7, R_z7⟩, e9⟩ := q9
        rw [e9]
        show yG _ _ _ _ _ _ _ _ _ _ (yI z7 :: []) _
        refine yG.store1 xik (L' := [(3, yI (z7)), (2, yI (z6)), (0, yR k0), (1, yI (a1))]) rfl (fun _ _ => rfl) rfl rfl ?_
        refine yG.load xak rfl (fun _ _ => rfl) (v := yR k0) rfl rfl ?_
        refine yG.getO A_hq.1 (w_FlowS_gap W H_k0) rfl rfl (fun r8 H_r8 O_r8 q_r8 => ?_)
        refine yG.load xik rfl (fun _ _ => rfl) (v := yI (z6)) rfl rfl ?_
        refine yG.step (pc' := 41) (stk' := [yI (z6), yR r8, yI (z6), yR r8]) rfl (fun _ _ => rfl) ?_
        refine yG.iald A_hq.1 (v_Flow_gap W H_r8) rfl (by omega) (by omega) (fun z9 e_z9 i_z9 l_z9 u_z9 => ?_)
        refine yG.load xik rfl (fun _ _ => rfl) (v := yI (z7)) rfl rfl ?_
        refine yG.iadd rfl ?_
        obtain ⟨z10, e_z10, l_z10, u_z10⟩ := ywI (z9 + z7)
        rw [e_z10]
        refine yG.iast A_hq.1 (v_Flow_gap W H_r8) (W.2.1 _ _ H_r8 (by decide) (by decide)) rfl (by omega) (by omega) ⟨by omega, by omega⟩ (by omega) (by omega) (fun h11 T_h11 b_h11 f_h11 y_h11 => ?_)
        have A_h11 := A_hq.put T_h11 b_h11 f_h11 H_r8 (bAll_ok (by decide) _)
        have qq1 : zsl h11 k0 1 = yR r1 := ((f_h11 k0 1).trans (if_neg (fun e => (bRo.ne H_k0 H_r8 (by decide)) e.1))).trans q_r1
        have qq2 : zsl h11 k0 0 = yR r5 := ((f_h11 k0 0).trans (if_neg (fun e => (bRo.ne H_k0 H_r8 (by decide)) e.1))).trans q_r5
        refine yG.load xak rfl (fun _ _ => rfl) (v := yR k0) rfl rfl ?_
        refine yG.step (pc' := 47) (stk' := [yR k0, yR k0]) rfl (fun _ _ => rfl) ?_
        refine yG.getI A_h11.1 (w_FlowS_lost W H_k0) rfl rfl (fun z12 e_z12 i_z12 l_z12 u_z12 => ?_)
        refine yG.load xak rfl (fun _ _ => rfl) (v := yR k0) rfl rfl ?_
        refine yG.getS9 A_h11.1 (w_FlowS_shape W H_k0) qq2 rfl rfl ?_
        refine yG.getO A_h11.1 (w_Shape_live W H_r5) rfl rfl (fun r13 H_r13 O_r13 q_r13 => ?_)
        refine yG.load xik rfl (fun _ _ => rfl) (v := yI (z6)) rfl rfl ?_
        refine yG.bald A_h11.1 (v_Shape_live W H_r13) rfl (by omega) (by omega) (fun z14 e_z14 i_z14 l_z14 u_z14 => ?_)
        refine yG.ifz rfl (t := 66) rfl ⟨by omega, by omega⟩ (fun c15 => ?_) (fun c15 => ?_)
        · have c15 : (z14 : Int) = 0 := c15
          refine yG.load xik rfl (fun _ _ => rfl) (v := yI (z7)) rfl rfl ?_
          refine yG.iadd rfl ?_
          obtain ⟨z17, e_z17, l_z17, u_z17⟩ := ywI (z12 + z7)
          rw [e_z17]
          refine yG.putI A_h11.1 (w_FlowS_lost W H_k0) (W.2.1 _ _ H_k0 (by decide) (by decide)) rfl rfl (.inl rfl) ⟨by omega, by omega⟩ (by omega) (by omega) (fun h16 T_h16 b_h16 f_h16 y_h16 => ?_)
          have A_h16 := A_h11.put T_h16 b_h16 f_h16 H_k0 (by decide)
          have qq3 : zsl h16 k0 1 = yR r1 := ((f_h16 k0 1).trans (if_neg (fun e => absurd e.2 (by decide)))).trans qq1
          have qq4 : zsl h16 k0 0 = yR r5 := ((f_h16 k0 0).trans (if_neg (fun e => absurd e.2 (by decide)))).trans qq2
          refine yG.iinc rfl (a := a1) rfl (L' := [(1, yI (a1 + 1)), (3, yI (z7)), (2, yI (z6)), (0, yR k0)]) rfl ?_
          refine yG.goto rfl (t := 2) rfl ?_
          exact yG.mono (yG.sub (i_2 (a1 + 1)  h16 A_h16   (by omega) (by omega) (by omega)) (ySub.cons rfl (ySub.cons rfl (ySub.nil)))) (by omega)
        · have c15 : (z14 : Int) ≠ 0 := c15
          refine yG.num (c := 0) rfl (fun _ _ => rfl) (by decide) ?_
          refine yG.goto rfl (t := 67) rfl ?_
          refine yG.iadd rfl ?_
          refine yG.putI A_h11.1 (w_FlowS_lost W H_k0) (W.2.1 _ _ H_k0 (by decide) (by decide)) rfl rfl (.inl rfl) ⟨by omega, by omega⟩ (by omega) (by omega) (fun h18 T_h18 b_h18 f_h18 y_h18 => ?_)
          have A_h18 := A_h11.put T_h18 b_h18 f_h18 H_k0 (by decide)
          have qq5 : zsl h18 k0 1 = yR r1 := ((f_h18 k0 1).trans (if_neg (fun e => absurd e.2 (by decide)))).trans qq1
          have qq6 : zsl h18 k0 0 = yR r5 := ((f_h18 k0 0).trans (if_neg (fun e => absurd e.2 (by decide)))).trans qq2
          refine yG.iinc rfl (a := a1) rfl (L' := [(1, yI (a1 + 1)), (3, yI (z7)), (2, yI (z6)), (0, yR k0)]) rfl ?_
          refine yG.goto rfl (t := 2) rfl ?_
          exact yG.mono (yG.sub (i_2 (a1 + 1)  h18 A_h18   (by omega) (by omega) (by omega)) (ySub.cons rfl (ySub.cons rfl (ySub.nil)))) (by omega)
  refine yC.of (M := (xt_X2_addLoads, (4, (0, (3, []))))) rfl rfl (N := 1232) (yfuel (by decide)) ?_
  show yG 89 xfts (xcall 89 xfts xpools xms (d + 2)) (xpool xp_RX2) [] xt_X2_addLoads (yP 0 (fun rv hp' => (rv = none ∧ True) ∧ bAx G [(41538374868278621028243970633760768, 13), (35184372088832, 256)] hp hp')) 1232 0 [(0, yR k0)] [] hp
  have i_2 := H 27
  refine yG.num (c := 0) rfl (fun _ _ => rfl) (by decide) ?_
  refine yG.store1 xik (L' := [(1, yI (0)), (0, yR k0)]) rfl (fun _ _ => rfl) rfl rfl ?_
  exact yG.mono (yG.sub (i_2 (0)  hp A_hp   (by omega) (by omega) (by omega)) (ySub.cons rfl (ySub.cons rfl (ySub.nil)))) (by omega)
theorem c_Flow_addMachines_s {hp : xH} (W : bW G) (d : Nat) (hT : zTy G hp) {k0 : Nat} (H_k0 : bRo G 115 k0) : yC (xcall 89 xfts xpools xms (d + 2)) 101 [yR k0] hp (fun rv hp' => (rv = none ∧ True) ∧ bAx G [(105553116266496, 256)] hp hp') := by
  have A_hp : bAx G [(105553116266496, 256)] hp hp := bAx.rf hT
  have H : ∀ m : Nat, (∀ a1 : Int, ∀ hq, bAx G [(105553116266496, 256)] hp hq → 0 ≤ a1 → (-6) ≤ 0 - a1 → 0 - 2 * a1 + 13 < (m : Int) → yG 89 xfts (xcall 89 xfts xpools xms (d + 1)) (xpool xp_RX2) [] xt_X2_addMachines (yP 0 (fun rv hp' => (rv = none ∧ True) ∧ bAx G [(105553116266496, 256)] hp hp')) (48 * m) 2 [(0, yR k0), (1, yI (a1))] [] hq) := by
    intro m
    induction m with
    | zero =>
      intros; exfalso; omega
    | succ m ih =>
      have i_2 := ih
      clear ih
      intro a1 hq A_hq f0 f1 hm
      refine yG.mono (N := 48 * m + 48) ?_ (by omega)
      refine yG.load xik rfl (fun _ _ => rfl) (v := yI (a1)) rfl rfl ?_
      refine yG.load xak rfl (fun _ _ => rfl) (v := yR k0) rfl rfl ?_
      refine yG.getO A_hq.1 (w_FlowS_net W H_k0) rfl rfl (fun r1 H_r1 O_r1 q_r1 => ?_)
      refine yG.getO A_hq.1 (w_Net_count W H_r1) rfl rfl (fun r2 H_r2 O_r2 q_r2 => ?_)
      refine yG.num (c := 3) rfl (fun _ _ => rfl) (by decide) ?_
      refine yG.ialdF A_hq.1 (v_Net_count W H_r2) rfl rfl (by omega) (by omega) (fun z3 e_z3 i_z3 l_z3 u_z3 => ?_)
      refine yG.icmp rfl (t := 81) rfl ⟨by omega, by omega⟩ ⟨by omega, by omega⟩ (fun c4 => ?_) (fun c4 => ?_)
      · have c4 : (a1 : Int) ≥ z3 := c4
        refine yG.ret rfl (fun _ _ => rfl) ?_
        exact (yP.void ⟨⟨rfl, trivial⟩, A_hq⟩)
      · have c4 : (a1 : Int) < z3 := c4
        refine yG.load xak rfl (fun _ _ => rfl) (v := yR k0) rfl rfl ?_
        refine yG.getO A_hq.1 (w_FlowS_shape W H_k0) rfl rfl (fun r5 H_r5 O_r5 q_r5 => ?_)
        refine yG.getO A_hq.1 (w_Shape_on W H_r5) rfl rfl (fun r6 H_r6 O_r6 q_r6 => ?_)
        refine yG.load xik rfl (fun _ _ => rfl) (v := yI (a1)) rfl rfl ?_
        refine yG.bald A_hq.1 (v_Shape_on W H_r6) rfl (by omega) (by omega) (fun z7 e_z7 i_z7 l_z7 u_z7 => ?_)
        refine yG.ifz rfl (t := 75) rfl ⟨by omega, by omega⟩ (fun c8 => ?_) (fun c8 => ?_)
        · have c8 : (z7 : Int) = 0 := c8
          refine yG.iinc rfl (a := a1) rfl (L' := [(1, yI (a1 + 1)), (0, yR k0)]) rfl ?_
          refine yG.goto rfl (t := 2) rfl ?_
          exact yG.mono (yG.sub (i_2 (a1 + 1)  hq A_hq   (by omega) (by omega) (by omega)) (ySub.cons rfl (ySub.cons rfl (ySub.nil)))) (by omega)
        · have c8 : (z7 : Int) ≠ 0 := c8
          refine yG.load xak rfl (fun _ _ => rfl) (v := yR k0) rfl rfl ?_
          refine yG.getS9 A_hq.1 (w_FlowS_shape W H_k0) q_r5 rfl rfl ?_
          refine yG.load xik rfl (fun _ _ => rfl) (v := yI (a1)) rfl rfl ?_
          refine yG.invV (rest := []) A_hq.1 (bOb (d_Shape W) H_r5) rfl rfl rfl rfl (c_Shape_islandOfMachine W d A_hq.1 H_r5 (a1) (by omega) (by omega)) (fun rv hp9 q9 => ?_)
          obtain ⟨⟨z9, rfl, l_z9, u_z9, R_z9⟩, e9⟩ := q9
          rw [e9]
          show yG _ _ _ _ _ _ _ _ _ _ (yI z9 :: []) _
          refine yG.store1 xik (L' := [(2, yI (z9)), (0, yR k0), (1, yI (a1))]) rfl (fun _ _ => rfl) rfl rfl ?_
          refine yG.load xak rfl (fun _ _ => rfl) (v := yR k0) rfl rfl ?_
          refine yG.getO A_hq.1 (w_FlowS_gap W H_k0) rfl rfl (fun r10 H_r10 O_r10 q_r10 => ?_)
          refine yG.load xik rfl (fun _ _ => rfl) (v := yI (z9)) rfl rfl ?_
          refine yG.step (pc' := 42) (stk' := [yI (z9), yR r10, yI (z9), yR r10]) rfl (fun _ _ => rfl) ?_
          refine yG.iald A_hq.1 (v_Flow_gap W H_r10) rfl (by omega) (by omega) (fun z11 e_z11 i_z11 l_z11 u_z11 => ?_)
          refine yG.load xak rfl (fun _ _ => rfl) (v := yR k0) rfl rfl ?_
          refine yG.getS9 A_hq.1 (w_FlowS_net W H_k0) q_r1 rfl rfl ?_
          refine yG.num (c := 3) rfl (fun _ _ => rfl) (by decide) ?_
          refine yG.load xik rfl (fun _ _ => rfl) (v := yI (a1)) rfl rfl ?_
          refine yG.num (c := 1) rfl (fun _ _ => rfl) (by decide) ?_
          refine yG.invV (rest := [yI (z11), yI (z9), yR r10]) A_hq.1 (bOb (d_Net W) H_r1) rfl rfl rfl rfl (c_Net_at_3_1 W d A_hq.1 H_r1 (a1) (by omega) (by omega)) (fun rv hp9 q9 => ?_)
          obtain ⟨⟨z12, rfl, l_z12, u_z12, R_z12⟩, e9⟩ := q9
          rw [e9]
          show yG _ _ _ _ _ _ _ _ _ _ (yI z12 :: [yI (z11), yI (z9), yR r10]) _
          refine yG.isub rfl ?_
          obtain ⟨z13, e_z13, l_z13, u_z13⟩ := ywI (z11 - z12)
          rw [e_z13]
          refine yG.iast A_hq.1 (v_Flow_gap W H_r10) (W.2.1 _ _ H_r10 (by decide) (by decide)) rfl (by omega) (by omega) ⟨by omega, by omega⟩ (by omega) (by omega) (fun h14 T_h14 b_h14 f_h14 y_h14 => ?_)
          have A_h14 := A_hq.put T_h14 b_h14 f_h14 H_r10 (bAll_ok (by decide) _)
          have qq1 : zsl h14 k0 1 = yR r1 := ((f_h14 k0 1).trans (if_neg (fun e => (bRo.ne H_k0 H_r10 (by decide)) e.1))).trans q_r1
          have qq2 : zsl h14 k0 0 = yR r5 := ((f_h14 k0 0).trans (if_neg (fun e => (bRo.ne H_k0 H_r10 (by decide)) e.1))).trans q_r5
          refine yG.load xak rfl (fun _ _ => rfl) (v := yR k0) rfl rfl ?_
          refine yG.getO A_h14.1 (w_FlowS_total W H_k0) rfl rfl (fun r15 H_r15 O_r15 q_r15 => ?_)
          refine yG.load xik rfl (fun _ _ => rfl) (v := yI (z9)) rfl rfl ?_
          refine yG.step (pc' := 61) (stk' := [yI (z9), yR r15, yI (z9), yR r15]) rfl (fun _ _ => rfl) ?_
          refine yG.iald A_h14.1 (v_Flow_total W H_r15) rfl (by omega) (by omega) (fun z16 e_z16 i_z16 l_z16 u_z16 => ?_)
          refine yG.load xak rfl (fun _ _ => rfl) (v := yR k0) rfl rfl ?_
          refine yG.getS9 A_h14.1 (w_FlowS_net W H_k0) qq1 rfl rfl ?_
          refine yG.num (c := 3) rfl (fun _ _ => rfl) (by decide) ?_
          refine yG.load xik rfl (fun _ _ => rfl) (v := yI (a1)) rfl rfl ?_
          refine yG.num (c := 9) rfl (fun _ _ => rfl) (by decide) ?_
          refine yG.invV (rest := [yI (z16), yI (z9), yR r15]) A_h14.1 (bOb (d_Net W) H_r1) rfl rfl rfl rfl (c_Net_at_3_9 W d A_h14.1 H_r1 (a1) (by omega) (by omega)) (fun rv hp9 q9 => ?_)
          obtain ⟨⟨z17, rfl, l_z17, u_z17, R_z17⟩, e9⟩ := q9
          rw [e9]
          show yG _ _ _ _ _ _ _ _ _ _ (yI z17 :: [yI (z16), yI (z9), yR r15]) _
          refine yG.iadd rfl ?_
          obtain ⟨z18, e_z18, l_z18, u_z18⟩ := ywI (z16 + z17)
          rw [e_z18]
          refine yG.iast A_h14.1 (v_Flow_total W H_r15) (W.2.1 _ _ H_r15 (by decide) (by decide)) rfl (by omega) (by omega) ⟨by omega, by omega⟩ (by omega) (by omega) (fun h19 T_h19 b_h19 f_h19 y_h19 => ?_)
          have A_h19 := A_h14.put T_h19 b_h19 f_h19 H_r15 (bAll_ok (by decide) _)
          have qq3 : zsl h19 k0 1 = yR r1 := ((f_h19 k0 1).trans (if_neg (fun e => (bRo.ne H_k0 H_r15 (by decide)) e.1))).trans qq1
          have qq4 : zsl h19 k0 0 = yR r5 := ((f_h19 k0 0).trans (if_neg (fun e => (bRo.ne H_k0 H_r15 (by decide)) e.1))).trans qq2
          refine yG.iinc rfl (a := a1) rfl (L' := [(1, yI (a1 + 1)), (2, yI (z9)), (0, yR k0)]) rfl ?_
          refine yG.goto rfl (t := 2) rfl ?_
          exact yG.mono (yG.sub (i_2 (a1 + 1)  h19 A_h19   (by omega) (by omega) (by omega)) (ySub.cons rfl (ySub.cons rfl (ySub.nil)))) (by omega)
  refine yC.of (M := (xt_X2_addMachines, (3, (0, (3, []))))) rfl rfl (N := 768) (yfuel (by decide)) ?_
  show yG 89 xfts (xcall 89 xfts xpools xms (d + 1)) (xpool xp_RX2) [] xt_X2_addMachines (yP 0 (fun rv hp' => (rv = none ∧ True) ∧ bAx G [(105553116266496, 256)] hp hp')) 768 0 [(0, yR k0)] [] hp
  have i_2 := H 15
  refine yG.num (c := 0) rfl (fun _ _ => rfl) (by decide) ?_
  refine yG.store1 xik (L' := [(1, yI (0)), (0, yR k0)]) rfl (fun _ _ => rfl) rfl rfl ?_
  exact yG.mono (yG.sub (i_2 (0)  hp A_hp   (by omega) (by omega) (by omega)) (ySub.cons rfl (ySub.cons rfl (ySub.nil)))) (by omega)
theorem c_Flow_look_s {hp : xH} (W : bW G) (d : Nat) (hT : zTy G hp) {k0 : Nat} (H_k0 : bRo G 115 k0) : yC (xcall 89 xfts xpools xms (d + 4)) 107 [yR k0] hp (fun rv hp' => (rv = none ∧ True) ∧ bAx G [(2251799813685248, 9), (2251799813685248, 10), (41538374868278621030495770447446016, 11), (41538374868278621028243970633760768, 12), (41538374868278621028243970633760768, 13), (41538374868278621028243970633760768, 14), (41538374868278621028243970633760768, 15), (2211795182620246016, 256)] hp hp') := by
  have A_hp : bAx G [(2251799813685248, 9), (2251799813685248, 10), (41538374868278621030495770447446016, 11), (41538374868278621028243970633760768, 12), (41538374868278621028243970633760768, 13), (41538374868278621028243970633760768, 14), (41538374868278621028243970633760768, 15), (2211795182620246016, 256)] hp hp := bAx.rf hT
  have H : ∀ m : Nat, (∀ a1 : Int, ∀ hq, bAx G [(2251799813685248, 9), (2251799813685248, 10), (41538374868278621030495770447446016, 11), (41538374868278621028243970633760768, 12), (41538374868278621028243970633760768, 13), (41538374868278621028243970633760768, 14), (41538374868278621028243970633760768, 15), (2211795182620246016, 256)] hp hq → 0 ≤ a1 → (-16) ≤ 0 - a1 → 0 - 35 * a1 + 594 < (m : Int) → yG 89 xfts (xcall 89 xfts xpools xms (d + 3)) (xpool xp_RX2) [] xt_X2_look (yP 0 (fun rv hp' => (rv = none ∧ True) ∧ bAx G [(2251799813685248, 9), (2251799813685248, 10), (41538374868278621030495770447446016, 11), (41538374868278621028243970633760768, 12), (41538374868278621028243970633760768, 13), (41538374868278621028243970633760768, 14), (41538374868278621028243970633760768, 15), (2211795182620246016, 256)] hp hp')) (67 * m) 35 [(0, yR k0), (1, yI (a1))] [] hq) ∧ (∀ a1 : Int, ∀ hq, bAx G [(2251799813685248, 9), (2251799813685248, 10), (41538374868278621030495770447446016, 11), (41538374868278621028243970633760768, 12), (41538374868278621028243970633760768, 13), (41538374868278621028243970633760768, 14), (41538374868278621028243970633760768, 15), (2211795182620246016, 256)] hp hq → 0 ≤ a1 → (-16) ≤ 0 - a1 → 0 - 2 * a1 + 33 < (m : Int) → yG 89 xfts (xcall 89 xfts xpools xms (d + 3)) (xpool xp_RX2) [] xt_X2_look (yP 0 (fun rv hp' => (rv = none ∧ True) ∧ bAx G [(2251799813685248, 9), (2251799813685248, 10), (41538374868278621030495770447446016, 11), (41538374868278621028243970633760768, 12), (41538374868278621028243970633760768, 13), (41538374868278621028243970633760768, 14), (41538374868278621028243970633760768, 15), (2211795182620246016, 256)] hp hp')) (67 * m) 71 [(0, yR k0), (1, yI (a1))] [] hq) := by
    intro m
    induction m with
    | zero =>
      refine ⟨?_, ?_⟩ <;> (intros; exfalso; omega)
    | succ m ih =>
      obtain ⟨i_35, i_71⟩ := ih
      refine ⟨?_, ?_⟩
      · intro a1 hq A_hq f0 f1 hm
        refine yG.mono (N := 67 * m + 67) ?_ (by omega)
        refine yG.load xik rfl (fun _ _ => rfl) (v := yI (a1)) rfl rfl ?_
        refine yG.num (c := 16) rfl (fun _ _ => rfl) (by decide) ?_
        refine yG.icmp rfl (t := 61) rfl ⟨by omega, by omega⟩ ⟨by omega, by omega⟩ (fun c1 => ?_) (fun c1 => ?_)
        · have c1 : (a1 : Int) ≥ 16 := c1
          refine yG.load xak rfl (fun _ _ => rfl) (v := yR k0) rfl rfl ?_
          refine yG.invV (rest := []) A_hq.1 (bOb (d_FlowS W) H_k0) rfl rfl rfl rfl (c_Flow_addLoads_s W d A_hq.1 H_k0) (fun rv h2 q9 => ?_)
          obtain ⟨⟨rfl, R_z3⟩, B_h2⟩ := q9
          have A_h2 := A_hq.tr B_h2 (by decide)
          show yG _ _ _ _ _ _ _ _ _ _ [] _
          refine yG.load xak rfl (fun _ _ => rfl) (v := yR k0) rfl rfl ?_
          refine yG.invV (rest := []) A_h2.1 (bOb (d_FlowS W) H_k0) rfl rfl rfl rfl (c_Flow_addMachines_s W (d + 1) A_h2.1 H_k0) (fun rv h4 q9 => ?_)
          obtain ⟨⟨rfl, R_z5⟩, B_h4⟩ := q9
          have A_h4 := A_h2.tr B_h4 (by decide)
          show yG _ _ _ _ _ _ _ _ _ _ [] _
          refine yG.num (c := 0) rfl (fun _ _ => rfl) (by decide) ?_
          refine yG.store1 xik (L' := [(1, yI (0)), (0, yR k0)]) rfl (fun _ _ => rfl) rfl rfl ?_
          exact yG.mono (yG.sub (i_71 (0)  h4 A_h4   (by omega) (by omega) (by omega)) (ySub.cons rfl (ySub.cons rfl (ySub.nil)))) (by omega)
        · have c1 : (a1 : Int) < 16 := c1
          refine yG.load xak rfl (fun _ _ => rfl) (v := yR k0) rfl rfl ?_
          refine yG.getO A_hq.1 (w_FlowS_gap W H_k0) rfl rfl (fun r6 H_r6 O_r6 q_r6 => ?_)
          refine yG.load xik rfl (fun _ _ => rfl) (v := yI (a1)) rfl rfl ?_
          refine yG.num (c := 0) rfl (fun _ _ => rfl) (by decide) ?_
          refine yG.iast A_hq.1 (v_Flow_gap W H_r6) (W.2.1 _ _ H_r6 (by decide) (by decide)) rfl (by omega) (by omega) ⟨by omega, by omega⟩ (by omega) (by omega) (fun h7 T_h7 b_h7 f_h7 y_h7 => ?_)
          have A_h7 := A_hq.put T_h7 b_h7 f_h7 H_r6 (bAll_ok (by decide) _)
          refine yG.load xak rfl (fun _ _ => rfl) (v := yR k0) rfl rfl ?_
          refine yG.getO A_h7.1 (w_FlowS_total W H_k0) rfl rfl (fun r8 H_r8 O_r8 q_r8 => ?_)
          refine yG.load xik rfl (fun _ _ => rfl) (v := yI (a1)) rfl rfl ?_
          refine yG.num (c := 0) rfl (fun _ _ => rfl) (by decide) ?_
          refine yG.iast A_h7.1 (v_Flow_total W H_r8) (W.2.1 _ _ H_r8 (by decide) (by decide)) rfl (by omega) (by omega) ⟨by omega, by omega⟩ (by omega) (by omega) (fun h9 T_h9 b_h9 f_h9 y_h9 => ?_)
          have A_h9 := A_h7.put T_h9 b_h9 f_h9 H_r8 (bAll_ok (by decide) _)
          refine yG.iinc rfl (a := a1) rfl (L' := [(1, yI (a1 + 1)), (0, yR k0)]) rfl ?_
          refine yG.goto rfl (t := 35) rfl ?_
          exact yG.mono (yG.sub (i_35 (a1 + 1)  h9 A_h9   (by omega) (by omega) (by omega)) (ySub.cons rfl (ySub.cons rfl (ySub.nil)))) (by omega)
      · intro a1 hq A_hq f0 f1 hm
        refine yG.mono (N := 67 * m + 67) ?_ (by omega)
        refine yG.load xik rfl (fun _ _ => rfl) (v := yI (a1)) rfl rfl ?_
        refine yG.num (c := 16) rfl (fun _ _ => rfl) (by decide) ?_
        refine yG.icmp rfl (t := 195) rfl ⟨by omega, by omega⟩ ⟨by omega, by omega⟩ (fun c1 => ?_) (fun c1 => ?_)
        · have c1 : (a1 : Int) ≥ 16 := c1
          refine yG.ret rfl (fun _ _ => rfl) ?_
          exact (yP.void ⟨⟨rfl, trivial⟩, A_hq⟩)
        · have c1 : (a1 : Int) < 16 := c1
          refine yG.load xak rfl (fun _ _ => rfl) (v := yR k0) rfl rfl ?_
          refine yG.getO A_hq.1 (w_FlowS_stuck W H_k0) rfl rfl (fun r2 H_r2 O_r2 q_r2 => ?_)
          refine yG.load xik rfl (fun _ _ => rfl) (v := yI (a1)) rfl rfl ?_
          refine yG.load xak rfl (fun _ _ => rfl) (v := yR k0) rfl rfl ?_
          refine yG.getO A_hq.1 (w_FlowS_shape W H_k0) rfl rfl (fun r3 H_r3 O_r3 q_r3 => ?_)
          refine yG.getO A_hq.1 (w_Shape_live W H_r3) rfl rfl (fun r4 H_r4 O_r4 q_r4 => ?_)
          refine yG.load xik rfl (fun _ _ => rfl) (v := yI (a1)) rfl rfl ?_
          refine yG.bald A_hq.1 (v_Shape_live W H_r4) rfl (by omega) (by omega) (fun z5 e_z5 i_z5 l_z5 u_z5 => ?_)
          refine yG.ifz rfl (t := 116) rfl ⟨by omega, by omega⟩ (fun c6 => ?_) (fun c6 => ?_)
          · have c6 : (z5 : Int) = 0 := c6
            refine yG.num (c := 0) rfl (fun _ _ => rfl) (by decide) ?_
            refine yG.bast A_hq.1 (v_Flow_stuck W H_r2) (W.2.1 _ _ H_r2 (by decide) (by decide)) rfl (by omega) (by omega) ⟨by omega, by omega⟩ (by omega) (by omega) (fun h7 T_h7 b_h7 f_h7 y_h7 => ?_)
            have A_h7 := A_hq.put T_h7 b_h7 f_h7 H_r2 (bAll_ok (by decide) _)
            have qq1 : zsl h7 k0 6 = yR r2 := ((f_h7 k0 6).trans (if_neg (fun e => (bRo.ne H_k0 H_r2 (by decide)) e.1))).trans q_r2
            have qq2 : zsl h7 k0 0 = yR r3 := ((f_h7 k0 0).trans (if_neg (fun e => (bRo.ne H_k0 H_r2 (by decide)) e.1))).trans q_r3
            have qq3 : zsl h7 r3 4 = yR r4 := ((f_h7 r3 4).trans (if_neg (fun e => (bRo.ne H_r3 H_r2 (by decide)) e.1))).trans q_r4
            have : ys h7 r4 (a1 : Int).toNat = ys hq r4 (a1 : Int).toNat := (y_h7 r4 (a1 : Int).toNat).trans (if_neg (fun e => (bRo.ne H_r4 H_r2 (by decide)) e.1))
            have : ys h7 r2 (a1 : Int).toNat = 0 := (y_h7 r2 _).trans (if_pos ⟨rfl, rfl⟩)
            refine yG.load xak rfl (fun _ _ => rfl) (v := yR k0) rfl rfl ?_
            refine yG.getO A_h7.1 (w_FlowS_solvable W H_k0) rfl rfl (fun r8 H_r8 O_r8 q_r8 => ?_)
            refine yG.load xik rfl (fun _ _ => rfl) (v := yI (a1)) rfl rfl ?_
            refine yG.load xak rfl (fun _ _ => rfl) (v := yR k0) rfl rfl ?_
            refine yG.getS9 A_h7.1 (w_FlowS_shape W H_k0) qq2 rfl rfl ?_
            refine yG.getS9 A_h7.1 (w_Shape_live W H_r3) qq3 rfl rfl ?_
            refine yG.load xik rfl (fun _ _ => rfl) (v := yI (a1)) rfl rfl ?_
            refine yG.bald A_h7.1 (v_Shape_live W H_r4) rfl (by omega) (by omega) (fun z9 e_z9 i_z9 l_z9 u_z9 => ?_)
            refine yG.ifz rfl (t := 148) rfl ⟨by omega, by omega⟩ (fun c10 => ?_) (fun c10 => ?_)
            · have c10 : (z9 : Int) = 0 := c10
              refine yG.num (c := 0) rfl (fun _ _ => rfl) (by decide) ?_
              refine yG.bast A_h7.1 (v_Flow_solvable W H_r8) (W.2.1 _ _ H_r8 (by decide) (by decide)) rfl (by omega) (by omega) ⟨by omega, by omega⟩ (by omega) (by omega) (fun h11 T_h11 b_h11 f_h11 y_h11 => ?_)
              have A_h11 := A_h7.put T_h11 b_h11 f_h11 H_r8 (bAll_ok (by decide) _)
              have qq4 : zsl h11 k0 6 = yR r2 := ((f_h11 k0 6).trans (if_neg (fun e => (bRo.ne H_k0 H_r8 (by decide)) e.1))).trans qq1
              have qq5 : zsl h11 k0 0 = yR r3 := ((f_h11 k0 0).trans (if_neg (fun e => (bRo.ne H_k0 H_r8 (by decide)) e.1))).trans qq2
              have qq6 : zsl h11 r3 4 = yR r4 := ((f_h11 r3 4).trans (if_neg (fun e => (bRo.ne H_r3 H_r8 (by decide)) e.1))).trans qq3
              have : ys h11 r4 (a1 : Int).toNat = ys h7 r4 (a1 : Int).toNat := (y_h11 r4 (a1 : Int).toNat).trans (if_neg (fun e => (bRo.ne H_r4 H_r8 (by decide)) e.1))
              have : ys h11 r2 (a1 : Int).toNat = ys h7 r2 (a1 : Int).toNat := (y_h11 r2 (a1 : Int).toNat).trans (if_neg (fun e => (bRo.ne H_r2 H_r8 (by decide)) e.1))
              refine yG.load xak rfl (fun _ _ => rfl) (v := yR k0) rfl rfl ?_
              refine yG.getO A_h11.1 (w_FlowS_total W H_k0) rfl rfl (fun r12 H_r12 O_r12 q_r12 => ?_)
              refine yG.load xik rfl (fun _ _ => rfl) (v := yI (a1)) rfl rfl ?_
              refine yG.load xak rfl (fun _ _ => rfl) (v := yR k0) rfl rfl ?_
              refine yG.getS9 A_h11.1 (w_FlowS_total W H_k0) q_r12 rfl rfl ?_
              refine yG.load xik rfl (fun _ _ => rfl) (v := yI (a1)) rfl rfl ?_
              refine yG.iald A_h11.1 (v_Flow_total W H_r12) rfl (by omega) (by omega) (fun z13 e_z13 i_z13 l_z13 u_z13 => ?_)
              refine yG.num (c := 1) rfl (fun _ _ => rfl) (by decide) ?_
              refine yG.invS (rest := [yI (a1), yR r12]) rfl rfl rfl rfl (c_J9_maxI W (d + 2) A_h11.1 (z13) (1) (by omega) (by omega) (by omega) (by omega)) (fun rv hp9 q9 => ?_)
              obtain ⟨⟨z14, rfl, l_z14, u_z14, R_z14⟩, e9⟩ := q9
              rw [e9]
              show yG _ _ _ _ _ _ _ _ _ _ (yI z14 :: [yI (a1), yR r12]) _
              refine yG.iast A_h11.1 (v_Flow_total W H_r12) (W.2.1 _ _ H_r12 (by decide) (by decide)) rfl (by omega) (by omega) ⟨by omega, by omega⟩ (by omega) (by omega) (fun h15 T_h15 b_h15 f_h15 y_h15 => ?_)
              have A_h15 := A_h11.put T_h15 b_h15 f_h15 H_r12 (bAll_ok (by decide) _)
              have qq7 : zsl h15 k0 6 = yR r2 := ((f_h15 k0 6).trans (if_neg (fun e => (bRo.ne H_k0 H_r12 (by decide)) e.1))).trans qq4
              have qq8 : zsl h15 k0 0 = yR r3 := ((f_h15 k0 0).trans (if_neg (fun e => (bRo.ne H_k0 H_r12 (by decide)) e.1))).trans qq5
              have qq9 : zsl h15 r3 4 = yR r4 := ((f_h15 r3 4).trans (if_neg (fun e => (bRo.ne H_r3 H_r12 (by decide)) e.1))).trans qq6
              have : ys h15 r4 (a1 : Int).toNat = ys h11 r4 (a1 : Int).toNat := (y_h15 r4 (a1 : Int).toNat).trans (if_neg (fun e => (bRo.ne H_r4 H_r12 (by decide)) e.1))
              have : ys h15 r2 (a1 : Int).toNat = ys h11 r2 (a1 : Int).toNat := (y_h15 r2 (a1 : Int).toNat).trans (if_neg (fun e => (bRo.ne H_r2 H_r12 (by decide)) e.1))
              have qq10 : zsl h15 k0 4 = yR r12 := ((f_h15 k0 4).trans (if_neg (fun e => (bRo.ne H_k0 H_r12 (by decide)) e.1))).trans q_r12
              refine yG.load xak rfl (fun _ _ => rfl) (v := yR k0) rfl rfl ?_
              refine yG.step (pc' := 168) (stk' := [yR k0, yR k0]) rfl (fun _ _ => rfl) ?_
              refine yG.getI A_h15.1 (w_FlowS_stuckCount W H_k0) rfl rfl (fun z16 e_z16 i_z16 l_z16 u_z16 => ?_)
              refine yG.load xak rfl (fun _ _ => rfl) (v := yR k0) rfl rfl ?_
              refine yG.getS9 A_h15.1 (w_FlowS_stuck W H_k0) qq7 rfl rfl ?_
              refine yG.load xik rfl (fun _ _ => rfl) (v := yI (a1)) rfl rfl ?_
              refine yG.bald A_h15.1 (v_Flow_stuck W H_r2) rfl (by omega) (by omega) (fun z17 e_z17 i_z17 l_z17 u_z17 => ?_)
              refine yG.ifz rfl (t := 184) rfl ⟨by omega, by omega⟩ (fun c18 => ?_) (fun c18 => ?_)
              · have c18 : (z17 : Int) = 0 := c18
                refine yG.num (c := 0) rfl (fun _ _ => rfl) (by decide) ?_
                refine yG.iadd rfl ?_
                refine yG.putI A_h15.1 (w_FlowS_stuckCount W H_k0) (W.2.1 _ _ H_k0 (by decide) (by decide)) rfl rfl (.inl rfl) ⟨by omega, by omega⟩ (by omega) (by omega) (fun h19 T_h19 b_h19 f_h19 y_h19 => ?_)
                have A_h19 := A_h15.put T_h19 b_h19 f_h19 H_k0 (by decide)
                have qq11 : zsl h19 k0 6 = yR r2 := ((f_h19 k0 6).trans (if_neg (fun e => absurd e.2 (by decide)))).trans qq7
                have qq12 : zsl h19 k0 0 = yR r3 := ((f_h19 k0 0).trans (if_neg (fun e => absurd e.2 (by decide)))).trans qq8
                have qq13 : zsl h19 r3 4 = yR r4 := ((f_h19 r3 4).trans (if_neg (fun e => (bRo.ne H_r3 H_k0 (by decide)) e.1))).trans qq9
                have : ys h19 r4 (a1 : Int).toNat = ys h15 r4 (a1 : Int).toNat := (y_h19 r4 (a1 : Int).toNat).trans (if_neg (fun e => (bRo.ne H_r4 H_k0 (by decide)) e.1))
                have : ys h19 r2 (a1 : Int).toNat = ys h15 r2 (a1 : Int).toNat := (y_h19 r2 (a1 : Int).toNat).trans (if_neg (fun e => (bRo.ne H_r2 H_k0 (by decide)) e.1))
                have qq14 : zsl h19 k0 4 = yR r12 := ((f_h19 k0 4).trans (if_neg (fun e => absurd e.2 (by decide)))).trans qq10
                refine yG.iinc rfl (a := a1) rfl (L' := [(1, yI (a1 + 1)), (0, yR k0)]) rfl ?_
                refine yG.goto rfl (t := 71) rfl ?_
                exact yG.mono (yG.sub (i_71 (a1 + 1)  h19 A_h19   (by omega) (by omega) (by omega)) (ySub.cons rfl (ySub.cons rfl (ySub.nil)))) (by omega)
              · have c18 : (z17 : Int) ≠ 0 := c18
                exfalso; omega
            · have c10 : (z9 : Int) ≠ 0 := c10
              exfalso; omega
          · have c6 : (z5 : Int) ≠ 0 := c6
            refine yG.load xak rfl (fun _ _ => rfl) (v := yR k0) rfl rfl ?_
            refine yG.getO A_hq.1 (w_FlowS_total W H_k0) rfl rfl (fun r20 H_r20 O_r20 q_r20 => ?_)
            refine yG.load xik rfl (fun _ _ => rfl) (v := yI (a1)) rfl rfl ?_
            refine yG.iald A_hq.1 (v_Flow_total W H_r20) rfl (by omega) (by omega) (fun z21 e_z21 i_z21 l_z21 u_z21 => ?_)
            refine yG.ifz rfl (t := 116) rfl ⟨by omega, by omega⟩ (fun c22 => ?_) (fun c22 => ?_)
            · have c22 : (z21 : Int) ≠ 0 := c22
              refine yG.num (c := 0) rfl (fun _ _ => rfl) (by decide) ?_
              refine yG.bast A_hq.1 (v_Flow_stuck W H_r2) (W.2.1 _ _ H_r2 (by decide) (by decide)) rfl (by omega) (by omega) ⟨by omega, by omega⟩ (by omega) (by omega) (fun h23 T_h23 b_h23 f_h23 y_h23 => ?_)
              have A_h23 := A_hq.put T_h23 b_h23 f_h23 H_r2 (bAll_ok (by decide) _)
              have qq15 : zsl h23 k0 6 = yR r2 := ((f_h23 k0 6).trans (if_neg (fun e => (bRo.ne H_k0 H_r2 (by decide)) e.1))).trans q_r2
              have qq16 : zsl h23 k0 0 = yR r3 := ((f_h23 k0 0).trans (if_neg (fun e => (bRo.ne H_k0 H_r2 (by decide)) e.1))).trans q_r3
              have qq17 : zsl h23 r3 4 = yR r4 := ((f_h23 r3 4).trans (if_neg (fun e => (bRo.ne H_r3 H_r2 (by decide)) e.1))).trans q_r4
              have : ys h23 r4 (a1 : Int).toNat = ys hq r4 (a1 : Int).toNat := (y_h23 r4 (a1 : Int).toNat).trans (if_neg (fun e => (bRo.ne H_r4 H_r2 (by decide)) e.1))
              have qq18 : zsl h23 k0 4 = yR r20 := ((f_h23 k0 4).trans (if_neg (fun e => (bRo.ne H_k0 H_r2 (by decide)) e.1))).trans q_r20
              have : ys h23 r20 (a1 : Int).toNat = ys hq r20 (a1 : Int).toNat := (y_h23 r20 (a1 : Int).toNat).trans (if_neg (fun e => (bRo.ne H_r20 H_r2 (by decide)) e.1))
              have : ys h23 r2 (a1 : Int).toNat = 0 := (y_h23 r2 _).trans (if_pos ⟨rfl, rfl⟩)
              refine yG.load xak rfl (fun _ _ => rfl) (v := yR k0) rfl rfl ?_
              refine yG.getO A_h23.1 (w_FlowS_solvable W H_k0) rfl rfl (fun r24 H_r24 O_r24 q_r24 => ?_)
              refine yG.load xik rfl (fun _ _ => rfl) (v := yI (a1)) rfl rfl ?_
              refine yG.load xak rfl (fun _ _ => rfl) (v := yR k0) rfl rfl ?_
              refine yG.getS9 A_h23.1 (w_FlowS_shape W H_k0) qq16 rfl rfl ?_
              refine yG.getS9 A_h23.1 (w_Shape_live W H_r3) qq17 rfl rfl ?_
              refine yG.load xik rfl (fun _ _ => rfl) (v := yI (a1)) rfl rfl ?_
              refine yG.bald A_h23.1 (v_Shape_live W H_r4) rfl (by omega) (by omega) (fun z25 e_z25 i_z25 l_z25 u_z25 => ?_)
              refine yG.ifz rfl (t := 148) rfl ⟨by omega, by omega⟩ (fun c26 => ?_) (fun c26 => ?_)
              · have c26 : (z25 : Int) = 0 := c26
                exfalso; omega
              · have c26 : (z25 : Int) ≠ 0 := c26
                refine yG.load xak rfl (fun _ _ => rfl) (v := yR k0) rfl rfl ?_
                refine yG.getS9 A_h23.1 (w_FlowS_stuck W H_k0) qq15 rfl rfl ?_
                refine yG.load xik rfl (fun _ _ => rfl) (v := yI (a1)) rfl rfl ?_
                refine yG.bald A_h23.1 (v_Flow_stuck W H_r2) rfl (by omega) (by omega) (fun z27 e_z27 i_z27 l_z27 u_z27 => ?_)
                refine yG.ifz rfl (t := 148) rfl ⟨by omega, by omega⟩ (fun c28 => ?_) (fun c28 => ?_)
                · have c28 : (z27 : Int) ≠ 0 := c28
                  exfalso; omega
                · have c28 : (z27 : Int) = 0 := c28
                  refine yG.num (c := 1) rfl (fun _ _ => rfl) (by decide) ?_
                  refine yG.goto rfl (t := 149) rfl ?_
                  refine yG.bast A_h23.1 (v_Flow_solvable W H_r24) (W.2.1 _ _ H_r24 (by decide) (by decide)) rfl (by omega) (by omega) ⟨by omega, by omega⟩ (by omega) (by omega) (fun h29 T_h29 b_h29 f_h29 y_h29 => ?_)
                  have A_h29 := A_h23.put T_h29 b_h29 f_h29 H_r24 (bAll_ok (by decide) _)
                  have qq19 : zsl h29 k0 6 = yR r2 := ((f_h29 k0 6).trans (if_neg (fun e => (bRo.ne H_k0 H_r24 (by decide)) e.1))).trans qq15
                  have qq20 : zsl h29 k0 0 = yR r3 := ((f_h29 k0 0).trans (if_neg (fun e => (bRo.ne H_k0 H_r24 (by decide)) e.1))).trans qq16
                  have qq21 : zsl h29 r3 4 = yR r4 := ((f_h29 r3 4).trans (if_neg (fun e => (bRo.ne H_r3 H_r24 (by decide)) e.1))).trans qq17
                  have : ys h29 r4 (a1 : Int).toNat = ys h23 r4 (a1 : Int).toNat := (y_h29 r4 (a1 : Int).toNat).trans (if_neg (fun e => (bRo.ne H_r4 H_r24 (by decide)) e.1))
                  have qq22 : zsl h29 k0 4 = yR r20 := ((f_h29 k0 4).trans (if_neg (fun e => (bRo.ne H_k0 H_r24 (by decide)) e.1))).trans qq18
                  have : ys h29 r20 (a1 : Int).toNat = ys h23 r20 (a1 : Int).toNat := (y_h29 r20 (a1 : Int).toNat).trans (if_neg (fun e => (bRo.ne H_r20 H_r24 (by decide)) e.1))
                  have : ys h29 r2 (a1 : Int).toNat = ys h23 r2 (a1 : Int).toNat := (y_h29 r2 (a1 : Int).toNat).trans (if_neg (fun e => (bRo.ne H_r2 H_r24 (by decide)) e.1))
                  refine yG.load xak rfl (fun _ _ => rfl) (v := yR k0) rfl rfl ?_
                  refine yG.getS9 A_h29.1 (w_FlowS_total W H_k0) qq22 rfl rfl ?_
                  refine yG.load xik rfl (fun _ _ => rfl) (v := yI (a1)) rfl rfl ?_
                  refine yG.load xak rfl (fun _ _ => rfl) (v := yR k0) rfl rfl ?_
                  refine yG.getS9 A_h29.1 (w_FlowS_total W H_k0) qq22 rfl rfl ?_
                  refine yG.load xik rfl (fun _ _ => rfl) (v := yI (a1)) rfl rfl ?_
                  refine yG.iald A_h29.1 (v_Flow_total W H_r20) rfl (by omega) (by omega) (fun z30 e_z30 i_z30 l_z30 u_z30 => ?_)
                  refine yG.num (c := 1) rfl (fun _ _ => rfl) (by decide) ?_
                  refine yG.invS (rest := [yI (a1), yR r20]) rfl rfl rfl rfl (c_J9_maxI W (d + 2) A_h29.1 (z30) (1) (by omega) (by omega) (by omega) (by omega)) (fun rv hp9 q9 => ?_)
                  obtain ⟨⟨z31, rfl, l_z31, u_z31, R_z31⟩, e9⟩ := q9
                  rw [e9]
                  show yG _ _ _ _ _ _ _ _ _ _ (yI z31 :: [yI (a1), yR r20]) _
                  refine yG.iast A_h29.1 (v_Flow_total W H_r20) (W.2.1 _ _ H_r20 (by decide) (by decide)) rfl (by omega) (by omega) ⟨by omega, by omega⟩ (by omega) (by omega) (fun h32 T_h32 b_h32 f_h32 y_h32 => ?_)
                  have A_h32 := A_h29.put T_h32 b_h32 f_h32 H_r20 (bAll_ok (by decide) _)
                  have qq23 : zsl h32 k0 6 = yR r2 := ((f_h32 k0 6).trans (if_neg (fun e => (bRo.ne H_k0 H_r20 (by decide)) e.1))).trans qq19
                  have qq24 : zsl h32 k0 0 = yR r3 := ((f_h32 k0 0).trans (if_neg (fun e => (bRo.ne H_k0 H_r20 (by decide)) e.1))).trans qq20
                  have qq25 : zsl h32 r3 4 = yR r4 := ((f_h32 r3 4).trans (if_neg (fun e => (bRo.ne H_r3 H_r20 (by decide)) e.1))).trans qq21
                  have : ys h32 r4 (a1 : Int).toNat = ys h29 r4 (a1 : Int).toNat := (y_h32 r4 (a1 : Int).toNat).trans (if_neg (fun e => (bRo.ne H_r4 H_r20 (by decide)) e.1))
                  have qq26 : zsl h32 k0 4 = yR r20 := ((f_h32 k0 4).trans (if_neg (fun e => (bRo.ne H_k0 H_r20 (by decide)) e.1))).trans qq22
                  have : ys h32 r2 (a1 : Int).toNat = ys h29 r2 (a1 : Int).toNat := (y_h32 r2 (a1 : Int).toNat).trans (if_neg (fun e => (bRo.ne H_r2 H_r20 (by decide)) e.1))
                  have : ys h32 r20 (a1 : Int).toNat = z31 := (y_h32 r20 _).trans (if_pos ⟨rfl, rfl⟩)
                  refine yG.load xak rfl (fun _ _ => rfl) (v := yR k0) rfl rfl ?_
                  refine yG.step (pc' := 168) (stk' := [yR k0, yR k0]) rfl (fun _ _ => rfl) ?_
                  refine yG.getI A_h32.1 (w_FlowS_stuckCount W H_k0) rfl rfl (fun z33 e_z33 i_z33 l_z33 u_z33 => ?_)
                  refine yG.load xak rfl (fun _ _ => rfl) (v := yR k0) rfl rfl ?_
                  refine yG.getS9 A_h32.1 (w_FlowS_stuck W H_k0) qq23 rfl rfl ?_
                  refine yG.load xik rfl (fun _ _ => rfl) (v := yI (a1)) rfl rfl ?_
                  refine yG.bald A_h32.1 (v_Flow_stuck W H_r2) rfl (by omega) (by omega) (fun z34 e_z34 i_z34 l_z34 u_z34 => ?_)
                  refine yG.ifz rfl (t := 184) rfl ⟨by omega, by omega⟩ (fun c35 => ?_) (fun c35 => ?_)
                  · have c35 : (z34 : Int) = 0 := c35
                    refine yG.num (c := 0) rfl (fun _ _ => rfl) (by decide) ?_
                    refine yG.iadd rfl ?_
                    refine yG.putI A_h32.1 (w_FlowS_stuckCount W H_k0) (W.2.1 _ _ H_k0 (by decide) (by decide)) rfl rfl (.inl rfl) ⟨by omega, by omega⟩ (by omega) (by omega) (fun h36 T_h36 b_h36 f_h36 y_h36 => ?_)
                    have A_h36 := A_h32.put T_h36 b_h36 f_h36 H_k0 (by decide)
                    have qq27 : zsl h36 k0 6 = yR r2 := ((f_h36 k0 6).trans (if_neg (fun e => absurd e.2 (by decide)))).trans qq23
                    have qq28 : zsl h36 k0 0 = yR r3 := ((f_h36 k0 0).trans (if_neg (fun e => absurd e.2 (by decide)))).trans qq24
                    have qq29 : zsl h36 r3 4 = yR r4 := ((f_h36 r3 4).trans (if_neg (fun e => (bRo.ne H_r3 H_k0 (by decide)) e.1))).trans qq25
                    have : ys h36 r4 (a1 : Int).toNat = ys h32 r4 (a1 : Int).toNat := (y_h36 r4 (a1 : Int).toNat).trans (if_neg (fun e => (bRo.ne H_r4 H_k0 (by decide)) e.1))
                    have qq30 : zsl h36 k0 4 = yR r20 := ((f_h36 k0 4).trans (if_neg (fun e => absurd e.2 (by decide)))).trans qq26
                    have : ys h36 r2 (a1 : Int).toNat = ys h32 r2 (a1 : Int).toNat := (y_h36 r2 (a1 : Int).toNat).trans (if_neg (fun e => (bRo.ne H_r2 H_k0 (by decide)) e.1))
                    have : ys h36 r20 (a1 : Int).toNat = ys h32 r20 (a1 : Int).toNat := (y_h36 r20 (a1 : Int).toNat).trans (if_neg (fun e => (bRo.ne H_r20 H_k0 (by decide)) e.1))
                    refine yG.iinc rfl (a := a1) rfl (L' := [(1, yI (a1 + 1)), (0, yR k0)]) rfl ?_
                    refine yG.goto rfl (t := 71) rfl ?_
                    exact yG.mono (yG.sub (i_71 (a1 + 1)  h36 A_h36   (by omega) (by omega) (by omega)) (ySub.cons rfl (ySub.cons rfl (ySub.nil)))) (by omega)
                  · have c35 : (z34 : Int) ≠ 0 := c35
                    exfalso; omega
            · have c22 : (z21 : Int) = 0 := c22
              refine yG.load xak rfl (fun _ _ => rfl) (v := yR k0) rfl rfl ?_
              refine yG.getO A_hq.1 (w_FlowS_gap W H_k0) rfl rfl (fun r37 H_r37 O_r37 q_r37 => ?_)
              refine yG.load xik rfl (fun _ _ => rfl) (v := yI (a1)) rfl rfl ?_
              refine yG.iald A_hq.1 (v_Flow_gap W H_r37) rfl (by omega) (by omega) (fun z38 e_z38 i_z38 l_z38 u_z38 => ?_)
              refine yG.ifz rfl (t := 116) rfl ⟨by omega, by omega⟩ (fun c39 => ?_) (fun c39 => ?_)
              · have c39 : (z38 : Int) = 0 := c39
                refine yG.num (c := 0) rfl (fun _ _ => rfl) (by decide) ?_
                refine yG.bast A_hq.1 (v_Flow_stuck W H_r2) (W.2.1 _ _ H_r2 (by decide) (by decide)) rfl (by omega) (by omega) ⟨by omega, by omega⟩ (by omega) (by omega) (fun h40 T_h40 b_h40 f_h40 y_h40 => ?_)
                have A_h40 := A_hq.put T_h40 b_h40 f_h40 H_r2 (bAll_ok (by decide) _)
                have qq31 : zsl h40 k0 6 = yR r2 := ((f_h40 k0 6).trans (if_neg (fun e => (bRo.ne H_k0 H_r2 (by decide)) e.1))).trans q_r2
                have qq32 : zsl h40 k0 0 = yR r3 := ((f_h40 k0 0).trans (if_neg (fun e => (bRo.ne H_k0 H_r2 (by decide)) e.1))).trans q_r3
                have qq33 : zsl h40 r3 4 = yR r4 := ((f_h40 r3 4).trans (if_neg (fun e => (bRo.ne H_r3 H_r2 (by decide)) e.1))).trans q_r4
                have : ys h40 r4 (a1 : Int).toNat = ys hq r4 (a1 : Int).toNat := (y_h40 r4 (a1 : Int).toNat).trans (if_neg (fun e => (bRo.ne H_r4 H_r2 (by decide)) e.1))
                have qq34 : zsl h40 k0 4 = yR r20 := ((f_h40 k0 4).trans (if_neg (fun e => (bRo.ne H_k0 H_r2 (by decide)) e.1))).trans q_r20
                have : ys h40 r20 (a1 : Int).toNat = ys hq r20 (a1 : Int).toNat := (y_h40 r20 (a1 : Int).toNat).trans (if_neg (fun e => (bRo.ne H_r20 H_r2 (by decide)) e.1))
                have : ys h40 r2 (a1 : Int).toNat = 0 := (y_h40 r2 _).trans (if_pos ⟨rfl, rfl⟩)
                refine yG.load xak rfl (fun _ _ => rfl) (v := yR k0) rfl rfl ?_
                refine yG.getO A_h40.1 (w_FlowS_solvable W H_k0) rfl rfl (fun r41 H_r41 O_r41 q_r41 => ?_)
                refine yG.load xik rfl (fun _ _ => rfl) (v := yI (a1)) rfl rfl ?_
                refine yG.load xak rfl (fun _ _ => rfl) (v := yR k0) rfl rfl ?_
                refine yG.getS9 A_h40.1 (w_FlowS_shape W H_k0) qq32 rfl rfl ?_
                refine yG.getS9 A_h40.1 (w_Shape_live W H_r3) qq33 rfl rfl ?_
                refine yG.load xik rfl (fun _ _ => rfl) (v := yI (a1)) rfl rfl ?_
                refine yG.bald A_h40.1 (v_Shape_live W H_r4) rfl (by omega) (by omega) (fun z42 e_z42 i_z42 l_z42 u_z42 => ?_)
                refine yG.ifz rfl (t := 148) rfl ⟨by omega, by omega⟩ (fun c43 => ?_) (fun c43 => ?_)
                · have c43 : (z42 : Int) = 0 := c43
                  exfalso; omega
                · have c43 : (z42 : Int) ≠ 0 := c43
                  refine yG.load xak rfl (fun _ _ => rfl) (v := yR k0) rfl rfl ?_
                  refine yG.getS9 A_h40.1 (w_FlowS_stuck W H_k0) qq31 rfl rfl ?_
                  refine yG.load xik rfl (fun _ _ => rfl) (v := yI (a1)) rfl rfl ?_
                  refine yG.bald A_h40.1 (v_Flow_stuck W H_r2) rfl (by omega) (by omega) (fun z44 e_z44 i_z44 l_z44 u_z44 => ?_)
                  refine yG.ifz rfl (t := 148) rfl ⟨by omega, by omega⟩ (fun c45 => ?_) (fun c45 => ?_)
                  · have c45 : (z44 : Int) ≠ 0 := c45
                    exfalso; omega
                  · have c45 : (z44 : Int) = 0 := c45
                    refine yG.num (c := 1) rfl (fun _ _ => rfl) (by decide) ?_
                    refine yG.goto rfl (t := 149) rfl ?_
                    refine yG.bast A_h40.1 (v_Flow_solvable W H_r41) (W.2.1 _ _ H_r41 (by decide) (by decide)) rfl (by omega) (by omega) ⟨by omega, by omega⟩ (by omega) (by omega) (fun h46 T_h46 b_h46 f_h46 y_h46 => ?_)
                    have A_h46 := A_h40.put T_h46 b_h46 f_h46 H_r41 (bAll_ok (by decide) _)
                    have qq35 : zsl h46 k0 6 = yR r2 := ((f_h46 k0 6).trans (if_neg (fun e => (bRo.ne H_k0 H_r41 (by decide)) e.1))).trans qq31
                    have qq36 : zsl h46 k0 0 = yR r3 := ((f_h46 k0 0).trans (if_neg (fun e => (bRo.ne H_k0 H_r41 (by decide)) e.1))).trans qq32
                    have qq37 : zsl h46 r3 4 = yR r4 := ((f_h46 r3 4).trans (if_neg (fun e => (bRo.ne H_r3 H_r41 (by decide)) e.1))).trans qq33
                    have : ys h46 r4 (a1 : Int).toNat = ys h40 r4 (a1 : Int).toNat := (y_h46 r4 (a1 : Int).toNat).trans (if_neg (fun e => (bRo.ne H_r4 H_r41 (by decide)) e.1))
                    have qq38 : zsl h46 k0 4 = yR r20 := ((f_h46 k0 4).trans (if_neg (fun e => (bRo.ne H_k0 H_r41 (by decide)) e.1))).trans qq34
                    have : ys h46 r20 (a1 : Int).toNat = ys h40 r20 (a1 : Int).toNat := (y_h46 r20 (a1 : Int).toNat).trans (if_neg (fun e => (bRo.ne H_r20 H_r41 (by decide)) e.1))
                    have : ys h46 r2 (a1 : Int).toNat = ys h40 r2 (a1 : Int).toNat := (y_h46 r2 (a1 : Int).toNat).trans (if_neg (fun e => (bRo.ne H_r2 H_r41 (by decide)) e.1))
                    refine yG.load xak rfl (fun _ _ => rfl) (v := yR k0) rfl rfl ?_
                    refine yG.getS9 A_h46.1 (w_FlowS_total W H_k0) qq38 rfl rfl ?_
                    refine yG.load xik rfl (fun _ _ => rfl) (v := yI (a1)) rfl rfl ?_
                    refine yG.load xak rfl (fun _ _ => rfl) (v := yR k0) rfl rfl ?_
                    refine yG.getS9 A_h46.1 (w_FlowS_total W H_k0) qq38 rfl rfl ?_
                    refine yG.load xik rfl (fun _ _ => rfl) (v := yI (a1)) rfl rfl ?_
                    refine yG.iald A_h46.1 (v_Flow_total W H_r20) rfl (by omega) (by omega) (fun z47 e_z47 i_z47 l_z47 u_z47 => ?_)
                    refine yG.num (c := 1) rfl (fun _ _ => rfl) (by decide) ?_
                    refine yG.invS (rest := [yI (a1), yR r20]) rfl rfl rfl rfl (c_J9_maxI W (d + 2) A_h46.1 (z47) (1) (by omega) (by omega) (by omega) (by omega)) (fun rv hp9 q9 => ?_)
                    obtain ⟨⟨z48, rfl, l_z48, u_z48, R_z48⟩, e9⟩ := q9
                    rw [e9]
                    show yG _ _ _ _ _ _ _ _ _ _ (yI z48 :: [yI (a1), yR r20]) _
                    refine yG.iast A_h46.1 (v_Flow_total W H_r20) (W.2.1 _ _ H_r20 (by decide) (by decide)) rfl (by omega) (by omega) ⟨by omega, by omega⟩ (by omega) (by omega) (fun h49 T_h49 b_h49 f_h49 y_h49 => ?_)
                    have A_h49 := A_h46.put T_h49 b_h49 f_h49 H_r20 (bAll_ok (by decide) _)
                    have qq39 : zsl h49 k0 6 = yR r2 := ((f_h49 k0 6).trans (if_neg (fun e => (bRo.ne H_k0 H_r20 (by decide)) e.1))).trans qq35
                    have qq40 : zsl h49 k0 0 = yR r3 := ((f_h49 k0 0).trans (if_neg (fun e => (bRo.ne H_k0 H_r20 (by decide)) e.1))).trans qq36
                    have qq41 : zsl h49 r3 4 = yR r4 := ((f_h49 r3 4).trans (if_neg (fun e => (bRo.ne H_r3 H_r20 (by decide)) e.1))).trans qq37
                    have : ys h49 r4 (a1 : Int).toNat = ys h46 r4 (a1 : Int).toNat := (y_h49 r4 (a1 : Int).toNat).trans (if_neg (fun e => (bRo.ne H_r4 H_r20 (by decide)) e.1))
                    have qq42 : zsl h49 k0 4 = yR r20 := ((f_h49 k0 4).trans (if_neg (fun e => (bRo.ne H_k0 H_r20 (by decide)) e.1))).trans qq38
                    have : ys h49 r2 (a1 : Int).toNat = ys h46 r2 (a1 : Int).toNat := (y_h49 r2 (a1 : Int).toNat).trans (if_neg (fun e => (bRo.ne H_r2 H_r20 (by decide)) e.1))
                    have : ys h49 r20 (a1 : Int).toNat = z48 := (y_h49 r20 _).trans (if_pos ⟨rfl, rfl⟩)
                    refine yG.load xak rfl (fun _ _ => rfl) (v := yR k0) rfl rfl ?_
                    refine yG.step (pc' := 168) (stk' := [yR k0, yR k0]) rfl (fun _ _ => rfl) ?_
                    refine yG.getI A_h49.1 (w_FlowS_stuckCount W H_k0) rfl rfl (fun z50 e_z50 i_z50 l_z50 u_z50 => ?_)
                    refine yG.load xak rfl (fun _ _ => rfl) (v := yR k0) rfl rfl ?_
                    refine yG.getS9 A_h49.1 (w_FlowS_stuck W H_k0) qq39 rfl rfl ?_
                    refine yG.load xik rfl (fun _ _ => rfl) (v := yI (a1)) rfl rfl ?_
                    refine yG.bald A_h49.1 (v_Flow_stuck W H_r2) rfl (by omega) (by omega) (fun z51 e_z51 i_z51 l_z51 u_z51 => ?_)
                    refine yG.ifz rfl (t := 184) rfl ⟨by omega, by omega⟩ (fun c52 => ?_) (fun c52 => ?_)
                    · have c52 : (z51 : Int) = 0 := c52
                      refine yG.num (c := 0) rfl (fun _ _ => rfl) (by decide) ?_
                      refine yG.iadd rfl ?_
                      refine yG.putI A_h49.1 (w_FlowS_stuckCount W H_k0) (W.2.1 _ _ H_k0 (by decide) (by decide)) rfl rfl (.inl rfl) ⟨by omega, by omega⟩ (by omega) (by omega) (fun h53 T_h53 b_h53 f_h53 y_h53 => ?_)
                      have A_h53 := A_h49.put T_h53 b_h53 f_h53 H_k0 (by decide)
                      have qq43 : zsl h53 k0 6 = yR r2 := ((f_h53 k0 6).trans (if_neg (fun e => absurd e.2 (by decide)))).trans qq39
                      have qq44 : zsl h53 k0 0 = yR r3 := ((f_h53 k0 0).trans (if_neg (fun e => absurd e.2 (by decide)))).trans qq40
                      have qq45 : zsl h53 r3 4 = yR r4 := ((f_h53 r3 4).trans (if_neg (fun e => (bRo.ne H_r3 H_k0 (by decide)) e.1))).trans qq41
                      have : ys h53 r4 (a1 : Int).toNat = ys h49 r4 (a1 : Int).toNat := (y_h53 r4 (a1 : Int).toNat).trans (if_neg (fun e => (bRo.ne H_r4 H_k0 (by decide)) e.1))
                      have qq46 : zsl h53 k0 4 = yR r20 := ((f_h53 k0 4).trans (if_neg (fun e => absurd e.2 (by decide)))).trans qq42
                      have : ys h53 r2 (a1 : Int).toNat = ys h49 r2 (a1 : Int).toNat := (y_h53 r2 (a1 : Int).toNat).trans (if_neg (fun e => (bRo.ne H_r2 H_k0 (by decide)) e.1))
                      have : ys h53 r20 (a1 : Int).toNat = ys h49 r20 (a1 : Int).toNat := (y_h53 r20 (a1 : Int).toNat).trans (if_neg (fun e => (bRo.ne H_r20 H_k0 (by decide)) e.1))
                      refine yG.iinc rfl (a := a1) rfl (L' := [(1, yI (a1 + 1)), (0, yR k0)]) rfl ?_
                      refine yG.goto rfl (t := 71) rfl ?_
                      exact yG.mono (yG.sub (i_71 (a1 + 1)  h53 A_h53   (by omega) (by omega) (by omega)) (ySub.cons rfl (ySub.cons rfl (ySub.nil)))) (by omega)
                    · have c52 : (z51 : Int) ≠ 0 := c52
                      exfalso; omega
              · have c39 : (z38 : Int) ≠ 0 := c39
                refine yG.num (c := 1) rfl (fun _ _ => rfl) (by decide) ?_
                refine yG.goto rfl (t := 117) rfl ?_
                refine yG.bast A_hq.1 (v_Flow_stuck W H_r2) (W.2.1 _ _ H_r2 (by decide) (by decide)) rfl (by omega) (by omega) ⟨by omega, by omega⟩ (by omega) (by omega) (fun h54 T_h54 b_h54 f_h54 y_h54 => ?_)
                have A_h54 := A_hq.put T_h54 b_h54 f_h54 H_r2 (bAll_ok (by decide) _)
                have qq47 : zsl h54 k0 6 = yR r2 := ((f_h54 k0 6).trans (if_neg (fun e => (bRo.ne H_k0 H_r2 (by decide)) e.1))).trans q_r2
                have qq48 : zsl h54 k0 0 = yR r3 := ((f_h54 k0 0).trans (if_neg (fun e => (bRo.ne H_k0 H_r2 (by decide)) e.1))).trans q_r3
                have qq49 : zsl h54 r3 4 = yR r4 := ((f_h54 r3 4).trans (if_neg (fun e => (bRo.ne H_r3 H_r2 (by decide)) e.1))).trans q_r4
                have : ys h54 r4 (a1 : Int).toNat = ys hq r4 (a1 : Int).toNat := (y_h54 r4 (a1 : Int).toNat).trans (if_neg (fun e => (bRo.ne H_r4 H_r2 (by decide)) e.1))
                have qq50 : zsl h54 k0 4 = yR r20 := ((f_h54 k0 4).trans (if_neg (fun e => (bRo.ne H_k0 H_r2 (by decide)) e.1))).trans q_r20
                have : ys h54 r20 (a1 : Int).toNat = ys hq r20 (a1 : Int).toNat := (y_h54 r20 (a1 : Int).toNat).trans (if_neg (fun e => (bRo.ne H_r20 H_r2 (by decide)) e.1))
                have : ys h54 r2 (a1 : Int).toNat = 1 := (y_h54 r2 _).trans (if_pos ⟨rfl, rfl⟩)
                refine yG.load xak rfl (fun _ _ => rfl) (v := yR k0) rfl rfl ?_
                refine yG.getO A_h54.1 (w_FlowS_solvable W H_k0) rfl rfl (fun r55 H_r55 O_r55 q_r55 => ?_)
                refine yG.load xik rfl (fun _ _ => rfl) (v := yI (a1)) rfl rfl ?_
                refine yG.load xak rfl (fun _ _ => rfl) (v := yR k0) rfl rfl ?_
                refine yG.getS9 A_h54.1 (w_FlowS_shape W H_k0) qq48 rfl rfl ?_
                refine yG.getS9 A_h54.1 (w_Shape_live W H_r3) qq49 rfl rfl ?_
                refine yG.load xik rfl (fun _ _ => rfl) (v := yI (a1)) rfl rfl ?_
                refine yG.bald A_h54.1 (v_Shape_live W H_r4) rfl (by omega) (by omega) (fun z56 e_z56 i_z56 l_z56 u_z56 => ?_)
                refine yG.ifz rfl (t := 148) rfl ⟨by omega, by omega⟩ (fun c57 => ?_) (fun c57 => ?_)
                · have c57 : (z56 : Int) = 0 := c57
                  exfalso; omega
                · have c57 : (z56 : Int) ≠ 0 := c57
                  refine yG.load xak rfl (fun _ _ => rfl) (v := yR k0) rfl rfl ?_
                  refine yG.getS9 A_h54.1 (w_FlowS_stuck W H_k0) qq47 rfl rfl ?_
                  refine yG.load xik rfl (fun _ _ => rfl) (v := yI (a1)) rfl rfl ?_
                  refine yG.bald A_h54.1 (v_Flow_stuck W H_r2) rfl (by omega) (by omega) (fun z58 e_z58 i_z58 l_z58 u_z58 => ?_)
                  refine yG.ifz rfl (t := 148) rfl ⟨by omega, by omega⟩ (fun c59 => ?_) (fun c59 => ?_)
                  · have c59 : (z58 : Int) ≠ 0 := c59
                    refine yG.num (c := 0) rfl (fun _ _ => rfl) (by decide) ?_
                    refine yG.bast A_h54.1 (v_Flow_solvable W H_r55) (W.2.1 _ _ H_r55 (by decide) (by decide)) rfl (by omega) (by omega) ⟨by omega, by omega⟩ (by omega) (by omega) (fun h60 T_h60 b_h60 f_h60 y_h60 => ?_)
                    have A_h60 := A_h54.put T_h60 b_h60 f_h60 H_r55 (bAll_ok (by decide) _)
                    have qq51 : zsl h60 k0 6 = yR r2 := ((f_h60 k0 6).trans (if_neg (fun e => (bRo.ne H_k0 H_r55 (by decide)) e.1))).trans qq47
                    have qq52 : zsl h60 k0 0 = yR r3 := ((f_h60 k0 0).trans (if_neg (fun e => (bRo.ne H_k0 H_r55 (by decide)) e.1))).trans qq48
                    have qq53 : zsl h60 r3 4 = yR r4 := ((f_h60 r3 4).trans (if_neg (fun e => (bRo.ne H_r3 H_r55 (by decide)) e.1))).trans qq49
                    have : ys h60 r4 (a1 : Int).toNat = ys h54 r4 (a1 : Int).toNat := (y_h60 r4 (a1 : Int).toNat).trans (if_neg (fun e => (bRo.ne H_r4 H_r55 (by decide)) e.1))
                    have qq54 : zsl h60 k0 4 = yR r20 := ((f_h60 k0 4).trans (if_neg (fun e => (bRo.ne H_k0 H_r55 (by decide)) e.1))).trans qq50
                    have : ys h60 r20 (a1 : Int).toNat = ys h54 r20 (a1 : Int).toNat := (y_h60 r20 (a1 : Int).toNat).trans (if_neg (fun e => (bRo.ne H_r20 H_r55 (by decide)) e.1))
                    have : ys h60 r2 (a1 : Int).toNat = ys h54 r2 (a1 : Int).toNat := (y_h60 r2 (a1 : Int).toNat).trans (if_neg (fun e => (bRo.ne H_r2 H_r55 (by decide)) e.1))
                    refine yG.load xak rfl (fun _ _ => rfl) (v := yR k0) rfl rfl ?_
                    refine yG.getS9 A_h60.1 (w_FlowS_total W H_k0) qq54 rfl rfl ?_
                    refine yG.load xik rfl (fun _ _ => rfl) (v := yI (a1)) rfl rfl ?_
                    refine yG.load xak rfl (fun _ _ => rfl) (v := yR k0) rfl rfl ?_
                    refine yG.getS9 A_h60.1 (w_FlowS_total W H_k0) qq54 rfl rfl ?_
                    refine yG.load xik rfl (fun _ _ => rfl) (v := yI (a1)) rfl rfl ?_
                    refine yG.iald A_h60.1 (v_Flow_total W H_r20) rfl (by omega) (by omega) (fun z61 e_z61 i_z61 l_z61 u_z61 => ?_)
                    refine yG.num (c := 1) rfl (fun _ _ => rfl) (by decide) ?_
                    refine yG.invS (rest := [yI (a1), yR r20]) rfl rfl rfl rfl (c_J9_maxI W (d + 2) A_h60.1 (z61) (1) (by omega) (by omega) (by omega) (by omega)) (fun rv hp9 q9 => ?_)
                    obtain ⟨⟨z62, rfl, l_z62, u_z62, R_z62⟩, e9⟩ := q9
                    rw [e9]
                    show yG _ _ _ _ _ _ _ _ _ _ (yI z62 :: [yI (a1), yR r20]) _
                    refine yG.iast A_h60.1 (v_Flow_total W H_r20) (W.2.1 _ _ H_r20 (by decide) (by decide)) rfl (by omega) (by omega) ⟨by omega, by omega⟩ (by omega) (by omega) (fun h63 T_h63 b_h63 f_h63 y_h63 => ?_)
                    have A_h63 := A_h60.put T_h63 b_h63 f_h63 H_r20 (bAll_ok (by decide) _)
                    have qq55 : zsl h63 k0 6 = yR r2 := ((f_h63 k0 6).trans (if_neg (fun e => (bRo.ne H_k0 H_r20 (by decide)) e.1))).trans qq51
                    have qq56 : zsl h63 k0 0 = yR r3 := ((f_h63 k0 0).trans (if_neg (fun e => (bRo.ne H_k0 H_r20 (by decide)) e.1))).trans qq52
                    have qq57 : zsl h63 r3 4 = yR r4 := ((f_h63 r3 4).trans (if_neg (fun e => (bRo.ne H_r3 H_r20 (by decide)) e.1))).trans qq53
                    have : ys h63 r4 (a1 : Int).toNat = ys h60 r4 (a1 : Int).toNat := (y_h63 r4 (a1 : Int).toNat).trans (if_neg (fun e => (bRo.ne H_r4 H_r20 (by decide)) e.1))
                    have qq58 : zsl h63 k0 4 = yR r20 := ((f_h63 k0 4).trans (if_neg (fun e => (bRo.ne H_k0 H_r20 (by decide)) e.1))).trans qq54
                    have : ys h63 r2 (a1 : Int).toNat = ys h60 r2 (a1 : Int).toNat := (y_h63 r2 (a1 : Int).toNat).trans (if_neg (fun e => (bRo.ne H_r2 H_r20 (by decide)) e.1))
                    have : ys h63 r20 (a1 : Int).toNat = z62 := (y_h63 r20 _).trans (if_pos ⟨rfl, rfl⟩)
                    refine yG.load xak rfl (fun _ _ => rfl) (v := yR k0) rfl rfl ?_
                    refine yG.step (pc' := 168) (stk' := [yR k0, yR k0]) rfl (fun _ _ => rfl) ?_
                    refine yG.getI A_h63.1 (w_FlowS_stuckCount W H_k0) rfl rfl (fun z64 e_z64 i_z64 l_z64 u_z64 => ?_)
                    refine yG.load xak rfl (fun _ _ => rfl) (v := yR k0) rfl rfl ?_
                    refine yG.getS9 A_h63.1 (w_FlowS_stuck W H_k0) qq55 rfl rfl ?_
                    refine yG.load xik rfl (fun _ _ => rfl) (v := yI (a1)) rfl rfl ?_
                    refine yG.bald A_h63.1 (v_Flow_stuck W H_r2) rfl (by omega) (by omega) (fun z65 e_z65 i_z65 l_z65 u_z65 => ?_)
                    refine yG.ifz rfl (t := 184) rfl ⟨by omega, by omega⟩ (fun c66 => ?_) (fun c66 => ?_)
                    · have c66 : (z65 : Int) = 0 := c66
                      exfalso; omega
                    · have c66 : (z65 : Int) ≠ 0 := c66
                      refine yG.num (c := 1) rfl (fun _ _ => rfl) (by decide) ?_
                      refine yG.goto rfl (t := 185) rfl ?_
                      refine yG.iadd rfl ?_
                      obtain ⟨z68, e_z68, l_z68, u_z68⟩ := ywI (z64 + 1)
                      rw [e_z68]
                      refine yG.putI A_h63.1 (w_FlowS_stuckCount W H_k0) (W.2.1 _ _ H_k0 (by decide) (by decide)) rfl rfl (.inl rfl) ⟨by omega, by omega⟩ (by omega) (by omega) (fun h67 T_h67 b_h67 f_h67 y_h67 => ?_)
                      have A_h67 := A_h63.put T_h67 b_h67 f_h67 H_k0 (by decide)
                      have qq59 : zsl h67 k0 6 = yR r2 := ((f_h67 k0 6).trans (if_neg (fun e => absurd e.2 (by decide)))).trans qq55
                      have qq60 : zsl h67 k0 0 = yR r3 := ((f_h67 k0 0).trans (if_neg (fun e => absurd e.2 (by decide)))).trans qq56
                      have qq61 : zsl h67 r3 4 = yR r4 := ((f_h67 r3 4).trans (if_neg (fun e => (bRo.ne H_r3 H_k0 (by decide)) e.1))).trans qq57
                      have : ys h67 r4 (a1 : Int).toNat = ys h63 r4 (a1 : Int).toNat := (y_h67 r4 (a1 : Int).toNat).trans (if_neg (fun e => (bRo.ne H_r4 H_k0 (by decide)) e.1))
                      have qq62 : zsl h67 k0 4 = yR r20 := ((f_h67 k0 4).trans (if_neg (fun e => absurd e.2 (by decide)))).trans qq58
                      have : ys h67 r2 (a1 : Int).toNat = ys h63 r2 (a1 : Int).toNat := (y_h67 r2 (a1 : Int).toNat).trans (if_neg (fun e => (bRo.ne H_r2 H_k0 (by decide)) e.1))
                      have : ys h67 r20 (a1 : Int).toNat = ys h63 r20 (a1 : Int).toNat := (y_h67 r20 (a1 : Int).toNat).trans (if_neg (fun e => (bRo.ne H_r20 H_k0 (by decide)) e.1))
                      refine yG.iinc rfl (a := a1) rfl (L' := [(1, yI (a1 + 1)), (0, yR k0)]) rfl ?_
                      refine yG.goto rfl (t := 71) rfl ?_
                      exact yG.mono (yG.sub (i_71 (a1 + 1)  h67 A_h67   (by omega) (by omega) (by omega)) (ySub.cons rfl (ySub.cons rfl (ySub.nil)))) (by omega)
                  · have c59 : (z58 : Int) = 0 := c59
                    exfalso; omega
  refine yC.of (M := (xt_X2_look, (2, (0, (3, []))))) rfl rfl (N := 39999) (yfuel (by decide)) ?_
  show yG 89 xfts (xcall 89 xfts xpools xms (d + 3)) (xpool xp_RX2) [] xt_X2_look (yP 0 (fun rv hp' => (rv = none ∧ True) ∧ bAx G [(2251799813685248, 9), (2251799813685248, 10), (41538374868278621030495770447446016, 11), (41538374868278621028243970633760768, 12), (41538374868278621028243970633760768, 13), (41538374868278621028243970633760768, 14), (41538374868278621028243970633760768, 15), (2211795182620246016, 256)] hp hp')) 39999 0 [(0, yR k0)] [] hp
  obtain ⟨i_35, i_71⟩ := H 596
  refine yG.load xak rfl (fun _ _ => rfl) (v := yR k0) rfl rfl ?_
  refine yG.getO A_hp.1 (w_FlowS_shape W H_k0) rfl rfl (fun r1 H_r1 O_r1 q_r1 => ?_)
  refine yG.num (c := 0) rfl (fun _ _ => rfl) (by decide) ?_
  refine yG.invV (rest := []) A_hp.1 (bOb (d_Shape W) H_r1) rfl rfl rfl rfl (c_Shape_look W d A_hp.1 H_r1 (0) (by omega) (by omega)) (fun rv h2 q9 => ?_)
  obtain ⟨⟨rfl, R_z3⟩, B_h2⟩ := q9
  have A_h2 := A_hp.tr B_h2 (by decide)
  show yG _ _ _ _ _ _ _ _ _ _ [] _
  refine yG.load xak rfl (fun _ _ => rfl) (v := yR k0) rfl rfl ?_
  refine yG.num (c := 0) rfl (fun _ _ => rfl) (by decide) ?_
  refine yG.putI A_h2.1 (w_FlowS_solved W H_k0) (W.2.1 _ _ H_k0 (by decide) (by decide)) rfl rfl (.inr ⟨rfl, rfl, rfl⟩) ⟨by omega, by omega⟩ (by omega) (by omega) (fun h4 T_h4 b_h4 f_h4 y_h4 => ?_)
  have A_h4 := A_h2.put T_h4 b_h4 f_h4 H_k0 (by decide)
  refine yG.load xak rfl (fun _ _ => rfl) (v := yR k0) rfl rfl ?_
  refine yG.num (c := -1) rfl (fun _ _ => rfl) (by decide) ?_
  refine yG.putI A_h4.1 (w_FlowS_overs W H_k0) (W.2.1 _ _ H_k0 (by decide) (by decide)) rfl rfl (.inl rfl) ⟨by omega, by omega⟩ (by omega) (by omega) (fun h5 T_h5 b_h5 f_h5 y_h5 => ?_)
  have A_h5 := A_h4.put T_h5 b_h5 f_h5 H_k0 (by decide)
  refine yG.load xak rfl (fun _ _ => rfl) (v := yR k0) rfl rfl ?_
  refine yG.num (c := -1) rfl (fun _ _ => rfl) (by decide) ?_
  refine yG.putI A_h5.1 (w_FlowS_troubles W H_k0) (W.2.1 _ _ H_k0 (by decide) (by decide)) rfl rfl (.inl rfl) ⟨by omega, by omega⟩ (by omega) (by omega) (fun h6 T_h6 b_h6 f_h6 y_h6 => ?_)
  have A_h6 := A_h5.put T_h6 b_h6 f_h6 H_k0 (by decide)
  refine yG.load xak rfl (fun _ _ => rfl) (v := yR k0) rfl rfl ?_
  refine yG.num (c := 0) rfl (fun _ _ => rfl) (by decide) ?_
  refine yG.putI A_h6.1 (w_FlowS_lost W H_k0) (W.2.1 _ _ H_k0 (by decide) (by decide)) rfl rfl (.inl rfl) ⟨by omega, by omega⟩ (by omega) (by omega) (fun h7 T_h7 b_h7 f_h7 y_h7 => ?_)
  have A_h7 := A_h6.put T_h7 b_h7 f_h7 H_k0 (by decide)
  refine yG.load xak rfl (fun _ _ => rfl) (v := yR k0) rfl rfl ?_
  refine yG.num (c := 0) rfl (fun _ _ => rfl) (by decide) ?_
  refine yG.putI A_h7.1 (w_FlowS_stuckCount W H_k0) (W.2.1 _ _ H_k0 (by decide) (by decide)) rfl rfl (.inl rfl) ⟨by omega, by omega⟩ (by omega) (by omega) (fun h8 T_h8 b_h8 f_h8 y_h8 => ?_)
  have A_h8 := A_h7.put T_h8 b_h8 f_h8 H_k0 (by decide)
  refine yG.num (c := 0) rfl (fun _ _ => rfl) (by decide) ?_
  refine yG.store1 xik (L' := [(1, yI (0)), (0, yR k0)]) rfl (fun _ _ => rfl) rfl rfl ?_
  exact yG.mono (yG.sub (i_35 (0)  h8 A_h8   (by omega) (by omega) (by omega)) (ySub.cons rfl (ySub.cons rfl (ySub.nil)))) (by omega)
theorem c_Flow_given_s {hp : xH} (W : bW G) (d : Nat) (hT : zTy G hp) {k0 : Nat} (H_k0 : bRo G 115 k0) (p1 : Int) (h1l : 0 ≤ p1) (h1u : p1 ≤ 5) : yC (xcall 89 xfts xpools xms (d + 2)) 104 [yR k0, yI (p1)] hp (bQpi hp (-2147483648) 2147483647 (fun _ => True)) := by
  have A_hp : bAx G [] hp hp := bAx.rf hT
  refine yC.of (M := (xt_X2_given, (3, (1, (3, []))))) rfl rfl (N := 114) (yfuel (by decide)) ?_
  show yG 89 xfts (xcall 89 xfts xpools xms (d + 1)) (xpool xp_RX2) [] xt_X2_given (yP 1 (bQpi hp (-2147483648) 2147483647 (fun _ => True))) 114 0 [(0, yR k0), (1, yI (p1))] [] hp
  refine yG.load xak rfl (fun _ _ => rfl) (v := yR k0) rfl rfl ?_
  refine yG.getO A_hp.1 (w_FlowS_shape W H_k0) rfl rfl (fun r1 H_r1 O_r1 q_r1 => ?_)
  refine yG.load xik rfl (fun _ _ => rfl) (v := yI (p1)) rfl rfl ?_
  refine yG.invV (rest := []) A_hp.1 (bOb (d_Shape W) H_r1) rfl rfl rfl rfl (c_Shape_islandOfMachine W d A_hp.1 H_r1 (p1) (by omega) (by omega)) (fun rv hp9 q9 => ?_)
  obtain ⟨⟨z2, rfl, l_z2, u_z2, R_z2⟩, e9⟩ := q9
  rw [e9]
  show yG _ _ _ _ _ _ _ _ _ _ (yI z2 :: []) _
  refine yG.store1 xik (L' := [(2, yI (z2)), (0, yR k0), (1, yI (p1))]) rfl (fun _ _ => rfl) rfl rfl ?_
  refine yG.load xak rfl (fun _ _ => rfl) (v := yR k0) rfl rfl ?_
  refine yG.getS9 A_hp.1 (w_FlowS_shape W H_k0) q_r1 rfl rfl ?_
  refine yG.load xik rfl (fun _ _ => rfl) (v := yI (p1)) rfl rfl ?_
  refine yG.load xak rfl (fun _ _ => rfl) (v := yR k0) rfl rfl ?_
  refine yG.getO A_hp.1 (w_FlowS_solvable W H_k0) rfl rfl (fun r3 H_r3 O_r3 q_r3 => ?_)
  refine yG.invV (rest := []) A_hp.1 (bOb (d_Shape W) H_r1) rfl rfl rfl rfl (c_Shape_isMachineIn_0 W d A_hp.1 H_r1 H_r3 (p1) (by omega) (by omega)) (fun rv hp9 q9 => ?_)
  obtain ⟨⟨z4, rfl, l_z4, u_z4, R_z4⟩, e9⟩ := q9
  rw [e9]
  show yG _ _ _ _ _ _ _ _ _ _ (yI z4 :: []) _
  refine yG.ifz rfl (t := 26) rfl ⟨by omega, by omega⟩ (fun c5 => ?_) (fun c5 => ?_)
  · have c5 : (z4 : Int) ≠ 0 := c5
    refine yG.load xak rfl (fun _ _ => rfl) (v := yR k0) rfl rfl ?_
    refine yG.getO A_hp.1 (w_FlowS_net W H_k0) rfl rfl (fun r6 H_r6 O_r6 q_r6 => ?_)
    refine yG.num (c := 3) rfl (fun _ _ => rfl) (by decide) ?_
    refine yG.load xik rfl (fun _ _ => rfl) (v := yI (p1)) rfl rfl ?_
    refine yG.num (c := 1) rfl (fun _ _ => rfl) (by decide) ?_
    refine yG.invV (rest := []) A_hp.1 (bOb (d_Net W) H_r6) rfl rfl rfl rfl (c_Net_at_3_1 W d A_hp.1 H_r6 (p1) (by omega) (by omega)) (fun rv hp9 q9 => ?_)
    obtain ⟨⟨z7, rfl, l_z7, u_z7, R_z7⟩, e9⟩ := q9
    rw [e9]
    show yG _ _ _ _ _ _ _ _ _ _ (yI z7 :: []) _
    refine yG.load xak rfl (fun _ _ => rfl) (v := yR k0) rfl rfl ?_
    refine yG.getO A_hp.1 (w_FlowS_total W H_k0) rfl rfl (fun r8 H_r8 O_r8 q_r8 => ?_)
    refine yG.load xik rfl (fun _ _ => rfl) (v := yI (z2)) rfl rfl ?_
    refine yG.iald A_hp.1 (v_Flow_total W H_r8) rfl (by omega) (by omega) (fun z9 e_z9 i_z9 l_z9 u_z9 => ?_)
    refine yG.imul rfl ?_
    obtain ⟨z10, e_z10⟩ : ∃ z : Int, z = z7 * z9 := ⟨_, rfl⟩
    rw [← e_z10]
    have b_z10 : -21472688996352 ≤ z10 ∧ z10 ≤ 21472688996352 := e_z10 ▸ ymuls (A := 9999) (B := 2147483648) (by omega) (by omega) (by omega) (by omega) (by decide)
    refine yG.load xak rfl (fun _ _ => rfl) (v := yR k0) rfl rfl ?_
    refine yG.getS9 A_hp.1 (w_FlowS_net W H_k0) q_r6 rfl rfl ?_
    refine yG.num (c := 3) rfl (fun _ _ => rfl) (by decide) ?_
    refine yG.load xik rfl (fun _ _ => rfl) (v := yI (p1)) rfl rfl ?_
    refine yG.num (c := 9) rfl (fun _ _ => rfl) (by decide) ?_
    refine yG.invV (rest := [yI (z10)]) A_hp.1 (bOb (d_Net W) H_r6) rfl rfl rfl rfl (c_Net_at_3_9 W d A_hp.1 H_r6 (p1) (by omega) (by omega)) (fun rv hp9 q9 => ?_)
    obtain ⟨⟨z11, rfl, l_z11, u_z11, R_z11⟩, e9⟩ := q9
    rw [e9]
    show yG _ _ _ _ _ _ _ _ _ _ (yI z11 :: [yI (z10)]) _
    refine yG.load xak rfl (fun _ _ => rfl) (v := yR k0) rfl rfl ?_
    refine yG.getO A_hp.1 (w_FlowS_gap W H_k0) rfl rfl (fun r12 H_r12 O_r12 q_r12 => ?_)
    refine yG.load xik rfl (fun _ _ => rfl) (v := yI (z2)) rfl rfl ?_
    refine yG.iald A_hp.1 (v_Flow_gap W H_r12) rfl (by omega) (by omega) (fun z13 e_z13 i_z13 l_z13 u_z13 => ?_)
    refine yG.imul rfl ?_
    obtain ⟨z14, e_z14⟩ : ∃ z : Int, z = z11 * z13 := ⟨_, rfl⟩
    rw [← e_z14]
    have b_z14 : -19327352832 ≤ z14 ∧ z14 ≤ 19327352832 := e_z14 ▸ ymuls (A := 9) (B := 2147483648) (by omega) (by omega) (by omega) (by omega) (by decide)
    refine yG.iadd rfl ?_
    refine yG.ret rfl (fun _ _ => rfl) ?_
    obtain ⟨z15, e_z15, l_z15, u_z15⟩ := ywI (z10 + z14)
    rw [e_z15]
    exact (yP.int ⟨by omega, by omega⟩ ⟨⟨z15, rfl, by omega, by omega, trivial⟩, rfl⟩)
  · have c5 : (z4 : Int) = 0 := c5
    refine yG.num (c := 0) rfl (fun _ _ => rfl) (by decide) ?_
    refine yG.ret rfl (fun _ _ => rfl) ?_
    exact (yP.int ⟨by omega, by omega⟩ ⟨⟨0, rfl, by omega, by omega, trivial⟩, rfl⟩)
theorem c_Flow_inject_s {hp : xH} (W : bW G) (d : Nat) (hT : zTy G hp) {k0 : Nat} (H_k0 : bRo G 115 k0) (p1 : Int) (h1l : 0 ≤ p1) (h1u : p1 ≤ 47) : yC (xcall 89 xfts xpools xms (d + 3)) 106 [yR k0, yI (p1)] hp (fun rv hp' => (rv = none ∧ True) ∧ bAx G [(4398046511104, 256)] hp hp') := by
  have A_hp : bAx G [(4398046511104, 256)] hp hp := bAx.rf hT
  have H : ∀ m : Nat, (∀ a2 : Int, ∀ hq, bAx G [(4398046511104, 256)] hp hq → 0 ≤ a2 → (-6) ≤ 0 - a2 → 0 ≤ p1 → (-47) ≤ 0 - p1 → 0 - 27 * a2 + 188 < (m : Int) → yG 89 xfts (xcall 89 xfts xpools xms (d + 2)) (xpool xp_RX2) [] xt_X2_inject (yP 0 (fun rv hp' => (rv = none ∧ True) ∧ bAx G [(4398046511104, 256)] hp hp')) (37 * m) 2 [(0, yR k0), (1, yI (p1)), (2, yI (a2))] [] hq) ∧ (∀ a2 : Int, ∀ hq, bAx G [(4398046511104, 256)] hp hq → 0 ≤ a2 → (-12) ≤ 0 - a2 → 0 ≤ p1 → (-47) ≤ 0 - p1 → 0 - 2 * a2 + 25 < (m : Int) → yG 89 xfts (xcall 89 xfts xpools xms (d + 2)) (xpool xp_RX2) [] xt_X2_inject (yP 0 (fun rv hp' => (rv = none ∧ True) ∧ bAx G [(4398046511104, 256)] hp hp')) (37 * m) 45 [(0, yR k0), (1, yI (p1)), (2, yI (a2))] [] hq) := by
    intro m
    induction m with
    | zero =>
      refine ⟨?_, ?_⟩ <;> (intros; exfalso; omega)
    | succ m ih =>
      obtain ⟨i_2, i_45⟩ := ih
      refine ⟨?_, ?_⟩
      · intro a2 hq A_hq f0 f1 f2 f3 hm
        refine yG.mono (N := 37 * m + 37) ?_ (by omega)
        refine yG.load xik rfl (fun _ _ => rfl) (v := yI (a2)) rfl rfl ?_
        refine yG.load xak rfl (fun _ _ => rfl) (v := yR k0) rfl rfl ?_
        refine yG.getO A_hq.1 (w_FlowS_net W H_k0) rfl rfl (fun r1 H_r1 O_r1 q_r1 => ?_)
        refine yG.getO A_hq.1 (w_Net_count W H_r1) rfl rfl (fun r2 H_r2 O_r2 q_r2 => ?_)
        refine yG.num (c := 3) rfl (fun _ _ => rfl) (by decide) ?_
        refine yG.ialdF A_hq.1 (v_Net_count W H_r2) rfl rfl (by omega) (by omega) (fun z3 e_z3 i_z3 l_z3 u_z3 => ?_)
        refine yG.icmp rfl (t := 43) rfl ⟨by omega, by omega⟩ ⟨by omega, by omega⟩ (fun c4 => ?_) (fun c4 => ?_)
        · have c4 : (a2 : Int) ≥ z3 := c4
          refine yG.num (c := 0) rfl (fun _ _ => rfl) (by decide) ?_
          refine yG.store1 xik (L' := [(2, yI (0)), (0, yR k0), (1, yI (p1))]) rfl (fun _ _ => rfl) rfl rfl ?_
          exact yG.mono (yG.sub (i_45 (0)  hq A_hq   (by omega) (by omega) (by omega) (by omega) (by omega)) (ySub.cons rfl (ySub.cons rfl (ySub.cons rfl (ySub.nil))))) (by omega)
        · have c4 : (a2 : Int) < z3 := c4
          refine yG.load xak rfl (fun _ _ => rfl) (v := yR k0) rfl rfl ?_
          refine yG.getO A_hq.1 (w_FlowS_solver W H_k0) rfl rfl (fun r5 H_r5 O_r5 q_r5 => ?_)
          refine yG.load xak rfl (fun _ _ => rfl) (v := yR k0) rfl rfl ?_
          refine yG.getO A_hq.1 (w_FlowS_shape W H_k0) rfl rfl (fun r6 H_r6 O_r6 q_r6 => ?_)
          refine yG.load xik rfl (fun _ _ => rfl) (v := yI (a2)) rfl rfl ?_
          refine yG.invV (rest := [yR r5]) A_hq.1 (bOb (d_Shape W) H_r6) rfl rfl rfl rfl (c_Shape_rowOfMachine W (d + 1) A_hq.1 H_r6 (a2) (by omega) (by omega)) (fun rv hp9 q9 => ?_)
          obtain ⟨⟨z7, rfl, l_z7, u_z7, R_z7⟩, e9⟩ := q9
          rw [e9]
          show yG _ _ _ _ _ _ _ _ _ _ (yI z7 :: [yR r5]) _
          refine yG.load xik rfl (fun _ _ => rfl) (v := yI (p1)) rfl rfl ?_
          refine yG.load xak rfl (fun _ _ => rfl) (v := yR k0) rfl rfl ?_
          refine yG.load xik rfl (fun _ _ => rfl) (v := yI (a2)) rfl rfl ?_
          refine yG.invV (rest := [yI (p1), yI (z7), yR r5]) A_hq.1 (bOb (d_FlowS W) H_k0) rfl rfl rfl rfl (c_Flow_given_s W d A_hq.1 H_k0 (a2) (by omega) (by omega)) (fun rv hp9 q9 => ?_)
          obtain ⟨⟨z8, rfl, l_z8, u_z8, R_z8⟩, e9⟩ := q9
          rw [e9]
          show yG _ _ _ _ _ _ _ _ _ _ (yI z8 :: [yI (p1), yI (z7), yR r5]) _
          refine yG.i2l rfl ⟨by omega, by omega⟩ ?_
          refine yG.invV (rest := []) A_hq.1 (bOb (d_Solver W) H_r5) rfl rfl rfl rfl (c_Solver_plus W d A_hq.1 H_r5 (z7) (p1) (z8) (by omega) (by omega) (by omega) (by omega) (by omega) (by omega)) (fun rv h9 q9 => ?_)
          obtain ⟨⟨rfl, R_z10⟩, B_h9⟩ := q9
          have A_h9 := A_hq.tr B_h9 (by decide)
          show yG _ _ _ _ _ _ _ _ _ _ [] _
          refine yG.iinc rfl (a := a2) rfl (L' := [(2, yI (a2 + 1)), (0, yR k0), (1, yI (p1))]) rfl ?_
          refine yG.goto rfl (t := 2) rfl ?_
          exact yG.mono (yG.sub (i_2 (a2 + 1)  h9 A_h9   (by omega) (by omega) (by omega) (by omega) (by omega)) (ySub.cons rfl (ySub.cons rfl (ySub.cons rfl (ySub.nil))))) (by omega)
      · intro a2 hq A_hq f0 f1 f2 f3 hm
        refine yG.mono (N := 37 * m + 37) ?_ (by omega)
        refine yG.load xik rfl (fun _ _ => rfl) (v := yI (a2)) rfl rfl ?_
        refine yG.load xak rfl (fun _ _ => rfl) (v := yR k0) rfl rfl ?_
        refine yG.getO A_hq.1 (w_FlowS_net W H_k0) rfl rfl (fun r1 H_r1 O_r1 q_r1 => ?_)
        refine yG.getO A_hq.1 (w_Net_count W H_r1) rfl rfl (fun r2 H_r2 O_r2 q_r2 => ?_)
        refine yG.num (c := 4) rfl (fun _ _ => rfl) (by decide) ?_
        refine yG.ialdF A_hq.1 (v_Net_count W H_r2) rfl rfl (by omega) (by omega) (fun z3 e_z3 i_z3 l_z3 u_z3 => ?_)
        refine yG.icmp rfl (t := 108) rfl ⟨by omega, by omega⟩ ⟨by omega, by omega⟩ (fun c4 => ?_) (fun c4 => ?_)
        · have c4 : (a2 : Int) ≥ z3 := c4
          refine yG.ret rfl (fun _ _ => rfl) ?_
          exact (yP.void ⟨⟨rfl, trivial⟩, A_hq⟩)
        · have c4 : (a2 : Int) < z3 := c4
          refine yG.load xak rfl (fun _ _ => rfl) (v := yR k0) rfl rfl ?_
          refine yG.getO A_hq.1 (w_FlowS_shape W H_k0) rfl rfl (fun r5 H_r5 O_r5 q_r5 => ?_)
          refine yG.load xik rfl (fun _ _ => rfl) (v := yI (a2)) rfl rfl ?_
          refine yG.invV (rest := []) A_hq.1 (bOb (d_Shape W) H_r5) rfl rfl rfl rfl (c_Shape_islandOfLoad W d A_hq.1 H_r5 (a2) (by omega) (by omega)) (fun rv hp9 q9 => ?_)
          obtain ⟨⟨z6, rfl, l_z6, u_z6, R_z6⟩, e9⟩ := q9
          rw [e9]
          show yG _ _ _ _ _ _ _ _ _ _ (yI z6 :: []) _
          refine yG.store1 xik (L' := [(3, yI (z6)), (0, yR k0), (1, yI (p1)), (2, yI (a2))]) rfl (fun _ _ => rfl) rfl rfl ?_
          refine yG.load xak rfl (fun _ _ => rfl) (v := yR k0) rfl rfl ?_
          refine yG.getO A_hq.1 (w_FlowS_solver W H_k0) rfl rfl (fun r7 H_r7 O_r7 q_r7 => ?_)
          refine yG.load xak rfl (fun _ _ => rfl) (v := yR k0) rfl rfl ?_
          refine yG.getS9 A_hq.1 (w_FlowS_shape W H_k0) q_r5 rfl rfl ?_
          refine yG.load xik rfl (fun _ _ => rfl) (v := yI (a2)) rfl rfl ?_
          refine yG.invV (rest := [yR r7]) A_hq.1 (bOb (d_Shape W) H_r5) rfl rfl rfl rfl (c_Shape_rowOfLoad W d A_hq.1 H_r5 (a2) (by omega) (by omega)) (fun rv hp9 q9 => ?_)
          obtain ⟨⟨z8, rfl, l_z8, u_z8, R_z8⟩, e9⟩ := q9
          rw [e9]
          show yG _ _ _ _ _ _ _ _ _ _ (yI z8 :: [yR r7]) _
          refine yG.load xik rfl (fun _ _ => rfl) (v := yI (p1)) rfl rfl ?_
          refine yG.load xak rfl (fun _ _ => rfl) (v := yR k0) rfl rfl ?_
          refine yG.getS9 A_hq.1 (w_FlowS_net W H_k0) q_r1 rfl rfl ?_
          refine yG.num (c := 4) rfl (fun _ _ => rfl) (by decide) ?_
          refine yG.load xik rfl (fun _ _ => rfl) (v := yI (a2)) rfl rfl ?_
          refine yG.num (c := 0) rfl (fun _ _ => rfl) (by decide) ?_
          refine yG.invV (rest := [yI (p1), yI (z8), yR r7]) A_hq.1 (bOb (d_Net W) H_r1) rfl rfl rfl rfl (c_Net_at_4_0 W (d + 1) A_hq.1 H_r1 (a2) (by omega) (by omega)) (fun rv hp9 q9 => ?_)
          obtain ⟨⟨z9, rfl, l_z9, u_z9, R_z9⟩, e9⟩ := q9
          rw [e9]
          show yG _ _ _ _ _ _ _ _ _ _ (yI z9 :: [yI (p1), yI (z8), yR r7]) _
          refine yG.ineg rfl ?_
          refine yG.load xak rfl (fun _ _ => rfl) (v := yR k0) rfl rfl ?_
          refine yG.getO A_hq.1 (w_FlowS_total W H_k0) rfl rfl (fun r10 H_r10 O_r10 q_r10 => ?_)
          refine yG.load xik rfl (fun _ _ => rfl) (v := yI (z6)) rfl rfl ?_
          refine yG.iald A_hq.1 (v_Flow_total W H_r10) rfl (by omega) (by omega) (fun z11 e_z11 i_z11 l_z11 u_z11 => ?_)
          refine yG.imul rfl ?_
          obtain ⟨z12, e_z12⟩ : ∃ z : Int, z = (-(z9)) * z11 := ⟨_, rfl⟩
          rw [← e_z12]
          have b_z12 : -21472688996352 ≤ z12 ∧ z12 ≤ 21472688996352 := e_z12 ▸ ymuls (A := 9999) (B := 2147483648) (by omega) (by omega) (by omega) (by omega) (by decide)
          obtain ⟨z13, e_z13, l_z13, u_z13⟩ := ywI (z12)
          rw [e_z13]
          refine yG.i2l rfl ⟨by omega, by omega⟩ ?_
          refine yG.invV (rest := []) A_hq.1 (bOb (d_Solver W) H_r7) rfl rfl rfl rfl (c_Solver_plus W d A_hq.1 H_r7 (z8) (p1) (z13) (by omega) (by omega) (by omega) (by omega) (by omega) (by omega)) (fun rv h14 q9 => ?_)
          obtain ⟨⟨rfl, R_z15⟩, B_h14⟩ := q9
          have A_h14 := A_hq.tr B_h14 (by decide)
          have qq1 : zsl h14 k0 1 = yR r1 := (B_h14.sl H_k0 (by decide)).trans q_r1
          have qq2 : zsl h14 k0 0 = yR r5 := (B_h14.sl H_k0 (by decide)).trans q_r5
          show yG _ _ _ _ _ _ _ _ _ _ [] _
          refine yG.iinc rfl (a := a2) rfl (L' := [(2, yI (a2 + 1)), (3, yI (z6)), (0, yR k0), (1, yI (p1))]) rfl ?_
          refine yG.goto rfl (t := 45) rfl ?_
          exact yG.mono (yG.sub (i_45 (a2 + 1)  h14 A_h14   (by omega) (by omega) (by omega) (by omega) (by omega)) (ySub.cons rfl (ySub.cons rfl (ySub.cons rfl (ySub.nil))))) (by omega)
  refine yC.of (M := (xt_X2_inject, (4, (0, (3, []))))) rfl rfl (N := 7067) (yfuel (by decide)) ?_
  show yG 89 xfts (xcall 89 xfts xpools xms (d + 2)) (xpool xp_RX2) [] xt_X2_inject (yP 0 (fun rv hp' => (rv = none ∧ True) ∧ bAx G [(4398046511104, 256)] hp hp')) 7067 0 [(0, yR k0), (1, yI (p1))] [] hp
  obtain ⟨i_2, i_45⟩ := H 190
  refine yG.num (c := 0) rfl (fun _ _ => rfl) (by decide) ?_
  refine yG.store1 xik (L' := [(2, yI (0)), (0, yR k0), (1, yI (p1))]) rfl (fun _ _ => rfl) rfl rfl ?_
  exact yG.mono (yG.sub (i_2 (0)  hp A_hp   (by omega) (by omega) (by omega) (by omega) (by omega)) (ySub.cons rfl (ySub.cons rfl (ySub.cons rfl (ySub.nil))))) (by omega)
theorem c_Flow_solve_s {hp : xH} (W : bW G) (d : Nat) (hT : zTy G hp) {k0 : Nat} (H_k0 : bRo G 115 k0) : yC (xcall 89 xfts xpools xms (d + 5)) 109 [yR k0] hp (fun rv hp' => (rv = none ∧ True) ∧ bAx G [(34359738368, 1), (1133871366144, 2), (1099511627776, 3), (1099511627776, 6), (1099511627776, 7), (1099511627776, 8), (41538374868278621028243970633760768, 11), (18029860391747584, 256)] hp hp') := by
  have A_hp : bAx G [(34359738368, 1), (1133871366144, 2), (1099511627776, 3), (1099511627776, 6), (1099511627776, 7), (1099511627776, 8), (41538374868278621028243970633760768, 11), (18029860391747584, 256)] hp hp := bAx.rf hT
  have H : ∀ m : Nat, (∀ a1 : Int, ∀ a2 : Int, ∀ hq, bAx G [(34359738368, 1), (1133871366144, 2), (1099511627776, 3), (1099511627776, 6), (1099511627776, 7), (1099511627776, 8), (41538374868278621028243970633760768, 11), (18029860391747584, 256)] hp hq → 0 ≤ a1 → (-15) ≤ 0 - a1 → 0 ≤ a2 → (-1000000) ≤ 0 - a2 → 0 - 2 * a2 + 2000001 < (m : Int) → yG 89 xfts (xcall 89 xfts xpools xms (d + 4)) (xpool xp_RX2) [] xt_X2_solve (yP 0 (fun rv hp' => (rv = none ∧ True) ∧ bAx G [(34359738368, 1), (1133871366144, 2), (1099511627776, 3), (1099511627776, 6), (1099511627776, 7), (1099511627776, 8), (41538374868278621028243970633760768, 11), (18029860391747584, 256)] hp hp')) (55 * m) 59 [(0, yR k0), (1, yI (a1)), (2, yI (a2))] [] hq) := by
    intro m
    induction m with
    | zero =>
      intros; exfalso; omega
    | succ m ih =>
      have i_59 := ih
      clear ih
      intro a1 a2 hq A_hq f0 f1 f2 f3 hm
      refine yG.mono (N := 55 * m + 55) ?_ (by omega)
      refine yG.load xik rfl (fun _ _ => rfl) (v := yI (a2)) rfl rfl ?_
      refine yG.num (c := 1000000) rfl (fun _ _ => rfl) (by decide) ?_
      refine yG.icmp rfl (t := 159) rfl ⟨by omega, by omega⟩ ⟨by omega, by omega⟩ (fun c1 => ?_) (fun c1 => ?_)
      · have c1 : (a2 : Int) ≥ 1000000 := c1
        refine yG.load xak rfl (fun _ _ => rfl) (v := yR k0) rfl rfl ?_
        refine yG.getO A_hq.1 (w_FlowS_solver W H_k0) rfl rfl (fun r2 H_r2 O_r2 q_r2 => ?_)
        refine yG.load xak rfl (fun _ _ => rfl) (v := yR k0) rfl rfl ?_
        refine yG.getO A_hq.1 (w_FlowS_top W H_k0) rfl rfl (fun r3 H_r3 O_r3 q_r3 => ?_)
        refine yG.num (c := 16) rfl (fun _ _ => rfl) (by decide) ?_
        refine yG.invV (rest := []) A_hq.1 (bOb (d_Solver W) H_r2) rfl rfl rfl rfl (c_Solver_settle_16 W d A_hq.1 H_r2 H_r3 (16) (by omega) (by omega)) (fun rv h4 q9 => ?_)
        obtain ⟨⟨rfl, R_z5⟩, B_h4⟩ := q9
        have A_h4 := A_hq.tr B_h4 (by decide)
        have qq1 : zsl h4 k0 2 = yR r2 := (B_h4.sl H_k0 (by decide)).trans q_r2
        show yG _ _ _ _ _ _ _ _ _ _ [] _
        refine yG.ret rfl (fun _ _ => rfl) ?_
        exact (yP.void ⟨⟨rfl, trivial⟩, A_h4⟩)
      · have c1 : (a2 : Int) < 1000000 := c1
        refine yG.load xak rfl (fun _ _ => rfl) (v := yR k0) rfl rfl ?_
        refine yG.getO A_hq.1 (w_FlowS_solver W H_k0) rfl rfl (fun r6 H_r6 O_r6 q_r6 => ?_)
        refine yG.invV (rest := []) A_hq.1 (bOb (d_Solver W) H_r6) rfl rfl rfl rfl (c_Solver_more W (d + 2) A_hq.1 H_r6) (fun rv h7 q9 => ?_)
        obtain ⟨⟨z8, rfl, l_z8, u_z8, R_z8⟩, B_h7⟩ := q9
        have A_h7 := A_hq.tr B_h7 (by decide)
        have qq2 : zsl h7 k0 2 = yR r6 := (B_h7.sl H_k0 (by decide)).trans q_r6
        show yG _ _ _ _ _ _ _ _ _ _ (yI z8 :: []) _
        refine yG.ifz rfl (t := 159) rfl ⟨by omega, by omega⟩ (fun c9 => ?_) (fun c9 => ?_)
        · have c9 : (z8 : Int) = 0 := c9
          refine yG.load xak rfl (fun _ _ => rfl) (v := yR k0) rfl rfl ?_
          refine yG.getS9 A_h7.1 (w_FlowS_solver W H_k0) qq2 rfl rfl ?_
          refine yG.load xak rfl (fun _ _ => rfl) (v := yR k0) rfl rfl ?_
          refine yG.getO A_h7.1 (w_FlowS_top W H_k0) rfl rfl (fun r10 H_r10 O_r10 q_r10 => ?_)
          refine yG.num (c := 16) rfl (fun _ _ => rfl) (by decide) ?_
          refine yG.invV (rest := []) A_h7.1 (bOb (d_Solver W) H_r6) rfl rfl rfl rfl (c_Solver_settle_16 W d A_h7.1 H_r6 H_r10 (16) (by omega) (by omega)) (fun rv h11 q9 => ?_)
          obtain ⟨⟨rfl, R_z12⟩, B_h11⟩ := q9
          have A_h11 := A_h7.tr B_h11 (by decide)
          have qq3 : zsl h11 k0 2 = yR r6 := (B_h11.sl H_k0 (by decide)).trans qq2
          show yG _ _ _ _ _ _ _ _ _ _ [] _
          refine yG.ret rfl (fun _ _ => rfl) ?_
          exact (yP.void ⟨⟨rfl, trivial⟩, A_h11⟩)
        · have c9 : (z8 : Int) ≠ 0 := c9
          refine yG.load xak rfl (fun _ _ => rfl) (v := yR k0) rfl rfl ?_
          refine yG.getS9 A_h7.1 (w_FlowS_solver W H_k0) qq2 rfl rfl ?_
          refine yG.load xik rfl (fun _ _ => rfl) (v := yI (a1)) rfl rfl ?_
          refine yG.load xik rfl (fun _ _ => rfl) (v := yI (a1)) rfl rfl ?_
          refine yG.num (c := 1) rfl (fun _ _ => rfl) (by decide) ?_
          refine yG.iadd rfl ?_
          refine yG.invV (rest := []) A_h7.1 (bOb (d_Solver W) H_r6) rfl rfl rfl rfl (c_Solver_blank W (d + 3) A_h7.1 H_r6 (a1) (a1 + 1) (by omega) (by omega) (by omega) (by omega)) (fun rv h13 q9 => ?_)
          obtain ⟨⟨rfl, R_z14⟩, B_h13⟩ := q9
          have A_h13 := A_h7.tr B_h13 (by decide)
          have qq4 : zsl h13 k0 2 = yR r6 := (B_h13.sl H_k0 (by decide)).trans qq2
          show yG _ _ _ _ _ _ _ _ _ _ [] _
          refine yG.load xak rfl (fun _ _ => rfl) (v := yR k0) rfl rfl ?_
          refine yG.getO A_h13.1 (w_FlowS_shape W H_k0) rfl rfl (fun r15 H_r15 O_r15 q_r15 => ?_)
          refine yG.load xak rfl (fun _ _ => rfl) (v := yR k0) rfl rfl ?_
          refine yG.getS9 A_h13.1 (w_FlowS_solver W H_k0) qq4 rfl rfl ?_
          refine yG.load xak rfl (fun _ _ => rfl) (v := yR k0) rfl rfl ?_
          refine yG.getO A_h13.1 (w_FlowS_solvable W H_k0) rfl rfl (fun r16 H_r16 O_r16 q_r16 => ?_)
          refine yG.num (c := 1) rfl (fun _ _ => rfl) (by decide) ?_
          refine yG.num (c := -1) rfl (fun _ _ => rfl) (by decide) ?_
          refine yG.invV (rest := []) A_h13.1 (bOb (d_Shape W) H_r15) rfl rfl rfl rfl (c_Shape_lay_0 W (d + 2) A_h13.1 H_r15 H_r6 H_r16 (1) ((-1)) (by omega) (by omega) (by omega) (by omega)) (fun rv h17 q9 => ?_)
          obtain ⟨⟨z18, rfl, l_z18, u_z18, R_z18⟩, B_h17⟩ := q9
          have A_h17 := A_h13.tr B_h17 (by decide)
          have qq5 : zsl h17 k0 2 = yR r6 := (B_h17.sl H_k0 (by decide)).trans qq4
          have qq6 : zsl h17 k0 0 = yR r15 := (B_h17.sl H_k0 (by decide)).trans q_r15
          show yG _ _ _ _ _ _ _ _ _ _ (yJ z18 :: []) _
          refine yG.store2 xlk2 (L' := [(3, yJ (z18)), (0, yR k0), (1, yI (a1)), (2, yI (a2))]) rfl (fun _ _ => rfl) rfl rfl ?_
          refine yG.load xak rfl (fun _ _ => rfl) (v := yR k0) rfl rfl ?_
          refine yG.load xik rfl (fun _ _ => rfl) (v := yI (a1)) rfl rfl ?_
          refine yG.invV (rest := []) A_h17.1 (bOb (d_FlowS W) H_k0) rfl rfl rfl rfl (c_Flow_inject_s W (d + 1) A_h17.1 H_k0 (a1) (by omega) (by omega)) (fun rv h19 q9 => ?_)
          obtain ⟨⟨rfl, R_z20⟩, B_h19⟩ := q9
          have A_h19 := A_h17.tr B_h19 (by decide)
          have qq7 : zsl h19 k0 2 = yR r6 := (B_h19.sl H_k0 (by decide)).trans qq5
          have qq8 : zsl h19 k0 0 = yR r15 := (B_h19.sl H_k0 (by decide)).trans qq6
          show yG _ _ _ _ _ _ _ _ _ _ [] _
          refine yG.load xak rfl (fun _ _ => rfl) (v := yR k0) rfl rfl ?_
          refine yG.getS9 A_h19.1 (w_FlowS_solver W H_k0) qq7 rfl rfl ?_
          refine yG.load xik rfl (fun _ _ => rfl) (v := yI (a1)) rfl rfl ?_
          refine yG.load xik rfl (fun _ _ => rfl) (v := yI (a1)) rfl rfl ?_
          refine yG.load xik rfl (fun _ _ => rfl) (v := yI (a1)) rfl rfl ?_
          refine yG.num (c := 1) rfl (fun _ _ => rfl) (by decide) ?_
          refine yG.iadd rfl ?_
          refine yG.invV (rest := []) A_h19.1 (bOb (d_Solver W) H_r6) rfl rfl rfl rfl (c_Solver_reduce W (d + 1) A_h19.1 H_r6 (a1) (a1) (a1 + 1) (by omega) (by omega) (by omega) (by omega) (by omega) (by omega)) (fun rv h21 q9 => ?_)
          obtain ⟨⟨z22, rfl, l_z22, u_z22, R_z22⟩, B_h21⟩ := q9
          have A_h21 := A_h19.tr B_h21 (by decide)
          have qq9 : zsl h21 k0 2 = yR r6 := (B_h21.sl H_k0 (by decide)).trans qq7
          have qq10 : zsl h21 k0 0 = yR r15 := (B_h21.sl H_k0 (by decide)).trans qq8
          show yG _ _ _ _ _ _ _ _ _ _ (yI z22 :: []) _
          refine yG.load xik rfl (fun _ _ => rfl) (v := yI (a1)) rfl rfl ?_
          refine yG.icmp rfl (t := 153) rfl ⟨by omega, by omega⟩ ⟨by omega, by omega⟩ (fun c23 => ?_) (fun c23 => ?_)
          · have c23 : (z22 : Int) ≠ a1 := c23
            refine yG.iinc rfl (a := a2) rfl (L' := [(2, yI (a2 + 1)), (3, yJ (z18)), (0, yR k0), (1, yI (a1))]) rfl ?_
            refine yG.goto rfl (t := 59) rfl ?_
            exact yG.mono (yG.sub (i_59 (a1) (a2 + 1)  h21 A_h21   (by omega) (by omega) (by omega) (by omega) (by omega)) (ySub.cons rfl (ySub.cons rfl (ySub.cons rfl (ySub.nil))))) (by omega)
          · have c23 : (z22 : Int) = a1 := c23
            refine yG.load xak rfl (fun _ _ => rfl) (v := yR k0) rfl rfl ?_
            refine yG.getS9 A_h21.1 (w_FlowS_solver W H_k0) qq9 rfl rfl ?_
            refine yG.load xak rfl (fun _ _ => rfl) (v := yR k0) rfl rfl ?_
            refine yG.getS9 A_h21.1 (w_FlowS_shape W H_k0) qq10 rfl rfl ?_
            refine yG.load xak rfl (fun _ _ => rfl) (v := yR k0) rfl rfl ?_
            refine yG.getO A_h21.1 (w_FlowS_top W H_k0) rfl rfl (fun r24 H_r24 O_r24 q_r24 => ?_)
            refine yG.load xak rfl (fun _ _ => rfl) (v := yR k0) rfl rfl ?_
            refine yG.getO A_h21.1 (w_FlowS_whole W H_k0) rfl rfl (fun r25 H_r25 O_r25 q_r25 => ?_)
            obtain ⟨n_r25, N_r25⟩ : ∃ n : Int, n = ((zat G r25 : Nat) : Int) := ⟨_, rfl⟩
            have L_r25 := n_Big W H_r25
            refine yG.load xik rfl (fun _ _ => rfl) (v := yI (a1)) rfl rfl ?_
            refine yG.load xlk2 rfl (fun _ _ => rfl) (v := yJ (z18)) rfl rfl ?_
            refine yG.invV (rest := []) A_h21.1 (bOb (d_Solver W) H_r6) rfl rfl rfl rfl (c_Solver_take_16 W d A_h21.1 H_r6 H_r15 H_r24 H_r25 (a1) (z18) (by omega) (by omega) (by omega) (by omega)) (fun rv h26 q9 => ?_)
            obtain ⟨⟨rfl, R_z27⟩, B_h26⟩ := q9
            have A_h26 := A_h21.tr B_h26 (by decide)
            have qq11 : zsl h26 k0 2 = yR r6 := (B_h26.sl H_k0 (by decide)).trans qq9
            have qq12 : zsl h26 k0 0 = yR r15 := (B_h26.sl H_k0 (by decide)).trans qq10
            show yG _ _ _ _ _ _ _ _ _ _ [] _
            refine yG.load xak rfl (fun _ _ => rfl) (v := yR k0) rfl rfl ?_
            refine yG.getS9 A_h26.1 (w_FlowS_solver W H_k0) qq11 rfl rfl ?_
            refine yG.invV (rest := []) A_h26.1 (bOb (d_Solver W) H_r6) rfl rfl rfl rfl (c_Solver_close W (d + 1) A_h26.1 H_r6) (fun rv h28 q9 => ?_)
            obtain ⟨⟨rfl, R_z29⟩, B_h28⟩ := q9
            have A_h28 := A_h26.tr B_h28 (by decide)
            have qq13 : zsl h28 k0 2 = yR r6 := (B_h28.sl H_k0 (by decide)).trans qq11
            have qq14 : zsl h28 k0 0 = yR r15 := (B_h28.sl H_k0 (by decide)).trans qq12
            show yG _ _ _ _ _ _ _ _ _ _ [] _
            refine yG.iinc rfl (a := a2) rfl (L' := [(2, yI (a2 + 1)), (3, yJ (z18)), (0, yR k0), (1, yI (a1))]) rfl ?_
            refine yG.goto rfl (t := 59) rfl ?_
            exact yG.mono (yG.sub (i_59 (a1) (a2 + 1)  h28 A_h28   (by omega) (by omega) (by omega) (by omega) (by omega)) (ySub.cons rfl (ySub.cons rfl (ySub.cons rfl (ySub.nil))))) (by omega)
  refine yC.of (M := (xt_X2_solve, (5, (0, (3, []))))) rfl rfl (N := 110000220) (yfuel (by decide)) ?_
  show yG 89 xfts (xcall 89 xfts xpools xms (d + 4)) (xpool xp_RX2) [] xt_X2_solve (yP 0 (fun rv hp' => (rv = none ∧ True) ∧ bAx G [(34359738368, 1), (1133871366144, 2), (1099511627776, 3), (1099511627776, 6), (1099511627776, 7), (1099511627776, 8), (41538374868278621028243970633760768, 11), (18029860391747584, 256)] hp hp')) 110000220 0 [(0, yR k0)] [] hp
  have i_59 := H 2000003
  refine yG.load xak rfl (fun _ _ => rfl) (v := yR k0) rfl rfl ?_
  refine yG.getI A_hp.1 (w_FlowS_solved W H_k0) rfl rfl (fun z1 e_z1 i_z1 l_z1 u_z1 => ?_)
  refine yG.ifz rfl (t := 8) rfl ⟨by omega, by omega⟩ (fun c2 => ?_) (fun c2 => ?_)
  · have c2 : (z1 : Int) = 0 := c2
    refine yG.load xak rfl (fun _ _ => rfl) (v := yR k0) rfl rfl ?_
    refine yG.num (c := 1) rfl (fun _ _ => rfl) (by decide) ?_
    refine yG.putI A_hp.1 (w_FlowS_solved W H_k0) (W.2.1 _ _ H_k0 (by decide) (by decide)) rfl rfl (.inr ⟨rfl, rfl, rfl⟩) ⟨by omega, by omega⟩ (by omega) (by omega) (fun h3 T_h3 b_h3 f_h3 y_h3 => ?_)
    have A_h3 := A_hp.put T_h3 b_h3 f_h3 H_k0 (by decide)
    refine yG.load xak rfl (fun _ _ => rfl) (v := yR k0) rfl rfl ?_
    refine yG.getO A_h3.1 (w_FlowS_shape W H_k0) rfl rfl (fun r4 H_r4 O_r4 q_r4 => ?_)
    refine yG.load xak rfl (fun _ _ => rfl) (v := yR k0) rfl rfl ?_
    refine yG.getO A_h3.1 (w_FlowS_solvable W H_k0) rfl rfl (fun r5 H_r5 O_r5 q_r5 => ?_)
    refine yG.num (c := 0) rfl (fun _ _ => rfl) (by decide) ?_
    refine yG.invV (rest := []) A_h3.1 (bOb (d_Shape W) H_r4) rfl rfl rfl rfl (c_Shape_number_00 W (d + 3) A_h3.1 H_r4 H_r5) (fun rv h6 q9 => ?_)
    obtain ⟨⟨z7, rfl, l_z7, u_z7, R_z7⟩, B_h6⟩ := q9
    have A_h6 := A_h3.tr B_h6 (by decide)
    have qq1 : zsl h6 k0 0 = yR r4 := (B_h6.sl H_k0 (by decide)).trans q_r4
    have qq2 : zsl h6 k0 5 = yR r5 := (B_h6.sl H_k0 (by decide)).trans q_r5
    show yG _ _ _ _ _ _ _ _ _ _ (yI z7 :: []) _
    refine yG.store1 xik (L' := [(1, yI (z7)), (0, yR k0)]) rfl (fun _ _ => rfl) rfl rfl ?_
    refine yG.load xak rfl (fun _ _ => rfl) (v := yR k0) rfl rfl ?_
    refine yG.getO A_h6.1 (w_FlowS_solver W H_k0) rfl rfl (fun r8 H_r8 O_r8 q_r8 => ?_)
    refine yG.load xak rfl (fun _ _ => rfl) (v := yR k0) rfl rfl ?_
    refine yG.getS9 A_h6.1 (w_FlowS_shape W H_k0) qq1 rfl rfl ?_
    refine yG.load xak rfl (fun _ _ => rfl) (v := yR k0) rfl rfl ?_
    refine yG.getS9 A_h6.1 (w_FlowS_solvable W H_k0) qq2 rfl rfl ?_
    refine yG.num (c := 1) rfl (fun _ _ => rfl) (by decide) ?_
    refine yG.num (c := -1) rfl (fun _ _ => rfl) (by decide) ?_
    refine yG.invV (rest := [yR r8]) A_h6.1 (bOb (d_Shape W) H_r4) rfl rfl rfl rfl (c_Shape_bits_0 W (d + 2) A_h6.1 H_r4 H_r5 (1) ((-1)) (by omega) (by omega) (by omega) (by omega)) (fun rv hp9 q9 => ?_)
    obtain ⟨⟨z9, rfl, l_z9, u_z9, R_z9⟩, e9⟩ := q9
    rw [e9]
    show yG _ _ _ _ _ _ _ _ _ _ (yI z9 :: [yR r8]) _
    refine yG.num (c := 25) rfl (fun _ _ => rfl) (by decide) ?_
    refine yG.iadd rfl ?_
    refine yG.load xak rfl (fun _ _ => rfl) (v := yR k0) rfl rfl ?_
    refine yG.getO A_h6.1 (w_FlowS_top W H_k0) rfl rfl (fun r10 H_r10 O_r10 q_r10 => ?_)
    refine yG.load xak rfl (fun _ _ => rfl) (v := yR k0) rfl rfl ?_
    refine yG.getO A_h6.1 (w_FlowS_whole W H_k0) rfl rfl (fun r11 H_r11 O_r11 q_r11 => ?_)
    obtain ⟨n_r11, N_r11⟩ : ∃ n : Int, n = ((zat G r11 : Nat) : Int) := ⟨_, rfl⟩
    have L_r11 := n_Big W H_r11
    obtain ⟨z12, e_z12, l_z12, u_z12⟩ := ywI (z9 + 25)
    rw [e_z12]
    refine yG.invV (rest := []) A_h6.1 (bOb (d_Solver W) H_r8) rfl rfl rfl rfl (c_Solver_start__16 W (d + 1) A_h6.1 H_r8 H_r10 H_r11 (z12) (by omega) (by omega)) (fun rv h13 q9 => ?_)
    obtain ⟨⟨rfl, R_z14⟩, B_h13⟩ := q9
    have A_h13 := A_h6.tr B_h13 (by decide)
    have qq3 : zsl h13 k0 0 = yR r4 := (B_h13.sl H_k0 (by decide)).trans qq1
    have qq4 : zsl h13 k0 5 = yR r5 := (B_h13.sl H_k0 (by decide)).trans qq2
    show yG _ _ _ _ _ _ _ _ _ _ [] _
    refine yG.num (c := 0) rfl (fun _ _ => rfl) (by decide) ?_
    refine yG.store1 xik (L' := [(2, yI (0)), (1, yI (z7)), (0, yR k0)]) rfl (fun _ _ => rfl) rfl rfl ?_
    exact yG.mono (yG.sub (i_59 (z7) (0)  h13 A_h13   (by omega) (by omega) (by omega) (by omega) (by omega)) (ySub.cons rfl (ySub.cons rfl (ySub.cons rfl (ySub.nil))))) (by omega)
  · have c2 : (z1 : Int) ≠ 0 := c2
    refine yG.ret rfl (fun _ _ => rfl) ?_
    exact (yP.void ⟨⟨rfl, trivial⟩, A_hp⟩)
theorem c_Flow_carried_s {hp : xH} (W : bW G) (d : Nat) (hT : zTy G hp) {k0 : Nat} (H_k0 : bRo G 115 k0) {k2 : Nat} (H_k2 : bRo G 35 k2) {k3 : Nat} (H_k3 : bRo G 35 k3) (p1 : Int) (h1l : 0 ≤ p1) (h1u : p1 ≤ 19) : yC (xcall 89 xfts xpools xms (d + 4)) 102 [yR k0, yI (p1), yR k2, yR k3] hp (fun rv hp' => (rv = none ∧ True) ∧ bAx G [(34359738368, 1), (34359738368, 2), (68719476736, 256)] hp hp') := by
  have A_hp : bAx G [(34359738368, 1), (34359738368, 2), (68719476736, 256)] hp hp := bAx.rf hT
  obtain ⟨n_k2, N_k2⟩ : ∃ n : Int, n = ((zat G k2 : Nat) : Int) := ⟨_, rfl⟩
  have L_k2 := n_Big W H_k2
  obtain ⟨n_k3, N_k3⟩ : ∃ n : Int, n = ((zat G k3 : Nat) : Int) := ⟨_, rfl⟩
  have L_k3 := n_Big W H_k3
  refine yC.of (M := (xt_X2_carried, (4, (0, (3, []))))) rfl rfl (N := 174) (yfuel (by decide)) ?_
  show yG 89 xfts (xcall 89 xfts xpools xms (d + 3)) (xpool xp_RX2) [] xt_X2_carried (yP 0 (fun rv hp' => (rv = none ∧ True) ∧ bAx G [(34359738368, 1), (34359738368, 2), (68719476736, 256)] hp hp')) 174 0 [(0, yR k0), (1, yI (p1)), (2, yR k2), (3, yR k3)] [] hp
  refine yG.load xak rfl (fun _ _ => rfl) (v := yR k2) rfl rfl ?_
  refine yG.numl (c := 0) rfl (fun _ _ => rfl) (by decide) ?_
  refine yG.invV (rest := []) A_hp.1 (bOb (d_Big W) H_k2) rfl rfl rfl rfl (c_Big_put W (d + 1) A_hp.1 H_k2 (0) (by omega) (by omega)) (fun rv h1 q9 => ?_)
  obtain ⟨⟨rfl, R_z2⟩, B_h1⟩ := q9
  have A_h1 := A_hp.tr B_h1 (by decide)
  show yG _ _ _ _ _ _ _ _ _ _ [] _
  refine yG.load xak rfl (fun _ _ => rfl) (v := yR k3) rfl rfl ?_
  refine yG.load xak rfl (fun _ _ => rfl) (v := yR k0) rfl rfl ?_
  refine yG.getO A_h1.1 (w_FlowS_whole W H_k0) rfl rfl (fun r3 H_r3 O_r3 q_r3 => ?_)
  obtain ⟨n_r3, N_r3⟩ : ∃ n : Int, n = ((zat G r3 : Nat) : Int) := ⟨_, rfl⟩
  have L_r3 := n_Big W H_r3
  refine yG.invV (rest := []) A_h1.1 (bOb (d_Big W) H_k3) rfl rfl rfl rfl (c_Big_copy W (d + 1) A_h1.1 H_k3 H_r3) (fun rv h4 q9 => ?_)
  obtain ⟨⟨rfl, R_z5⟩, B_h4⟩ := q9
  have A_h4 := A_h1.tr B_h4 (by decide)
  show yG _ _ _ _ _ _ _ _ _ _ [] _
  refine yG.load xak rfl (fun _ _ => rfl) (v := yR k0) rfl rfl ?_
  refine yG.getO A_h4.1 (w_FlowS_shape W H_k0) rfl rfl (fun r6 H_r6 O_r6 q_r6 => ?_)
  refine yG.load xik rfl (fun _ _ => rfl) (v := yI (p1)) rfl rfl ?_
  refine yG.load xak rfl (fun _ _ => rfl) (v := yR k0) rfl rfl ?_
  refine yG.getO A_h4.1 (w_FlowS_solvable W H_k0) rfl rfl (fun r7 H_r7 O_r7 q_r7 => ?_)
  refine yG.invV (rest := []) A_h4.1 (bOb (d_Shape W) H_r6) rfl rfl rfl rfl (c_Shape_isLineIn_0 W (d + 2) A_h4.1 H_r6 H_r7 (p1) (by omega) (by omega)) (fun rv hp9 q9 => ?_)
  obtain ⟨⟨z8, rfl, l_z8, u_z8, R_z8⟩, e9⟩ := q9
  rw [e9]
  show yG _ _ _ _ _ _ _ _ _ _ (yI z8 :: []) _
  refine yG.ifz rfl (t := 97) rfl ⟨by omega, by omega⟩ (fun c9 => ?_) (fun c9 => ?_)
  · have c9 : (z8 : Int) = 0 := c9
    refine yG.ret rfl (fun _ _ => rfl) ?_
    exact (yP.void ⟨⟨rfl, trivial⟩, A_h4⟩)
  · have c9 : (z8 : Int) ≠ 0 := c9
    refine yG.load xak rfl (fun _ _ => rfl) (v := yR k2) rfl rfl ?_
    refine yG.load xak rfl (fun _ _ => rfl) (v := yR k0) rfl rfl ?_
    refine yG.getO A_h4.1 (w_FlowS_top W H_k0) rfl rfl (fun r10 H_r10 O_r10 q_r10 => ?_)
    refine yG.load xak rfl (fun _ _ => rfl) (v := yR k0) rfl rfl ?_
    refine yG.getS9 A_h4.1 (w_FlowS_shape W H_k0) q_r6 rfl rfl ?_
    refine yG.getO A_h4.1 (w_Shape_ends W H_r6) rfl rfl (fun r11 H_r11 O_r11 q_r11 => ?_)
    refine yG.load xik rfl (fun _ _ => rfl) (v := yI (p1)) rfl rfl ?_
    refine yG.aaldO (r := 57) A_h4.1 (v_Shape_ends W H_r11) rfl rfl rfl (by omega) (by omega) (fun r12 H_r12 q_r12 => ?_)
    refine yG.num (c := 0) rfl (fun _ _ => rfl) (by decide) ?_
    refine yG.iald A_h4.1 (v_Shape_endss W H_r12) rfl (by omega) (by omega) (fun z13 e_z13 i_z13 l_z13 u_z13 => ?_)
    refine yG.aaldO (r := 35) A_h4.1 (v_Big16 W H_r10) rfl rfl rfl (by omega) (by omega) (fun r14 H_r14 q_r14 => ?_)
    obtain ⟨n_r14, N_r14⟩ : ∃ n : Int, n = ((zat G r14 : Nat) : Int) := ⟨_, rfl⟩
    have L_r14 := n_Big W H_r14
    refine yG.invV (rest := []) A_h4.1 (bOb (d_Big W) H_k2) rfl rfl rfl rfl (c_Big_copy W (d + 1) A_h4.1 H_k2 H_r14) (fun rv h15 q9 => ?_)
    obtain ⟨⟨rfl, R_z16⟩, B_h15⟩ := q9
    have A_h15 := A_h4.tr B_h15 (by decide)
    have qq1 : zsl h15 k0 0 = yR r6 := (B_h15.sl H_k0 (by decide)).trans q_r6
    have qq2 : zsl h15 k0 7 = yR r10 := (B_h15.sl H_k0 (by decide)).trans q_r10
    have qq3 : zsl h15 r6 5 = yR r11 := (B_h15.sl H_r6 (by decide)).trans q_r11
    have qq4 : zsl h15 r11 (p1 : Int).toNat = yR r12 := (B_h15.sl H_r11 (bNo_ok (by decide) _)).trans q_r12
    show yG _ _ _ _ _ _ _ _ _ _ [] _
    refine yG.load xak rfl (fun _ _ => rfl) (v := yR k2) rfl rfl ?_
    refine yG.load xak rfl (fun _ _ => rfl) (v := yR k0) rfl rfl ?_
    refine yG.getS9 A_h15.1 (w_FlowS_top W H_k0) qq2 rfl rfl ?_
    refine yG.load xak rfl (fun _ _ => rfl) (v := yR k0) rfl rfl ?_
    refine yG.getS9 A_h15.1 (w_FlowS_shape W H_k0) qq1 rfl rfl ?_
    refine yG.getS9 A_h15.1 (w_Shape_ends W H_r6) qq3 rfl rfl ?_
    refine yG.load xik rfl (fun _ _ => rfl) (v := yI (p1)) rfl rfl ?_
    refine yG.aaldO (r := 57) A_h15.1 (v_Shape_ends W H_r11) rfl rfl rfl (by omega) (by omega) (fun r17 H_r17 q_r17 => ?_)
    have s_r17 : r17 = r12 := by have e9 := q_r17.symm.trans qq4; cases e9; rfl
    rw [s_r17]
    refine yG.num (c := 1) rfl (fun _ _ => rfl) (by decide) ?_
    refine yG.iald A_h15.1 (v_Shape_endss W H_r12) rfl (by omega) (by omega) (fun z18 e_z18 i_z18 l_z18 u_z18 => ?_)
    refine yG.aaldO (r := 35) A_h15.1 (v_Big16 W H_r10) rfl rfl rfl (by omega) (by omega) (fun r19 H_r19 q_r19 => ?_)
    obtain ⟨n_r19, N_r19⟩ : ∃ n : Int, n = ((zat G r19 : Nat) : Int) := ⟨_, rfl⟩
    have L_r19 := n_Big W H_r19
    refine yG.invV (rest := []) A_h15.1 (bOb (d_Big W) H_k2) rfl rfl rfl rfl (c_Big_less W d A_h15.1 H_k2 H_r19) (fun rv h20 q9 => ?_)
    obtain ⟨⟨rfl, R_z21⟩, B_h20⟩ := q9
    have A_h20 := A_h15.tr B_h20 (by decide)
    have qq5 : zsl h20 k0 0 = yR r6 := (B_h20.sl H_k0 (by decide)).trans qq1
    have qq6 : zsl h20 k0 7 = yR r10 := (B_h20.sl H_k0 (by decide)).trans qq2
    have qq7 : zsl h20 r6 5 = yR r11 := (B_h20.sl H_r6 (by decide)).trans qq3
    have qq8 : zsl h20 r11 (p1 : Int).toNat = yR r12 := (B_h20.sl H_r11 (bNo_ok (by decide) _)).trans qq4
    show yG _ _ _ _ _ _ _ _ _ _ [] _
    refine yG.load xak rfl (fun _ _ => rfl) (v := yR k3) rfl rfl ?_
    refine yG.load xak rfl (fun _ _ => rfl) (v := yR k0) rfl rfl ?_
    refine yG.getO A_h20.1 (w_FlowS_net W H_k0) rfl rfl (fun r22 H_r22 O_r22 q_r22 => ?_)
    refine yG.num (c := 2) rfl (fun _ _ => rfl) (by decide) ?_
    refine yG.load xik rfl (fun _ _ => rfl) (v := yI (p1)) rfl rfl ?_
    refine yG.num (c := 1) rfl (fun _ _ => rfl) (by decide) ?_
    refine yG.invV (rest := [yR k3]) A_h20.1 (bOb (d_Net W) H_r22) rfl rfl rfl rfl (c_Net_at_2_1 W (d + 2) A_h20.1 H_r22 (p1) (by omega) (by omega)) (fun rv hp9 q9 => ?_)
    obtain ⟨⟨z23, rfl, l_z23, u_z23, R_z23⟩, e9⟩ := q9
    rw [e9]
    show yG _ _ _ _ _ _ _ _ _ _ (yI z23 :: [yR k3]) _
    refine yG.load xak rfl (fun _ _ => rfl) (v := yR k0) rfl rfl ?_
    refine yG.getO A_h20.1 (w_FlowS_total W H_k0) rfl rfl (fun r24 H_r24 O_r24 q_r24 => ?_)
    refine yG.load xak rfl (fun _ _ => rfl) (v := yR k0) rfl rfl ?_
    refine yG.getS9 A_h20.1 (w_FlowS_shape W H_k0) qq5 rfl rfl ?_
    refine yG.load xik rfl (fun _ _ => rfl) (v := yI (p1)) rfl rfl ?_
    refine yG.invV (rest := [yR r24, yI (z23), yR k3]) A_h20.1 (bOb (d_Shape W) H_r6) rfl rfl rfl rfl (c_Shape_islandOfLine W (d + 2) A_h20.1 H_r6 (p1) (by omega) (by omega)) (fun rv hp9 q9 => ?_)
    obtain ⟨⟨z25, rfl, l_z25, u_z25, R_z25⟩, e9⟩ := q9
    rw [e9]
    show yG _ _ _ _ _ _ _ _ _ _ (yI z25 :: [yR r24, yI (z23), yR k3]) _
    refine yG.iald A_h20.1 (v_Flow_total W H_r24) rfl (by omega) (by omega) (fun z26 e_z26 i_z26 l_z26 u_z26 => ?_)
    refine yG.imul rfl ?_
    obtain ⟨z27, e_z27⟩ : ∃ z : Int, z = z23 * z26 := ⟨_, rfl⟩
    rw [← e_z27]
    have b_z27 : -212600881152 ≤ z27 ∧ z27 ≤ 212600881152 := e_z27 ▸ ymuls (A := 99) (B := 2147483648) (by omega) (by omega) (by omega) (by omega) (by decide)
    obtain ⟨z28, e_z28, l_z28, u_z28⟩ := ywI (z27)
    rw [e_z28]
    refine yG.i2l rfl ⟨by omega, by omega⟩ ?_
    refine yG.invV (rest := []) A_h20.1 (bOb (d_Big W) H_k3) rfl rfl rfl rfl (c_Big_scale W (d + 1) A_h20.1 H_k3 (z28) (by omega) (by omega)) (fun rv h29 q9 => ?_)
    obtain ⟨⟨rfl, R_z30⟩, B_h29⟩ := q9
    have A_h29 := A_h20.tr B_h29 (by decide)
    have qq9 : zsl h29 k0 0 = yR r6 := (B_h29.sl H_k0 (by decide)).trans qq5
    have qq10 : zsl h29 k0 7 = yR r10 := (B_h29.sl H_k0 (by decide)).trans qq6
    have qq11 : zsl h29 r6 5 = yR r11 := (B_h29.sl H_r6 (by decide)).trans qq7
    have qq12 : zsl h29 r11 (p1 : Int).toNat = yR r12 := (B_h29.sl H_r11 (bNo_ok (by decide) _)).trans qq8
    show yG _ _ _ _ _ _ _ _ _ _ [] _
    refine yG.ret rfl (fun _ _ => rfl) ?_
    exact (yP.void ⟨⟨rfl, trivial⟩, A_h29⟩)
theorem c_Flow_countOver_s {hp : xH} (W : bW G) (d : Nat) (hT : zTy G hp) {k0 : Nat} (H_k0 : bRo G 115 k0) : yC (xcall 89 xfts xpools xms (d + 6)) 103 [yR k0] hp (fun rv hp' => (rv = none ∧ True) ∧ bAx G [(34359738368, 1), (1133871366144, 2), (1099511627776, 3), (1099511627776, 6), (1099511627776, 7), (1099511627776, 8), (41538374868278621028243970633760768, 11), (41538374868278621028243970633760768, 14), (18029860391747584, 256)] hp hp') := by
  have A_hp : bAx G [(34359738368, 1), (1133871366144, 2), (1099511627776, 3), (1099511627776, 6), (1099511627776, 7), (1099511627776, 8), (41538374868278621028243970633760768, 11), (41538374868278621028243970633760768, 14), (18029860391747584, 256)] hp hp := bAx.rf hT
  have H : ∀ m : Nat, (∀ a1 : Int, ∀ hq, bAx G [(34359738368, 1), (1133871366144, 2), (1099511627776, 3), (1099511627776, 6), (1099511627776, 7), (1099511627776, 8), (41538374868278621028243970633760768, 11), (41538374868278621028243970633760768, 14), (18029860391747584, 256)] hp hq → 0 ≤ a1 → (-20) ≤ 0 - a1 → 0 - 2 * a1 + 41 < (m : Int) → yG 89 xfts (xcall 89 xfts xpools xms (d + 5)) (xpool xp_RX2) [] xt_X2_countOver (yP 0 (fun rv hp' => (rv = none ∧ True) ∧ bAx G [(34359738368, 1), (1133871366144, 2), (1099511627776, 3), (1099511627776, 6), (1099511627776, 7), (1099511627776, 8), (41538374868278621028243970633760768, 11), (41538374868278621028243970633760768, 14), (18029860391747584, 256)] hp hp')) (41 * m) 20 [(0, yR k0), (1, yI (a1))] [] hq) := by
    intro m
    induction m with
    | zero =>
      intros; exfalso; omega
    | succ m ih =>
      have i_20 := ih
      clear ih
      intro a1 hq A_hq f0 f1 hm
      refine yG.mono (N := 41 * m + 41) ?_ (by omega)
      refine yG.load xik rfl (fun _ _ => rfl) (v := yI (a1)) rfl rfl ?_
      refine yG.load xak rfl (fun _ _ => rfl) (v := yR k0) rfl rfl ?_
      refine yG.getO A_hq.1 (w_FlowS_net W H_k0) rfl rfl (fun r1 H_r1 O_r1 q_r1 => ?_)
      refine yG.getO A_hq.1 (w_Net_count W H_r1) rfl rfl (fun r2 H_r2 O_r2 q_r2 => ?_)
      refine yG.num (c := 2) rfl (fun _ _ => rfl) (by decide) ?_
      refine yG.ialdF A_hq.1 (v_Net_count W H_r2) rfl rfl (by omega) (by omega) (fun z3 e_z3 i_z3 l_z3 u_z3 => ?_)
      refine yG.icmp rfl (t := 98) rfl ⟨by omega, by omega⟩ ⟨by omega, by omega⟩ (fun c4 => ?_) (fun c4 => ?_)
      · have c4 : (a1 : Int) ≥ z3 := c4
        refine yG.ret rfl (fun _ _ => rfl) ?_
        exact (yP.void ⟨⟨rfl, trivial⟩, A_hq⟩)
      · have c4 : (a1 : Int) < z3 := c4
        refine yG.load xak rfl (fun _ _ => rfl) (v := yR k0) rfl rfl ?_
        refine yG.load xik rfl (fun _ _ => rfl) (v := yI (a1)) rfl rfl ?_
        refine yG.load xak rfl (fun _ _ => rfl) (v := yR k0) rfl rfl ?_
        refine yG.getO A_hq.1 (w_FlowS_one W H_k0) rfl rfl (fun r5 H_r5 O_r5 q_r5 => ?_)
        obtain ⟨n_r5, N_r5⟩ : ∃ n : Int, n = ((zat G r5 : Nat) : Int) := ⟨_, rfl⟩
        have L_r5 := n_Big W H_r5
        refine yG.load xak rfl (fun _ _ => rfl) (v := yR k0) rfl rfl ?_
        refine yG.getO A_hq.1 (w_FlowS_other W H_k0) rfl rfl (fun r6 H_r6 O_r6 q_r6 => ?_)
        obtain ⟨n_r6, N_r6⟩ : ∃ n : Int, n = ((zat G r6 : Nat) : Int) := ⟨_, rfl⟩
        have L_r6 := n_Big W H_r6
        refine yG.invV (rest := []) A_hq.1 (bOb (d_FlowS W) H_k0) rfl rfl rfl rfl (c_Flow_carried_s W (d + 1) A_hq.1 H_k0 H_r5 H_r6 (a1) (by omega) (by omega)) (fun rv h7 q9 => ?_)
        obtain ⟨⟨rfl, R_z8⟩, B_h7⟩ := q9
        have A_h7 := A_hq.tr B_h7 (by decide)
        have qq1 : zsl h7 k0 1 = yR r1 := (B_h7.sl H_k0 (by decide)).trans q_r1
        have qq2 : zsl h7 k0 9 = yR r5 := (B_h7.sl H_k0 (by decide)).trans q_r5
        have qq3 : zsl h7 k0 10 = yR r6 := (B_h7.sl H_k0 (by decide)).trans q_r6
        show yG _ _ _ _ _ _ _ _ _ _ [] _
        refine yG.load xak rfl (fun _ _ => rfl) (v := yR k0) rfl rfl ?_
        refine yG.getS9 A_h7.1 (w_FlowS_other W H_k0) qq3 rfl rfl ?_
        refine yG.load xak rfl (fun _ _ => rfl) (v := yR k0) rfl rfl ?_
        refine yG.getS9 A_h7.1 (w_FlowS_net W H_k0) qq1 rfl rfl ?_
        refine yG.num (c := 2) rfl (fun _ _ => rfl) (by decide) ?_
        refine yG.load xik rfl (fun _ _ => rfl) (v := yI (a1)) rfl rfl ?_
        refine yG.num (c := 3) rfl (fun _ _ => rfl) (by decide) ?_
        refine yG.invV (rest := [yR r6]) A_h7.1 (bOb (d_Net W) H_r1) rfl rfl rfl rfl (c_Net_at_2_3 W (d + 4) A_h7.1 H_r1 (a1) (by omega) (by omega)) (fun rv hp9 q9 => ?_)
        obtain ⟨⟨z9, rfl, l_z9, u_z9, R_z9⟩, e9⟩ := q9
        rw [e9]
        show yG _ _ _ _ _ _ _ _ _ _ (yI z9 :: [yR r6]) _
        refine yG.i2l rfl ⟨by omega, by omega⟩ ?_
        refine yG.invV (rest := []) A_h7.1 (bOb (d_Big W) H_r6) rfl rfl rfl rfl (c_Big_scale W (d + 3) A_h7.1 H_r6 (z9) (by omega) (by omega)) (fun rv h10 q9 => ?_)
        obtain ⟨⟨rfl, R_z11⟩, B_h10⟩ := q9
        have A_h10 := A_h7.tr B_h10 (by decide)
        have qq4 : zsl h10 k0 1 = yR r1 := (B_h10.sl H_k0 (by decide)).trans qq1
        have qq5 : zsl h10 k0 9 = yR r5 := (B_h10.sl H_k0 (by decide)).trans qq2
        have qq6 : zsl h10 k0 10 = yR r6 := (B_h10.sl H_k0 (by decide)).trans qq3
        show yG _ _ _ _ _ _ _ _ _ _ [] _
        refine yG.load xak rfl (fun _ _ => rfl) (v := yR k0) rfl rfl ?_
        refine yG.step (pc' := 66) (stk' := [yR k0, yR k0]) rfl (fun _ _ => rfl) ?_
        refine yG.getI A_h10.1 (w_FlowS_overs W H_k0) rfl rfl (fun z12 e_z12 i_z12 l_z12 u_z12 => ?_)
        refine yG.load xak rfl (fun _ _ => rfl) (v := yR k0) rfl rfl ?_
        refine yG.getS9 A_h10.1 (w_FlowS_one W H_k0) qq5 rfl rfl ?_
        refine yG.load xak rfl (fun _ _ => rfl) (v := yR k0) rfl rfl ?_
        refine yG.getS9 A_h10.1 (w_FlowS_other W H_k0) qq6 rfl rfl ?_
        refine yG.invV (rest := [yI (z12), yR k0]) A_h10.1 (bOb (d_Big W) H_r5) rfl rfl rfl rfl (c_Big_compareSize W (d + 4) A_h10.1 H_r5 H_r6) (fun rv hp9 q9 => ?_)
        obtain ⟨⟨z13, rfl, l_z13, u_z13, R_z13⟩, e9⟩ := q9
        rw [e9]
        show yG _ _ _ _ _ _ _ _ _ _ (yI z13 :: [yI (z12), yR k0]) _
        refine yG.ifz rfl (t := 87) rfl ⟨by omega, by omega⟩ (fun c14 => ?_) (fun c14 => ?_)
        · have c14 : (z13 : Int) ≤ 0 := c14
          refine yG.num (c := 0) rfl (fun _ _ => rfl) (by decide) ?_
          refine yG.iadd rfl ?_
          refine yG.putI A_h10.1 (w_FlowS_overs W H_k0) (W.2.1 _ _ H_k0 (by decide) (by decide)) rfl rfl (.inl rfl) ⟨by omega, by omega⟩ (by omega) (by omega) (fun h15 T_h15 b_h15 f_h15 y_h15 => ?_)
          have A_h15 := A_h10.put T_h15 b_h15 f_h15 H_k0 (by decide)
          have qq7 : zsl h15 k0 1 = yR r1 := ((f_h15 k0 1).trans (if_neg (fun e => absurd e.2 (by decide)))).trans qq4
          have qq8 : zsl h15 k0 9 = yR r5 := ((f_h15 k0 9).trans (if_neg (fun e => absurd e.2 (by decide)))).trans qq5
          have qq9 : zsl h15 k0 10 = yR r6 := ((f_h15 k0 10).trans (if_neg (fun e => absurd e.2 (by decide)))).trans qq6
          refine yG.iinc rfl (a := a1) rfl (L' := [(1, yI (a1 + 1)), (0, yR k0)]) rfl ?_
          refine yG.goto rfl (t := 20) rfl ?_
          exact yG.mono (yG.sub (i_20 (a1 + 1)  h15 A_h15   (by omega) (by omega) (by omega)) (ySub.cons rfl (ySub.cons rfl (ySub.nil)))) (by omega)
        · have c14 : (z13 : Int) > 0 := c14
          refine yG.num (c := 1) rfl (fun _ _ => rfl) (by decide) ?_
          refine yG.goto rfl (t := 88) rfl ?_
          refine yG.iadd rfl ?_
          obtain ⟨z17, e_z17, l_z17, u_z17⟩ := ywI (z12 + 1)
          rw [e_z17]
          refine yG.putI A_h10.1 (w_FlowS_overs W H_k0) (W.2.1 _ _ H_k0 (by decide) (by decide)) rfl rfl (.inl rfl) ⟨by omega, by omega⟩ (by omega) (by omega) (fun h16 T_h16 b_h16 f_h16 y_h16 => ?_)
          have A_h16 := A_h10.put T_h16 b_h16 f_h16 H_k0 (by decide)
          have qq10 : zsl h16 k0 1 = yR r1 := ((f_h16 k0 1).trans (if_neg (fun e => absurd e.2 (by decide)))).trans qq4
          have qq11 : zsl h16 k0 9 = yR r5 := ((f_h16 k0 9).trans (if_neg (fun e => absurd e.2 (by decide)))).trans qq5
          have qq12 : zsl h16 k0 10 = yR r6 := ((f_h16 k0 10).trans (if_neg (fun e => absurd e.2 (by decide)))).trans qq6
          refine yG.iinc rfl (a := a1) rfl (L' := [(1, yI (a1 + 1)), (0, yR k0)]) rfl ?_
          refine yG.goto rfl (t := 20) rfl ?_
          exact yG.mono (yG.sub (i_20 (a1 + 1)  h16 A_h16   (by omega) (by omega) (by omega)) (ySub.cons rfl (ySub.cons rfl (ySub.nil)))) (by omega)
  refine yC.of (M := (xt_X2_countOver, (2, (0, (3, []))))) rfl rfl (N := 1804) (yfuel (by decide)) ?_
  show yG 89 xfts (xcall 89 xfts xpools xms (d + 5)) (xpool xp_RX2) [] xt_X2_countOver (yP 0 (fun rv hp' => (rv = none ∧ True) ∧ bAx G [(34359738368, 1), (1133871366144, 2), (1099511627776, 3), (1099511627776, 6), (1099511627776, 7), (1099511627776, 8), (41538374868278621028243970633760768, 11), (41538374868278621028243970633760768, 14), (18029860391747584, 256)] hp hp')) 1804 0 [(0, yR k0)] [] hp
  have i_20 := H 43
  refine yG.load xak rfl (fun _ _ => rfl) (v := yR k0) rfl rfl ?_
  refine yG.getI A_hp.1 (w_FlowS_overs W H_k0) rfl rfl (fun z1 e_z1 i_z1 l_z1 u_z1 => ?_)
  refine yG.num (c := -1) rfl (fun _ _ => rfl) (by decide) ?_
  refine yG.icmp rfl (t := 9) rfl ⟨by omega, by omega⟩ ⟨by omega, by omega⟩ (fun c2 => ?_) (fun c2 => ?_)
  · have c2 : (z1 : Int) = (-1) := c2
    refine yG.load xak rfl (fun _ _ => rfl) (v := yR k0) rfl rfl ?_
    refine yG.invV (rest := []) A_hp.1 (bOb (d_FlowS W) H_k0) rfl rfl rfl rfl (c_Flow_solve_s W d A_hp.1 H_k0) (fun rv h3 q9 => ?_)
    obtain ⟨⟨rfl, R_z4⟩, B_h3⟩ := q9
    have A_h3 := A_hp.tr B_h3 (by decide)
    show yG _ _ _ _ _ _ _ _ _ _ [] _
    refine yG.load xak rfl (fun _ _ => rfl) (v := yR k0) rfl rfl ?_
    refine yG.num (c := 0) rfl (fun _ _ => rfl) (by decide) ?_
    refine yG.putI A_h3.1 (w_FlowS_overs W H_k0) (W.2.1 _ _ H_k0 (by decide) (by decide)) rfl rfl (.inl rfl) ⟨by omega, by omega⟩ (by omega) (by omega) (fun h5 T_h5 b_h5 f_h5 y_h5 => ?_)
    have A_h5 := A_h3.put T_h5 b_h5 f_h5 H_k0 (by decide)
    refine yG.num (c := 0) rfl (fun _ _ => rfl) (by decide) ?_
    refine yG.store1 xik (L' := [(1, yI (0)), (0, yR k0)]) rfl (fun _ _ => rfl) rfl rfl ?_
    exact yG.mono (yG.sub (i_20 (0)  h5 A_h5   (by omega) (by omega) (by omega)) (ySub.cons rfl (ySub.cons rfl (ySub.nil)))) (by omega)
  · have c2 : (z1 : Int) ≠ (-1) := c2
    refine yG.ret rfl (fun _ _ => rfl) ?_
    exact (yP.void ⟨⟨rfl, trivial⟩, A_hp⟩)
theorem c_Flow_tellAngle {hp : xH} (W : bW G) (d : Nat) (hT : zTy G hp) {k0 : Nat} (H_k0 : bRo G 44 k0) {k2 : Nat} (H_k2 : bRo G 34 k2) (p1 : Int) (h1l : 0 ≤ p1) (h1u : p1 ≤ 15) : yC (xcall 89 xfts xpools xms (d + 6)) 110 [yR k0, yI (p1), yR k2] hp (fun rv hp' => (rv = none ∧ True) ∧ bAx G [(34359738368, 1), (1133871366144, 2), (1099511627776, 3), (1099511627776, 6), (1099511627776, 7), (1099511627776, 8), (17592186044416, 11), (18029860391747584, 256)] hp hp') := by
  have A_hp : bAx G [(34359738368, 1), (1133871366144, 2), (1099511627776, 3), (1099511627776, 6), (1099511627776, 7), (1099511627776, 8), (17592186044416, 11), (18029860391747584, 256)] hp hp := bAx.rf hT
  refine yC.of (M := (xt_X2_tellAngle, (3, (0, (3, []))))) rfl rfl (N := 99) (yfuel (by decide)) ?_
  show yG 89 xfts (xcall 89 xfts xpools xms (d + 5)) (xpool xp_RX2) [] xt_X2_tellAngle (yP 0 (fun rv hp' => (rv = none ∧ True) ∧ bAx G [(34359738368, 1), (1133871366144, 2), (1099511627776, 3), (1099511627776, 6), (1099511627776, 7), (1099511627776, 8), (17592186044416, 11), (18029860391747584, 256)] hp hp')) 99 0 [(0, yR k0), (1, yI (p1)), (2, yR k2)] [] hp
  refine yG.load xak rfl (fun _ _ => rfl) (v := yR k0) rfl rfl ?_
  refine yG.invV (rest := []) A_hp.1 (bOb (d_Flow W) H_k0) rfl rfl rfl rfl (c_Flow_solve_m W d A_hp.1 H_k0) (fun rv h1 q9 => ?_)
  obtain ⟨⟨rfl, R_z2⟩, B_h1⟩ := q9
  have A_h1 := A_hp.tr B_h1 (by decide)
  show yG _ _ _ _ _ _ _ _ _ _ [] _
  refine yG.load xak rfl (fun _ _ => rfl) (v := yR k2) rfl rfl ?_
  refine yG.getO A_h1.1 (w_Hand_above W H_k2) rfl rfl (fun r3 H_r3 O_r3 q_r3 => ?_)
  obtain ⟨n_r3, N_r3⟩ : ∃ n : Int, n = ((zat G r3 : Nat) : Int) := ⟨_, rfl⟩
  have L_r3 := n_Big W H_r3
  refine yG.load xak rfl (fun _ _ => rfl) (v := yR k0) rfl rfl ?_
  refine yG.getO A_h1.1 (w_Flow_top W H_k0) rfl rfl (fun r4 H_r4 O_r4 q_r4 => ?_)
  refine yG.load xak rfl (fun _ _ => rfl) (v := yR k0) rfl rfl ?_
  refine yG.getO A_h1.1 (w_Flow_shape W H_k0) rfl rfl (fun r5 H_r5 O_r5 q_r5 => ?_)
  refine yG.getO A_h1.1 (w_Shape_node W H_r5) rfl rfl (fun r6 H_r6 O_r6 q_r6 => ?_)
  refine yG.load xik rfl (fun _ _ => rfl) (v := yI (p1)) rfl rfl ?_
  refine yG.ialdF A_h1.1 (v_Shape_node W H_r6) rfl rfl (by omega) (by omega) (fun z7 e_z7 i_z7 l_z7 u_z7 => ?_)
  refine yG.aaldO (r := 35) A_h1.1 (v_Big16 W H_r4) rfl rfl rfl (by omega) (by omega) (fun r8 H_r8 q_r8 => ?_)
  obtain ⟨n_r8, N_r8⟩ : ∃ n : Int, n = ((zat G r8 : Nat) : Int) := ⟨_, rfl⟩
  have L_r8 := n_Big W H_r8
  refine yG.invV (rest := []) A_h1.1 (bOb (d_Big W) H_r3) rfl rfl rfl rfl (c_Big_copy W (d + 3) A_h1.1 H_r3 H_r8) (fun rv h9 q9 => ?_)
  obtain ⟨⟨rfl, R_z10⟩, B_h9⟩ := q9
  have A_h9 := A_h1.tr B_h9 (by decide)
  have qq1 : zsl h9 k0 0 = yR r5 := (B_h9.sl H_k0 (by decide)).trans q_r5
  show yG _ _ _ _ _ _ _ _ _ _ [] _
  refine yG.load xak rfl (fun _ _ => rfl) (v := yR k2) rfl rfl ?_
  refine yG.getO A_h9.1 (w_Hand_below W H_k2) rfl rfl (fun r11 H_r11 O_r11 q_r11 => ?_)
  obtain ⟨n_r11, N_r11⟩ : ∃ n : Int, n = ((zat G r11 : Nat) : Int) := ⟨_, rfl⟩
  have L_r11 := n_Big W H_r11
  refine yG.load xak rfl (fun _ _ => rfl) (v := yR k0) rfl rfl ?_
  refine yG.getO A_h9.1 (w_Flow_whole W H_k0) rfl rfl (fun r12 H_r12 O_r12 q_r12 => ?_)
  obtain ⟨n_r12, N_r12⟩ : ∃ n : Int, n = ((zat G r12 : Nat) : Int) := ⟨_, rfl⟩
  have L_r12 := n_Big W H_r12
  refine yG.invV (rest := []) A_h9.1 (bOb (d_Big W) H_r11) rfl rfl rfl rfl (c_Big_copy W (d + 3) A_h9.1 H_r11 H_r12) (fun rv h13 q9 => ?_)
  obtain ⟨⟨rfl, R_z14⟩, B_h13⟩ := q9
  have A_h13 := A_h9.tr B_h13 (by decide)
  have qq2 : zsl h13 k0 0 = yR r5 := (B_h13.sl H_k0 (by decide)).trans qq1
  have qq3 : zsl h13 k2 1 = yR r11 := (B_h13.sl H_k2 (by decide)).trans q_r11
  show yG _ _ _ _ _ _ _ _ _ _ [] _
  refine yG.load xak rfl (fun _ _ => rfl) (v := yR k2) rfl rfl ?_
  refine yG.getS9 A_h13.1 (w_Hand_below W H_k2) qq3 rfl rfl ?_
  refine yG.load xak rfl (fun _ _ => rfl) (v := yR k0) rfl rfl ?_
  refine yG.getO A_h13.1 (w_Flow_total W H_k0) rfl rfl (fun r15 H_r15 O_r15 q_r15 => ?_)
  refine yG.load xak rfl (fun _ _ => rfl) (v := yR k0) rfl rfl ?_
  refine yG.getS9 A_h13.1 (w_Flow_shape W H_k0) qq2 rfl rfl ?_
  refine yG.getO A_h13.1 (w_Shape_island W H_r5) rfl rfl (fun r16 H_r16 O_r16 q_r16 => ?_)
  refine yG.load xik rfl (fun _ _ => rfl) (v := yI (p1)) rfl rfl ?_
  refine yG.ialdF A_h13.1 (v_Shape_island W H_r16) rfl rfl (by omega) (by omega) (fun z17 e_z17 i_z17 l_z17 u_z17 => ?_)
  refine yG.iald A_h13.1 (v_Flow_total W H_r15) rfl (by omega) (by omega) (fun z18 e_z18 i_z18 l_z18 u_z18 => ?_)
  refine yG.i2l rfl ⟨by omega, by omega⟩ ?_
  refine yG.invV (rest := []) A_h13.1 (bOb (d_Big W) H_r11) rfl rfl rfl rfl (c_Big_scale W (d + 3) A_h13.1 H_r11 (z18) (by omega) (by omega)) (fun rv h19 q9 => ?_)
  obtain ⟨⟨rfl, R_z20⟩, B_h19⟩ := q9
  have A_h19 := A_h13.tr B_h19 (by decide)
  have qq4 : zsl h19 k0 0 = yR r5 := (B_h19.sl H_k0 (by decide)).trans qq2
  have qq5 : zsl h19 k2 1 = yR r11 := (B_h19.sl H_k2 (by decide)).trans qq3
  show yG _ _ _ _ _ _ _ _ _ _ [] _
  refine yG.ret rfl (fun _ _ => rfl) ?_
  exact (yP.void ⟨⟨rfl, trivial⟩, A_h19⟩)
theorem c_Flow_tellGiven {hp : xH} (W : bW G) (d : Nat) (hT : zTy G hp) {k0 : Nat} (H_k0 : bRo G 44 k0) {k2 : Nat} (H_k2 : bRo G 34 k2) (p1 : Int) (h1l : 0 ≤ p1) (h1u : p1 ≤ 5) : yC (xcall 89 xfts xpools xms (d + 3)) 112 [yR k0, yI (p1), yR k2] hp (fun rv hp' => (rv = none ∧ True) ∧ bAx G [(34359738368, 1), (34359738368, 2), (68719476736, 256)] hp hp') := by
  have A_hp : bAx G [(34359738368, 1), (34359738368, 2), (68719476736, 256)] hp hp := bAx.rf hT
  refine yC.of (M := (xt_X2_tellGiven, (3, (0, (3, []))))) rfl rfl (N := 63) (yfuel (by decide)) ?_
  show yG 89 xfts (xcall 89 xfts xpools xms (d + 2)) (xpool xp_RX2) [] xt_X2_tellGiven (yP 0 (fun rv hp' => (rv = none ∧ True) ∧ bAx G [(34359738368, 1), (34359738368, 2), (68719476736, 256)] hp hp')) 63 0 [(0, yR k0), (1, yI (p1)), (2, yR k2)] [] hp
  refine yG.load xak rfl (fun _ _ => rfl) (v := yR k2) rfl rfl ?_
  refine yG.getO A_hp.1 (w_Hand_above W H_k2) rfl rfl (fun r1 H_r1 O_r1 q_r1 => ?_)
  obtain ⟨n_r1, N_r1⟩ : ∃ n : Int, n = ((zat G r1 : Nat) : Int) := ⟨_, rfl⟩
  have L_r1 := n_Big W H_r1
  refine yG.load xak rfl (fun _ _ => rfl) (v := yR k0) rfl rfl ?_
  refine yG.load xik rfl (fun _ _ => rfl) (v := yI (p1)) rfl rfl ?_
  refine yG.invV (rest := [yR r1]) A_hp.1 (bOb (d_Flow W) H_k0) rfl rfl rfl rfl (c_Flow_given_m W d A_hp.1 H_k0 (p1) (by omega) (by omega)) (fun rv hp9 q9 => ?_)
  obtain ⟨⟨z2, rfl, l_z2, u_z2, R_z2⟩, e9⟩ := q9
  rw [e9]
  show yG _ _ _ _ _ _ _ _ _ _ (yI z2 :: [yR r1]) _
  refine yG.i2l rfl ⟨by omega, by omega⟩ ?_
  refine yG.invV (rest := []) A_hp.1 (bOb (d_Big W) H_r1) rfl rfl rfl rfl (c_Big_put W d A_hp.1 H_r1 (z2) (by omega) (by omega)) (fun rv h3 q9 => ?_)
  obtain ⟨⟨rfl, R_z4⟩, B_h3⟩ := q9
  have A_h3 := A_hp.tr B_h3 (by decide)
  show yG _ _ _ _ _ _ _ _ _ _ [] _
  refine yG.load xak rfl (fun _ _ => rfl) (v := yR k2) rfl rfl ?_
  refine yG.getO A_h3.1 (w_Hand_below W H_k2) rfl rfl (fun r5 H_r5 O_r5 q_r5 => ?_)
  obtain ⟨n_r5, N_r5⟩ : ∃ n : Int, n = ((zat G r5 : Nat) : Int) := ⟨_, rfl⟩
  have L_r5 := n_Big W H_r5
  refine yG.load xak rfl (fun _ _ => rfl) (v := yR k0) rfl rfl ?_
  refine yG.getO A_h3.1 (w_Flow_total W H_k0) rfl rfl (fun r6 H_r6 O_r6 q_r6 => ?_)
  refine yG.load xak rfl (fun _ _ => rfl) (v := yR k0) rfl rfl ?_
  refine yG.getO A_h3.1 (w_Flow_shape W H_k0) rfl rfl (fun r7 H_r7 O_r7 q_r7 => ?_)
  refine yG.load xik rfl (fun _ _ => rfl) (v := yI (p1)) rfl rfl ?_
  refine yG.invV (rest := [yR r6, yR r5]) A_h3.1 (bOb (d_Shape W) H_r7) rfl rfl rfl rfl (c_Shape_islandOfMachine W (d + 1) A_h3.1 H_r7 (p1) (by omega) (by omega)) (fun rv hp9 q9 => ?_)
  obtain ⟨⟨z8, rfl, l_z8, u_z8, R_z8⟩, e9⟩ := q9
  rw [e9]
  show yG _ _ _ _ _ _ _ _ _ _ (yI z8 :: [yR r6, yR r5]) _
  refine yG.iald A_h3.1 (v_Flow_total W H_r6) rfl (by omega) (by omega) (fun z9 e_z9 i_z9 l_z9 u_z9 => ?_)
  refine yG.i2l rfl ⟨by omega, by omega⟩ ?_
  refine yG.invV (rest := []) A_h3.1 (bOb (d_Big W) H_r5) rfl rfl rfl rfl (c_Big_put W d A_h3.1 H_r5 (z9) (by omega) (by omega)) (fun rv h10 q9 => ?_)
  obtain ⟨⟨rfl, R_z11⟩, B_h10⟩ := q9
  have A_h10 := A_h3.tr B_h10 (by decide)
  show yG _ _ _ _ _ _ _ _ _ _ [] _
  refine yG.ret rfl (fun _ _ => rfl) ?_
  exact (yP.void ⟨⟨rfl, trivial⟩, A_h10⟩)
theorem c_Flow_tellCarried {hp : xH} (W : bW G) (d : Nat) (hT : zTy G hp) {k0 : Nat} (H_k0 : bRo G 44 k0) {k2 : Nat} (H_k2 : bRo G 34 k2) (p1 : Int) (h1l : 0 ≤ p1) (h1u : p1 ≤ 19) : yC (xcall 89 xfts xpools xms (d + 6)) 111 [yR k0, yI (p1), yR k2] hp (fun rv hp' => (rv = none ∧ True) ∧ bAx G [(34359738368, 1), (1133871366144, 2), (1099511627776, 3), (1099511627776, 6), (1099511627776, 7), (1099511627776, 8), (17592186044416, 11), (18029860391747584, 256)] hp hp') := by
  have A_hp : bAx G [(34359738368, 1), (1133871366144, 2), (1099511627776, 3), (1099511627776, 6), (1099511627776, 7), (1099511627776, 8), (17592186044416, 11), (18029860391747584, 256)] hp hp := bAx.rf hT
  refine yC.of (M := (xt_X2_tellCarried, (3, (0, (3, []))))) rfl rfl (N := 36) (yfuel (by decide)) ?_
  show yG 89 xfts (xcall 89 xfts xpools xms (d + 5)) (xpool xp_RX2) [] xt_X2_tellCarried (yP 0 (fun rv hp' => (rv = none ∧ True) ∧ bAx G [(34359738368, 1), (1133871366144, 2), (1099511627776, 3), (1099511627776, 6), (1099511627776, 7), (1099511627776, 8), (17592186044416, 11), (18029860391747584, 256)] hp hp')) 36 0 [(0, yR k0), (1, yI (p1)), (2, yR k2)] [] hp
  refine yG.load xak rfl (fun _ _ => rfl) (v := yR k0) rfl rfl ?_
  refine yG.invV (rest := []) A_hp.1 (bOb (d_Flow W) H_k0) rfl rfl rfl rfl (c_Flow_solve_m W d A_hp.1 H_k0) (fun rv h1 q9 => ?_)
  obtain ⟨⟨rfl, R_z2⟩, B_h1⟩ := q9
  have A_h1 := A_hp.tr B_h1 (by decide)
  show yG _ _ _ _ _ _ _ _ _ _ [] _
  refine yG.load xak rfl (fun _ _ => rfl) (v := yR k0) rfl rfl ?_
  refine yG.load xik rfl (fun _ _ => rfl) (v := yI (p1)) rfl rfl ?_
  refine yG.load xak rfl (fun _ _ => rfl) (v := yR k2) rfl rfl ?_
  refine yG.getO A_h1.1 (w_Hand_above W H_k2) rfl rfl (fun r3 H_r3 O_r3 q_r3 => ?_)
  obtain ⟨n_r3, N_r3⟩ : ∃ n : Int, n = ((zat G r3 : Nat) : Int) := ⟨_, rfl⟩
  have L_r3 := n_Big W H_r3
  refine yG.load xak rfl (fun _ _ => rfl) (v := yR k2) rfl rfl ?_
  refine yG.getO A_h1.1 (w_Hand_below W H_k2) rfl rfl (fun r4 H_r4 O_r4 q_r4 => ?_)
  obtain ⟨n_r4, N_r4⟩ : ∃ n : Int, n = ((zat G r4 : Nat) : Int) := ⟨_, rfl⟩
  have L_r4 := n_Big W H_r4
  refine yG.invV (rest := []) A_h1.1 (bOb (d_Flow W) H_k0) rfl rfl rfl rfl (c_Flow_carried_m W (d + 1) A_h1.1 H_k0 H_r3 H_r4 (p1) (by omega) (by omega)) (fun rv h5 q9 => ?_)
  obtain ⟨⟨rfl, R_z6⟩, B_h5⟩ := q9
  have A_h5 := A_h1.tr B_h5 (by decide)
  show yG _ _ _ _ _ _ _ _ _ _ [] _
  refine yG.ret rfl (fun _ _ => rfl) ?_
  exact (yP.void ⟨⟨rfl, trivial⟩, A_h5⟩)
theorem c_Flow_note {hp : xH} (W : bW G) (d : Nat) (hT : zTy G hp) {k0 : Nat} (H_k0 : bRo G 44 k0) {k2 : Nat} (H_k2 : bRo G 115 k2) (p1 : Int) (h1l : 0 ≤ p1) (h1u : p1 ≤ 19) (q0l : 0 ≤ ys hp k0 15) (q0u : ys hp k0 15 ≤ 20) : yC (xcall 89 xfts xpools xms (d + 1)) 108 [yR k0, yI (p1), yR k2] hp (fun rv hp' => (fun rv hp' => (rv = none ∧ True) ∧ bAx G [(17592186044416, 15), (1125899906842624, 256)] hp hp') rv hp' ∧ (0 ≤ ys hp' k0 15 ∧ ys hp' k0 15 ≤ 20)) := by
  have A_hp : bAx G [(17592186044416, 15), (1125899906842624, 256)] hp hp := bAx.rf hT
  refine yC.of (M := (xt_X2_note, (5, (0, (3, []))))) rfl rfl (N := 216) (yfuel (by decide)) ?_
  show yG 89 xfts (xcall 89 xfts xpools xms d) (xpool xp_RX2) [] xt_X2_note (yP 0 (fun rv hp' => (fun rv hp' => (rv = none ∧ True) ∧ bAx G [(17592186044416, 15), (1125899906842624, 256)] hp hp') rv hp' ∧ (0 ≤ ys hp' k0 15 ∧ ys hp' k0 15 ≤ 20))) 216 0 [(0, yR k0), (1, yI (p1)), (2, yR k2)] [] hp
  obtain ⟨gg0, E_0⟩ : ∃ z : Int, ys hp k0 15 = z := ⟨_, rfl⟩
  obtain ⟨-, -, g_0l, g_0u⟩ := (w_Flow_troubles W H_k0).int hT
  refine yG.load xak rfl (fun _ _ => rfl) (v := yR k2) rfl rfl ?_
  refine yG.getI A_hp.1 (w_FlowS_stuckCount W H_k2) rfl rfl (fun z1 e_z1 i_z1 l_z1 u_z1 => ?_)
  refine yG.load xak rfl (fun _ _ => rfl) (v := yR k0) rfl rfl ?_
  refine yG.getI A_hp.1 (w_Flow_stuckCount W H_k0) rfl rfl (fun z2 e_z2 i_z2 l_z2 u_z2 => ?_)
  refine yG.icmp rfl (t := 15) rfl ⟨by omega, by omega⟩ ⟨by omega, by omega⟩ (fun c3 => ?_) (fun c3 => ?_)
  · have c3 : (z1 : Int) ≤ z2 := c3
    refine yG.load xak rfl (fun _ _ => rfl) (v := yR k2) rfl rfl ?_
    refine yG.getI A_hp.1 (w_FlowS_lost W H_k2) rfl rfl (fun z4 e_z4 i_z4 l_z4 u_z4 => ?_)
    refine yG.load xak rfl (fun _ _ => rfl) (v := yR k0) rfl rfl ?_
    refine yG.getI A_hp.1 (w_Flow_lost W H_k0) rfl rfl (fun z5 e_z5 i_z5 l_z5 u_z5 => ?_)
    refine yG.icmp rfl (t := 30) rfl ⟨by omega, by omega⟩ ⟨by omega, by omega⟩ (fun c6 => ?_) (fun c6 => ?_)
    · have c6 : (z4 : Int) ≤ z5 := c6
      refine yG.load xak rfl (fun _ _ => rfl) (v := yR k2) rfl rfl ?_
      refine yG.getI A_hp.1 (w_FlowS_overs W H_k2) rfl rfl (fun z7 e_z7 i_z7 l_z7 u_z7 => ?_)
      refine yG.load xak rfl (fun _ _ => rfl) (v := yR k0) rfl rfl ?_
      refine yG.getI A_hp.1 (w_Flow_overs W H_k0) rfl rfl (fun z8 e_z8 i_z8 l_z8 u_z8 => ?_)
      refine yG.icmp rfl (t := 45) rfl ⟨by omega, by omega⟩ ⟨by omega, by omega⟩ (fun c9 => ?_) (fun c9 => ?_)
      · have c9 : (z7 : Int) ≤ z8 := c9
        refine yG.num (c := 0) rfl (fun _ _ => rfl) (by decide) ?_
        refine yG.store1 xik (L' := [(3, yI (0)), (0, yR k0), (1, yI (p1)), (2, yR k2)]) rfl (fun _ _ => rfl) rfl rfl ?_
        refine yG.load xak rfl (fun _ _ => rfl) (v := yR k0) rfl rfl ?_
        refine yG.getI A_hp.1 (w_Flow_troubles W H_k0) rfl rfl (fun z10 e_z10 i_z10 l_z10 u_z10 => ?_)
        refine yG.num (c := 4) rfl (fun _ _ => rfl) (by decide) ?_
        refine yG.imul rfl ?_
        obtain ⟨z11, e_z11⟩ : ∃ z : Int, z = z10 * 4 := ⟨_, rfl⟩
        rw [← e_z11]
        refine yG.store1 xik (L' := [(4, yI (z11)), (3, yI (0)), (0, yR k0), (1, yI (p1)), (2, yR k2)]) rfl (fun _ _ => rfl) rfl rfl ?_
        refine yG.load xik rfl (fun _ _ => rfl) (v := yI (0)) rfl rfl ?_
        refine yG.ifz rfl (t := 130) rfl ⟨by omega, by omega⟩ (fun c12 => ?_) (fun c12 => ?_)
        · have c12 : (0 : Int) = 0 := c12
          refine yG.ret rfl (fun _ _ => rfl) ?_
          exact (yP.void ⟨⟨⟨rfl, trivial⟩, A_hp⟩, by omega, by omega⟩)
        · have c12 : (0 : Int) ≠ 0 := c12
          exfalso; omega
      · have c9 : (z7 : Int) > z8 := c9
        refine yG.num (c := 3) rfl (fun _ _ => rfl) (by decide) ?_
        refine yG.goto rfl (t := 46) rfl ?_
        refine yG.store1 xik (L' := [(3, yI (3)), (0, yR k0), (1, yI (p1)), (2, yR k2)]) rfl (fun _ _ => rfl) rfl rfl ?_
        refine yG.load xak rfl (fun _ _ => rfl) (v := yR k0) rfl rfl ?_
        refine yG.getI A_hp.1 (w_Flow_troubles W H_k0) rfl rfl (fun z13 e_z13 i_z13 l_z13 u_z13 => ?_)
        refine yG.num (c := 4) rfl (fun _ _ => rfl) (by decide) ?_
        refine yG.imul rfl ?_
        obtain ⟨z14, e_z14⟩ : ∃ z : Int, z = z13 * 4 := ⟨_, rfl⟩
        rw [← e_z14]
        refine yG.store1 xik (L' := [(4, yI (z14)), (3, yI (3)), (0, yR k0), (1, yI (p1)), (2, yR k2)]) rfl (fun _ _ => rfl) rfl rfl ?_
        refine yG.load xik rfl (fun _ _ => rfl) (v := yI (3)) rfl rfl ?_
        refine yG.ifz rfl (t := 130) rfl ⟨by omega, by omega⟩ (fun c15 => ?_) (fun c15 => ?_)
        · have c15 : (3 : Int) = 0 := c15
          exfalso; omega
        · have c15 : (3 : Int) ≠ 0 := c15
          refine yG.load xik rfl (fun _ _ => rfl) (v := yI (z14)) rfl rfl ?_
          refine yG.num (c := 3) rfl (fun _ _ => rfl) (by decide) ?_
          refine yG.iadd rfl ?_
          refine yG.load xak rfl (fun _ _ => rfl) (v := yR k0) rfl rfl ?_
          refine yG.getO A_hp.1 (w_Flow_troubleOf W H_k0) rfl rfl (fun r16 H_r16 O_r16 q_r16 => ?_)
          refine yG.alenF A_hp.1 (v_Flow_troubleOf W H_r16).yIF rfl ?_
          obtain ⟨z17, e_z17⟩ : ∃ z : Int, z = ((80 : Nat) : Int) := ⟨_, rfl⟩
          rw [← e_z17]
          refine yG.icmp rfl (t := 130) rfl ⟨by omega, by omega⟩ ⟨by omega, by omega⟩ (fun c18 => ?_) (fun c18 => ?_)
          · have c18 : (z14 + 3 : Int) ≥ z17 := c18
            refine yG.ret rfl (fun _ _ => rfl) ?_
            exact (yP.void ⟨⟨⟨rfl, trivial⟩, A_hp⟩, by omega, by omega⟩)
          · have c18 : (z14 + 3 : Int) < z17 := c18
            refine yG.load xak rfl (fun _ _ => rfl) (v := yR k0) rfl rfl ?_
            refine yG.getS9 A_hp.1 (w_Flow_troubleOf W H_k0) q_r16 rfl rfl ?_
            refine yG.load xik rfl (fun _ _ => rfl) (v := yI (z14)) rfl rfl ?_
            refine yG.load xik rfl (fun _ _ => rfl) (v := yI (p1)) rfl rfl ?_
            refine yG.iast A_hp.1 (v_Flow_troubleOf W H_r16) (W.2.1 _ _ H_r16 (by decide) (by decide)) rfl (by omega) (by omega) ⟨by omega, by omega⟩ (by omega) (by omega) (fun h19 T_h19 b_h19 f_h19 y_h19 => ?_)
            have A_h19 := A_hp.put T_h19 b_h19 f_h19 H_r16 (bAll_ok (by decide) _)
            have : ys h19 k0 15 = ys hp k0 15 := (y_h19 k0 15).trans (if_neg (fun e => (bRo.ne H_k0 H_r16 (by decide)) e.1))
            have : ys h19 k2 13 = ys hp k2 13 := (y_h19 k2 13).trans (if_neg (fun e => (bRo.ne H_k2 H_r16 (by decide)) e.1))
            have : ys h19 k0 13 = ys hp k0 13 := (y_h19 k0 13).trans (if_neg (fun e => (bRo.ne H_k0 H_r16 (by decide)) e.1))
            have : ys h19 k2 14 = ys hp k2 14 := (y_h19 k2 14).trans (if_neg (fun e => (bRo.ne H_k2 H_r16 (by decide)) e.1))
            have qq1 : zsl h19 k0 16 = yR r16 := ((f_h19 k0 16).trans (if_neg (fun e => (bRo.ne H_k0 H_r16 (by decide)) e.1))).trans q_r16
            refine yG.load xak rfl (fun _ _ => rfl) (v := yR k0) rfl rfl ?_
            refine yG.getS9 A_h19.1 (w_Flow_troubleOf W H_k0) qq1 rfl rfl ?_
            refine yG.load xik rfl (fun _ _ => rfl) (v := yI (z14)) rfl rfl ?_
            refine yG.num (c := 1) rfl (fun _ _ => rfl) (by decide) ?_
            refine yG.iadd rfl ?_
            refine yG.load xik rfl (fun _ _ => rfl) (v := yI (3)) rfl rfl ?_
            refine yG.iast A_h19.1 (v_Flow_troubleOf W H_r16) (W.2.1 _ _ H_r16 (by decide) (by decide)) rfl (by omega) (by omega) ⟨by omega, by omega⟩ (by omega) (by omega) (fun h20 T_h20 b_h20 f_h20 y_h20 => ?_)
            have A_h20 := A_h19.put T_h20 b_h20 f_h20 H_r16 (bAll_ok (by decide) _)
            have : ys h20 k0 15 = ys h19 k0 15 := (y_h20 k0 15).trans (if_neg (fun e => (bRo.ne H_k0 H_r16 (by decide)) e.1))
            have : ys h20 k2 13 = ys h19 k2 13 := (y_h20 k2 13).trans (if_neg (fun e => (bRo.ne H_k2 H_r16 (by decide)) e.1))
            have : ys h20 k0 13 = ys h19 k0 13 := (y_h20 k0 13).trans (if_neg (fun e => (bRo.ne H_k0 H_r16 (by decide)) e.1))
            have : ys h20 k2 14 = ys h19 k2 14 := (y_h20 k2 14).trans (if_neg (fun e => (bRo.ne H_k2 H_r16 (by decide)) e.1))
            have qq2 : zsl h20 k0 16 = yR r16 := ((f_h20 k0 16).trans (if_neg (fun e => (bRo.ne H_k0 H_r16 (by decide)) e.1))).trans qq1
            refine yG.load xak rfl (fun _ _ => rfl) (v := yR k0) rfl rfl ?_
            refine yG.getS9 A_h20.1 (w_Flow_troubleOf W H_k0) qq2 rfl rfl ?_
            refine yG.load xik rfl (fun _ _ => rfl) (v := yI (z14)) rfl rfl ?_
            refine yG.num (c := 2) rfl (fun _ _ => rfl) (by decide) ?_
            refine yG.iadd rfl ?_
            refine yG.load xak rfl (fun _ _ => rfl) (v := yR k2) rfl rfl ?_
            refine yG.getI A_h20.1 (w_FlowS_lost W H_k2) rfl rfl (fun z21 e_z21 i_z21 l_z21 u_z21 => ?_)
            refine yG.load xak rfl (fun _ _ => rfl) (v := yR k0) rfl rfl ?_
            refine yG.getI A_h20.1 (w_Flow_lost W H_k0) rfl rfl (fun z22 e_z22 i_z22 l_z22 u_z22 => ?_)
            refine yG.isub rfl ?_
            obtain ⟨z23, e_z23, l_z23, u_z23⟩ := ywI (z21 - z22)
            rw [e_z23]
            refine yG.iast A_h20.1 (v_Flow_troubleOf W H_r16) (W.2.1 _ _ H_r16 (by decide) (by decide)) rfl (by omega) (by omega) ⟨by omega, by omega⟩ (by omega) (by omega) (fun h24 T_h24 b_h24 f_h24 y_h24 => ?_)
            have A_h24 := A_h20.put T_h24 b_h24 f_h24 H_r16 (bAll_ok (by decide) _)
            have : ys h24 k0 15 = ys h20 k0 15 := (y_h24 k0 15).trans (if_neg (fun e => (bRo.ne H_k0 H_r16 (by decide)) e.1))
            have : ys h24 k2 13 = ys h20 k2 13 := (y_h24 k2 13).trans (if_neg (fun e => (bRo.ne H_k2 H_r16 (by decide)) e.1))
            have : ys h24 k0 13 = ys h20 k0 13 := (y_h24 k0 13).trans (if_neg (fun e => (bRo.ne H_k0 H_r16 (by decide)) e.1))
            have : ys h24 k2 14 = ys h20 k2 14 := (y_h24 k2 14).trans (if_neg (fun e => (bRo.ne H_k2 H_r16 (by decide)) e.1))
            have qq3 : zsl h24 k0 16 = yR r16 := ((f_h24 k0 16).trans (if_neg (fun e => (bRo.ne H_k0 H_r16 (by decide)) e.1))).trans qq2
            refine yG.load xak rfl (fun _ _ => rfl) (v := yR k0) rfl rfl ?_
            refine yG.getS9 A_h24.1 (w_Flow_troubleOf W H_k0) qq3 rfl rfl ?_
            refine yG.load xik rfl (fun _ _ => rfl) (v := yI (z14)) rfl rfl ?_
            refine yG.num (c := 3) rfl (fun _ _ => rfl) (by decide) ?_
            refine yG.iadd rfl ?_
            refine yG.load xak rfl (fun _ _ => rfl) (v := yR k2) rfl rfl ?_
            refine yG.getI A_h24.1 (w_FlowS_overs W H_k2) rfl rfl (fun z25 e_z25 i_z25 l_z25 u_z25 => ?_)
            refine yG.iast A_h24.1 (v_Flow_troubleOf W H_r16) (W.2.1 _ _ H_r16 (by decide) (by decide)) rfl (by omega) (by omega) ⟨by omega, by omega⟩ (by omega) (by omega) (fun h26 T_h26 b_h26 f_h26 y_h26 => ?_)
            have A_h26 := A_h24.put T_h26 b_h26 f_h26 H_r16 (bAll_ok (by decide) _)
            have : ys h26 k0 15 = ys h24 k0 15 := (y_h26 k0 15).trans (if_neg (fun e => (bRo.ne H_k0 H_r16 (by decide)) e.1))
            have : ys h26 k2 13 = ys h24 k2 13 := (y_h26 k2 13).trans (if_neg (fun e => (bRo.ne H_k2 H_r16 (by decide)) e.1))
            have : ys h26 k0 13 = ys h24 k0 13 := (y_h26 k0 13).trans (if_neg (fun e => (bRo.ne H_k0 H_r16 (by decide)) e.1))
            have : ys h26 k2 14 = ys h24 k2 14 := (y_h26 k2 14).trans (if_neg (fun e => (bRo.ne H_k2 H_r16 (by decide)) e.1))
            have qq4 : zsl h26 k0 16 = yR r16 := ((f_h26 k0 16).trans (if_neg (fun e => (bRo.ne H_k0 H_r16 (by decide)) e.1))).trans qq3
            refine yG.load xak rfl (fun _ _ => rfl) (v := yR k0) rfl rfl ?_
            refine yG.step (pc' := 122) (stk' := [yR k0, yR k0]) rfl (fun _ _ => rfl) ?_
            refine yG.getI A_h26.1 (w_Flow_troubles W H_k0) rfl rfl (fun z27 e_z27 i_z27 l_z27 u_z27 => ?_)
            refine yG.num (c := 1) rfl (fun _ _ => rfl) (by decide) ?_
            refine yG.iadd rfl ?_
            refine yG.putI A_h26.1 (w_Flow_troubles W H_k0) (W.2.1 _ _ H_k0 (by decide) (by decide)) rfl rfl (.inl rfl) ⟨by omega, by omega⟩ (by omega) (by omega) (fun h28 T_h28 b_h28 f_h28 y_h28 => ?_)
            have A_h28 := A_h26.put T_h28 b_h28 f_h28 H_k0 (by decide)
            have : ys h28 k2 13 = ys h26 k2 13 := (y_h28 k2 13).trans (if_neg (fun e => (bRo.ne H_k2 H_k0 (by decide)) e.1))
            have : ys h28 k0 13 = ys h26 k0 13 := (y_h28 k0 13).trans (if_neg (fun e => absurd e.2 (by decide)))
            have : ys h28 k2 14 = ys h26 k2 14 := (y_h28 k2 14).trans (if_neg (fun e => (bRo.ne H_k2 H_k0 (by decide)) e.1))
            have qq5 : zsl h28 k0 16 = yR r16 := ((f_h28 k0 16).trans (if_neg (fun e => absurd e.2 (by decide)))).trans qq4
            have : ys h28 k0 15 = z27 + 1 := (y_h28 k0 15).trans (if_pos ⟨rfl, rfl⟩)
            refine yG.ret rfl (fun _ _ => rfl) ?_
            exact (yP.void ⟨⟨⟨rfl, trivial⟩, A_h28⟩, by omega, by omega⟩)
    · have c6 : (z4 : Int) > z5 := c6
      refine yG.num (c := 2) rfl (fun _ _ => rfl) (by decide) ?_
      refine yG.goto rfl (t := 46) rfl ?_
      refine yG.store1 xik (L' := [(3, yI (2)), (0, yR k0), (1, yI (p1)), (2, yR k2)]) rfl (fun _ _ => rfl) rfl rfl ?_
      refine yG.load xak rfl (fun _ _ => rfl) (v := yR k0) rfl rfl ?_
      refine yG.getI A_hp.1 (w_Flow_troubles W H_k0) rfl rfl (fun z29 e_z29 i_z29 l_z29 u_z29 => ?_)
      refine yG.num (c := 4) rfl (fun _ _ => rfl) (by decide) ?_
      refine yG.imul rfl ?_
      obtain ⟨z30, e_z30⟩ : ∃ z : Int, z = z29 * 4 := ⟨_, rfl⟩
      rw [← e_z30]
      refine yG.store1 xik (L' := [(4, yI (z30)), (3, yI (2)), (0, yR k0), (1, yI (p1)), (2, yR k2)]) rfl (fun _ _ => rfl) rfl rfl ?_
      refine yG.load xik rfl (fun _ _ => rfl) (v := yI (2)) rfl rfl ?_
      refine yG.ifz rfl (t := 130) rfl ⟨by omega, by omega⟩ (fun c31 => ?_) (fun c31 => ?_)
      · have c31 : (2 : Int) = 0 := c31
        exfalso; omega
      · have c31 : (2 : Int) ≠ 0 := c31
        refine yG.load xik rfl (fun _ _ => rfl) (v := yI (z30)) rfl rfl ?_
        refine yG.num (c := 3) rfl (fun _ _ => rfl) (by decide) ?_
        refine yG.iadd rfl ?_
        refine yG.load xak rfl (fun _ _ => rfl) (v := yR k0) rfl rfl ?_
        refine yG.getO A_hp.1 (w_Flow_troubleOf W H_k0) rfl rfl (fun r32 H_r32 O_r32 q_r32 => ?_)
        refine yG.alenF A_hp.1 (v_Flow_troubleOf W H_r32).yIF rfl ?_
        obtain ⟨z33, e_z33⟩ : ∃ z : Int, z = ((80 : Nat) : Int) := ⟨_, rfl⟩
        rw [← e_z33]
        refine yG.icmp rfl (t := 130) rfl ⟨by omega, by omega⟩ ⟨by omega, by omega⟩ (fun c34 => ?_) (fun c34 => ?_)
        · have c34 : (z30 + 3 : Int) ≥ z33 := c34
          refine yG.ret rfl (fun _ _ => rfl) ?_
          exact (yP.void ⟨⟨⟨rfl, trivial⟩, A_hp⟩, by omega, by omega⟩)
        · have c34 : (z30 + 3 : Int) < z33 := c34
          refine yG.load xak rfl (fun _ _ => rfl) (v := yR k0) rfl rfl ?_
          refine yG.getS9 A_hp.1 (w_Flow_troubleOf W H_k0) q_r32 rfl rfl ?_
          refine yG.load xik rfl (fun _ _ => rfl) (v := yI (z30)) rfl rfl ?_
          refine yG.load xik rfl (fun _ _ => rfl) (v := yI (p1)) rfl rfl ?_
          refine yG.iast A_hp.1 (v_Flow_troubleOf W H_r32) (W.2.1 _ _ H_r32 (by decide) (by decide)) rfl (by omega) (by omega) ⟨by omega, by omega⟩ (by omega) (by omega) (fun h35 T_h35 b_h35 f_h35 y_h35 => ?_)
          have A_h35 := A_hp.put T_h35 b_h35 f_h35 H_r32 (bAll_ok (by decide) _)
          have : ys h35 k0 15 = ys hp k0 15 := (y_h35 k0 15).trans (if_neg (fun e => (bRo.ne H_k0 H_r32 (by decide)) e.1))
          have : ys h35 k2 13 = ys hp k2 13 := (y_h35 k2 13).trans (if_neg (fun e => (bRo.ne H_k2 H_r32 (by decide)) e.1))
          have : ys h35 k0 13 = ys hp k0 13 := (y_h35 k0 13).trans (if_neg (fun e => (bRo.ne H_k0 H_r32 (by decide)) e.1))
          have qq6 : zsl h35 k0 16 = yR r32 := ((f_h35 k0 16).trans (if_neg (fun e => (bRo.ne H_k0 H_r32 (by decide)) e.1))).trans q_r32
          refine yG.load xak rfl (fun _ _ => rfl) (v := yR k0) rfl rfl ?_
          refine yG.getS9 A_h35.1 (w_Flow_troubleOf W H_k0) qq6 rfl rfl ?_
          refine yG.load xik rfl (fun _ _ => rfl) (v := yI (z30)) rfl rfl ?_
          refine yG.num (c := 1) rfl (fun _ _ => rfl) (by decide) ?_
          refine yG.iadd rfl ?_
          refine yG.load xik rfl (fun _ _ => rfl) (v := yI (2)) rfl rfl ?_
          refine yG.iast A_h35.1 (v_Flow_troubleOf W H_r32) (W.2.1 _ _ H_r32 (by decide) (by decide)) rfl (by omega) (by omega) ⟨by omega, by omega⟩ (by omega) (by omega) (fun h36 T_h36 b_h36 f_h36 y_h36 => ?_)
          have A_h36 := A_h35.put T_h36 b_h36 f_h36 H_r32 (bAll_ok (by decide) _)
          have : ys h36 k0 15 = ys h35 k0 15 := (y_h36 k0 15).trans (if_neg (fun e => (bRo.ne H_k0 H_r32 (by decide)) e.1))
          have : ys h36 k2 13 = ys h35 k2 13 := (y_h36 k2 13).trans (if_neg (fun e => (bRo.ne H_k2 H_r32 (by decide)) e.1))
          have : ys h36 k0 13 = ys h35 k0 13 := (y_h36 k0 13).trans (if_neg (fun e => (bRo.ne H_k0 H_r32 (by decide)) e.1))
          have qq7 : zsl h36 k0 16 = yR r32 := ((f_h36 k0 16).trans (if_neg (fun e => (bRo.ne H_k0 H_r32 (by decide)) e.1))).trans qq6
          refine yG.load xak rfl (fun _ _ => rfl) (v := yR k0) rfl rfl ?_
          refine yG.getS9 A_h36.1 (w_Flow_troubleOf W H_k0) qq7 rfl rfl ?_
          refine yG.load xik rfl (fun _ _ => rfl) (v := yI (z30)) rfl rfl ?_
          refine yG.num (c := 2) rfl (fun _ _ => rfl) (by decide) ?_
          refine yG.iadd rfl ?_
          refine yG.load xak rfl (fun _ _ => rfl) (v := yR k2) rfl rfl ?_
          refine yG.getI A_h36.1 (w_FlowS_lost W H_k2) rfl rfl (fun z37 e_z37 i_z37 l_z37 u_z37 => ?_)
          refine yG.load xak rfl (fun _ _ => rfl) (v := yR k0) rfl rfl ?_
          refine yG.getI A_h36.1 (w_Flow_lost W H_k0) rfl rfl (fun z38 e_z38 i_z38 l_z38 u_z38 => ?_)
          refine yG.isub rfl ?_
          obtain ⟨z39, e_z39, l_z39, u_z39⟩ := ywI (z37 - z38)
          rw [e_z39]
          refine yG.iast A_h36.1 (v_Flow_troubleOf W H_r32) (W.2.1 _ _ H_r32 (by decide) (by decide)) rfl (by omega) (by omega) ⟨by omega, by omega⟩ (by omega) (by omega) (fun h40 T_h40 b_h40 f_h40 y_h40 => ?_)
          have A_h40 := A_h36.put T_h40 b_h40 f_h40 H_r32 (bAll_ok (by decide) _)
          have : ys h40 k0 15 = ys h36 k0 15 := (y_h40 k0 15).trans (if_neg (fun e => (bRo.ne H_k0 H_r32 (by decide)) e.1))
          have : ys h40 k2 13 = ys h36 k2 13 := (y_h40 k2 13).trans (if_neg (fun e => (bRo.ne H_k2 H_r32 (by decide)) e.1))
          have : ys h40 k0 13 = ys h36 k0 13 := (y_h40 k0 13).trans (if_neg (fun e => (bRo.ne H_k0 H_r32 (by decide)) e.1))
          have qq8 : zsl h40 k0 16 = yR r32 := ((f_h40 k0 16).trans (if_neg (fun e => (bRo.ne H_k0 H_r32 (by decide)) e.1))).trans qq7
          refine yG.load xak rfl (fun _ _ => rfl) (v := yR k0) rfl rfl ?_
          refine yG.getS9 A_h40.1 (w_Flow_troubleOf W H_k0) qq8 rfl rfl ?_
          refine yG.load xik rfl (fun _ _ => rfl) (v := yI (z30)) rfl rfl ?_
          refine yG.num (c := 3) rfl (fun _ _ => rfl) (by decide) ?_
          refine yG.iadd rfl ?_
          refine yG.load xak rfl (fun _ _ => rfl) (v := yR k2) rfl rfl ?_
          refine yG.getI A_h40.1 (w_FlowS_overs W H_k2) rfl rfl (fun z41 e_z41 i_z41 l_z41 u_z41 => ?_)
          refine yG.iast A_h40.1 (v_Flow_troubleOf W H_r32) (W.2.1 _ _ H_r32 (by decide) (by decide)) rfl (by omega) (by omega) ⟨by omega, by omega⟩ (by omega) (by omega) (fun h42 T_h42 b_h42 f_h42 y_h42 => ?_)
          have A_h42 := A_h40.put T_h42 b_h42 f_h42 H_r32 (bAll_ok (by decide) _)
          have : ys h42 k0 15 = ys h40 k0 15 := (y_h42 k0 15).trans (if_neg (fun e => (bRo.ne H_k0 H_r32 (by decide)) e.1))
          have : ys h42 k2 13 = ys h40 k2 13 := (y_h42 k2 13).trans (if_neg (fun e => (bRo.ne H_k2 H_r32 (by decide)) e.1))
          have : ys h42 k0 13 = ys h40 k0 13 := (y_h42 k0 13).trans (if_neg (fun e => (bRo.ne H_k0 H_r32 (by decide)) e.1))
          have qq9 : zsl h42 k0 16 = yR r32 := ((f_h42 k0 16).trans (if_neg (fun e => (bRo.ne H_k0 H_r32 (by decide)) e.1))).trans qq8
          have : ys h42 k2 14 = ys h40 k2 14 := (y_h42 k2 14).trans (if_neg (fun e => (bRo.ne H_k2 H_r32 (by decide)) e.1))
          refine yG.load xak rfl (fun _ _ => rfl) (v := yR k0) rfl rfl ?_
          refine yG.step (pc' := 122) (stk' := [yR k0, yR k0]) rfl (fun _ _ => rfl) ?_
          refine yG.getI A_h42.1 (w_Flow_troubles W H_k0) rfl rfl (fun z43 e_z43 i_z43 l_z43 u_z43 => ?_)
          refine yG.num (c := 1) rfl (fun _ _ => rfl) (by decide) ?_
          refine yG.iadd rfl ?_
          refine yG.putI A_h42.1 (w_Flow_troubles W H_k0) (W.2.1 _ _ H_k0 (by decide) (by decide)) rfl rfl (.inl rfl) ⟨by omega, by omega⟩ (by omega) (by omega) (fun h44 T_h44 b_h44 f_h44 y_h44 => ?_)
          have A_h44 := A_h42.put T_h44 b_h44 f_h44 H_k0 (by decide)
          have : ys h44 k2 13 = ys h42 k2 13 := (y_h44 k2 13).trans (if_neg (fun e => (bRo.ne H_k2 H_k0 (by decide)) e.1))
          have : ys h44 k0 13 = ys h42 k0 13 := (y_h44 k0 13).trans (if_neg (fun e => absurd e.2 (by decide)))
          have qq10 : zsl h44 k0 16 = yR r32 := ((f_h44 k0 16).trans (if_neg (fun e => absurd e.2 (by decide)))).trans qq9
          have : ys h44 k2 14 = ys h42 k2 14 := (y_h44 k2 14).trans (if_neg (fun e => (bRo.ne H_k2 H_k0 (by decide)) e.1))
          have : ys h44 k0 15 = z43 + 1 := (y_h44 k0 15).trans (if_pos ⟨rfl, rfl⟩)
          refine yG.ret rfl (fun _ _ => rfl) ?_
          exact (yP.void ⟨⟨⟨rfl, trivial⟩, A_h44⟩, by omega, by omega⟩)
  · have c3 : (z1 : Int) > z2 := c3
    refine yG.num (c := 1) rfl (fun _ _ => rfl) (by decide) ?_
    refine yG.goto rfl (t := 46) rfl ?_
    refine yG.store1 xik (L' := [(3, yI (1)), (0, yR k0), (1, yI (p1)), (2, yR k2)]) rfl (fun _ _ => rfl) rfl rfl ?_
    refine yG.load xak rfl (fun _ _ => rfl) (v := yR k0) rfl rfl ?_
    refine yG.getI A_hp.1 (w_Flow_troubles W H_k0) rfl rfl (fun z45 e_z45 i_z45 l_z45 u_z45 => ?_)
    refine yG.num (c := 4) rfl (fun _ _ => rfl) (by decide) ?_
    refine yG.imul rfl ?_
    obtain ⟨z46, e_z46⟩ : ∃ z : Int, z = z45 * 4 := ⟨_, rfl⟩
    rw [← e_z46]
    refine yG.store1 xik (L' := [(4, yI (z46)), (3, yI (1)), (0, yR k0), (1, yI (p1)), (2, yR k2)]) rfl (fun _ _ => rfl) rfl rfl ?_
    refine yG.load xik rfl (fun _ _ => rfl) (v := yI (1)) rfl rfl ?_
    refine yG.ifz rfl (t := 130) rfl ⟨by omega, by omega⟩ (fun c47 => ?_) (fun c47 => ?_)
    · have c47 : (1 : Int) = 0 := c47
      exfalso; omega
    · have c47 : (1 : Int) ≠ 0 := c47
      refine yG.load xik rfl (fun _ _ => rfl) (v := yI (z46)) rfl rfl ?_
      refine yG.num (c := 3) rfl (fun _ _ => rfl) (by decide) ?_
      refine yG.iadd rfl ?_
      refine yG.load xak rfl (fun _ _ => rfl) (v := yR k0) rfl rfl ?_
      refine yG.getO A_hp.1 (w_Flow_troubleOf W H_k0) rfl rfl (fun r48 H_r48 O_r48 q_r48 => ?_)
      refine yG.alenF A_hp.1 (v_Flow_troubleOf W H_r48).yIF rfl ?_
      obtain ⟨z49, e_z49⟩ : ∃ z : Int, z = ((80 : Nat) : Int) := ⟨_, rfl⟩
      rw [← e_z49]
      refine yG.icmp rfl (t := 130) rfl ⟨by omega, by omega⟩ ⟨by omega, by omega⟩ (fun c50 => ?_) (fun c50 => ?_)
      · have c50 : (z46 + 3 : Int) ≥ z49 := c50
        refine yG.ret rfl (fun _ _ => rfl) ?_
        exact (yP.void ⟨⟨⟨rfl, trivial⟩, A_hp⟩, by omega, by omega⟩)
      · have c50 : (z46 + 3 : Int) < z49 := c50
        refine yG.load xak rfl (fun _ _ => rfl) (v := yR k0) rfl rfl ?_
        refine yG.getS9 A_hp.1 (w_Flow_troubleOf W H_k0) q_r48 rfl rfl ?_
        refine yG.load xik rfl (fun _ _ => rfl) (v := yI (z46)) rfl rfl ?_
        refine yG.load xik rfl (fun _ _ => rfl) (v := yI (p1)) rfl rfl ?_
        refine yG.iast A_hp.1 (v_Flow_troubleOf W H_r48) (W.2.1 _ _ H_r48 (by decide) (by decide)) rfl (by omega) (by omega) ⟨by omega, by omega⟩ (by omega) (by omega) (fun h51 T_h51 b_h51 f_h51 y_h51 => ?_)
        have A_h51 := A_hp.put T_h51 b_h51 f_h51 H_r48 (bAll_ok (by decide) _)
        have : ys h51 k0 15 = ys hp k0 15 := (y_h51 k0 15).trans (if_neg (fun e => (bRo.ne H_k0 H_r48 (by decide)) e.1))
        have qq11 : zsl h51 k0 16 = yR r48 := ((f_h51 k0 16).trans (if_neg (fun e => (bRo.ne H_k0 H_r48 (by decide)) e.1))).trans q_r48
        refine yG.load xak rfl (fun _ _ => rfl) (v := yR k0) rfl rfl ?_
        refine yG.getS9 A_h51.1 (w_Flow_troubleOf W H_k0) qq11 rfl rfl ?_
        refine yG.load xik rfl (fun _ _ => rfl) (v := yI (z46)) rfl rfl ?_
        refine yG.num (c := 1) rfl (fun _ _ => rfl) (by decide) ?_
        refine yG.iadd rfl ?_
        refine yG.load xik rfl (fun _ _ => rfl) (v := yI (1)) rfl rfl ?_
        refine yG.iast A_h51.1 (v_Flow_troubleOf W H_r48) (W.2.1 _ _ H_r48 (by decide) (by decide)) rfl (by omega) (by omega) ⟨by omega, by omega⟩ (by omega) (by omega) (fun h52 T_h52 b_h52 f_h52 y_h52 => ?_)
        have A_h52 := A_h51.put T_h52 b_h52 f_h52 H_r48 (bAll_ok (by decide) _)
        have : ys h52 k0 15 = ys h51 k0 15 := (y_h52 k0 15).trans (if_neg (fun e => (bRo.ne H_k0 H_r48 (by decide)) e.1))
        have qq12 : zsl h52 k0 16 = yR r48 := ((f_h52 k0 16).trans (if_neg (fun e => (bRo.ne H_k0 H_r48 (by decide)) e.1))).trans qq11
        refine yG.load xak rfl (fun _ _ => rfl) (v := yR k0) rfl rfl ?_
        refine yG.getS9 A_h52.1 (w_Flow_troubleOf W H_k0) qq12 rfl rfl ?_
        refine yG.load xik rfl (fun _ _ => rfl) (v := yI (z46)) rfl rfl ?_
        refine yG.num (c := 2) rfl (fun _ _ => rfl) (by decide) ?_
        refine yG.iadd rfl ?_
        refine yG.load xak rfl (fun _ _ => rfl) (v := yR k2) rfl rfl ?_
        refine yG.getI A_h52.1 (w_FlowS_lost W H_k2) rfl rfl (fun z53 e_z53 i_z53 l_z53 u_z53 => ?_)
        refine yG.load xak rfl (fun _ _ => rfl) (v := yR k0) rfl rfl ?_
        refine yG.getI A_h52.1 (w_Flow_lost W H_k0) rfl rfl (fun z54 e_z54 i_z54 l_z54 u_z54 => ?_)
        refine yG.isub rfl ?_
        obtain ⟨z55, e_z55, l_z55, u_z55⟩ := ywI (z53 - z54)
        rw [e_z55]
        refine yG.iast A_h52.1 (v_Flow_troubleOf W H_r48) (W.2.1 _ _ H_r48 (by decide) (by decide)) rfl (by omega) (by omega) ⟨by omega, by omega⟩ (by omega) (by omega) (fun h56 T_h56 b_h56 f_h56 y_h56 => ?_)
        have A_h56 := A_h52.put T_h56 b_h56 f_h56 H_r48 (bAll_ok (by decide) _)
        have : ys h56 k0 15 = ys h52 k0 15 := (y_h56 k0 15).trans (if_neg (fun e => (bRo.ne H_k0 H_r48 (by decide)) e.1))
        have qq13 : zsl h56 k0 16 = yR r48 := ((f_h56 k0 16).trans (if_neg (fun e => (bRo.ne H_k0 H_r48 (by decide)) e.1))).trans qq12
        have : ys h56 k2 13 = ys h52 k2 13 := (y_h56 k2 13).trans (if_neg (fun e => (bRo.ne H_k2 H_r48 (by decide)) e.1))
        have : ys h56 k0 13 = ys h52 k0 13 := (y_h56 k0 13).trans (if_neg (fun e => (bRo.ne H_k0 H_r48 (by decide)) e.1))
        refine yG.load xak rfl (fun _ _ => rfl) (v := yR k0) rfl rfl ?_
        refine yG.getS9 A_h56.1 (w_Flow_troubleOf W H_k0) qq13 rfl rfl ?_
        refine yG.load xik rfl (fun _ _ => rfl) (v := yI (z46)) rfl rfl ?_
        refine yG.num (c := 3) rfl (fun _ _ => rfl) (by decide) ?_
        refine yG.iadd rfl ?_
        refine yG.load xak rfl (fun _ _ => rfl) (v := yR k2) rfl rfl ?_
        refine yG.getI A_h56.1 (w_FlowS_overs W H_k2) rfl rfl (fun z57 e_z57 i_z57 l_z57 u_z57 => ?_)
        refine yG.iast A_h56.1 (v_Flow_troubleOf W H_r48) (W.2.1 _ _ H_r48 (by decide) (by decide)) rfl (by omega) (by omega) ⟨by omega, by omega⟩ (by omega) (by omega) (fun h58 T_h58 b_h58 f_h58 y_h58 => ?_)
        have A_h58 := A_h56.put T_h58 b_h58 f_h58 H_r48 (bAll_ok (by decide) _)
        have : ys h58 k0 15 = ys h56 k0 15 := (y_h58 k0 15).trans (if_neg (fun e => (bRo.ne H_k0 H_r48 (by decide)) e.1))
        have qq14 : zsl h58 k0 16 = yR r48 := ((f_h58 k0 16).trans (if_neg (fun e => (bRo.ne H_k0 H_r48 (by decide)) e.1))).trans qq13
        have : ys h58 k2 13 = ys h56 k2 13 := (y_h58 k2 13).trans (if_neg (fun e => (bRo.ne H_k2 H_r48 (by decide)) e.1))
        have : ys h58 k0 13 = ys h56 k0 13 := (y_h58 k0 13).trans (if_neg (fun e => (bRo.ne H_k0 H_r48 (by decide)) e.1))
        have : ys h58 k2 14 = ys h56 k2 14 := (y_h58 k2 14).trans (if_neg (fun e => (bRo.ne H_k2 H_r48 (by decide)) e.1))
        refine yG.load xak rfl (fun _ _ => rfl) (v := yR k0) rfl rfl ?_
        refine yG.step (pc' := 122) (stk' := [yR k0, yR k0]) rfl (fun _ _ => rfl) ?_
        refine yG.getI A_h58.1 (w_Flow_troubles W H_k0) rfl rfl (fun z59 e_z59 i_z59 l_z59 u_z59 => ?_)
        refine yG.num (c := 1) rfl (fun _ _ => rfl) (by decide) ?_
        refine yG.iadd rfl ?_
        refine yG.putI A_h58.1 (w_Flow_troubles W H_k0) (W.2.1 _ _ H_k0 (by decide) (by decide)) rfl rfl (.inl rfl) ⟨by omega, by omega⟩ (by omega) (by omega) (fun h60 T_h60 b_h60 f_h60 y_h60 => ?_)
        have A_h60 := A_h58.put T_h60 b_h60 f_h60 H_k0 (by decide)
        have qq15 : zsl h60 k0 16 = yR r48 := ((f_h60 k0 16).trans (if_neg (fun e => absurd e.2 (by decide)))).trans qq14
        have : ys h60 k2 13 = ys h58 k2 13 := (y_h60 k2 13).trans (if_neg (fun e => (bRo.ne H_k2 H_k0 (by decide)) e.1))
        have : ys h60 k0 13 = ys h58 k0 13 := (y_h60 k0 13).trans (if_neg (fun e => absurd e.2 (by decide)))
        have : ys h60 k2 14 = ys h58 k2 14 := (y_h60 k2 14).trans (if_neg (fun e => (bRo.ne H_k2 H_k0 (by decide)) e.1))
        have : ys h60 k0 15 = z59 + 1 := (y_h60 k0 15).trans (if_pos ⟨rfl, rfl⟩)
        refine yG.ret rfl (fun _ _ => rfl) ?_
        exact (yP.void ⟨⟨⟨rfl, trivial⟩, A_h60⟩, by omega, by omega⟩)
theorem c_Flow_tryLines {hp : xH} (W : bW G) (d : Nat) (hT : zTy G hp) (M_bSh : bSh G hp) {k0 : Nat} (H_k0 : bRo G 44 k0) {k1 : Nat} (H_k1 : bRo G 115 k1) : yC (xcall 89 xfts xpools xms (d + 7)) 113 [yR k0, yR k1] hp (fun rv hp' => (fun rv hp' => (rv = none ∧ True) ∧ bAx G [(34359738368, 1), (1133871366144, 2), (1099511889920, 3), (262144, 4), (262144, 5), (1099511889920, 6), (1099511889920, 7), (1099511627776, 8), (2251799813685248, 9), (2251799813685248, 10), (41538374868278621030513362633490432, 11), (41538374868278621028243970633760768, 12), (41538374868278621028243970633760768, 13), (41538374868278621028261562819805184, 14), (41538374868278621028261562819805184, 15), (2230950947210133504, 256)] hp hp') rv hp' ∧ bSh G hp') := by
  have A_hp : bAx G [(34359738368, 1), (1133871366144, 2), (1099511889920, 3), (262144, 4), (262144, 5), (1099511889920, 6), (1099511889920, 7), (1099511627776, 8), (2251799813685248, 9), (2251799813685248, 10), (41538374868278621030513362633490432, 11), (41538374868278621028243970633760768, 12), (41538374868278621028243970633760768, 13), (41538374868278621028261562819805184, 14), (41538374868278621028261562819805184, 15), (2230950947210133504, 256)] hp hp := bAx.rf hT
  have M_bSh_hp := M_bSh
  have H : ∀ m : Nat, (∀ a2 : Int, ∀ gg0 : Int, ∀ hq, bAx G [(34359738368, 1), (1133871366144, 2), (1099511889920, 3), (262144, 4), (262144, 5), (1099511889920, 6), (1099511889920, 7), (1099511627776, 8), (2251799813685248, 9), (2251799813685248, 10), (41538374868278621030513362633490432, 11), (41538374868278621028243970633760768, 12), (41538374868278621028243970633760768, 13), (41538374868278621028261562819805184, 14), (41538374868278621028261562819805184, 15), (2230950947210133504, 256)] hp hq → bSh G hq → ys hq k0 15 = gg0 → 0 ≤ a2 → (-20) ≤ 0 - a2 → 0 ≤ gg0 → (-20) ≤ 0 - gg0 → (-19) ≤ a2 - gg0 → 0 - 2 * a2 + 41 < (m : Int) → yG 89 xfts (xcall 89 xfts xpools xms (d + 6)) (xpool xp_RX2) [] xt_X2_tryLines (yP 0 (fun rv hp' => (fun rv hp' => (rv = none ∧ True) ∧ bAx G [(34359738368, 1), (1133871366144, 2), (1099511889920, 3), (262144, 4), (262144, 5), (1099511889920, 6), (1099511889920, 7), (1099511627776, 8), (2251799813685248, 9), (2251799813685248, 10), (41538374868278621030513362633490432, 11), (41538374868278621028243970633760768, 12), (41538374868278621028243970633760768, 13), (41538374868278621028261562819805184, 14), (41538374868278621028261562819805184, 15), (2230950947210133504, 256)] hp hp') rv hp' ∧ bSh G hp')) (49 * m) 31 [(0, yR k0), (1, yR k1), (2, yI (a2))] [] hq) := by
    intro m
    induction m with
    | zero =>
      intros; exfalso; omega
    | succ m ih =>
      have i_31 := ih
      clear ih
      intro a2 gg0 hq A_hq M_bSh_hq E_0 f0 f1 f2 f3 f4 hm
      refine yG.mono (N := 49 * m + 49) ?_ (by omega)
      obtain ⟨-, -, g_0l, g_0u⟩ := (w_Flow_troubles W H_k0).int A_hq.1
      refine yG.load xik rfl (fun _ _ => rfl) (v := yI (a2)) rfl rfl ?_
      refine yG.load xak rfl (fun _ _ => rfl) (v := yR k0) rfl rfl ?_
      refine yG.getO A_hq.1 (w_Flow_net W H_k0) rfl rfl (fun r1 H_r1 O_r1 q_r1 => ?_)
      refine yG.getO A_hq.1 (w_Net_count W H_r1) rfl rfl (fun r2 H_r2 O_r2 q_r2 => ?_)
      refine yG.num (c := 2) rfl (fun _ _ => rfl) (by decide) ?_
      refine yG.ialdF A_hq.1 (v_Net_count W H_r2) rfl rfl (by omega) (by omega) (fun z3 e_z3 i_z3 l_z3 u_z3 => ?_)
      refine yG.icmp rfl (t := 118) rfl ⟨by omega, by omega⟩ ⟨by omega, by omega⟩ (fun c4 => ?_) (fun c4 => ?_)
      · have c4 : (a2 : Int) ≥ z3 := c4
        refine yG.ret rfl (fun _ _ => rfl) ?_
        exact (yP.void ⟨⟨⟨rfl, trivial⟩, A_hq⟩, M_bSh_hq⟩)
      · have c4 : (a2 : Int) < z3 := c4
        refine yG.load xak rfl (fun _ _ => rfl) (v := yR k0) rfl rfl ?_
        refine yG.getS9 A_hq.1 (w_Flow_net W H_k0) q_r1 rfl rfl ?_
        refine yG.num (c := 2) rfl (fun _ _ => rfl) (by decide) ?_
        refine yG.load xik rfl (fun _ _ => rfl) (v := yI (a2)) rfl rfl ?_
        refine yG.num (c := 0) rfl (fun _ _ => rfl) (by decide) ?_
        refine yG.invV (rest := []) A_hq.1 (bOb (d_Net W) H_r1) rfl rfl rfl rfl (c_Net_is_2 W (d + 5) A_hq.1 H_r1 (a2) (0) (by omega) (by omega) (by omega) (by omega)) (fun rv hp9 q9 => ?_)
        obtain ⟨⟨z5, rfl, l_z5, u_z5, R_z5⟩, e9⟩ := q9
        rw [e9]
        show yG _ _ _ _ _ _ _ _ _ _ (yI z5 :: []) _
        refine yG.ifz rfl (t := 112) rfl ⟨by omega, by omega⟩ (fun c6 => ?_) (fun c6 => ?_)
        · have c6 : (z5 : Int) = 0 := c6
          refine yG.iinc rfl (a := a2) rfl (L' := [(2, yI (a2 + 1)), (0, yR k0), (1, yR k1)]) rfl ?_
          refine yG.goto rfl (t := 31) rfl ?_
          exact yG.mono (yG.sub (i_31 (a2 + 1) (ys hq k0 15) hq A_hq M_bSh_hq  rfl (by omega) (by omega) (by omega) (by omega) (by omega) (by omega)) (ySub.cons rfl (ySub.cons rfl (ySub.cons rfl (ySub.nil))))) (by omega)
        · have c6 : (z5 : Int) ≠ 0 := c6
          refine yG.load xak rfl (fun _ _ => rfl) (v := yR k0) rfl rfl ?_
          refine yG.getO A_hq.1 (w_Flow_shape W H_k0) rfl rfl (fun r7 H_r7 O_r7 q_r7 => ?_)
          refine yG.getO A_hq.1 (w_Shape_live W H_r7) rfl rfl (fun r8 H_r8 O_r8 q_r8 => ?_)
          refine yG.load xak rfl (fun _ _ => rfl) (v := yR k0) rfl rfl ?_
          refine yG.getS9 A_hq.1 (w_Flow_shape W H_k0) q_r7 rfl rfl ?_
          refine yG.load xik rfl (fun _ _ => rfl) (v := yI (a2)) rfl rfl ?_
          refine yG.invV (rest := [yR r8]) A_hq.1 (bOb (d_Shape W) H_r7) rfl rfl rfl rfl (c_Shape_islandOfLine W (d + 5) A_hq.1 H_r7 (a2) (by omega) (by omega)) (fun rv hp9 q9 => ?_)
          obtain ⟨⟨z9, rfl, l_z9, u_z9, R_z9⟩, e9⟩ := q9
          rw [e9]
          show yG _ _ _ _ _ _ _ _ _ _ (yI z9 :: [yR r8]) _
          refine yG.bald A_hq.1 (v_Shape_live W H_r8) rfl (by omega) (by omega) (fun z10 e_z10 i_z10 l_z10 u_z10 => ?_)
          refine yG.ifz rfl (t := 112) rfl ⟨by omega, by omega⟩ (fun c11 => ?_) (fun c11 => ?_)
          · have c11 : (z10 : Int) = 0 := c11
            refine yG.iinc rfl (a := a2) rfl (L' := [(2, yI (a2 + 1)), (0, yR k0), (1, yR k1)]) rfl ?_
            refine yG.goto rfl (t := 31) rfl ?_
            exact yG.mono (yG.sub (i_31 (a2 + 1) (ys hq k0 15) hq A_hq M_bSh_hq  rfl (by omega) (by omega) (by omega) (by omega) (by omega) (by omega)) (ySub.cons rfl (ySub.cons rfl (ySub.cons rfl (ySub.nil))))) (by omega)
          · have c11 : (z10 : Int) ≠ 0 := c11
            refine yG.load xak rfl (fun _ _ => rfl) (v := yR k1) rfl rfl ?_
            refine yG.getO A_hq.1 (w_FlowS_net W H_k1) rfl rfl (fun r12 H_r12 O_r12 q_r12 => ?_)
            refine yG.num (c := 2) rfl (fun _ _ => rfl) (by decide) ?_
            refine yG.load xik rfl (fun _ _ => rfl) (v := yI (a2)) rfl rfl ?_
            refine yG.num (c := 0) rfl (fun _ _ => rfl) (by decide) ?_
            refine yG.num (c := 0) rfl (fun _ _ => rfl) (by decide) ?_
            refine yG.invV (rest := []) A_hq.1 (bOb (d_Net W) H_r12) rfl rfl rfl rfl (c_Net_put_2_0 W (d + 5) A_hq.1 H_r12 (a2) (0) (by omega) (by omega) (by omega) (by omega)) (fun rv h13 q9 => ?_)
            obtain ⟨⟨rfl, R_z14⟩, B_h13⟩ := q9
            have A_h13 := A_hq.tr B_h13 (by decide)
            have M_bSh_h13 := M_bSh_hq.fr B_h13 (by decide)
            have : ys h13 k0 15 = ys hq k0 15 := B_h13.ys H_k0 (by decide)
            have qq1 : zsl h13 k0 1 = yR r1 := (B_h13.sl H_k0 (by decide)).trans q_r1
            have qq2 : zsl h13 k0 0 = yR r7 := (B_h13.sl H_k0 (by decide)).trans q_r7
            have qq3 : zsl h13 k1 1 = yR r12 := (B_h13.sl H_k1 (by decide)).trans q_r12
            show yG _ _ _ _ _ _ _ _ _ _ [] _
            refine yG.load xak rfl (fun _ _ => rfl) (v := yR k1) rfl rfl ?_
            refine yG.invV (rest := []) A_h13.1 (bOb (d_FlowS W) H_k1) rfl rfl rfl rfl (c_Flow_look_s W (d + 2) A_h13.1 H_k1) (fun rv h15 q9 => ?_)
            obtain ⟨⟨rfl, R_z16⟩, B_h15⟩ := q9
            have A_h15 := A_h13.tr B_h15 (by decide)
            have M_bSh_h15 := M_bSh_h13.fr B_h15 (by decide)
            have : ys h15 k0 15 = ys h13 k0 15 := B_h15.ys H_k0 (by decide)
            have qq4 : zsl h15 k0 1 = yR r1 := (B_h15.sl H_k0 (by decide)).trans qq1
            have qq5 : zsl h15 k0 0 = yR r7 := (B_h15.sl H_k0 (by decide)).trans qq2
            have qq6 : zsl h15 k1 1 = yR r12 := (B_h15.sl H_k1 (by decide)).trans qq3
            show yG _ _ _ _ _ _ _ _ _ _ [] _
            refine yG.load xak rfl (fun _ _ => rfl) (v := yR k1) rfl rfl ?_
            refine yG.invV (rest := []) A_h15.1 (bOb (d_FlowS W) H_k1) rfl rfl rfl rfl (c_Flow_countOver_s W d A_h15.1 H_k1) (fun rv h17 q9 => ?_)
            obtain ⟨⟨rfl, R_z18⟩, B_h17⟩ := q9
            have A_h17 := A_h15.tr B_h17 (by decide)
            have M_bSh_h17 := M_bSh_h15.fr B_h17 (by decide)
            have : ys h17 k0 15 = ys h15 k0 15 := B_h17.ys H_k0 (by decide)
            have qq7 : zsl h17 k0 1 = yR r1 := (B_h17.sl H_k0 (by decide)).trans qq4
            have qq8 : zsl h17 k0 0 = yR r7 := (B_h17.sl H_k0 (by decide)).trans qq5
            have qq9 : zsl h17 k1 1 = yR r12 := (B_h17.sl H_k1 (by decide)).trans qq6
            show yG _ _ _ _ _ _ _ _ _ _ [] _
            refine yG.load xak rfl (fun _ _ => rfl) (v := yR k0) rfl rfl ?_
            refine yG.load xik rfl (fun _ _ => rfl) (v := yI (a2)) rfl rfl ?_
            refine yG.load xak rfl (fun _ _ => rfl) (v := yR k1) rfl rfl ?_
            refine yG.invV (rest := []) A_h17.1 (bOb (d_Flow W) H_k0) rfl rfl rfl rfl (c_Flow_note W (d + 5) A_h17.1 H_k0 H_k1 (a2) (by omega) (by omega) (by omega) (by omega)) (fun rv h19 q9 => ?_)
            obtain ⟨q9, t0_z20, t1_z20⟩ := q9
            obtain ⟨⟨rfl, R_z20⟩, B_h19⟩ := q9
            have A_h19 := A_h17.tr B_h19 (by decide)
            have M_bSh_h19 := M_bSh_h17.fr B_h19 (by decide)
            have qq10 : zsl h19 k0 1 = yR r1 := (B_h19.sl H_k0 (by decide)).trans qq7
            have qq11 : zsl h19 k0 0 = yR r7 := (B_h19.sl H_k0 (by decide)).trans qq8
            have qq12 : zsl h19 k1 1 = yR r12 := (B_h19.sl H_k1 (by decide)).trans qq9
            obtain ⟨g21, e_g21⟩ : ∃ z : Int, z = ys h19 k0 15 := ⟨_, rfl⟩
            show yG _ _ _ _ _ _ _ _ _ _ [] _
            refine yG.load xak rfl (fun _ _ => rfl) (v := yR k1) rfl rfl ?_
            refine yG.getS9 A_h19.1 (w_FlowS_net W H_k1) qq12 rfl rfl ?_
            refine yG.num (c := 2) rfl (fun _ _ => rfl) (by decide) ?_
            refine yG.load xik rfl (fun _ _ => rfl) (v := yI (a2)) rfl rfl ?_
            refine yG.num (c := 0) rfl (fun _ _ => rfl) (by decide) ?_
            refine yG.num (c := 1) rfl (fun _ _ => rfl) (by decide) ?_
            refine yG.invV (rest := []) A_h19.1 (bOb (d_Net W) H_r12) rfl rfl rfl rfl (c_Net_put_2_0 W (d + 5) A_h19.1 H_r12 (a2) (1) (by omega) (by omega) (by omega) (by omega)) (fun rv h22 q9 => ?_)
            obtain ⟨⟨rfl, R_z23⟩, B_h22⟩ := q9
            have A_h22 := A_h19.tr B_h22 (by decide)
            have M_bSh_h22 := M_bSh_h19.fr B_h22 (by decide)
            have qq13 : zsl h22 k0 1 = yR r1 := (B_h22.sl H_k0 (by decide)).trans qq10
            have qq14 : zsl h22 k0 0 = yR r7 := (B_h22.sl H_k0 (by decide)).trans qq11
            have qq15 : zsl h22 k1 1 = yR r12 := (B_h22.sl H_k1 (by decide)).trans qq12
            have : ys h22 k0 15 = ys h19 k0 15 := B_h22.ys H_k0 (by decide)
            show yG _ _ _ _ _ _ _ _ _ _ [] _
            refine yG.iinc rfl (a := a2) rfl (L' := [(2, yI (a2 + 1)), (0, yR k0), (1, yR k1)]) rfl ?_
            refine yG.goto rfl (t := 31) rfl ?_
            exact yG.mono (yG.sub (i_31 (a2 + 1) (ys h22 k0 15) h22 A_h22 M_bSh_h22  rfl (by omega) (by omega) (by omega) (by omega) (by omega) (by omega)) (ySub.cons rfl (ySub.cons rfl (ySub.cons rfl (ySub.nil))))) (by omega)
  refine yC.of (M := (xt_X2_tryLines, (3, (0, (3, []))))) rfl rfl (N := 2156) (yfuel (by decide)) ?_
  show yG 89 xfts (xcall 89 xfts xpools xms (d + 6)) (xpool xp_RX2) [] xt_X2_tryLines (yP 0 (fun rv hp' => (fun rv hp' => (rv = none ∧ True) ∧ bAx G [(34359738368, 1), (1133871366144, 2), (1099511889920, 3), (262144, 4), (262144, 5), (1099511889920, 6), (1099511889920, 7), (1099511627776, 8), (2251799813685248, 9), (2251799813685248, 10), (41538374868278621030513362633490432, 11), (41538374868278621028243970633760768, 12), (41538374868278621028243970633760768, 13), (41538374868278621028261562819805184, 14), (41538374868278621028261562819805184, 15), (2230950947210133504, 256)] hp hp') rv hp' ∧ bSh G hp')) 2156 0 [(0, yR k0), (1, yR k1)] [] hp
  have i_31 := H 43
  obtain ⟨gg0, E_0⟩ : ∃ z : Int, ys hp k0 15 = z := ⟨_, rfl⟩
  obtain ⟨-, -, g_0l, g_0u⟩ := (w_Flow_troubles W H_k0).int hT
  refine yG.load xak rfl (fun _ _ => rfl) (v := yR k0) rfl rfl ?_
  refine yG.getI A_hp.1 (w_Flow_troubles W H_k0) rfl rfl (fun z1 e_z1 i_z1 l_z1 u_z1 => ?_)
  refine yG.num (c := -1) rfl (fun _ _ => rfl) (by decide) ?_
  refine yG.icmp rfl (t := 9) rfl ⟨by omega, by omega⟩ ⟨by omega, by omega⟩ (fun c2 => ?_) (fun c2 => ?_)
  · have c2 : (z1 : Int) = (-1) := c2
    refine yG.load xak rfl (fun _ _ => rfl) (v := yR k0) rfl rfl ?_
    refine yG.invV (rest := []) A_hp.1 (bOb (d_Flow W) H_k0) rfl rfl rfl rfl (c_Flow_countOver_m W d A_hp.1 H_k0) (fun rv h3 q9 => ?_)
    obtain ⟨⟨rfl, R_z4⟩, B_h3⟩ := q9
    have A_h3 := A_hp.tr B_h3 (by decide)
    have M_bSh_h3 := M_bSh_hp.fr B_h3 (by decide)
    have : ys h3 k0 15 = ys hp k0 15 := B_h3.ys H_k0 (by decide)
    show yG _ _ _ _ _ _ _ _ _ _ [] _
    refine yG.load xak rfl (fun _ _ => rfl) (v := yR k0) rfl rfl ?_
    refine yG.num (c := 0) rfl (fun _ _ => rfl) (by decide) ?_
    refine yG.putI A_h3.1 (w_Flow_troubles W H_k0) (W.2.1 _ _ H_k0 (by decide) (by decide)) rfl rfl (.inl rfl) ⟨by omega, by omega⟩ (by omega) (by omega) (fun h5 T_h5 b_h5 f_h5 y_h5 => ?_)
    have M_bSh_h5 := M_bSh_h3.fr (bAx.put (Wl := [(17592186044416, 15)]) (bAx.rf A_h3.1) T_h5 b_h5 f_h5 H_k0 (by decide)) (by decide)
    have A_h5 := A_h3.put T_h5 b_h5 f_h5 H_k0 (by decide)
    have : ys h5 k0 15 = 0 := (y_h5 k0 15).trans (if_pos ⟨rfl, rfl⟩)
    refine yG.load xak rfl (fun _ _ => rfl) (v := yR k1) rfl rfl ?_
    refine yG.getO A_h5.1 (w_FlowS_net W H_k1) rfl rfl (fun r6 H_r6 O_r6 q_r6 => ?_)
    refine yG.load xak rfl (fun _ _ => rfl) (v := yR k0) rfl rfl ?_
    refine yG.getO A_h5.1 (w_Flow_net W H_k0) rfl rfl (fun r7 H_r7 O_r7 q_r7 => ?_)
    refine yG.invV (rest := []) A_h5.1 (bOb (d_Net W) H_r6) rfl rfl rfl rfl (c_Net_copy W (d + 4) A_h5.1 M_bSh_h5 H_r6 H_r7) (fun rv h8 q9 => ?_)
    obtain ⟨q9, M_bSh_h8⟩ := q9
    obtain ⟨⟨rfl, R_z9⟩, B_h8⟩ := q9
    have A_h8 := A_h5.tr B_h8 (by decide)
    have : ys h8 k0 15 = ys h5 k0 15 := B_h8.ys H_k0 (by decide)
    show yG _ _ _ _ _ _ _ _ _ _ [] _
    refine yG.num (c := 0) rfl (fun _ _ => rfl) (by decide) ?_
    refine yG.store1 xik (L' := [(2, yI (0)), (0, yR k0), (1, yR k1)]) rfl (fun _ _ => rfl) rfl rfl ?_
    exact yG.mono (yG.sub (i_31 (0) (ys h8 k0 15) h8 A_h8 M_bSh_h8  rfl (by omega) (by omega) (by omega) (by omega) (by omega) (by omega)) (ySub.cons rfl (ySub.cons rfl (ySub.cons rfl (ySub.nil))))) (by omega)
  · have c2 : (z1 : Int) ≠ (-1) := c2
    refine yG.ret rfl (fun _ _ => rfl) ?_
    exact (yP.void ⟨⟨⟨rfl, trivial⟩, A_hp⟩, M_bSh_hp⟩)
theorem c_Hand_putCommon {hp : xH} (W : bW G) (d : Nat) (hT : zTy G hp) {k0 : Nat} (H_k0 : bRo G 35 k0) (p1 p3 : Int) (h1l : (-9223372036854775808) ≤ p1) (h1u : p1 ≤ 9223372036854775807) (h3l : (-9223372036854775808) ≤ p3) (h3u : p3 ≤ 9223372036854775807) : yC (xcall 89 xfts xpools xms (d + 3)) 121 [yR k0, yJ (p1), yJ (p3)] hp (fun rv hp' => (rv = none ∧ True) ∧ bAx G [(34359738368, 1), (34359738368, 2), (68719476736, 256)] hp hp') := by
  have A_hp : bAx G [(34359738368, 1), (34359738368, 2), (68719476736, 256)] hp hp := bAx.rf hT
  obtain ⟨n_k0, N_k0⟩ : ∃ n : Int, n = ((zat G k0 : Nat) : Int) := ⟨_, rfl⟩
  have L_k0 := n_Big W H_k0
  have H : ∀ m : Nat, (∀ a5 : Int, ∀ a7 : Int, ∀ a9 : Int, ∀ hq, bAx G [(34359738368, 1), (34359738368, 2), (68719476736, 256)] hp hq → (-9223372036854775808) ≤ a5 → (-9223372036854775807) ≤ 0 - a5 → (-9223372036854775808) ≤ a7 → (-9223372036854775807) ≤ 0 - a7 → 0 ≤ a9 → (-1000000) ≤ 0 - a9 → (-9223372036854775808) ≤ p1 → (-9223372036854775807) ≤ 0 - p1 → (-9223372036854775808) ≤ p3 → (-9223372036854775807) ≤ 0 - p3 → 12 ≤ n_k0 → (-96) ≤ 0 - n_k0 → (-9223372036854775808) ≤ a5 - a9 → (-9223372036855775806) ≤ a7 - a9 → (-9223372036854775806) ≤ a5 - p1 → (-18446744073709551613) ≤ a7 - p3 → 0 ≤ 0 - a7 + p3 → (-9223372036854775808) ≤ 0 - a9 + p3 → 2 * a7 + 18446744073709551617 < (m : Int) → yG 89 xfts (xcall 89 xfts xpools xms (d + 2)) (xpool xp_RX3) [] xt_X3_putCommon (yP 0 (fun rv hp' => (rv = none ∧ True) ∧ bAx G [(34359738368, 1), (34359738368, 2), (68719476736, 256)] hp hp')) (19 * m) 9 [(0, yR k0), (5, yJ (a5)), (7, yJ (a7)), (9, yI (a9))] [] hq) := by
    intro m
    induction m with
    | zero =>
      intros; exfalso; omega
    | succ m ih =>
      have i_9 := ih
      clear ih
      intro a5 a7 a9 hq A_hq f0 f1 f2 f3 f4 f5 f6 f7 f8 f9 f10 f11 f12 f13 f14 f15 f16 f17 hm
      refine yG.mono (N := 19 * m + 19) ?_ (by omega)
      refine yG.load xik rfl (fun _ _ => rfl) (v := yI (a9)) rfl rfl ?_
      refine yG.num (c := 1000000) rfl (fun _ _ => rfl) (by decide) ?_
      refine yG.icmp rfl (t := 44) rfl ⟨by omega, by omega⟩ ⟨by omega, by omega⟩ (fun c1 => ?_) (fun c1 => ?_)
      · have c1 : (a9 : Int) ≥ 1000000 := c1
        refine yG.load xak rfl (fun _ _ => rfl) (v := yR k0) rfl rfl ?_
        refine yG.load xlk2 rfl (fun _ _ => rfl) (v := yJ (a5)) rfl rfl ?_
        refine yG.invV (rest := []) A_hq.1 (bOb (d_Big W) H_k0) rfl rfl rfl rfl (c_Big_put W d A_hq.1 H_k0 (a5) (by omega) (by omega)) (fun rv h2 q9 => ?_)
        obtain ⟨⟨rfl, R_z3⟩, B_h2⟩ := q9
        have A_h2 := A_hq.tr B_h2 (by decide)
        show yG _ _ _ _ _ _ _ _ _ _ [] _
        refine yG.ret rfl (fun _ _ => rfl) ?_
        exact (yP.void ⟨⟨rfl, trivial⟩, A_h2⟩)
      · have c1 : (a9 : Int) < 1000000 := c1
        refine yG.load xlk2 rfl (fun _ _ => rfl) (v := yJ (a7)) rfl rfl ?_
        refine yG.numl (c := 0) rfl (fun _ _ => rfl) (by decide) ?_
        refine yG.lcmp rfl ⟨by omega, by omega⟩ ⟨by omega, by omega⟩ (fun z4 e_z4 => ?_)
        refine yG.ifz rfl (t := 44) rfl ⟨by omega, by omega⟩ (fun c5 => ?_) (fun c5 => ?_)
        · have c5 : (z4 : Int) ≤ 0 := c5
          refine yG.load xak rfl (fun _ _ => rfl) (v := yR k0) rfl rfl ?_
          refine yG.load xlk2 rfl (fun _ _ => rfl) (v := yJ (a5)) rfl rfl ?_
          refine yG.invV (rest := []) A_hq.1 (bOb (d_Big W) H_k0) rfl rfl rfl rfl (c_Big_put W d A_hq.1 H_k0 (a5) (by omega) (by omega)) (fun rv h6 q9 => ?_)
          obtain ⟨⟨rfl, R_z7⟩, B_h6⟩ := q9
          have A_h6 := A_hq.tr B_h6 (by decide)
          show yG _ _ _ _ _ _ _ _ _ _ [] _
          refine yG.ret rfl (fun _ _ => rfl) ?_
          exact (yP.void ⟨⟨rfl, trivial⟩, A_h6⟩)
        · have c5 : (z4 : Int) > 0 := c5
          refine yG.load xlk2 rfl (fun _ _ => rfl) (v := yJ (a5)) rfl rfl ?_
          refine yG.load xlk2 rfl (fun _ _ => rfl) (v := yJ (a7)) rfl rfl ?_
          refine yG.lremS rfl ⟨by omega, by omega⟩ ⟨by omega, by omega⟩ (by omega) (fun z8 l_z8 u_z8 => ?_)
          refine yG.store2 xlk2 (L' := [(10, yJ (z8)), (0, yR k0), (5, yJ (a5)), (7, yJ (a7)), (9, yI (a9))]) rfl (fun _ _ => rfl) rfl rfl ?_
          refine yG.load xlk2 rfl (fun _ _ => rfl) (v := yJ (a7)) rfl rfl ?_
          refine yG.store2 xlk2 (L' := [(5, yJ (a7)), (10, yJ (z8)), (0, yR k0), (7, yJ (a7)), (9, yI (a9))]) rfl (fun _ _ => rfl) rfl rfl ?_
          refine yG.load xlk2 rfl (fun _ _ => rfl) (v := yJ (z8)) rfl rfl ?_
          refine yG.store2 xlk2 (L' := [(7, yJ (z8)), (5, yJ (a7)), (10, yJ (z8)), (0, yR k0), (9, yI (a9))]) rfl (fun _ _ => rfl) rfl rfl ?_
          refine yG.iinc rfl (a := a9) rfl (L' := [(9, yI (a9 + 1)), (7, yJ (z8)), (5, yJ (a7)), (10, yJ (z8)), (0, yR k0)]) rfl ?_
          refine yG.goto rfl (t := 9) rfl ?_
          exact yG.mono (yG.sub (i_9 (a7) (z8) (a9 + 1)  hq A_hq   (by omega) (by omega) (by omega) (by omega) (by omega) (by omega) (by omega) (by omega) (by omega) (by omega) (by omega) (by omega) (by omega) (by omega) (by omega) (by omega) (by omega) (by omega) (by omega)) (ySub.cons rfl (ySub.cons rfl (ySub.cons rfl (ySub.cons rfl (ySub.nil)))))) (by omega)
  refine yC.of (M := (xt_X3_putCommon, (12, (0, (4, []))))) rfl rfl (N := 700976274800962961446) (yfuel (by decide)) ?_
  show yG 89 xfts (xcall 89 xfts xpools xms (d + 2)) (xpool xp_RX3) [] xt_X3_putCommon (yP 0 (fun rv hp' => (rv = none ∧ True) ∧ bAx G [(34359738368, 1), (34359738368, 2), (68719476736, 256)] hp hp')) 700976274800962961446 0 [(0, yR k0), (1, yJ (p1)), (3, yJ (p3))] [] hp
  have i_9 := H 36893488147419103233
  refine yG.load xlk2 rfl (fun _ _ => rfl) (v := yJ (p1)) rfl rfl ?_
  refine yG.store2 xlk2 (L' := [(5, yJ (p1)), (0, yR k0), (1, yJ (p1)), (3, yJ (p3))]) rfl (fun _ _ => rfl) rfl rfl ?_
  refine yG.load xlk2 rfl (fun _ _ => rfl) (v := yJ (p3)) rfl rfl ?_
  refine yG.store2 xlk2 (L' := [(7, yJ (p3)), (5, yJ (p1)), (0, yR k0), (1, yJ (p1)), (3, yJ (p3))]) rfl (fun _ _ => rfl) rfl rfl ?_
  refine yG.num (c := 0) rfl (fun _ _ => rfl) (by decide) ?_
  refine yG.store1 xik (L' := [(9, yI (0)), (7, yJ (p3)), (5, yJ (p1)), (0, yR k0), (1, yJ (p1)), (3, yJ (p3))]) rfl (fun _ _ => rfl) rfl rfl ?_
  exact yG.mono (yG.sub (i_9 (p1) (p3) (0)  hp A_hp   (by omega) (by omega) (by omega) (by omega) (by omega) (by omega) (by omega) (by omega) (by omega) (by omega) (by omega) (by omega) (by omega) (by omega) (by omega) (by omega) (by omega) (by omega) (by omega)) (ySub.cons rfl (ySub.cons rfl (ySub.cons rfl (ySub.cons rfl (ySub.nil)))))) (by omega)
theorem c_Hand_common {hp : xH} (W : bW G) (d : Nat) (hT : zTy G hp) {k0 : Nat} (H_k0 : bRo G 34 k0) : yC (xcall 89 xfts xpools xms (d + 4)) 115 [yR k0] hp (bQr G [(34359738368, 1), (34359738368, 2), (68719476736, 256)] hp 35) := by
  have A_hp : bAx G [(34359738368, 1), (34359738368, 2), (68719476736, 256)] hp hp := bAx.rf hT
  have H : ∀ m : Nat, (∀ a1 : Nat, ∀ a2 : Nat, ∀ a3 : Int, ∀ hq, bAx G [(34359738368, 1), (34359738368, 2), (68719476736, 256)] hp hq → bRo G 35 a1 → bRo G 35 a2 → 0 ≤ a3 → (-1000000) ≤ 0 - a3 → 0 - 2 * a3 + 2000001 < (m : Int) → yG 89 xfts (xcall 89 xfts xpools xms (d + 3)) (xpool xp_RX3) [] xt_X3_common (yP 3 (bQr G [(34359738368, 1), (34359738368, 2), (68719476736, 256)] hp 35)) (27 * m) 28 [(0, yR k0), (1, yR a1), (2, yR a2), (3, yI (a3))] [] hq) := by
    intro m
    induction m with
    | zero =>
      intros; exfalso; omega
    | succ m ih =>
      have i_28 := ih
      clear ih
      intro a1 a2 a3 hq A_hq H_a1 H_a2 f0 f1 hm
      refine yG.mono (N := 27 * m + 27) ?_ (by omega)
      obtain ⟨n_a1, N_a1⟩ : ∃ n : Int, n = ((zat G a1 : Nat) : Int) := ⟨_, rfl⟩
      have L_a1 := n_Big W H_a1
      obtain ⟨n_a2, N_a2⟩ : ∃ n : Int, n = ((zat G a2 : Nat) : Int) := ⟨_, rfl⟩
      have L_a2 := n_Big W H_a2
      refine yG.load xik rfl (fun _ _ => rfl) (v := yI (a3)) rfl rfl ?_
      refine yG.num (c := 1000000) rfl (fun _ _ => rfl) (by decide) ?_
      refine yG.icmp rfl (t := 92) rfl ⟨by omega, by omega⟩ ⟨by omega, by omega⟩ (fun c1 => ?_) (fun c1 => ?_)
      · have c1 : (a3 : Int) ≥ 1000000 := c1
        refine yG.load xak rfl (fun _ _ => rfl) (v := yR a1) rfl rfl ?_
        refine yG.ret rfl (fun _ _ => rfl) ?_
        exact (yP.ref ⟨⟨a1, rfl, H_a1⟩, A_hq⟩)
      · have c1 : (a3 : Int) < 1000000 := c1
        refine yG.load xak rfl (fun _ _ => rfl) (v := yR a2) rfl rfl ?_
        refine yG.invV (rest := []) A_hq.1 (bOb (d_Big W) H_a2) rfl rfl rfl rfl (c_Big_sign W (d + 2) A_hq.1 H_a2) (fun rv hp9 q9 => ?_)
        obtain ⟨⟨z2, rfl, l_z2, u_z2, R_z2⟩, e9⟩ := q9
        rw [e9]
        show yG _ _ _ _ _ _ _ _ _ _ (yI z2 :: []) _
        refine yG.ifz rfl (t := 92) rfl ⟨by omega, by omega⟩ (fun c3 => ?_) (fun c3 => ?_)
        · have c3 : (z2 : Int) = 0 := c3
          refine yG.load xak rfl (fun _ _ => rfl) (v := yR a1) rfl rfl ?_
          refine yG.ret rfl (fun _ _ => rfl) ?_
          exact (yP.ref ⟨⟨a1, rfl, H_a1⟩, A_hq⟩)
        · have c3 : (z2 : Int) ≠ 0 := c3
          refine yG.load xak rfl (fun _ _ => rfl) (v := yR a1) rfl rfl ?_
          refine yG.invV (rest := []) A_hq.1 (bOb (d_Big W) H_a1) rfl rfl rfl rfl (c_Big_isSmall W (d + 2) A_hq.1 H_a1) (fun rv hp9 q9 => ?_)
          obtain ⟨⟨z4, rfl, l_z4, u_z4, R_z4⟩, e9⟩ := q9
          rw [e9]
          show yG _ _ _ _ _ _ _ _ _ _ (yI z4 :: []) _
          refine yG.ifz rfl (t := 69) rfl ⟨by omega, by omega⟩ (fun c5 => ?_) (fun c5 => ?_)
          · have c5 : (z4 : Int) = 0 := c5
            refine yG.load xak rfl (fun _ _ => rfl) (v := yR a1) rfl rfl ?_
            refine yG.load xak rfl (fun _ _ => rfl) (v := yR a2) rfl rfl ?_
            refine yG.load xak rfl (fun _ _ => rfl) (v := yR k0) rfl rfl ?_
            refine yG.getO A_hq.1 (w_Hand_often W H_k0) rfl rfl (fun r6 H_r6 O_r6 q_r6 => ?_)
            obtain ⟨n_r6, N_r6⟩ : ∃ n : Int, n = ((zat G r6 : Nat) : Int) := ⟨_, rfl⟩
            have L_r6 := n_Big W H_r6
            refine yG.invV (rest := []) A_hq.1 (bOb (d_Big W) H_a1) rfl rfl rfl rfl (c_Big_divide W d A_hq.1 H_a1 H_a2 H_r6) (fun rv h7 q9 => ?_)
            obtain ⟨⟨rfl, R_z8⟩, B_h7⟩ := q9
            have A_h7 := A_hq.tr B_h7 (by decide)
            show yG _ _ _ _ _ _ _ _ _ _ [] _
            refine yG.load xak rfl (fun _ _ => rfl) (v := yR a1) rfl rfl ?_
            refine yG.store1 xak (L' := [(4, yR a1), (0, yR k0), (1, yR a1), (2, yR a2), (3, yI (a3))]) rfl (fun _ _ => rfl) rfl rfl ?_
            refine yG.load xak rfl (fun _ _ => rfl) (v := yR a2) rfl rfl ?_
            refine yG.store1 xak (L' := [(1, yR a2), (4, yR a1), (0, yR k0), (2, yR a2), (3, yI (a3))]) rfl (fun _ _ => rfl) rfl rfl ?_
            refine yG.load xak rfl (fun _ _ => rfl) (v := yR a1) rfl rfl ?_
            refine yG.store1 xak (L' := [(2, yR a1), (1, yR a2), (4, yR a1), (0, yR k0), (3, yI (a3))]) rfl (fun _ _ => rfl) rfl rfl ?_
            refine yG.iinc rfl (a := a3) rfl (L' := [(3, yI (a3 + 1)), (2, yR a1), (1, yR a2), (4, yR a1), (0, yR k0)]) rfl ?_
            refine yG.goto rfl (t := 28) rfl ?_
            exact yG.mono (yG.sub (i_28 a2 a1 (a3 + 1)  h7 A_h7 H_a2 H_a1  (by omega) (by omega) (by omega)) (ySub.cons rfl (ySub.cons rfl (ySub.cons rfl (ySub.cons rfl (ySub.nil)))))) (by omega)
          · have c5 : (z4 : Int) ≠ 0 := c5
            refine yG.load xak rfl (fun _ _ => rfl) (v := yR a2) rfl rfl ?_
            refine yG.invV (rest := []) A_hq.1 (bOb (d_Big W) H_a2) rfl rfl rfl rfl (c_Big_isSmall W (d + 2) A_hq.1 H_a2) (fun rv hp9 q9 => ?_)
            obtain ⟨⟨z9, rfl, l_z9, u_z9, R_z9⟩, e9⟩ := q9
            rw [e9]
            show yG _ _ _ _ _ _ _ _ _ _ (yI z9 :: []) _
            refine yG.ifz rfl (t := 69) rfl ⟨by omega, by omega⟩ (fun c10 => ?_) (fun c10 => ?_)
            · have c10 : (z9 : Int) = 0 := c10
              refine yG.load xak rfl (fun _ _ => rfl) (v := yR a1) rfl rfl ?_
              refine yG.load xak rfl (fun _ _ => rfl) (v := yR a2) rfl rfl ?_
              refine yG.load xak rfl (fun _ _ => rfl) (v := yR k0) rfl rfl ?_
              refine yG.getO A_hq.1 (w_Hand_often W H_k0) rfl rfl (fun r11 H_r11 O_r11 q_r11 => ?_)
              obtain ⟨n_r11, N_r11⟩ : ∃ n : Int, n = ((zat G r11 : Nat) : Int) := ⟨_, rfl⟩
              have L_r11 := n_Big W H_r11
              refine yG.invV (rest := []) A_hq.1 (bOb (d_Big W) H_a1) rfl rfl rfl rfl (c_Big_divide W d A_hq.1 H_a1 H_a2 H_r11) (fun rv h12 q9 => ?_)
              obtain ⟨⟨rfl, R_z13⟩, B_h12⟩ := q9
              have A_h12 := A_hq.tr B_h12 (by decide)
              show yG _ _ _ _ _ _ _ _ _ _ [] _
              refine yG.load xak rfl (fun _ _ => rfl) (v := yR a1) rfl rfl ?_
              refine yG.store1 xak (L' := [(4, yR a1), (0, yR k0), (1, yR a1), (2, yR a2), (3, yI (a3))]) rfl (fun _ _ => rfl) rfl rfl ?_
              refine yG.load xak rfl (fun _ _ => rfl) (v := yR a2) rfl rfl ?_
              refine yG.store1 xak (L' := [(1, yR a2), (4, yR a1), (0, yR k0), (2, yR a2), (3, yI (a3))]) rfl (fun _ _ => rfl) rfl rfl ?_
              refine yG.load xak rfl (fun _ _ => rfl) (v := yR a1) rfl rfl ?_
              refine yG.store1 xak (L' := [(2, yR a1), (1, yR a2), (4, yR a1), (0, yR k0), (3, yI (a3))]) rfl (fun _ _ => rfl) rfl rfl ?_
              refine yG.iinc rfl (a := a3) rfl (L' := [(3, yI (a3 + 1)), (2, yR a1), (1, yR a2), (4, yR a1), (0, yR k0)]) rfl ?_
              refine yG.goto rfl (t := 28) rfl ?_
              exact yG.mono (yG.sub (i_28 a2 a1 (a3 + 1)  h12 A_h12 H_a2 H_a1  (by omega) (by omega) (by omega)) (ySub.cons rfl (ySub.cons rfl (ySub.cons rfl (ySub.cons rfl (ySub.nil)))))) (by omega)
            · have c10 : (z9 : Int) ≠ 0 := c10
              refine yG.load xak rfl (fun _ _ => rfl) (v := yR a1) rfl rfl ?_
              refine yG.load xak rfl (fun _ _ => rfl) (v := yR a1) rfl rfl ?_
              refine yG.invV (rest := [yR a1]) A_hq.1 (bOb (d_Big W) H_a1) rfl rfl rfl rfl (c_Big_small W (d + 2) A_hq.1 H_a1) (fun rv hp9 q9 => ?_)
              obtain ⟨⟨z14, rfl, l_z14, u_z14, R_z14⟩, e9⟩ := q9
              rw [e9]
              show yG _ _ _ _ _ _ _ _ _ _ (yJ z14 :: [yR a1]) _
              refine yG.load xak rfl (fun _ _ => rfl) (v := yR a2) rfl rfl ?_
              refine yG.invV (rest := [yJ (z14), yR a1]) A_hq.1 (bOb (d_Big W) H_a2) rfl rfl rfl rfl (c_Big_small W (d + 2) A_hq.1 H_a2) (fun rv hp9 q9 => ?_)
              obtain ⟨⟨z15, rfl, l_z15, u_z15, R_z15⟩, e9⟩ := q9
              rw [e9]
              show yG _ _ _ _ _ _ _ _ _ _ (yJ z15 :: [yJ (z14), yR a1]) _
              refine yG.invS (rest := []) rfl rfl rfl rfl (c_Hand_putCommon W d A_hq.1 H_a1 (z14) (z15) (by omega) (by omega) (by omega) (by omega)) (fun rv h16 q9 => ?_)
              obtain ⟨⟨rfl, R_z17⟩, B_h16⟩ := q9
              have A_h16 := A_hq.tr B_h16 (by decide)
              show yG _ _ _ _ _ _ _ _ _ _ [] _
              refine yG.load xak rfl (fun _ _ => rfl) (v := yR a1) rfl rfl ?_
              refine yG.ret rfl (fun _ _ => rfl) ?_
              exact (yP.ref ⟨⟨a1, rfl, H_a1⟩, A_h16⟩)
  refine yC.of (M := (xt_X3_common, (5, (3, (4, []))))) rfl rfl (N := 54000108) (yfuel (by decide)) ?_
  show yG 89 xfts (xcall 89 xfts xpools xms (d + 3)) (xpool xp_RX3) [] xt_X3_common (yP 3 (bQr G [(34359738368, 1), (34359738368, 2), (68719476736, 256)] hp 35)) 54000108 0 [(0, yR k0)] [] hp
  have i_28 := H 2000003
  refine yG.load xak rfl (fun _ _ => rfl) (v := yR k0) rfl rfl ?_
  refine yG.getO A_hp.1 (w_Hand_great W H_k0) rfl rfl (fun r1 H_r1 O_r1 q_r1 => ?_)
  obtain ⟨n_r1, N_r1⟩ : ∃ n : Int, n = ((zat G r1 : Nat) : Int) := ⟨_, rfl⟩
  have L_r1 := n_Big W H_r1
  refine yG.store1 xak (L' := [(1, yR r1), (0, yR k0)]) rfl (fun _ _ => rfl) rfl rfl ?_
  refine yG.load xak rfl (fun _ _ => rfl) (v := yR k0) rfl rfl ?_
  refine yG.getO A_hp.1 (w_Hand_small W H_k0) rfl rfl (fun r2 H_r2 O_r2 q_r2 => ?_)
  obtain ⟨n_r2, N_r2⟩ : ∃ n : Int, n = ((zat G r2 : Nat) : Int) := ⟨_, rfl⟩
  have L_r2 := n_Big W H_r2
  refine yG.store1 xak (L' := [(2, yR r2), (1, yR r1), (0, yR k0)]) rfl (fun _ _ => rfl) rfl rfl ?_
  refine yG.load xak rfl (fun _ _ => rfl) (v := yR r1) rfl rfl ?_
  refine yG.load xak rfl (fun _ _ => rfl) (v := yR k0) rfl rfl ?_
  refine yG.getO A_hp.1 (w_Hand_above W H_k0) rfl rfl (fun r3 H_r3 O_r3 q_r3 => ?_)
  obtain ⟨n_r3, N_r3⟩ : ∃ n : Int, n = ((zat G r3 : Nat) : Int) := ⟨_, rfl⟩
  have L_r3 := n_Big W H_r3
  refine yG.invV (rest := []) A_hp.1 (bOb (d_Big W) H_r1) rfl rfl rfl rfl (c_Big_copy W (d + 1) A_hp.1 H_r1 H_r3) (fun rv h4 q9 => ?_)
  obtain ⟨⟨rfl, R_z5⟩, B_h4⟩ := q9
  have A_h4 := A_hp.tr B_h4 (by decide)
  show yG _ _ _ _ _ _ _ _ _ _ [] _
  refine yG.load xak rfl (fun _ _ => rfl) (v := yR r2) rfl rfl ?_
  refine yG.load xak rfl (fun _ _ => rfl) (v := yR k0) rfl rfl ?_
  refine yG.getO A_h4.1 (w_Hand_below W H_k0) rfl rfl (fun r6 H_r6 O_r6 q_r6 => ?_)
  obtain ⟨n_r6, N_r6⟩ : ∃ n : Int, n = ((zat G r6 : Nat) : Int) := ⟨_, rfl⟩
  have L_r6 := n_Big W H_r6
  refine yG.invV (rest := []) A_h4.1 (bOb (d_Big W) H_r2) rfl rfl rfl rfl (c_Big_copy W (d + 1) A_h4.1 H_r2 H_r6) (fun rv h7 q9 => ?_)
  obtain ⟨⟨rfl, R_z8⟩, B_h7⟩ := q9
  have A_h7 := A_h4.tr B_h7 (by decide)
  show yG _ _ _ _ _ _ _ _ _ _ [] _
  refine yG.num (c := 0) rfl (fun _ _ => rfl) (by decide) ?_
  refine yG.store1 xik (L' := [(3, yI (0)), (2, yR r2), (1, yR r1), (0, yR k0)]) rfl (fun _ _ => rfl) rfl rfl ?_
  exact yG.mono (yG.sub (i_28 r1 r2 (0)  h7 A_h7 H_r1 H_r2  (by omega) (by omega) (by omega)) (ySub.cons rfl (ySub.cons rfl (ySub.cons rfl (ySub.cons rfl (ySub.nil)))))) (by omega)
theorem c_Hand_divide {hp : xH} (W : bW G) (d : Nat) (hT : zTy G hp) {k0 : Nat} (H_k0 : bRo G 34 k0) {k1 : Nat} (H_k1 : bRo G 35 k1) {k2 : Nat} (H_k2 : bRo G 35 k2) : yC (xcall 89 xfts xpools xms (d + 4)) 117 [yR k0, yR k1, yR k2] hp (fun rv hp' => (rv = none ∧ True) ∧ bAx G [(34359738368, 1), (34359738368, 2), (68719476736, 256)] hp hp') := by
  have A_hp : bAx G [(34359738368, 1), (34359738368, 2), (68719476736, 256)] hp hp := bAx.rf hT
  obtain ⟨n_k1, N_k1⟩ : ∃ n : Int, n = ((zat G k1 : Nat) : Int) := ⟨_, rfl⟩
  have L_k1 := n_Big W H_k1
  obtain ⟨n_k2, N_k2⟩ : ∃ n : Int, n = ((zat G k2 : Nat) : Int) := ⟨_, rfl⟩
  have L_k2 := n_Big W H_k2
  refine yC.of (M := (xt_X3_divide, (3, (0, (4, []))))) rfl rfl (N := 36) (yfuel (by decide)) ?_
  show yG 89 xfts (xcall 89 xfts xpools xms (d + 3)) (xpool xp_RX3) [] xt_X3_divide (yP 0 (fun rv hp' => (rv = none ∧ True) ∧ bAx G [(34359738368, 1), (34359738368, 2), (68719476736, 256)] hp hp')) 36 0 [(0, yR k0), (1, yR k1), (2, yR k2)] [] hp
  refine yG.load xak rfl (fun _ _ => rfl) (v := yR k1) rfl rfl ?_
  refine yG.load xak rfl (fun _ _ => rfl) (v := yR k2) rfl rfl ?_
  refine yG.load xak rfl (fun _ _ => rfl) (v := yR k0) rfl rfl ?_
  refine yG.getO A_hp.1 (w_Hand_often W H_k0) rfl rfl (fun r1 H_r1 O_r1 q_r1 => ?_)
  obtain ⟨n_r1, N_r1⟩ : ∃ n : Int, n = ((zat G r1 : Nat) : Int) := ⟨_, rfl⟩
  have L_r1 := n_Big W H_r1
  refine yG.invV (rest := []) A_hp.1 (bOb (d_Big W) H_k1) rfl rfl rfl rfl (c_Big_divide W d A_hp.1 H_k1 H_k2 H_r1) (fun rv h2 q9 => ?_)
  obtain ⟨⟨rfl, R_z3⟩, B_h2⟩ := q9
  have A_h2 := A_hp.tr B_h2 (by decide)
  have qq1 : zsl h2 k0 4 = yR r1 := (B_h2.sl H_k0 (by decide)).trans q_r1
  show yG _ _ _ _ _ _ _ _ _ _ [] _
  refine yG.load xak rfl (fun _ _ => rfl) (v := yR k1) rfl rfl ?_
  refine yG.load xak rfl (fun _ _ => rfl) (v := yR k0) rfl rfl ?_
  refine yG.getS9 A_h2.1 (w_Hand_often W H_k0) qq1 rfl rfl ?_
  refine yG.invV (rest := []) A_h2.1 (bOb (d_Big W) H_k1) rfl rfl rfl rfl (c_Big_copy W (d + 1) A_h2.1 H_k1 H_r1) (fun rv h4 q9 => ?_)
  obtain ⟨⟨rfl, R_z5⟩, B_h4⟩ := q9
  have A_h4 := A_h2.tr B_h4 (by decide)
  have qq2 : zsl h4 k0 4 = yR r1 := (B_h4.sl H_k0 (by decide)).trans qq1
  show yG _ _ _ _ _ _ _ _ _ _ [] _
  refine yG.ret rfl (fun _ _ => rfl) ?_
  exact (yP.void ⟨⟨rfl, trivial⟩, A_h4⟩)
theorem c_Hand_write {hp : xH} (W : bW G) (d : Nat) (hT : zTy G hp) {k0 : Nat} (H_k0 : bRo G 34 k0) {k2 : Nat} (H_k2 : bRo G 35 k2) (p1 : Int) (h1l : 0 ≤ p1) (h1u : p1 ≤ 1) : yC (xcall 89 xfts xpools xms (d + 3)) 122 [yR k0, yI (p1), yR k2] hp (fun rv hp' => (rv = none ∧ True) ∧ bAx G [(34359738368, 1), (34359738368, 2), (893353197568, 256)] hp hp') := by
  have A_hp : bAx G [(34359738368, 1), (34359738368, 2), (893353197568, 256)] hp hp := bAx.rf hT
  obtain ⟨n_k2, N_k2⟩ : ∃ n : Int, n = ((zat G k2 : Nat) : Int) := ⟨_, rfl⟩
  have L_k2 := n_Big W H_k2
  have H : ∀ m : Nat, (∀ a3 : Nat, ∀ a4 : Int, ∀ a5 : Int, ∀ hq, bAx G [(34359738368, 1), (34359738368, 2), (893353197568, 256)] hp hq → bRo G 35 a3 → 0 ≤ a4 → (-900) ≤ 0 - a4 → 0 ≤ a5 → (-900) ≤ 0 - a5 → 0 ≤ p1 → (-1) ≤ 0 - p1 → 12 ≤ n_k2 → (-96) ≤ 0 - n_k2 → (-891) ≤ a4 - a5 → (-899) ≤ 0 - a4 + a5 → 0 - 2704 * a5 + 2436303 < (m : Int) → yG 89 xfts (xcall 89 xfts xpools xms (d + 2)) (xpool xp_RX3) [] xt_X3_write (yP 0 (fun rv hp' => (rv = none ∧ True) ∧ bAx G [(34359738368, 1), (34359738368, 2), (893353197568, 256)] hp hp')) (25 * m) 20 [(0, yR k0), (1, yI (p1)), (3, yR a3), (4, yI (a4)), (5, yI (a5))] [] hq) ∧ (∀ a3 : Nat, ∀ a4 : Int, ∀ a5 : Int, ∀ a6 : Int, ∀ a8 : Int, ∀ hq, bAx G [(34359738368, 1), (34359738368, 2), (893353197568, 256)] hp hq → bRo G 35 a3 → 0 ≤ a4 → (-900) ≤ 0 - a4 → 0 ≤ a5 → (-899) ≤ 0 - a5 → 0 ≤ a6 → (-999999999) ≤ 0 - a6 → 0 ≤ a8 → (-9) ≤ 0 - a8 → 0 ≤ p1 → (-1) ≤ 0 - p1 → 12 ≤ n_k2 → (-96) ≤ 0 - n_k2 → (-898) ≤ a4 - a5 → 0 ≤ a4 - a8 → 0 - 2 * a4 - 2704 * a5 + 2435401 < (m : Int) → yG 89 xfts (xcall 89 xfts xpools xms (d + 2)) (xpool xp_RX3) [] xt_X3_write (yP 0 (fun rv hp' => (rv = none ∧ True) ∧ bAx G [(34359738368, 1), (34359738368, 2), (893353197568, 256)] hp hp')) (25 * m) 47 [(0, yR k0), (1, yI (p1)), (3, yR a3), (4, yI (a4)), (5, yI (a5)), (6, yJ (a6)), (8, yI (a8))] [] hq) ∧ (∀ a4 : Int, ∀ hq, bAx G [(34359738368, 1), (34359738368, 2), (893353197568, 256)] hp hq → 0 ≤ a4 → (-900) ≤ 0 - a4 → 0 ≤ p1 → (-1) ≤ 0 - p1 → 12 ≤ n_k2 → (-96) ≤ 0 - n_k2 → 3 * a4 + 2 < (m : Int) → yG 89 xfts (xcall 89 xfts xpools xms (d + 2)) (xpool xp_RX3) [] xt_X3_write (yP 0 (fun rv hp' => (rv = none ∧ True) ∧ bAx G [(34359738368, 1), (34359738368, 2), (893353197568, 256)] hp hp')) (25 * m) 101 [(0, yR k0), (1, yI (p1)), (4, yI (a4))] [] hq) ∧ (∀ a4 : Int, ∀ hq, bAx G [(34359738368, 1), (34359738368, 2), (893353197568, 256)] hp hq → 0 ≤ a4 → (-900) ≤ 0 - a4 → 0 ≤ p1 → (-1) ≤ 0 - p1 → 12 ≤ n_k2 → (-96) ≤ 0 - n_k2 → 1 < (m : Int) → yG 89 xfts (xcall 89 xfts xpools xms (d + 2)) (xpool xp_RX3) [] xt_X3_write (yP 0 (fun rv hp' => (rv = none ∧ True) ∧ bAx G [(34359738368, 1), (34359738368, 2), (893353197568, 256)] hp hp')) (25 * m) 126 [(0, yR k0), (1, yI (p1)), (4, yI (a4))] [] hq) := by
    intro m
    induction m with
    | zero =>
      refine ⟨?_, ?_, ?_, ?_⟩ <;> (intros; exfalso; omega)
    | succ m ih =>
      obtain ⟨i_20, i_47, i_101, i_126⟩ := ih
      refine ⟨?_, ?_, ?_, ?_⟩
      · intro a3 a4 a5 hq A_hq H_a3 f0 f1 f2 f3 f4 f5 f6 f7 f8 f9 hm
        refine yG.mono (N := 25 * m + 25) ?_ (by omega)
        obtain ⟨n_a3, N_a3⟩ : ∃ n : Int, n = ((zat G a3 : Nat) : Int) := ⟨_, rfl⟩
        have L_a3 := n_Big W H_a3
        refine yG.load xik rfl (fun _ _ => rfl) (v := yI (a5)) rfl rfl ?_
        refine yG.num (c := 900) rfl (fun _ _ => rfl) (by decide) ?_
        refine yG.icmp rfl (t := 101) rfl ⟨by omega, by omega⟩ ⟨by omega, by omega⟩ (fun c1 => ?_) (fun c1 => ?_)
        · have c1 : (a5 : Int) ≥ 900 := c1
          exact yG.mono (yG.sub (i_101 (a4)  hq A_hq   (by omega) (by omega) (by omega) (by omega) (by omega) (by omega) (by omega)) (ySub.cons rfl (ySub.cons rfl (ySub.cons rfl (ySub.nil))))) (by omega)
        · have c1 : (a5 : Int) < 900 := c1
          refine yG.load xak rfl (fun _ _ => rfl) (v := yR a3) rfl rfl ?_
          refine yG.invV (rest := []) A_hq.1 (bOb (d_Big W) H_a3) rfl rfl rfl rfl (c_Big_sign W (d + 1) A_hq.1 H_a3) (fun rv hp9 q9 => ?_)
          obtain ⟨⟨z2, rfl, l_z2, u_z2, R_z2⟩, e9⟩ := q9
          rw [e9]
          show yG _ _ _ _ _ _ _ _ _ _ (yI z2 :: []) _
          refine yG.ifz rfl (t := 101) rfl ⟨by omega, by omega⟩ (fun c3 => ?_) (fun c3 => ?_)
          · have c3 : (z2 : Int) = 0 := c3
            exact yG.mono (yG.sub (i_101 (a4)  hq A_hq   (by omega) (by omega) (by omega) (by omega) (by omega) (by omega) (by omega)) (ySub.cons rfl (ySub.cons rfl (ySub.cons rfl (ySub.nil))))) (by omega)
          · have c3 : (z2 : Int) ≠ 0 := c3
            refine yG.load xak rfl (fun _ _ => rfl) (v := yR a3) rfl rfl ?_
            refine yG.numl (c := 1000000000) rfl (fun _ _ => rfl) (by decide) ?_
            refine yG.invV (rest := []) A_hq.1 (bOb (d_Big W) H_a3) rfl rfl rfl rfl (c_Big_shorten W d A_hq.1 H_a3 (1000000000) (by omega) (by omega)) (fun rv h4 q9 => ?_)
            obtain ⟨⟨z5, rfl, l_z5, u_z5, R_z5⟩, B_h4⟩ := q9
            have A_h4 := A_hq.tr B_h4 (by decide)
            show yG _ _ _ _ _ _ _ _ _ _ (yJ z5 :: []) _
            refine yG.store2 xlk2 (L' := [(6, yJ (z5)), (0, yR k0), (1, yI (p1)), (3, yR a3), (4, yI (a4)), (5, yI (a5))]) rfl (fun _ _ => rfl) rfl rfl ?_
            refine yG.num (c := 0) rfl (fun _ _ => rfl) (by decide) ?_
            refine yG.store1 xik (L' := [(8, yI (0)), (6, yJ (z5)), (0, yR k0), (1, yI (p1)), (3, yR a3), (4, yI (a4)), (5, yI (a5))]) rfl (fun _ _ => rfl) rfl rfl ?_
            exact yG.mono (yG.sub (i_47 a3 (a4) (a5) (z5) (0)  h4 A_h4 H_a3  (by omega) (by omega) (by omega) (by omega) (by omega) (by omega) (by omega) (by omega) (by omega) (by omega) (by omega) (by omega) (by omega) (by omega) (by omega)) (ySub.cons rfl (ySub.cons rfl (ySub.cons rfl (ySub.cons rfl (ySub.cons rfl (ySub.cons rfl (ySub.cons rfl (ySub.nil))))))))) (by omega)
      · intro a3 a4 a5 a6 a8 hq A_hq H_a3 f0 f1 f2 f3 f4 f5 f6 f7 f8 f9 f10 f11 f12 f13 hm
        refine yG.mono (N := 25 * m + 25) ?_ (by omega)
        obtain ⟨n_a3, N_a3⟩ : ∃ n : Int, n = ((zat G a3 : Nat) : Int) := ⟨_, rfl⟩
        have L_a3 := n_Big W H_a3
        refine yG.load xik rfl (fun _ _ => rfl) (v := yI (a8)) rfl rfl ?_
        refine yG.num (c := 9) rfl (fun _ _ => rfl) (by decide) ?_
        refine yG.icmp rfl (t := 95) rfl ⟨by omega, by omega⟩ ⟨by omega, by omega⟩ (fun c1 => ?_) (fun c1 => ?_)
        · have c1 : (a8 : Int) ≥ 9 := c1
          refine yG.iinc rfl (a := a5) rfl (L' := [(5, yI (a5 + 1)), (0, yR k0), (1, yI (p1)), (3, yR a3), (4, yI (a4)), (6, yJ (a6)), (8, yI (a8))]) rfl ?_
          refine yG.goto rfl (t := 20) rfl ?_
          exact yG.mono (yG.sub (i_20 a3 (a4) (a5 + 1)  hq A_hq H_a3  (by omega) (by omega) (by omega) (by omega) (by omega) (by omega) (by omega) (by omega) (by omega) (by omega) (by omega)) (ySub.cons rfl (ySub.cons rfl (ySub.cons rfl (ySub.cons rfl (ySub.cons rfl (ySub.nil))))))) (by omega)
        · have c1 : (a8 : Int) < 9 := c1
          refine yG.load xik rfl (fun _ _ => rfl) (v := yI (a4)) rfl rfl ?_
          refine yG.num (c := 900) rfl (fun _ _ => rfl) (by decide) ?_
          refine yG.icmp rfl (t := 95) rfl ⟨by omega, by omega⟩ ⟨by omega, by omega⟩ (fun c2 => ?_) (fun c2 => ?_)
          · have c2 : (a4 : Int) ≥ 900 := c2
            refine yG.iinc rfl (a := a5) rfl (L' := [(5, yI (a5 + 1)), (0, yR k0), (1, yI (p1)), (3, yR a3), (4, yI (a4)), (6, yJ (a6)), (8, yI (a8))]) rfl ?_
            refine yG.goto rfl (t := 20) rfl ?_
            exact yG.mono (yG.sub (i_20 a3 (a4) (a5 + 1)  hq A_hq H_a3  (by omega) (by omega) (by omega) (by omega) (by omega) (by omega) (by omega) (by omega) (by omega) (by omega) (by omega)) (ySub.cons rfl (ySub.cons rfl (ySub.cons rfl (ySub.cons rfl (ySub.cons rfl (ySub.nil))))))) (by omega)
          · have c2 : (a4 : Int) < 900 := c2
            refine yG.load xak rfl (fun _ _ => rfl) (v := yR k0) rfl rfl ?_
            refine yG.getO A_hq.1 (w_Hand_figures W H_k0) rfl rfl (fun r3 H_r3 O_r3 q_r3 => ?_)
            refine yG.load xik rfl (fun _ _ => rfl) (v := yI (p1)) rfl rfl ?_
            refine yG.aaldO (r := 38) A_hq.1 (v_Hand_figures W H_r3) rfl rfl rfl (by omega) (by omega) (fun r4 H_r4 q_r4 => ?_)
            refine yG.load xik rfl (fun _ _ => rfl) (v := yI (a4)) rfl rfl ?_
            refine yG.load xlk2 rfl (fun _ _ => rfl) (v := yJ (a6)) rfl rfl ?_
            refine yG.numl (c := 10) rfl (fun _ _ => rfl) (by decide) ?_
            refine yG.lrem rfl ⟨by omega, by omega⟩ ⟨by omega, by omega⟩ (by omega) (by omega) ?_
            obtain ⟨z5, e_z5⟩ : ∃ z : Int, z = (a6) % (10) := ⟨_, rfl⟩
            rw [← e_z5]
            refine yG.l2i rfl ?_
            refine yG.iast A_hq.1 (v_Hand_figuress W H_r4) (W.2.1 _ _ H_r4 (by decide) (by decide)) rfl (by omega) (by omega) ⟨by omega, by omega⟩ (by omega) (by omega) (fun h6 T_h6 b_h6 f_h6 y_h6 => ?_)
            have A_h6 := A_hq.put T_h6 b_h6 f_h6 H_r4 (bAll_ok (by decide) _)
            refine yG.load xlk2 rfl (fun _ _ => rfl) (v := yJ (a6)) rfl rfl ?_
            refine yG.numl (c := 10) rfl (fun _ _ => rfl) (by decide) ?_
            refine yG.ldiv rfl ⟨by omega, by omega⟩ ⟨by omega, by omega⟩ (by omega) (by omega) ?_
            obtain ⟨z7, e_z7⟩ : ∃ z : Int, z = (a6) / (10) := ⟨_, rfl⟩
            rw [← e_z7]
            refine yG.store2 xlk2 (L' := [(6, yJ (z7)), (0, yR k0), (1, yI (p1)), (3, yR a3), (4, yI (a4)), (5, yI (a5)), (8, yI (a8))]) rfl (fun _ _ => rfl) rfl rfl ?_
            refine yG.iinc rfl (a := a4) rfl (L' := [(4, yI (a4 + 1)), (6, yJ (z7)), (0, yR k0), (1, yI (p1)), (3, yR a3), (5, yI (a5)), (8, yI (a8))]) rfl ?_
            refine yG.iinc rfl (a := a8) rfl (L' := [(8, yI (a8 + 1)), (4, yI (a4 + 1)), (6, yJ (z7)), (0, yR k0), (1, yI (p1)), (3, yR a3), (5, yI (a5))]) rfl ?_
            refine yG.goto rfl (t := 47) rfl ?_
            exact yG.mono (yG.sub (i_47 a3 (a4 + 1) (a5) (z7) (a8 + 1)  h6 A_h6 H_a3  (by omega) (by omega) (by omega) (by omega) (by omega) (by omega) (by omega) (by omega) (by omega) (by omega) (by omega) (by omega) (by omega) (by omega) (by omega)) (ySub.cons rfl (ySub.cons rfl (ySub.cons rfl (ySub.cons rfl (ySub.cons rfl (ySub.cons rfl (ySub.cons rfl (ySub.nil))))))))) (by omega)
      · intro a4 hq A_hq f0 f1 f2 f3 f4 f5 hm
        refine yG.mono (N := 25 * m + 25) ?_ (by omega)
        refine yG.load xik rfl (fun _ _ => rfl) (v := yI (a4)) rfl rfl ?_
        refine yG.ifz rfl (t := 126) rfl ⟨by omega, by omega⟩ (fun c1 => ?_) (fun c1 => ?_)
        · have c1 : (a4 : Int) ≤ 0 := c1
          exact yG.mono (yG.sub (i_126 (a4)  hq A_hq   (by omega) (by omega) (by omega) (by omega) (by omega) (by omega) (by omega)) (ySub.cons rfl (ySub.cons rfl (ySub.cons rfl (ySub.nil))))) (by omega)
        · have c1 : (a4 : Int) > 0 := c1
          refine yG.load xak rfl (fun _ _ => rfl) (v := yR k0) rfl rfl ?_
          refine yG.getO A_hq.1 (w_Hand_figures W H_k0) rfl rfl (fun r2 H_r2 O_r2 q_r2 => ?_)
          refine yG.load xik rfl (fun _ _ => rfl) (v := yI (p1)) rfl rfl ?_
          refine yG.aaldO (r := 38) A_hq.1 (v_Hand_figures W H_r2) rfl rfl rfl (by omega) (by omega) (fun r3 H_r3 q_r3 => ?_)
          refine yG.load xik rfl (fun _ _ => rfl) (v := yI (a4)) rfl rfl ?_
          refine yG.num (c := 1) rfl (fun _ _ => rfl) (by decide) ?_
          refine yG.isub rfl ?_
          refine yG.iald A_hq.1 (v_Hand_figuress W H_r3) rfl (by omega) (by omega) (fun z4 e_z4 i_z4 l_z4 u_z4 => ?_)
          refine yG.ifz rfl (t := 126) rfl ⟨by omega, by omega⟩ (fun c5 => ?_) (fun c5 => ?_)
          · have c5 : (z4 : Int) ≠ 0 := c5
            exact yG.mono (yG.sub (i_126 (a4)  hq A_hq   (by omega) (by omega) (by omega) (by omega) (by omega) (by omega) (by omega)) (ySub.cons rfl (ySub.cons rfl (ySub.cons rfl (ySub.nil))))) (by omega)
          · have c5 : (z4 : Int) = 0 := c5
            refine yG.iinc rfl (a := a4) rfl (L' := [(4, yI (a4 + (-1))), (0, yR k0), (1, yI (p1))]) rfl ?_
            refine yG.goto rfl (t := 101) rfl ?_
            exact yG.mono (yG.sub (i_101 (a4 + (-1))  hq A_hq   (by omega) (by omega) (by omega) (by omega) (by omega) (by omega) (by omega)) (ySub.cons rfl (ySub.cons rfl (ySub.cons rfl (ySub.nil))))) (by omega)
      · intro a4 hq A_hq f0 f1 f2 f3 f4 f5 hm
        refine yG.mono (N := 25 * m + 25) ?_ (by omega)
        refine yG.load xik rfl (fun _ _ => rfl) (v := yI (a4)) rfl rfl ?_
        refine yG.ifz rfl (t := 143) rfl ⟨by omega, by omega⟩ (fun c1 => ?_) (fun c1 => ?_)
        · have c1 : (a4 : Int) ≠ 0 := c1
          refine yG.load xak rfl (fun _ _ => rfl) (v := yR k0) rfl rfl ?_
          refine yG.getO A_hq.1 (w_Hand_lengths W H_k0) rfl rfl (fun r2 H_r2 O_r2 q_r2 => ?_)
          refine yG.load xik rfl (fun _ _ => rfl) (v := yI (p1)) rfl rfl ?_
          refine yG.load xik rfl (fun _ _ => rfl) (v := yI (a4)) rfl rfl ?_
          refine yG.iast A_hq.1 (v_Hand_lengths W H_r2) (W.2.1 _ _ H_r2 (by decide) (by decide)) rfl (by omega) (by omega) ⟨by omega, by omega⟩ (by omega) (by omega) (fun h3 T_h3 b_h3 f_h3 y_h3 => ?_)
          have A_h3 := A_hq.put T_h3 b_h3 f_h3 H_r2 (bAll_ok (by decide) _)
          refine yG.ret rfl (fun _ _ => rfl) ?_
          exact (yP.void ⟨⟨rfl, trivial⟩, A_h3⟩)
        · have c1 : (a4 : Int) = 0 := c1
          refine yG.load xak rfl (fun _ _ => rfl) (v := yR k0) rfl rfl ?_
          refine yG.getO A_hq.1 (w_Hand_figures W H_k0) rfl rfl (fun r4 H_r4 O_r4 q_r4 => ?_)
          refine yG.load xik rfl (fun _ _ => rfl) (v := yI (p1)) rfl rfl ?_
          refine yG.aaldO (r := 38) A_hq.1 (v_Hand_figures W H_r4) rfl rfl rfl (by omega) (by omega) (fun r5 H_r5 q_r5 => ?_)
          refine yG.num (c := 0) rfl (fun _ _ => rfl) (by decide) ?_
          refine yG.num (c := 0) rfl (fun _ _ => rfl) (by decide) ?_
          refine yG.iast A_hq.1 (v_Hand_figuress W H_r5) (W.2.1 _ _ H_r5 (by decide) (by decide)) rfl (by omega) (by omega) ⟨by omega, by omega⟩ (by omega) (by omega) (fun h6 T_h6 b_h6 f_h6 y_h6 => ?_)
          have A_h6 := A_hq.put T_h6 b_h6 f_h6 H_r5 (bAll_ok (by decide) _)
          refine yG.num (c := 1) rfl (fun _ _ => rfl) (by decide) ?_
          refine yG.store1 xik (L' := [(4, yI (1)), (0, yR k0), (1, yI (p1))]) rfl (fun _ _ => rfl) rfl rfl ?_
          refine yG.load xak rfl (fun _ _ => rfl) (v := yR k0) rfl rfl ?_
          refine yG.getO A_h6.1 (w_Hand_lengths W H_k0) rfl rfl (fun r7 H_r7 O_r7 q_r7 => ?_)
          refine yG.load xik rfl (fun _ _ => rfl) (v := yI (p1)) rfl rfl ?_
          refine yG.load xik rfl (fun _ _ => rfl) (v := yI (1)) rfl rfl ?_
          refine yG.iast A_h6.1 (v_Hand_lengths W H_r7) (W.2.1 _ _ H_r7 (by decide) (by decide)) rfl (by omega) (by omega) ⟨by omega, by omega⟩ (by omega) (by omega) (fun h8 T_h8 b_h8 f_h8 y_h8 => ?_)
          have A_h8 := A_h6.put T_h8 b_h8 f_h8 H_r7 (bAll_ok (by decide) _)
          refine yG.ret rfl (fun _ _ => rfl) ?_
          exact (yP.void ⟨⟨rfl, trivial⟩, A_h8⟩)
  refine yC.of (M := (xt_X3_write, (9, (0, (4, []))))) rfl rfl (N := 60907650) (yfuel (by decide)) ?_
  show yG 89 xfts (xcall 89 xfts xpools xms (d + 2)) (xpool xp_RX3) [] xt_X3_write (yP 0 (fun rv hp' => (rv = none ∧ True) ∧ bAx G [(34359738368, 1), (34359738368, 2), (893353197568, 256)] hp hp')) 60907650 0 [(0, yR k0), (1, yI (p1)), (2, yR k2)] [] hp
  obtain ⟨i_20, i_47, i_101, i_126⟩ := H 2436305
  refine yG.load xak rfl (fun _ _ => rfl) (v := yR k0) rfl rfl ?_
  refine yG.getO A_hp.1 (w_Hand_often W H_k0) rfl rfl (fun r1 H_r1 O_r1 q_r1 => ?_)
  obtain ⟨n_r1, N_r1⟩ : ∃ n : Int, n = ((zat G r1 : Nat) : Int) := ⟨_, rfl⟩
  have L_r1 := n_Big W H_r1
  refine yG.store1 xak (L' := [(3, yR r1), (0, yR k0), (1, yI (p1)), (2, yR k2)]) rfl (fun _ _ => rfl) rfl rfl ?_
  refine yG.load xak rfl (fun _ _ => rfl) (v := yR r1) rfl rfl ?_
  refine yG.load xak rfl (fun _ _ => rfl) (v := yR k2) rfl rfl ?_
  refine yG.invV (rest := []) A_hp.1 (bOb (d_Big W) H_r1) rfl rfl rfl rfl (c_Big_copy W d A_hp.1 H_r1 H_k2) (fun rv h2 q9 => ?_)
  obtain ⟨⟨rfl, R_z3⟩, B_h2⟩ := q9
  have A_h2 := A_hp.tr B_h2 (by decide)
  show yG _ _ _ _ _ _ _ _ _ _ [] _
  refine yG.load xak rfl (fun _ _ => rfl) (v := yR r1) rfl rfl ?_
  refine yG.invV (rest := []) A_h2.1 (bOb (d_Big W) H_r1) rfl rfl rfl rfl (c_Big_unsign W (d + 1) A_h2.1 H_r1) (fun rv h4 q9 => ?_)
  obtain ⟨⟨rfl, R_z5⟩, B_h4⟩ := q9
  have A_h4 := A_h2.tr B_h4 (by decide)
  show yG _ _ _ _ _ _ _ _ _ _ [] _
  refine yG.num (c := 0) rfl (fun _ _ => rfl) (by decide) ?_
  refine yG.store1 xik (L' := [(4, yI (0)), (3, yR r1), (0, yR k0), (1, yI (p1)), (2, yR k2)]) rfl (fun _ _ => rfl) rfl rfl ?_
  refine yG.num (c := 0) rfl (fun _ _ => rfl) (by decide) ?_
  refine yG.store1 xik (L' := [(5, yI (0)), (4, yI (0)), (3, yR r1), (0, yR k0), (1, yI (p1)), (2, yR k2)]) rfl (fun _ _ => rfl) rfl rfl ?_
  exact yG.mono (yG.sub (i_20 r1 (0) (0)  h4 A_h4 H_r1  (by omega) (by omega) (by omega) (by omega) (by omega) (by omega) (by omega) (by omega) (by omega) (by omega) (by omega)) (ySub.cons rfl (ySub.cons rfl (ySub.cons rfl (ySub.cons rfl (ySub.cons rfl (ySub.nil))))))) (by omega)
theorem c_Hand_bringLow {hp : xH} (W : bW G) (d : Nat) (hT : zTy G hp) {k0 : Nat} (H_k0 : bRo G 34 k0) : yC (xcall 89 xfts xpools xms (d + 5)) 114 [yR k0] hp (fun rv hp' => (rv = none ∧ True) ∧ bAx G [(34359738368, 1), (34359738368, 2), (17179869184, 7), (893353197568, 256)] hp hp') := by
  have A_hp : bAx G [(34359738368, 1), (34359738368, 2), (17179869184, 7), (893353197568, 256)] hp hp := bAx.rf hT
  have H : ∀ m : Nat, (∀ a1 : Int, ∀ hq, bAx G [(34359738368, 1), (34359738368, 2), (17179869184, 7), (893353197568, 256)] hp hq → 0 ≤ a1 → (-1) ≤ 0 - a1 → 1 < (m : Int) → yG 89 xfts (xcall 89 xfts xpools xms (d + 4)) (xpool xp_RX3) [] xt_X3_bringLow (yP 0 (fun rv hp' => (rv = none ∧ True) ∧ bAx G [(34359738368, 1), (34359738368, 2), (17179869184, 7), (893353197568, 256)] hp hp')) (31 * m) 59 [(0, yR k0), (1, yI (a1))] [] hq) := by
    intro m
    induction m with
    | zero =>
      intros; exfalso; omega
    | succ m ih =>
      have i_59 := ih
      clear ih
      intro a1 hq A_hq f0 f1 hm
      refine yG.mono (N := 31 * m + 31) ?_ (by omega)
      refine yG.load xak rfl (fun _ _ => rfl) (v := yR k0) rfl rfl ?_
      refine yG.num (c := 0) rfl (fun _ _ => rfl) (by decide) ?_
      refine yG.load xak rfl (fun _ _ => rfl) (v := yR k0) rfl rfl ?_
      refine yG.getO A_hq.1 (w_Hand_above W H_k0) rfl rfl (fun r1 H_r1 O_r1 q_r1 => ?_)
      obtain ⟨n_r1, N_r1⟩ : ∃ n : Int, n = ((zat G r1 : Nat) : Int) := ⟨_, rfl⟩
      have L_r1 := n_Big W H_r1
      refine yG.invV (rest := []) A_hq.1 (bOb (d_Hand W) H_k0) rfl rfl rfl rfl (c_Hand_write W (d + 1) A_hq.1 H_k0 H_r1 (0) (by omega) (by omega)) (fun rv h2 q9 => ?_)
      obtain ⟨⟨rfl, R_z3⟩, B_h2⟩ := q9
      have A_h2 := A_hq.tr B_h2 (by decide)
      have qq1 : zsl h2 k0 0 = yR r1 := (B_h2.sl H_k0 (by decide)).trans q_r1
      show yG _ _ _ _ _ _ _ _ _ _ [] _
      refine yG.load xak rfl (fun _ _ => rfl) (v := yR k0) rfl rfl ?_
      refine yG.num (c := 1) rfl (fun _ _ => rfl) (by decide) ?_
      refine yG.load xak rfl (fun _ _ => rfl) (v := yR k0) rfl rfl ?_
      refine yG.getO A_h2.1 (w_Hand_below W H_k0) rfl rfl (fun r4 H_r4 O_r4 q_r4 => ?_)
      obtain ⟨n_r4, N_r4⟩ : ∃ n : Int, n = ((zat G r4 : Nat) : Int) := ⟨_, rfl⟩
      have L_r4 := n_Big W H_r4
      refine yG.invV (rest := []) A_h2.1 (bOb (d_Hand W) H_k0) rfl rfl rfl rfl (c_Hand_write W (d + 1) A_h2.1 H_k0 H_r4 (1) (by omega) (by omega)) (fun rv h5 q9 => ?_)
      obtain ⟨⟨rfl, R_z6⟩, B_h5⟩ := q9
      have A_h5 := A_h2.tr B_h5 (by decide)
      have qq2 : zsl h5 k0 0 = yR r1 := (B_h5.sl H_k0 (by decide)).trans qq1
      show yG _ _ _ _ _ _ _ _ _ _ [] _
      refine yG.load xik rfl (fun _ _ => rfl) (v := yI (a1)) rfl rfl ?_
      refine yG.ifz rfl (t := 88) rfl ⟨by omega, by omega⟩ (fun c7 => ?_) (fun c7 => ?_)
      · have c7 : (a1 : Int) = 0 := c7
        refine yG.ret rfl (fun _ _ => rfl) ?_
        exact (yP.void ⟨⟨rfl, trivial⟩, A_h5⟩)
      · have c7 : (a1 : Int) ≠ 0 := c7
        refine yG.load xak rfl (fun _ _ => rfl) (v := yR k0) rfl rfl ?_
        refine yG.getS9 A_h5.1 (w_Hand_above W H_k0) qq2 rfl rfl ?_
        refine yG.invV (rest := []) A_h5.1 (bOb (d_Big W) H_r1) rfl rfl rfl rfl (c_Big_negate W (d + 3) A_h5.1 H_r1) (fun rv h8 q9 => ?_)
        obtain ⟨⟨rfl, R_z9⟩, B_h8⟩ := q9
        have A_h8 := A_h5.tr B_h8 (by decide)
        have qq3 : zsl h8 k0 0 = yR r1 := (B_h8.sl H_k0 (by decide)).trans qq2
        show yG _ _ _ _ _ _ _ _ _ _ [] _
        refine yG.ret rfl (fun _ _ => rfl) ?_
        exact (yP.void ⟨⟨rfl, trivial⟩, A_h8⟩)
  refine yC.of (M := (xt_X3_bringLow, (3, (0, (4, []))))) rfl rfl (N := 124) (yfuel (by decide)) ?_
  show yG 89 xfts (xcall 89 xfts xpools xms (d + 4)) (xpool xp_RX3) [] xt_X3_bringLow (yP 0 (fun rv hp' => (rv = none ∧ True) ∧ bAx G [(34359738368, 1), (34359738368, 2), (17179869184, 7), (893353197568, 256)] hp hp')) 124 0 [(0, yR k0)] [] hp
  have i_59 := H 3
  refine yG.load xak rfl (fun _ _ => rfl) (v := yR k0) rfl rfl ?_
  refine yG.getI A_hp.1 (w_Hand_lowest W H_k0) rfl rfl (fun z1 e_z1 i_z1 l_z1 u_z1 => ?_)
  refine yG.ifz rfl (t := 8) rfl ⟨by omega, by omega⟩ (fun c2 => ?_) (fun c2 => ?_)
  · have c2 : (z1 : Int) = 0 := c2
    refine yG.load xak rfl (fun _ _ => rfl) (v := yR k0) rfl rfl ?_
    refine yG.num (c := 1) rfl (fun _ _ => rfl) (by decide) ?_
    refine yG.putI A_hp.1 (w_Hand_lowest W H_k0) (W.2.1 _ _ H_k0 (by decide) (by decide)) rfl rfl (.inr ⟨rfl, rfl, rfl⟩) ⟨by omega, by omega⟩ (by omega) (by omega) (fun h3 T_h3 b_h3 f_h3 y_h3 => ?_)
    have A_h3 := A_hp.put T_h3 b_h3 f_h3 H_k0 (by decide)
    refine yG.load xak rfl (fun _ _ => rfl) (v := yR k0) rfl rfl ?_
    refine yG.getO A_h3.1 (w_Hand_above W H_k0) rfl rfl (fun r4 H_r4 O_r4 q_r4 => ?_)
    obtain ⟨n_r4, N_r4⟩ : ∃ n : Int, n = ((zat G r4 : Nat) : Int) := ⟨_, rfl⟩
    have L_r4 := n_Big W H_r4
    refine yG.invV (rest := []) A_h3.1 (bOb (d_Big W) H_r4) rfl rfl rfl rfl (c_Big_sign W (d + 3) A_h3.1 H_r4) (fun rv hp9 q9 => ?_)
    obtain ⟨⟨z5, rfl, l_z5, u_z5, R_z5⟩, e9⟩ := q9
    rw [e9]
    show yG _ _ _ _ _ _ _ _ _ _ (yI z5 :: []) _
    refine yG.ifz rfl (t := 27) rfl ⟨by omega, by omega⟩ (fun c6 => ?_) (fun c6 => ?_)
    · have c6 : (z5 : Int) ≥ 0 := c6
      refine yG.num (c := 0) rfl (fun _ _ => rfl) (by decide) ?_
      refine yG.store1 xik (L' := [(1, yI (0)), (0, yR k0)]) rfl (fun _ _ => rfl) rfl rfl ?_
      refine yG.load xak rfl (fun _ _ => rfl) (v := yR k0) rfl rfl ?_
      refine yG.invV (rest := []) A_h3.1 (bOb (d_Hand W) H_k0) rfl rfl rfl rfl (c_Hand_common W d A_h3.1 H_k0) (fun rv h7 q9 => ?_)
      obtain ⟨⟨r8, rfl, H_r8⟩, B_h7⟩ := q9
      have A_h7 := A_h3.tr B_h7 (by decide)
      have qq1 : zsl h7 k0 0 = yR r4 := (B_h7.sl H_k0 (by decide)).trans q_r4
      obtain ⟨n_r8, N_r8⟩ : ∃ n : Int, n = ((zat G r8 : Nat) : Int) := ⟨_, rfl⟩
      have L_r8 := n_Big W H_r8
      show yG _ _ _ _ _ _ _ _ _ _ (yR r8 :: []) _
      refine yG.store1 xak (L' := [(2, yR r8), (1, yI (0)), (0, yR k0)]) rfl (fun _ _ => rfl) rfl rfl ?_
      refine yG.load xak rfl (fun _ _ => rfl) (v := yR r8) rfl rfl ?_
      refine yG.invV (rest := []) A_h7.1 (bOb (d_Big W) H_r8) rfl rfl rfl rfl (c_Big_sign W (d + 3) A_h7.1 H_r8) (fun rv hp9 q9 => ?_)
      obtain ⟨⟨z9, rfl, l_z9, u_z9, R_z9⟩, e9⟩ := q9
      rw [e9]
      show yG _ _ _ _ _ _ _ _ _ _ (yI z9 :: []) _
      refine yG.ifz rfl (t := 59) rfl ⟨by omega, by omega⟩ (fun c10 => ?_) (fun c10 => ?_)
      · have c10 : (z9 : Int) ≤ 0 := c10
        exact yG.mono (yG.sub (i_59 (0)  h7 A_h7   (by omega) (by omega) (by omega)) (ySub.cons rfl (ySub.cons rfl (ySub.nil)))) (by omega)
      · have c10 : (z9 : Int) > 0 := c10
        refine yG.load xak rfl (fun _ _ => rfl) (v := yR k0) rfl rfl ?_
        refine yG.load xak rfl (fun _ _ => rfl) (v := yR k0) rfl rfl ?_
        refine yG.getS9 A_h7.1 (w_Hand_above W H_k0) qq1 rfl rfl ?_
        refine yG.load xak rfl (fun _ _ => rfl) (v := yR r8) rfl rfl ?_
        refine yG.invV (rest := []) A_h7.1 (bOb (d_Hand W) H_k0) rfl rfl rfl rfl (c_Hand_divide W d A_h7.1 H_k0 H_r4 H_r8) (fun rv h11 q9 => ?_)
        obtain ⟨⟨rfl, R_z12⟩, B_h11⟩ := q9
        have A_h11 := A_h7.tr B_h11 (by decide)
        have qq2 : zsl h11 k0 0 = yR r4 := (B_h11.sl H_k0 (by decide)).trans qq1
        show yG _ _ _ _ _ _ _ _ _ _ [] _
        refine yG.load xak rfl (fun _ _ => rfl) (v := yR k0) rfl rfl ?_
        refine yG.load xak rfl (fun _ _ => rfl) (v := yR k0) rfl rfl ?_
        refine yG.getO A_h11.1 (w_Hand_below W H_k0) rfl rfl (fun r13 H_r13 O_r13 q_r13 => ?_)
        obtain ⟨n_r13, N_r13⟩ : ∃ n : Int, n = ((zat G r13 : Nat) : Int) := ⟨_, rfl⟩
        have L_r13 := n_Big W H_r13
        refine yG.load xak rfl (fun _ _ => rfl) (v := yR r8) rfl rfl ?_
        refine yG.invV (rest := []) A_h11.1 (bOb (d_Hand W) H_k0) rfl rfl rfl rfl (c_Hand_divide W d A_h11.1 H_k0 H_r13 H_r8) (fun rv h14 q9 => ?_)
        obtain ⟨⟨rfl, R_z15⟩, B_h14⟩ := q9
        have A_h14 := A_h11.tr B_h14 (by decide)
        have qq3 : zsl h14 k0 0 = yR r4 := (B_h14.sl H_k0 (by decide)).trans qq2
        show yG _ _ _ _ _ _ _ _ _ _ [] _
        exact yG.mono (yG.sub (i_59 (0)  h14 A_h14   (by omega) (by omega) (by omega)) (ySub.cons rfl (ySub.cons rfl (ySub.nil)))) (by omega)
    · have c6 : (z5 : Int) < 0 := c6
      refine yG.num (c := 1) rfl (fun _ _ => rfl) (by decide) ?_
      refine yG.goto rfl (t := 28) rfl ?_
      refine yG.store1 xik (L' := [(1, yI (1)), (0, yR k0)]) rfl (fun _ _ => rfl) rfl rfl ?_
      refine yG.load xak rfl (fun _ _ => rfl) (v := yR k0) rfl rfl ?_
      refine yG.invV (rest := []) A_h3.1 (bOb (d_Hand W) H_k0) rfl rfl rfl rfl (c_Hand_common W d A_h3.1 H_k0) (fun rv h16 q9 => ?_)
      obtain ⟨⟨r17, rfl, H_r17⟩, B_h16⟩ := q9
      have A_h16 := A_h3.tr B_h16 (by decide)
      have qq4 : zsl h16 k0 0 = yR r4 := (B_h16.sl H_k0 (by decide)).trans q_r4
      obtain ⟨n_r17, N_r17⟩ : ∃ n : Int, n = ((zat G r17 : Nat) : Int) := ⟨_, rfl⟩
      have L_r17 := n_Big W H_r17
      show yG _ _ _ _ _ _ _ _ _ _ (yR r17 :: []) _
      refine yG.store1 xak (L' := [(2, yR r17), (1, yI (1)), (0, yR k0)]) rfl (fun _ _ => rfl) rfl rfl ?_
      refine yG.load xak rfl (fun _ _ => rfl) (v := yR r17) rfl rfl ?_
      refine yG.invV (rest := []) A_h16.1 (bOb (d_Big W) H_r17) rfl rfl rfl rfl (c_Big_sign W (d + 3) A_h16.1 H_r17) (fun rv hp9 q9 => ?_)
      obtain ⟨⟨z18, rfl, l_z18, u_z18, R_z18⟩, e9⟩ := q9
      rw [e9]
      show yG _ _ _ _ _ _ _ _ _ _ (yI z18 :: []) _
      refine yG.ifz rfl (t := 59) rfl ⟨by omega, by omega⟩ (fun c19 => ?_) (fun c19 => ?_)
      · have c19 : (z18 : Int) ≤ 0 := c19
        exact yG.mono (yG.sub (i_59 (1)  h16 A_h16   (by omega) (by omega) (by omega)) (ySub.cons rfl (ySub.cons rfl (ySub.nil)))) (by omega)
      · have c19 : (z18 : Int) > 0 := c19
        refine yG.load xak rfl (fun _ _ => rfl) (v := yR k0) rfl rfl ?_
        refine yG.load xak rfl (fun _ _ => rfl) (v := yR k0) rfl rfl ?_
        refine yG.getS9 A_h16.1 (w_Hand_above W H_k0) qq4 rfl rfl ?_
        refine yG.load xak rfl (fun _ _ => rfl) (v := yR r17) rfl rfl ?_
        refine yG.invV (rest := []) A_h16.1 (bOb (d_Hand W) H_k0) rfl rfl rfl rfl (c_Hand_divide W d A_h16.1 H_k0 H_r4 H_r17) (fun rv h20 q9 => ?_)
        obtain ⟨⟨rfl, R_z21⟩, B_h20⟩ := q9
        have A_h20 := A_h16.tr B_h20 (by decide)
        have qq5 : zsl h20 k0 0 = yR r4 := (B_h20.sl H_k0 (by decide)).trans qq4
        show yG _ _ _ _ _ _ _ _ _ _ [] _
        refine yG.load xak rfl (fun _ _ => rfl) (v := yR k0) rfl rfl ?_
        refine yG.load xak rfl (fun _ _ => rfl) (v := yR k0) rfl rfl ?_
        refine yG.getO A_h20.1 (w_Hand_below W H_k0) rfl rfl (fun r22 H_r22 O_r22 q_r22 => ?_)
        obtain ⟨n_r22, N_r22⟩ : ∃ n : Int, n = ((zat G r22 : Nat) : Int) := ⟨_, rfl⟩
        have L_r22 := n_Big W H_r22
        refine yG.load xak rfl (fun _ _ => rfl) (v := yR r17) rfl rfl ?_
        refine yG.invV (rest := []) A_h20.1 (bOb (d_Hand W) H_k0) rfl rfl rfl rfl (c_Hand_divide W d A_h20.1 H_k0 H_r22 H_r17) (fun rv h23 q9 => ?_)
        obtain ⟨⟨rfl, R_z24⟩, B_h23⟩ := q9
        have A_h23 := A_h20.tr B_h23 (by decide)
        have qq6 : zsl h23 k0 0 = yR r4 := (B_h23.sl H_k0 (by decide)).trans qq5
        show yG _ _ _ _ _ _ _ _ _ _ [] _
        exact yG.mono (yG.sub (i_59 (1)  h23 A_h23   (by omega) (by omega) (by omega)) (ySub.cons rfl (ySub.cons rfl (ySub.nil)))) (by omega)
  · have c2 : (z1 : Int) ≠ 0 := c2
    refine yG.ret rfl (fun _ _ => rfl) ?_
    exact (yP.void ⟨⟨rfl, trivial⟩, A_hp⟩)
theorem c_Hand_made {hp : xH} (W : bW G) (d : Nat) (hT : zTy G hp) {k0 : Nat} (H_k0 : bRo G 34 k0) : yC (xcall 89 xfts xpools xms (d + 2)) 120 [yR k0] hp (bQi G [(17179869184, 7)] hp (-1) 1 (fun _ => True)) := by
  have A_hp : bAx G [(17179869184, 7)] hp hp := bAx.rf hT
  refine yC.of (M := (xt_X3_made, (1, (1, (4, []))))) rfl rfl (N := 27) (yfuel (by decide)) ?_
  show yG 89 xfts (xcall 89 xfts xpools xms (d + 1)) (xpool xp_RX3) [] xt_X3_made (yP 1 (bQi G [(17179869184, 7)] hp (-1) 1 (fun _ => True))) 27 0 [(0, yR k0)] [] hp
  refine yG.load xak rfl (fun _ _ => rfl) (v := yR k0) rfl rfl ?_
  refine yG.num (c := 0) rfl (fun _ _ => rfl) (by decide) ?_
  refine yG.putI A_hp.1 (w_Hand_lowest W H_k0) (W.2.1 _ _ H_k0 (by decide) (by decide)) rfl rfl (.inr ⟨rfl, rfl, rfl⟩) ⟨by omega, by omega⟩ (by omega) (by omega) (fun h1 T_h1 b_h1 f_h1 y_h1 => ?_)
  have A_h1 := A_hp.put T_h1 b_h1 f_h1 H_k0 (by decide)
  refine yG.load xak rfl (fun _ _ => rfl) (v := yR k0) rfl rfl ?_
  refine yG.getO A_h1.1 (w_Hand_above W H_k0) rfl rfl (fun r2 H_r2 O_r2 q_r2 => ?_)
  obtain ⟨n_r2, N_r2⟩ : ∃ n : Int, n = ((zat G r2 : Nat) : Int) := ⟨_, rfl⟩
  have L_r2 := n_Big W H_r2
  refine yG.invV (rest := []) A_h1.1 (bOb (d_Big W) H_r2) rfl rfl rfl rfl (c_Big_sign W d A_h1.1 H_r2) (fun rv hp9 q9 => ?_)
  obtain ⟨⟨z3, rfl, l_z3, u_z3, R_z3⟩, e9⟩ := q9
  rw [e9]
  show yG _ _ _ _ _ _ _ _ _ _ (yI z3 :: []) _
  refine yG.ret rfl (fun _ _ => rfl) ?_
  exact (yP.int ⟨by omega, by omega⟩ ⟨⟨z3, rfl, by omega, by omega, trivial⟩, A_h1⟩)
theorem c_Hand_length {hp : xH} (W : bW G) (d : Nat) (hT : zTy G hp) {k0 : Nat} (H_k0 : bRo G 34 k0) (p1 : Int) (h1l : 0 ≤ p1) (h1u : p1 ≤ 1) : yC (xcall 89 xfts xpools xms (d + 6)) 119 [yR k0, yI (p1)] hp (bQi G [(34359738368, 1), (34359738368, 2), (17179869184, 7), (893353197568, 256)] hp 0 900 (fun _ => True)) := by
  have A_hp : bAx G [(34359738368, 1), (34359738368, 2), (17179869184, 7), (893353197568, 256)] hp hp := bAx.rf hT
  refine yC.of (M := (xt_X3_length, (2, (1, (4, []))))) rfl rfl (N := 27) (yfuel (by decide)) ?_
  show yG 89 xfts (xcall 89 xfts xpools xms (d + 5)) (xpool xp_RX3) [] xt_X3_length (yP 1 (bQi G [(34359738368, 1), (34359738368, 2), (17179869184, 7), (893353197568, 256)] hp 0 900 (fun _ => True))) 27 0 [(0, yR k0), (1, yI (p1))] [] hp
  refine yG.load xak rfl (fun _ _ => rfl) (v := yR k0) rfl rfl ?_
  refine yG.invV (rest := []) A_hp.1 (bOb (d_Hand W) H_k0) rfl rfl rfl rfl (c_Hand_bringLow W d A_hp.1 H_k0) (fun rv h1 q9 => ?_)
  obtain ⟨⟨rfl, R_z2⟩, B_h1⟩ := q9
  have A_h1 := A_hp.tr B_h1 (by decide)
  show yG _ _ _ _ _ _ _ _ _ _ [] _
  refine yG.load xak rfl (fun _ _ => rfl) (v := yR k0) rfl rfl ?_
  refine yG.getO A_h1.1 (w_Hand_lengths W H_k0) rfl rfl (fun r3 H_r3 O_r3 q_r3 => ?_)
  refine yG.load xik rfl (fun _ _ => rfl) (v := yI (p1)) rfl rfl ?_
  refine yG.iald A_h1.1 (v_Hand_lengths W H_r3) rfl (by omega) (by omega) (fun z4 e_z4 i_z4 l_z4 u_z4 => ?_)
  refine yG.ret rfl (fun _ _ => rfl) ?_
  exact (yP.int ⟨by omega, by omega⟩ ⟨⟨z4, rfl, by omega, by omega, trivial⟩, A_h1⟩)
theorem c_Hand_digit {hp : xH} (W : bW G) (d : Nat) (hT : zTy G hp) {k0 : Nat} (H_k0 : bRo G 34 k0) (p1 p2 : Int) (h1l : 0 ≤ p1) (h1u : p1 ≤ 1) (h2l : (-2147483648) ≤ p2) (h2u : p2 ≤ 2147483647) : yC (xcall 89 xfts xpools xms (d + 6)) 116 [yR k0, yI (p1), yI (p2)] hp (bQi G [(34359738368, 1), (34359738368, 2), (17179869184, 7), (893353197568, 256)] hp (-2147483648) 2147483647 (fun z => 0 ≤ 0 - p2 + z + 2147484547 ∧ 0 ≤ p2 - z + 2147483647)) := by
  have A_hp : bAx G [(34359738368, 1), (34359738368, 2), (17179869184, 7), (893353197568, 256)] hp hp := bAx.rf hT
  refine yC.of (M := (xt_X3_digit, (3, (1, (4, []))))) rfl rfl (N := 57) (yfuel (by decide)) ?_
  show yG 89 xfts (xcall 89 xfts xpools xms (d + 5)) (xpool xp_RX3) [] xt_X3_digit (yP 1 (bQi G [(34359738368, 1), (34359738368, 2), (17179869184, 7), (893353197568, 256)] hp (-2147483648) 2147483647 (fun z => 0 ≤ 0 - p2 + z + 2147484547 ∧ 0 ≤ p2 - z + 2147483647))) 57 0 [(0, yR k0), (1, yI (p1)), (2, yI (p2))] [] hp
  refine yG.load xak rfl (fun _ _ => rfl) (v := yR k0) rfl rfl ?_
  refine yG.invV (rest := []) A_hp.1 (bOb (d_Hand W) H_k0) rfl rfl rfl rfl (c_Hand_bringLow W d A_hp.1 H_k0) (fun rv h1 q9 => ?_)
  obtain ⟨⟨rfl, R_z2⟩, B_h1⟩ := q9
  have A_h1 := A_hp.tr B_h1 (by decide)
  show yG _ _ _ _ _ _ _ _ _ _ [] _
  refine yG.load xik rfl (fun _ _ => rfl) (v := yI (p2)) rfl rfl ?_
  refine yG.ifz rfl (t := 18) rfl ⟨by omega, by omega⟩ (fun c3 => ?_) (fun c3 => ?_)
  · have c3 : (p2 : Int) < 0 := c3
    refine yG.num (c := -1) rfl (fun _ _ => rfl) (by decide) ?_
    refine yG.goto rfl (t := 30) rfl ?_
    refine yG.ret rfl (fun _ _ => rfl) ?_
    exact (yP.int ⟨by omega, by omega⟩ ⟨⟨(-1), rfl, by omega, by omega, by omega⟩, A_h1⟩)
  · have c3 : (p2 : Int) ≥ 0 := c3
    refine yG.load xik rfl (fun _ _ => rfl) (v := yI (p2)) rfl rfl ?_
    refine yG.load xak rfl (fun _ _ => rfl) (v := yR k0) rfl rfl ?_
    refine yG.getO A_h1.1 (w_Hand_lengths W H_k0) rfl rfl (fun r4 H_r4 O_r4 q_r4 => ?_)
    refine yG.load xik rfl (fun _ _ => rfl) (v := yI (p1)) rfl rfl ?_
    refine yG.iald A_h1.1 (v_Hand_lengths W H_r4) rfl (by omega) (by omega) (fun z5 e_z5 i_z5 l_z5 u_z5 => ?_)
    refine yG.icmp rfl (t := 22) rfl ⟨by omega, by omega⟩ ⟨by omega, by omega⟩ (fun c6 => ?_) (fun c6 => ?_)
    · have c6 : (p2 : Int) < z5 := c6
      refine yG.load xak rfl (fun _ _ => rfl) (v := yR k0) rfl rfl ?_
      refine yG.getO A_h1.1 (w_Hand_figures W H_k0) rfl rfl (fun r7 H_r7 O_r7 q_r7 => ?_)
      refine yG.load xik rfl (fun _ _ => rfl) (v := yI (p1)) rfl rfl ?_
      refine yG.aaldO (r := 38) A_h1.1 (v_Hand_figures W H_r7) rfl rfl rfl (by omega) (by omega) (fun r8 H_r8 q_r8 => ?_)
      refine yG.load xik rfl (fun _ _ => rfl) (v := yI (p2)) rfl rfl ?_
      refine yG.iald A_h1.1 (v_Hand_figuress W H_r8) rfl (by omega) (by omega) (fun z9 e_z9 i_z9 l_z9 u_z9 => ?_)
      refine yG.ret rfl (fun _ _ => rfl) ?_
      exact (yP.int ⟨by omega, by omega⟩ ⟨⟨z9, rfl, by omega, by omega, by omega⟩, A_h1⟩)
    · have c6 : (p2 : Int) ≥ z5 := c6
      refine yG.num (c := -1) rfl (fun _ _ => rfl) (by decide) ?_
      refine yG.goto rfl (t := 30) rfl ?_
      refine yG.ret rfl (fun _ _ => rfl) ?_
      exact (yP.int ⟨by omega, by omega⟩ ⟨⟨(-1), rfl, by omega, by omega, by omega⟩, A_h1⟩)
end BFlow
