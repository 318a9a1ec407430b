/-! ===== the class: dispatch, printed by a program ===== -/
section BDispatch
variable {G : zW}
theorem c_Dispatch_at {hp : xH} (W : bW G) (d : Nat) (hT : zTy G hp) {k0 : Nat} (H_k0 : bRo G 96 k0) (p1 p2 : Int) (h1l : 0 ≤ p1) (h1u : p1 ≤ 32) (h2l : 0 ≤ p2) (h2u : p2 ≤ 12) : yC (xcall 89 xfts xpools xms (d + 1)) 76 [yR k0, yI (p1), yI (p2)] hp (bQpr G hp 35) := by
  have A_hp : bAx G [] hp hp := bAx.rf hT
  refine yC.of (M := (xt_X1_at, (3, (3, (2, []))))) rfl rfl (N := 33) (yfuel (by decide)) ?_
  show yG 89 xfts (xcall 89 xfts xpools xms d) (xpool xp_RX1) [] xt_X1_at (yP 3 (bQpr G hp 35)) 33 0 [(0, yR k0), (1, yI (p1)), (2, yI (p2))] [] hp
  refine yG.load xak rfl (fun _ _ => rfl) (v := yR k0) rfl rfl ?_
  refine yG.getO A_hp.1 (w_Dispatch_cell W H_k0) rfl rfl (fun r1 H_r1 O_r1 q_r1 => ?_)
  refine yG.load xik rfl (fun _ _ => rfl) (v := yI (p1)) rfl rfl ?_
  refine yG.num (c := 13) rfl (fun _ _ => rfl) (by decide) ?_
  refine yG.imul rfl ?_
  refine yG.load xik rfl (fun _ _ => rfl) (v := yI (p2)) rfl rfl ?_
  refine yG.iadd rfl ?_
  refine yG.aaldO (r := 35) A_hp.1 (v_Big429 W H_r1) rfl rfl rfl (by omega) (by omega) (fun r2 H_r2 q_r2 => ?_)
  obtain ⟨n_r2, N_r2⟩ : ∃ n : Int, n = ((zat G r2 : Nat) : Int) := ⟨_, rfl⟩
  have L_r2 := n_Big W H_r2
  refine yG.ret rfl (fun _ _ => rfl) ?_
  exact (yP.ref ⟨⟨r2, rfl, H_r2⟩, rfl⟩)
theorem c_Dispatch_addPart {hp : xH} (W : bW G) (d : Nat) (hT : zTy G hp) {k0 : Nat} (H_k0 : bRo G 96 k0) (p1 p2 p3 : Int) (h1l : 0 ≤ p1) (h1u : p1 ≤ 5) (h2l : (-2147483648) ≤ p2) (h2u : p2 ≤ 2147483647) (h3l : (-2147483648) ≤ p3) (h3u : p3 ≤ 2147483647) : yC (xcall 89 xfts xpools xms (d + 1)) 75 [yR k0, yI (p1), yI (p2), yI (p3)] hp (fun rv hp' => (rv = none ∧ True) ∧ bAx G [(79228162514264337593543950336, 3), (3010670175542044828554670112768, 256)] hp hp') := by
  have A_hp : bAx G [(79228162514264337593543950336, 3), (3010670175542044828554670112768, 256)] hp hp := bAx.rf hT
  have H : ∀ m : Nat, (∀ a4 : Int, ∀ gg0 : Int, ∀ hq, bAx G [(79228162514264337593543950336, 3), (3010670175542044828554670112768, 256)] hp hq → ys hq k0 3 = gg0 → 0 ≤ a4 → (-11) ≤ 0 - a4 → 0 ≤ gg0 → (-11) ≤ 0 - gg0 → 0 ≤ p1 → (-5) ≤ 0 - p1 → 1 ≤ p2 → (-2147483647) ≤ 0 - p2 → (-2147483648) ≤ p3 → (-2147483647) ≤ 0 - p3 → 0 ≤ 0 - a4 + gg0 → 3 * a4 + 2 < (m : Int) → yG 89 xfts (xcall 89 xfts xpools xms d) (xpool xp_RX1) [] xt_X1_addPart (yP 0 (fun rv hp' => (rv = none ∧ True) ∧ bAx G [(79228162514264337593543950336, 3), (3010670175542044828554670112768, 256)] hp hp')) (34 * m) 20 [(0, yR k0), (1, yI (p1)), (2, yI (p2)), (3, yI (p3)), (4, yI (a4))] [] hq) ∧ (∀ a4 : Int, ∀ gg0 : Int, ∀ hq, bAx G [(79228162514264337593543950336, 3), (3010670175542044828554670112768, 256)] hp hq → ys hq k0 3 = gg0 → 1 ≤ a4 → (-11) ≤ 0 - a4 → 1 ≤ gg0 → (-11) ≤ 0 - gg0 → 0 ≤ p1 → (-5) ≤ 0 - p1 → 1 ≤ p2 → (-2147483647) ≤ 0 - p2 → (-2147483648) ≤ p3 → (-2147483647) ≤ 0 - p3 → 0 ≤ 0 - a4 + gg0 → 3 * a4 + 1 < (m : Int) → yG 89 xfts (xcall 89 xfts xpools xms d) (xpool xp_RX1) [] xt_X1_addPart (yP 0 (fun rv hp' => (rv = none ∧ True) ∧ bAx G [(79228162514264337593543950336, 3), (3010670175542044828554670112768, 256)] hp hp')) (34 * m) 64 [(0, yR k0), (1, yI (p1)), (2, yI (p2)), (3, yI (p3)), (4, yI (a4))] [] hq) ∧ (∀ a4 : Int, ∀ gg0 : Int, ∀ hq, bAx G [(79228162514264337593543950336, 3), (3010670175542044828554670112768, 256)] hp hq → ys hq k0 3 = gg0 → 0 ≤ a4 → (-11) ≤ 0 - a4 → 0 ≤ gg0 → (-11) ≤ 0 - gg0 → 0 ≤ p1 → (-5) ≤ 0 - p1 → 1 ≤ p2 → (-2147483647) ≤ 0 - p2 → (-2147483648) ≤ p3 → (-2147483647) ≤ 0 - p3 → 0 ≤ 0 - a4 + gg0 → 1 < (m : Int) → yG 89 xfts (xcall 89 xfts xpools xms d) (xpool xp_RX1) [] xt_X1_addPart (yP 0 (fun rv hp' => (rv = none ∧ True) ∧ bAx G [(79228162514264337593543950336, 3), (3010670175542044828554670112768, 256)] hp hp')) (34 * m) 118 [(0, yR k0), (1, yI (p1)), (2, yI (p2)), (3, yI (p3)), (4, yI (a4))] [] hq) := by
    intro m
    induction m with
    | zero =>
      refine ⟨?_, ?_, ?_⟩ <;> (intros; exfalso; omega)
    | succ m ih =>
      obtain ⟨i_20, i_64, i_118⟩ := ih
      refine ⟨?_, ?_, ?_⟩
      · intro a4 gg0 hq A_hq E_0 f0 f1 f2 f3 f4 f5 f6 f7 f8 f9 f10 hm
        refine yG.mono (N := 34 * m + 34) ?_ (by omega)
        obtain ⟨-, -, g_0l, g_0u⟩ := (w_Dispatch_parts W H_k0).int A_hq.1
        refine yG.load xik rfl (fun _ _ => rfl) (v := yI (a4)) rfl rfl ?_
        refine yG.ifz rfl (t := 118) rfl ⟨by omega, by omega⟩ (fun c1 => ?_) (fun c1 => ?_)
        · have c1 : (a4 : Int) ≤ 0 := c1
          exact yG.mono (yG.sub (i_118 (a4) (ys hq k0 3) hq A_hq  rfl (by omega) (by omega) (by omega) (by omega) (by omega) (by omega) (by omega) (by omega) (by omega) (by omega) (by omega) (by omega)) (ySub.cons rfl (ySub.cons rfl (ySub.cons rfl (ySub.cons rfl (ySub.cons rfl (ySub.nil))))))) (by omega)
        · have c1 : (a4 : Int) > 0 := c1
          refine yG.load xik rfl (fun _ _ => rfl) (v := yI (p3)) rfl rfl ?_
          refine yG.load xak rfl (fun _ _ => rfl) (v := yR k0) rfl rfl ?_
          refine yG.getO A_hq.1 (w_Dispatch_costOf W H_k0) rfl rfl (fun r2 H_r2 O_r2 q_r2 => ?_)
          refine yG.load xik rfl (fun _ _ => rfl) (v := yI (a4)) rfl rfl ?_
          refine yG.num (c := 1) rfl (fun _ _ => rfl) (by decide) ?_
          refine yG.isub rfl ?_
          refine yG.iald A_hq.1 (v_Dispatch_costOf W H_r2) rfl (by omega) (by omega) (fun z3 e_z3 i_z3 l_z3 u_z3 => ?_)
          refine yG.icmp rfl (t := 64) rfl ⟨by omega, by omega⟩ ⟨by omega, by omega⟩ (fun c4 => ?_) (fun c4 => ?_)
          · have c4 : (p3 : Int) < z3 := c4
            exact yG.mono (yG.sub (i_64 (a4) (ys hq k0 3) hq A_hq  rfl (by omega) (by omega) (by omega) (by omega) (by omega) (by omega) (by omega) (by omega) (by omega) (by omega) (by omega) (by omega)) (ySub.cons rfl (ySub.cons rfl (ySub.cons rfl (ySub.cons rfl (ySub.cons rfl (ySub.nil))))))) (by omega)
          · have c4 : (p3 : Int) ≥ z3 := c4
            refine yG.load xik rfl (fun _ _ => rfl) (v := yI (p3)) rfl rfl ?_
            refine yG.load xak rfl (fun _ _ => rfl) (v := yR k0) rfl rfl ?_
            refine yG.getS9 A_hq.1 (w_Dispatch_costOf W H_k0) q_r2 rfl rfl ?_
            refine yG.load xik rfl (fun _ _ => rfl) (v := yI (a4)) rfl rfl ?_
            refine yG.num (c := 1) rfl (fun _ _ => rfl) (by decide) ?_
            refine yG.isub rfl ?_
            refine yG.iald A_hq.1 (v_Dispatch_costOf W H_r2) rfl (by omega) (by omega) (fun z5 e_z5 i_z5 l_z5 u_z5 => ?_)
            rw [show (z5 : Int) = z3 by omega]
            refine yG.icmp rfl (t := 118) rfl ⟨by omega, by omega⟩ ⟨by omega, by omega⟩ (fun c6 => ?_) (fun c6 => ?_)
            · have c6 : (p3 : Int) ≠ z3 := c6
              exact yG.mono (yG.sub (i_118 (a4) (ys hq k0 3) hq A_hq  rfl (by omega) (by omega) (by omega) (by omega) (by omega) (by omega) (by omega) (by omega) (by omega) (by omega) (by omega) (by omega)) (ySub.cons rfl (ySub.cons rfl (ySub.cons rfl (ySub.cons rfl (ySub.cons rfl (ySub.nil))))))) (by omega)
            · have c6 : (p3 : Int) = z3 := c6
              refine yG.load xik rfl (fun _ _ => rfl) (v := yI (p1)) rfl rfl ?_
              refine yG.load xak rfl (fun _ _ => rfl) (v := yR k0) rfl rfl ?_
              refine yG.getO A_hq.1 (w_Dispatch_machineOf W H_k0) rfl rfl (fun r7 H_r7 O_r7 q_r7 => ?_)
              refine yG.load xik rfl (fun _ _ => rfl) (v := yI (a4)) rfl rfl ?_
              refine yG.num (c := 1) rfl (fun _ _ => rfl) (by decide) ?_
              refine yG.isub rfl ?_
              refine yG.iald A_hq.1 (v_Dispatch_machineOf W H_r7) rfl (by omega) (by omega) (fun z8 e_z8 i_z8 l_z8 u_z8 => ?_)
              refine yG.icmp rfl (t := 118) rfl ⟨by omega, by omega⟩ ⟨by omega, by omega⟩ (fun c9 => ?_) (fun c9 => ?_)
              · have c9 : (p1 : Int) ≤ z8 := c9
                exact yG.mono (yG.sub (i_118 (a4) (ys hq k0 3) hq A_hq  rfl (by omega) (by omega) (by omega) (by omega) (by omega) (by omega) (by omega) (by omega) (by omega) (by omega) (by omega) (by omega)) (ySub.cons rfl (ySub.cons rfl (ySub.cons rfl (ySub.cons rfl (ySub.cons rfl (ySub.nil))))))) (by omega)
              · have c9 : (p1 : Int) > z8 := c9
                exact yG.mono (yG.sub (i_64 (a4) (ys hq k0 3) hq A_hq  rfl (by omega) (by omega) (by omega) (by omega) (by omega) (by omega) (by omega) (by omega) (by omega) (by omega) (by omega) (by omega)) (ySub.cons rfl (ySub.cons rfl (ySub.cons rfl (ySub.cons rfl (ySub.cons rfl (ySub.nil))))))) (by omega)
      · intro a4 gg0 hq A_hq E_0 f0 f1 f2 f3 f4 f5 f6 f7 f8 f9 f10 hm
        refine yG.mono (N := 34 * m + 34) ?_ (by omega)
        obtain ⟨-, -, g_0l, g_0u⟩ := (w_Dispatch_parts W H_k0).int A_hq.1
        refine yG.load xak rfl (fun _ _ => rfl) (v := yR k0) rfl rfl ?_
        refine yG.getO A_hq.1 (w_Dispatch_machineOf W H_k0) rfl rfl (fun r1 H_r1 O_r1 q_r1 => ?_)
        refine yG.load xik rfl (fun _ _ => rfl) (v := yI (a4)) rfl rfl ?_
        refine yG.load xak rfl (fun _ _ => rfl) (v := yR k0) rfl rfl ?_
        refine yG.getS9 A_hq.1 (w_Dispatch_machineOf W H_k0) q_r1 rfl rfl ?_
        refine yG.load xik rfl (fun _ _ => rfl) (v := yI (a4)) rfl rfl ?_
        refine yG.num (c := 1) rfl (fun _ _ => rfl) (by decide) ?_
        refine yG.isub rfl ?_
        refine yG.iald A_hq.1 (v_Dispatch_machineOf W H_r1) rfl (by omega) (by omega) (fun z2 e_z2 i_z2 l_z2 u_z2 => ?_)
        refine yG.iast A_hq.1 (v_Dispatch_machineOf W H_r1) (W.2.1 _ _ H_r1 (by decide) (by decide)) rfl (by omega) (by omega) ⟨by omega, by omega⟩ (by omega) (by omega) (fun h3 T_h3 b_h3 f_h3 y_h3 => ?_)
        have A_h3 := A_hq.put T_h3 b_h3 f_h3 H_r1 (bAll_ok (by decide) _)
        have : ys h3 k0 3 = ys hq k0 3 := (y_h3 k0 3).trans (if_neg (fun e => (bRo.ne H_k0 H_r1 (by decide)) e.1))
        have qq1 : zsl h3 k0 4 = yR r1 := ((f_h3 k0 4).trans (if_neg (fun e => (bRo.ne H_k0 H_r1 (by decide)) e.1))).trans q_r1
        refine yG.load xak rfl (fun _ _ => rfl) (v := yR k0) rfl rfl ?_
        refine yG.getO A_h3.1 (w_Dispatch_costOf W H_k0) rfl rfl (fun r4 H_r4 O_r4 q_r4 => ?_)
        refine yG.load xik rfl (fun _ _ => rfl) (v := yI (a4)) rfl rfl ?_
        refine yG.load xak rfl (fun _ _ => rfl) (v := yR k0) rfl rfl ?_
        refine yG.getS9 A_h3.1 (w_Dispatch_costOf W H_k0) q_r4 rfl rfl ?_
        refine yG.load xik rfl (fun _ _ => rfl) (v := yI (a4)) rfl rfl ?_
        refine yG.num (c := 1) rfl (fun _ _ => rfl) (by decide) ?_
        refine yG.isub rfl ?_
        refine yG.iald A_h3.1 (v_Dispatch_costOf W H_r4) rfl (by omega) (by omega) (fun z5 e_z5 i_z5 l_z5 u_z5 => ?_)
        refine yG.iast A_h3.1 (v_Dispatch_costOf W H_r4) (W.2.1 _ _ H_r4 (by decide) (by decide)) rfl (by omega) (by omega) ⟨by omega, by omega⟩ (by omega) (by omega) (fun h6 T_h6 b_h6 f_h6 y_h6 => ?_)
        have A_h6 := A_h3.put T_h6 b_h6 f_h6 H_r4 (bAll_ok (by decide) _)
        have : ys h6 k0 3 = ys h3 k0 3 := (y_h6 k0 3).trans (if_neg (fun e => (bRo.ne H_k0 H_r4 (by decide)) e.1))
        have qq2 : zsl h6 k0 4 = yR r1 := ((f_h6 k0 4).trans (if_neg (fun e => (bRo.ne H_k0 H_r4 (by decide)) e.1))).trans qq1
        have qq3 : zsl h6 k0 5 = yR r4 := ((f_h6 k0 5).trans (if_neg (fun e => (bRo.ne H_k0 H_r4 (by decide)) e.1))).trans q_r4
        refine yG.load xak rfl (fun _ _ => rfl) (v := yR k0) rfl rfl ?_
        refine yG.getO A_h6.1 (w_Dispatch_most W H_k0) rfl rfl (fun r7 H_r7 O_r7 q_r7 => ?_)
        refine yG.load xik rfl (fun _ _ => rfl) (v := yI (a4)) rfl rfl ?_
        refine yG.load xak rfl (fun _ _ => rfl) (v := yR k0) rfl rfl ?_
        refine yG.getS9 A_h6.1 (w_Dispatch_most W H_k0) q_r7 rfl rfl ?_
        refine yG.load xik rfl (fun _ _ => rfl) (v := yI (a4)) rfl rfl ?_
        refine yG.num (c := 1) rfl (fun _ _ => rfl) (by decide) ?_
        refine yG.isub rfl ?_
        refine yG.iald A_h6.1 (v_Dispatch_most W H_r7) rfl (by omega) (by omega) (fun z8 e_z8 i_z8 l_z8 u_z8 => ?_)
        refine yG.iast A_h6.1 (v_Dispatch_most W H_r7) (W.2.1 _ _ H_r7 (by decide) (by decide)) rfl (by omega) (by omega) ⟨by omega, by omega⟩ (by omega) (by omega) (fun h9 T_h9 b_h9 f_h9 y_h9 => ?_)
        have A_h9 := A_h6.put T_h9 b_h9 f_h9 H_r7 (bAll_ok (by decide) _)
        have : ys h9 k0 3 = ys h6 k0 3 := (y_h9 k0 3).trans (if_neg (fun e => (bRo.ne H_k0 H_r7 (by decide)) e.1))
        have qq4 : zsl h9 k0 4 = yR r1 := ((f_h9 k0 4).trans (if_neg (fun e => (bRo.ne H_k0 H_r7 (by decide)) e.1))).trans qq2
        have qq5 : zsl h9 k0 5 = yR r4 := ((f_h9 k0 5).trans (if_neg (fun e => (bRo.ne H_k0 H_r7 (by decide)) e.1))).trans qq3
        have qq6 : zsl h9 k0 8 = yR r7 := ((f_h9 k0 8).trans (if_neg (fun e => (bRo.ne H_k0 H_r7 (by decide)) e.1))).trans q_r7
        refine yG.iinc rfl (a := a4) rfl (L' := [(4, yI (a4 + (-1))), (0, yR k0), (1, yI (p1)), (2, yI (p2)), (3, yI (p3))]) rfl ?_
        refine yG.goto rfl (t := 20) rfl ?_
        exact yG.mono (yG.sub (i_20 (a4 + (-1)) (ys h9 k0 3) h9 A_h9  rfl (by omega) (by omega) (by omega) (by omega) (by omega) (by omega) (by omega) (by omega) (by omega) (by omega) (by omega) (by omega)) (ySub.cons rfl (ySub.cons rfl (ySub.cons rfl (ySub.cons rfl (ySub.cons rfl (ySub.nil))))))) (by omega)
      · intro a4 gg0 hq A_hq E_0 f0 f1 f2 f3 f4 f5 f6 f7 f8 f9 f10 hm
        refine yG.mono (N := 34 * m + 34) ?_ (by omega)
        obtain ⟨-, -, g_0l, g_0u⟩ := (w_Dispatch_parts W H_k0).int A_hq.1
        refine yG.load xak rfl (fun _ _ => rfl) (v := yR k0) rfl rfl ?_
        refine yG.getO A_hq.1 (w_Dispatch_machineOf W H_k0) rfl rfl (fun r1 H_r1 O_r1 q_r1 => ?_)
        refine yG.load xik rfl (fun _ _ => rfl) (v := yI (a4)) rfl rfl ?_
        refine yG.load xik rfl (fun _ _ => rfl) (v := yI (p1)) rfl rfl ?_
        refine yG.iast A_hq.1 (v_Dispatch_machineOf W H_r1) (W.2.1 _ _ H_r1 (by decide) (by decide)) rfl (by omega) (by omega) ⟨by omega, by omega⟩ (by omega) (by omega) (fun h2 T_h2 b_h2 f_h2 y_h2 => ?_)
        have A_h2 := A_hq.put T_h2 b_h2 f_h2 H_r1 (bAll_ok (by decide) _)
        have : ys h2 k0 3 = ys hq k0 3 := (y_h2 k0 3).trans (if_neg (fun e => (bRo.ne H_k0 H_r1 (by decide)) e.1))
        refine yG.load xak rfl (fun _ _ => rfl) (v := yR k0) rfl rfl ?_
        refine yG.getO A_h2.1 (w_Dispatch_costOf W H_k0) rfl rfl (fun r3 H_r3 O_r3 q_r3 => ?_)
        refine yG.load xik rfl (fun _ _ => rfl) (v := yI (a4)) rfl rfl ?_
        refine yG.load xik rfl (fun _ _ => rfl) (v := yI (p3)) rfl rfl ?_
        refine yG.iast A_h2.1 (v_Dispatch_costOf W H_r3) (W.2.1 _ _ H_r3 (by decide) (by decide)) rfl (by omega) (by omega) ⟨by omega, by omega⟩ (by omega) (by omega) (fun h4 T_h4 b_h4 f_h4 y_h4 => ?_)
        have A_h4 := A_h2.put T_h4 b_h4 f_h4 H_r3 (bAll_ok (by decide) _)
        have : ys h4 k0 3 = ys h2 k0 3 := (y_h4 k0 3).trans (if_neg (fun e => (bRo.ne H_k0 H_r3 (by decide)) e.1))
        refine yG.load xak rfl (fun _ _ => rfl) (v := yR k0) rfl rfl ?_
        refine yG.getO A_h4.1 (w_Dispatch_most W H_k0) rfl rfl (fun r5 H_r5 O_r5 q_r5 => ?_)
        refine yG.load xik rfl (fun _ _ => rfl) (v := yI (a4)) rfl rfl ?_
        refine yG.load xik rfl (fun _ _ => rfl) (v := yI (p2)) rfl rfl ?_
        refine yG.iast A_h4.1 (v_Dispatch_most W H_r5) (W.2.1 _ _ H_r5 (by decide) (by decide)) rfl (by omega) (by omega) ⟨by omega, by omega⟩ (by omega) (by omega) (fun h6 T_h6 b_h6 f_h6 y_h6 => ?_)
        have A_h6 := A_h4.put T_h6 b_h6 f_h6 H_r5 (bAll_ok (by decide) _)
        have : ys h6 k0 3 = ys h4 k0 3 := (y_h6 k0 3).trans (if_neg (fun e => (bRo.ne H_k0 H_r5 (by decide)) e.1))
        refine yG.load xak rfl (fun _ _ => rfl) (v := yR k0) rfl rfl ?_
        refine yG.step (pc' := 144) (stk' := [yR k0, yR k0]) rfl (fun _ _ => rfl) ?_
        refine yG.getI A_h6.1 (w_Dispatch_parts W H_k0) rfl rfl (fun z7 e_z7 i_z7 l_z7 u_z7 => ?_)
        rw [show (z7 : Int) = gg0 by omega]
        refine yG.num (c := 1) rfl (fun _ _ => rfl) (by decide) ?_
        refine yG.iadd rfl ?_
        refine yG.putI A_h6.1 (w_Dispatch_parts W H_k0) (W.2.1 _ _ H_k0 (by decide) (by decide)) rfl rfl (.inl rfl) ⟨by omega, by omega⟩ (by omega) (by omega) (fun h8 T_h8 b_h8 f_h8 y_h8 => ?_)
        have A_h8 := A_h6.put T_h8 b_h8 f_h8 H_k0 (by decide)
        have : ys h8 k0 3 = gg0 + 1 := (y_h8 k0 3).trans (if_pos ⟨rfl, rfl⟩)
        refine yG.ret rfl (fun _ _ => rfl) ?_
        exact (yP.void ⟨⟨rfl, trivial⟩, A_h8⟩)
  refine yC.of (M := (xt_X1_addPart, (5, (0, (2, []))))) rfl rfl (N := 1292) (yfuel (by decide)) ?_
  show yG 89 xfts (xcall 89 xfts xpools xms d) (xpool xp_RX1) [] xt_X1_addPart (yP 0 (fun rv hp' => (rv = none ∧ True) ∧ bAx G [(79228162514264337593543950336, 3), (3010670175542044828554670112768, 256)] hp hp')) 1292 0 [(0, yR k0), (1, yI (p1)), (2, yI (p2)), (3, yI (p3))] [] hp
  obtain ⟨i_20, i_64, i_118⟩ := H 37
  obtain ⟨gg0, E_0⟩ : ∃ z : Int, ys hp k0 3 = z := ⟨_, rfl⟩
  obtain ⟨-, -, g_0l, g_0u⟩ := (w_Dispatch_parts W H_k0).int hT
  refine yG.load xik rfl (fun _ _ => rfl) (v := yI (p2)) rfl rfl ?_
  refine yG.ifz rfl (t := 13) rfl ⟨by omega, by omega⟩ (fun c1 => ?_) (fun c1 => ?_)
  · have c1 : (p2 : Int) ≤ 0 := c1
    refine yG.ret rfl (fun _ _ => rfl) ?_
    exact (yP.void ⟨⟨rfl, trivial⟩, A_hp⟩)
  · have c1 : (p2 : Int) > 0 := c1
    refine yG.load xak rfl (fun _ _ => rfl) (v := yR k0) rfl rfl ?_
    refine yG.getI A_hp.1 (w_Dispatch_parts W H_k0) rfl rfl (fun z2 e_z2 i_z2 l_z2 u_z2 => ?_)
    rw [show (z2 : Int) = gg0 by omega]
    refine yG.num (c := 12) rfl (fun _ _ => rfl) (by decide) ?_
    refine yG.icmp rfl (t := 14) rfl ⟨by omega, by omega⟩ ⟨by omega, by omega⟩ (fun c3 => ?_) (fun c3 => ?_)
    · have c3 : (gg0 : Int) < 12 := c3
      refine yG.load xak rfl (fun _ _ => rfl) (v := yR k0) rfl rfl ?_
      refine yG.getI A_hp.1 (w_Dispatch_parts W H_k0) rfl rfl (fun z4 e_z4 i_z4 l_z4 u_z4 => ?_)
      rw [show (z4 : Int) = gg0 by omega]
      refine yG.store1 xik (L' := [(4, yI (gg0)), (0, yR k0), (1, yI (p1)), (2, yI (p2)), (3, yI (p3))]) rfl (fun _ _ => rfl) rfl rfl ?_
      exact yG.mono (yG.sub (i_20 (gg0) (ys hp k0 3) hp A_hp  rfl (by omega) (by omega) (by omega) (by omega) (by omega) (by omega) (by omega) (by omega) (by omega) (by omega) (by omega) (by omega)) (ySub.cons rfl (ySub.cons rfl (ySub.cons rfl (ySub.cons rfl (ySub.cons rfl (ySub.nil))))))) (by omega)
    · have c3 : (gg0 : Int) ≥ 12 := c3
      refine yG.ret rfl (fun _ _ => rfl) ?_
      exact (yP.void ⟨⟨rfl, trivial⟩, A_hp⟩)
theorem c_Dispatch_cut {hp : xH} (W : bW G) (d : Nat) (hT : zTy G hp) {k0 : Nat} (H_k0 : bRo G 96 k0) : yC (xcall 89 xfts xpools xms (d + 2)) 77 [yR k0] hp (fun rv hp' => (rv = none ∧ True) ∧ bAx G [(79228162514264337593543950336, 3), (3010670175542044828554670112768, 256)] hp hp') := by
  have A_hp : bAx G [(79228162514264337593543950336, 3), (3010670175542044828554670112768, 256)] hp hp := bAx.rf hT
  have H : ∀ m : Nat, (∀ a1 : Int, ∀ hq, bAx G [(79228162514264337593543950336, 3), (3010670175542044828554670112768, 256)] hp hq → 0 ≤ a1 → (-6) ≤ 0 - a1 → 0 - 2 * a1 + 13 < (m : Int) → yG 89 xfts (xcall 89 xfts xpools xms (d + 1)) (xpool xp_RX1) [] xt_X1_cut (yP 0 (fun rv hp' => (rv = none ∧ True) ∧ bAx G [(79228162514264337593543950336, 3), (3010670175542044828554670112768, 256)] hp hp')) (91 * m) 7 [(0, yR k0), (1, yI (a1))] [] hq) := by
    intro m
    induction m with
    | zero =>
      intros; exfalso; omega
    | succ m ih =>
      have i_7 := ih
      clear ih
      intro a1 hq A_hq f0 f1 hm
      refine yG.mono (N := 91 * m + 91) ?_ (by omega)
      refine yG.load xik rfl (fun _ _ => rfl) (v := yI (a1)) rfl rfl ?_
      refine yG.load xak rfl (fun _ _ => rfl) (v := yR k0) rfl rfl ?_
      refine yG.getO A_hq.1 (w_Dispatch_net W H_k0) rfl rfl (fun r1 H_r1 O_r1 q_r1 => ?_)
      refine yG.getO A_hq.1 (w_Net_count W H_r1) rfl rfl (fun r2 H_r2 O_r2 q_r2 => ?_)
      refine yG.num (c := 3) rfl (fun _ _ => rfl) (by decide) ?_
      refine yG.ialdF A_hq.1 (v_Net_count W H_r2) rfl rfl (by omega) (by omega) (fun z3 e_z3 i_z3 l_z3 u_z3 => ?_)
      refine yG.icmp rfl (t := 177) rfl ⟨by omega, by omega⟩ ⟨by omega, by omega⟩ (fun c4 => ?_) (fun c4 => ?_)
      · have c4 : (a1 : Int) ≥ z3 := c4
        refine yG.ret rfl (fun _ _ => rfl) ?_
        exact (yP.void ⟨⟨rfl, trivial⟩, A_hq⟩)
      · have c4 : (a1 : Int) < z3 := c4
        refine yG.load xak rfl (fun _ _ => rfl) (v := yR k0) rfl rfl ?_
        refine yG.getO A_hq.1 (w_Dispatch_shape W H_k0) rfl rfl (fun r5 H_r5 O_r5 q_r5 => ?_)
        refine yG.getO A_hq.1 (w_Shape_on W H_r5) rfl rfl (fun r6 H_r6 O_r6 q_r6 => ?_)
        refine yG.load xik rfl (fun _ _ => rfl) (v := yI (a1)) rfl rfl ?_
        refine yG.bald A_hq.1 (v_Shape_on W H_r6) rfl (by omega) (by omega) (fun z7 e_z7 i_z7 l_z7 u_z7 => ?_)
        refine yG.ifz rfl (t := 171) rfl ⟨by omega, by omega⟩ (fun c8 => ?_) (fun c8 => ?_)
        · have c8 : (z7 : Int) = 0 := c8
          refine yG.iinc rfl (a := a1) rfl (L' := [(1, yI (a1 + 1)), (0, yR k0)]) rfl ?_
          refine yG.goto rfl (t := 7) rfl ?_
          exact yG.mono (yG.sub (i_7 (a1 + 1)  hq A_hq   (by omega) (by omega) (by omega)) (ySub.cons rfl (ySub.cons rfl (ySub.nil)))) (by omega)
        · have c8 : (z7 : Int) ≠ 0 := c8
          refine yG.load xak rfl (fun _ _ => rfl) (v := yR k0) rfl rfl ?_
          refine yG.getS9 A_hq.1 (w_Dispatch_net W H_k0) q_r1 rfl rfl ?_
          refine yG.num (c := 3) rfl (fun _ _ => rfl) (by decide) ?_
          refine yG.load xik rfl (fun _ _ => rfl) (v := yI (a1)) rfl rfl ?_
          refine yG.num (c := 5) rfl (fun _ _ => rfl) (by decide) ?_
          refine yG.invV (rest := []) A_hq.1 (bOb (d_Net W) H_r1) rfl rfl rfl rfl (c_Net_at_3_5 W d A_hq.1 H_r1 (a1) (by omega) (by omega)) (fun rv hp9 q9 => ?_)
          obtain ⟨⟨z9, rfl, l_z9, u_z9, R_z9⟩, e9⟩ := q9
          rw [e9]
          show yG _ _ _ _ _ _ _ _ _ _ (yI z9 :: []) _
          refine yG.load xak rfl (fun _ _ => rfl) (v := yR k0) rfl rfl ?_
          refine yG.getS9 A_hq.1 (w_Dispatch_net W H_k0) q_r1 rfl rfl ?_
          refine yG.num (c := 3) rfl (fun _ _ => rfl) (by decide) ?_
          refine yG.load xik rfl (fun _ _ => rfl) (v := yI (a1)) rfl rfl ?_
          refine yG.num (c := 4) rfl (fun _ _ => rfl) (by decide) ?_
          refine yG.invV (rest := [yI (z9)]) A_hq.1 (bOb (d_Net W) H_r1) rfl rfl rfl rfl (c_Net_at_3_4 W d A_hq.1 H_r1 (a1) (by omega) (by omega)) (fun rv hp9 q9 => ?_)
          obtain ⟨⟨z10, rfl, l_z10, u_z10, R_z10⟩, e9⟩ := q9
          rw [e9]
          show yG _ _ _ _ _ _ _ _ _ _ (yI z10 :: [yI (z9)]) _
          refine yG.isub rfl ?_
          obtain ⟨z11, e_z11⟩ : ∃ z : Int, z = z9 - z10 := ⟨_, rfl⟩
          rw [← e_z11]
          refine yG.store1 xik (L' := [(2, yI (z11)), (0, yR k0), (1, yI (a1))]) rfl (fun _ _ => rfl) rfl rfl ?_
          refine yG.load xik rfl (fun _ _ => rfl) (v := yI (z11)) rfl rfl ?_
          refine yG.num (c := 0) rfl (fun _ _ => rfl) (by decide) ?_
          refine yG.load xak rfl (fun _ _ => rfl) (v := yR k0) rfl rfl ?_
          refine yG.getS9 A_hq.1 (w_Dispatch_net W H_k0) q_r1 rfl rfl ?_
          refine yG.num (c := 3) rfl (fun _ _ => rfl) (by decide) ?_
          refine yG.load xik rfl (fun _ _ => rfl) (v := yI (a1)) rfl rfl ?_
          refine yG.num (c := 7) rfl (fun _ _ => rfl) (by decide) ?_
          refine yG.invV (rest := [yI (0), yI (z11)]) A_hq.1 (bOb (d_Net W) H_r1) rfl rfl rfl rfl (c_Net_at_3_7 W d A_hq.1 H_r1 (a1) (by omega) (by omega)) (fun rv hp9 q9 => ?_)
          obtain ⟨⟨z12, rfl, l_z12, u_z12, R_z12⟩, e9⟩ := q9
          rw [e9]
          show yG _ _ _ _ _ _ _ _ _ _ (yI z12 :: [yI (0), yI (z11)]) _
          refine yG.load xak rfl (fun _ _ => rfl) (v := yR k0) rfl rfl ?_
          refine yG.getS9 A_hq.1 (w_Dispatch_net W H_k0) q_r1 rfl rfl ?_
          refine yG.num (c := 3) rfl (fun _ _ => rfl) (by decide) ?_
          refine yG.load xik rfl (fun _ _ => rfl) (v := yI (a1)) rfl rfl ?_
          refine yG.num (c := 4) rfl (fun _ _ => rfl) (by decide) ?_
          refine yG.invV (rest := [yI (z12), yI (0), yI (z11)]) A_hq.1 (bOb (d_Net W) H_r1) rfl rfl rfl rfl (c_Net_at_3_4 W d A_hq.1 H_r1 (a1) (by omega) (by omega)) (fun rv hp9 q9 => ?_)
          obtain ⟨⟨z13, rfl, l_z13, u_z13, R_z13⟩, e9⟩ := q9
          rw [e9]
          show yG _ _ _ _ _ _ _ _ _ _ (yI z13 :: [yI (z12), yI (0), yI (z11)]) _
          refine yG.isub rfl ?_
          refine yG.invS (rest := [yI (z11)]) rfl rfl rfl rfl (c_J9_maxI W d A_hq.1 (0) (z12 - z13) (by omega) (by omega) (by omega) (by omega)) (fun rv hp9 q9 => ?_)
          obtain ⟨⟨z14, rfl, l_z14, u_z14, R_z14⟩, e9⟩ := q9
          rw [e9]
          show yG _ _ _ _ _ _ _ _ _ _ (yI z14 :: [yI (z11)]) _
          refine yG.invS (rest := []) rfl rfl rfl rfl (c_J9_minI W d A_hq.1 (z11) (z14) (by omega) (by omega) (by omega) (by omega)) (fun rv hp9 q9 => ?_)
          obtain ⟨⟨z15, rfl, l_z15, u_z15, R_z15⟩, e9⟩ := q9
          rw [e9]
          show yG _ _ _ _ _ _ _ _ _ _ (yI z15 :: []) _
          refine yG.store1 xik (L' := [(3, yI (z15)), (2, yI (z11)), (0, yR k0), (1, yI (a1))]) rfl (fun _ _ => rfl) rfl rfl ?_
          refine yG.load xak rfl (fun _ _ => rfl) (v := yR k0) rfl rfl ?_
          refine yG.getS9 A_hq.1 (w_Dispatch_net W H_k0) q_r1 rfl rfl ?_
          refine yG.num (c := 3) rfl (fun _ _ => rfl) (by decide) ?_
          refine yG.load xik rfl (fun _ _ => rfl) (v := yI (a1)) rfl rfl ?_
          refine yG.num (c := 6) rfl (fun _ _ => rfl) (by decide) ?_
          refine yG.invV (rest := []) A_hq.1 (bOb (d_Net W) H_r1) rfl rfl rfl rfl (c_Net_at_3_6 W d A_hq.1 H_r1 (a1) (by omega) (by omega)) (fun rv hp9 q9 => ?_)
          obtain ⟨⟨z16, rfl, l_z16, u_z16, R_z16⟩, e9⟩ := q9
          rw [e9]
          show yG _ _ _ _ _ _ _ _ _ _ (yI z16 :: []) _
          refine yG.load xak rfl (fun _ _ => rfl) (v := yR k0) rfl rfl ?_
          refine yG.getS9 A_hq.1 (w_Dispatch_net W H_k0) q_r1 rfl rfl ?_
          refine yG.num (c := 3) rfl (fun _ _ => rfl) (by decide) ?_
          refine yG.load xik rfl (fun _ _ => rfl) (v := yI (a1)) rfl rfl ?_
          refine yG.num (c := 8) rfl (fun _ _ => rfl) (by decide) ?_
          refine yG.invV (rest := [yI (z16)]) A_hq.1 (bOb (d_Net W) H_r1) rfl rfl rfl rfl (c_Net_at_3_8 W d A_hq.1 H_r1 (a1) (by omega) (by omega)) (fun rv hp9 q9 => ?_)
          obtain ⟨⟨z17, rfl, l_z17, u_z17, R_z17⟩, e9⟩ := q9
          rw [e9]
          show yG _ _ _ _ _ _ _ _ _ _ (yI z17 :: [yI (z16)]) _
          refine yG.icmp rfl (t := 114) rfl ⟨by omega, by omega⟩ ⟨by omega, by omega⟩ (fun c18 => ?_) (fun c18 => ?_)
          · have c18 : (z16 : Int) ≠ z17 := c18
            refine yG.num (c := 0) rfl (fun _ _ => rfl) (by decide) ?_
            refine yG.store1 xik (L' := [(4, yI (0)), (3, yI (z15)), (2, yI (z11)), (0, yR k0), (1, yI (a1))]) rfl (fun _ _ => rfl) rfl rfl ?_
            refine yG.load xak rfl (fun _ _ => rfl) (v := yR k0) rfl rfl ?_
            refine yG.load xik rfl (fun _ _ => rfl) (v := yI (a1)) rfl rfl ?_
            refine yG.load xik rfl (fun _ _ => rfl) (v := yI (0)) rfl rfl ?_
            refine yG.ifz rfl (t := 128) rfl ⟨by omega, by omega⟩ (fun c19 => ?_) (fun c19 => ?_)
            · have c19 : (0 : Int) = 0 := c19
              refine yG.load xik rfl (fun _ _ => rfl) (v := yI (z15)) rfl rfl ?_
              refine yG.load xak rfl (fun _ _ => rfl) (v := yR k0) rfl rfl ?_
              refine yG.getS9 A_hq.1 (w_Dispatch_net W H_k0) q_r1 rfl rfl ?_
              refine yG.num (c := 3) rfl (fun _ _ => rfl) (by decide) ?_
              refine yG.load xik rfl (fun _ _ => rfl) (v := yI (a1)) rfl rfl ?_
              refine yG.num (c := 6) rfl (fun _ _ => rfl) (by decide) ?_
              refine yG.invV (rest := [yI (z15), yI (a1), yR k0]) A_hq.1 (bOb (d_Net W) H_r1) rfl rfl rfl rfl (c_Net_at_3_6 W d A_hq.1 H_r1 (a1) (by omega) (by omega)) (fun rv hp9 q9 => ?_)
              obtain ⟨⟨z20, rfl, l_z20, u_z20, R_z20⟩, e9⟩ := q9
              rw [e9]
              show yG _ _ _ _ _ _ _ _ _ _ (yI z20 :: [yI (z15), yI (a1), yR k0]) _
              refine yG.invV (rest := []) A_hq.1 (bOb (d_Dispatch W) H_k0) rfl rfl rfl rfl (c_Dispatch_addPart W d A_hq.1 H_k0 (a1) (z15) (z20) (by omega) (by omega) (by omega) (by omega) (by omega) (by omega)) (fun rv h21 q9 => ?_)
              obtain ⟨⟨rfl, R_z22⟩, B_h21⟩ := q9
              have A_h21 := A_hq.tr B_h21 (by decide)
              have qq1 : zsl h21 k0 1 = yR r1 := (B_h21.sl H_k0 (by decide)).trans q_r1
              show yG _ _ _ _ _ _ _ _ _ _ [] _
              refine yG.load xak rfl (fun _ _ => rfl) (v := yR k0) rfl rfl ?_
              refine yG.load xik rfl (fun _ _ => rfl) (v := yI (a1)) rfl rfl ?_
              refine yG.load xik rfl (fun _ _ => rfl) (v := yI (0)) rfl rfl ?_
              refine yG.ifz rfl (t := 154) rfl ⟨by omega, by omega⟩ (fun c23 => ?_) (fun c23 => ?_)
              · have c23 : (0 : Int) = 0 := c23
                refine yG.load xik rfl (fun _ _ => rfl) (v := yI (z11)) rfl rfl ?_
                refine yG.load xik rfl (fun _ _ => rfl) (v := yI (z15)) rfl rfl ?_
                refine yG.isub rfl ?_
                refine yG.load xak rfl (fun _ _ => rfl) (v := yR k0) rfl rfl ?_
                refine yG.getS9 A_h21.1 (w_Dispatch_net W H_k0) qq1 rfl rfl ?_
                refine yG.num (c := 3) rfl (fun _ _ => rfl) (by decide) ?_
                refine yG.load xik rfl (fun _ _ => rfl) (v := yI (a1)) rfl rfl ?_
                refine yG.num (c := 8) rfl (fun _ _ => rfl) (by decide) ?_
                refine yG.invV (rest := [yI (z11 - z15), yI (a1), yR k0]) A_h21.1 (bOb (d_Net W) H_r1) rfl rfl rfl rfl (c_Net_at_3_8 W d A_h21.1 H_r1 (a1) (by omega) (by omega)) (fun rv hp9 q9 => ?_)
                obtain ⟨⟨z24, rfl, l_z24, u_z24, R_z24⟩, e9⟩ := q9
                rw [e9]
                show yG _ _ _ _ _ _ _ _ _ _ (yI z24 :: [yI (z11 - z15), yI (a1), yR k0]) _
                refine yG.invV (rest := []) A_h21.1 (bOb (d_Dispatch W) H_k0) rfl rfl rfl rfl (c_Dispatch_addPart W d A_h21.1 H_k0 (a1) (z11 - z15) (z24) (by omega) (by omega) (by omega) (by omega) (by omega) (by omega)) (fun rv h25 q9 => ?_)
                obtain ⟨⟨rfl, R_z26⟩, B_h25⟩ := q9
                have A_h25 := A_h21.tr B_h25 (by decide)
                have qq2 : zsl h25 k0 1 = yR r1 := (B_h25.sl H_k0 (by decide)).trans qq1
                show yG _ _ _ _ _ _ _ _ _ _ [] _
                refine yG.iinc rfl (a := a1) rfl (L' := [(1, yI (a1 + 1)), (4, yI (0)), (3, yI (z15)), (2, yI (z11)), (0, yR k0)]) rfl ?_
                refine yG.goto rfl (t := 7) rfl ?_
                exact yG.mono (yG.sub (i_7 (a1 + 1)  h25 A_h25   (by omega) (by omega) (by omega)) (ySub.cons rfl (ySub.cons rfl (ySub.nil)))) (by omega)
              · have c23 : (0 : Int) ≠ 0 := c23
                exfalso; omega
            · have c19 : (0 : Int) ≠ 0 := c19
              exfalso; omega
          · have c18 : (z16 : Int) = z17 := c18
            refine yG.num (c := 1) rfl (fun _ _ => rfl) (by decide) ?_
            refine yG.goto rfl (t := 115) rfl ?_
            refine yG.store1 xik (L' := [(4, yI (1)), (3, yI (z15)), (2, yI (z11)), (0, yR k0), (1, yI (a1))]) rfl (fun _ _ => rfl) rfl rfl ?_
            refine yG.load xak rfl (fun _ _ => rfl) (v := yR k0) rfl rfl ?_
            refine yG.load xik rfl (fun _ _ => rfl) (v := yI (a1)) rfl rfl ?_
            refine yG.load xik rfl (fun _ _ => rfl) (v := yI (1)) rfl rfl ?_
            refine yG.ifz rfl (t := 128) rfl ⟨by omega, by omega⟩ (fun c27 => ?_) (fun c27 => ?_)
            · have c27 : (1 : Int) = 0 := c27
              exfalso; omega
            · have c27 : (1 : Int) ≠ 0 := c27
              refine yG.load xik rfl (fun _ _ => rfl) (v := yI (z11)) rfl rfl ?_
              refine yG.goto rfl (t := 129) rfl ?_
              refine yG.load xak rfl (fun _ _ => rfl) (v := yR k0) rfl rfl ?_
              refine yG.getS9 A_hq.1 (w_Dispatch_net W H_k0) q_r1 rfl rfl ?_
              refine yG.num (c := 3) rfl (fun _ _ => rfl) (by decide) ?_
              refine yG.load xik rfl (fun _ _ => rfl) (v := yI (a1)) rfl rfl ?_
              refine yG.num (c := 6) rfl (fun _ _ => rfl) (by decide) ?_
              refine yG.invV (rest := [yI (z11), yI (a1), yR k0]) A_hq.1 (bOb (d_Net W) H_r1) rfl rfl rfl rfl (c_Net_at_3_6 W d A_hq.1 H_r1 (a1) (by omega) (by omega)) (fun rv hp9 q9 => ?_)
              obtain ⟨⟨z28, rfl, l_z28, u_z28, R_z28⟩, e9⟩ := q9
              rw [e9]
              show yG _ _ _ _ _ _ _ _ _ _ (yI z28 :: [yI (z11), yI (a1), yR k0]) _
              refine yG.invV (rest := []) A_hq.1 (bOb (d_Dispatch W) H_k0) rfl rfl rfl rfl (c_Dispatch_addPart W d A_hq.1 H_k0 (a1) (z11) (z28) (by omega) (by omega) (by omega) (by omega) (by omega) (by omega)) (fun rv h29 q9 => ?_)
              obtain ⟨⟨rfl, R_z30⟩, B_h29⟩ := q9
              have A_h29 := A_hq.tr B_h29 (by decide)
              have qq3 : zsl h29 k0 1 = yR r1 := (B_h29.sl H_k0 (by decide)).trans q_r1
              show yG _ _ _ _ _ _ _ _ _ _ [] _
              refine yG.load xak rfl (fun _ _ => rfl) (v := yR k0) rfl rfl ?_
              refine yG.load xik rfl (fun _ _ => rfl) (v := yI (a1)) rfl rfl ?_
              refine yG.load xik rfl (fun _ _ => rfl) (v := yI (1)) rfl rfl ?_
              refine yG.ifz rfl (t := 154) rfl ⟨by omega, by omega⟩ (fun c31 => ?_) (fun c31 => ?_)
              · have c31 : (1 : Int) = 0 := c31
                exfalso; omega
              · have c31 : (1 : Int) ≠ 0 := c31
                refine yG.num (c := 0) rfl (fun _ _ => rfl) (by decide) ?_
                refine yG.goto rfl (t := 157) rfl ?_
                refine yG.load xak rfl (fun _ _ => rfl) (v := yR k0) rfl rfl ?_
                refine yG.getS9 A_h29.1 (w_Dispatch_net W H_k0) qq3 rfl rfl ?_
                refine yG.num (c := 3) rfl (fun _ _ => rfl) (by decide) ?_
                refine yG.load xik rfl (fun _ _ => rfl) (v := yI (a1)) rfl rfl ?_
                refine yG.num (c := 8) rfl (fun _ _ => rfl) (by decide) ?_
                refine yG.invV (rest := [yI (0), yI (a1), yR k0]) A_h29.1 (bOb (d_Net W) H_r1) rfl rfl rfl rfl (c_Net_at_3_8 W d A_h29.1 H_r1 (a1) (by omega) (by omega)) (fun rv hp9 q9 => ?_)
                obtain ⟨⟨z32, rfl, l_z32, u_z32, R_z32⟩, e9⟩ := q9
                rw [e9]
                show yG _ _ _ _ _ _ _ _ _ _ (yI z32 :: [yI (0), yI (a1), yR k0]) _
                refine yG.invV (rest := []) A_h29.1 (bOb (d_Dispatch W) H_k0) rfl rfl rfl rfl (c_Dispatch_addPart W d A_h29.1 H_k0 (a1) (0) (z32) (by omega) (by omega) (by omega) (by omega) (by omega) (by omega)) (fun rv h33 q9 => ?_)
                obtain ⟨⟨rfl, R_z34⟩, B_h33⟩ := q9
                have A_h33 := A_h29.tr B_h33 (by decide)
                have qq4 : zsl h33 k0 1 = yR r1 := (B_h33.sl H_k0 (by decide)).trans qq3
                show yG _ _ _ _ _ _ _ _ _ _ [] _
                refine yG.iinc rfl (a := a1) rfl (L' := [(1, yI (a1 + 1)), (4, yI (1)), (3, yI (z15)), (2, yI (z11)), (0, yR k0)]) rfl ?_
                refine yG.goto rfl (t := 7) rfl ?_
                exact yG.mono (yG.sub (i_7 (a1 + 1)  h33 A_h33   (by omega) (by omega) (by omega)) (ySub.cons rfl (ySub.cons rfl (ySub.nil)))) (by omega)
  refine yC.of (M := (xt_X1_cut, (5, (0, (2, []))))) rfl rfl (N := 1456) (yfuel (by decide)) ?_
  show yG 89 xfts (xcall 89 xfts xpools xms (d + 1)) (xpool xp_RX1) [] xt_X1_cut (yP 0 (fun rv hp' => (rv = none ∧ True) ∧ bAx G [(79228162514264337593543950336, 3), (3010670175542044828554670112768, 256)] hp hp')) 1456 0 [(0, yR k0)] [] hp
  have i_7 := H 15
  refine yG.load xak rfl (fun _ _ => rfl) (v := yR k0) rfl rfl ?_
  refine yG.num (c := 0) rfl (fun _ _ => rfl) (by decide) ?_
  refine yG.putI A_hp.1 (w_Dispatch_parts W H_k0) (W.2.1 _ _ H_k0 (by decide) (by decide)) rfl rfl (.inl rfl) ⟨by omega, by omega⟩ (by omega) (by omega) (fun h1 T_h1 b_h1 f_h1 y_h1 => ?_)
  have A_h1 := A_hp.put T_h1 b_h1 f_h1 H_k0 (by decide)
  refine yG.num (c := 0) rfl (fun _ _ => rfl) (by decide) ?_
  refine yG.store1 xik (L' := [(1, yI (0)), (0, yR k0)]) rfl (fun _ _ => rfl) rfl rfl ?_
  exact yG.mono (yG.sub (i_7 (0)  h1 A_h1   (by omega) (by omega) (by omega)) (ySub.cons rfl (ySub.cons rfl (ySub.nil)))) (by omega)
theorem c_Dispatch_islandOf {hp : xH} (W : bW G) (d : Nat) (hT : zTy G hp) {k0 : Nat} (H_k0 : bRo G 96 k0) (p1 : Int) (h1l : 0 ≤ p1) (h1u : p1 ≤ 11) : yC (xcall 89 xfts xpools xms (d + 2)) 85 [yR k0, yI (p1)] hp (bQpi hp 0 15 (fun _ => True)) := by
  have A_hp : bAx G [] hp hp := bAx.rf hT
  refine yC.of (M := (xt_X1_islandOf, (2, (1, (2, []))))) rfl rfl (N := 30) (yfuel (by decide)) ?_
  show yG 89 xfts (xcall 89 xfts xpools xms (d + 1)) (xpool xp_RX1) [] xt_X1_islandOf (yP 1 (bQpi hp 0 15 (fun _ => True))) 30 0 [(0, yR k0), (1, yI (p1))] [] hp
  refine yG.load xak rfl (fun _ _ => rfl) (v := yR k0) rfl rfl ?_
  refine yG.getO A_hp.1 (w_Dispatch_shape W H_k0) rfl rfl (fun r1 H_r1 O_r1 q_r1 => ?_)
  refine yG.load xak rfl (fun _ _ => rfl) (v := yR k0) rfl rfl ?_
  refine yG.getO A_hp.1 (w_Dispatch_machineOf W H_k0) rfl rfl (fun r2 H_r2 O_r2 q_r2 => ?_)
  refine yG.load xik rfl (fun _ _ => rfl) (v := yI (p1)) rfl rfl ?_
  refine yG.iald A_hp.1 (v_Dispatch_machineOf W H_r2) rfl (by omega) (by omega) (fun z3 e_z3 i_z3 l_z3 u_z3 => ?_)
  refine yG.invV (rest := []) A_hp.1 (bOb (d_Shape W) H_r1) rfl rfl rfl rfl (c_Shape_islandOfMachine W d A_hp.1 H_r1 (z3) (by omega) (by omega)) (fun rv hp9 q9 => ?_)
  obtain ⟨⟨z4, rfl, l_z4, u_z4, R_z4⟩, e9⟩ := q9
  rw [e9]
  show yG _ _ _ _ _ _ _ _ _ _ (yI z4 :: []) _
  refine yG.ret rfl (fun _ _ => rfl) ?_
  exact (yP.int ⟨by omega, by omega⟩ ⟨⟨z4, rfl, by omega, by omega, trivial⟩, rfl⟩)
theorem c_Dispatch_shareIn {hp : xH} (W : bW G) (d : Nat) (hT : zTy G hp) {k0 : Nat} (H_k0 : bRo G 96 k0) (p1 p2 : Int) (h1l : 0 ≤ p1) (h1u : p1 ≤ 15) (h2l : (-1) ≤ p2) (h2u : p2 ≤ 15) : yC (xcall 89 xfts xpools xms (d + 3)) 91 [yR k0, yI (p1), yI (p2)] hp (bQi G [(6972078301255261708231867629568, 256)] hp 0 1 (fun _ => True)) := by
  have A_hp : bAx G [(6972078301255261708231867629568, 256)] hp hp := bAx.rf hT
  have H : ∀ m : Nat, (∀ a3 : Int, ∀ a4 : Int, ∀ hq, bAx G [(6972078301255261708231867629568, 256)] hp hq → (-2147483648) ≤ a3 → (-2147483647) ≤ 0 - a3 → 0 ≤ a4 → (-12) ≤ 0 - a4 → 0 ≤ p1 → (-15) ≤ 0 - p1 → (-1) ≤ p2 → (-15) ≤ 0 - p2 → (-2147483646) ≤ 0 - a3 + a4 → 0 - 190 * a4 + 2469 < (m : Int) → yG 89 xfts (xcall 89 xfts xpools xms (d + 2)) (xpool xp_RX1) [] xt_X1_shareIn (yP 4 (bQi G [(6972078301255261708231867629568, 256)] hp 0 1 (fun _ => True))) (52 * m) 27 [(0, yR k0), (1, yI (p1)), (3, yI (a3)), (4, yI (a4))] [] hq) ∧ (∀ a3 : Int, ∀ a4 : Int, ∀ hq, bAx G [(6972078301255261708231867629568, 256)] hp hq → (-2147483648) ≤ a3 → (-2147483647) ≤ 0 - a3 → 0 ≤ a4 → (-6) ≤ 0 - a4 → 0 ≤ p1 → (-15) ≤ 0 - p1 → (-1) ≤ p2 → (-15) ≤ 0 - p2 → 0 - 27 * a4 + 188 < (m : Int) → yG 89 xfts (xcall 89 xfts xpools xms (d + 2)) (xpool xp_RX1) [] xt_X1_shareIn (yP 4 (bQi G [(6972078301255261708231867629568, 256)] hp 0 1 (fun _ => True))) (52 * m) 81 [(0, yR k0), (1, yI (p1)), (3, yI (a3)), (4, yI (a4))] [] hq) ∧ (∀ a3 : Int, ∀ a4 : Int, ∀ hq, bAx G [(6972078301255261708231867629568, 256)] hp hq → (-2147483648) ≤ a3 → (-2147483647) ≤ 0 - a3 → 0 ≤ a4 → (-12) ≤ 0 - a4 → 0 ≤ p1 → (-15) ≤ 0 - p1 → (-1) ≤ p2 → (-15) ≤ 0 - p2 → 0 - 2 * a4 + 25 < (m : Int) → yG 89 xfts (xcall 89 xfts xpools xms (d + 2)) (xpool xp_RX1) [] xt_X1_shareIn (yP 4 (bQi G [(6972078301255261708231867629568, 256)] hp 0 1 (fun _ => True))) (52 * m) 160 [(0, yR k0), (1, yI (p1)), (3, yI (a3)), (4, yI (a4))] [] hq) := by
    intro m
    induction m with
    | zero =>
      refine ⟨?_, ?_, ?_⟩ <;> (intros; exfalso; omega)
    | succ m ih =>
      obtain ⟨i_27, i_81, i_160⟩ := ih
      refine ⟨?_, ?_, ?_⟩
      · intro a3 a4 hq A_hq f0 f1 f2 f3 f4 f5 f6 f7 f8 hm
        refine yG.mono (N := 52 * m + 52) ?_ (by omega)
        refine yG.load xik rfl (fun _ _ => rfl) (v := yI (a4)) rfl rfl ?_
        refine yG.load xak rfl (fun _ _ => rfl) (v := yR k0) rfl rfl ?_
        refine yG.getO A_hq.1 (w_Dispatch_net W H_k0) rfl rfl (fun r1 H_r1 O_r1 q_r1 => ?_)
        refine yG.getO A_hq.1 (w_Net_count W H_r1) rfl rfl (fun r2 H_r2 O_r2 q_r2 => ?_)
        refine yG.num (c := 4) rfl (fun _ _ => rfl) (by decide) ?_
        refine yG.ialdF A_hq.1 (v_Net_count W H_r2) rfl rfl (by omega) (by omega) (fun z3 e_z3 i_z3 l_z3 u_z3 => ?_)
        refine yG.icmp rfl (t := 78) rfl ⟨by omega, by omega⟩ ⟨by omega, by omega⟩ (fun c4 => ?_) (fun c4 => ?_)
        · have c4 : (a4 : Int) ≥ z3 := c4
          refine yG.num (c := 0) rfl (fun _ _ => rfl) (by decide) ?_
          refine yG.store1 xik (L' := [(4, yI (0)), (0, yR k0), (1, yI (p1)), (3, yI (a3))]) rfl (fun _ _ => rfl) rfl rfl ?_
          exact yG.mono (yG.sub (i_81 (a3) (0)  hq A_hq   (by omega) (by omega) (by omega) (by omega) (by omega) (by omega) (by omega) (by omega) (by omega)) (ySub.cons rfl (ySub.cons rfl (ySub.cons rfl (ySub.cons rfl (ySub.nil)))))) (by omega)
        · have c4 : (a4 : Int) < z3 := c4
          refine yG.load xik rfl (fun _ _ => rfl) (v := yI (a3)) rfl rfl ?_
          refine yG.load xak rfl (fun _ _ => rfl) (v := yR k0) rfl rfl ?_
          refine yG.getO A_hq.1 (w_Dispatch_shape W H_k0) rfl rfl (fun r5 H_r5 O_r5 q_r5 => ?_)
          refine yG.load xik rfl (fun _ _ => rfl) (v := yI (a4)) rfl rfl ?_
          refine yG.invV (rest := [yI (a3)]) A_hq.1 (bOb (d_Shape W) H_r5) rfl rfl rfl rfl (c_Shape_islandOfLoad W d A_hq.1 H_r5 (a4) (by omega) (by omega)) (fun rv hp9 q9 => ?_)
          obtain ⟨⟨z6, rfl, l_z6, u_z6, R_z6⟩, e9⟩ := q9
          rw [e9]
          show yG _ _ _ _ _ _ _ _ _ _ (yI z6 :: [yI (a3)]) _
          refine yG.load xik rfl (fun _ _ => rfl) (v := yI (p1)) rfl rfl ?_
          refine yG.icmp rfl (t := 69) rfl ⟨by omega, by omega⟩ ⟨by omega, by omega⟩ (fun c7 => ?_) (fun c7 => ?_)
          · have c7 : (z6 : Int) ≠ p1 := c7
            refine yG.num (c := 0) rfl (fun _ _ => rfl) (by decide) ?_
            refine yG.iadd rfl ?_
            obtain ⟨z8, e_z8⟩ : ∃ z : Int, z = a3 + 0 := ⟨_, rfl⟩
            rw [← e_z8]
            refine yG.store1 xik (L' := [(3, yI (z8)), (0, yR k0), (1, yI (p1)), (4, yI (a4))]) rfl (fun _ _ => rfl) rfl rfl ?_
            refine yG.iinc rfl (a := a4) rfl (L' := [(4, yI (a4 + 1)), (3, yI (z8)), (0, yR k0), (1, yI (p1))]) rfl ?_
            refine yG.goto rfl (t := 27) rfl ?_
            exact yG.mono (yG.sub (i_27 (z8) (a4 + 1)  hq A_hq   (by omega) (by omega) (by omega) (by omega) (by omega) (by omega) (by omega) (by omega) (by omega) (by omega)) (ySub.cons rfl (ySub.cons rfl (ySub.cons rfl (ySub.cons rfl (ySub.nil)))))) (by omega)
          · have c7 : (z6 : Int) = p1 := c7
            refine yG.load xak rfl (fun _ _ => rfl) (v := yR k0) rfl rfl ?_
            refine yG.getS9 A_hq.1 (w_Dispatch_net W H_k0) q_r1 rfl rfl ?_
            refine yG.num (c := 4) rfl (fun _ _ => rfl) (by decide) ?_
            refine yG.load xik rfl (fun _ _ => rfl) (v := yI (a4)) rfl rfl ?_
            refine yG.num (c := 0) rfl (fun _ _ => rfl) (by decide) ?_
            refine yG.invV (rest := [yI (a3)]) A_hq.1 (bOb (d_Net W) H_r1) rfl rfl rfl rfl (c_Net_at_4_0 W (d + 1) A_hq.1 H_r1 (a4) (by omega) (by omega)) (fun rv hp9 q9 => ?_)
            obtain ⟨⟨z9, rfl, l_z9, u_z9, R_z9⟩, e9⟩ := q9
            rw [e9]
            show yG _ _ _ _ _ _ _ _ _ _ (yI z9 :: [yI (a3)]) _
            refine yG.goto rfl (t := 70) rfl ?_
            refine yG.iadd rfl ?_
            obtain ⟨z10, e_z10, l_z10, u_z10⟩ := ywI (a3 + z9)
            rw [e_z10]
            refine yG.store1 xik (L' := [(3, yI (z10)), (0, yR k0), (1, yI (p1)), (4, yI (a4))]) rfl (fun _ _ => rfl) rfl rfl ?_
            refine yG.iinc rfl (a := a4) rfl (L' := [(4, yI (a4 + 1)), (3, yI (z10)), (0, yR k0), (1, yI (p1))]) rfl ?_
            refine yG.goto rfl (t := 27) rfl ?_
            exact yG.mono (yG.sub (i_27 (z10) (a4 + 1)  hq A_hq   (by omega) (by omega) (by omega) (by omega) (by omega) (by omega) (by omega) (by omega) (by omega) (by omega)) (ySub.cons rfl (ySub.cons rfl (ySub.cons rfl (ySub.cons rfl (ySub.nil)))))) (by omega)
      · intro a3 a4 hq A_hq f0 f1 f2 f3 f4 f5 f6 f7 hm
        refine yG.mono (N := 52 * m + 52) ?_ (by omega)
        refine yG.load xik rfl (fun _ _ => rfl) (v := yI (a4)) rfl rfl ?_
        refine yG.load xak rfl (fun _ _ => rfl) (v := yR k0) rfl rfl ?_
        refine yG.getO A_hq.1 (w_Dispatch_net W H_k0) rfl rfl (fun r1 H_r1 O_r1 q_r1 => ?_)
        refine yG.getO A_hq.1 (w_Net_count W H_r1) rfl rfl (fun r2 H_r2 O_r2 q_r2 => ?_)
        refine yG.num (c := 3) rfl (fun _ _ => rfl) (by decide) ?_
        refine yG.ialdF A_hq.1 (v_Net_count W H_r2) rfl rfl (by omega) (by omega) (fun z3 e_z3 i_z3 l_z3 u_z3 => ?_)
        refine yG.icmp rfl (t := 157) rfl ⟨by omega, by omega⟩ ⟨by omega, by omega⟩ (fun c4 => ?_) (fun c4 => ?_)
        · have c4 : (a4 : Int) ≥ z3 := c4
          refine yG.num (c := 0) rfl (fun _ _ => rfl) (by decide) ?_
          refine yG.store1 xik (L' := [(4, yI (0)), (0, yR k0), (1, yI (p1)), (3, yI (a3))]) rfl (fun _ _ => rfl) rfl rfl ?_
          exact yG.mono (yG.sub (i_160 (a3) (0)  hq A_hq   (by omega) (by omega) (by omega) (by omega) (by omega) (by omega) (by omega) (by omega) (by omega)) (ySub.cons rfl (ySub.cons rfl (ySub.cons rfl (ySub.cons rfl (ySub.nil)))))) (by omega)
        · have c4 : (a4 : Int) < z3 := c4
          refine yG.load xak rfl (fun _ _ => rfl) (v := yR k0) rfl rfl ?_
          refine yG.getO A_hq.1 (w_Dispatch_shape W H_k0) rfl rfl (fun r5 H_r5 O_r5 q_r5 => ?_)
          refine yG.getO A_hq.1 (w_Shape_on W H_r5) rfl rfl (fun r6 H_r6 O_r6 q_r6 => ?_)
          refine yG.load xik rfl (fun _ _ => rfl) (v := yI (a4)) rfl rfl ?_
          refine yG.bald A_hq.1 (v_Shape_on W H_r6) rfl (by omega) (by omega) (fun z7 e_z7 i_z7 l_z7 u_z7 => ?_)
          refine yG.ifz rfl (t := 125) rfl ⟨by omega, by omega⟩ (fun c8 => ?_) (fun c8 => ?_)
          · have c8 : (z7 : Int) = 0 := c8
            refine yG.num (c := 0) rfl (fun _ _ => rfl) (by decide) ?_
            refine yG.store1 xik (L' := [(5, yI (0)), (0, yR k0), (1, yI (p1)), (3, yI (a3)), (4, yI (a4))]) rfl (fun _ _ => rfl) rfl rfl ?_
            refine yG.load xik rfl (fun _ _ => rfl) (v := yI (a3)) rfl rfl ?_
            refine yG.load xik rfl (fun _ _ => rfl) (v := yI (0)) rfl rfl ?_
            refine yG.ifz rfl (t := 148) rfl ⟨by omega, by omega⟩ (fun c9 => ?_) (fun c9 => ?_)
            · have c9 : (0 : Int) = 0 := c9
              refine yG.num (c := 0) rfl (fun _ _ => rfl) (by decide) ?_
              refine yG.isub rfl ?_
              obtain ⟨z10, e_z10⟩ : ∃ z : Int, z = a3 - 0 := ⟨_, rfl⟩
              rw [← e_z10]
              refine yG.store1 xik (L' := [(3, yI (z10)), (5, yI (0)), (0, yR k0), (1, yI (p1)), (4, yI (a4))]) rfl (fun _ _ => rfl) rfl rfl ?_
              refine yG.iinc rfl (a := a4) rfl (L' := [(4, yI (a4 + 1)), (3, yI (z10)), (5, yI (0)), (0, yR k0), (1, yI (p1))]) rfl ?_
              refine yG.goto rfl (t := 81) rfl ?_
              exact yG.mono (yG.sub (i_81 (z10) (a4 + 1)  hq A_hq   (by omega) (by omega) (by omega) (by omega) (by omega) (by omega) (by omega) (by omega) (by omega)) (ySub.cons rfl (ySub.cons rfl (ySub.cons rfl (ySub.cons rfl (ySub.nil)))))) (by omega)
            · have c9 : (0 : Int) ≠ 0 := c9
              exfalso; omega
          · have c8 : (z7 : Int) ≠ 0 := c8
            refine yG.load xak rfl (fun _ _ => rfl) (v := yR k0) rfl rfl ?_
            refine yG.getS9 A_hq.1 (w_Dispatch_shape W H_k0) q_r5 rfl rfl ?_
            refine yG.load xik rfl (fun _ _ => rfl) (v := yI (a4)) rfl rfl ?_
            refine yG.invV (rest := []) A_hq.1 (bOb (d_Shape W) H_r5) rfl rfl rfl rfl (c_Shape_islandOfMachine W (d + 1) A_hq.1 H_r5 (a4) (by omega) (by omega)) (fun rv hp9 q9 => ?_)
            obtain ⟨⟨z11, rfl, l_z11, u_z11, R_z11⟩, e9⟩ := q9
            rw [e9]
            show yG _ _ _ _ _ _ _ _ _ _ (yI z11 :: []) _
            refine yG.load xik rfl (fun _ _ => rfl) (v := yI (p1)) rfl rfl ?_
            refine yG.icmp rfl (t := 125) rfl ⟨by omega, by omega⟩ ⟨by omega, by omega⟩ (fun c12 => ?_) (fun c12 => ?_)
            · have c12 : (z11 : Int) ≠ p1 := c12
              refine yG.num (c := 0) rfl (fun _ _ => rfl) (by decide) ?_
              refine yG.store1 xik (L' := [(5, yI (0)), (0, yR k0), (1, yI (p1)), (3, yI (a3)), (4, yI (a4))]) rfl (fun _ _ => rfl) rfl rfl ?_
              refine yG.load xik rfl (fun _ _ => rfl) (v := yI (a3)) rfl rfl ?_
              refine yG.load xik rfl (fun _ _ => rfl) (v := yI (0)) rfl rfl ?_
              refine yG.ifz rfl (t := 148) rfl ⟨by omega, by omega⟩ (fun c13 => ?_) (fun c13 => ?_)
              · have c13 : (0 : Int) = 0 := c13
                refine yG.num (c := 0) rfl (fun _ _ => rfl) (by decide) ?_
                refine yG.isub rfl ?_
                obtain ⟨z14, e_z14⟩ : ∃ z : Int, z = a3 - 0 := ⟨_, rfl⟩
                rw [← e_z14]
                refine yG.store1 xik (L' := [(3, yI (z14)), (5, yI (0)), (0, yR k0), (1, yI (p1)), (4, yI (a4))]) rfl (fun _ _ => rfl) rfl rfl ?_
                refine yG.iinc rfl (a := a4) rfl (L' := [(4, yI (a4 + 1)), (3, yI (z14)), (5, yI (0)), (0, yR k0), (1, yI (p1))]) rfl ?_
                refine yG.goto rfl (t := 81) rfl ?_
                exact yG.mono (yG.sub (i_81 (z14) (a4 + 1)  hq A_hq   (by omega) (by omega) (by omega) (by omega) (by omega) (by omega) (by omega) (by omega) (by omega)) (ySub.cons rfl (ySub.cons rfl (ySub.cons rfl (ySub.cons rfl (ySub.nil)))))) (by omega)
              · have c13 : (0 : Int) ≠ 0 := c13
                exfalso; omega
            · have c12 : (z11 : Int) = p1 := c12
              refine yG.num (c := 1) rfl (fun _ _ => rfl) (by decide) ?_
              refine yG.goto rfl (t := 126) rfl ?_
              refine yG.store1 xik (L' := [(5, yI (1)), (0, yR k0), (1, yI (p1)), (3, yI (a3)), (4, yI (a4))]) rfl (fun _ _ => rfl) rfl rfl ?_
              refine yG.load xik rfl (fun _ _ => rfl) (v := yI (a3)) rfl rfl ?_
              refine yG.load xik rfl (fun _ _ => rfl) (v := yI (1)) rfl rfl ?_
              refine yG.ifz rfl (t := 148) rfl ⟨by omega, by omega⟩ (fun c15 => ?_) (fun c15 => ?_)
              · have c15 : (1 : Int) = 0 := c15
                exfalso; omega
              · have c15 : (1 : Int) ≠ 0 := c15
                refine yG.load xak rfl (fun _ _ => rfl) (v := yR k0) rfl rfl ?_
                refine yG.getS9 A_hq.1 (w_Dispatch_net W H_k0) q_r1 rfl rfl ?_
                refine yG.num (c := 3) rfl (fun _ _ => rfl) (by decide) ?_
                refine yG.load xik rfl (fun _ _ => rfl) (v := yI (a4)) rfl rfl ?_
                refine yG.num (c := 4) rfl (fun _ _ => rfl) (by decide) ?_
                refine yG.invV (rest := [yI (a3)]) A_hq.1 (bOb (d_Net W) H_r1) rfl rfl rfl rfl (c_Net_at_3_4 W (d + 1) A_hq.1 H_r1 (a4) (by omega) (by omega)) (fun rv hp9 q9 => ?_)
                obtain ⟨⟨z16, rfl, l_z16, u_z16, R_z16⟩, e9⟩ := q9
                rw [e9]
                show yG _ _ _ _ _ _ _ _ _ _ (yI z16 :: [yI (a3)]) _
                refine yG.goto rfl (t := 149) rfl ?_
                refine yG.isub rfl ?_
                obtain ⟨z17, e_z17, l_z17, u_z17⟩ := ywI (a3 - z16)
                rw [e_z17]
                refine yG.store1 xik (L' := [(3, yI (z17)), (5, yI (1)), (0, yR k0), (1, yI (p1)), (4, yI (a4))]) rfl (fun _ _ => rfl) rfl rfl ?_
                refine yG.iinc rfl (a := a4) rfl (L' := [(4, yI (a4 + 1)), (3, yI (z17)), (5, yI (1)), (0, yR k0), (1, yI (p1))]) rfl ?_
                refine yG.goto rfl (t := 81) rfl ?_
                exact yG.mono (yG.sub (i_81 (z17) (a4 + 1)  hq A_hq   (by omega) (by omega) (by omega) (by omega) (by omega) (by omega) (by omega) (by omega) (by omega)) (ySub.cons rfl (ySub.cons rfl (ySub.cons rfl (ySub.cons rfl (ySub.nil)))))) (by omega)
      · intro a3 a4 hq A_hq f0 f1 f2 f3 f4 f5 f6 f7 hm
        refine yG.mono (N := 52 * m + 52) ?_ (by omega)
        refine yG.load xik rfl (fun _ _ => rfl) (v := yI (a4)) rfl rfl ?_
        refine yG.load xak rfl (fun _ _ => rfl) (v := yR k0) rfl rfl ?_
        refine yG.getI A_hq.1 (w_Dispatch_parts W H_k0) rfl rfl (fun z1 e_z1 i_z1 l_z1 u_z1 => ?_)
        refine yG.icmp rfl (t := 255) rfl ⟨by omega, by omega⟩ ⟨by omega, by omega⟩ (fun c2 => ?_) (fun c2 => ?_)
        · have c2 : (a4 : Int) ≥ z1 := c2
          refine yG.load xik rfl (fun _ _ => rfl) (v := yI (a3)) rfl rfl ?_
          refine yG.ifz rfl (t := 263) rfl ⟨by omega, by omega⟩ (fun c3 => ?_) (fun c3 => ?_)
          · have c3 : (a3 : Int) ≠ 0 := c3
            refine yG.num (c := 0) rfl (fun _ _ => rfl) (by decide) ?_
            refine yG.ret rfl (fun _ _ => rfl) ?_
            exact (yP.bool (by omega) ⟨⟨0, rfl, by omega, by omega, trivial⟩, A_hq⟩)
          · have c3 : (a3 : Int) = 0 := c3
            refine yG.num (c := 1) rfl (fun _ _ => rfl) (by decide) ?_
            refine yG.goto rfl (t := 264) rfl ?_
            refine yG.ret rfl (fun _ _ => rfl) ?_
            exact (yP.bool (by omega) ⟨⟨1, rfl, by omega, by omega, trivial⟩, A_hq⟩)
        · have c2 : (a4 : Int) < z1 := c2
          refine yG.load xik rfl (fun _ _ => rfl) (v := yI (a3)) rfl rfl ?_
          refine yG.ifz rfl (t := 255) rfl ⟨by omega, by omega⟩ (fun c4 => ?_) (fun c4 => ?_)
          · have c4 : (a3 : Int) < 0 := c4
            refine yG.load xik rfl (fun _ _ => rfl) (v := yI (a3)) rfl rfl ?_
            refine yG.ifz rfl (t := 263) rfl ⟨by omega, by omega⟩ (fun c5 => ?_) (fun c5 => ?_)
            · have c5 : (a3 : Int) ≠ 0 := c5
              refine yG.num (c := 0) rfl (fun _ _ => rfl) (by decide) ?_
              refine yG.ret rfl (fun _ _ => rfl) ?_
              exact (yP.bool (by omega) ⟨⟨0, rfl, by omega, by omega, trivial⟩, A_hq⟩)
            · have c5 : (a3 : Int) = 0 := c5
              exfalso; omega
          · have c4 : (a3 : Int) ≥ 0 := c4
            refine yG.load xak rfl (fun _ _ => rfl) (v := yR k0) rfl rfl ?_
            refine yG.load xik rfl (fun _ _ => rfl) (v := yI (a4)) rfl rfl ?_
            refine yG.invV (rest := []) A_hq.1 (bOb (d_Dispatch W) H_k0) rfl rfl rfl rfl (c_Dispatch_islandOf W d A_hq.1 H_k0 (a4) (by omega) (by omega)) (fun rv hp9 q9 => ?_)
            obtain ⟨⟨z6, rfl, l_z6, u_z6, R_z6⟩, e9⟩ := q9
            rw [e9]
            show yG _ _ _ _ _ _ _ _ _ _ (yI z6 :: []) _
            refine yG.load xik rfl (fun _ _ => rfl) (v := yI (p1)) rfl rfl ?_
            refine yG.icmp rfl (t := 249) rfl ⟨by omega, by omega⟩ ⟨by omega, by omega⟩ (fun c7 => ?_) (fun c7 => ?_)
            · have c7 : (z6 : Int) ≠ p1 := c7
              refine yG.iinc rfl (a := a4) rfl (L' := [(4, yI (a4 + 1)), (0, yR k0), (1, yI (p1)), (3, yI (a3))]) rfl ?_
              refine yG.goto rfl (t := 160) rfl ?_
              exact yG.mono (yG.sub (i_160 (a3) (a4 + 1)  hq A_hq   (by omega) (by omega) (by omega) (by omega) (by omega) (by omega) (by omega) (by omega) (by omega)) (ySub.cons rfl (ySub.cons rfl (ySub.cons rfl (ySub.cons rfl (ySub.nil)))))) (by omega)
            · have c7 : (z6 : Int) = p1 := c7
              refine yG.load xak rfl (fun _ _ => rfl) (v := yR k0) rfl rfl ?_
              refine yG.getO A_hq.1 (w_Dispatch_startOf W H_k0) rfl rfl (fun r8 H_r8 O_r8 q_r8 => ?_)
              refine yG.load xik rfl (fun _ _ => rfl) (v := yI (a4)) rfl rfl ?_
              refine yG.load xak rfl (fun _ _ => rfl) (v := yR k0) rfl rfl ?_
              refine yG.getO A_hq.1 (w_Dispatch_most W H_k0) rfl rfl (fun r9 H_r9 O_r9 q_r9 => ?_)
              refine yG.load xik rfl (fun _ _ => rfl) (v := yI (a4)) rfl rfl ?_
              refine yG.iald A_hq.1 (v_Dispatch_most W H_r9) rfl (by omega) (by omega) (fun z10 e_z10 i_z10 l_z10 u_z10 => ?_)
              refine yG.load xik rfl (fun _ _ => rfl) (v := yI (a3)) rfl rfl ?_
              refine yG.invS (rest := [yI (a4), yR r8]) rfl rfl rfl rfl (c_J9_minI W (d + 1) A_hq.1 (z10) (a3) (by omega) (by omega) (by omega) (by omega)) (fun rv hp9 q9 => ?_)
              obtain ⟨⟨z11, rfl, l_z11, u_z11, R_z11⟩, e9⟩ := q9
              rw [e9]
              show yG _ _ _ _ _ _ _ _ _ _ (yI z11 :: [yI (a4), yR r8]) _
              refine yG.iast A_hq.1 (v_Dispatch_startOf W H_r8) (W.2.1 _ _ H_r8 (by decide) (by decide)) rfl (by omega) (by omega) ⟨by omega, by omega⟩ (by omega) (by omega) (fun h12 T_h12 b_h12 f_h12 y_h12 => ?_)
              have A_h12 := A_hq.put T_h12 b_h12 f_h12 H_r8 (bAll_ok (by decide) _)
              have qq1 : zsl h12 k0 6 = yR r8 := ((f_h12 k0 6).trans (if_neg (fun e => (bRo.ne H_k0 H_r8 (by decide)) e.1))).trans q_r8
              have : ys h12 r8 (a4 : Int).toNat = z11 := (y_h12 r8 _).trans (if_pos ⟨rfl, rfl⟩)
              refine yG.load xik rfl (fun _ _ => rfl) (v := yI (a3)) rfl rfl ?_
              refine yG.load xak rfl (fun _ _ => rfl) (v := yR k0) rfl rfl ?_
              refine yG.getS9 A_h12.1 (w_Dispatch_startOf W H_k0) qq1 rfl rfl ?_
              refine yG.load xik rfl (fun _ _ => rfl) (v := yI (a4)) rfl rfl ?_
              refine yG.iald A_h12.1 (v_Dispatch_startOf W H_r8) rfl (by omega) (by omega) (fun z13 e_z13 i_z13 l_z13 u_z13 => ?_)
              rw [show (z13 : Int) = z11 by omega]
              refine yG.isub rfl ?_
              obtain ⟨z14, e_z14, l_z14, u_z14⟩ := ywI (a3 - z11)
              rw [e_z14]
              refine yG.store1 xik (L' := [(3, yI (z14)), (0, yR k0), (1, yI (p1)), (4, yI (a4))]) rfl (fun _ _ => rfl) rfl rfl ?_
              refine yG.load xak rfl (fun _ _ => rfl) (v := yR k0) rfl rfl ?_
              refine yG.getO A_h12.1 (w_Dispatch_turned W H_k0) rfl rfl (fun r15 H_r15 O_r15 q_r15 => ?_)
              refine yG.load xik rfl (fun _ _ => rfl) (v := yI (a4)) rfl rfl ?_
              refine yG.load xik rfl (fun _ _ => rfl) (v := yI (z14)) rfl rfl ?_
              refine yG.ifz rfl (t := 225) rfl ⟨by omega, by omega⟩ (fun c16 => ?_) (fun c16 => ?_)
              · have c16 : (z14 : Int) ≤ 0 := c16
                refine yG.num (c := 0) rfl (fun _ _ => rfl) (by decide) ?_
                refine yG.bast A_h12.1 (v_Dispatch_turned W H_r15) (W.2.1 _ _ H_r15 (by decide) (by decide)) rfl (by omega) (by omega) ⟨by omega, by omega⟩ (by omega) (by omega) (fun h17 T_h17 b_h17 f_h17 y_h17 => ?_)
                have A_h17 := A_h12.put T_h17 b_h17 f_h17 H_r15 (bAll_ok (by decide) _)
                have qq2 : zsl h17 k0 6 = yR r8 := ((f_h17 k0 6).trans (if_neg (fun e => (bRo.ne H_k0 H_r15 (by decide)) e.1))).trans qq1
                have : ys h17 r8 (a4 : Int).toNat = ys h12 r8 (a4 : Int).toNat := (y_h17 r8 (a4 : Int).toNat).trans (if_neg (fun e => (bRo.ne H_r8 H_r15 (by decide)) e.1))
                refine yG.load xik rfl (fun _ _ => rfl) (v := yI (z14)) rfl rfl ?_
                refine yG.ifz rfl (t := 249) rfl ⟨by omega, by omega⟩ (fun c18 => ?_) (fun c18 => ?_)
                · have c18 : (z14 : Int) ≠ 0 := c18
                  refine yG.iinc rfl (a := a4) rfl (L' := [(4, yI (a4 + 1)), (3, yI (z14)), (0, yR k0), (1, yI (p1))]) rfl ?_
                  refine yG.goto rfl (t := 160) rfl ?_
                  exact yG.mono (yG.sub (i_160 (z14) (a4 + 1)  h17 A_h17   (by omega) (by omega) (by omega) (by omega) (by omega) (by omega) (by omega) (by omega) (by omega)) (ySub.cons rfl (ySub.cons rfl (ySub.cons rfl (ySub.cons rfl (ySub.nil)))))) (by omega)
                · have c18 : (z14 : Int) = 0 := c18
                  refine yG.load xak rfl (fun _ _ => rfl) (v := yR k0) rfl rfl ?_
                  refine yG.getO A_h17.1 (w_Dispatch_keeper W H_k0) rfl rfl (fun r19 H_r19 O_r19 q_r19 => ?_)
                  refine yG.load xik rfl (fun _ _ => rfl) (v := yI (p1)) rfl rfl ?_
                  refine yG.iald A_h17.1 (v_Dispatch_keeper W H_r19) rfl (by omega) (by omega) (fun z20 e_z20 i_z20 l_z20 u_z20 => ?_)
                  refine yG.num (c := -1) rfl (fun _ _ => rfl) (by decide) ?_
                  refine yG.icmp rfl (t := 249) rfl ⟨by omega, by omega⟩ ⟨by omega, by omega⟩ (fun c21 => ?_) (fun c21 => ?_)
                  · have c21 : (z20 : Int) ≠ (-1) := c21
                    refine yG.iinc rfl (a := a4) rfl (L' := [(4, yI (a4 + 1)), (3, yI (z14)), (0, yR k0), (1, yI (p1))]) rfl ?_
                    refine yG.goto rfl (t := 160) rfl ?_
                    exact yG.mono (yG.sub (i_160 (z14) (a4 + 1)  h17 A_h17   (by omega) (by omega) (by omega) (by omega) (by omega) (by omega) (by omega) (by omega) (by omega)) (ySub.cons rfl (ySub.cons rfl (ySub.cons rfl (ySub.cons rfl (ySub.nil)))))) (by omega)
                  · have c21 : (z20 : Int) = (-1) := c21
                    refine yG.load xak rfl (fun _ _ => rfl) (v := yR k0) rfl rfl ?_
                    refine yG.getS9 A_h17.1 (w_Dispatch_keeper W H_k0) q_r19 rfl rfl ?_
                    refine yG.load xik rfl (fun _ _ => rfl) (v := yI (p1)) rfl rfl ?_
                    refine yG.load xik rfl (fun _ _ => rfl) (v := yI (a4)) rfl rfl ?_
                    refine yG.iast A_h17.1 (v_Dispatch_keeper W H_r19) (W.2.1 _ _ H_r19 (by decide) (by decide)) rfl (by omega) (by omega) ⟨by omega, by omega⟩ (by omega) (by omega) (fun h22 T_h22 b_h22 f_h22 y_h22 => ?_)
                    have A_h22 := A_h17.put T_h22 b_h22 f_h22 H_r19 (bAll_ok (by decide) _)
                    have qq3 : zsl h22 k0 6 = yR r8 := ((f_h22 k0 6).trans (if_neg (fun e => (bRo.ne H_k0 H_r19 (by decide)) e.1))).trans qq2
                    have : ys h22 r8 (a4 : Int).toNat = ys h17 r8 (a4 : Int).toNat := (y_h22 r8 (a4 : Int).toNat).trans (if_neg (fun e => (bRo.ne H_r8 H_r19 (by decide)) e.1))
                    have qq4 : zsl h22 k0 9 = yR r19 := ((f_h22 k0 9).trans (if_neg (fun e => (bRo.ne H_k0 H_r19 (by decide)) e.1))).trans q_r19
                    refine yG.iinc rfl (a := a4) rfl (L' := [(4, yI (a4 + 1)), (3, yI (z14)), (0, yR k0), (1, yI (p1))]) rfl ?_
                    refine yG.goto rfl (t := 160) rfl ?_
                    exact yG.mono (yG.sub (i_160 (z14) (a4 + 1)  h22 A_h22   (by omega) (by omega) (by omega) (by omega) (by omega) (by omega) (by omega) (by omega) (by omega)) (ySub.cons rfl (ySub.cons rfl (ySub.cons rfl (ySub.cons rfl (ySub.nil)))))) (by omega)
              · have c16 : (z14 : Int) > 0 := c16
                refine yG.num (c := 1) rfl (fun _ _ => rfl) (by decide) ?_
                refine yG.goto rfl (t := 226) rfl ?_
                refine yG.bast A_h12.1 (v_Dispatch_turned W H_r15) (W.2.1 _ _ H_r15 (by decide) (by decide)) rfl (by omega) (by omega) ⟨by omega, by omega⟩ (by omega) (by omega) (fun h23 T_h23 b_h23 f_h23 y_h23 => ?_)
                have A_h23 := A_h12.put T_h23 b_h23 f_h23 H_r15 (bAll_ok (by decide) _)
                have qq5 : zsl h23 k0 6 = yR r8 := ((f_h23 k0 6).trans (if_neg (fun e => (bRo.ne H_k0 H_r15 (by decide)) e.1))).trans qq1
                have : ys h23 r8 (a4 : Int).toNat = ys h12 r8 (a4 : Int).toNat := (y_h23 r8 (a4 : Int).toNat).trans (if_neg (fun e => (bRo.ne H_r8 H_r15 (by decide)) e.1))
                refine yG.load xik rfl (fun _ _ => rfl) (v := yI (z14)) rfl rfl ?_
                refine yG.ifz rfl (t := 249) rfl ⟨by omega, by omega⟩ (fun c24 => ?_) (fun c24 => ?_)
                · have c24 : (z14 : Int) ≠ 0 := c24
                  refine yG.iinc rfl (a := a4) rfl (L' := [(4, yI (a4 + 1)), (3, yI (z14)), (0, yR k0), (1, yI (p1))]) rfl ?_
                  refine yG.goto rfl (t := 160) rfl ?_
                  exact yG.mono (yG.sub (i_160 (z14) (a4 + 1)  h23 A_h23   (by omega) (by omega) (by omega) (by omega) (by omega) (by omega) (by omega) (by omega) (by omega)) (ySub.cons rfl (ySub.cons rfl (ySub.cons rfl (ySub.cons rfl (ySub.nil)))))) (by omega)
                · have c24 : (z14 : Int) = 0 := c24
                  exfalso; omega
  refine yC.of (M := (xt_X1_shareIn, (6, (4, (2, []))))) rfl rfl (N := 128544) (yfuel (by decide)) ?_
  show yG 89 xfts (xcall 89 xfts xpools xms (d + 2)) (xpool xp_RX1) [] xt_X1_shareIn (yP 4 (bQi G [(6972078301255261708231867629568, 256)] hp 0 1 (fun _ => True))) 128544 0 [(0, yR k0), (1, yI (p1)), (2, yI (p2))] [] hp
  obtain ⟨i_27, i_81, i_160⟩ := H 2471
  refine yG.load xik rfl (fun _ _ => rfl) (v := yI (p2)) rfl rfl ?_
  refine yG.num (c := -1) rfl (fun _ _ => rfl) (by decide) ?_
  refine yG.icmp rfl (t := 22) rfl ⟨by omega, by omega⟩ ⟨by omega, by omega⟩ (fun c1 => ?_) (fun c1 => ?_)
  · have c1 : (p2 : Int) = (-1) := c1
    refine yG.num (c := 0) rfl (fun _ _ => rfl) (by decide) ?_
    refine yG.store1 xik (L' := [(3, yI (0)), (0, yR k0), (1, yI (p1)), (2, yI (p2))]) rfl (fun _ _ => rfl) rfl rfl ?_
    refine yG.num (c := 0) rfl (fun _ _ => rfl) (by decide) ?_
    refine yG.store1 xik (L' := [(4, yI (0)), (3, yI (0)), (0, yR k0), (1, yI (p1)), (2, yI (p2))]) rfl (fun _ _ => rfl) rfl rfl ?_
    exact yG.mono (yG.sub (i_27 (0) (0)  hp A_hp   (by omega) (by omega) (by omega) (by omega) (by omega) (by omega) (by omega) (by omega) (by omega) (by omega)) (ySub.cons rfl (ySub.cons rfl (ySub.cons rfl (ySub.cons rfl (ySub.nil)))))) (by omega)
  · have c1 : (p2 : Int) ≠ (-1) := c1
    refine yG.load xak rfl (fun _ _ => rfl) (v := yR k0) rfl rfl ?_
    refine yG.getO A_hp.1 (w_Dispatch_shape W H_k0) rfl rfl (fun r2 H_r2 O_r2 q_r2 => ?_)
    refine yG.getO A_hp.1 (w_Shape_island W H_r2) rfl rfl (fun r3 H_r3 O_r3 q_r3 => ?_)
    refine yG.load xik rfl (fun _ _ => rfl) (v := yI (p2)) rfl rfl ?_
    refine yG.ialdF A_hp.1 (v_Shape_island W H_r3) rfl rfl (by omega) (by omega) (fun z4 e_z4 i_z4 l_z4 u_z4 => ?_)
    refine yG.load xik rfl (fun _ _ => rfl) (v := yI (p1)) rfl rfl ?_
    refine yG.icmp rfl (t := 22) rfl ⟨by omega, by omega⟩ ⟨by omega, by omega⟩ (fun c5 => ?_) (fun c5 => ?_)
    · have c5 : (z4 : Int) ≠ p1 := c5
      refine yG.num (c := 0) rfl (fun _ _ => rfl) (by decide) ?_
      refine yG.store1 xik (L' := [(3, yI (0)), (0, yR k0), (1, yI (p1)), (2, yI (p2))]) rfl (fun _ _ => rfl) rfl rfl ?_
      refine yG.num (c := 0) rfl (fun _ _ => rfl) (by decide) ?_
      refine yG.store1 xik (L' := [(4, yI (0)), (3, yI (0)), (0, yR k0), (1, yI (p1)), (2, yI (p2))]) rfl (fun _ _ => rfl) rfl rfl ?_
      exact yG.mono (yG.sub (i_27 (0) (0)  hp A_hp   (by omega) (by omega) (by omega) (by omega) (by omega) (by omega) (by omega) (by omega) (by omega) (by omega)) (ySub.cons rfl (ySub.cons rfl (ySub.cons rfl (ySub.cons rfl (ySub.nil)))))) (by omega)
    · have c5 : (z4 : Int) = p1 := c5
      refine yG.num (c := 1) rfl (fun _ _ => rfl) (by decide) ?_
      refine yG.goto rfl (t := 23) rfl ?_
      refine yG.store1 xik (L' := [(3, yI (1)), (0, yR k0), (1, yI (p1)), (2, yI (p2))]) rfl (fun _ _ => rfl) rfl rfl ?_
      refine yG.num (c := 0) rfl (fun _ _ => rfl) (by decide) ?_
      refine yG.store1 xik (L' := [(4, yI (0)), (3, yI (1)), (0, yR k0), (1, yI (p1)), (2, yI (p2))]) rfl (fun _ _ => rfl) rfl rfl ?_
      exact yG.mono (yG.sub (i_27 (1) (0)  hp A_hp   (by omega) (by omega) (by omega) (by omega) (by omega) (by omega) (by omega) (by omega) (by omega) (by omega)) (ySub.cons rfl (ySub.cons rfl (ySub.cons rfl (ySub.cons rfl (ySub.nil)))))) (by omega)
theorem c_Dispatch_share {hp : xH} (W : bW G) (d : Nat) (hT : zTy G hp) {k0 : Nat} (H_k0 : bRo G 96 k0) (p1 : Int) (h1l : (-1) ≤ p1) (h1u : p1 ≤ 15) : yC (xcall 89 xfts xpools xms (d + 4)) 90 [yR k0, yI (p1)] hp (bQi G [(6972078301255261708231867629568, 256)] hp 0 1 (fun _ => True)) := by
  have A_hp : bAx G [(6972078301255261708231867629568, 256)] hp hp := bAx.rf hT
  have H : ∀ m : Nat, (∀ a2 : Int, ∀ hq, bAx G [(6972078301255261708231867629568, 256)] hp hq → 0 ≤ a2 → (-16) ≤ 0 - a2 → (-1) ≤ p1 → (-15) ≤ 0 - p1 → 0 - 2 * a2 + 33 < (m : Int) → yG 89 xfts (xcall 89 xfts xpools xms (d + 3)) (xpool xp_RX1) [] xt_X1_share (yP 4 (bQi G [(6972078301255261708231867629568, 256)] hp 0 1 (fun _ => True))) (30 * m) 2 [(0, yR k0), (1, yI (p1)), (2, yI (a2))] [] hq) := by
    intro m
    induction m with
    | zero =>
      intros; exfalso; omega
    | succ m ih =>
      have i_2 := ih
      clear ih
      intro a2 hq A_hq f0 f1 f2 f3 hm
      refine yG.mono (N := 30 * m + 30) ?_ (by omega)
      refine yG.load xik rfl (fun _ _ => rfl) (v := yI (a2)) rfl rfl ?_
      refine yG.num (c := 16) rfl (fun _ _ => rfl) (by decide) ?_
      refine yG.icmp rfl (t := 57) rfl ⟨by omega, by omega⟩ ⟨by omega, by omega⟩ (fun c1 => ?_) (fun c1 => ?_)
      · have c1 : (a2 : Int) ≥ 16 := c1
        refine yG.num (c := 1) rfl (fun _ _ => rfl) (by decide) ?_
        refine yG.ret rfl (fun _ _ => rfl) ?_
        exact (yP.bool (by omega) ⟨⟨1, rfl, by omega, by omega, trivial⟩, A_hq⟩)
      · have c1 : (a2 : Int) < 16 := c1
        refine yG.load xak rfl (fun _ _ => rfl) (v := yR k0) rfl rfl ?_
        refine yG.getO A_hq.1 (w_Dispatch_keeper W H_k0) rfl rfl (fun r2 H_r2 O_r2 q_r2 => ?_)
        refine yG.load xik rfl (fun _ _ => rfl) (v := yI (a2)) rfl rfl ?_
        refine yG.num (c := -1) rfl (fun _ _ => rfl) (by decide) ?_
        refine yG.iast A_hq.1 (v_Dispatch_keeper W H_r2) (W.2.1 _ _ H_r2 (by decide) (by decide)) rfl (by omega) (by omega) ⟨by omega, by omega⟩ (by omega) (by omega) (fun h3 T_h3 b_h3 f_h3 y_h3 => ?_)
        have A_h3 := A_hq.put T_h3 b_h3 f_h3 H_r2 (bAll_ok (by decide) _)
        refine yG.load xik rfl (fun _ _ => rfl) (v := yI (a2)) rfl rfl ?_
        refine yG.load xak rfl (fun _ _ => rfl) (v := yR k0) rfl rfl ?_
        refine yG.getO A_h3.1 (w_Dispatch_net W H_k0) rfl rfl (fun r4 H_r4 O_r4 q_r4 => ?_)
        refine yG.getO A_h3.1 (w_Net_count W H_r4) rfl rfl (fun r5 H_r5 O_r5 q_r5 => ?_)
        refine yG.num (c := 0) rfl (fun _ _ => rfl) (by decide) ?_
        refine yG.ialdF A_h3.1 (v_Net_count W H_r5) rfl rfl (by omega) (by omega) (fun z6 e_z6 i_z6 l_z6 u_z6 => ?_)
        refine yG.icmp rfl (t := 51) rfl ⟨by omega, by omega⟩ ⟨by omega, by omega⟩ (fun c7 => ?_) (fun c7 => ?_)
        · have c7 : (a2 : Int) ≥ z6 := c7
          refine yG.iinc rfl (a := a2) rfl (L' := [(2, yI (a2 + 1)), (0, yR k0), (1, yI (p1))]) rfl ?_
          refine yG.goto rfl (t := 2) rfl ?_
          exact yG.mono (yG.sub (i_2 (a2 + 1)  h3 A_h3   (by omega) (by omega) (by omega) (by omega) (by omega)) (ySub.cons rfl (ySub.cons rfl (ySub.cons rfl (ySub.nil))))) (by omega)
        · have c7 : (a2 : Int) < z6 := c7
          refine yG.load xak rfl (fun _ _ => rfl) (v := yR k0) rfl rfl ?_
          refine yG.getO A_h3.1 (w_Dispatch_shape W H_k0) rfl rfl (fun r8 H_r8 O_r8 q_r8 => ?_)
          refine yG.getO A_h3.1 (w_Shape_live W H_r8) rfl rfl (fun r9 H_r9 O_r9 q_r9 => ?_)
          refine yG.load xik rfl (fun _ _ => rfl) (v := yI (a2)) rfl rfl ?_
          refine yG.bald A_h3.1 (v_Shape_live W H_r9) rfl (by omega) (by omega) (fun z10 e_z10 i_z10 l_z10 u_z10 => ?_)
          refine yG.ifz rfl (t := 51) rfl ⟨by omega, by omega⟩ (fun c11 => ?_) (fun c11 => ?_)
          · have c11 : (z10 : Int) = 0 := c11
            refine yG.iinc rfl (a := a2) rfl (L' := [(2, yI (a2 + 1)), (0, yR k0), (1, yI (p1))]) rfl ?_
            refine yG.goto rfl (t := 2) rfl ?_
            exact yG.mono (yG.sub (i_2 (a2 + 1)  h3 A_h3   (by omega) (by omega) (by omega) (by omega) (by omega)) (ySub.cons rfl (ySub.cons rfl (ySub.cons rfl (ySub.nil))))) (by omega)
          · have c11 : (z10 : Int) ≠ 0 := c11
            refine yG.load xak rfl (fun _ _ => rfl) (v := yR k0) rfl rfl ?_
            refine yG.load xik rfl (fun _ _ => rfl) (v := yI (a2)) rfl rfl ?_
            refine yG.load xik rfl (fun _ _ => rfl) (v := yI (p1)) rfl rfl ?_
            refine yG.invV (rest := []) A_h3.1 (bOb (d_Dispatch W) H_k0) rfl rfl rfl rfl (c_Dispatch_shareIn W d A_h3.1 H_k0 (a2) (p1) (by omega) (by omega) (by omega) (by omega)) (fun rv h12 q9 => ?_)
            obtain ⟨⟨z13, rfl, l_z13, u_z13, R_z13⟩, B_h12⟩ := q9
            have A_h12 := A_h3.tr B_h12 (by decide)
            show yG _ _ _ _ _ _ _ _ _ _ (yI z13 :: []) _
            refine yG.ifz rfl (t := 51) rfl ⟨by omega, by omega⟩ (fun c14 => ?_) (fun c14 => ?_)
            · have c14 : (z13 : Int) ≠ 0 := c14
              refine yG.iinc rfl (a := a2) rfl (L' := [(2, yI (a2 + 1)), (0, yR k0), (1, yI (p1))]) rfl ?_
              refine yG.goto rfl (t := 2) rfl ?_
              exact yG.mono (yG.sub (i_2 (a2 + 1)  h12 A_h12   (by omega) (by omega) (by omega) (by omega) (by omega)) (ySub.cons rfl (ySub.cons rfl (ySub.cons rfl (ySub.nil))))) (by omega)
            · have c14 : (z13 : Int) = 0 := c14
              refine yG.num (c := 0) rfl (fun _ _ => rfl) (by decide) ?_
              refine yG.ret rfl (fun _ _ => rfl) ?_
              exact (yP.bool (by omega) ⟨⟨0, rfl, by omega, by omega, trivial⟩, A_h12⟩)
  refine yC.of (M := (xt_X1_share, (3, (4, (2, []))))) rfl rfl (N := 1080) (yfuel (by decide)) ?_
  show yG 89 xfts (xcall 89 xfts xpools xms (d + 3)) (xpool xp_RX1) [] xt_X1_share (yP 4 (bQi G [(6972078301255261708231867629568, 256)] hp 0 1 (fun _ => True))) 1080 0 [(0, yR k0), (1, yI (p1))] [] hp
  have i_2 := H 35
  refine yG.num (c := 0) rfl (fun _ _ => rfl) (by decide) ?_
  refine yG.store1 xik (L' := [(2, yI (0)), (0, yR k0), (1, yI (p1))]) rfl (fun _ _ => rfl) rfl rfl ?_
  exact yG.mono (yG.sub (i_2 (0)  hp A_hp   (by omega) (by omega) (by omega) (by omega) (by omega)) (ySub.cons rfl (ySub.cons rfl (ySub.cons rfl (ySub.nil))))) (by omega)
theorem c_Shape_islandOfMachine_x {hp : xH} (W : bW G) (d : Nat) (hT : zTy G hp) {k0 : Nat} (H_k0 : bRo G 51 k0) {n2 : Nat} (H_n2 : bRo G 53 n2) (Q_n2 : zsl hp k0 2 = yR n2) {n3 : Nat} (H_n3 : bRo G 59 n3) (Q_n3 : zsl hp k0 7 = yR n3) (p1 : Int) (h1l : 0 ≤ p1) (h1u : p1 ≤ 5) : yC (xcall 89 xfts xpools xms (d + 1)) 218 [yR k0, yI (p1)] hp (bQpi hp 0 15 (fun z => z = ys hp n2 (ys hp n3 (p1 : Int).toNat).toNat)) := by
  have A_hp : bAx G [] hp hp := bAx.rf hT
  refine yC.of (M := (xt_X8_islandOfMachine, (2, (1, (9, []))))) rfl rfl (N := 30) (yfuel (by decide)) ?_
  show yG 89 xfts (xcall 89 xfts xpools xms d) (xpool xp_RX8) [] xt_X8_islandOfMachine (yP 1 (bQpi hp 0 15 (fun z => z = ys hp n2 (ys hp n3 (p1 : Int).toNat).toNat))) 30 0 [(0, yR k0), (1, yI (p1))] [] hp
  refine yG.load xak rfl (fun _ _ => rfl) (v := yR k0) rfl rfl ?_
  refine yG.getS9 A_hp.1 (w_Shape_island W H_k0) Q_n2 rfl rfl ?_
  refine yG.load xak rfl (fun _ _ => rfl) (v := yR k0) rfl rfl ?_
  refine yG.getS9 A_hp.1 (w_Shape_spot W H_k0) Q_n3 rfl rfl ?_
  refine yG.load xik rfl (fun _ _ => rfl) (v := yI (p1)) rfl rfl ?_
  refine yG.iald A_hp.1 (v_Shape_spot W H_n3) rfl (by omega) (by omega) (fun z1 e_z1 i_z1 l_z1 u_z1 => ?_)
  refine yG.ialdF A_hp.1 (v_Shape_island W H_n2) rfl rfl (by omega) (by omega) (fun z2 e_z2 i_z2 l_z2 u_z2 => ?_)
  refine yG.ret rfl (fun _ _ => rfl) ?_
  exact (yP.int ⟨by omega, by omega⟩ ⟨⟨z2, rfl, by omega, by omega, (by subst_vars; rfl)⟩, rfl⟩)
theorem c_Dispatch_islandOf_x {hp : xH} (W : bW G) (d : Nat) (hT : zTy G hp) {k0 : Nat} (H_k0 : bRo G 96 k0) {n1 : Nat} (H_n1 : bRo G 51 n1) (Q_n1 : zsl hp k0 0 = yR n1) {n2 : Nat} (H_n2 : bRo G 53 n2) (Q_n2 : zsl hp n1 2 = yR n2) {n3 : Nat} (H_n3 : bRo G 59 n3) (Q_n3 : zsl hp n1 7 = yR n3) {n4 : Nat} (H_n4 : bRo G 97 n4) (Q_n4 : zsl hp k0 4 = yR n4) (p1 : Int) (h1l : 0 ≤ p1) (h1u : p1 ≤ 11) : yC (xcall 89 xfts xpools xms (d + 2)) 85 [yR k0, yI (p1)] hp (bQpi hp 0 15 (fun z => z = ys hp n2 (ys hp n3 (ys hp n4 (p1 : Int).toNat).toNat).toNat)) := by
  have A_hp : bAx G [] hp hp := bAx.rf hT
  refine yC.of (M := (xt_X1_islandOf, (2, (1, (2, []))))) rfl rfl (N := 30) (yfuel (by decide)) ?_
  show yG 89 xfts (xcall 89 xfts xpools xms (d + 1)) (xpool xp_RX1) [] xt_X1_islandOf (yP 1 (bQpi hp 0 15 (fun z => z = ys hp n2 (ys hp n3 (ys hp n4 (p1 : Int).toNat).toNat).toNat))) 30 0 [(0, yR k0), (1, yI (p1))] [] hp
  refine yG.load xak rfl (fun _ _ => rfl) (v := yR k0) rfl rfl ?_
  refine yG.getS9 A_hp.1 (w_Dispatch_shape W H_k0) Q_n1 rfl rfl ?_
  refine yG.load xak rfl (fun _ _ => rfl) (v := yR k0) rfl rfl ?_
  refine yG.getS9 A_hp.1 (w_Dispatch_machineOf W H_k0) Q_n4 rfl rfl ?_
  refine yG.load xik rfl (fun _ _ => rfl) (v := yI (p1)) rfl rfl ?_
  refine yG.iald A_hp.1 (v_Dispatch_machineOf W H_n4) rfl (by omega) (by omega) (fun z1 e_z1 i_z1 l_z1 u_z1 => ?_)
  refine yG.invV (rest := []) A_hp.1 (bOb (d_Shape W) H_n1) rfl rfl rfl rfl (c_Shape_islandOfMachine_x W d A_hp.1 H_n1 H_n2 Q_n2 H_n3 Q_n3 (z1) (by omega) (by omega)) (fun rv hp9 q9 => ?_)
  obtain ⟨⟨z2, rfl, l_z2, u_z2, R_z2⟩, e9⟩ := q9
  rw [e9]
  show yG _ _ _ _ _ _ _ _ _ _ (yI z2 :: []) _
  refine yG.ret rfl (fun _ _ => rfl) ?_
  exact (yP.int ⟨by omega, by omega⟩ ⟨⟨z2, rfl, by omega, by omega, R_z2.trans (by subst_vars; rfl)⟩, rfl⟩)
theorem c_Dispatch_setOut {hp : xH} (W : bW G) (d : Nat) (hT : zTy G hp) {k0 : Nat} (H_k0 : bRo G 96 k0) {n1 : Nat} (H_n1 : bRo G 51 n1) (Q_n1 : zsl hp k0 0 = yR n1) {n2 : Nat} (H_n2 : bRo G 53 n2) (Q_n2 : zsl hp n1 2 = yR n2) {n3 : Nat} (H_n3 : bRo G 59 n3) (Q_n3 : zsl hp n1 7 = yR n3) {n4 : Nat} (H_n4 : bRo G 97 n4) (Q_n4 : zsl hp k0 4 = yR n4) {n5 : Nat} (H_n5 : bRo G 102 n5) (Q_n5 : zsl hp k0 9 = yR n5) {n6 : Nat} (H_n6 : bRo G 104 n6) (Q_n6 : zsl hp k0 13 = yR n6) : yC (xcall 89 xfts xpools xms (d + 3)) 89 [yR k0] hp (fun rv hp' => (fun rv hp' => (rv = none ∧ True) ∧ bAx G [(34359738368, 1), (34359738368, 2), (79228162514264337593543950336, 10), (79228162514264337593543950336, 11), (32958915605933964438983002816512, 256)] hp hp') rv hp' ∧ bCv G hp') := by
  have A_hp : bAx G [(34359738368, 1), (34359738368, 2), (79228162514264337593543950336, 10), (79228162514264337593543950336, 11), (32958915605933964438983002816512, 256)] hp hp := bAx.rf hT
  have H : ∀ m : Nat, (∀ a1 : Int, ∀ gg0 : Int, ∀ gg1 : Int, ∀ gg2 : Int, ∀ hq, bAx G [(34359738368, 1), (34359738368, 2), (79228162514264337593543950336, 10), (79228162514264337593543950336, 11), (32958915605933964438983002816512, 256)] hp hq → ys hq k0 10 = gg0 → ys hq k0 11 = gg1 → ys hq k0 3 = gg2 → 0 ≤ a1 → (-12) ≤ 0 - a1 → 0 ≤ gg0 → (-7) ≤ 0 - gg0 → 1 ≤ gg1 → (-13) ≤ 0 - gg1 → 0 ≤ gg2 → (-12) ≤ 0 - gg2 → 0 ≤ a1 - gg0 → (-1) ≤ a1 - gg1 → 0 ≤ 0 - a1 + gg2 → (bPg hp n2 n3 n4 n5 a1 gg0 ∧ (∀ c : Nat, 1 ≤ (c : Int) → (c : Int) < gg1 → ys hq n6 c ≤ 11)) → 0 - 18082 * a1 + 235065 < (m : Int) → yG 89 xfts (xcall 89 xfts xpools xms (d + 2)) (xpool xp_RX1) [] xt_X1_setOut (yP 0 (fun rv hp' => (fun rv hp' => (rv = none ∧ True) ∧ bAx G [(34359738368, 1), (34359738368, 2), (79228162514264337593543950336, 10), (79228162514264337593543950336, 11), (32958915605933964438983002816512, 256)] hp hp') rv hp' ∧ bCv G hp')) (47 * m) 12 [(0, yR k0), (1, yI (a1))] [] hq) ∧ (∀ a1 : Int, ∀ gg0 : Int, ∀ gg1 : Int, ∀ gg2 : Int, ∀ hq, bAx G [(34359738368, 1), (34359738368, 2), (79228162514264337593543950336, 10), (79228162514264337593543950336, 11), (32958915605933964438983002816512, 256)] hp hq → ys hq k0 10 = gg0 → ys hq k0 11 = gg1 → ys hq k0 3 = gg2 → 0 ≤ a1 → (-20) ≤ 0 - a1 → 0 ≤ gg0 → (-26) ≤ 0 - gg0 → 1 ≤ gg1 → (-13) ≤ 0 - gg1 → 0 ≤ gg2 → (-12) ≤ 0 - gg2 → (-6) ≤ a1 - gg0 → (-1) ≤ 0 - gg1 + gg2 → (∀ c : Nat, 1 ≤ (c : Int) → (c : Int) < gg1 → ys hq n6 c ≤ 11) → 0 - 861 * a1 + 18080 < (m : Int) → yG 89 xfts (xcall 89 xfts xpools xms (d + 2)) (xpool xp_RX1) [] xt_X1_setOut (yP 0 (fun rv hp' => (fun rv hp' => (rv = none ∧ True) ∧ bAx G [(34359738368, 1), (34359738368, 2), (79228162514264337593543950336, 10), (79228162514264337593543950336, 11), (32958915605933964438983002816512, 256)] hp hp') rv hp' ∧ bCv G hp')) (47 * m) 85 [(0, yR k0), (1, yI (a1))] [] hq) ∧ (∀ a1 : Int, ∀ gg0 : Int, ∀ gg1 : Int, ∀ gg2 : Int, ∀ hq, bAx G [(34359738368, 1), (34359738368, 2), (79228162514264337593543950336, 10), (79228162514264337593543950336, 11), (32958915605933964438983002816512, 256)] hp hq → ys hq k0 10 = gg0 → ys hq k0 11 = gg1 → ys hq k0 3 = gg2 → 0 ≤ a1 → (-429) ≤ 0 - a1 → 0 ≤ gg0 → (-26) ≤ 0 - gg0 → 1 ≤ gg1 → (-13) ≤ 0 - gg1 → 0 ≤ gg2 → (-12) ≤ 0 - gg2 → (-1) ≤ 0 - gg1 + gg2 → (∀ c : Nat, 1 ≤ (c : Int) → (c : Int) < gg1 → ys hq n6 c ≤ 11) → 0 - 2 * a1 + 859 < (m : Int) → yG 89 xfts (xcall 89 xfts xpools xms (d + 2)) (xpool xp_RX1) [] xt_X1_setOut (yP 0 (fun rv hp' => (fun rv hp' => (rv = none ∧ True) ∧ bAx G [(34359738368, 1), (34359738368, 2), (79228162514264337593543950336, 10), (79228162514264337593543950336, 11), (32958915605933964438983002816512, 256)] hp hp') rv hp' ∧ bCv G hp')) (47 * m) 168 [(0, yR k0), (1, yI (a1))] [] hq) := by
    intro m
    induction m with
    | zero =>
      refine ⟨?_, ?_, ?_⟩ <;> (intros; exfalso; omega)
    | succ m ih =>
      obtain ⟨i_12, i_85, i_168⟩ := ih
      refine ⟨?_, ?_, ?_⟩
      · intro a1 gg0 gg1 gg2 hq A_hq E_0 E_1 E_2 f0 f1 f2 f3 f4 f5 f6 f7 f8 f9 f10 X_12 hm
        refine yG.mono (N := 47 * m + 47) ?_ (by omega)
        obtain ⟨-, -, g_0l, g_0u⟩ := (w_Dispatch_rows W H_k0).int A_hq.1
        obtain ⟨-, -, g_1l, g_1u⟩ := (w_Dispatch_columns W H_k0).int A_hq.1
        obtain ⟨-, -, g_2l, g_2u⟩ := (w_Dispatch_parts W H_k0).int A_hq.1
        replace Q_n1 : zsl hq k0 0 = yR n1 := (A_hq.sl H_k0 (by decide)).trans Q_n1
        replace Q_n2 : zsl hq n1 2 = yR n2 := (A_hq.sl H_n1 (by decide)).trans Q_n2
        replace Q_n3 : zsl hq n1 7 = yR n3 := (A_hq.sl H_n1 (by decide)).trans Q_n3
        replace Q_n4 : zsl hq k0 4 = yR n4 := (A_hq.sl H_k0 (by decide)).trans Q_n4
        replace Q_n5 : zsl hq k0 9 = yR n5 := (A_hq.sl H_k0 (by decide)).trans Q_n5
        replace Q_n6 : zsl hq k0 13 = yR n6 := (A_hq.sl H_k0 (by decide)).trans Q_n6
        have Z_12 := X_12.1.le
        refine yG.load xik rfl (fun _ _ => rfl) (v := yI (a1)) rfl rfl ?_
        refine yG.load xak rfl (fun _ _ => rfl) (v := yR k0) rfl rfl ?_
        refine yG.getI A_hq.1 (w_Dispatch_parts W H_k0) rfl rfl (fun z1 e_z1 i_z1 l_z1 u_z1 => ?_)
        rw [show (z1 : Int) = gg2 by omega]
        refine yG.icmp rfl (t := 83) rfl ⟨by omega, by omega⟩ ⟨by omega, by omega⟩ (fun c2 => ?_) (fun c2 => ?_)
        · have c2 : (a1 : Int) ≥ gg2 := c2
          refine yG.num (c := 0) rfl (fun _ _ => rfl) (by decide) ?_
          refine yG.store1 xik (L' := [(1, yI (0)), (0, yR k0)]) rfl (fun _ _ => rfl) rfl rfl ?_
          have qq1 : ∀ c, ys hq n6 c = ys hq n6 c := fun c => rfl
          exact yG.mono (yG.sub (i_85 (0) (ys hq k0 10) (ys hq k0 11) (ys hq k0 3) hq A_hq  rfl rfl rfl (by omega) (by omega) (by omega) (by omega) (by omega) (by omega) (by omega) (by omega) (by omega) (by omega) (fun c g1 g2 => by rw [qq1]; exact X_12.2 c g1 (by omega)) (by omega)) (ySub.cons rfl (ySub.cons rfl (ySub.nil)))) (by omega)
        · have c2 : (a1 : Int) < gg2 := c2
          refine yG.load xak rfl (fun _ _ => rfl) (v := yR k0) rfl rfl ?_
          refine yG.getS9 A_hq.1 (w_Dispatch_keeper W H_k0) Q_n5 rfl rfl ?_
          refine yG.load xak rfl (fun _ _ => rfl) (v := yR k0) rfl rfl ?_
          refine yG.load xik rfl (fun _ _ => rfl) (v := yI (a1)) rfl rfl ?_
          refine yG.invV (rest := [yR n5]) A_hq.1 (bOb (d_Dispatch W) H_k0) rfl rfl rfl rfl (c_Dispatch_islandOf_x W d A_hq.1 H_k0 H_n1 Q_n1 H_n2 Q_n2 H_n3 Q_n3 H_n4 Q_n4 (a1) (by omega) (by omega)) (fun rv hp9 q9 => ?_)
          obtain ⟨⟨z3, rfl, l_z3, u_z3, R_z3⟩, e9⟩ := q9
          rw [e9]
          show yG _ _ _ _ _ _ _ _ _ _ (yI z3 :: [yR n5]) _
          refine yG.iald A_hq.1 (v_Dispatch_keeper W H_n5) rfl (by omega) (by omega) (fun z4 e_z4 i_z4 l_z4 u_z4 => ?_)
          refine yG.load xik rfl (fun _ _ => rfl) (v := yI (a1)) rfl rfl ?_
          refine yG.icmp rfl (t := 57) rfl ⟨by omega, by omega⟩ ⟨by omega, by omega⟩ (fun c5 => ?_) (fun c5 => ?_)
          · have c5 : (z4 : Int) ≠ a1 := c5
            refine yG.load xak rfl (fun _ _ => rfl) (v := yR k0) rfl rfl ?_
            refine yG.getS9 A_hq.1 (w_Dispatch_columnVariable W H_k0) Q_n6 rfl rfl ?_
            refine yG.load xak rfl (fun _ _ => rfl) (v := yR k0) rfl rfl ?_
            refine yG.getI A_hq.1 (w_Dispatch_columns W H_k0) rfl rfl (fun z6 e_z6 i_z6 l_z6 u_z6 => ?_)
            rw [show (z6 : Int) = gg1 by omega]
            refine yG.load xik rfl (fun _ _ => rfl) (v := yI (a1)) rfl rfl ?_
            refine yG.iast A_hq.1 (v_Dispatch_columnVariable W H_n6) (W.2.1 _ _ H_n6 (by decide) (by decide)) rfl (by omega) (by omega) ⟨by omega, by omega⟩ (by omega) (by omega) (fun h7 T_h7 b_h7 f_h7 y_h7 => ?_)
            have A_h7 := A_hq.put T_h7 b_h7 f_h7 H_n6 (bAll_ok (by decide) _)
            have : ys h7 k0 10 = ys hq k0 10 := (y_h7 k0 10).trans (if_neg (fun e => (bRo.ne H_k0 H_n6 (by decide)) e.1))
            have : ys h7 k0 11 = ys hq k0 11 := (y_h7 k0 11).trans (if_neg (fun e => (bRo.ne H_k0 H_n6 (by decide)) e.1))
            have : ys h7 k0 3 = ys hq k0 3 := (y_h7 k0 3).trans (if_neg (fun e => (bRo.ne H_k0 H_n6 (by decide)) e.1))
            have qq2 : zsl h7 k0 0 = yR n1 := ((f_h7 k0 0).trans (if_neg (fun e => (bRo.ne H_k0 H_n6 (by decide)) e.1))).trans Q_n1
            have qq3 : zsl h7 n1 2 = yR n2 := ((f_h7 n1 2).trans (if_neg (fun e => (bRo.ne H_n1 H_n6 (by decide)) e.1))).trans Q_n2
            have qq4 : zsl h7 n1 7 = yR n3 := ((f_h7 n1 7).trans (if_neg (fun e => (bRo.ne H_n1 H_n6 (by decide)) e.1))).trans Q_n3
            have qq5 : zsl h7 k0 4 = yR n4 := ((f_h7 k0 4).trans (if_neg (fun e => (bRo.ne H_k0 H_n6 (by decide)) e.1))).trans Q_n4
            have qq6 : zsl h7 k0 9 = yR n5 := ((f_h7 k0 9).trans (if_neg (fun e => (bRo.ne H_k0 H_n6 (by decide)) e.1))).trans Q_n5
            have qq7 : zsl h7 k0 13 = yR n6 := ((f_h7 k0 13).trans (if_neg (fun e => (bRo.ne H_k0 H_n6 (by decide)) e.1))).trans Q_n6
            refine yG.load xak rfl (fun _ _ => rfl) (v := yR k0) rfl rfl ?_
            refine yG.step (pc' := 69) (stk' := [yR k0, yR k0]) rfl (fun _ _ => rfl) ?_
            refine yG.getI A_h7.1 (w_Dispatch_columns W H_k0) rfl rfl (fun z8 e_z8 i_z8 l_z8 u_z8 => ?_)
            rw [show (z8 : Int) = gg1 by omega]
            refine yG.num (c := 1) rfl (fun _ _ => rfl) (by decide) ?_
            refine yG.iadd rfl ?_
            refine yG.putI A_h7.1 (w_Dispatch_columns W H_k0) (W.2.1 _ _ H_k0 (by decide) (by decide)) rfl rfl (.inl rfl) ⟨by omega, by omega⟩ (by omega) (by omega) (fun h9 T_h9 b_h9 f_h9 y_h9 => ?_)
            have A_h9 := A_h7.put T_h9 b_h9 f_h9 H_k0 (by decide)
            have : ys h9 k0 10 = ys h7 k0 10 := (y_h9 k0 10).trans (if_neg (fun e => absurd e.2 (by decide)))
            have : ys h9 k0 3 = ys h7 k0 3 := (y_h9 k0 3).trans (if_neg (fun e => absurd e.2 (by decide)))
            have qq8 : zsl h9 k0 0 = yR n1 := ((f_h9 k0 0).trans (if_neg (fun e => absurd e.2 (by decide)))).trans qq2
            have qq9 : zsl h9 n1 2 = yR n2 := ((f_h9 n1 2).trans (if_neg (fun e => (bRo.ne H_n1 H_k0 (by decide)) e.1))).trans qq3
            have qq10 : zsl h9 n1 7 = yR n3 := ((f_h9 n1 7).trans (if_neg (fun e => (bRo.ne H_n1 H_k0 (by decide)) e.1))).trans qq4
            have qq11 : zsl h9 k0 4 = yR n4 := ((f_h9 k0 4).trans (if_neg (fun e => absurd e.2 (by decide)))).trans qq5
            have qq12 : zsl h9 k0 9 = yR n5 := ((f_h9 k0 9).trans (if_neg (fun e => absurd e.2 (by decide)))).trans qq6
            have qq13 : zsl h9 k0 13 = yR n6 := ((f_h9 k0 13).trans (if_neg (fun e => absurd e.2 (by decide)))).trans qq7
            have : ys h9 k0 11 = gg1 + 1 := (y_h9 k0 11).trans (if_pos ⟨rfl, rfl⟩)
            refine yG.iinc rfl (a := a1) rfl (L' := [(1, yI (a1 + 1)), (0, yR k0)]) rfl ?_
            refine yG.goto rfl (t := 12) rfl ?_
            have qq14 := (X_12.1).skip
            have x9 : ∀ c : Nat, 1 ≤ (c : Int) → (c : Int) < ys h9 k0 11 → ys h9 n6 c ≤ 11 := fun c g1 g2 => by
              rw [y_h9 n6 c, if_neg (fun z => bRo.ne H_n6 H_k0 (by decide) z.1)]
              rw [y_h7 n6 c]
              by_cases e : n6 = n6 ∧ c = (gg1 : Int).toNat
              · rw [if_pos e]; omega
              · rw [if_neg e]
                exact X_12.2 c g1 (by omega)
            exact yG.mono (yG.sub (i_12 (a1 + 1) (ys h9 k0 10) (ys h9 k0 11) (ys h9 k0 3) h9 A_h9  rfl rfl rfl (by omega) (by omega) (by omega) (by omega) (by omega) (by omega) (by omega) (by omega) (by omega) (by omega) (by omega) ⟨by first | exact qq14 | (rw [show (ys h9 k0 10 : Int) = gg0 by omega]; exact qq14) | (rw [show (ys h9 k0 10 : Int) = gg0 + 1 by omega]; exact qq14), x9⟩ (by omega)) (ySub.cons rfl (ySub.cons rfl (ySub.nil)))) (by omega)
          · have c5 : (z4 : Int) = a1 := c5
            refine yG.load xak rfl (fun _ _ => rfl) (v := yR k0) rfl rfl ?_
            refine yG.getO A_hq.1 (w_Dispatch_rowVariable W H_k0) rfl rfl (fun r10 H_r10 O_r10 q_r10 => ?_)
            refine yG.load xak rfl (fun _ _ => rfl) (v := yR k0) rfl rfl ?_
            refine yG.getI A_hq.1 (w_Dispatch_rows W H_k0) rfl rfl (fun z11 e_z11 i_z11 l_z11 u_z11 => ?_)
            rw [show (z11 : Int) = gg0 by omega]
            refine yG.load xik rfl (fun _ _ => rfl) (v := yI (a1)) rfl rfl ?_
            refine yG.iast A_hq.1 (v_Dispatch_rowVariable W H_r10) (W.2.1 _ _ H_r10 (by decide) (by decide)) rfl (by omega) (by omega) ⟨by omega, by omega⟩ (by omega) (by omega) (fun h12 T_h12 b_h12 f_h12 y_h12 => ?_)
            have A_h12 := A_hq.put T_h12 b_h12 f_h12 H_r10 (bAll_ok (by decide) _)
            have : ys h12 k0 10 = ys hq k0 10 := (y_h12 k0 10).trans (if_neg (fun e => (bRo.ne H_k0 H_r10 (by decide)) e.1))
            have : ys h12 k0 11 = ys hq k0 11 := (y_h12 k0 11).trans (if_neg (fun e => (bRo.ne H_k0 H_r10 (by decide)) e.1))
            have : ys h12 k0 3 = ys hq k0 3 := (y_h12 k0 3).trans (if_neg (fun e => (bRo.ne H_k0 H_r10 (by decide)) e.1))
            have qq15 : zsl h12 k0 0 = yR n1 := ((f_h12 k0 0).trans (if_neg (fun e => (bRo.ne H_k0 H_r10 (by decide)) e.1))).trans Q_n1
            have qq16 : zsl h12 n1 2 = yR n2 := ((f_h12 n1 2).trans (if_neg (fun e => (bRo.ne H_n1 H_r10 (by decide)) e.1))).trans Q_n2
            have qq17 : zsl h12 n1 7 = yR n3 := ((f_h12 n1 7).trans (if_neg (fun e => (bRo.ne H_n1 H_r10 (by decide)) e.1))).trans Q_n3
            have qq18 : zsl h12 k0 4 = yR n4 := ((f_h12 k0 4).trans (if_neg (fun e => (bRo.ne H_k0 H_r10 (by decide)) e.1))).trans Q_n4
            have qq19 : zsl h12 k0 9 = yR n5 := ((f_h12 k0 9).trans (if_neg (fun e => (bRo.ne H_k0 H_r10 (by decide)) e.1))).trans Q_n5
            have qq20 : zsl h12 k0 13 = yR n6 := ((f_h12 k0 13).trans (if_neg (fun e => (bRo.ne H_k0 H_r10 (by decide)) e.1))).trans Q_n6
            refine yG.load xak rfl (fun _ _ => rfl) (v := yR k0) rfl rfl ?_
            refine yG.step (pc' := 46) (stk' := [yR k0, yR k0]) rfl (fun _ _ => rfl) ?_
            refine yG.getI A_h12.1 (w_Dispatch_rows W H_k0) rfl rfl (fun z13 e_z13 i_z13 l_z13 u_z13 => ?_)
            rw [show (z13 : Int) = gg0 by omega]
            refine yG.num (c := 1) rfl (fun _ _ => rfl) (by decide) ?_
            refine yG.iadd rfl ?_
            refine yG.putI A_h12.1 (w_Dispatch_rows W H_k0) (W.2.1 _ _ H_k0 (by decide) (by decide)) rfl rfl (.inl rfl) ⟨by omega, by omega⟩ (by omega) (by omega) (fun h14 T_h14 b_h14 f_h14 y_h14 => ?_)
            have A_h14 := A_h12.put T_h14 b_h14 f_h14 H_k0 (by decide)
            have : ys h14 k0 11 = ys h12 k0 11 := (y_h14 k0 11).trans (if_neg (fun e => absurd e.2 (by decide)))
            have : ys h14 k0 3 = ys h12 k0 3 := (y_h14 k0 3).trans (if_neg (fun e => absurd e.2 (by decide)))
            have qq21 : zsl h14 k0 0 = yR n1 := ((f_h14 k0 0).trans (if_neg (fun e => absurd e.2 (by decide)))).trans qq15
            have qq22 : zsl h14 n1 2 = yR n2 := ((f_h14 n1 2).trans (if_neg (fun e => (bRo.ne H_n1 H_k0 (by decide)) e.1))).trans qq16
            have qq23 : zsl h14 n1 7 = yR n3 := ((f_h14 n1 7).trans (if_neg (fun e => (bRo.ne H_n1 H_k0 (by decide)) e.1))).trans qq17
            have qq24 : zsl h14 k0 4 = yR n4 := ((f_h14 k0 4).trans (if_neg (fun e => absurd e.2 (by decide)))).trans qq18
            have qq25 : zsl h14 k0 9 = yR n5 := ((f_h14 k0 9).trans (if_neg (fun e => absurd e.2 (by decide)))).trans qq19
            have qq26 : zsl h14 k0 13 = yR n6 := ((f_h14 k0 13).trans (if_neg (fun e => absurd e.2 (by decide)))).trans qq20
            have : ys h14 k0 10 = gg0 + 1 := (y_h14 k0 10).trans (if_pos ⟨rfl, rfl⟩)
            refine yG.goto rfl (t := 77) rfl ?_
            refine yG.iinc rfl (a := a1) rfl (L' := [(1, yI (a1 + 1)), (0, yR k0)]) rfl ?_
            refine yG.goto rfl (t := 12) rfl ?_
            have t_n2 : ∀ j, ys hq n2 j = ys hp n2 j := fun j => A_hq.ys H_n2 (bNo_ok (by decide) j)
            have t_n3 : ∀ j, ys hq n3 j = ys hp n3 j := fun j => A_hq.ys H_n3 (bNo_ok (by decide) j)
            have t_n4 : ∀ j, ys hq n4 j = ys hp n4 j := fun j => A_hq.ys H_n4 (bNo_ok (by decide) j)
            have t_n5 : ∀ j, ys hq n5 j = ys hp n5 j := fun j => A_hq.ys H_n5 (bNo_ok (by decide) j)
            obtain ⟨-, -, m0, m1⟩ := (v_Dispatch_machineOf W H_n4).int A_hq.1 (j := (a1 : Int).toNat) (by omega)
            have hk : ys hq n5 (z3 : Int).toNat = a1 := by omega
            rw [R_z3, t_n5, t_n2, t_n3] at hk
            have qq27 := (X_12.1).take (m := ys hq n4 (a1 : Int).toNat) (by omega) m0 m1 (t_n4 _).symm hk
            have qq28 : ∀ c, ys h14 n6 c = ys hq n6 c := fun c => ((y_h14 n6 c).trans (if_neg (fun z => bRo.ne H_n6 H_k0 (by decide) z.1))).trans ((y_h12 n6 c).trans (if_neg (fun z => bRo.ne H_n6 H_r10 (by decide) z.1)))
            have x9 : ∀ c : Nat, 1 ≤ (c : Int) → (c : Int) < ys h14 k0 11 → ys h14 n6 c ≤ 11 := fun c g1 g2 => by rw [qq28]; exact X_12.2 c g1 (by omega)
            exact yG.mono (yG.sub (i_12 (a1 + 1) (ys h14 k0 10) (ys h14 k0 11) (ys h14 k0 3) h14 A_h14  rfl rfl rfl (by omega) (by omega) (by omega) (by omega) (by omega) (by omega) (by omega) (by omega) (by omega) (by omega) (by omega) ⟨by first | exact qq27 | (rw [show (ys h14 k0 10 : Int) = gg0 by omega]; exact qq27) | (rw [show (ys h14 k0 10 : Int) = gg0 + 1 by omega]; exact qq27), x9⟩ (by omega)) (ySub.cons rfl (ySub.cons rfl (ySub.nil)))) (by omega)
      · intro a1 gg0 gg1 gg2 hq A_hq E_0 E_1 E_2 f0 f1 f2 f3 f4 f5 f6 f7 f8 f9 X_85 hm
        refine yG.mono (N := 47 * m + 47) ?_ (by omega)
        obtain ⟨-, -, g_0l, g_0u⟩ := (w_Dispatch_rows W H_k0).int A_hq.1
        obtain ⟨-, -, g_1l, g_1u⟩ := (w_Dispatch_columns W H_k0).int A_hq.1
        obtain ⟨-, -, g_2l, g_2u⟩ := (w_Dispatch_parts W H_k0).int A_hq.1
        replace Q_n1 : zsl hq k0 0 = yR n1 := (A_hq.sl H_k0 (by decide)).trans Q_n1
        replace Q_n2 : zsl hq n1 2 = yR n2 := (A_hq.sl H_n1 (by decide)).trans Q_n2
        replace Q_n3 : zsl hq n1 7 = yR n3 := (A_hq.sl H_n1 (by decide)).trans Q_n3
        replace Q_n4 : zsl hq k0 4 = yR n4 := (A_hq.sl H_k0 (by decide)).trans Q_n4
        replace Q_n5 : zsl hq k0 9 = yR n5 := (A_hq.sl H_k0 (by decide)).trans Q_n5
        replace Q_n6 : zsl hq k0 13 = yR n6 := (A_hq.sl H_k0 (by decide)).trans Q_n6
        refine yG.load xik rfl (fun _ _ => rfl) (v := yI (a1)) rfl rfl ?_
        refine yG.load xak rfl (fun _ _ => rfl) (v := yR k0) rfl rfl ?_
        refine yG.getO A_hq.1 (w_Dispatch_net W H_k0) rfl rfl (fun r1 H_r1 O_r1 q_r1 => ?_)
        refine yG.getO A_hq.1 (w_Net_count W H_r1) rfl rfl (fun r2 H_r2 O_r2 q_r2 => ?_)
        refine yG.num (c := 2) rfl (fun _ _ => rfl) (by decide) ?_
        refine yG.ialdF A_hq.1 (v_Net_count W H_r2) rfl rfl (by omega) (by omega) (fun z3 e_z3 i_z3 l_z3 u_z3 => ?_)
        refine yG.icmp rfl (t := 166) rfl ⟨by omega, by omega⟩ ⟨by omega, by omega⟩ (fun c4 => ?_) (fun c4 => ?_)
        · have c4 : (a1 : Int) ≥ z3 := c4
          refine yG.num (c := 0) rfl (fun _ _ => rfl) (by decide) ?_
          refine yG.store1 xik (L' := [(1, yI (0)), (0, yR k0)]) rfl (fun _ _ => rfl) rfl rfl ?_
          have qq1 : ∀ c, ys hq n6 c = ys hq n6 c := fun c => rfl
          exact yG.mono (yG.sub (i_168 (0) (ys hq k0 10) (ys hq k0 11) (ys hq k0 3) hq A_hq  rfl rfl rfl (by omega) (by omega) (by omega) (by omega) (by omega) (by omega) (by omega) (by omega) (by omega) (fun c g1 g2 => by rw [qq1]; exact X_85 c g1 (by omega)) (by omega)) (ySub.cons rfl (ySub.cons rfl (ySub.nil)))) (by omega)
        · have c4 : (a1 : Int) < z3 := c4
          refine yG.load xak rfl (fun _ _ => rfl) (v := yR k0) rfl rfl ?_
          refine yG.getS9 A_hq.1 (w_Dispatch_shape W H_k0) Q_n1 rfl rfl ?_
          refine yG.load xik rfl (fun _ _ => rfl) (v := yI (a1)) rfl rfl ?_
          refine yG.load xak rfl (fun _ _ => rfl) (v := yR k0) rfl rfl ?_
          refine yG.getS9 A_hq.1 (w_Dispatch_shape W H_k0) Q_n1 rfl rfl ?_
          refine yG.getO A_hq.1 (w_Shape_live W H_n1) rfl rfl (fun r5 H_r5 O_r5 q_r5 => ?_)
          refine yG.invV (rest := []) A_hq.1 (bOb (d_Shape W) H_n1) rfl rfl rfl rfl (c_Shape_isLineIn_3 W (d + 1) A_hq.1 H_n1 H_r5 (a1) (by omega) (by omega)) (fun rv hp9 q9 => ?_)
          obtain ⟨⟨z6, rfl, l_z6, u_z6, R_z6⟩, e9⟩ := q9
          rw [e9]
          show yG _ _ _ _ _ _ _ _ _ _ (yI z6 :: []) _
          refine yG.ifz rfl (t := 160) rfl ⟨by omega, by omega⟩ (fun c7 => ?_) (fun c7 => ?_)
          · have c7 : (z6 : Int) = 0 := c7
            refine yG.iinc rfl (a := a1) rfl (L' := [(1, yI (a1 + 1)), (0, yR k0)]) rfl ?_
            refine yG.goto rfl (t := 85) rfl ?_
            have qq2 : ∀ c, ys hq n6 c = ys hq n6 c := fun c => rfl
            exact yG.mono (yG.sub (i_85 (a1 + 1) (ys hq k0 10) (ys hq k0 11) (ys hq k0 3) hq A_hq  rfl rfl rfl (by omega) (by omega) (by omega) (by omega) (by omega) (by omega) (by omega) (by omega) (by omega) (by omega) (fun c g1 g2 => by rw [qq2]; exact X_85 c g1 (by omega)) (by omega)) (ySub.cons rfl (ySub.cons rfl (ySub.nil)))) (by omega)
          · have c7 : (z6 : Int) ≠ 0 := c7
            refine yG.load xak rfl (fun _ _ => rfl) (v := yR k0) rfl rfl ?_
            refine yG.getO A_hq.1 (w_Dispatch_rowVariable W H_k0) rfl rfl (fun r8 H_r8 O_r8 q_r8 => ?_)
            refine yG.load xak rfl (fun _ _ => rfl) (v := yR k0) rfl rfl ?_
            refine yG.getI A_hq.1 (w_Dispatch_rows W H_k0) rfl rfl (fun z9 e_z9 i_z9 l_z9 u_z9 => ?_)
            rw [show (z9 : Int) = gg0 by omega]
            refine yG.num (c := 12) rfl (fun _ _ => rfl) (by decide) ?_
            refine yG.load xik rfl (fun _ _ => rfl) (v := yI (a1)) rfl rfl ?_
            refine yG.iadd rfl ?_
            refine yG.iast A_hq.1 (v_Dispatch_rowVariable W H_r8) (W.2.1 _ _ H_r8 (by decide) (by decide)) rfl (by omega) (by omega) ⟨by omega, by omega⟩ (by omega) (by omega) (fun h10 T_h10 b_h10 f_h10 y_h10 => ?_)
            have A_h10 := A_hq.put T_h10 b_h10 f_h10 H_r8 (bAll_ok (by decide) _)
            have : ys h10 k0 10 = ys hq k0 10 := (y_h10 k0 10).trans (if_neg (fun e => (bRo.ne H_k0 H_r8 (by decide)) e.1))
            have : ys h10 k0 11 = ys hq k0 11 := (y_h10 k0 11).trans (if_neg (fun e => (bRo.ne H_k0 H_r8 (by decide)) e.1))
            have : ys h10 k0 3 = ys hq k0 3 := (y_h10 k0 3).trans (if_neg (fun e => (bRo.ne H_k0 H_r8 (by decide)) e.1))
            have qq3 : zsl h10 k0 0 = yR n1 := ((f_h10 k0 0).trans (if_neg (fun e => (bRo.ne H_k0 H_r8 (by decide)) e.1))).trans Q_n1
            have qq4 : zsl h10 n1 2 = yR n2 := ((f_h10 n1 2).trans (if_neg (fun e => (bRo.ne H_n1 H_r8 (by decide)) e.1))).trans Q_n2
            have qq5 : zsl h10 n1 7 = yR n3 := ((f_h10 n1 7).trans (if_neg (fun e => (bRo.ne H_n1 H_r8 (by decide)) e.1))).trans Q_n3
            have qq6 : zsl h10 k0 4 = yR n4 := ((f_h10 k0 4).trans (if_neg (fun e => (bRo.ne H_k0 H_r8 (by decide)) e.1))).trans Q_n4
            have qq7 : zsl h10 k0 9 = yR n5 := ((f_h10 k0 9).trans (if_neg (fun e => (bRo.ne H_k0 H_r8 (by decide)) e.1))).trans Q_n5
            have qq8 : zsl h10 k0 13 = yR n6 := ((f_h10 k0 13).trans (if_neg (fun e => (bRo.ne H_k0 H_r8 (by decide)) e.1))).trans Q_n6
            have qq9 : zsl h10 k0 1 = yR r1 := ((f_h10 k0 1).trans (if_neg (fun e => (bRo.ne H_k0 H_r8 (by decide)) e.1))).trans q_r1
            refine yG.load xak rfl (fun _ _ => rfl) (v := yR k0) rfl rfl ?_
            refine yG.getO A_h10.1 (w_Dispatch_most W H_k0) rfl rfl (fun r11 H_r11 O_r11 q_r11 => ?_)
            refine yG.num (c := 12) rfl (fun _ _ => rfl) (by decide) ?_
            refine yG.load xik rfl (fun _ _ => rfl) (v := yI (a1)) rfl rfl ?_
            refine yG.iadd rfl ?_
            refine yG.num (c := 2) rfl (fun _ _ => rfl) (by decide) ?_
            refine yG.load xak rfl (fun _ _ => rfl) (v := yR k0) rfl rfl ?_
            refine yG.getS9 A_h10.1 (w_Dispatch_net W H_k0) qq9 rfl rfl ?_
            refine yG.num (c := 2) rfl (fun _ _ => rfl) (by decide) ?_
            refine yG.load xik rfl (fun _ _ => rfl) (v := yI (a1)) rfl rfl ?_
            refine yG.num (c := 3) rfl (fun _ _ => rfl) (by decide) ?_
            refine yG.invV (rest := [yI (2), yI (12 + a1), yR r11]) A_h10.1 (bOb (d_Net W) H_r1) rfl rfl rfl rfl (c_Net_at_2_3 W (d + 1) A_h10.1 H_r1 (a1) (by omega) (by omega)) (fun rv hp9 q9 => ?_)
            obtain ⟨⟨z12, rfl, l_z12, u_z12, R_z12⟩, e9⟩ := q9
            rw [e9]
            show yG _ _ _ _ _ _ _ _ _ _ (yI z12 :: [yI (2), yI (12 + a1), yR r11]) _
            refine yG.imul rfl ?_
            refine yG.iast A_h10.1 (v_Dispatch_most W H_r11) (W.2.1 _ _ H_r11 (by decide) (by decide)) rfl (by omega) (by omega) ⟨by omega, by omega⟩ (by omega) (by omega) (fun h13 T_h13 b_h13 f_h13 y_h13 => ?_)
            have A_h13 := A_h10.put T_h13 b_h13 f_h13 H_r11 (bAll_ok (by decide) _)
            have : ys h13 k0 10 = ys h10 k0 10 := (y_h13 k0 10).trans (if_neg (fun e => (bRo.ne H_k0 H_r11 (by decide)) e.1))
            have : ys h13 k0 11 = ys h10 k0 11 := (y_h13 k0 11).trans (if_neg (fun e => (bRo.ne H_k0 H_r11 (by decide)) e.1))
            have : ys h13 k0 3 = ys h10 k0 3 := (y_h13 k0 3).trans (if_neg (fun e => (bRo.ne H_k0 H_r11 (by decide)) e.1))
            have qq10 : zsl h13 k0 0 = yR n1 := ((f_h13 k0 0).trans (if_neg (fun e => (bRo.ne H_k0 H_r11 (by decide)) e.1))).trans qq3
            have qq11 : zsl h13 n1 2 = yR n2 := ((f_h13 n1 2).trans (if_neg (fun e => (bRo.ne H_n1 H_r11 (by decide)) e.1))).trans qq4
            have qq12 : zsl h13 n1 7 = yR n3 := ((f_h13 n1 7).trans (if_neg (fun e => (bRo.ne H_n1 H_r11 (by decide)) e.1))).trans qq5
            have qq13 : zsl h13 k0 4 = yR n4 := ((f_h13 k0 4).trans (if_neg (fun e => (bRo.ne H_k0 H_r11 (by decide)) e.1))).trans qq6
            have qq14 : zsl h13 k0 9 = yR n5 := ((f_h13 k0 9).trans (if_neg (fun e => (bRo.ne H_k0 H_r11 (by decide)) e.1))).trans qq7
            have qq15 : zsl h13 k0 13 = yR n6 := ((f_h13 k0 13).trans (if_neg (fun e => (bRo.ne H_k0 H_r11 (by decide)) e.1))).trans qq8
            have qq16 : zsl h13 k0 1 = yR r1 := ((f_h13 k0 1).trans (if_neg (fun e => (bRo.ne H_k0 H_r11 (by decide)) e.1))).trans qq9
            refine yG.load xak rfl (fun _ _ => rfl) (v := yR k0) rfl rfl ?_
            refine yG.step (pc' := 152) (stk' := [yR k0, yR k0]) rfl (fun _ _ => rfl) ?_
            refine yG.getI A_h13.1 (w_Dispatch_rows W H_k0) rfl rfl (fun z14 e_z14 i_z14 l_z14 u_z14 => ?_)
            rw [show (z14 : Int) = gg0 by omega]
            refine yG.num (c := 1) rfl (fun _ _ => rfl) (by decide) ?_
            refine yG.iadd rfl ?_
            refine yG.putI A_h13.1 (w_Dispatch_rows W H_k0) (W.2.1 _ _ H_k0 (by decide) (by decide)) rfl rfl (.inl rfl) ⟨by omega, by omega⟩ (by omega) (by omega) (fun h15 T_h15 b_h15 f_h15 y_h15 => ?_)
            have A_h15 := A_h13.put T_h15 b_h15 f_h15 H_k0 (by decide)
            have : ys h15 k0 11 = ys h13 k0 11 := (y_h15 k0 11).trans (if_neg (fun e => absurd e.2 (by decide)))
            have : ys h15 k0 3 = ys h13 k0 3 := (y_h15 k0 3).trans (if_neg (fun e => absurd e.2 (by decide)))
            have qq17 : zsl h15 k0 0 = yR n1 := ((f_h15 k0 0).trans (if_neg (fun e => absurd e.2 (by decide)))).trans qq10
            have qq18 : zsl h15 n1 2 = yR n2 := ((f_h15 n1 2).trans (if_neg (fun e => (bRo.ne H_n1 H_k0 (by decide)) e.1))).trans qq11
            have qq19 : zsl h15 n1 7 = yR n3 := ((f_h15 n1 7).trans (if_neg (fun e => (bRo.ne H_n1 H_k0 (by decide)) e.1))).trans qq12
            have qq20 : zsl h15 k0 4 = yR n4 := ((f_h15 k0 4).trans (if_neg (fun e => absurd e.2 (by decide)))).trans qq13
            have qq21 : zsl h15 k0 9 = yR n5 := ((f_h15 k0 9).trans (if_neg (fun e => absurd e.2 (by decide)))).trans qq14
            have qq22 : zsl h15 k0 13 = yR n6 := ((f_h15 k0 13).trans (if_neg (fun e => absurd e.2 (by decide)))).trans qq15
            have qq23 : zsl h15 k0 1 = yR r1 := ((f_h15 k0 1).trans (if_neg (fun e => absurd e.2 (by decide)))).trans qq16
            have : ys h15 k0 10 = gg0 + 1 := (y_h15 k0 10).trans (if_pos ⟨rfl, rfl⟩)
            refine yG.iinc rfl (a := a1) rfl (L' := [(1, yI (a1 + 1)), (0, yR k0)]) rfl ?_
            refine yG.goto rfl (t := 85) rfl ?_
            have qq24 : ∀ c, ys h15 n6 c = ys hq n6 c := fun c => ((y_h15 n6 c).trans (if_neg (fun z => bRo.ne H_n6 H_k0 (by decide) z.1))).trans (((y_h13 n6 c).trans (if_neg (fun z => bRo.ne H_n6 H_r11 (by decide) z.1))).trans ((y_h10 n6 c).trans (if_neg (fun z => bRo.ne H_n6 H_r8 (by decide) z.1))))
            exact yG.mono (yG.sub (i_85 (a1 + 1) (ys h15 k0 10) (ys h15 k0 11) (ys h15 k0 3) h15 A_h15  rfl rfl rfl (by omega) (by omega) (by omega) (by omega) (by omega) (by omega) (by omega) (by omega) (by omega) (by omega) (fun c g1 g2 => by rw [qq24]; exact X_85 c g1 (by omega)) (by omega)) (ySub.cons rfl (ySub.cons rfl (ySub.nil)))) (by omega)
      · intro a1 gg0 gg1 gg2 hq A_hq E_0 E_1 E_2 f0 f1 f2 f3 f4 f5 f6 f7 f8 X_168 hm
        refine yG.mono (N := 47 * m + 47) ?_ (by omega)
        obtain ⟨-, -, g_0l, g_0u⟩ := (w_Dispatch_rows W H_k0).int A_hq.1
        obtain ⟨-, -, g_1l, g_1u⟩ := (w_Dispatch_columns W H_k0).int A_hq.1
        obtain ⟨-, -, g_2l, g_2u⟩ := (w_Dispatch_parts W H_k0).int A_hq.1
        replace Q_n1 : zsl hq k0 0 = yR n1 := (A_hq.sl H_k0 (by decide)).trans Q_n1
        replace Q_n2 : zsl hq n1 2 = yR n2 := (A_hq.sl H_n1 (by decide)).trans Q_n2
        replace Q_n3 : zsl hq n1 7 = yR n3 := (A_hq.sl H_n1 (by decide)).trans Q_n3
        replace Q_n4 : zsl hq k0 4 = yR n4 := (A_hq.sl H_k0 (by decide)).trans Q_n4
        replace Q_n5 : zsl hq k0 9 = yR n5 := (A_hq.sl H_k0 (by decide)).trans Q_n5
        replace Q_n6 : zsl hq k0 13 = yR n6 := (A_hq.sl H_k0 (by decide)).trans Q_n6
        refine yG.load xik rfl (fun _ _ => rfl) (v := yI (a1)) rfl rfl ?_
        refine yG.num (c := 429) rfl (fun _ _ => rfl) (by decide) ?_
        refine yG.icmp rfl (t := 191) rfl ⟨by omega, by omega⟩ ⟨by omega, by omega⟩ (fun c1 => ?_) (fun c1 => ?_)
        · have c1 : (a1 : Int) ≥ 429 := c1
          refine yG.ret rfl (fun _ _ => rfl) ?_
          have qq1 : ∀ c, ys hq n6 c = ys hq n6 c := fun c => rfl
          have M_bCv_hq : bCv G hq := fun q k Hq Hk c hc g1 g2 => by
            have e1 : q = n6 := (u_Dispatch_columnVariable W Hq).trans (u_Dispatch_columnVariable W H_n6).symm
            have e2 : k = k0 := (u_Dispatch W Hk).trans (u_Dispatch W H_k0).symm
            rw [e2] at g2
            rw [e1, qq1]
            exact X_168 c g1 (by omega)
          exact (yP.void ⟨⟨⟨rfl, trivial⟩, A_hq⟩, M_bCv_hq⟩)
        · have c1 : (a1 : Int) < 429 := c1
          refine yG.load xak rfl (fun _ _ => rfl) (v := yR k0) rfl rfl ?_
          refine yG.getO A_hq.1 (w_Dispatch_cell W H_k0) rfl rfl (fun r2 H_r2 O_r2 q_r2 => ?_)
          refine yG.load xik rfl (fun _ _ => rfl) (v := yI (a1)) rfl rfl ?_
          refine yG.aaldO (r := 35) A_hq.1 (v_Big429 W H_r2) rfl rfl rfl (by omega) (by omega) (fun r3 H_r3 q_r3 => ?_)
          obtain ⟨n_r3, N_r3⟩ : ∃ n : Int, n = ((zat G r3 : Nat) : Int) := ⟨_, rfl⟩
          have L_r3 := n_Big W H_r3
          refine yG.numl (c := 0) rfl (fun _ _ => rfl) (by decide) ?_
          refine yG.invV (rest := []) A_hq.1 (bOb (d_Big W) H_r3) rfl rfl rfl rfl (c_Big_put W d A_hq.1 H_r3 (0) (by omega) (by omega)) (fun rv h4 q9 => ?_)
          obtain ⟨⟨rfl, R_z5⟩, B_h4⟩ := q9
          have A_h4 := A_hq.tr B_h4 (by decide)
          have : ys h4 k0 10 = ys hq k0 10 := B_h4.ys H_k0 (by decide)
          have : ys h4 k0 11 = ys hq k0 11 := B_h4.ys H_k0 (by decide)
          have : ys h4 k0 3 = ys hq k0 3 := B_h4.ys H_k0 (by decide)
          have qq2 : zsl h4 k0 0 = yR n1 := (B_h4.sl H_k0 (by decide)).trans Q_n1
          have qq3 : zsl h4 n1 2 = yR n2 := (B_h4.sl H_n1 (by decide)).trans Q_n2
          have qq4 : zsl h4 n1 7 = yR n3 := (B_h4.sl H_n1 (by decide)).trans Q_n3
          have qq5 : zsl h4 k0 4 = yR n4 := (B_h4.sl H_k0 (by decide)).trans Q_n4
          have qq6 : zsl h4 k0 9 = yR n5 := (B_h4.sl H_k0 (by decide)).trans Q_n5
          have qq7 : zsl h4 k0 13 = yR n6 := (B_h4.sl H_k0 (by decide)).trans Q_n6
          show yG _ _ _ _ _ _ _ _ _ _ [] _
          refine yG.iinc rfl (a := a1) rfl (L' := [(1, yI (a1 + 1)), (0, yR k0)]) rfl ?_
          refine yG.goto rfl (t := 168) rfl ?_
          have qq8 : ∀ c, ys h4 n6 c = ys hq n6 c := fun c => B_h4.ys H_n6 (bNo_ok (by decide) c)
          exact yG.mono (yG.sub (i_168 (a1 + 1) (ys h4 k0 10) (ys h4 k0 11) (ys h4 k0 3) h4 A_h4  rfl rfl rfl (by omega) (by omega) (by omega) (by omega) (by omega) (by omega) (by omega) (by omega) (by omega) (fun c g1 g2 => by rw [qq8]; exact X_168 c g1 (by omega)) (by omega)) (ySub.cons rfl (ySub.cons rfl (ySub.nil)))) (by omega)
  refine yC.of (M := (xt_X1_setOut, (2, (0, (2, []))))) rfl rfl (N := 11048196) (yfuel (by decide)) ?_
  show yG 89 xfts (xcall 89 xfts xpools xms (d + 2)) (xpool xp_RX1) [] xt_X1_setOut (yP 0 (fun rv hp' => (fun rv hp' => (rv = none ∧ True) ∧ bAx G [(34359738368, 1), (34359738368, 2), (79228162514264337593543950336, 10), (79228162514264337593543950336, 11), (32958915605933964438983002816512, 256)] hp hp') rv hp' ∧ bCv G hp')) 11048196 0 [(0, yR k0)] [] hp
  obtain ⟨i_12, i_85, i_168⟩ := H 235067
  obtain ⟨gg0, E_0⟩ : ∃ z : Int, ys hp k0 10 = z := ⟨_, rfl⟩
  obtain ⟨-, -, g_0l, g_0u⟩ := (w_Dispatch_rows W H_k0).int hT
  obtain ⟨gg1, E_1⟩ : ∃ z : Int, ys hp k0 11 = z := ⟨_, rfl⟩
  obtain ⟨-, -, g_1l, g_1u⟩ := (w_Dispatch_columns W H_k0).int hT
  obtain ⟨gg2, E_2⟩ : ∃ z : Int, ys hp k0 3 = z := ⟨_, rfl⟩
  obtain ⟨-, -, g_2l, g_2u⟩ := (w_Dispatch_parts W H_k0).int hT
  refine yG.load xak rfl (fun _ _ => rfl) (v := yR k0) rfl rfl ?_
  refine yG.num (c := 0) rfl (fun _ _ => rfl) (by decide) ?_
  refine yG.putI A_hp.1 (w_Dispatch_rows W H_k0) (W.2.1 _ _ H_k0 (by decide) (by decide)) rfl rfl (.inl rfl) ⟨by omega, by omega⟩ (by omega) (by omega) (fun h1 T_h1 b_h1 f_h1 y_h1 => ?_)
  have A_h1 := A_hp.put T_h1 b_h1 f_h1 H_k0 (by decide)
  have : ys h1 k0 11 = ys hp k0 11 := (y_h1 k0 11).trans (if_neg (fun e => absurd e.2 (by decide)))
  have : ys h1 k0 3 = ys hp k0 3 := (y_h1 k0 3).trans (if_neg (fun e => absurd e.2 (by decide)))
  have qq1 : zsl h1 k0 0 = yR n1 := ((f_h1 k0 0).trans (if_neg (fun e => absurd e.2 (by decide)))).trans Q_n1
  have qq2 : zsl h1 n1 2 = yR n2 := ((f_h1 n1 2).trans (if_neg (fun e => (bRo.ne H_n1 H_k0 (by decide)) e.1))).trans Q_n2
  have qq3 : zsl h1 n1 7 = yR n3 := ((f_h1 n1 7).trans (if_neg (fun e => (bRo.ne H_n1 H_k0 (by decide)) e.1))).trans Q_n3
  have qq4 : zsl h1 k0 4 = yR n4 := ((f_h1 k0 4).trans (if_neg (fun e => absurd e.2 (by decide)))).trans Q_n4
  have qq5 : zsl h1 k0 9 = yR n5 := ((f_h1 k0 9).trans (if_neg (fun e => absurd e.2 (by decide)))).trans Q_n5
  have qq6 : zsl h1 k0 13 = yR n6 := ((f_h1 k0 13).trans (if_neg (fun e => absurd e.2 (by decide)))).trans Q_n6
  have : ys h1 k0 10 = 0 := (y_h1 k0 10).trans (if_pos ⟨rfl, rfl⟩)
  refine yG.load xak rfl (fun _ _ => rfl) (v := yR k0) rfl rfl ?_
  refine yG.num (c := 1) rfl (fun _ _ => rfl) (by decide) ?_
  refine yG.putI A_h1.1 (w_Dispatch_columns W H_k0) (W.2.1 _ _ H_k0 (by decide) (by decide)) rfl rfl (.inl rfl) ⟨by omega, by omega⟩ (by omega) (by omega) (fun h2 T_h2 b_h2 f_h2 y_h2 => ?_)
  have A_h2 := A_h1.put T_h2 b_h2 f_h2 H_k0 (by decide)
  have : ys h2 k0 3 = ys h1 k0 3 := (y_h2 k0 3).trans (if_neg (fun e => absurd e.2 (by decide)))
  have qq7 : zsl h2 k0 0 = yR n1 := ((f_h2 k0 0).trans (if_neg (fun e => absurd e.2 (by decide)))).trans qq1
  have qq8 : zsl h2 n1 2 = yR n2 := ((f_h2 n1 2).trans (if_neg (fun e => (bRo.ne H_n1 H_k0 (by decide)) e.1))).trans qq2
  have qq9 : zsl h2 n1 7 = yR n3 := ((f_h2 n1 7).trans (if_neg (fun e => (bRo.ne H_n1 H_k0 (by decide)) e.1))).trans qq3
  have qq10 : zsl h2 k0 4 = yR n4 := ((f_h2 k0 4).trans (if_neg (fun e => absurd e.2 (by decide)))).trans qq4
  have qq11 : zsl h2 k0 9 = yR n5 := ((f_h2 k0 9).trans (if_neg (fun e => absurd e.2 (by decide)))).trans qq5
  have qq12 : zsl h2 k0 13 = yR n6 := ((f_h2 k0 13).trans (if_neg (fun e => absurd e.2 (by decide)))).trans qq6
  have : ys h2 k0 10 = ys h1 k0 10 := (y_h2 k0 10).trans (if_neg (fun e => absurd e.2 (by decide)))
  have : ys h2 k0 11 = 1 := (y_h2 k0 11).trans (if_pos ⟨rfl, rfl⟩)
  refine yG.num (c := 0) rfl (fun _ _ => rfl) (by decide) ?_
  refine yG.store1 xik (L' := [(1, yI (0)), (0, yR k0)]) rfl (fun _ _ => rfl) rfl rfl ?_
  have qq13 : ∀ c, ys h2 n6 c = ys hp n6 c := fun c => ((y_h2 n6 c).trans (if_neg (fun z => bRo.ne H_n6 H_k0 (by decide) z.1))).trans ((y_h1 n6 c).trans (if_neg (fun z => bRo.ne H_n6 H_k0 (by decide) z.1)))
  exact yG.mono (yG.sub (i_12 (0) (ys h2 k0 10) (ys h2 k0 11) (ys h2 k0 3) h2 A_h2  rfl rfl rfl (by omega) (by omega) (by omega) (by omega) (by omega) (by omega) (by omega) (by omega) (by omega) (by omega) (by omega) ⟨by rw [show ys h2 k0 10 = 0 by omega]; exact bPg.zero, fun c g1 g2 => by exfalso; omega⟩ (by omega)) (ySub.cons rfl (ySub.cons rfl (ySub.nil)))) (by omega)
theorem c_Dispatch_injectStart {hp : xH} (W : bW G) (d : Nat) (hT : zTy G hp) {k0 : Nat} (H_k0 : bRo G 96 k0) (p1 p2 : Int) (h1l : 0 ≤ p1) (h1u : p1 ≤ 47) (h2l : (-1) ≤ p2) (h2u : p2 ≤ 15) : yC (xcall 89 xfts xpools xms (d + 3)) 83 [yR k0, yI (p1), yI (p2)] hp (fun rv hp' => (rv = none ∧ True) ∧ bAx G [(4398046511104, 256)] hp hp') := by
  have A_hp : bAx G [(4398046511104, 256)] hp hp := bAx.rf hT
  have H : ∀ m : Nat, (∀ a3 : Int, ∀ hq, bAx G [(4398046511104, 256)] hp hq → 0 ≤ a3 → (-12) ≤ 0 - a3 → 0 ≤ p1 → (-47) ≤ 0 - p1 → (-1) ≤ p2 → (-15) ≤ 0 - p2 → 0 - 190 * a3 + 2469 < (m : Int) → yG 89 xfts (xcall 89 xfts xpools xms (d + 2)) (xpool xp_RX1) [] xt_X1_injectStart (yP 0 (fun rv hp' => (rv = none ∧ True) ∧ bAx G [(4398046511104, 256)] hp hp')) (32 * m) 2 [(0, yR k0), (1, yI (p1)), (2, yI (p2)), (3, yI (a3))] [] hq) ∧ (∀ a3 : Int, ∀ hq, bAx G [(4398046511104, 256)] hp hq → 0 ≤ a3 → (-6) ≤ 0 - a3 → 0 ≤ p1 → (-47) ≤ 0 - p1 → (-1) ≤ p2 → (-15) ≤ 0 - p2 → 0 - 27 * a3 + 188 < (m : Int) → yG 89 xfts (xcall 89 xfts xpools xms (d + 2)) (xpool xp_RX1) [] xt_X1_injectStart (yP 0 (fun rv hp' => (rv = none ∧ True) ∧ bAx G [(4398046511104, 256)] hp hp')) (32 * m) 51 [(0, yR k0), (1, yI (p1)), (2, yI (p2)), (3, yI (a3))] [] hq) ∧ (∀ a3 : Int, ∀ hq, bAx G [(4398046511104, 256)] hp hq → 0 ≤ a3 → (-12) ≤ 0 - a3 → 0 ≤ p1 → (-47) ≤ 0 - p1 → (-1) ≤ p2 → (-15) ≤ 0 - p2 → 0 - 2 * a3 + 25 < (m : Int) → yG 89 xfts (xcall 89 xfts xpools xms (d + 2)) (xpool xp_RX1) [] xt_X1_injectStart (yP 0 (fun rv hp' => (rv = none ∧ True) ∧ bAx G [(4398046511104, 256)] hp hp')) (32 * m) 111 [(0, yR k0), (1, yI (p1)), (2, yI (p2)), (3, yI (a3))] [] hq) := by
    intro m
    induction m with
    | zero =>
      refine ⟨?_, ?_, ?_⟩ <;> (intros; exfalso; omega)
    | succ m ih =>
      obtain ⟨i_2, i_51, i_111⟩ := ih
      refine ⟨?_, ?_, ?_⟩
      · intro a3 hq A_hq f0 f1 f2 f3 f4 f5 hm
        refine yG.mono (N := 32 * m + 32) ?_ (by omega)
        refine yG.load xik rfl (fun _ _ => rfl) (v := yI (a3)) rfl rfl ?_
        refine yG.load xak rfl (fun _ _ => rfl) (v := yR k0) rfl rfl ?_
        refine yG.getO A_hq.1 (w_Dispatch_net W H_k0) rfl rfl (fun r1 H_r1 O_r1 q_r1 => ?_)
        refine yG.getO A_hq.1 (w_Net_count W H_r1) rfl rfl (fun r2 H_r2 O_r2 q_r2 => ?_)
        refine yG.num (c := 4) rfl (fun _ _ => rfl) (by decide) ?_
        refine yG.ialdF A_hq.1 (v_Net_count W H_r2) rfl rfl (by omega) (by omega) (fun z3 e_z3 i_z3 l_z3 u_z3 => ?_)
        refine yG.icmp rfl (t := 49) rfl ⟨by omega, by omega⟩ ⟨by omega, by omega⟩ (fun c4 => ?_) (fun c4 => ?_)
        · have c4 : (a3 : Int) ≥ z3 := c4
          refine yG.num (c := 0) rfl (fun _ _ => rfl) (by decide) ?_
          refine yG.store1 xik (L' := [(3, yI (0)), (0, yR k0), (1, yI (p1)), (2, yI (p2))]) rfl (fun _ _ => rfl) rfl rfl ?_
          exact yG.mono (yG.sub (i_51 (0)  hq A_hq   (by omega) (by omega) (by omega) (by omega) (by omega) (by omega) (by omega)) (ySub.cons rfl (ySub.cons rfl (ySub.cons rfl (ySub.cons rfl (ySub.nil)))))) (by omega)
        · have c4 : (a3 : Int) < z3 := c4
          refine yG.load xak rfl (fun _ _ => rfl) (v := yR k0) rfl rfl ?_
          refine yG.getO A_hq.1 (w_Dispatch_solver W H_k0) rfl rfl (fun r5 H_r5 O_r5 q_r5 => ?_)
          refine yG.load xak rfl (fun _ _ => rfl) (v := yR k0) rfl rfl ?_
          refine yG.getO A_hq.1 (w_Dispatch_shape W H_k0) rfl rfl (fun r6 H_r6 O_r6 q_r6 => ?_)
          refine yG.load xik rfl (fun _ _ => rfl) (v := yI (a3)) rfl rfl ?_
          refine yG.invV (rest := [yR r5]) A_hq.1 (bOb (d_Shape W) H_r6) rfl rfl rfl rfl (c_Shape_rowOfLoad W d A_hq.1 H_r6 (a3) (by omega) (by omega)) (fun rv hp9 q9 => ?_)
          obtain ⟨⟨z7, rfl, l_z7, u_z7, R_z7⟩, e9⟩ := q9
          rw [e9]
          show yG _ _ _ _ _ _ _ _ _ _ (yI z7 :: [yR r5]) _
          refine yG.load xik rfl (fun _ _ => rfl) (v := yI (p1)) rfl rfl ?_
          refine yG.load xak rfl (fun _ _ => rfl) (v := yR k0) rfl rfl ?_
          refine yG.getS9 A_hq.1 (w_Dispatch_net W H_k0) q_r1 rfl rfl ?_
          refine yG.num (c := 4) rfl (fun _ _ => rfl) (by decide) ?_
          refine yG.load xik rfl (fun _ _ => rfl) (v := yI (a3)) rfl rfl ?_
          refine yG.num (c := 0) rfl (fun _ _ => rfl) (by decide) ?_
          refine yG.invV (rest := [yI (p1), yI (z7), yR r5]) A_hq.1 (bOb (d_Net W) H_r1) rfl rfl rfl rfl (c_Net_at_4_0 W (d + 1) A_hq.1 H_r1 (a3) (by omega) (by omega)) (fun rv hp9 q9 => ?_)
          obtain ⟨⟨z8, rfl, l_z8, u_z8, R_z8⟩, e9⟩ := q9
          rw [e9]
          show yG _ _ _ _ _ _ _ _ _ _ (yI z8 :: [yI (p1), yI (z7), yR r5]) _
          refine yG.ineg rfl ?_
          refine yG.i2l rfl ⟨by omega, by omega⟩ ?_
          refine yG.invV (rest := []) A_hq.1 (bOb (d_Solver W) H_r5) rfl rfl rfl rfl (c_Solver_plus W d A_hq.1 H_r5 (z7) (p1) (-(z8)) (by omega) (by omega) (by omega) (by omega) (by omega) (by omega)) (fun rv h9 q9 => ?_)
          obtain ⟨⟨rfl, R_z10⟩, B_h9⟩ := q9
          have A_h9 := A_hq.tr B_h9 (by decide)
          have qq1 : zsl h9 k0 1 = yR r1 := (B_h9.sl H_k0 (by decide)).trans q_r1
          show yG _ _ _ _ _ _ _ _ _ _ [] _
          refine yG.iinc rfl (a := a3) rfl (L' := [(3, yI (a3 + 1)), (0, yR k0), (1, yI (p1)), (2, yI (p2))]) rfl ?_
          refine yG.goto rfl (t := 2) rfl ?_
          exact yG.mono (yG.sub (i_2 (a3 + 1)  h9 A_h9   (by omega) (by omega) (by omega) (by omega) (by omega) (by omega) (by omega)) (ySub.cons rfl (ySub.cons rfl (ySub.cons rfl (ySub.cons rfl (ySub.nil)))))) (by omega)
      · intro a3 hq A_hq f0 f1 f2 f3 f4 f5 hm
        refine yG.mono (N := 32 * m + 32) ?_ (by omega)
        refine yG.load xik rfl (fun _ _ => rfl) (v := yI (a3)) rfl rfl ?_
        refine yG.load xak rfl (fun _ _ => rfl) (v := yR k0) rfl rfl ?_
        refine yG.getO A_hq.1 (w_Dispatch_net W H_k0) rfl rfl (fun r1 H_r1 O_r1 q_r1 => ?_)
        refine yG.getO A_hq.1 (w_Net_count W H_r1) rfl rfl (fun r2 H_r2 O_r2 q_r2 => ?_)
        refine yG.num (c := 3) rfl (fun _ _ => rfl) (by decide) ?_
        refine yG.ialdF A_hq.1 (v_Net_count W H_r2) rfl rfl (by omega) (by omega) (fun z3 e_z3 i_z3 l_z3 u_z3 => ?_)
        refine yG.icmp rfl (t := 109) rfl ⟨by omega, by omega⟩ ⟨by omega, by omega⟩ (fun c4 => ?_) (fun c4 => ?_)
        · have c4 : (a3 : Int) ≥ z3 := c4
          refine yG.num (c := 0) rfl (fun _ _ => rfl) (by decide) ?_
          refine yG.store1 xik (L' := [(3, yI (0)), (0, yR k0), (1, yI (p1)), (2, yI (p2))]) rfl (fun _ _ => rfl) rfl rfl ?_
          exact yG.mono (yG.sub (i_111 (0)  hq A_hq   (by omega) (by omega) (by omega) (by omega) (by omega) (by omega) (by omega)) (ySub.cons rfl (ySub.cons rfl (ySub.cons rfl (ySub.cons rfl (ySub.nil)))))) (by omega)
        · have c4 : (a3 : Int) < z3 := c4
          refine yG.load xak rfl (fun _ _ => rfl) (v := yR k0) rfl rfl ?_
          refine yG.getO A_hq.1 (w_Dispatch_shape W H_k0) rfl rfl (fun r5 H_r5 O_r5 q_r5 => ?_)
          refine yG.getO A_hq.1 (w_Shape_on W H_r5) rfl rfl (fun r6 H_r6 O_r6 q_r6 => ?_)
          refine yG.load xik rfl (fun _ _ => rfl) (v := yI (a3)) rfl rfl ?_
          refine yG.bald A_hq.1 (v_Shape_on W H_r6) rfl (by omega) (by omega) (fun z7 e_z7 i_z7 l_z7 u_z7 => ?_)
          refine yG.ifz rfl (t := 103) rfl ⟨by omega, by omega⟩ (fun c8 => ?_) (fun c8 => ?_)
          · have c8 : (z7 : Int) = 0 := c8
            refine yG.iinc rfl (a := a3) rfl (L' := [(3, yI (a3 + 1)), (0, yR k0), (1, yI (p1)), (2, yI (p2))]) rfl ?_
            refine yG.goto rfl (t := 51) rfl ?_
            exact yG.mono (yG.sub (i_51 (a3 + 1)  hq A_hq   (by omega) (by omega) (by omega) (by omega) (by omega) (by omega) (by omega)) (ySub.cons rfl (ySub.cons rfl (ySub.cons rfl (ySub.cons rfl (ySub.nil)))))) (by omega)
          · have c8 : (z7 : Int) ≠ 0 := c8
            refine yG.load xak rfl (fun _ _ => rfl) (v := yR k0) rfl rfl ?_
            refine yG.getO A_hq.1 (w_Dispatch_solver W H_k0) rfl rfl (fun r9 H_r9 O_r9 q_r9 => ?_)
            refine yG.load xak rfl (fun _ _ => rfl) (v := yR k0) rfl rfl ?_
            refine yG.getS9 A_hq.1 (w_Dispatch_shape W H_k0) q_r5 rfl rfl ?_
            refine yG.load xik rfl (fun _ _ => rfl) (v := yI (a3)) rfl rfl ?_
            refine yG.invV (rest := [yR r9]) A_hq.1 (bOb (d_Shape W) H_r5) rfl rfl rfl rfl (c_Shape_rowOfMachine W (d + 1) A_hq.1 H_r5 (a3) (by omega) (by omega)) (fun rv hp9 q9 => ?_)
            obtain ⟨⟨z10, rfl, l_z10, u_z10, R_z10⟩, e9⟩ := q9
            rw [e9]
            show yG _ _ _ _ _ _ _ _ _ _ (yI z10 :: [yR r9]) _
            refine yG.load xik rfl (fun _ _ => rfl) (v := yI (p1)) rfl rfl ?_
            refine yG.load xak rfl (fun _ _ => rfl) (v := yR k0) rfl rfl ?_
            refine yG.getS9 A_hq.1 (w_Dispatch_net W H_k0) q_r1 rfl rfl ?_
            refine yG.num (c := 3) rfl (fun _ _ => rfl) (by decide) ?_
            refine yG.load xik rfl (fun _ _ => rfl) (v := yI (a3)) rfl rfl ?_
            refine yG.num (c := 4) rfl (fun _ _ => rfl) (by decide) ?_
            refine yG.invV (rest := [yI (p1), yI (z10), yR r9]) A_hq.1 (bOb (d_Net W) H_r1) rfl rfl rfl rfl (c_Net_at_3_4 W (d + 1) A_hq.1 H_r1 (a3) (by omega) (by omega)) (fun rv hp9 q9 => ?_)
            obtain ⟨⟨z11, rfl, l_z11, u_z11, R_z11⟩, e9⟩ := q9
            rw [e9]
            show yG _ _ _ _ _ _ _ _ _ _ (yI z11 :: [yI (p1), yI (z10), yR r9]) _
            refine yG.i2l rfl ⟨by omega, by omega⟩ ?_
            refine yG.invV (rest := []) A_hq.1 (bOb (d_Solver W) H_r9) rfl rfl rfl rfl (c_Solver_plus W d A_hq.1 H_r9 (z10) (p1) (z11) (by omega) (by omega) (by omega) (by omega) (by omega) (by omega)) (fun rv h12 q9 => ?_)
            obtain ⟨⟨rfl, R_z13⟩, B_h12⟩ := q9
            have A_h12 := A_hq.tr B_h12 (by decide)
            have qq1 : zsl h12 k0 1 = yR r1 := (B_h12.sl H_k0 (by decide)).trans q_r1
            have qq2 : zsl h12 k0 0 = yR r5 := (B_h12.sl H_k0 (by decide)).trans q_r5
            show yG _ _ _ _ _ _ _ _ _ _ [] _
            refine yG.iinc rfl (a := a3) rfl (L' := [(3, yI (a3 + 1)), (0, yR k0), (1, yI (p1)), (2, yI (p2))]) rfl ?_
            refine yG.goto rfl (t := 51) rfl ?_
            exact yG.mono (yG.sub (i_51 (a3 + 1)  h12 A_h12   (by omega) (by omega) (by omega) (by omega) (by omega) (by omega) (by omega)) (ySub.cons rfl (ySub.cons rfl (ySub.cons rfl (ySub.cons rfl (ySub.nil)))))) (by omega)
      · intro a3 hq A_hq f0 f1 f2 f3 f4 f5 hm
        refine yG.mono (N := 32 * m + 32) ?_ (by omega)
        refine yG.load xik rfl (fun _ _ => rfl) (v := yI (a3)) rfl rfl ?_
        refine yG.load xak rfl (fun _ _ => rfl) (v := yR k0) rfl rfl ?_
        refine yG.getI A_hq.1 (w_Dispatch_parts W H_k0) rfl rfl (fun z1 e_z1 i_z1 l_z1 u_z1 => ?_)
        refine yG.icmp rfl (t := 153) rfl ⟨by omega, by omega⟩ ⟨by omega, by omega⟩ (fun c2 => ?_) (fun c2 => ?_)
        · have c2 : (a3 : Int) ≥ z1 := c2
          refine yG.load xik rfl (fun _ _ => rfl) (v := yI (p2)) rfl rfl ?_
          refine yG.num (c := -1) rfl (fun _ _ => rfl) (by decide) ?_
          refine yG.icmp rfl (t := 178) rfl ⟨by omega, by omega⟩ ⟨by omega, by omega⟩ (fun c3 => ?_) (fun c3 => ?_)
          · have c3 : (p2 : Int) = (-1) := c3
            refine yG.ret rfl (fun _ _ => rfl) ?_
            exact (yP.void ⟨⟨rfl, trivial⟩, A_hq⟩)
          · have c3 : (p2 : Int) ≠ (-1) := c3
            refine yG.load xak rfl (fun _ _ => rfl) (v := yR k0) rfl rfl ?_
            refine yG.getO A_hq.1 (w_Dispatch_solver W H_k0) rfl rfl (fun r4 H_r4 O_r4 q_r4 => ?_)
            refine yG.load xak rfl (fun _ _ => rfl) (v := yR k0) rfl rfl ?_
            refine yG.getO A_hq.1 (w_Dispatch_shape W H_k0) rfl rfl (fun r5 H_r5 O_r5 q_r5 => ?_)
            refine yG.getO A_hq.1 (w_Shape_row W H_r5) rfl rfl (fun r6 H_r6 O_r6 q_r6 => ?_)
            refine yG.load xik rfl (fun _ _ => rfl) (v := yI (p2)) rfl rfl ?_
            refine yG.iald A_hq.1 (v_Shape_row W H_r6) rfl (by omega) (by omega) (fun z7 e_z7 i_z7 l_z7 u_z7 => ?_)
            refine yG.load xik rfl (fun _ _ => rfl) (v := yI (p1)) rfl rfl ?_
            refine yG.numl (c := -1) rfl (fun _ _ => rfl) (by decide) ?_
            refine yG.invV (rest := []) A_hq.1 (bOb (d_Solver W) H_r4) rfl rfl rfl rfl (c_Solver_plus W d A_hq.1 H_r4 (z7) (p1) ((-1)) (by omega) (by omega) (by omega) (by omega) (by omega) (by omega)) (fun rv h8 q9 => ?_)
            obtain ⟨⟨rfl, R_z9⟩, B_h8⟩ := q9
            have A_h8 := A_hq.tr B_h8 (by decide)
            show yG _ _ _ _ _ _ _ _ _ _ [] _
            refine yG.ret rfl (fun _ _ => rfl) ?_
            exact (yP.void ⟨⟨rfl, trivial⟩, A_h8⟩)
        · have c2 : (a3 : Int) < z1 := c2
          refine yG.load xak rfl (fun _ _ => rfl) (v := yR k0) rfl rfl ?_
          refine yG.getO A_hq.1 (w_Dispatch_solver W H_k0) rfl rfl (fun r10 H_r10 O_r10 q_r10 => ?_)
          refine yG.load xak rfl (fun _ _ => rfl) (v := yR k0) rfl rfl ?_
          refine yG.getO A_hq.1 (w_Dispatch_shape W H_k0) rfl rfl (fun r11 H_r11 O_r11 q_r11 => ?_)
          refine yG.load xak rfl (fun _ _ => rfl) (v := yR k0) rfl rfl ?_
          refine yG.getO A_hq.1 (w_Dispatch_machineOf W H_k0) rfl rfl (fun r12 H_r12 O_r12 q_r12 => ?_)
          refine yG.load xik rfl (fun _ _ => rfl) (v := yI (a3)) rfl rfl ?_
          refine yG.iald A_hq.1 (v_Dispatch_machineOf W H_r12) rfl (by omega) (by omega) (fun z13 e_z13 i_z13 l_z13 u_z13 => ?_)
          refine yG.invV (rest := [yR r10]) A_hq.1 (bOb (d_Shape W) H_r11) rfl rfl rfl rfl (c_Shape_rowOfMachine W (d + 1) A_hq.1 H_r11 (z13) (by omega) (by omega)) (fun rv hp9 q9 => ?_)
          obtain ⟨⟨z14, rfl, l_z14, u_z14, R_z14⟩, e9⟩ := q9
          rw [e9]
          show yG _ _ _ _ _ _ _ _ _ _ (yI z14 :: [yR r10]) _
          refine yG.load xik rfl (fun _ _ => rfl) (v := yI (p1)) rfl rfl ?_
          refine yG.load xak rfl (fun _ _ => rfl) (v := yR k0) rfl rfl ?_
          refine yG.getO A_hq.1 (w_Dispatch_startOf W H_k0) rfl rfl (fun r15 H_r15 O_r15 q_r15 => ?_)
          refine yG.load xik rfl (fun _ _ => rfl) (v := yI (a3)) rfl rfl ?_
          refine yG.iald A_hq.1 (v_Dispatch_startOf W H_r15) rfl (by omega) (by omega) (fun z16 e_z16 i_z16 l_z16 u_z16 => ?_)
          refine yG.i2l rfl ⟨by omega, by omega⟩ ?_
          refine yG.invV (rest := []) A_hq.1 (bOb (d_Solver W) H_r10) rfl rfl rfl rfl (c_Solver_plus W d A_hq.1 H_r10 (z14) (p1) (z16) (by omega) (by omega) (by omega) (by omega) (by omega) (by omega)) (fun rv h17 q9 => ?_)
          obtain ⟨⟨rfl, R_z18⟩, B_h17⟩ := q9
          have A_h17 := A_hq.tr B_h17 (by decide)
          show yG _ _ _ _ _ _ _ _ _ _ [] _
          refine yG.iinc rfl (a := a3) rfl (L' := [(3, yI (a3 + 1)), (0, yR k0), (1, yI (p1)), (2, yI (p2))]) rfl ?_
          refine yG.goto rfl (t := 111) rfl ?_
          exact yG.mono (yG.sub (i_111 (a3 + 1)  h17 A_h17   (by omega) (by omega) (by omega) (by omega) (by omega) (by omega) (by omega)) (ySub.cons rfl (ySub.cons rfl (ySub.cons rfl (ySub.cons rfl (ySub.nil)))))) (by omega)
  refine yC.of (M := (xt_X1_injectStart, (4, (0, (2, []))))) rfl rfl (N := 79104) (yfuel (by decide)) ?_
  show yG 89 xfts (xcall 89 xfts xpools xms (d + 2)) (xpool xp_RX1) [] xt_X1_injectStart (yP 0 (fun rv hp' => (rv = none ∧ True) ∧ bAx G [(4398046511104, 256)] hp hp')) 79104 0 [(0, yR k0), (1, yI (p1)), (2, yI (p2))] [] hp
  obtain ⟨i_2, i_51, i_111⟩ := H 2471
  refine yG.num (c := 0) rfl (fun _ _ => rfl) (by decide) ?_
  refine yG.store1 xik (L' := [(3, yI (0)), (0, yR k0), (1, yI (p1)), (2, yI (p2))]) rfl (fun _ _ => rfl) rfl rfl ?_
  exact yG.mono (yG.sub (i_2 (0)  hp A_hp   (by omega) (by omega) (by omega) (by omega) (by omega) (by omega) (by omega)) (ySub.cons rfl (ySub.cons rfl (ySub.cons rfl (ySub.cons rfl (ySub.nil)))))) (by omega)
theorem c_Dispatch_injectColumn {hp : xH} (W : bW G) (d : Nat) (hT : zTy G hp) {k0 : Nat} (H_k0 : bRo G 96 k0) (p1 p2 : Int) (h1l : 0 ≤ p1) (h1u : p1 ≤ 47) (h2l : 0 ≤ p2) (h2u : p2 ≤ 11) : yC (xcall 89 xfts xpools xms (d + 3)) 82 [yR k0, yI (p1), yI (p2)] hp (fun rv hp' => (rv = none ∧ True) ∧ bAx G [(4398046511104, 256)] hp hp') := by
  have A_hp : bAx G [(4398046511104, 256)] hp hp := bAx.rf hT
  refine yC.of (M := (xt_X1_injectColumn, (5, (0, (2, []))))) rfl rfl (N := 144) (yfuel (by decide)) ?_
  show yG 89 xfts (xcall 89 xfts xpools xms (d + 2)) (xpool xp_RX1) [] xt_X1_injectColumn (yP 0 (fun rv hp' => (rv = none ∧ True) ∧ bAx G [(4398046511104, 256)] hp hp')) 144 0 [(0, yR k0), (1, yI (p1)), (2, yI (p2))] [] hp
  refine yG.load xak rfl (fun _ _ => rfl) (v := yR k0) rfl rfl ?_
  refine yG.getO A_hp.1 (w_Dispatch_turned W H_k0) rfl rfl (fun r1 H_r1 O_r1 q_r1 => ?_)
  refine yG.load xik rfl (fun _ _ => rfl) (v := yI (p2)) rfl rfl ?_
  refine yG.bald A_hp.1 (v_Dispatch_turned W H_r1) rfl (by omega) (by omega) (fun z2 e_z2 i_z2 l_z2 u_z2 => ?_)
  refine yG.ifz rfl (t := 13) rfl ⟨by omega, by omega⟩ (fun c3 => ?_) (fun c3 => ?_)
  · have c3 : (z2 : Int) = 0 := c3
    refine yG.num (c := 1) rfl (fun _ _ => rfl) (by decide) ?_
    refine yG.store1 xik (L' := [(3, yI (1)), (0, yR k0), (1, yI (p1)), (2, yI (p2))]) rfl (fun _ _ => rfl) rfl rfl ?_
    refine yG.load xak rfl (fun _ _ => rfl) (v := yR k0) rfl rfl ?_
    refine yG.getO A_hp.1 (w_Dispatch_keeper W H_k0) rfl rfl (fun r4 H_r4 O_r4 q_r4 => ?_)
    refine yG.load xak rfl (fun _ _ => rfl) (v := yR k0) rfl rfl ?_
    refine yG.load xik rfl (fun _ _ => rfl) (v := yI (p2)) rfl rfl ?_
    refine yG.invV (rest := [yR r4]) A_hp.1 (bOb (d_Dispatch W) H_k0) rfl rfl rfl rfl (c_Dispatch_islandOf W d A_hp.1 H_k0 (p2) (by omega) (by omega)) (fun rv hp9 q9 => ?_)
    obtain ⟨⟨z5, rfl, l_z5, u_z5, R_z5⟩, e9⟩ := q9
    rw [e9]
    show yG _ _ _ _ _ _ _ _ _ _ (yI z5 :: [yR r4]) _
    refine yG.iald A_hp.1 (v_Dispatch_keeper W H_r4) rfl (by omega) (by omega) (fun z6 e_z6 i_z6 l_z6 u_z6 => ?_)
    refine yG.store1 xik (L' := [(4, yI (z6)), (3, yI (1)), (0, yR k0), (1, yI (p1)), (2, yI (p2))]) rfl (fun _ _ => rfl) rfl rfl ?_
    refine yG.load xak rfl (fun _ _ => rfl) (v := yR k0) rfl rfl ?_
    refine yG.getO A_hp.1 (w_Dispatch_solver W H_k0) rfl rfl (fun r7 H_r7 O_r7 q_r7 => ?_)
    refine yG.load xak rfl (fun _ _ => rfl) (v := yR k0) rfl rfl ?_
    refine yG.getO A_hp.1 (w_Dispatch_shape W H_k0) rfl rfl (fun r8 H_r8 O_r8 q_r8 => ?_)
    refine yG.load xak rfl (fun _ _ => rfl) (v := yR k0) rfl rfl ?_
    refine yG.getO A_hp.1 (w_Dispatch_machineOf W H_k0) rfl rfl (fun r9 H_r9 O_r9 q_r9 => ?_)
    refine yG.load xik rfl (fun _ _ => rfl) (v := yI (p2)) rfl rfl ?_
    refine yG.iald A_hp.1 (v_Dispatch_machineOf W H_r9) rfl (by omega) (by omega) (fun z10 e_z10 i_z10 l_z10 u_z10 => ?_)
    refine yG.invV (rest := [yR r7]) A_hp.1 (bOb (d_Shape W) H_r8) rfl rfl rfl rfl (c_Shape_rowOfMachine W (d + 1) A_hp.1 H_r8 (z10) (by omega) (by omega)) (fun rv hp9 q9 => ?_)
    obtain ⟨⟨z11, rfl, l_z11, u_z11, R_z11⟩, e9⟩ := q9
    rw [e9]
    show yG _ _ _ _ _ _ _ _ _ _ (yI z11 :: [yR r7]) _
    refine yG.load xik rfl (fun _ _ => rfl) (v := yI (p1)) rfl rfl ?_
    refine yG.load xik rfl (fun _ _ => rfl) (v := yI (1)) rfl rfl ?_
    refine yG.i2l rfl ⟨by omega, by omega⟩ ?_
    refine yG.invV (rest := []) A_hp.1 (bOb (d_Solver W) H_r7) rfl rfl rfl rfl (c_Solver_plus W d A_hp.1 H_r7 (z11) (p1) (1) (by omega) (by omega) (by omega) (by omega) (by omega) (by omega)) (fun rv h12 q9 => ?_)
    obtain ⟨⟨rfl, R_z13⟩, B_h12⟩ := q9
    have A_h12 := A_hp.tr B_h12 (by decide)
    have qq1 : zsl h12 k0 2 = yR r7 := (B_h12.sl H_k0 (by decide)).trans q_r7
    have qq2 : zsl h12 k0 0 = yR r8 := (B_h12.sl H_k0 (by decide)).trans q_r8
    have qq3 : zsl h12 k0 4 = yR r9 := (B_h12.sl H_k0 (by decide)).trans q_r9
    show yG _ _ _ _ _ _ _ _ _ _ [] _
    refine yG.load xik rfl (fun _ _ => rfl) (v := yI (z6)) rfl rfl ?_
    refine yG.num (c := -1) rfl (fun _ _ => rfl) (by decide) ?_
    refine yG.icmp rfl (t := 81) rfl ⟨by omega, by omega⟩ ⟨by omega, by omega⟩ (fun c14 => ?_) (fun c14 => ?_)
    · have c14 : (z6 : Int) = (-1) := c14
      refine yG.ret rfl (fun _ _ => rfl) ?_
      exact (yP.void ⟨⟨rfl, trivial⟩, A_h12⟩)
    · have c14 : (z6 : Int) ≠ (-1) := c14
      refine yG.load xak rfl (fun _ _ => rfl) (v := yR k0) rfl rfl ?_
      refine yG.getS9 A_h12.1 (w_Dispatch_solver W H_k0) qq1 rfl rfl ?_
      refine yG.load xak rfl (fun _ _ => rfl) (v := yR k0) rfl rfl ?_
      refine yG.getS9 A_h12.1 (w_Dispatch_shape W H_k0) qq2 rfl rfl ?_
      refine yG.load xak rfl (fun _ _ => rfl) (v := yR k0) rfl rfl ?_
      refine yG.getS9 A_h12.1 (w_Dispatch_machineOf W H_k0) qq3 rfl rfl ?_
      refine yG.load xik rfl (fun _ _ => rfl) (v := yI (z6)) rfl rfl ?_
      refine yG.iald A_h12.1 (v_Dispatch_machineOf W H_r9) rfl (by omega) (by omega) (fun z15 e_z15 i_z15 l_z15 u_z15 => ?_)
      refine yG.invV (rest := [yR r7]) A_h12.1 (bOb (d_Shape W) H_r8) rfl rfl rfl rfl (c_Shape_rowOfMachine W (d + 1) A_h12.1 H_r8 (z15) (by omega) (by omega)) (fun rv hp9 q9 => ?_)
      obtain ⟨⟨z16, rfl, l_z16, u_z16, R_z16⟩, e9⟩ := q9
      rw [e9]
      show yG _ _ _ _ _ _ _ _ _ _ (yI z16 :: [yR r7]) _
      refine yG.load xik rfl (fun _ _ => rfl) (v := yI (p1)) rfl rfl ?_
      refine yG.load xik rfl (fun _ _ => rfl) (v := yI (1)) rfl rfl ?_
      refine yG.ineg rfl ?_
      refine yG.i2l rfl ⟨by omega, by omega⟩ ?_
      refine yG.invV (rest := []) A_h12.1 (bOb (d_Solver W) H_r7) rfl rfl rfl rfl (c_Solver_plus W d A_h12.1 H_r7 (z16) (p1) (-(1)) (by omega) (by omega) (by omega) (by omega) (by omega) (by omega)) (fun rv h17 q9 => ?_)
      obtain ⟨⟨rfl, R_z18⟩, B_h17⟩ := q9
      have A_h17 := A_h12.tr B_h17 (by decide)
      have qq4 : zsl h17 k0 2 = yR r7 := (B_h17.sl H_k0 (by decide)).trans qq1
      have qq5 : zsl h17 k0 0 = yR r8 := (B_h17.sl H_k0 (by decide)).trans qq2
      have qq6 : zsl h17 k0 4 = yR r9 := (B_h17.sl H_k0 (by decide)).trans qq3
      show yG _ _ _ _ _ _ _ _ _ _ [] _
      refine yG.ret rfl (fun _ _ => rfl) ?_
      exact (yP.void ⟨⟨rfl, trivial⟩, A_h17⟩)
  · have c3 : (z2 : Int) ≠ 0 := c3
    refine yG.num (c := -1) rfl (fun _ _ => rfl) (by decide) ?_
    refine yG.goto rfl (t := 14) rfl ?_
    refine yG.store1 xik (L' := [(3, yI ((-1))), (0, yR k0), (1, yI (p1)), (2, yI (p2))]) rfl (fun _ _ => rfl) rfl rfl ?_
    refine yG.load xak rfl (fun _ _ => rfl) (v := yR k0) rfl rfl ?_
    refine yG.getO A_hp.1 (w_Dispatch_keeper W H_k0) rfl rfl (fun r19 H_r19 O_r19 q_r19 => ?_)
    refine yG.load xak rfl (fun _ _ => rfl) (v := yR k0) rfl rfl ?_
    refine yG.load xik rfl (fun _ _ => rfl) (v := yI (p2)) rfl rfl ?_
    refine yG.invV (rest := [yR r19]) A_hp.1 (bOb (d_Dispatch W) H_k0) rfl rfl rfl rfl (c_Dispatch_islandOf W d A_hp.1 H_k0 (p2) (by omega) (by omega)) (fun rv hp9 q9 => ?_)
    obtain ⟨⟨z20, rfl, l_z20, u_z20, R_z20⟩, e9⟩ := q9
    rw [e9]
    show yG _ _ _ _ _ _ _ _ _ _ (yI z20 :: [yR r19]) _
    refine yG.iald A_hp.1 (v_Dispatch_keeper W H_r19) rfl (by omega) (by omega) (fun z21 e_z21 i_z21 l_z21 u_z21 => ?_)
    refine yG.store1 xik (L' := [(4, yI (z21)), (3, yI ((-1))), (0, yR k0), (1, yI (p1)), (2, yI (p2))]) rfl (fun _ _ => rfl) rfl rfl ?_
    refine yG.load xak rfl (fun _ _ => rfl) (v := yR k0) rfl rfl ?_
    refine yG.getO A_hp.1 (w_Dispatch_solver W H_k0) rfl rfl (fun r22 H_r22 O_r22 q_r22 => ?_)
    refine yG.load xak rfl (fun _ _ => rfl) (v := yR k0) rfl rfl ?_
    refine yG.getO A_hp.1 (w_Dispatch_shape W H_k0) rfl rfl (fun r23 H_r23 O_r23 q_r23 => ?_)
    refine yG.load xak rfl (fun _ _ => rfl) (v := yR k0) rfl rfl ?_
    refine yG.getO A_hp.1 (w_Dispatch_machineOf W H_k0) rfl rfl (fun r24 H_r24 O_r24 q_r24 => ?_)
    refine yG.load xik rfl (fun _ _ => rfl) (v := yI (p2)) rfl rfl ?_
    refine yG.iald A_hp.1 (v_Dispatch_machineOf W H_r24) rfl (by omega) (by omega) (fun z25 e_z25 i_z25 l_z25 u_z25 => ?_)
    refine yG.invV (rest := [yR r22]) A_hp.1 (bOb (d_Shape W) H_r23) rfl rfl rfl rfl (c_Shape_rowOfMachine W (d + 1) A_hp.1 H_r23 (z25) (by omega) (by omega)) (fun rv hp9 q9 => ?_)
    obtain ⟨⟨z26, rfl, l_z26, u_z26, R_z26⟩, e9⟩ := q9
    rw [e9]
    show yG _ _ _ _ _ _ _ _ _ _ (yI z26 :: [yR r22]) _
    refine yG.load xik rfl (fun _ _ => rfl) (v := yI (p1)) rfl rfl ?_
    refine yG.load xik rfl (fun _ _ => rfl) (v := yI ((-1))) rfl rfl ?_
    refine yG.i2l rfl ⟨by omega, by omega⟩ ?_
    refine yG.invV (rest := []) A_hp.1 (bOb (d_Solver W) H_r22) rfl rfl rfl rfl (c_Solver_plus W d A_hp.1 H_r22 (z26) (p1) ((-1)) (by omega) (by omega) (by omega) (by omega) (by omega) (by omega)) (fun rv h27 q9 => ?_)
    obtain ⟨⟨rfl, R_z28⟩, B_h27⟩ := q9
    have A_h27 := A_hp.tr B_h27 (by decide)
    have qq7 : zsl h27 k0 2 = yR r22 := (B_h27.sl H_k0 (by decide)).trans q_r22
    have qq8 : zsl h27 k0 0 = yR r23 := (B_h27.sl H_k0 (by decide)).trans q_r23
    have qq9 : zsl h27 k0 4 = yR r24 := (B_h27.sl H_k0 (by decide)).trans q_r24
    show yG _ _ _ _ _ _ _ _ _ _ [] _
    refine yG.load xik rfl (fun _ _ => rfl) (v := yI (z21)) rfl rfl ?_
    refine yG.num (c := -1) rfl (fun _ _ => rfl) (by decide) ?_
    refine yG.icmp rfl (t := 81) rfl ⟨by omega, by omega⟩ ⟨by omega, by omega⟩ (fun c29 => ?_) (fun c29 => ?_)
    · have c29 : (z21 : Int) = (-1) := c29
      refine yG.ret rfl (fun _ _ => rfl) ?_
      exact (yP.void ⟨⟨rfl, trivial⟩, A_h27⟩)
    · have c29 : (z21 : Int) ≠ (-1) := c29
      refine yG.load xak rfl (fun _ _ => rfl) (v := yR k0) rfl rfl ?_
      refine yG.getS9 A_h27.1 (w_Dispatch_solver W H_k0) qq7 rfl rfl ?_
      refine yG.load xak rfl (fun _ _ => rfl) (v := yR k0) rfl rfl ?_
      refine yG.getS9 A_h27.1 (w_Dispatch_shape W H_k0) qq8 rfl rfl ?_
      refine yG.load xak rfl (fun _ _ => rfl) (v := yR k0) rfl rfl ?_
      refine yG.getS9 A_h27.1 (w_Dispatch_machineOf W H_k0) qq9 rfl rfl ?_
      refine yG.load xik rfl (fun _ _ => rfl) (v := yI (z21)) rfl rfl ?_
      refine yG.iald A_h27.1 (v_Dispatch_machineOf W H_r24) rfl (by omega) (by omega) (fun z30 e_z30 i_z30 l_z30 u_z30 => ?_)
      refine yG.invV (rest := [yR r22]) A_h27.1 (bOb (d_Shape W) H_r23) rfl rfl rfl rfl (c_Shape_rowOfMachine W (d + 1) A_h27.1 H_r23 (z30) (by omega) (by omega)) (fun rv hp9 q9 => ?_)
      obtain ⟨⟨z31, rfl, l_z31, u_z31, R_z31⟩, e9⟩ := q9
      rw [e9]
      show yG _ _ _ _ _ _ _ _ _ _ (yI z31 :: [yR r22]) _
      refine yG.load xik rfl (fun _ _ => rfl) (v := yI (p1)) rfl rfl ?_
      refine yG.load xik rfl (fun _ _ => rfl) (v := yI ((-1))) rfl rfl ?_
      refine yG.ineg rfl ?_
      refine yG.i2l rfl ⟨by omega, by omega⟩ ?_
      refine yG.invV (rest := []) A_h27.1 (bOb (d_Solver W) H_r22) rfl rfl rfl rfl (c_Solver_plus W d A_h27.1 H_r22 (z31) (p1) (-((-1))) (by omega) (by omega) (by omega) (by omega) (by omega) (by omega)) (fun rv h32 q9 => ?_)
      obtain ⟨⟨rfl, R_z33⟩, B_h32⟩ := q9
      have A_h32 := A_h27.tr B_h32 (by decide)
      have qq10 : zsl h32 k0 2 = yR r22 := (B_h32.sl H_k0 (by decide)).trans qq7
      have qq11 : zsl h32 k0 0 = yR r23 := (B_h32.sl H_k0 (by decide)).trans qq8
      have qq12 : zsl h32 k0 4 = yR r24 := (B_h32.sl H_k0 (by decide)).trans qq9
      show yG _ _ _ _ _ _ _ _ _ _ [] _
      refine yG.ret rfl (fun _ _ => rfl) ?_
      exact (yP.void ⟨⟨rfl, trivial⟩, A_h32⟩)
theorem c_Dispatch_foldLines {hp : xH} (W : bW G) (d : Nat) (hT : zTy G hp) {k0 : Nat} (H_k0 : bRo G 96 k0) (p1 p2 : Int) (h1l : 0 ≤ p1) (h1u : p1 ≤ 15) (h2l : (-9223372036854775808) ≤ p2) (h2u : p2 ≤ 9223372036854775807) : yC (xcall 89 xfts xpools xms (d + 4)) 80 [yR k0, yI (p1), yJ (p2)] hp (fun rv hp' => (rv = none ∧ True) ∧ bAx G [(34359738368, 1), (68719476736, 256)] hp hp') := by
  have A_hp : bAx G [(34359738368, 1), (68719476736, 256)] hp hp := bAx.rf hT
  have H : ∀ m : Nat, (∀ a4 : Int, ∀ hq, bAx G [(34359738368, 1), (68719476736, 256)] hp hq → 0 ≤ a4 → (-26) ≤ 0 - a4 → 0 ≤ p1 → (-15) ≤ 0 - p1 → (-9223372036854775808) ≤ p2 → (-9223372036854775807) ≤ 0 - p2 → 0 - 29 * a4 + 782 < (m : Int) → yG 89 xfts (xcall 89 xfts xpools xms (d + 3)) (xpool xp_RX1) [] xt_X1_foldLines (yP 0 (fun rv hp' => (rv = none ∧ True) ∧ bAx G [(34359738368, 1), (68719476736, 256)] hp hp')) (66 * m) 15 [(0, yR k0), (1, yI (p1)), (2, yJ (p2)), (4, yI (a4))] [] hq) ∧ (∀ a4 : Int, ∀ a5 : Int, ∀ a6 : Int, ∀ a7 : Int, ∀ a8 : Int, ∀ a10 : Int, ∀ hq, bAx G [(34359738368, 1), (68719476736, 256)] hp hq → 0 ≤ a4 → (-25) ≤ 0 - a4 → 0 ≤ a5 → (-19) ≤ 0 - a5 → (-1) ≤ a6 → (-15) ≤ 0 - a6 → (-1) ≤ a7 → (-15) ≤ 0 - a7 → (-2147483646) ≤ a8 → (-2147483646) ≤ 0 - a8 → 0 ≤ a10 → (-13) ≤ 0 - a10 → 0 ≤ p1 → (-15) ≤ 0 - p1 → (-9223372036854775808) ≤ p2 → (-9223372036854775807) ≤ 0 - p2 → 0 - 2 * a10 - 29 * a4 + 781 < (m : Int) → yG 89 xfts (xcall 89 xfts xpools xms (d + 3)) (xpool xp_RX1) [] xt_X1_foldLines (yP 0 (fun rv hp' => (rv = none ∧ True) ∧ bAx G [(34359738368, 1), (68719476736, 256)] hp hp')) (66 * m) 99 [(0, yR k0), (1, yI (p1)), (2, yJ (p2)), (4, yI (a4)), (5, yI (a5)), (6, yI (a6)), (7, yI (a7)), (8, yJ (a8)), (10, yI (a10))] [] hq) := by
    intro m
    induction m with
    | zero =>
      refine ⟨?_, ?_⟩ <;> (intros; exfalso; omega)
    | succ m ih =>
      obtain ⟨i_15, i_99⟩ := ih
      refine ⟨?_, ?_⟩
      · intro a4 hq A_hq f0 f1 f2 f3 f4 f5 hm
        refine yG.mono (N := 66 * m + 66) ?_ (by omega)
        refine yG.load xik rfl (fun _ _ => rfl) (v := yI (a4)) rfl rfl ?_
        refine yG.load xak rfl (fun _ _ => rfl) (v := yR k0) rfl rfl ?_
        refine yG.getI A_hq.1 (w_Dispatch_rows W H_k0) rfl rfl (fun z1 e_z1 i_z1 l_z1 u_z1 => ?_)
        refine yG.icmp rfl (t := 240) rfl ⟨by omega, by omega⟩ ⟨by omega, by omega⟩ (fun c2 => ?_) (fun c2 => ?_)
        · have c2 : (a4 : Int) ≥ z1 := c2
          refine yG.ret rfl (fun _ _ => rfl) ?_
          exact (yP.void ⟨⟨rfl, trivial⟩, A_hq⟩)
        · have c2 : (a4 : Int) < z1 := c2
          refine yG.load xak rfl (fun _ _ => rfl) (v := yR k0) rfl rfl ?_
          refine yG.getO A_hq.1 (w_Dispatch_rowVariable W H_k0) rfl rfl (fun r3 H_r3 O_r3 q_r3 => ?_)
          refine yG.load xik rfl (fun _ _ => rfl) (v := yI (a4)) rfl rfl ?_
          refine yG.iald A_hq.1 (v_Dispatch_rowVariable W H_r3) rfl (by omega) (by omega) (fun z4 e_z4 i_z4 l_z4 u_z4 => ?_)
          refine yG.num (c := 12) rfl (fun _ _ => rfl) (by decide) ?_
          refine yG.isub rfl ?_
          obtain ⟨z5, e_z5⟩ : ∃ z : Int, z = z4 - 12 := ⟨_, rfl⟩
          rw [← e_z5]
          refine yG.store1 xik (L' := [(5, yI (z5)), (0, yR k0), (1, yI (p1)), (2, yJ (p2)), (4, yI (a4))]) rfl (fun _ _ => rfl) rfl rfl ?_
          refine yG.load xik rfl (fun _ _ => rfl) (v := yI (z5)) rfl rfl ?_
          refine yG.ifz rfl (t := 234) rfl ⟨by omega, by omega⟩ (fun c6 => ?_) (fun c6 => ?_)
          · have c6 : (z5 : Int) < 0 := c6
            refine yG.iinc rfl (a := a4) rfl (L' := [(4, yI (a4 + 1)), (5, yI (z5)), (0, yR k0), (1, yI (p1)), (2, yJ (p2))]) rfl ?_
            refine yG.goto rfl (t := 15) rfl ?_
            exact yG.mono (yG.sub (i_15 (a4 + 1)  hq A_hq   (by omega) (by omega) (by omega) (by omega) (by omega) (by omega) (by omega)) (ySub.cons rfl (ySub.cons rfl (ySub.cons rfl (ySub.cons rfl (ySub.nil)))))) (by omega)
          · have c6 : (z5 : Int) ≥ 0 := c6
            refine yG.load xak rfl (fun _ _ => rfl) (v := yR k0) rfl rfl ?_
            refine yG.getO A_hq.1 (w_Dispatch_shape W H_k0) rfl rfl (fun r7 H_r7 O_r7 q_r7 => ?_)
            refine yG.load xik rfl (fun _ _ => rfl) (v := yI (z5)) rfl rfl ?_
            refine yG.num (c := 0) rfl (fun _ _ => rfl) (by decide) ?_
            refine yG.invV (rest := []) A_hq.1 (bOb (d_Shape W) H_r7) rfl rfl rfl rfl (c_Shape_rowOfEnd W (d + 2) A_hq.1 H_r7 (z5) (0) (by omega) (by omega) (by omega) (by omega)) (fun rv hp9 q9 => ?_)
            obtain ⟨⟨z8, rfl, l_z8, u_z8, R_z8⟩, e9⟩ := q9
            rw [e9]
            show yG _ _ _ _ _ _ _ _ _ _ (yI z8 :: []) _
            refine yG.store1 xik (L' := [(6, yI (z8)), (5, yI (z5)), (0, yR k0), (1, yI (p1)), (2, yJ (p2)), (4, yI (a4))]) rfl (fun _ _ => rfl) rfl rfl ?_
            refine yG.load xak rfl (fun _ _ => rfl) (v := yR k0) rfl rfl ?_
            refine yG.getS9 A_hq.1 (w_Dispatch_shape W H_k0) q_r7 rfl rfl ?_
            refine yG.load xik rfl (fun _ _ => rfl) (v := yI (z5)) rfl rfl ?_
            refine yG.num (c := 1) rfl (fun _ _ => rfl) (by decide) ?_
            refine yG.invV (rest := []) A_hq.1 (bOb (d_Shape W) H_r7) rfl rfl rfl rfl (c_Shape_rowOfEnd W (d + 2) A_hq.1 H_r7 (z5) (1) (by omega) (by omega) (by omega) (by omega)) (fun rv hp9 q9 => ?_)
            obtain ⟨⟨z9, rfl, l_z9, u_z9, R_z9⟩, e9⟩ := q9
            rw [e9]
            show yG _ _ _ _ _ _ _ _ _ _ (yI z9 :: []) _
            refine yG.store1 xik (L' := [(7, yI (z9)), (6, yI (z8)), (5, yI (z5)), (0, yR k0), (1, yI (p1)), (2, yJ (p2)), (4, yI (a4))]) rfl (fun _ _ => rfl) rfl rfl ?_
            refine yG.load xak rfl (fun _ _ => rfl) (v := yR k0) rfl rfl ?_
            refine yG.getO A_hq.1 (w_Dispatch_solver W H_k0) rfl rfl (fun r10 H_r10 O_r10 q_r10 => ?_)
            refine yG.load xak rfl (fun _ _ => rfl) (v := yR k0) rfl rfl ?_
            refine yG.getO A_hq.1 (w_Dispatch_net W H_k0) rfl rfl (fun r11 H_r11 O_r11 q_r11 => ?_)
            refine yG.num (c := 2) rfl (fun _ _ => rfl) (by decide) ?_
            refine yG.load xik rfl (fun _ _ => rfl) (v := yI (z5)) rfl rfl ?_
            refine yG.num (c := 1) rfl (fun _ _ => rfl) (by decide) ?_
            refine yG.invV (rest := [yR r10]) A_hq.1 (bOb (d_Net W) H_r11) rfl rfl rfl rfl (c_Net_at_2_1 W (d + 2) A_hq.1 H_r11 (z5) (by omega) (by omega)) (fun rv hp9 q9 => ?_)
            obtain ⟨⟨z12, rfl, l_z12, u_z12, R_z12⟩, e9⟩ := q9
            rw [e9]
            show yG _ _ _ _ _ _ _ _ _ _ (yI z12 :: [yR r10]) _
            refine yG.i2l rfl ⟨by omega, by omega⟩ ?_
            refine yG.invV (rest := []) A_hq.1 (bOb (d_Solver W) H_r10) rfl rfl rfl rfl (c_Solver_inverse W (d + 2) A_hq.1 H_r10 (z12) (by omega) (by omega)) (fun rv hp9 q9 => ?_)
            obtain ⟨⟨z13, rfl, l_z13, u_z13, R_z13⟩, e9⟩ := q9
            rw [e9]
            show yG _ _ _ _ _ _ _ _ _ _ (yJ z13 :: []) _
            refine yG.load xlk2 rfl (fun _ _ => rfl) (v := yJ (p2)) rfl rfl ?_
            refine yG.lmul rfl ?_
            obtain ⟨z14, e_z14⟩ : ∃ z : Int, z = z13 * p2 := ⟨_, rfl⟩
            rw [← e_z14]
            have b_z14 : -85070591730234615856620279821087277056 ≤ z14 ∧ z14 ≤ 85070591730234615856620279821087277056 := e_z14 ▸ ymuls (A := 9223372036854775807) (B := 9223372036854775808) (by omega) (by omega) (by omega) (by omega) (by decide)
            refine yG.load xak rfl (fun _ _ => rfl) (v := yR k0) rfl rfl ?_
            refine yG.getS9 A_hq.1 (w_Dispatch_solver W H_k0) q_r10 rfl rfl ?_
            refine yG.getJ A_hq.1 (w_Solver_prime W H_r10) rfl rfl (fun z15 e_z15 i_z15 l_z15 u_z15 => ?_)
            obtain ⟨z16, e_z16, l_z16, u_z16⟩ := ywJ (z14)
            rw [e_z16]
            refine yG.lremS rfl ⟨by omega, by omega⟩ ⟨by omega, by omega⟩ (by omega) (fun z17 l_z17 u_z17 => ?_)
            refine yG.store2 xlk2 (L' := [(8, yJ (z17)), (7, yI (z9)), (6, yI (z8)), (5, yI (z5)), (0, yR k0), (1, yI (p1)), (2, yJ (p2)), (4, yI (a4))]) rfl (fun _ _ => rfl) rfl rfl ?_
            refine yG.num (c := 0) rfl (fun _ _ => rfl) (by decide) ?_
            refine yG.store1 xik (L' := [(10, yI (0)), (8, yJ (z17)), (7, yI (z9)), (6, yI (z8)), (5, yI (z5)), (0, yR k0), (1, yI (p1)), (2, yJ (p2)), (4, yI (a4))]) rfl (fun _ _ => rfl) rfl rfl ?_
            exact yG.mono (yG.sub (i_99 (a4) (z5) (z8) (z9) (z17) (0)  hq A_hq   (by omega) (by omega) (by omega) (by omega) (by omega) (by omega) (by omega) (by omega) (by omega) (by omega) (by omega) (by omega) (by omega) (by omega) (by omega) (by omega) (by omega)) (ySub.cons rfl (ySub.cons rfl (ySub.cons rfl (ySub.cons rfl (ySub.cons rfl (ySub.cons rfl (ySub.cons rfl (ySub.cons rfl (ySub.cons rfl (ySub.nil))))))))))) (by omega)
      · intro a4 a5 a6 a7 a8 a10 hq A_hq f0 f1 f2 f3 f4 f5 f6 f7 f8 f9 f10 f11 f12 f13 f14 f15 hm
        refine yG.mono (N := 66 * m + 66) ?_ (by omega)
        refine yG.load xik rfl (fun _ _ => rfl) (v := yI (a10)) rfl rfl ?_
        refine yG.load xak rfl (fun _ _ => rfl) (v := yR k0) rfl rfl ?_
        refine yG.getI A_hq.1 (w_Dispatch_columns W H_k0) rfl rfl (fun z1 e_z1 i_z1 l_z1 u_z1 => ?_)
        refine yG.icmp rfl (t := 234) rfl ⟨by omega, by omega⟩ ⟨by omega, by omega⟩ (fun c2 => ?_) (fun c2 => ?_)
        · have c2 : (a10 : Int) ≥ z1 := c2
          refine yG.iinc rfl (a := a4) rfl (L' := [(4, yI (a4 + 1)), (0, yR k0), (1, yI (p1)), (2, yJ (p2)), (5, yI (a5)), (6, yI (a6)), (7, yI (a7)), (8, yJ (a8)), (10, yI (a10))]) rfl ?_
          refine yG.goto rfl (t := 15) rfl ?_
          exact yG.mono (yG.sub (i_15 (a4 + 1)  hq A_hq   (by omega) (by omega) (by omega) (by omega) (by omega) (by omega) (by omega)) (ySub.cons rfl (ySub.cons rfl (ySub.cons rfl (ySub.cons rfl (ySub.nil)))))) (by omega)
        · have c2 : (a10 : Int) < z1 := c2
          refine yG.load xik rfl (fun _ _ => rfl) (v := yI (a6)) rfl rfl ?_
          refine yG.ifz rfl (t := 117) rfl ⟨by omega, by omega⟩ (fun c3 => ?_) (fun c3 => ?_)
          · have c3 : (a6 : Int) ≥ 0 := c3
            refine yG.load xak rfl (fun _ _ => rfl) (v := yR k0) rfl rfl ?_
            refine yG.getO A_hq.1 (w_Dispatch_solver W H_k0) rfl rfl (fun r4 H_r4 O_r4 q_r4 => ?_)
            refine yG.getO A_hq.1 (w_Solver_cell W H_r4) rfl rfl (fun r5 H_r5 O_r5 q_r5 => ?_)
            refine yG.load xik rfl (fun _ _ => rfl) (v := yI (a6)) rfl rfl ?_
            refine yG.aaldO (r := 42) A_hq.1 (v_Solver_cell W H_r5) rfl rfl rfl (by omega) (by omega) (fun r6 H_r6 q_r6 => ?_)
            refine yG.load xik rfl (fun _ _ => rfl) (v := yI (p1)) rfl rfl ?_
            refine yG.load xik rfl (fun _ _ => rfl) (v := yI (a10)) rfl rfl ?_
            refine yG.iadd rfl ?_
            refine yG.lald A_hq.1 (v_Solver_cells W H_r6) rfl (by omega) (by omega) (fun z7 e_z7 i_z7 l_z7 u_z7 => ?_)
            refine yG.load xik rfl (fun _ _ => rfl) (v := yI (a7)) rfl rfl ?_
            refine yG.ifz rfl (t := 141) rfl ⟨by omega, by omega⟩ (fun c8 => ?_) (fun c8 => ?_)
            · have c8 : (a7 : Int) ≥ 0 := c8
              refine yG.load xak rfl (fun _ _ => rfl) (v := yR k0) rfl rfl ?_
              refine yG.getS9 A_hq.1 (w_Dispatch_solver W H_k0) q_r4 rfl rfl ?_
              refine yG.getS9 A_hq.1 (w_Solver_cell W H_r4) q_r5 rfl rfl ?_
              refine yG.load xik rfl (fun _ _ => rfl) (v := yI (a7)) rfl rfl ?_
              refine yG.aaldO (r := 42) A_hq.1 (v_Solver_cell W H_r5) rfl rfl rfl (by omega) (by omega) (fun r9 H_r9 q_r9 => ?_)
              refine yG.load xik rfl (fun _ _ => rfl) (v := yI (p1)) rfl rfl ?_
              refine yG.load xik rfl (fun _ _ => rfl) (v := yI (a10)) rfl rfl ?_
              refine yG.iadd rfl ?_
              refine yG.lald A_hq.1 (v_Solver_cells W H_r9) rfl (by omega) (by omega) (fun z10 e_z10 i_z10 l_z10 u_z10 => ?_)
              refine yG.lsub rfl ?_
              obtain ⟨z11, e_z11, l_z11, u_z11⟩ := ywJ (z7 - z10)
              rw [e_z11]
              refine yG.store2 xlk2 (L' := [(11, yJ (z11)), (0, yR k0), (1, yI (p1)), (2, yJ (p2)), (4, yI (a4)), (5, yI (a5)), (6, yI (a6)), (7, yI (a7)), (8, yJ (a8)), (10, yI (a10))]) rfl (fun _ _ => rfl) rfl rfl ?_
              refine yG.load xik rfl (fun _ _ => rfl) (v := yI (a10)) rfl rfl ?_
              refine yG.ifz rfl (t := 181) rfl ⟨by omega, by omega⟩ (fun c12 => ?_) (fun c12 => ?_)
              · have c12 : (a10 : Int) ≠ 0 := c12
                refine yG.numl (c := 0) rfl (fun _ _ => rfl) (by decide) ?_
                refine yG.store2 xlk2 (L' := [(13, yJ (0)), (11, yJ (z11)), (0, yR k0), (1, yI (p1)), (2, yJ (p2)), (4, yI (a4)), (5, yI (a5)), (6, yI (a6)), (7, yI (a7)), (8, yJ (a8)), (10, yI (a10))]) rfl (fun _ _ => rfl) rfl rfl ?_
                refine yG.load xak rfl (fun _ _ => rfl) (v := yR k0) rfl rfl ?_
                refine yG.getS9 A_hq.1 (w_Dispatch_solver W H_k0) q_r4 rfl rfl ?_
                refine yG.load xak rfl (fun _ _ => rfl) (v := yR k0) rfl rfl ?_
                refine yG.load xik rfl (fun _ _ => rfl) (v := yI (a4)) rfl rfl ?_
                refine yG.load xik rfl (fun _ _ => rfl) (v := yI (a10)) rfl rfl ?_
                refine yG.invV (rest := [yR r4]) A_hq.1 (bOb (d_Dispatch W) H_k0) rfl rfl rfl rfl (c_Dispatch_at W (d + 2) A_hq.1 H_k0 (a4) (a10) (by omega) (by omega) (by omega) (by omega)) (fun rv hp9 q9 => ?_)
                obtain ⟨⟨r13, rfl, H_r13⟩, e9⟩ := q9
                rw [e9]
                obtain ⟨n_r13, N_r13⟩ : ∃ n : Int, n = ((zat G r13 : Nat) : Int) := ⟨_, rfl⟩
                have L_r13 := n_Big W H_r13
                show yG _ _ _ _ _ _ _ _ _ _ (yR r13 :: [yR r4]) _
                refine yG.load xak rfl (fun _ _ => rfl) (v := yR k0) rfl rfl ?_
                refine yG.getS9 A_hq.1 (w_Dispatch_solver W H_k0) q_r4 rfl rfl ?_
                refine yG.load xak rfl (fun _ _ => rfl) (v := yR k0) rfl rfl ?_
                refine yG.getS9 A_hq.1 (w_Dispatch_solver W H_k0) q_r4 rfl rfl ?_
                refine yG.load xlk2 rfl (fun _ _ => rfl) (v := yJ (z11)) rfl rfl ?_
                refine yG.invV (rest := [yR r4, yR r13, yR r4]) A_hq.1 (bOb (d_Solver W) H_r4) rfl rfl rfl rfl (c_Solver_residue W (d + 2) A_hq.1 H_r4 (z11) (by omega) (by omega)) (fun rv hp9 q9 => ?_)
                obtain ⟨⟨z14, rfl, l_z14, u_z14, R_z14⟩, e9⟩ := q9
                rw [e9]
                show yG _ _ _ _ _ _ _ _ _ _ (yJ z14 :: [yR r4, yR r13, yR r4]) _
                refine yG.load xlk2 rfl (fun _ _ => rfl) (v := yJ (a8)) rfl rfl ?_
                refine yG.lmul rfl ?_
                obtain ⟨z15, e_z15⟩ : ∃ z : Int, z = z14 * a8 := ⟨_, rfl⟩
                rw [← e_z15]
                have b_z15 : -4611686009837453316 ≤ z15 ∧ z15 ≤ 4611686009837453316 := e_z15 ▸ ymuls (A := 2147483646) (B := 2147483646) (by omega) (by omega) (by omega) (by omega) (by decide)
                refine yG.load xak rfl (fun _ _ => rfl) (v := yR k0) rfl rfl ?_
                refine yG.getS9 A_hq.1 (w_Dispatch_solver W H_k0) q_r4 rfl rfl ?_
                refine yG.load xlk2 rfl (fun _ _ => rfl) (v := yJ (0)) rfl rfl ?_
                refine yG.invV (rest := [yJ (z15), yR r4, yR r13, yR r4]) A_hq.1 (bOb (d_Solver W) H_r4) rfl rfl rfl rfl (c_Solver_residue W (d + 2) A_hq.1 H_r4 (0) (by omega) (by omega)) (fun rv hp9 q9 => ?_)
                obtain ⟨⟨z16, rfl, l_z16, u_z16, R_z16⟩, e9⟩ := q9
                rw [e9]
                show yG _ _ _ _ _ _ _ _ _ _ (yJ z16 :: [yJ (z15), yR r4, yR r13, yR r4]) _
                refine yG.ladd rfl ?_
                refine yG.invV (rest := [yR r13, yR r4]) A_hq.1 (bOb (d_Solver W) H_r4) rfl rfl rfl rfl (c_Solver_residue W (d + 2) A_hq.1 H_r4 (z15 + z16) (by omega) (by omega)) (fun rv hp9 q9 => ?_)
                obtain ⟨⟨z17, rfl, l_z17, u_z17, R_z17⟩, e9⟩ := q9
                rw [e9]
                show yG _ _ _ _ _ _ _ _ _ _ (yJ z17 :: [yR r13, yR r4]) _
                refine yG.invV (rest := []) A_hq.1 (bOb (d_Solver W) H_r4) rfl rfl rfl rfl (c_Solver_fold W d A_hq.1 H_r4 H_r13 (z17) (by omega) (by omega)) (fun rv h18 q9 => ?_)
                obtain ⟨⟨rfl, R_z19⟩, B_h18⟩ := q9
                have A_h18 := A_hq.tr B_h18 (by decide)
                have qq1 : zsl h18 k0 2 = yR r4 := (B_h18.sl H_k0 (by decide)).trans q_r4
                have qq2 : zsl h18 r4 0 = yR r5 := (B_h18.sl H_r4 (by decide)).trans q_r5
                show yG _ _ _ _ _ _ _ _ _ _ [] _
                refine yG.iinc rfl (a := a10) rfl (L' := [(10, yI (a10 + 1)), (13, yJ (0)), (11, yJ (z11)), (0, yR k0), (1, yI (p1)), (2, yJ (p2)), (4, yI (a4)), (5, yI (a5)), (6, yI (a6)), (7, yI (a7)), (8, yJ (a8))]) rfl ?_
                refine yG.goto rfl (t := 99) rfl ?_
                exact yG.mono (yG.sub (i_99 (a4) (a5) (a6) (a7) (a8) (a10 + 1)  h18 A_h18   (by omega) (by omega) (by omega) (by omega) (by omega) (by omega) (by omega) (by omega) (by omega) (by omega) (by omega) (by omega) (by omega) (by omega) (by omega) (by omega) (by omega)) (ySub.cons rfl (ySub.cons rfl (ySub.cons rfl (ySub.cons rfl (ySub.cons rfl (ySub.cons rfl (ySub.cons rfl (ySub.cons rfl (ySub.cons rfl (ySub.nil))))))))))) (by omega)
              · have c12 : (a10 : Int) = 0 := c12
                refine yG.load xak rfl (fun _ _ => rfl) (v := yR k0) rfl rfl ?_
                refine yG.getO A_hq.1 (w_Dispatch_net W H_k0) rfl rfl (fun r20 H_r20 O_r20 q_r20 => ?_)
                refine yG.num (c := 2) rfl (fun _ _ => rfl) (by decide) ?_
                refine yG.load xik rfl (fun _ _ => rfl) (v := yI (a5)) rfl rfl ?_
                refine yG.num (c := 3) rfl (fun _ _ => rfl) (by decide) ?_
                refine yG.invV (rest := []) A_hq.1 (bOb (d_Net W) H_r20) rfl rfl rfl rfl (c_Net_at_2_3 W (d + 2) A_hq.1 H_r20 (a5) (by omega) (by omega)) (fun rv hp9 q9 => ?_)
                obtain ⟨⟨z21, rfl, l_z21, u_z21, R_z21⟩, e9⟩ := q9
                rw [e9]
                show yG _ _ _ _ _ _ _ _ _ _ (yI z21 :: []) _
                refine yG.i2l rfl ⟨by omega, by omega⟩ ?_
                refine yG.load xlk2 rfl (fun _ _ => rfl) (v := yJ (p2)) rfl rfl ?_
                refine yG.lmul rfl ?_
                obtain ⟨z22, e_z22⟩ : ∃ z : Int, z = z21 * p2 := ⟨_, rfl⟩
                rw [← e_z22]
                have b_z22 : -92224496996510903304192 ≤ z22 ∧ z22 ≤ 92224496996510903304192 := e_z22 ▸ ymuls (A := 9999) (B := 9223372036854775808) (by omega) (by omega) (by omega) (by omega) (by decide)
                refine yG.goto rfl (t := 182) rfl ?_
                obtain ⟨z23, e_z23, l_z23, u_z23⟩ := ywJ (z22)
                rw [e_z23]
                refine yG.store2 xlk2 (L' := [(13, yJ (z23)), (11, yJ (z11)), (0, yR k0), (1, yI (p1)), (2, yJ (p2)), (4, yI (a4)), (5, yI (a5)), (6, yI (a6)), (7, yI (a7)), (8, yJ (a8)), (10, yI (a10))]) rfl (fun _ _ => rfl) rfl rfl ?_
                refine yG.load xak rfl (fun _ _ => rfl) (v := yR k0) rfl rfl ?_
                refine yG.getS9 A_hq.1 (w_Dispatch_solver W H_k0) q_r4 rfl rfl ?_
                refine yG.load xak rfl (fun _ _ => rfl) (v := yR k0) rfl rfl ?_
                refine yG.load xik rfl (fun _ _ => rfl) (v := yI (a4)) rfl rfl ?_
                refine yG.load xik rfl (fun _ _ => rfl) (v := yI (a10)) rfl rfl ?_
                refine yG.invV (rest := [yR r4]) A_hq.1 (bOb (d_Dispatch W) H_k0) rfl rfl rfl rfl (c_Dispatch_at W (d + 2) A_hq.1 H_k0 (a4) (a10) (by omega) (by omega) (by omega) (by omega)) (fun rv hp9 q9 => ?_)
                obtain ⟨⟨r24, rfl, H_r24⟩, e9⟩ := q9
                rw [e9]
                obtain ⟨n_r24, N_r24⟩ : ∃ n : Int, n = ((zat G r24 : Nat) : Int) := ⟨_, rfl⟩
                have L_r24 := n_Big W H_r24
                show yG _ _ _ _ _ _ _ _ _ _ (yR r24 :: [yR r4]) _
                refine yG.load xak rfl (fun _ _ => rfl) (v := yR k0) rfl rfl ?_
                refine yG.getS9 A_hq.1 (w_Dispatch_solver W H_k0) q_r4 rfl rfl ?_
                refine yG.load xak rfl (fun _ _ => rfl) (v := yR k0) rfl rfl ?_
                refine yG.getS9 A_hq.1 (w_Dispatch_solver W H_k0) q_r4 rfl rfl ?_
                refine yG.load xlk2 rfl (fun _ _ => rfl) (v := yJ (z11)) rfl rfl ?_
                refine yG.invV (rest := [yR r4, yR r24, yR r4]) A_hq.1 (bOb (d_Solver W) H_r4) rfl rfl rfl rfl (c_Solver_residue W (d + 2) A_hq.1 H_r4 (z11) (by omega) (by omega)) (fun rv hp9 q9 => ?_)
                obtain ⟨⟨z25, rfl, l_z25, u_z25, R_z25⟩, e9⟩ := q9
                rw [e9]
                show yG _ _ _ _ _ _ _ _ _ _ (yJ z25 :: [yR r4, yR r24, yR r4]) _
                refine yG.load xlk2 rfl (fun _ _ => rfl) (v := yJ (a8)) rfl rfl ?_
                refine yG.lmul rfl ?_
                obtain ⟨z26, e_z26⟩ : ∃ z : Int, z = z25 * a8 := ⟨_, rfl⟩
                rw [← e_z26]
                have b_z26 : -4611686009837453316 ≤ z26 ∧ z26 ≤ 4611686009837453316 := e_z26 ▸ ymuls (A := 2147483646) (B := 2147483646) (by omega) (by omega) (by omega) (by omega) (by decide)
                refine yG.load xak rfl (fun _ _ => rfl) (v := yR k0) rfl rfl ?_
                refine yG.getS9 A_hq.1 (w_Dispatch_solver W H_k0) q_r4 rfl rfl ?_
                refine yG.load xlk2 rfl (fun _ _ => rfl) (v := yJ (z23)) rfl rfl ?_
                refine yG.invV (rest := [yJ (z26), yR r4, yR r24, yR r4]) A_hq.1 (bOb (d_Solver W) H_r4) rfl rfl rfl rfl (c_Solver_residue W (d + 2) A_hq.1 H_r4 (z23) (by omega) (by omega)) (fun rv hp9 q9 => ?_)
                obtain ⟨⟨z27, rfl, l_z27, u_z27, R_z27⟩, e9⟩ := q9
                rw [e9]
                show yG _ _ _ _ _ _ _ _ _ _ (yJ z27 :: [yJ (z26), yR r4, yR r24, yR r4]) _
                refine yG.ladd rfl ?_
                refine yG.invV (rest := [yR r24, yR r4]) A_hq.1 (bOb (d_Solver W) H_r4) rfl rfl rfl rfl (c_Solver_residue W (d + 2) A_hq.1 H_r4 (z26 + z27) (by omega) (by omega)) (fun rv hp9 q9 => ?_)
                obtain ⟨⟨z28, rfl, l_z28, u_z28, R_z28⟩, e9⟩ := q9
                rw [e9]
                show yG _ _ _ _ _ _ _ _ _ _ (yJ z28 :: [yR r24, yR r4]) _
                refine yG.invV (rest := []) A_hq.1 (bOb (d_Solver W) H_r4) rfl rfl rfl rfl (c_Solver_fold W d A_hq.1 H_r4 H_r24 (z28) (by omega) (by omega)) (fun rv h29 q9 => ?_)
                obtain ⟨⟨rfl, R_z30⟩, B_h29⟩ := q9
                have A_h29 := A_hq.tr B_h29 (by decide)
                have qq3 : zsl h29 k0 2 = yR r4 := (B_h29.sl H_k0 (by decide)).trans q_r4
                have qq4 : zsl h29 r4 0 = yR r5 := (B_h29.sl H_r4 (by decide)).trans q_r5
                show yG _ _ _ _ _ _ _ _ _ _ [] _
                refine yG.iinc rfl (a := a10) rfl (L' := [(10, yI (a10 + 1)), (13, yJ (z23)), (11, yJ (z11)), (0, yR k0), (1, yI (p1)), (2, yJ (p2)), (4, yI (a4)), (5, yI (a5)), (6, yI (a6)), (7, yI (a7)), (8, yJ (a8))]) rfl ?_
                refine yG.goto rfl (t := 99) rfl ?_
                exact yG.mono (yG.sub (i_99 (a4) (a5) (a6) (a7) (a8) (a10 + 1)  h29 A_h29   (by omega) (by omega) (by omega) (by omega) (by omega) (by omega) (by omega) (by omega) (by omega) (by omega) (by omega) (by omega) (by omega) (by omega) (by omega) (by omega) (by omega)) (ySub.cons rfl (ySub.cons rfl (ySub.cons rfl (ySub.cons rfl (ySub.cons rfl (ySub.cons rfl (ySub.cons rfl (ySub.cons rfl (ySub.cons rfl (ySub.nil))))))))))) (by omega)
            · have c8 : (a7 : Int) < 0 := c8
              refine yG.numl (c := 0) rfl (fun _ _ => rfl) (by decide) ?_
              refine yG.goto rfl (t := 156) rfl ?_
              refine yG.lsub rfl ?_
              obtain ⟨z31, e_z31⟩ : ∃ z : Int, z = z7 - 0 := ⟨_, rfl⟩
              rw [← e_z31]
              refine yG.store2 xlk2 (L' := [(11, yJ (z31)), (0, yR k0), (1, yI (p1)), (2, yJ (p2)), (4, yI (a4)), (5, yI (a5)), (6, yI (a6)), (7, yI (a7)), (8, yJ (a8)), (10, yI (a10))]) rfl (fun _ _ => rfl) rfl rfl ?_
              refine yG.load xik rfl (fun _ _ => rfl) (v := yI (a10)) rfl rfl ?_
              refine yG.ifz rfl (t := 181) rfl ⟨by omega, by omega⟩ (fun c32 => ?_) (fun c32 => ?_)
              · have c32 : (a10 : Int) ≠ 0 := c32
                refine yG.numl (c := 0) rfl (fun _ _ => rfl) (by decide) ?_
                refine yG.store2 xlk2 (L' := [(13, yJ (0)), (11, yJ (z31)), (0, yR k0), (1, yI (p1)), (2, yJ (p2)), (4, yI (a4)), (5, yI (a5)), (6, yI (a6)), (7, yI (a7)), (8, yJ (a8)), (10, yI (a10))]) rfl (fun _ _ => rfl) rfl rfl ?_
                refine yG.load xak rfl (fun _ _ => rfl) (v := yR k0) rfl rfl ?_
                refine yG.getS9 A_hq.1 (w_Dispatch_solver W H_k0) q_r4 rfl rfl ?_
                refine yG.load xak rfl (fun _ _ => rfl) (v := yR k0) rfl rfl ?_
                refine yG.load xik rfl (fun _ _ => rfl) (v := yI (a4)) rfl rfl ?_
                refine yG.load xik rfl (fun _ _ => rfl) (v := yI (a10)) rfl rfl ?_
                refine yG.invV (rest := [yR r4]) A_hq.1 (bOb (d_Dispatch W) H_k0) rfl rfl rfl rfl (c_Dispatch_at W (d + 2) A_hq.1 H_k0 (a4) (a10) (by omega) (by omega) (by omega) (by omega)) (fun rv hp9 q9 => ?_)
                obtain ⟨⟨r33, rfl, H_r33⟩, e9⟩ := q9
                rw [e9]
                obtain ⟨n_r33, N_r33⟩ : ∃ n : Int, n = ((zat G r33 : Nat) : Int) := ⟨_, rfl⟩
                have L_r33 := n_Big W H_r33
                show yG _ _ _ _ _ _ _ _ _ _ (yR r33 :: [yR r4]) _
                refine yG.load xak rfl (fun _ _ => rfl) (v := yR k0) rfl rfl ?_
                refine yG.getS9 A_hq.1 (w_Dispatch_solver W H_k0) q_r4 rfl rfl ?_
                refine yG.load xak rfl (fun _ _ => rfl) (v := yR k0) rfl rfl ?_
                refine yG.getS9 A_hq.1 (w_Dispatch_solver W H_k0) q_r4 rfl rfl ?_
                refine yG.load xlk2 rfl (fun _ _ => rfl) (v := yJ (z31)) rfl rfl ?_
                refine yG.invV (rest := [yR r4, yR r33, yR r4]) A_hq.1 (bOb (d_Solver W) H_r4) rfl rfl rfl rfl (c_Solver_residue W (d + 2) A_hq.1 H_r4 (z31) (by omega) (by omega)) (fun rv hp9 q9 => ?_)
                obtain ⟨⟨z34, rfl, l_z34, u_z34, R_z34⟩, e9⟩ := q9
                rw [e9]
                show yG _ _ _ _ _ _ _ _ _ _ (yJ z34 :: [yR r4, yR r33, yR r4]) _
                refine yG.load xlk2 rfl (fun _ _ => rfl) (v := yJ (a8)) rfl rfl ?_
                refine yG.lmul rfl ?_
                obtain ⟨z35, e_z35⟩ : ∃ z : Int, z = z34 * a8 := ⟨_, rfl⟩
                rw [← e_z35]
                have b_z35 : -4611686009837453316 ≤ z35 ∧ z35 ≤ 4611686009837453316 := e_z35 ▸ ymuls (A := 2147483646) (B := 2147483646) (by omega) (by omega) (by omega) (by omega) (by decide)
                refine yG.load xak rfl (fun _ _ => rfl) (v := yR k0) rfl rfl ?_
                refine yG.getS9 A_hq.1 (w_Dispatch_solver W H_k0) q_r4 rfl rfl ?_
                refine yG.load xlk2 rfl (fun _ _ => rfl) (v := yJ (0)) rfl rfl ?_
                refine yG.invV (rest := [yJ (z35), yR r4, yR r33, yR r4]) A_hq.1 (bOb (d_Solver W) H_r4) rfl rfl rfl rfl (c_Solver_residue W (d + 2) A_hq.1 H_r4 (0) (by omega) (by omega)) (fun rv hp9 q9 => ?_)
                obtain ⟨⟨z36, rfl, l_z36, u_z36, R_z36⟩, e9⟩ := q9
                rw [e9]
                show yG _ _ _ _ _ _ _ _ _ _ (yJ z36 :: [yJ (z35), yR r4, yR r33, yR r4]) _
                refine yG.ladd rfl ?_
                refine yG.invV (rest := [yR r33, yR r4]) A_hq.1 (bOb (d_Solver W) H_r4) rfl rfl rfl rfl (c_Solver_residue W (d + 2) A_hq.1 H_r4 (z35 + z36) (by omega) (by omega)) (fun rv hp9 q9 => ?_)
                obtain ⟨⟨z37, rfl, l_z37, u_z37, R_z37⟩, e9⟩ := q9
                rw [e9]
                show yG _ _ _ _ _ _ _ _ _ _ (yJ z37 :: [yR r33, yR r4]) _
                refine yG.invV (rest := []) A_hq.1 (bOb (d_Solver W) H_r4) rfl rfl rfl rfl (c_Solver_fold W d A_hq.1 H_r4 H_r33 (z37) (by omega) (by omega)) (fun rv h38 q9 => ?_)
                obtain ⟨⟨rfl, R_z39⟩, B_h38⟩ := q9
                have A_h38 := A_hq.tr B_h38 (by decide)
                have qq5 : zsl h38 k0 2 = yR r4 := (B_h38.sl H_k0 (by decide)).trans q_r4
                have qq6 : zsl h38 r4 0 = yR r5 := (B_h38.sl H_r4 (by decide)).trans q_r5
                show yG _ _ _ _ _ _ _ _ _ _ [] _
                refine yG.iinc rfl (a := a10) rfl (L' := [(10, yI (a10 + 1)), (13, yJ (0)), (11, yJ (z31)), (0, yR k0), (1, yI (p1)), (2, yJ (p2)), (4, yI (a4)), (5, yI (a5)), (6, yI (a6)), (7, yI (a7)), (8, yJ (a8))]) rfl ?_
                refine yG.goto rfl (t := 99) rfl ?_
                exact yG.mono (yG.sub (i_99 (a4) (a5) (a6) (a7) (a8) (a10 + 1)  h38 A_h38   (by omega) (by omega) (by omega) (by omega) (by omega) (by omega) (by omega) (by omega) (by omega) (by omega) (by omega) (by omega) (by omega) (by omega) (by omega) (by omega) (by omega)) (ySub.cons rfl (ySub.cons rfl (ySub.cons rfl (ySub.cons rfl (ySub.cons rfl (ySub.cons rfl (ySub.cons rfl (ySub.cons rfl (ySub.cons rfl (ySub.nil))))))))))) (by omega)
              · have c32 : (a10 : Int) = 0 := c32
                refine yG.load xak rfl (fun _ _ => rfl) (v := yR k0) rfl rfl ?_
                refine yG.getO A_hq.1 (w_Dispatch_net W H_k0) rfl rfl (fun r40 H_r40 O_r40 q_r40 => ?_)
                refine yG.num (c := 2) rfl (fun _ _ => rfl) (by decide) ?_
                refine yG.load xik rfl (fun _ _ => rfl) (v := yI (a5)) rfl rfl ?_
                refine yG.num (c := 3) rfl (fun _ _ => rfl) (by decide) ?_
                refine yG.invV (rest := []) A_hq.1 (bOb (d_Net W) H_r40) rfl rfl rfl rfl (c_Net_at_2_3 W (d + 2) A_hq.1 H_r40 (a5) (by omega) (by omega)) (fun rv hp9 q9 => ?_)
                obtain ⟨⟨z41, rfl, l_z41, u_z41, R_z41⟩, e9⟩ := q9
                rw [e9]
                show yG _ _ _ _ _ _ _ _ _ _ (yI z41 :: []) _
                refine yG.i2l rfl ⟨by omega, by omega⟩ ?_
                refine yG.load xlk2 rfl (fun _ _ => rfl) (v := yJ (p2)) rfl rfl ?_
                refine yG.lmul rfl ?_
                obtain ⟨z42, e_z42⟩ : ∃ z : Int, z = z41 * p2 := ⟨_, rfl⟩
                rw [← e_z42]
                have b_z42 : -92224496996510903304192 ≤ z42 ∧ z42 ≤ 92224496996510903304192 := e_z42 ▸ ymuls (A := 9999) (B := 9223372036854775808) (by omega) (by omega) (by omega) (by omega) (by decide)
                refine yG.goto rfl (t := 182) rfl ?_
                obtain ⟨z43, e_z43, l_z43, u_z43⟩ := ywJ (z42)
                rw [e_z43]
                refine yG.store2 xlk2 (L' := [(13, yJ (z43)), (11, yJ (z31)), (0, yR k0), (1, yI (p1)), (2, yJ (p2)), (4, yI (a4)), (5, yI (a5)), (6, yI (a6)), (7, yI (a7)), (8, yJ (a8)), (10, yI (a10))]) rfl (fun _ _ => rfl) rfl rfl ?_
                refine yG.load xak rfl (fun _ _ => rfl) (v := yR k0) rfl rfl ?_
                refine yG.getS9 A_hq.1 (w_Dispatch_solver W H_k0) q_r4 rfl rfl ?_
                refine yG.load xak rfl (fun _ _ => rfl) (v := yR k0) rfl rfl ?_
                refine yG.load xik rfl (fun _ _ => rfl) (v := yI (a4)) rfl rfl ?_
                refine yG.load xik rfl (fun _ _ => rfl) (v := yI (a10)) rfl rfl ?_
                refine yG.invV (rest := [yR r4]) A_hq.1 (bOb (d_Dispatch W) H_k0) rfl rfl rfl rfl (c_Dispatch_at W (d + 2) A_hq.1 H_k0 (a4) (a10) (by omega) (by omega) (by omega) (by omega)) (fun rv hp9 q9 => ?_)
                obtain ⟨⟨r44, rfl, H_r44⟩, e9⟩ := q9
                rw [e9]
                obtain ⟨n_r44, N_r44⟩ : ∃ n : Int, n = ((zat G r44 : Nat) : Int) := ⟨_, rfl⟩
                have L_r44 := n_Big W H_r44
                show yG _ _ _ _ _ _ _ _ _ _ (yR r44 :: [yR r4]) _
                refine yG.load xak rfl (fun _ _ => rfl) (v := yR k0) rfl rfl ?_
                refine yG.getS9 A_hq.1 (w_Dispatch_solver W H_k0) q_r4 rfl rfl ?_
                refine yG.load xak rfl (fun _ _ => rfl) (v := yR k0) rfl rfl ?_
                refine yG.getS9 A_hq.1 (w_Dispatch_solver W H_k0) q_r4 rfl rfl ?_
                refine yG.load xlk2 rfl (fun _ _ => rfl) (v := yJ (z31)) rfl rfl ?_
                refine yG.invV (rest := [yR r4, yR r44, yR r4]) A_hq.1 (bOb (d_Solver W) H_r4) rfl rfl rfl rfl (c_Solver_residue W (d + 2) A_hq.1 H_r4 (z31) (by omega) (by omega)) (fun rv hp9 q9 => ?_)
                obtain ⟨⟨z45, rfl, l_z45, u_z45, R_z45⟩, e9⟩ := q9
                rw [e9]
                show yG _ _ _ _ _ _ _ _ _ _ (yJ z45 :: [yR r4, yR r44, yR r4]) _
                refine yG.load xlk2 rfl (fun _ _ => rfl) (v := yJ (a8)) rfl rfl ?_
                refine yG.lmul rfl ?_
                obtain ⟨z46, e_z46⟩ : ∃ z : Int, z = z45 * a8 := ⟨_, rfl⟩
                rw [← e_z46]
                have b_z46 : -4611686009837453316 ≤ z46 ∧ z46 ≤ 4611686009837453316 := e_z46 ▸ ymuls (A := 2147483646) (B := 2147483646) (by omega) (by omega) (by omega) (by omega) (by decide)
                refine yG.load xak rfl (fun _ _ => rfl) (v := yR k0) rfl rfl ?_
                refine yG.getS9 A_hq.1 (w_Dispatch_solver W H_k0) q_r4 rfl rfl ?_
                refine yG.load xlk2 rfl (fun _ _ => rfl) (v := yJ (z43)) rfl rfl ?_
                refine yG.invV (rest := [yJ (z46), yR r4, yR r44, yR r4]) A_hq.1 (bOb (d_Solver W) H_r4) rfl rfl rfl rfl (c_Solver_residue W (d + 2) A_hq.1 H_r4 (z43) (by omega) (by omega)) (fun rv hp9 q9 => ?_)
                obtain ⟨⟨z47, rfl, l_z47, u_z47, R_z47⟩, e9⟩ := q9
                rw [e9]
                show yG _ _ _ _ _ _ _ _ _ _ (yJ z47 :: [yJ (z46), yR r4, yR r44, yR r4]) _
                refine yG.ladd rfl ?_
                refine yG.invV (rest := [yR r44, yR r4]) A_hq.1 (bOb (d_Solver W) H_r4) rfl rfl rfl rfl (c_Solver_residue W (d + 2) A_hq.1 H_r4 (z46 + z47) (by omega) (by omega)) (fun rv hp9 q9 => ?_)
                obtain ⟨⟨z48, rfl, l_z48, u_z48, R_z48⟩, e9⟩ := q9
                rw [e9]
                show yG _ _ _ _ _ _ _ _ _ _ (yJ z48 :: [yR r44, yR r4]) _
                refine yG.invV (rest := []) A_hq.1 (bOb (d_Solver W) H_r4) rfl rfl rfl rfl (c_Solver_fold W d A_hq.1 H_r4 H_r44 (z48) (by omega) (by omega)) (fun rv h49 q9 => ?_)
                obtain ⟨⟨rfl, R_z50⟩, B_h49⟩ := q9
                have A_h49 := A_hq.tr B_h49 (by decide)
                have qq7 : zsl h49 k0 2 = yR r4 := (B_h49.sl H_k0 (by decide)).trans q_r4
                have qq8 : zsl h49 r4 0 = yR r5 := (B_h49.sl H_r4 (by decide)).trans q_r5
                show yG _ _ _ _ _ _ _ _ _ _ [] _
                refine yG.iinc rfl (a := a10) rfl (L' := [(10, yI (a10 + 1)), (13, yJ (z43)), (11, yJ (z31)), (0, yR k0), (1, yI (p1)), (2, yJ (p2)), (4, yI (a4)), (5, yI (a5)), (6, yI (a6)), (7, yI (a7)), (8, yJ (a8))]) rfl ?_
                refine yG.goto rfl (t := 99) rfl ?_
                exact yG.mono (yG.sub (i_99 (a4) (a5) (a6) (a7) (a8) (a10 + 1)  h49 A_h49   (by omega) (by omega) (by omega) (by omega) (by omega) (by omega) (by omega) (by omega) (by omega) (by omega) (by omega) (by omega) (by omega) (by omega) (by omega) (by omega) (by omega)) (ySub.cons rfl (ySub.cons rfl (ySub.cons rfl (ySub.cons rfl (ySub.cons rfl (ySub.cons rfl (ySub.cons rfl (ySub.cons rfl (ySub.cons rfl (ySub.nil))))))))))) (by omega)
          · have c3 : (a6 : Int) < 0 := c3
            refine yG.numl (c := 0) rfl (fun _ _ => rfl) (by decide) ?_
            refine yG.goto rfl (t := 132) rfl ?_
            refine yG.load xik rfl (fun _ _ => rfl) (v := yI (a7)) rfl rfl ?_
            refine yG.ifz rfl (t := 141) rfl ⟨by omega, by omega⟩ (fun c51 => ?_) (fun c51 => ?_)
            · have c51 : (a7 : Int) ≥ 0 := c51
              refine yG.load xak rfl (fun _ _ => rfl) (v := yR k0) rfl rfl ?_
              refine yG.getO A_hq.1 (w_Dispatch_solver W H_k0) rfl rfl (fun r52 H_r52 O_r52 q_r52 => ?_)
              refine yG.getO A_hq.1 (w_Solver_cell W H_r52) rfl rfl (fun r53 H_r53 O_r53 q_r53 => ?_)
              refine yG.load xik rfl (fun _ _ => rfl) (v := yI (a7)) rfl rfl ?_
              refine yG.aaldO (r := 42) A_hq.1 (v_Solver_cell W H_r53) rfl rfl rfl (by omega) (by omega) (fun r54 H_r54 q_r54 => ?_)
              refine yG.load xik rfl (fun _ _ => rfl) (v := yI (p1)) rfl rfl ?_
              refine yG.load xik rfl (fun _ _ => rfl) (v := yI (a10)) rfl rfl ?_
              refine yG.iadd rfl ?_
              refine yG.lald A_hq.1 (v_Solver_cells W H_r54) rfl (by omega) (by omega) (fun z55 e_z55 i_z55 l_z55 u_z55 => ?_)
              refine yG.lsub rfl ?_
              obtain ⟨z56, e_z56, l_z56, u_z56⟩ := ywJ (0 - z55)
              rw [e_z56]
              refine yG.store2 xlk2 (L' := [(11, yJ (z56)), (0, yR k0), (1, yI (p1)), (2, yJ (p2)), (4, yI (a4)), (5, yI (a5)), (6, yI (a6)), (7, yI (a7)), (8, yJ (a8)), (10, yI (a10))]) rfl (fun _ _ => rfl) rfl rfl ?_
              refine yG.load xik rfl (fun _ _ => rfl) (v := yI (a10)) rfl rfl ?_
              refine yG.ifz rfl (t := 181) rfl ⟨by omega, by omega⟩ (fun c57 => ?_) (fun c57 => ?_)
              · have c57 : (a10 : Int) ≠ 0 := c57
                refine yG.numl (c := 0) rfl (fun _ _ => rfl) (by decide) ?_
                refine yG.store2 xlk2 (L' := [(13, yJ (0)), (11, yJ (z56)), (0, yR k0), (1, yI (p1)), (2, yJ (p2)), (4, yI (a4)), (5, yI (a5)), (6, yI (a6)), (7, yI (a7)), (8, yJ (a8)), (10, yI (a10))]) rfl (fun _ _ => rfl) rfl rfl ?_
                refine yG.load xak rfl (fun _ _ => rfl) (v := yR k0) rfl rfl ?_
                refine yG.getS9 A_hq.1 (w_Dispatch_solver W H_k0) q_r52 rfl rfl ?_
                refine yG.load xak rfl (fun _ _ => rfl) (v := yR k0) rfl rfl ?_
                refine yG.load xik rfl (fun _ _ => rfl) (v := yI (a4)) rfl rfl ?_
                refine yG.load xik rfl (fun _ _ => rfl) (v := yI (a10)) rfl rfl ?_
                refine yG.invV (rest := [yR r52]) A_hq.1 (bOb (d_Dispatch W) H_k0) rfl rfl rfl rfl (c_Dispatch_at W (d + 2) A_hq.1 H_k0 (a4) (a10) (by omega) (by omega) (by omega) (by omega)) (fun rv hp9 q9 => ?_)
                obtain ⟨⟨r58, rfl, H_r58⟩, e9⟩ := q9
                rw [e9]
                obtain ⟨n_r58, N_r58⟩ : ∃ n : Int, n = ((zat G r58 : Nat) : Int) := ⟨_, rfl⟩
                have L_r58 := n_Big W H_r58
                show yG _ _ _ _ _ _ _ _ _ _ (yR r58 :: [yR r52]) _
                refine yG.load xak rfl (fun _ _ => rfl) (v := yR k0) rfl rfl ?_
                refine yG.getS9 A_hq.1 (w_Dispatch_solver W H_k0) q_r52 rfl rfl ?_
                refine yG.load xak rfl (fun _ _ => rfl) (v := yR k0) rfl rfl ?_
                refine yG.getS9 A_hq.1 (w_Dispatch_solver W H_k0) q_r52 rfl rfl ?_
                refine yG.load xlk2 rfl (fun _ _ => rfl) (v := yJ (z56)) rfl rfl ?_
                refine yG.invV (rest := [yR r52, yR r58, yR r52]) A_hq.1 (bOb (d_Solver W) H_r52) rfl rfl rfl rfl (c_Solver_residue W (d + 2) A_hq.1 H_r52 (z56) (by omega) (by omega)) (fun rv hp9 q9 => ?_)
                obtain ⟨⟨z59, rfl, l_z59, u_z59, R_z59⟩, e9⟩ := q9
                rw [e9]
                show yG _ _ _ _ _ _ _ _ _ _ (yJ z59 :: [yR r52, yR r58, yR r52]) _
                refine yG.load xlk2 rfl (fun _ _ => rfl) (v := yJ (a8)) rfl rfl ?_
                refine yG.lmul rfl ?_
                obtain ⟨z60, e_z60⟩ : ∃ z : Int, z = z59 * a8 := ⟨_, rfl⟩
                rw [← e_z60]
                have b_z60 : -4611686009837453316 ≤ z60 ∧ z60 ≤ 4611686009837453316 := e_z60 ▸ ymuls (A := 2147483646) (B := 2147483646) (by omega) (by omega) (by omega) (by omega) (by decide)
                refine yG.load xak rfl (fun _ _ => rfl) (v := yR k0) rfl rfl ?_
                refine yG.getS9 A_hq.1 (w_Dispatch_solver W H_k0) q_r52 rfl rfl ?_
                refine yG.load xlk2 rfl (fun _ _ => rfl) (v := yJ (0)) rfl rfl ?_
                refine yG.invV (rest := [yJ (z60), yR r52, yR r58, yR r52]) A_hq.1 (bOb (d_Solver W) H_r52) rfl rfl rfl rfl (c_Solver_residue W (d + 2) A_hq.1 H_r52 (0) (by omega) (by omega)) (fun rv hp9 q9 => ?_)
                obtain ⟨⟨z61, rfl, l_z61, u_z61, R_z61⟩, e9⟩ := q9
                rw [e9]
                show yG _ _ _ _ _ _ _ _ _ _ (yJ z61 :: [yJ (z60), yR r52, yR r58, yR r52]) _
                refine yG.ladd rfl ?_
                refine yG.invV (rest := [yR r58, yR r52]) A_hq.1 (bOb (d_Solver W) H_r52) rfl rfl rfl rfl (c_Solver_residue W (d + 2) A_hq.1 H_r52 (z60 + z61) (by omega) (by omega)) (fun rv hp9 q9 => ?_)
                obtain ⟨⟨z62, rfl, l_z62, u_z62, R_z62⟩, e9⟩ := q9
                rw [e9]
                show yG _ _ _ _ _ _ _ _ _ _ (yJ z62 :: [yR r58, yR r52]) _
                refine yG.invV (rest := []) A_hq.1 (bOb (d_Solver W) H_r52) rfl rfl rfl rfl (c_Solver_fold W d A_hq.1 H_r52 H_r58 (z62) (by omega) (by omega)) (fun rv h63 q9 => ?_)
                obtain ⟨⟨rfl, R_z64⟩, B_h63⟩ := q9
                have A_h63 := A_hq.tr B_h63 (by decide)
                have qq9 : zsl h63 k0 2 = yR r52 := (B_h63.sl H_k0 (by decide)).trans q_r52
                show yG _ _ _ _ _ _ _ _ _ _ [] _
                refine yG.iinc rfl (a := a10) rfl (L' := [(10, yI (a10 + 1)), (13, yJ (0)), (11, yJ (z56)), (0, yR k0), (1, yI (p1)), (2, yJ (p2)), (4, yI (a4)), (5, yI (a5)), (6, yI (a6)), (7, yI (a7)), (8, yJ (a8))]) rfl ?_
                refine yG.goto rfl (t := 99) rfl ?_
                exact yG.mono (yG.sub (i_99 (a4) (a5) (a6) (a7) (a8) (a10 + 1)  h63 A_h63   (by omega) (by omega) (by omega) (by omega) (by omega) (by omega) (by omega) (by omega) (by omega) (by omega) (by omega) (by omega) (by omega) (by omega) (by omega) (by omega) (by omega)) (ySub.cons rfl (ySub.cons rfl (ySub.cons rfl (ySub.cons rfl (ySub.cons rfl (ySub.cons rfl (ySub.cons rfl (ySub.cons rfl (ySub.cons rfl (ySub.nil))))))))))) (by omega)
              · have c57 : (a10 : Int) = 0 := c57
                refine yG.load xak rfl (fun _ _ => rfl) (v := yR k0) rfl rfl ?_
                refine yG.getO A_hq.1 (w_Dispatch_net W H_k0) rfl rfl (fun r65 H_r65 O_r65 q_r65 => ?_)
                refine yG.num (c := 2) rfl (fun _ _ => rfl) (by decide) ?_
                refine yG.load xik rfl (fun _ _ => rfl) (v := yI (a5)) rfl rfl ?_
                refine yG.num (c := 3) rfl (fun _ _ => rfl) (by decide) ?_
                refine yG.invV (rest := []) A_hq.1 (bOb (d_Net W) H_r65) rfl rfl rfl rfl (c_Net_at_2_3 W (d + 2) A_hq.1 H_r65 (a5) (by omega) (by omega)) (fun rv hp9 q9 => ?_)
                obtain ⟨⟨z66, rfl, l_z66, u_z66, R_z66⟩, e9⟩ := q9
                rw [e9]
                show yG _ _ _ _ _ _ _ _ _ _ (yI z66 :: []) _
                refine yG.i2l rfl ⟨by omega, by omega⟩ ?_
                refine yG.load xlk2 rfl (fun _ _ => rfl) (v := yJ (p2)) rfl rfl ?_
                refine yG.lmul rfl ?_
                obtain ⟨z67, e_z67⟩ : ∃ z : Int, z = z66 * p2 := ⟨_, rfl⟩
                rw [← e_z67]
                have b_z67 : -92224496996510903304192 ≤ z67 ∧ z67 ≤ 92224496996510903304192 := e_z67 ▸ ymuls (A := 9999) (B := 9223372036854775808) (by omega) (by omega) (by omega) (by omega) (by decide)
                refine yG.goto rfl (t := 182) rfl ?_
                obtain ⟨z68, e_z68, l_z68, u_z68⟩ := ywJ (z67)
                rw [e_z68]
                refine yG.store2 xlk2 (L' := [(13, yJ (z68)), (11, yJ (z56)), (0, yR k0), (1, yI (p1)), (2, yJ (p2)), (4, yI (a4)), (5, yI (a5)), (6, yI (a6)), (7, yI (a7)), (8, yJ (a8)), (10, yI (a10))]) rfl (fun _ _ => rfl) rfl rfl ?_
                refine yG.load xak rfl (fun _ _ => rfl) (v := yR k0) rfl rfl ?_
                refine yG.getS9 A_hq.1 (w_Dispatch_solver W H_k0) q_r52 rfl rfl ?_
                refine yG.load xak rfl (fun _ _ => rfl) (v := yR k0) rfl rfl ?_
                refine yG.load xik rfl (fun _ _ => rfl) (v := yI (a4)) rfl rfl ?_
                refine yG.load xik rfl (fun _ _ => rfl) (v := yI (a10)) rfl rfl ?_
                refine yG.invV (rest := [yR r52]) A_hq.1 (bOb (d_Dispatch W) H_k0) rfl rfl rfl rfl (c_Dispatch_at W (d + 2) A_hq.1 H_k0 (a4) (a10) (by omega) (by omega) (by omega) (by omega)) (fun rv hp9 q9 => ?_)
                obtain ⟨⟨r69, rfl, H_r69⟩, e9⟩ := q9
                rw [e9]
                obtain ⟨n_r69, N_r69⟩ : ∃ n : Int, n = ((zat G r69 : Nat) : Int) := ⟨_, rfl⟩
                have L_r69 := n_Big W H_r69
                show yG _ _ _ _ _ _ _ _ _ _ (yR r69 :: [yR r52]) _
                refine yG.load xak rfl (fun _ _ => rfl) (v := yR k0) rfl rfl ?_
                refine yG.getS9 A_hq.1 (w_Dispatch_solver W H_k0) q_r52 rfl rfl ?_
                refine yG.load xak rfl (fun _ _ => rfl) (v := yR k0) rfl rfl ?_
                refine yG.getS9 A_hq.1 (w_Dispatch_solver W H_k0) q_r52 rfl rfl ?_
                refine yG.load xlk2 rfl (fun _ _ => rfl) (v := yJ (z56)) rfl rfl ?_
                refine yG.invV (rest := [yR r52, yR r69, yR r52]) A_hq.1 (bOb (d_Solver W) H_r52) rfl rfl rfl rfl (c_Solver_residue W (d + 2) A_hq.1 H_r52 (z56) (by omega) (by omega)) (fun rv hp9 q9 => ?_)
                obtain ⟨⟨z70, rfl, l_z70, u_z70, R_z70⟩, e9⟩ := q9
                rw [e9]
                show yG _ _ _ _ _ _ _ _ _ _ (yJ z70 :: [yR r52, yR r69, yR r52]) _
                refine yG.load xlk2 rfl (fun _ _ => rfl) (v := yJ (a8)) rfl rfl ?_
                refine yG.lmul rfl ?_
                obtain ⟨z71, e_z71⟩ : ∃ z : Int, z = z70 * a8 := ⟨_, rfl⟩
                rw [← e_z71]
                have b_z71 : -4611686009837453316 ≤ z71 ∧ z71 ≤ 4611686009837453316 := e_z71 ▸ ymuls (A := 2147483646) (B := 2147483646) (by omega) (by omega) (by omega) (by omega) (by decide)
                refine yG.load xak rfl (fun _ _ => rfl) (v := yR k0) rfl rfl ?_
                refine yG.getS9 A_hq.1 (w_Dispatch_solver W H_k0) q_r52 rfl rfl ?_
                refine yG.load xlk2 rfl (fun _ _ => rfl) (v := yJ (z68)) rfl rfl ?_
                refine yG.invV (rest := [yJ (z71), yR r52, yR r69, yR r52]) A_hq.1 (bOb (d_Solver W) H_r52) rfl rfl rfl rfl (c_Solver_residue W (d + 2) A_hq.1 H_r52 (z68) (by omega) (by omega)) (fun rv hp9 q9 => ?_)
                obtain ⟨⟨z72, rfl, l_z72, u_z72, R_z72⟩, e9⟩ := q9
                rw [e9]
                show yG _ _ _ _ _ _ _ _ _ _ (yJ z72 :: [yJ (z71), yR r52, yR r69, yR r52]) _
                refine yG.ladd rfl ?_
                refine yG.invV (rest := [yR r69, yR r52]) A_hq.1 (bOb (d_Solver W) H_r52) rfl rfl rfl rfl (c_Solver_residue W (d + 2) A_hq.1 H_r52 (z71 + z72) (by omega) (by omega)) (fun rv hp9 q9 => ?_)
                obtain ⟨⟨z73, rfl, l_z73, u_z73, R_z73⟩, e9⟩ := q9
                rw [e9]
                show yG _ _ _ _ _ _ _ _ _ _ (yJ z73 :: [yR r69, yR r52]) _
                refine yG.invV (rest := []) A_hq.1 (bOb (d_Solver W) H_r52) rfl rfl rfl rfl (c_Solver_fold W d A_hq.1 H_r52 H_r69 (z73) (by omega) (by omega)) (fun rv h74 q9 => ?_)
                obtain ⟨⟨rfl, R_z75⟩, B_h74⟩ := q9
                have A_h74 := A_hq.tr B_h74 (by decide)
                have qq10 : zsl h74 k0 2 = yR r52 := (B_h74.sl H_k0 (by decide)).trans q_r52
                show yG _ _ _ _ _ _ _ _ _ _ [] _
                refine yG.iinc rfl (a := a10) rfl (L' := [(10, yI (a10 + 1)), (13, yJ (z68)), (11, yJ (z56)), (0, yR k0), (1, yI (p1)), (2, yJ (p2)), (4, yI (a4)), (5, yI (a5)), (6, yI (a6)), (7, yI (a7)), (8, yJ (a8))]) rfl ?_
                refine yG.goto rfl (t := 99) rfl ?_
                exact yG.mono (yG.sub (i_99 (a4) (a5) (a6) (a7) (a8) (a10 + 1)  h74 A_h74   (by omega) (by omega) (by omega) (by omega) (by omega) (by omega) (by omega) (by omega) (by omega) (by omega) (by omega) (by omega) (by omega) (by omega) (by omega) (by omega) (by omega)) (ySub.cons rfl (ySub.cons rfl (ySub.cons rfl (ySub.cons rfl (ySub.cons rfl (ySub.cons rfl (ySub.cons rfl (ySub.cons rfl (ySub.cons rfl (ySub.nil))))))))))) (by omega)
            · have c51 : (a7 : Int) < 0 := c51
              refine yG.numl (c := 0) rfl (fun _ _ => rfl) (by decide) ?_
              refine yG.goto rfl (t := 156) rfl ?_
              refine yG.lsub rfl ?_
              rw [show (0 - 0 : Int) = 0 by omega]
              refine yG.store2 xlk2 (L' := [(11, yJ (0)), (0, yR k0), (1, yI (p1)), (2, yJ (p2)), (4, yI (a4)), (5, yI (a5)), (6, yI (a6)), (7, yI (a7)), (8, yJ (a8)), (10, yI (a10))]) rfl (fun _ _ => rfl) rfl rfl ?_
              refine yG.load xik rfl (fun _ _ => rfl) (v := yI (a10)) rfl rfl ?_
              refine yG.ifz rfl (t := 181) rfl ⟨by omega, by omega⟩ (fun c76 => ?_) (fun c76 => ?_)
              · have c76 : (a10 : Int) ≠ 0 := c76
                refine yG.numl (c := 0) rfl (fun _ _ => rfl) (by decide) ?_
                refine yG.store2 xlk2 (L' := [(13, yJ (0)), (11, yJ (0)), (0, yR k0), (1, yI (p1)), (2, yJ (p2)), (4, yI (a4)), (5, yI (a5)), (6, yI (a6)), (7, yI (a7)), (8, yJ (a8)), (10, yI (a10))]) rfl (fun _ _ => rfl) rfl rfl ?_
                refine yG.load xak rfl (fun _ _ => rfl) (v := yR k0) rfl rfl ?_
                refine yG.getO A_hq.1 (w_Dispatch_solver W H_k0) rfl rfl (fun r77 H_r77 O_r77 q_r77 => ?_)
                refine yG.load xak rfl (fun _ _ => rfl) (v := yR k0) rfl rfl ?_
                refine yG.load xik rfl (fun _ _ => rfl) (v := yI (a4)) rfl rfl ?_
                refine yG.load xik rfl (fun _ _ => rfl) (v := yI (a10)) rfl rfl ?_
                refine yG.invV (rest := [yR r77]) A_hq.1 (bOb (d_Dispatch W) H_k0) rfl rfl rfl rfl (c_Dispatch_at W (d + 2) A_hq.1 H_k0 (a4) (a10) (by omega) (by omega) (by omega) (by omega)) (fun rv hp9 q9 => ?_)
                obtain ⟨⟨r78, rfl, H_r78⟩, e9⟩ := q9
                rw [e9]
                obtain ⟨n_r78, N_r78⟩ : ∃ n : Int, n = ((zat G r78 : Nat) : Int) := ⟨_, rfl⟩
                have L_r78 := n_Big W H_r78
                show yG _ _ _ _ _ _ _ _ _ _ (yR r78 :: [yR r77]) _
                refine yG.load xak rfl (fun _ _ => rfl) (v := yR k0) rfl rfl ?_
                refine yG.getS9 A_hq.1 (w_Dispatch_solver W H_k0) q_r77 rfl rfl ?_
                refine yG.load xak rfl (fun _ _ => rfl) (v := yR k0) rfl rfl ?_
                refine yG.getS9 A_hq.1 (w_Dispatch_solver W H_k0) q_r77 rfl rfl ?_
                refine yG.load xlk2 rfl (fun _ _ => rfl) (v := yJ (0)) rfl rfl ?_
                refine yG.invV (rest := [yR r77, yR r78, yR r77]) A_hq.1 (bOb (d_Solver W) H_r77) rfl rfl rfl rfl (c_Solver_residue W (d + 2) A_hq.1 H_r77 (0) (by omega) (by omega)) (fun rv hp9 q9 => ?_)
                obtain ⟨⟨z79, rfl, l_z79, u_z79, R_z79⟩, e9⟩ := q9
                rw [e9]
                show yG _ _ _ _ _ _ _ _ _ _ (yJ z79 :: [yR r77, yR r78, yR r77]) _
                refine yG.load xlk2 rfl (fun _ _ => rfl) (v := yJ (a8)) rfl rfl ?_
                refine yG.lmul rfl ?_
                obtain ⟨z80, e_z80⟩ : ∃ z : Int, z = z79 * a8 := ⟨_, rfl⟩
                rw [← e_z80]
                have b_z80 : -4611686009837453316 ≤ z80 ∧ z80 ≤ 4611686009837453316 := e_z80 ▸ ymuls (A := 2147483646) (B := 2147483646) (by omega) (by omega) (by omega) (by omega) (by decide)
                refine yG.load xak rfl (fun _ _ => rfl) (v := yR k0) rfl rfl ?_
                refine yG.getS9 A_hq.1 (w_Dispatch_solver W H_k0) q_r77 rfl rfl ?_
                refine yG.load xlk2 rfl (fun _ _ => rfl) (v := yJ (0)) rfl rfl ?_
                refine yG.invV (rest := [yJ (z80), yR r77, yR r78, yR r77]) A_hq.1 (bOb (d_Solver W) H_r77) rfl rfl rfl rfl (c_Solver_residue W (d + 2) A_hq.1 H_r77 (0) (by omega) (by omega)) (fun rv hp9 q9 => ?_)
                obtain ⟨⟨z81, rfl, l_z81, u_z81, R_z81⟩, e9⟩ := q9
                rw [e9]
                show yG _ _ _ _ _ _ _ _ _ _ (yJ z81 :: [yJ (z80), yR r77, yR r78, yR r77]) _
                refine yG.ladd rfl ?_
                refine yG.invV (rest := [yR r78, yR r77]) A_hq.1 (bOb (d_Solver W) H_r77) rfl rfl rfl rfl (c_Solver_residue W (d + 2) A_hq.1 H_r77 (z80 + z81) (by omega) (by omega)) (fun rv hp9 q9 => ?_)
                obtain ⟨⟨z82, rfl, l_z82, u_z82, R_z82⟩, e9⟩ := q9
                rw [e9]
                show yG _ _ _ _ _ _ _ _ _ _ (yJ z82 :: [yR r78, yR r77]) _
                refine yG.invV (rest := []) A_hq.1 (bOb (d_Solver W) H_r77) rfl rfl rfl rfl (c_Solver_fold W d A_hq.1 H_r77 H_r78 (z82) (by omega) (by omega)) (fun rv h83 q9 => ?_)
                obtain ⟨⟨rfl, R_z84⟩, B_h83⟩ := q9
                have A_h83 := A_hq.tr B_h83 (by decide)
                have qq11 : zsl h83 k0 2 = yR r77 := (B_h83.sl H_k0 (by decide)).trans q_r77
                show yG _ _ _ _ _ _ _ _ _ _ [] _
                refine yG.iinc rfl (a := a10) rfl (L' := [(10, yI (a10 + 1)), (13, yJ (0)), (11, yJ (0)), (0, yR k0), (1, yI (p1)), (2, yJ (p2)), (4, yI (a4)), (5, yI (a5)), (6, yI (a6)), (7, yI (a7)), (8, yJ (a8))]) rfl ?_
                refine yG.goto rfl (t := 99) rfl ?_
                exact yG.mono (yG.sub (i_99 (a4) (a5) (a6) (a7) (a8) (a10 + 1)  h83 A_h83   (by omega) (by omega) (by omega) (by omega) (by omega) (by omega) (by omega) (by omega) (by omega) (by omega) (by omega) (by omega) (by omega) (by omega) (by omega) (by omega) (by omega)) (ySub.cons rfl (ySub.cons rfl (ySub.cons rfl (ySub.cons rfl (ySub.cons rfl (ySub.cons rfl (ySub.cons rfl (ySub.cons rfl (ySub.cons rfl (ySub.nil))))))))))) (by omega)
              · have c76 : (a10 : Int) = 0 := c76
                refine yG.load xak rfl (fun _ _ => rfl) (v := yR k0) rfl rfl ?_
                refine yG.getO A_hq.1 (w_Dispatch_net W H_k0) rfl rfl (fun r85 H_r85 O_r85 q_r85 => ?_)
                refine yG.num (c := 2) rfl (fun _ _ => rfl) (by decide) ?_
                refine yG.load xik rfl (fun _ _ => rfl) (v := yI (a5)) rfl rfl ?_
                refine yG.num (c := 3) rfl (fun _ _ => rfl) (by decide) ?_
                refine yG.invV (rest := []) A_hq.1 (bOb (d_Net W) H_r85) rfl rfl rfl rfl (c_Net_at_2_3 W (d + 2) A_hq.1 H_r85 (a5) (by omega) (by omega)) (fun rv hp9 q9 => ?_)
                obtain ⟨⟨z86, rfl, l_z86, u_z86, R_z86⟩, e9⟩ := q9
                rw [e9]
                show yG _ _ _ _ _ _ _ _ _ _ (yI z86 :: []) _
                refine yG.i2l rfl ⟨by omega, by omega⟩ ?_
                refine yG.load xlk2 rfl (fun _ _ => rfl) (v := yJ (p2)) rfl rfl ?_
                refine yG.lmul rfl ?_
                obtain ⟨z87, e_z87⟩ : ∃ z : Int, z = z86 * p2 := ⟨_, rfl⟩
                rw [← e_z87]
                have b_z87 : -92224496996510903304192 ≤ z87 ∧ z87 ≤ 92224496996510903304192 := e_z87 ▸ ymuls (A := 9999) (B := 9223372036854775808) (by omega) (by omega) (by omega) (by omega) (by decide)
                refine yG.goto rfl (t := 182) rfl ?_
                obtain ⟨z88, e_z88, l_z88, u_z88⟩ := ywJ (z87)
                rw [e_z88]
                refine yG.store2 xlk2 (L' := [(13, yJ (z88)), (11, yJ (0)), (0, yR k0), (1, yI (p1)), (2, yJ (p2)), (4, yI (a4)), (5, yI (a5)), (6, yI (a6)), (7, yI (a7)), (8, yJ (a8)), (10, yI (a10))]) rfl (fun _ _ => rfl) rfl rfl ?_
                refine yG.load xak rfl (fun _ _ => rfl) (v := yR k0) rfl rfl ?_
                refine yG.getO A_hq.1 (w_Dispatch_solver W H_k0) rfl rfl (fun r89 H_r89 O_r89 q_r89 => ?_)
                refine yG.load xak rfl (fun _ _ => rfl) (v := yR k0) rfl rfl ?_
                refine yG.load xik rfl (fun _ _ => rfl) (v := yI (a4)) rfl rfl ?_
                refine yG.load xik rfl (fun _ _ => rfl) (v := yI (a10)) rfl rfl ?_
                refine yG.invV (rest := [yR r89]) A_hq.1 (bOb (d_Dispatch W) H_k0) rfl rfl rfl rfl (c_Dispatch_at W (d + 2) A_hq.1 H_k0 (a4) (a10) (by omega) (by omega) (by omega) (by omega)) (fun rv hp9 q9 => ?_)
                obtain ⟨⟨r90, rfl, H_r90⟩, e9⟩ := q9
                rw [e9]
                obtain ⟨n_r90, N_r90⟩ : ∃ n : Int, n = ((zat G r90 : Nat) : Int) := ⟨_, rfl⟩
                have L_r90 := n_Big W H_r90
                show yG _ _ _ _ _ _ _ _ _ _ (yR r90 :: [yR r89]) _
                refine yG.load xak rfl (fun _ _ => rfl) (v := yR k0) rfl rfl ?_
                refine yG.getS9 A_hq.1 (w_Dispatch_solver W H_k0) q_r89 rfl rfl ?_
                refine yG.load xak rfl (fun _ _ => rfl) (v := yR k0) rfl rfl ?_
                refine yG.getS9 A_hq.1 (w_Dispatch_solver W H_k0) q_r89 rfl rfl ?_
                refine yG.load xlk2 rfl (fun _ _ => rfl) (v := yJ (0)) rfl rfl ?_
                refine yG.invV (rest := [yR r89, yR r90, yR r89]) A_hq.1 (bOb (d_Solver W) H_r89) rfl rfl rfl rfl (c_Solver_residue W (d + 2) A_hq.1 H_r89 (0) (by omega) (by omega)) (fun rv hp9 q9 => ?_)
                obtain ⟨⟨z91, rfl, l_z91, u_z91, R_z91⟩, e9⟩ := q9
                rw [e9]
                show yG _ _ _ _ _ _ _ _ _ _ (yJ z91 :: [yR r89, yR r90, yR r89]) _
                refine yG.load xlk2 rfl (fun _ _ => rfl) (v := yJ (a8)) rfl rfl ?_
                refine yG.lmul rfl ?_
                obtain ⟨z92, e_z92⟩ : ∃ z : Int, z = z91 * a8 := ⟨_, rfl⟩
                rw [← e_z92]
                have b_z92 : -4611686009837453316 ≤ z92 ∧ z92 ≤ 4611686009837453316 := e_z92 ▸ ymuls (A := 2147483646) (B := 2147483646) (by omega) (by omega) (by omega) (by omega) (by decide)
                refine yG.load xak rfl (fun _ _ => rfl) (v := yR k0) rfl rfl ?_
                refine yG.getS9 A_hq.1 (w_Dispatch_solver W H_k0) q_r89 rfl rfl ?_
                refine yG.load xlk2 rfl (fun _ _ => rfl) (v := yJ (z88)) rfl rfl ?_
                refine yG.invV (rest := [yJ (z92), yR r89, yR r90, yR r89]) A_hq.1 (bOb (d_Solver W) H_r89) rfl rfl rfl rfl (c_Solver_residue W (d + 2) A_hq.1 H_r89 (z88) (by omega) (by omega)) (fun rv hp9 q9 => ?_)
                obtain ⟨⟨z93, rfl, l_z93, u_z93, R_z93⟩, e9⟩ := q9
                rw [e9]
                show yG _ _ _ _ _ _ _ _ _ _ (yJ z93 :: [yJ (z92), yR r89, yR r90, yR r89]) _
                refine yG.ladd rfl ?_
                refine yG.invV (rest := [yR r90, yR r89]) A_hq.1 (bOb (d_Solver W) H_r89) rfl rfl rfl rfl (c_Solver_residue W (d + 2) A_hq.1 H_r89 (z92 + z93) (by omega) (by omega)) (fun rv hp9 q9 => ?_)
                obtain ⟨⟨z94, rfl, l_z94, u_z94, R_z94⟩, e9⟩ := q9
                rw [e9]
                show yG _ _ _ _ _ _ _ _ _ _ (yJ z94 :: [yR r90, yR r89]) _
                refine yG.invV (rest := []) A_hq.1 (bOb (d_Solver W) H_r89) rfl rfl rfl rfl (c_Solver_fold W d A_hq.1 H_r89 H_r90 (z94) (by omega) (by omega)) (fun rv h95 q9 => ?_)
                obtain ⟨⟨rfl, R_z96⟩, B_h95⟩ := q9
                have A_h95 := A_hq.tr B_h95 (by decide)
                have qq12 : zsl h95 k0 2 = yR r89 := (B_h95.sl H_k0 (by decide)).trans q_r89
                show yG _ _ _ _ _ _ _ _ _ _ [] _
                refine yG.iinc rfl (a := a10) rfl (L' := [(10, yI (a10 + 1)), (13, yJ (z88)), (11, yJ (0)), (0, yR k0), (1, yI (p1)), (2, yJ (p2)), (4, yI (a4)), (5, yI (a5)), (6, yI (a6)), (7, yI (a7)), (8, yJ (a8))]) rfl ?_
                refine yG.goto rfl (t := 99) rfl ?_
                exact yG.mono (yG.sub (i_99 (a4) (a5) (a6) (a7) (a8) (a10 + 1)  h95 A_h95   (by omega) (by omega) (by omega) (by omega) (by omega) (by omega) (by omega) (by omega) (by omega) (by omega) (by omega) (by omega) (by omega) (by omega) (by omega) (by omega) (by omega)) (ySub.cons rfl (ySub.cons rfl (ySub.cons rfl (ySub.cons rfl (ySub.cons rfl (ySub.cons rfl (ySub.cons rfl (ySub.cons rfl (ySub.cons rfl (ySub.nil))))))))))) (by omega)
  refine yC.of (M := (xt_X1_foldLines, (15, (0, (2, []))))) rfl rfl (N := 51810) (yfuel (by decide)) ?_
  show yG 89 xfts (xcall 89 xfts xpools xms (d + 3)) (xpool xp_RX1) [] xt_X1_foldLines (yP 0 (fun rv hp' => (rv = none ∧ True) ∧ bAx G [(34359738368, 1), (68719476736, 256)] hp hp')) 51810 0 [(0, yR k0), (1, yI (p1)), (2, yJ (p2))] [] hp
  obtain ⟨i_15, i_99⟩ := H 784
  refine yG.load xak rfl (fun _ _ => rfl) (v := yR k0) rfl rfl ?_
  refine yG.getO A_hp.1 (w_Dispatch_solver W H_k0) rfl rfl (fun r1 H_r1 O_r1 q_r1 => ?_)
  refine yG.load xak rfl (fun _ _ => rfl) (v := yR k0) rfl rfl ?_
  refine yG.getO A_hp.1 (w_Dispatch_common W H_k0) rfl rfl (fun r2 H_r2 O_r2 q_r2 => ?_)
  obtain ⟨n_r2, N_r2⟩ : ∃ n : Int, n = ((zat G r2 : Nat) : Int) := ⟨_, rfl⟩
  have L_r2 := n_Big W H_r2
  refine yG.load xlk2 rfl (fun _ _ => rfl) (v := yJ (p2)) rfl rfl ?_
  refine yG.invV (rest := []) A_hp.1 (bOb (d_Solver W) H_r1) rfl rfl rfl rfl (c_Solver_fold W d A_hp.1 H_r1 H_r2 (p2) (by omega) (by omega)) (fun rv h3 q9 => ?_)
  obtain ⟨⟨rfl, R_z4⟩, B_h3⟩ := q9
  have A_h3 := A_hp.tr B_h3 (by decide)
  show yG _ _ _ _ _ _ _ _ _ _ [] _
  refine yG.num (c := 0) rfl (fun _ _ => rfl) (by decide) ?_
  refine yG.store1 xik (L' := [(4, yI (0)), (0, yR k0), (1, yI (p1)), (2, yJ (p2))]) rfl (fun _ _ => rfl) rfl rfl ?_
  exact yG.mono (yG.sub (i_15 (0)  h3 A_h3   (by omega) (by omega) (by omega) (by omega) (by omega) (by omega) (by omega)) (ySub.cons rfl (ySub.cons rfl (ySub.cons rfl (ySub.cons rfl (ySub.nil)))))) (by omega)
theorem c_Dispatch_measureLines {hp : xH} (W : bW G) (d : Nat) (hT : zTy G hp) (M_bCv : bCv G hp) {k0 : Nat} (H_k0 : bRo G 96 k0) (p1 : Int) (h1l : (-1) ≤ p1) (h1u : p1 ≤ 15) : yC (xcall 89 xfts xpools xms (d + 5)) 87 [yR k0, yI (p1)] hp (fun rv hp' => (rv = none ∧ True) ∧ bAx G [(34359738368, 1), (1133871366144, 2), (1099511627776, 3), (1099511627776, 6), (1099511627776, 7), (1099511627776, 8), (18029860391747584, 256)] hp hp') := by
  have A_hp : bAx G [(34359738368, 1), (1133871366144, 2), (1099511627776, 3), (1099511627776, 6), (1099511627776, 7), (1099511627776, 8), (18029860391747584, 256)] hp hp := bAx.rf hT
  have H : ∀ m : Nat, (∀ a2 : Int, ∀ a3 : Int, ∀ hq, bAx G [(34359738368, 1), (1133871366144, 2), (1099511627776, 3), (1099511627776, 6), (1099511627776, 7), (1099511627776, 8), (18029860391747584, 256)] hp hq → 0 ≤ a2 → (-15) ≤ 0 - a2 → 0 ≤ a3 → (-1000000) ≤ 0 - a3 → (-1) ≤ p1 → (-15) ≤ 0 - p1 → 0 - 27 * a3 + 27000026 < (m : Int) → yG 89 xfts (xcall 89 xfts xpools xms (d + 4)) (xpool xp_RX1) [] xt_X1_measureLines (yP 0 (fun rv hp' => (rv = none ∧ True) ∧ bAx G [(34359738368, 1), (1133871366144, 2), (1099511627776, 3), (1099511627776, 6), (1099511627776, 7), (1099511627776, 8), (18029860391747584, 256)] hp hp')) (34 * m) 52 [(0, yR k0), (1, yI (p1)), (2, yI (a2)), (3, yI (a3))] [] hq) ∧ (∀ a2 : Int, ∀ a3 : Int, ∀ a4 : Int, ∀ a6 : Int, ∀ hq, bAx G [(34359738368, 1), (1133871366144, 2), (1099511627776, 3), (1099511627776, 6), (1099511627776, 7), (1099511627776, 8), (18029860391747584, 256)] hp hq → 0 ≤ a2 → (-15) ≤ 0 - a2 → 0 ≤ a3 → (-999999) ≤ 0 - a3 → 0 ≤ a4 → (-2147483646) ≤ 0 - a4 → 1 ≤ a6 → (-13) ≤ 0 - a6 → (-1) ≤ p1 → (-15) ≤ 0 - p1 → 0 - 27 * a3 - 2 * a6 + 27000027 < (m : Int) → yG 89 xfts (xcall 89 xfts xpools xms (d + 4)) (xpool xp_RX1) [] xt_X1_measureLines (yP 0 (fun rv hp' => (rv = none ∧ True) ∧ bAx G [(34359738368, 1), (1133871366144, 2), (1099511627776, 3), (1099511627776, 6), (1099511627776, 7), (1099511627776, 8), (18029860391747584, 256)] hp hp')) (34 * m) 113 [(0, yR k0), (1, yI (p1)), (2, yI (a2)), (3, yI (a3)), (4, yJ (a4)), (6, yI (a6))] [] hq) := by
    intro m
    induction m with
    | zero =>
      refine ⟨?_, ?_⟩ <;> (intros; exfalso; omega)
    | succ m ih =>
      obtain ⟨i_52, i_113⟩ := ih
      refine ⟨?_, ?_⟩
      · intro a2 a3 hq A_hq f0 f1 f2 f3 f4 f5 hm
        refine yG.mono (N := 34 * m + 34) ?_ (by omega)
        refine yG.load xik rfl (fun _ _ => rfl) (v := yI (a3)) rfl rfl ?_
        refine yG.num (c := 1000000) rfl (fun _ _ => rfl) (by decide) ?_
        refine yG.icmp rfl (t := 189) rfl ⟨by omega, by omega⟩ ⟨by omega, by omega⟩ (fun c1 => ?_) (fun c1 => ?_)
        · have c1 : (a3 : Int) ≥ 1000000 := c1
          refine yG.load xak rfl (fun _ _ => rfl) (v := yR k0) rfl rfl ?_
          refine yG.getO A_hq.1 (w_Dispatch_solver W H_k0) rfl rfl (fun r2 H_r2 O_r2 q_r2 => ?_)
          refine yG.load xak rfl (fun _ _ => rfl) (v := yR k0) rfl rfl ?_
          refine yG.getO A_hq.1 (w_Dispatch_cell W H_k0) rfl rfl (fun r3 H_r3 O_r3 q_r3 => ?_)
          refine yG.load xak rfl (fun _ _ => rfl) (v := yR k0) rfl rfl ?_
          refine yG.getI A_hq.1 (w_Dispatch_rows W H_k0) rfl rfl (fun z4 e_z4 i_z4 l_z4 u_z4 => ?_)
          refine yG.num (c := 13) rfl (fun _ _ => rfl) (by decide) ?_
          refine yG.imul rfl ?_
          refine yG.invV (rest := []) A_hq.1 (bOb (d_Solver W) H_r2) rfl rfl rfl rfl (c_Solver_settle_429 W d A_hq.1 H_r2 H_r3 (z4 * 13) (by omega) (by omega)) (fun rv h5 q9 => ?_)
          obtain ⟨⟨rfl, R_z6⟩, B_h5⟩ := q9
          have A_h5 := A_hq.tr B_h5 (by decide)
          have qq1 : zsl h5 k0 2 = yR r2 := (B_h5.sl H_k0 (by decide)).trans q_r2
          show yG _ _ _ _ _ _ _ _ _ _ [] _
          refine yG.ret rfl (fun _ _ => rfl) ?_
          exact (yP.void ⟨⟨rfl, trivial⟩, A_h5⟩)
        · have c1 : (a3 : Int) < 1000000 := c1
          refine yG.load xak rfl (fun _ _ => rfl) (v := yR k0) rfl rfl ?_
          refine yG.getO A_hq.1 (w_Dispatch_solver W H_k0) rfl rfl (fun r7 H_r7 O_r7 q_r7 => ?_)
          refine yG.invV (rest := []) A_hq.1 (bOb (d_Solver W) H_r7) rfl rfl rfl rfl (c_Solver_more W (d + 2) A_hq.1 H_r7) (fun rv h8 q9 => ?_)
          obtain ⟨⟨z9, rfl, l_z9, u_z9, R_z9⟩, B_h8⟩ := q9
          have A_h8 := A_hq.tr B_h8 (by decide)
          have qq2 : zsl h8 k0 2 = yR r7 := (B_h8.sl H_k0 (by decide)).trans q_r7
          show yG _ _ _ _ _ _ _ _ _ _ (yI z9 :: []) _
          refine yG.ifz rfl (t := 189) rfl ⟨by omega, by omega⟩ (fun c10 => ?_) (fun c10 => ?_)
          · have c10 : (z9 : Int) = 0 := c10
            refine yG.load xak rfl (fun _ _ => rfl) (v := yR k0) rfl rfl ?_
            refine yG.getS9 A_h8.1 (w_Dispatch_solver W H_k0) qq2 rfl rfl ?_
            refine yG.load xak rfl (fun _ _ => rfl) (v := yR k0) rfl rfl ?_
            refine yG.getO A_h8.1 (w_Dispatch_cell W H_k0) rfl rfl (fun r11 H_r11 O_r11 q_r11 => ?_)
            refine yG.load xak rfl (fun _ _ => rfl) (v := yR k0) rfl rfl ?_
            refine yG.getI A_h8.1 (w_Dispatch_rows W H_k0) rfl rfl (fun z12 e_z12 i_z12 l_z12 u_z12 => ?_)
            refine yG.num (c := 13) rfl (fun _ _ => rfl) (by decide) ?_
            refine yG.imul rfl ?_
            refine yG.invV (rest := []) A_h8.1 (bOb (d_Solver W) H_r7) rfl rfl rfl rfl (c_Solver_settle_429 W d A_h8.1 H_r7 H_r11 (z12 * 13) (by omega) (by omega)) (fun rv h13 q9 => ?_)
            obtain ⟨⟨rfl, R_z14⟩, B_h13⟩ := q9
            have A_h13 := A_h8.tr B_h13 (by decide)
            have qq3 : zsl h13 k0 2 = yR r7 := (B_h13.sl H_k0 (by decide)).trans qq2
            show yG _ _ _ _ _ _ _ _ _ _ [] _
            refine yG.ret rfl (fun _ _ => rfl) ?_
            exact (yP.void ⟨⟨rfl, trivial⟩, A_h13⟩)
          · have c10 : (z9 : Int) ≠ 0 := c10
            refine yG.load xak rfl (fun _ _ => rfl) (v := yR k0) rfl rfl ?_
            refine yG.getS9 A_h8.1 (w_Dispatch_solver W H_k0) qq2 rfl rfl ?_
            refine yG.load xik rfl (fun _ _ => rfl) (v := yI (a2)) rfl rfl ?_
            refine yG.load xik rfl (fun _ _ => rfl) (v := yI (a2)) rfl rfl ?_
            refine yG.load xak rfl (fun _ _ => rfl) (v := yR k0) rfl rfl ?_
            refine yG.getI A_h8.1 (w_Dispatch_columns W H_k0) rfl rfl (fun z15 e_z15 i_z15 l_z15 u_z15 => ?_)
            refine yG.iadd rfl ?_
            refine yG.invV (rest := []) A_h8.1 (bOb (d_Solver W) H_r7) rfl rfl rfl rfl (c_Solver_blank W (d + 3) A_h8.1 H_r7 (a2) (a2 + z15) (by omega) (by omega) (by omega) (by omega)) (fun rv h16 q9 => ?_)
            obtain ⟨⟨rfl, R_z17⟩, B_h16⟩ := q9
            have A_h16 := A_h8.tr B_h16 (by decide)
            have qq4 : zsl h16 k0 2 = yR r7 := (B_h16.sl H_k0 (by decide)).trans qq2
            show yG _ _ _ _ _ _ _ _ _ _ [] _
            refine yG.load xak rfl (fun _ _ => rfl) (v := yR k0) rfl rfl ?_
            refine yG.getO A_h16.1 (w_Dispatch_shape W H_k0) rfl rfl (fun r18 H_r18 O_r18 q_r18 => ?_)
            refine yG.load xak rfl (fun _ _ => rfl) (v := yR k0) rfl rfl ?_
            refine yG.getS9 A_h16.1 (w_Dispatch_solver W H_k0) qq4 rfl rfl ?_
            refine yG.load xak rfl (fun _ _ => rfl) (v := yR k0) rfl rfl ?_
            refine yG.getS9 A_h16.1 (w_Dispatch_shape W H_k0) q_r18 rfl rfl ?_
            refine yG.getO A_h16.1 (w_Shape_live W H_r18) rfl rfl (fun r19 H_r19 O_r19 q_r19 => ?_)
            refine yG.num (c := 1) rfl (fun _ _ => rfl) (by decide) ?_
            refine yG.num (c := -1) rfl (fun _ _ => rfl) (by decide) ?_
            refine yG.invV (rest := []) A_h16.1 (bOb (d_Shape W) H_r18) rfl rfl rfl rfl (c_Shape_lay_3 W (d + 2) A_h16.1 H_r18 H_r7 H_r19 (1) ((-1)) (by omega) (by omega) (by omega) (by omega)) (fun rv h20 q9 => ?_)
            obtain ⟨⟨z21, rfl, l_z21, u_z21, R_z21⟩, B_h20⟩ := q9
            have A_h20 := A_h16.tr B_h20 (by decide)
            have qq5 : zsl h20 k0 2 = yR r7 := (B_h20.sl H_k0 (by decide)).trans qq4
            have qq6 : zsl h20 k0 0 = yR r18 := (B_h20.sl H_k0 (by decide)).trans q_r18
            show yG _ _ _ _ _ _ _ _ _ _ (yJ z21 :: []) _
            refine yG.store2 xlk2 (L' := [(4, yJ (z21)), (0, yR k0), (1, yI (p1)), (2, yI (a2)), (3, yI (a3))]) rfl (fun _ _ => rfl) rfl rfl ?_
            refine yG.load xak rfl (fun _ _ => rfl) (v := yR k0) rfl rfl ?_
            refine yG.load xik rfl (fun _ _ => rfl) (v := yI (a2)) rfl rfl ?_
            refine yG.load xik rfl (fun _ _ => rfl) (v := yI (p1)) rfl rfl ?_
            refine yG.invV (rest := []) A_h20.1 (bOb (d_Dispatch W) H_k0) rfl rfl rfl rfl (c_Dispatch_injectStart W (d + 1) A_h20.1 H_k0 (a2) (p1) (by omega) (by omega) (by omega) (by omega)) (fun rv h22 q9 => ?_)
            obtain ⟨⟨rfl, R_z23⟩, B_h22⟩ := q9
            have A_h22 := A_h20.tr B_h22 (by decide)
            have qq7 : zsl h22 k0 2 = yR r7 := (B_h22.sl H_k0 (by decide)).trans qq5
            have qq8 : zsl h22 k0 0 = yR r18 := (B_h22.sl H_k0 (by decide)).trans qq6
            show yG _ _ _ _ _ _ _ _ _ _ [] _
            refine yG.num (c := 1) rfl (fun _ _ => rfl) (by decide) ?_
            refine yG.store1 xik (L' := [(6, yI (1)), (4, yJ (z21)), (0, yR k0), (1, yI (p1)), (2, yI (a2)), (3, yI (a3))]) rfl (fun _ _ => rfl) rfl rfl ?_
            exact yG.mono (yG.sub (i_113 (a2) (a3) (z21) (1)  h22 A_h22   (by omega) (by omega) (by omega) (by omega) (by omega) (by omega) (by omega) (by omega) (by omega) (by omega) (by omega)) (ySub.cons rfl (ySub.cons rfl (ySub.cons rfl (ySub.cons rfl (ySub.cons rfl (ySub.cons rfl (ySub.nil)))))))) (by omega)
      · intro a2 a3 a4 a6 hq A_hq f0 f1 f2 f3 f4 f5 f6 f7 f8 f9 hm
        refine yG.mono (N := 34 * m + 34) ?_ (by omega)
        refine yG.load xik rfl (fun _ _ => rfl) (v := yI (a6)) rfl rfl ?_
        refine yG.load xak rfl (fun _ _ => rfl) (v := yR k0) rfl rfl ?_
        refine yG.getI A_hq.1 (w_Dispatch_columns W H_k0) rfl rfl (fun z1 e_z1 i_z1 l_z1 u_z1 => ?_)
        refine yG.icmp rfl (t := 143) rfl ⟨by omega, by omega⟩ ⟨by omega, by omega⟩ (fun c2 => ?_) (fun c2 => ?_)
        · have c2 : (a6 : Int) ≥ z1 := c2
          refine yG.load xak rfl (fun _ _ => rfl) (v := yR k0) rfl rfl ?_
          refine yG.getO A_hq.1 (w_Dispatch_solver W H_k0) rfl rfl (fun r3 H_r3 O_r3 q_r3 => ?_)
          refine yG.load xik rfl (fun _ _ => rfl) (v := yI (a2)) rfl rfl ?_
          refine yG.load xik rfl (fun _ _ => rfl) (v := yI (a2)) rfl rfl ?_
          refine yG.load xik rfl (fun _ _ => rfl) (v := yI (a2)) rfl rfl ?_
          refine yG.load xak rfl (fun _ _ => rfl) (v := yR k0) rfl rfl ?_
          refine yG.getI A_hq.1 (w_Dispatch_columns W H_k0) rfl rfl (fun z4 e_z4 i_z4 l_z4 u_z4 => ?_)
          rw [show (z4 : Int) = z1 by omega]
          refine yG.iadd rfl ?_
          refine yG.invV (rest := []) A_hq.1 (bOb (d_Solver W) H_r3) rfl rfl rfl rfl (c_Solver_reduce W (d + 1) A_hq.1 H_r3 (a2) (a2) (a2 + z1) (by omega) (by omega) (by omega) (by omega) (by omega) (by omega)) (fun rv h5 q9 => ?_)
          obtain ⟨⟨z6, rfl, l_z6, u_z6, R_z6⟩, B_h5⟩ := q9
          have A_h5 := A_hq.tr B_h5 (by decide)
          have : ys h5 k0 11 = ys hq k0 11 := B_h5.ys H_k0 (by decide)
          have qq1 : zsl h5 k0 2 = yR r3 := (B_h5.sl H_k0 (by decide)).trans q_r3
          show yG _ _ _ _ _ _ _ _ _ _ (yI z6 :: []) _
          refine yG.load xik rfl (fun _ _ => rfl) (v := yI (a2)) rfl rfl ?_
          refine yG.icmp rfl (t := 183) rfl ⟨by omega, by omega⟩ ⟨by omega, by omega⟩ (fun c7 => ?_) (fun c7 => ?_)
          · have c7 : (z6 : Int) ≠ a2 := c7
            refine yG.iinc rfl (a := a3) rfl (L' := [(3, yI (a3 + 1)), (0, yR k0), (1, yI (p1)), (2, yI (a2)), (4, yJ (a4)), (6, yI (a6))]) rfl ?_
            refine yG.goto rfl (t := 52) rfl ?_
            exact yG.mono (yG.sub (i_52 (a2) (a3 + 1)  h5 A_h5   (by omega) (by omega) (by omega) (by omega) (by omega) (by omega) (by omega)) (ySub.cons rfl (ySub.cons rfl (ySub.cons rfl (ySub.cons rfl (ySub.nil)))))) (by omega)
          · have c7 : (z6 : Int) = a2 := c7
            refine yG.load xak rfl (fun _ _ => rfl) (v := yR k0) rfl rfl ?_
            refine yG.load xik rfl (fun _ _ => rfl) (v := yI (a2)) rfl rfl ?_
            refine yG.load xak rfl (fun _ _ => rfl) (v := yR k0) rfl rfl ?_
            refine yG.getS9 A_h5.1 (w_Dispatch_solver W H_k0) qq1 rfl rfl ?_
            refine yG.load xlk2 rfl (fun _ _ => rfl) (v := yJ (a4)) rfl rfl ?_
            refine yG.invV (rest := [yI (a2), yR k0]) A_h5.1 (bOb (d_Solver W) H_r3) rfl rfl rfl rfl (c_Solver_times W (d + 3) A_h5.1 H_r3 (a4) (by omega) (by omega)) (fun rv hp9 q9 => ?_)
            obtain ⟨⟨z8, rfl, l_z8, u_z8, R_z8⟩, e9⟩ := q9
            rw [e9]
            show yG _ _ _ _ _ _ _ _ _ _ (yJ z8 :: [yI (a2), yR k0]) _
            refine yG.invV (rest := []) A_h5.1 (bOb (d_Dispatch W) H_k0) rfl rfl rfl rfl (c_Dispatch_foldLines W d A_h5.1 H_k0 (a2) (z8) (by omega) (by omega) (by omega) (by omega)) (fun rv h9 q9 => ?_)
            obtain ⟨⟨rfl, R_z10⟩, B_h9⟩ := q9
            have A_h9 := A_h5.tr B_h9 (by decide)
            have : ys h9 k0 11 = ys h5 k0 11 := B_h9.ys H_k0 (by decide)
            have qq2 : zsl h9 k0 2 = yR r3 := (B_h9.sl H_k0 (by decide)).trans qq1
            show yG _ _ _ _ _ _ _ _ _ _ [] _
            refine yG.load xak rfl (fun _ _ => rfl) (v := yR k0) rfl rfl ?_
            refine yG.getS9 A_h9.1 (w_Dispatch_solver W H_k0) qq2 rfl rfl ?_
            refine yG.invV (rest := []) A_h9.1 (bOb (d_Solver W) H_r3) rfl rfl rfl rfl (c_Solver_close W (d + 1) A_h9.1 H_r3) (fun rv h11 q9 => ?_)
            obtain ⟨⟨rfl, R_z12⟩, B_h11⟩ := q9
            have A_h11 := A_h9.tr B_h11 (by decide)
            have : ys h11 k0 11 = ys h9 k0 11 := B_h11.ys H_k0 (by decide)
            have qq3 : zsl h11 k0 2 = yR r3 := (B_h11.sl H_k0 (by decide)).trans qq2
            show yG _ _ _ _ _ _ _ _ _ _ [] _
            refine yG.iinc rfl (a := a3) rfl (L' := [(3, yI (a3 + 1)), (0, yR k0), (1, yI (p1)), (2, yI (a2)), (4, yJ (a4)), (6, yI (a6))]) rfl ?_
            refine yG.goto rfl (t := 52) rfl ?_
            exact yG.mono (yG.sub (i_52 (a2) (a3 + 1)  h11 A_h11   (by omega) (by omega) (by omega) (by omega) (by omega) (by omega) (by omega)) (ySub.cons rfl (ySub.cons rfl (ySub.cons rfl (ySub.cons rfl (ySub.nil)))))) (by omega)
        · have c2 : (a6 : Int) < z1 := c2
          refine yG.load xak rfl (fun _ _ => rfl) (v := yR k0) rfl rfl ?_
          refine yG.load xik rfl (fun _ _ => rfl) (v := yI (a2)) rfl rfl ?_
          refine yG.load xik rfl (fun _ _ => rfl) (v := yI (a6)) rfl rfl ?_
          refine yG.iadd rfl ?_
          refine yG.load xak rfl (fun _ _ => rfl) (v := yR k0) rfl rfl ?_
          refine yG.getO A_hq.1 (w_Dispatch_columnVariable W H_k0) rfl rfl (fun r13 H_r13 O_r13 q_r13 => ?_)
          refine yG.load xik rfl (fun _ _ => rfl) (v := yI (a6)) rfl rfl ?_
          refine yG.iald A_hq.1 (v_Dispatch_columnVariable W H_r13) rfl (by omega) (by omega) (fun z14 e_z14 i_z14 l_z14 u_z14 => ?_)
          have w_z14 := (M_bCv.fr A_hq (by decide)) r13 k0 H_r13 H_k0 (a6 : Int).toNat (by omega)
          refine yG.invV (rest := []) A_hq.1 (bOb (d_Dispatch W) H_k0) rfl rfl rfl rfl (c_Dispatch_injectColumn W (d + 1) A_hq.1 H_k0 (a2 + a6) (z14) (by omega) (by omega) (by omega) (by omega)) (fun rv h15 q9 => ?_)
          obtain ⟨⟨rfl, R_z16⟩, B_h15⟩ := q9
          have A_h15 := A_hq.tr B_h15 (by decide)
          have : ys h15 k0 11 = ys hq k0 11 := B_h15.ys H_k0 (by decide)
          show yG _ _ _ _ _ _ _ _ _ _ [] _
          refine yG.iinc rfl (a := a6) rfl (L' := [(6, yI (a6 + 1)), (0, yR k0), (1, yI (p1)), (2, yI (a2)), (3, yI (a3)), (4, yJ (a4))]) rfl ?_
          refine yG.goto rfl (t := 113) rfl ?_
          exact yG.mono (yG.sub (i_113 (a2) (a3) (a4) (a6 + 1)  h15 A_h15   (by omega) (by omega) (by omega) (by omega) (by omega) (by omega) (by omega) (by omega) (by omega) (by omega) (by omega)) (ySub.cons rfl (ySub.cons rfl (ySub.cons rfl (ySub.cons rfl (ySub.cons rfl (ySub.cons rfl (ySub.nil)))))))) (by omega)
  refine yC.of (M := (xt_X1_measureLines, (7, (0, (2, []))))) rfl rfl (N := 918000986) (yfuel (by decide)) ?_
  show yG 89 xfts (xcall 89 xfts xpools xms (d + 4)) (xpool xp_RX1) [] xt_X1_measureLines (yP 0 (fun rv hp' => (rv = none ∧ True) ∧ bAx G [(34359738368, 1), (1133871366144, 2), (1099511627776, 3), (1099511627776, 6), (1099511627776, 7), (1099511627776, 8), (18029860391747584, 256)] hp hp')) 918000986 0 [(0, yR k0), (1, yI (p1))] [] hp
  obtain ⟨i_52, i_113⟩ := H 27000028
  refine yG.load xak rfl (fun _ _ => rfl) (v := yR k0) rfl rfl ?_
  refine yG.getO A_hp.1 (w_Dispatch_shape W H_k0) rfl rfl (fun r1 H_r1 O_r1 q_r1 => ?_)
  refine yG.load xak rfl (fun _ _ => rfl) (v := yR k0) rfl rfl ?_
  refine yG.getS9 A_hp.1 (w_Dispatch_shape W H_k0) q_r1 rfl rfl ?_
  refine yG.getO A_hp.1 (w_Shape_live W H_r1) rfl rfl (fun r2 H_r2 O_r2 q_r2 => ?_)
  refine yG.num (c := 0) rfl (fun _ _ => rfl) (by decide) ?_
  refine yG.invV (rest := []) A_hp.1 (bOb (d_Shape W) H_r1) rfl rfl rfl rfl (c_Shape_number_30 W (d + 3) A_hp.1 H_r1 H_r2) (fun rv h3 q9 => ?_)
  obtain ⟨⟨z4, rfl, l_z4, u_z4, R_z4⟩, B_h3⟩ := q9
  have A_h3 := A_hp.tr B_h3 (by decide)
  have qq1 : zsl h3 k0 0 = yR r1 := (B_h3.sl H_k0 (by decide)).trans q_r1
  have qq2 : zsl h3 r1 4 = yR r2 := (B_h3.sl H_r1 (by decide)).trans q_r2
  show yG _ _ _ _ _ _ _ _ _ _ (yI z4 :: []) _
  refine yG.store1 xik (L' := [(2, yI (z4)), (0, yR k0), (1, yI (p1))]) rfl (fun _ _ => rfl) rfl rfl ?_
  refine yG.load xak rfl (fun _ _ => rfl) (v := yR k0) rfl rfl ?_
  refine yG.getO A_h3.1 (w_Dispatch_common W H_k0) rfl rfl (fun r5 H_r5 O_r5 q_r5 => ?_)
  obtain ⟨n_r5, N_r5⟩ : ∃ n : Int, n = ((zat G r5 : Nat) : Int) := ⟨_, rfl⟩
  have L_r5 := n_Big W H_r5
  refine yG.numl (c := 0) rfl (fun _ _ => rfl) (by decide) ?_
  refine yG.invV (rest := []) A_h3.1 (bOb (d_Big W) H_r5) rfl rfl rfl rfl (c_Big_put W (d + 2) A_h3.1 H_r5 (0) (by omega) (by omega)) (fun rv h6 q9 => ?_)
  obtain ⟨⟨rfl, R_z7⟩, B_h6⟩ := q9
  have A_h6 := A_h3.tr B_h6 (by decide)
  have qq3 : zsl h6 k0 0 = yR r1 := (B_h6.sl H_k0 (by decide)).trans qq1
  have qq4 : zsl h6 r1 4 = yR r2 := (B_h6.sl H_r1 (by decide)).trans qq2
  show yG _ _ _ _ _ _ _ _ _ _ [] _
  refine yG.load xak rfl (fun _ _ => rfl) (v := yR k0) rfl rfl ?_
  refine yG.getO A_h6.1 (w_Dispatch_solver W H_k0) rfl rfl (fun r8 H_r8 O_r8 q_r8 => ?_)
  refine yG.load xak rfl (fun _ _ => rfl) (v := yR k0) rfl rfl ?_
  refine yG.getS9 A_h6.1 (w_Dispatch_shape W H_k0) qq3 rfl rfl ?_
  refine yG.load xak rfl (fun _ _ => rfl) (v := yR k0) rfl rfl ?_
  refine yG.getS9 A_h6.1 (w_Dispatch_shape W H_k0) qq3 rfl rfl ?_
  refine yG.getS9 A_h6.1 (w_Shape_live W H_r1) qq4 rfl rfl ?_
  refine yG.num (c := 1) rfl (fun _ _ => rfl) (by decide) ?_
  refine yG.num (c := -1) rfl (fun _ _ => rfl) (by decide) ?_
  refine yG.invV (rest := [yR r8]) A_h6.1 (bOb (d_Shape W) H_r1) rfl rfl rfl rfl (c_Shape_bits_3 W (d + 2) A_h6.1 H_r1 H_r2 (1) ((-1)) (by omega) (by omega) (by omega) (by omega)) (fun rv hp9 q9 => ?_)
  obtain ⟨⟨z9, rfl, l_z9, u_z9, R_z9⟩, e9⟩ := q9
  rw [e9]
  show yG _ _ _ _ _ _ _ _ _ _ (yI z9 :: [yR r8]) _
  refine yG.num (c := 22) rfl (fun _ _ => rfl) (by decide) ?_
  refine yG.iadd rfl ?_
  obtain ⟨z10, e_z10, l_z10, u_z10⟩ := ywI (z9 + 22)
  rw [e_z10]
  refine yG.invV (rest := []) A_h6.1 (bOb (d_Solver W) H_r8) rfl rfl rfl rfl (c_Solver_start W (d + 1) A_h6.1 H_r8 (z10) (by omega) (by omega)) (fun rv h11 q9 => ?_)
  obtain ⟨⟨rfl, R_z12⟩, B_h11⟩ := q9
  have A_h11 := A_h6.tr B_h11 (by decide)
  have qq5 : zsl h11 k0 0 = yR r1 := (B_h11.sl H_k0 (by decide)).trans qq3
  have qq6 : zsl h11 r1 4 = yR r2 := (B_h11.sl H_r1 (by decide)).trans qq4
  show yG _ _ _ _ _ _ _ _ _ _ [] _
  refine yG.num (c := 0) rfl (fun _ _ => rfl) (by decide) ?_
  refine yG.store1 xik (L' := [(3, yI (0)), (2, yI (z4)), (0, yR k0), (1, yI (p1))]) rfl (fun _ _ => rfl) rfl rfl ?_
  exact yG.mono (yG.sub (i_52 (z4) (0)  h11 A_h11   (by omega) (by omega) (by omega) (by omega) (by omega) (by omega) (by omega)) (ySub.cons rfl (ySub.cons rfl (ySub.cons rfl (ySub.cons rfl (ySub.nil)))))) (by omega)
theorem c_Dispatch_add {hp : xH} (W : bW G) (d : Nat) (hT : zTy G hp) {k0 : Nat} (H_k0 : bRo G 96 k0) (p1 p2 p3 : Int) (h1l : 0 ≤ p1) (h1u : p1 ≤ 32) (h2l : 0 ≤ p2) (h2u : p2 ≤ 12) (h3l : (-9223372036854775808) ≤ p3) (h3u : p3 ≤ 9223372036854775807) : yC (xcall 89 xfts xpools xms (d + 4)) 74 [yR k0, yI (p1), yI (p2), yJ (p3)] hp (fun rv hp' => (rv = none ∧ True) ∧ bAx G [(34359738368, 1), (34359738368, 2), (68719476736, 256)] hp hp') := by
  have A_hp : bAx G [(34359738368, 1), (34359738368, 2), (68719476736, 256)] hp hp := bAx.rf hT
  refine yC.of (M := (xt_X1_add, (5, (0, (2, []))))) rfl rfl (N := 75) (yfuel (by decide)) ?_
  show yG 89 xfts (xcall 89 xfts xpools xms (d + 3)) (xpool xp_RX1) [] xt_X1_add (yP 0 (fun rv hp' => (rv = none ∧ True) ∧ bAx G [(34359738368, 1), (34359738368, 2), (68719476736, 256)] hp hp')) 75 0 [(0, yR k0), (1, yI (p1)), (2, yI (p2)), (3, yJ (p3))] [] hp
  refine yG.load xak rfl (fun _ _ => rfl) (v := yR k0) rfl rfl ?_
  refine yG.getO A_hp.1 (w_Dispatch_help W H_k0) rfl rfl (fun r1 H_r1 O_r1 q_r1 => ?_)
  refine yG.num (c := 0) rfl (fun _ _ => rfl) (by decide) ?_
  refine yG.aaldO (r := 35) A_hp.1 (v_Big4 W H_r1) rfl rfl rfl (by omega) (by omega) (fun r2 H_r2 q_r2 => ?_)
  obtain ⟨n_r2, N_r2⟩ : ∃ n : Int, n = ((zat G r2 : Nat) : Int) := ⟨_, rfl⟩
  have L_r2 := n_Big W H_r2
  refine yG.load xak rfl (fun _ _ => rfl) (v := yR k0) rfl rfl ?_
  refine yG.getO A_hp.1 (w_Dispatch_common W H_k0) rfl rfl (fun r3 H_r3 O_r3 q_r3 => ?_)
  obtain ⟨n_r3, N_r3⟩ : ∃ n : Int, n = ((zat G r3 : Nat) : Int) := ⟨_, rfl⟩
  have L_r3 := n_Big W H_r3
  refine yG.invV (rest := []) A_hp.1 (bOb (d_Big W) H_r2) rfl rfl rfl rfl (c_Big_copy W (d + 1) A_hp.1 H_r2 H_r3) (fun rv h4 q9 => ?_)
  obtain ⟨⟨rfl, R_z5⟩, B_h4⟩ := q9
  have A_h4 := A_hp.tr B_h4 (by decide)
  have qq1 : zsl h4 k0 16 = yR r1 := (B_h4.sl H_k0 (by decide)).trans q_r1
  have qq2 : zsl h4 r1 (0 : Int).toNat = yR r2 := (B_h4.sl H_r1 (bNo_ok (by decide) _)).trans q_r2
  show yG _ _ _ _ _ _ _ _ _ _ [] _
  refine yG.load xak rfl (fun _ _ => rfl) (v := yR k0) rfl rfl ?_
  refine yG.getS9 A_h4.1 (w_Dispatch_help W H_k0) qq1 rfl rfl ?_
  refine yG.num (c := 0) rfl (fun _ _ => rfl) (by decide) ?_
  refine yG.aaldO (r := 35) A_h4.1 (v_Big4 W H_r1) rfl rfl rfl (by omega) (by omega) (fun r6 H_r6 q_r6 => ?_)
  obtain ⟨n_r6, N_r6⟩ : ∃ n : Int, n = ((zat G r6 : Nat) : Int) := ⟨_, rfl⟩
  have L_r6 := n_Big W H_r6
  have s_r6 : r6 = r2 := by have e9 := q_r6.symm.trans qq2; cases e9; rfl
  rw [s_r6]
  refine yG.load xlk2 rfl (fun _ _ => rfl) (v := yJ (p3)) rfl rfl ?_
  refine yG.invV (rest := []) A_h4.1 (bOb (d_Big W) H_r2) rfl rfl rfl rfl (c_Big_scale W (d + 1) A_h4.1 H_r2 (p3) (by omega) (by omega)) (fun rv h7 q9 => ?_)
  obtain ⟨⟨rfl, R_z8⟩, B_h7⟩ := q9
  have A_h7 := A_h4.tr B_h7 (by decide)
  have qq3 : zsl h7 k0 16 = yR r1 := (B_h7.sl H_k0 (by decide)).trans qq1
  have qq4 : zsl h7 r1 (0 : Int).toNat = yR r2 := (B_h7.sl H_r1 (bNo_ok (by decide) _)).trans qq2
  show yG _ _ _ _ _ _ _ _ _ _ [] _
  refine yG.load xak rfl (fun _ _ => rfl) (v := yR k0) rfl rfl ?_
  refine yG.load xik rfl (fun _ _ => rfl) (v := yI (p1)) rfl rfl ?_
  refine yG.load xik rfl (fun _ _ => rfl) (v := yI (p2)) rfl rfl ?_
  refine yG.invV (rest := []) A_h7.1 (bOb (d_Dispatch W) H_k0) rfl rfl rfl rfl (c_Dispatch_at W (d + 2) A_h7.1 H_k0 (p1) (p2) (by omega) (by omega) (by omega) (by omega)) (fun rv hp9 q9 => ?_)
  obtain ⟨⟨r9, rfl, H_r9⟩, e9⟩ := q9
  rw [e9]
  obtain ⟨n_r9, N_r9⟩ : ∃ n : Int, n = ((zat G r9 : Nat) : Int) := ⟨_, rfl⟩
  have L_r9 := n_Big W H_r9
  show yG _ _ _ _ _ _ _ _ _ _ (yR r9 :: []) _
  refine yG.load xak rfl (fun _ _ => rfl) (v := yR k0) rfl rfl ?_
  refine yG.getS9 A_h7.1 (w_Dispatch_help W H_k0) qq3 rfl rfl ?_
  refine yG.num (c := 0) rfl (fun _ _ => rfl) (by decide) ?_
  refine yG.aaldO (r := 35) A_h7.1 (v_Big4 W H_r1) rfl rfl rfl (by omega) (by omega) (fun r10 H_r10 q_r10 => ?_)
  obtain ⟨n_r10, N_r10⟩ : ∃ n : Int, n = ((zat G r10 : Nat) : Int) := ⟨_, rfl⟩
  have L_r10 := n_Big W H_r10
  have s_r10 : r10 = r2 := by have e9 := q_r10.symm.trans qq4; cases e9; rfl
  rw [s_r10]
  refine yG.invV (rest := []) A_h7.1 (bOb (d_Big W) H_r9) rfl rfl rfl rfl (c_Big_more W d A_h7.1 H_r9 H_r2) (fun rv h11 q9 => ?_)
  obtain ⟨⟨rfl, R_z12⟩, B_h11⟩ := q9
  have A_h11 := A_h7.tr B_h11 (by decide)
  have qq5 : zsl h11 k0 16 = yR r1 := (B_h11.sl H_k0 (by decide)).trans qq3
  have qq6 : zsl h11 r1 (0 : Int).toNat = yR r2 := (B_h11.sl H_r1 (bNo_ok (by decide) _)).trans qq4
  show yG _ _ _ _ _ _ _ _ _ _ [] _
  refine yG.ret rfl (fun _ _ => rfl) ?_
  exact (yP.void ⟨⟨rfl, trivial⟩, A_h11⟩)
theorem c_Dispatch_takeFromKeeper {hp : xH} (W : bW G) (d : Nat) (hT : zTy G hp) {k0 : Nat} (H_k0 : bRo G 96 k0) (p1 p2 p3 : Int) (h1l : 0 ≤ p1) (h1u : p1 ≤ 12) (h2l : (-1) ≤ p2) (h2u : p2 ≤ 11) (h3l : (-2147483648) ≤ p3) (h3u : p3 ≤ 2147483647) : yC (xcall 89 xfts xpools xms (d + 5)) 93 [yR k0, yI (p1), yI (p2), yI (p3)] hp (fun rv hp' => (rv = none ∧ True) ∧ bAx G [(34359738368, 1), (34359738368, 2), (68719476736, 256)] hp hp') := by
  have A_hp : bAx G [(34359738368, 1), (34359738368, 2), (68719476736, 256)] hp hp := bAx.rf hT
  have H : ∀ m : Nat, (∀ a4 : Int, ∀ hq, bAx G [(34359738368, 1), (34359738368, 2), (68719476736, 256)] hp hq → 0 ≤ a4 → (-26) ≤ 0 - a4 → 0 ≤ p1 → (-12) ≤ 0 - p1 → (-1) ≤ p2 → (-11) ≤ 0 - p2 → (-2147483648) ≤ p3 → (-2147483647) ≤ 0 - p3 → 0 - 2 * a4 + 53 < (m : Int) → yG 89 xfts (xcall 89 xfts xpools xms (d + 4)) (xpool xp_RX1) [] xt_X1_takeFromKeeper (yP 0 (fun rv hp' => (rv = none ∧ True) ∧ bAx G [(34359738368, 1), (34359738368, 2), (68719476736, 256)] hp hp')) (49 * m) 3 [(0, yR k0), (1, yI (p1)), (2, yI (p2)), (3, yI (p3)), (4, yI (a4))] [] hq) := by
    intro m
    induction m with
    | zero =>
      intros; exfalso; omega
    | succ m ih =>
      have i_3 := ih
      clear ih
      intro a4 hq A_hq f0 f1 f2 f3 f4 f5 f6 f7 hm
      refine yG.mono (N := 49 * m + 49) ?_ (by omega)
      refine yG.load xik rfl (fun _ _ => rfl) (v := yI (a4)) rfl rfl ?_
      refine yG.load xak rfl (fun _ _ => rfl) (v := yR k0) rfl rfl ?_
      refine yG.getI A_hq.1 (w_Dispatch_rows W H_k0) rfl rfl (fun z1 e_z1 i_z1 l_z1 u_z1 => ?_)
      refine yG.icmp rfl (t := 79) rfl ⟨by omega, by omega⟩ ⟨by omega, by omega⟩ (fun c2 => ?_) (fun c2 => ?_)
      · have c2 : (a4 : Int) ≥ z1 := c2
        refine yG.ret rfl (fun _ _ => rfl) ?_
        exact (yP.void ⟨⟨rfl, trivial⟩, A_hq⟩)
      · have c2 : (a4 : Int) < z1 := c2
        refine yG.load xak rfl (fun _ _ => rfl) (v := yR k0) rfl rfl ?_
        refine yG.getO A_hq.1 (w_Dispatch_rowVariable W H_k0) rfl rfl (fun r3 H_r3 O_r3 q_r3 => ?_)
        refine yG.load xik rfl (fun _ _ => rfl) (v := yI (a4)) rfl rfl ?_
        refine yG.iald A_hq.1 (v_Dispatch_rowVariable W H_r3) rfl (by omega) (by omega) (fun z4 e_z4 i_z4 l_z4 u_z4 => ?_)
        refine yG.load xik rfl (fun _ _ => rfl) (v := yI (p2)) rfl rfl ?_
        refine yG.icmp rfl (t := 73) rfl ⟨by omega, by omega⟩ ⟨by omega, by omega⟩ (fun c5 => ?_) (fun c5 => ?_)
        · have c5 : (z4 : Int) ≠ p2 := c5
          refine yG.iinc rfl (a := a4) rfl (L' := [(4, yI (a4 + 1)), (0, yR k0), (1, yI (p1)), (2, yI (p2)), (3, yI (p3))]) rfl ?_
          refine yG.goto rfl (t := 3) rfl ?_
          exact yG.mono (yG.sub (i_3 (a4 + 1)  hq A_hq   (by omega) (by omega) (by omega) (by omega) (by omega) (by omega) (by omega) (by omega) (by omega)) (ySub.cons rfl (ySub.cons rfl (ySub.cons rfl (ySub.cons rfl (ySub.cons rfl (ySub.nil))))))) (by omega)
        · have c5 : (z4 : Int) = p2 := c5
          refine yG.load xak rfl (fun _ _ => rfl) (v := yR k0) rfl rfl ?_
          refine yG.load xik rfl (fun _ _ => rfl) (v := yI (a4)) rfl rfl ?_
          refine yG.load xik rfl (fun _ _ => rfl) (v := yI (p1)) rfl rfl ?_
          refine yG.load xik rfl (fun _ _ => rfl) (v := yI (p3)) rfl rfl ?_
          refine yG.ineg rfl ?_
          obtain ⟨z6, e_z6, l_z6, u_z6⟩ := ywI (-(p3))
          rw [e_z6]
          refine yG.i2l rfl ⟨by omega, by omega⟩ ?_
          refine yG.invV (rest := []) A_hq.1 (bOb (d_Dispatch W) H_k0) rfl rfl rfl rfl (c_Dispatch_add W d A_hq.1 H_k0 (a4) (p1) (z6) (by omega) (by omega) (by omega) (by omega) (by omega) (by omega)) (fun rv h7 q9 => ?_)
          obtain ⟨⟨rfl, R_z8⟩, B_h7⟩ := q9
          have A_h7 := A_hq.tr B_h7 (by decide)
          have : ys h7 k0 10 = ys hq k0 10 := B_h7.ys H_k0 (by decide)
          show yG _ _ _ _ _ _ _ _ _ _ [] _
          refine yG.load xak rfl (fun _ _ => rfl) (v := yR k0) rfl rfl ?_
          refine yG.load xak rfl (fun _ _ => rfl) (v := yR k0) rfl rfl ?_
          refine yG.getI A_h7.1 (w_Dispatch_rows W H_k0) rfl rfl (fun z9 e_z9 i_z9 l_z9 u_z9 => ?_)
          rw [show (z9 : Int) = z1 by omega]
          refine yG.num (c := 1) rfl (fun _ _ => rfl) (by decide) ?_
          refine yG.iadd rfl ?_
          refine yG.load xak rfl (fun _ _ => rfl) (v := yR k0) rfl rfl ?_
          refine yG.getO A_h7.1 (w_Dispatch_machineOf W H_k0) rfl rfl (fun r10 H_r10 O_r10 q_r10 => ?_)
          refine yG.load xik rfl (fun _ _ => rfl) (v := yI (p2)) rfl rfl ?_
          refine yG.iald A_h7.1 (v_Dispatch_machineOf W H_r10) rfl (by omega) (by omega) (fun z11 e_z11 i_z11 l_z11 u_z11 => ?_)
          refine yG.iadd rfl ?_
          refine yG.load xik rfl (fun _ _ => rfl) (v := yI (p1)) rfl rfl ?_
          refine yG.load xik rfl (fun _ _ => rfl) (v := yI (p3)) rfl rfl ?_
          refine yG.ineg rfl ?_
          obtain ⟨z12, e_z12, l_z12, u_z12⟩ := ywI (-(p3))
          rw [e_z12]
          refine yG.i2l rfl ⟨by omega, by omega⟩ ?_
          refine yG.invV (rest := []) A_h7.1 (bOb (d_Dispatch W) H_k0) rfl rfl rfl rfl (c_Dispatch_add W d A_h7.1 H_k0 ((z1 + 1) + z11) (p1) (z12) (by omega) (by omega) (by omega) (by omega) (by omega) (by omega)) (fun rv h13 q9 => ?_)
          obtain ⟨⟨rfl, R_z14⟩, B_h13⟩ := q9
          have A_h13 := A_h7.tr B_h13 (by decide)
          have : ys h13 k0 10 = ys h7 k0 10 := B_h13.ys H_k0 (by decide)
          show yG _ _ _ _ _ _ _ _ _ _ [] _
          refine yG.load xak rfl (fun _ _ => rfl) (v := yR k0) rfl rfl ?_
          refine yG.load xak rfl (fun _ _ => rfl) (v := yR k0) rfl rfl ?_
          refine yG.getI A_h13.1 (w_Dispatch_rows W H_k0) rfl rfl (fun z15 e_z15 i_z15 l_z15 u_z15 => ?_)
          rw [show (z15 : Int) = z1 by omega]
          refine yG.load xik rfl (fun _ _ => rfl) (v := yI (p1)) rfl rfl ?_
          refine yG.load xik rfl (fun _ _ => rfl) (v := yI (p3)) rfl rfl ?_
          refine yG.ineg rfl ?_
          refine yG.load xak rfl (fun _ _ => rfl) (v := yR k0) rfl rfl ?_
          refine yG.getO A_h13.1 (w_Dispatch_costOf W H_k0) rfl rfl (fun r16 H_r16 O_r16 q_r16 => ?_)
          refine yG.load xik rfl (fun _ _ => rfl) (v := yI (p2)) rfl rfl ?_
          refine yG.iald A_h13.1 (v_Dispatch_costOf W H_r16) rfl (by omega) (by omega) (fun z17 e_z17 i_z17 l_z17 u_z17 => ?_)
          refine yG.imul rfl ?_
          obtain ⟨z18, e_z18⟩ : ∃ z : Int, z = (-(p3)) * z17 := ⟨_, rfl⟩
          rw [← e_z18]
          have b_z18 : -4611686018427387904 ≤ z18 ∧ z18 ≤ 4611686018427387904 := e_z18 ▸ ymuls (A := 2147483648) (B := 2147483648) (by omega) (by omega) (by omega) (by omega) (by decide)
          obtain ⟨z19, e_z19, l_z19, u_z19⟩ := ywI (z18)
          rw [e_z19]
          refine yG.i2l rfl ⟨by omega, by omega⟩ ?_
          refine yG.invV (rest := []) A_h13.1 (bOb (d_Dispatch W) H_k0) rfl rfl rfl rfl (c_Dispatch_add W d A_h13.1 H_k0 (z1) (p1) (z19) (by omega) (by omega) (by omega) (by omega) (by omega) (by omega)) (fun rv h20 q9 => ?_)
          obtain ⟨⟨rfl, R_z21⟩, B_h20⟩ := q9
          have A_h20 := A_h13.tr B_h20 (by decide)
          have : ys h20 k0 10 = ys h13 k0 10 := B_h20.ys H_k0 (by decide)
          show yG _ _ _ _ _ _ _ _ _ _ [] _
          refine yG.iinc rfl (a := a4) rfl (L' := [(4, yI (a4 + 1)), (0, yR k0), (1, yI (p1)), (2, yI (p2)), (3, yI (p3))]) rfl ?_
          refine yG.goto rfl (t := 3) rfl ?_
          exact yG.mono (yG.sub (i_3 (a4 + 1)  h20 A_h20   (by omega) (by omega) (by omega) (by omega) (by omega) (by omega) (by omega) (by omega) (by omega)) (ySub.cons rfl (ySub.cons rfl (ySub.cons rfl (ySub.cons rfl (ySub.cons rfl (ySub.nil))))))) (by omega)
  refine yC.of (M := (xt_X1_takeFromKeeper, (5, (0, (2, []))))) rfl rfl (N := 2744) (yfuel (by decide)) ?_
  show yG 89 xfts (xcall 89 xfts xpools xms (d + 4)) (xpool xp_RX1) [] xt_X1_takeFromKeeper (yP 0 (fun rv hp' => (rv = none ∧ True) ∧ bAx G [(34359738368, 1), (34359738368, 2), (68719476736, 256)] hp hp')) 2744 0 [(0, yR k0), (1, yI (p1)), (2, yI (p2)), (3, yI (p3))] [] hp
  have i_3 := H 55
  refine yG.num (c := 0) rfl (fun _ _ => rfl) (by decide) ?_
  refine yG.store1 xik (L' := [(4, yI (0)), (0, yR k0), (1, yI (p1)), (2, yI (p2)), (3, yI (p3))]) rfl (fun _ _ => rfl) rfl rfl ?_
  exact yG.mono (yG.sub (i_3 (0)  hp A_hp   (by omega) (by omega) (by omega) (by omega) (by omega) (by omega) (by omega) (by omega) (by omega)) (ySub.cons rfl (ySub.cons rfl (ySub.cons rfl (ySub.cons rfl (ySub.cons rfl (ySub.nil))))))) (by omega)
theorem c_Dispatch_fillParts {hp : xH} (W : bW G) (d : Nat) (hT : zTy G hp) (M_bCv : bCv G hp) {k0 : Nat} (H_k0 : bRo G 96 k0) : yC (xcall 89 xfts xpools xms (d + 6)) 79 [yR k0] hp (fun rv hp' => (rv = none ∧ True) ∧ bAx G [(34359738368, 1), (34359738368, 2), (68719476736, 256)] hp hp') := by
  have A_hp : bAx G [(34359738368, 1), (34359738368, 2), (68719476736, 256)] hp hp := bAx.rf hT
  have H : ∀ m : Nat, (∀ a1 : Int, ∀ hq, bAx G [(34359738368, 1), (34359738368, 2), (68719476736, 256)] hp hq → 0 ≤ a1 → (-6) ≤ 0 - a1 → 0 - 9491 * a1 + 66436 < (m : Int) → yG 89 xfts (xcall 89 xfts xpools xms (d + 5)) (xpool xp_RX1) [] xt_X1_fillParts (yP 0 (fun rv hp' => (rv = none ∧ True) ∧ bAx G [(34359738368, 1), (34359738368, 2), (68719476736, 256)] hp hp')) (69 * m) 2 [(0, yR k0), (1, yI (a1))] [] hq) ∧ (∀ a1 : Int, ∀ hq, bAx G [(34359738368, 1), (34359738368, 2), (68719476736, 256)] hp hq → 0 ≤ a1 → (-12) ≤ 0 - a1 → 0 - 730 * a1 + 9489 < (m : Int) → yG 89 xfts (xcall 89 xfts xpools xms (d + 5)) (xpool xp_RX1) [] xt_X1_fillParts (yP 0 (fun rv hp' => (rv = none ∧ True) ∧ bAx G [(34359738368, 1), (34359738368, 2), (68719476736, 256)] hp hp')) (69 * m) 116 [(0, yR k0), (1, yI (a1))] [] hq) ∧ (∀ a1 : Int, ∀ hq, bAx G [(34359738368, 1), (34359738368, 2), (68719476736, 256)] hp hq → 0 ≤ a1 → (-26) ≤ 0 - a1 → 0 - 27 * a1 + 728 < (m : Int) → yG 89 xfts (xcall 89 xfts xpools xms (d + 5)) (xpool xp_RX1) [] xt_X1_fillParts (yP 0 (fun rv hp' => (rv = none ∧ True) ∧ bAx G [(34359738368, 1), (34359738368, 2), (68719476736, 256)] hp hp')) (69 * m) 180 [(0, yR k0), (1, yI (a1))] [] hq) ∧ (∀ a1 : Int, ∀ hq, bAx G [(34359738368, 1), (34359738368, 2), (68719476736, 256)] hp hq → 1 ≤ a1 → (-13) ≤ 0 - a1 → 0 - 2 * a1 + 27 < (m : Int) → yG 89 xfts (xcall 89 xfts xpools xms (d + 5)) (xpool xp_RX1) [] xt_X1_fillParts (yP 0 (fun rv hp' => (rv = none ∧ True) ∧ bAx G [(34359738368, 1), (34359738368, 2), (68719476736, 256)] hp hp')) (69 * m) 225 [(0, yR k0), (1, yI (a1))] [] hq) := by
    intro m
    induction m with
    | zero =>
      refine ⟨?_, ?_, ?_, ?_⟩ <;> (intros; exfalso; omega)
    | succ m ih =>
      obtain ⟨i_2, i_116, i_180, i_225⟩ := ih
      refine ⟨?_, ?_, ?_, ?_⟩
      · intro a1 hq A_hq f0 f1 hm
        refine yG.mono (N := 69 * m + 69) ?_ (by omega)
        refine yG.load xik rfl (fun _ _ => rfl) (v := yI (a1)) rfl rfl ?_
        refine yG.load xak rfl (fun _ _ => rfl) (v := yR k0) rfl rfl ?_
        refine yG.getO A_hq.1 (w_Dispatch_net W H_k0) rfl rfl (fun r1 H_r1 O_r1 q_r1 => ?_)
        refine yG.getO A_hq.1 (w_Net_count W H_r1) rfl rfl (fun r2 H_r2 O_r2 q_r2 => ?_)
        refine yG.num (c := 3) rfl (fun _ _ => rfl) (by decide) ?_
        refine yG.ialdF A_hq.1 (v_Net_count W H_r2) rfl rfl (by omega) (by omega) (fun z3 e_z3 i_z3 l_z3 u_z3 => ?_)
        refine yG.icmp rfl (t := 114) rfl ⟨by omega, by omega⟩ ⟨by omega, by omega⟩ (fun c4 => ?_) (fun c4 => ?_)
        · have c4 : (a1 : Int) ≥ z3 := c4
          refine yG.num (c := 0) rfl (fun _ _ => rfl) (by decide) ?_
          refine yG.store1 xik (L' := [(1, yI (0)), (0, yR k0)]) rfl (fun _ _ => rfl) rfl rfl ?_
          exact yG.mono (yG.sub (i_116 (0)  hq A_hq   (by omega) (by omega) (by omega)) (ySub.cons rfl (ySub.cons rfl (ySub.nil)))) (by omega)
        · have c4 : (a1 : Int) < z3 := c4
          refine yG.load xak rfl (fun _ _ => rfl) (v := yR k0) rfl rfl ?_
          refine yG.getO A_hq.1 (w_Dispatch_shape W H_k0) rfl rfl (fun r5 H_r5 O_r5 q_r5 => ?_)
          refine yG.getO A_hq.1 (w_Shape_on W H_r5) rfl rfl (fun r6 H_r6 O_r6 q_r6 => ?_)
          refine yG.load xik rfl (fun _ _ => rfl) (v := yI (a1)) rfl rfl ?_
          refine yG.bald A_hq.1 (v_Shape_on W H_r6) rfl (by omega) (by omega) (fun z7 e_z7 i_z7 l_z7 u_z7 => ?_)
          refine yG.ifz rfl (t := 108) rfl ⟨by omega, by omega⟩ (fun c8 => ?_) (fun c8 => ?_)
          · have c8 : (z7 : Int) = 0 := c8
            refine yG.iinc rfl (a := a1) rfl (L' := [(1, yI (a1 + 1)), (0, yR k0)]) rfl ?_
            refine yG.goto rfl (t := 2) rfl ?_
            exact yG.mono (yG.sub (i_2 (a1 + 1)  hq A_hq   (by omega) (by omega) (by omega)) (ySub.cons rfl (ySub.cons rfl (ySub.nil)))) (by omega)
          · have c8 : (z7 : Int) ≠ 0 := c8
            refine yG.load xak rfl (fun _ _ => rfl) (v := yR k0) rfl rfl ?_
            refine yG.getS9 A_hq.1 (w_Dispatch_net W H_k0) q_r1 rfl rfl ?_
            refine yG.num (c := 3) rfl (fun _ _ => rfl) (by decide) ?_
            refine yG.load xik rfl (fun _ _ => rfl) (v := yI (a1)) rfl rfl ?_
            refine yG.num (c := 4) rfl (fun _ _ => rfl) (by decide) ?_
            refine yG.invV (rest := []) A_hq.1 (bOb (d_Net W) H_r1) rfl rfl rfl rfl (c_Net_at_3_4 W (d + 4) A_hq.1 H_r1 (a1) (by omega) (by omega)) (fun rv hp9 q9 => ?_)
            obtain ⟨⟨z9, rfl, l_z9, u_z9, R_z9⟩, e9⟩ := q9
            rw [e9]
            show yG _ _ _ _ _ _ _ _ _ _ (yI z9 :: []) _
            refine yG.store1 xik (L' := [(2, yI (z9)), (0, yR k0), (1, yI (a1))]) rfl (fun _ _ => rfl) rfl rfl ?_
            refine yG.load xik rfl (fun _ _ => rfl) (v := yI (z9)) rfl rfl ?_
            refine yG.load xak rfl (fun _ _ => rfl) (v := yR k0) rfl rfl ?_
            refine yG.getS9 A_hq.1 (w_Dispatch_net W H_k0) q_r1 rfl rfl ?_
            refine yG.num (c := 3) rfl (fun _ _ => rfl) (by decide) ?_
            refine yG.load xik rfl (fun _ _ => rfl) (v := yI (a1)) rfl rfl ?_
            refine yG.num (c := 7) rfl (fun _ _ => rfl) (by decide) ?_
            refine yG.invV (rest := [yI (z9)]) A_hq.1 (bOb (d_Net W) H_r1) rfl rfl rfl rfl (c_Net_at_3_7 W (d + 4) A_hq.1 H_r1 (a1) (by omega) (by omega)) (fun rv hp9 q9 => ?_)
            obtain ⟨⟨z10, rfl, l_z10, u_z10, R_z10⟩, e9⟩ := q9
            rw [e9]
            show yG _ _ _ _ _ _ _ _ _ _ (yI z10 :: [yI (z9)]) _
            refine yG.invS (rest := []) rfl rfl rfl rfl (c_J9_minI W (d + 4) A_hq.1 (z9) (z10) (by omega) (by omega) (by omega) (by omega)) (fun rv hp9 q9 => ?_)
            obtain ⟨⟨z11, rfl, l_z11, u_z11, R_z11⟩, e9⟩ := q9
            rw [e9]
            show yG _ _ _ _ _ _ _ _ _ _ (yI z11 :: []) _
            refine yG.store1 xik (L' := [(3, yI (z11)), (2, yI (z9)), (0, yR k0), (1, yI (a1))]) rfl (fun _ _ => rfl) rfl rfl ?_
            refine yG.load xak rfl (fun _ _ => rfl) (v := yR k0) rfl rfl ?_
            refine yG.load xak rfl (fun _ _ => rfl) (v := yR k0) rfl rfl ?_
            refine yG.getI A_hq.1 (w_Dispatch_rows W H_k0) rfl rfl (fun z12 e_z12 i_z12 l_z12 u_z12 => ?_)
            refine yG.num (c := 1) rfl (fun _ _ => rfl) (by decide) ?_
            refine yG.iadd rfl ?_
            refine yG.load xik rfl (fun _ _ => rfl) (v := yI (a1)) rfl rfl ?_
            refine yG.iadd rfl ?_
            refine yG.num (c := 0) rfl (fun _ _ => rfl) (by decide) ?_
            refine yG.load xik rfl (fun _ _ => rfl) (v := yI (z9)) rfl rfl ?_
            refine yG.i2l rfl ⟨by omega, by omega⟩ ?_
            refine yG.invV (rest := []) A_hq.1 (bOb (d_Dispatch W) H_k0) rfl rfl rfl rfl (c_Dispatch_add W (d + 1) A_hq.1 H_k0 ((z12 + 1) + a1) (0) (z9) (by omega) (by omega) (by omega) (by omega) (by omega) (by omega)) (fun rv h13 q9 => ?_)
            obtain ⟨⟨rfl, R_z14⟩, B_h13⟩ := q9
            have A_h13 := A_hq.tr B_h13 (by decide)
            have qq1 : zsl h13 k0 1 = yR r1 := (B_h13.sl H_k0 (by decide)).trans q_r1
            have : ys h13 k0 10 = ys hq k0 10 := B_h13.ys H_k0 (by decide)
            show yG _ _ _ _ _ _ _ _ _ _ [] _
            refine yG.load xak rfl (fun _ _ => rfl) (v := yR k0) rfl rfl ?_
            refine yG.load xak rfl (fun _ _ => rfl) (v := yR k0) rfl rfl ?_
            refine yG.getI A_h13.1 (w_Dispatch_rows W H_k0) rfl rfl (fun z15 e_z15 i_z15 l_z15 u_z15 => ?_)
            rw [show (z15 : Int) = z12 by omega]
            refine yG.num (c := 0) rfl (fun _ _ => rfl) (by decide) ?_
            refine yG.load xak rfl (fun _ _ => rfl) (v := yR k0) rfl rfl ?_
            refine yG.getS9 A_h13.1 (w_Dispatch_net W H_k0) qq1 rfl rfl ?_
            refine yG.num (c := 3) rfl (fun _ _ => rfl) (by decide) ?_
            refine yG.load xik rfl (fun _ _ => rfl) (v := yI (a1)) rfl rfl ?_
            refine yG.num (c := 6) rfl (fun _ _ => rfl) (by decide) ?_
            refine yG.invV (rest := [yI (0), yI (z12), yR k0]) A_h13.1 (bOb (d_Net W) H_r1) rfl rfl rfl rfl (c_Net_at_3_6 W (d + 4) A_h13.1 H_r1 (a1) (by omega) (by omega)) (fun rv hp9 q9 => ?_)
            obtain ⟨⟨z16, rfl, l_z16, u_z16, R_z16⟩, e9⟩ := q9
            rw [e9]
            show yG _ _ _ _ _ _ _ _ _ _ (yI z16 :: [yI (0), yI (z12), yR k0]) _
            refine yG.load xik rfl (fun _ _ => rfl) (v := yI (z11)) rfl rfl ?_
            refine yG.imul rfl ?_
            obtain ⟨z17, e_z17⟩ : ∃ z : Int, z = z16 * z11 := ⟨_, rfl⟩
            rw [← e_z17]
            have b_z17 : 0 ≤ z17 ∧ z17 ≤ 9989001 := e_z17 ▸ ymulb (A := 999) (B := 9999) (by omega) (by omega) (by omega) (by omega) (by decide)
            have b2_z17 : z17 ≤ 999 * z11 := e_z17 ▸ bmulx (by omega) (by omega)
            have b3_z17 : z17 ≤ 9999 * z16 := e_z17 ▸ bmuly (by omega) (by omega)
            refine yG.load xak rfl (fun _ _ => rfl) (v := yR k0) rfl rfl ?_
            refine yG.getS9 A_h13.1 (w_Dispatch_net W H_k0) qq1 rfl rfl ?_
            refine yG.num (c := 3) rfl (fun _ _ => rfl) (by decide) ?_
            refine yG.load xik rfl (fun _ _ => rfl) (v := yI (a1)) rfl rfl ?_
            refine yG.num (c := 8) rfl (fun _ _ => rfl) (by decide) ?_
            refine yG.invV (rest := [yI (z17), yI (0), yI (z12), yR k0]) A_h13.1 (bOb (d_Net W) H_r1) rfl rfl rfl rfl (c_Net_at_3_8 W (d + 4) A_h13.1 H_r1 (a1) (by omega) (by omega)) (fun rv hp9 q9 => ?_)
            obtain ⟨⟨z18, rfl, l_z18, u_z18, R_z18⟩, e9⟩ := q9
            rw [e9]
            show yG _ _ _ _ _ _ _ _ _ _ (yI z18 :: [yI (z17), yI (0), yI (z12), yR k0]) _
            refine yG.load xik rfl (fun _ _ => rfl) (v := yI (z9)) rfl rfl ?_
            refine yG.load xik rfl (fun _ _ => rfl) (v := yI (z11)) rfl rfl ?_
            refine yG.isub rfl ?_
            refine yG.imul rfl ?_
            obtain ⟨z19, e_z19⟩ : ∃ z : Int, z = z18 * (z9 - z11) := ⟨_, rfl⟩
            rw [← e_z19]
            have b_z19 : 0 ≤ z19 ∧ z19 ≤ 9989001 := e_z19 ▸ ymulb (A := 999) (B := 9999) (by omega) (by omega) (by omega) (by omega) (by decide)
            have b2_z19 : z19 ≤ 999 * (z9 - z11) := e_z19 ▸ bmulx (by omega) (by omega)
            have b3_z19 : z19 ≤ 9999 * z18 := e_z19 ▸ bmuly (by omega) (by omega)
            refine yG.iadd rfl ?_
            refine yG.i2l rfl ⟨by omega, by omega⟩ ?_
            refine yG.invV (rest := []) A_h13.1 (bOb (d_Dispatch W) H_k0) rfl rfl rfl rfl (c_Dispatch_add W (d + 1) A_h13.1 H_k0 (z12) (0) (z17 + z19) (by omega) (by omega) (by omega) (by omega) (by omega) (by omega)) (fun rv h20 q9 => ?_)
            obtain ⟨⟨rfl, R_z21⟩, B_h20⟩ := q9
            have A_h20 := A_h13.tr B_h20 (by decide)
            have qq2 : zsl h20 k0 1 = yR r1 := (B_h20.sl H_k0 (by decide)).trans qq1
            have : ys h20 k0 10 = ys h13 k0 10 := B_h20.ys H_k0 (by decide)
            show yG _ _ _ _ _ _ _ _ _ _ [] _
            refine yG.iinc rfl (a := a1) rfl (L' := [(1, yI (a1 + 1)), (3, yI (z11)), (2, yI (z9)), (0, yR k0)]) rfl ?_
            refine yG.goto rfl (t := 2) rfl ?_
            exact yG.mono (yG.sub (i_2 (a1 + 1)  h20 A_h20   (by omega) (by omega) (by omega)) (ySub.cons rfl (ySub.cons rfl (ySub.nil)))) (by omega)
      · intro a1 hq A_hq f0 f1 hm
        refine yG.mono (N := 69 * m + 69) ?_ (by omega)
        refine yG.load xik rfl (fun _ _ => rfl) (v := yI (a1)) rfl rfl ?_
        refine yG.load xak rfl (fun _ _ => rfl) (v := yR k0) rfl rfl ?_
        refine yG.getI A_hq.1 (w_Dispatch_parts W H_k0) rfl rfl (fun z1 e_z1 i_z1 l_z1 u_z1 => ?_)
        refine yG.icmp rfl (t := 178) rfl ⟨by omega, by omega⟩ ⟨by omega, by omega⟩ (fun c2 => ?_) (fun c2 => ?_)
        · have c2 : (a1 : Int) ≥ z1 := c2
          refine yG.num (c := 0) rfl (fun _ _ => rfl) (by decide) ?_
          refine yG.store1 xik (L' := [(1, yI (0)), (0, yR k0)]) rfl (fun _ _ => rfl) rfl rfl ?_
          exact yG.mono (yG.sub (i_180 (0)  hq A_hq   (by omega) (by omega) (by omega)) (ySub.cons rfl (ySub.cons rfl (ySub.nil)))) (by omega)
        · have c2 : (a1 : Int) < z1 := c2
          refine yG.load xak rfl (fun _ _ => rfl) (v := yR k0) rfl rfl ?_
          refine yG.load xak rfl (fun _ _ => rfl) (v := yR k0) rfl rfl ?_
          refine yG.getI A_hq.1 (w_Dispatch_rows W H_k0) rfl rfl (fun z3 e_z3 i_z3 l_z3 u_z3 => ?_)
          refine yG.num (c := 1) rfl (fun _ _ => rfl) (by decide) ?_
          refine yG.iadd rfl ?_
          refine yG.load xak rfl (fun _ _ => rfl) (v := yR k0) rfl rfl ?_
          refine yG.getO A_hq.1 (w_Dispatch_machineOf W H_k0) rfl rfl (fun r4 H_r4 O_r4 q_r4 => ?_)
          refine yG.load xik rfl (fun _ _ => rfl) (v := yI (a1)) rfl rfl ?_
          refine yG.iald A_hq.1 (v_Dispatch_machineOf W H_r4) rfl (by omega) (by omega) (fun z5 e_z5 i_z5 l_z5 u_z5 => ?_)
          refine yG.iadd rfl ?_
          refine yG.num (c := 0) rfl (fun _ _ => rfl) (by decide) ?_
          refine yG.load xak rfl (fun _ _ => rfl) (v := yR k0) rfl rfl ?_
          refine yG.getO A_hq.1 (w_Dispatch_startOf W H_k0) rfl rfl (fun r6 H_r6 O_r6 q_r6 => ?_)
          refine yG.load xik rfl (fun _ _ => rfl) (v := yI (a1)) rfl rfl ?_
          refine yG.iald A_hq.1 (v_Dispatch_startOf W H_r6) rfl (by omega) (by omega) (fun z7 e_z7 i_z7 l_z7 u_z7 => ?_)
          refine yG.i2l rfl ⟨by omega, by omega⟩ ?_
          refine yG.invV (rest := []) A_hq.1 (bOb (d_Dispatch W) H_k0) rfl rfl rfl rfl (c_Dispatch_add W (d + 1) A_hq.1 H_k0 ((z3 + 1) + z5) (0) (z7) (by omega) (by omega) (by omega) (by omega) (by omega) (by omega)) (fun rv h8 q9 => ?_)
          obtain ⟨⟨rfl, R_z9⟩, B_h8⟩ := q9
          have A_h8 := A_hq.tr B_h8 (by decide)
          have : ys h8 k0 10 = ys hq k0 10 := B_h8.ys H_k0 (by decide)
          have qq1 : zsl h8 k0 6 = yR r6 := (B_h8.sl H_k0 (by decide)).trans q_r6
          have : ys h8 r6 (a1 : Int).toNat = ys hq r6 (a1 : Int).toNat := B_h8.ys H_r6 (bNo_ok (by decide) _)
          show yG _ _ _ _ _ _ _ _ _ _ [] _
          refine yG.load xak rfl (fun _ _ => rfl) (v := yR k0) rfl rfl ?_
          refine yG.load xak rfl (fun _ _ => rfl) (v := yR k0) rfl rfl ?_
          refine yG.getI A_h8.1 (w_Dispatch_rows W H_k0) rfl rfl (fun z10 e_z10 i_z10 l_z10 u_z10 => ?_)
          rw [show (z10 : Int) = z3 by omega]
          refine yG.num (c := 0) rfl (fun _ _ => rfl) (by decide) ?_
          refine yG.load xak rfl (fun _ _ => rfl) (v := yR k0) rfl rfl ?_
          refine yG.getO A_h8.1 (w_Dispatch_costOf W H_k0) rfl rfl (fun r11 H_r11 O_r11 q_r11 => ?_)
          refine yG.load xik rfl (fun _ _ => rfl) (v := yI (a1)) rfl rfl ?_
          refine yG.iald A_h8.1 (v_Dispatch_costOf W H_r11) rfl (by omega) (by omega) (fun z12 e_z12 i_z12 l_z12 u_z12 => ?_)
          refine yG.load xak rfl (fun _ _ => rfl) (v := yR k0) rfl rfl ?_
          refine yG.getS9 A_h8.1 (w_Dispatch_startOf W H_k0) qq1 rfl rfl ?_
          refine yG.load xik rfl (fun _ _ => rfl) (v := yI (a1)) rfl rfl ?_
          refine yG.iald A_h8.1 (v_Dispatch_startOf W H_r6) rfl (by omega) (by omega) (fun z13 e_z13 i_z13 l_z13 u_z13 => ?_)
          rw [show (z13 : Int) = z7 by omega]
          refine yG.imul rfl ?_
          obtain ⟨z14, e_z14⟩ : ∃ z : Int, z = z12 * z7 := ⟨_, rfl⟩
          rw [← e_z14]
          have b_z14 : -4611686018427387904 ≤ z14 ∧ z14 ≤ 4611686018427387904 := e_z14 ▸ ymuls (A := 2147483648) (B := 2147483648) (by omega) (by omega) (by omega) (by omega) (by decide)
          obtain ⟨z15, e_z15, l_z15, u_z15⟩ := ywI (z14)
          rw [e_z15]
          refine yG.i2l rfl ⟨by omega, by omega⟩ ?_
          refine yG.invV (rest := []) A_h8.1 (bOb (d_Dispatch W) H_k0) rfl rfl rfl rfl (c_Dispatch_add W (d + 1) A_h8.1 H_k0 (z3) (0) (z15) (by omega) (by omega) (by omega) (by omega) (by omega) (by omega)) (fun rv h16 q9 => ?_)
          obtain ⟨⟨rfl, R_z17⟩, B_h16⟩ := q9
          have A_h16 := A_h8.tr B_h16 (by decide)
          have : ys h16 k0 10 = ys h8 k0 10 := B_h16.ys H_k0 (by decide)
          have qq2 : zsl h16 k0 6 = yR r6 := (B_h16.sl H_k0 (by decide)).trans qq1
          have : ys h16 r6 (a1 : Int).toNat = ys h8 r6 (a1 : Int).toNat := B_h16.ys H_r6 (bNo_ok (by decide) _)
          show yG _ _ _ _ _ _ _ _ _ _ [] _
          refine yG.iinc rfl (a := a1) rfl (L' := [(1, yI (a1 + 1)), (0, yR k0)]) rfl ?_
          refine yG.goto rfl (t := 116) rfl ?_
          exact yG.mono (yG.sub (i_116 (a1 + 1)  h16 A_h16   (by omega) (by omega) (by omega)) (ySub.cons rfl (ySub.cons rfl (ySub.nil)))) (by omega)
      · intro a1 hq A_hq f0 f1 hm
        refine yG.mono (N := 69 * m + 69) ?_ (by omega)
        refine yG.load xik rfl (fun _ _ => rfl) (v := yI (a1)) rfl rfl ?_
        refine yG.load xak rfl (fun _ _ => rfl) (v := yR k0) rfl rfl ?_
        refine yG.getI A_hq.1 (w_Dispatch_rows W H_k0) rfl rfl (fun z1 e_z1 i_z1 l_z1 u_z1 => ?_)
        refine yG.icmp rfl (t := 223) rfl ⟨by omega, by omega⟩ ⟨by omega, by omega⟩ (fun c2 => ?_) (fun c2 => ?_)
        · have c2 : (a1 : Int) ≥ z1 := c2
          refine yG.num (c := 1) rfl (fun _ _ => rfl) (by decide) ?_
          refine yG.store1 xik (L' := [(1, yI (1)), (0, yR k0)]) rfl (fun _ _ => rfl) rfl rfl ?_
          exact yG.mono (yG.sub (i_225 (1)  hq A_hq   (by omega) (by omega) (by omega)) (ySub.cons rfl (ySub.cons rfl (ySub.nil)))) (by omega)
        · have c2 : (a1 : Int) < z1 := c2
          refine yG.load xak rfl (fun _ _ => rfl) (v := yR k0) rfl rfl ?_
          refine yG.getO A_hq.1 (w_Dispatch_rowVariable W H_k0) rfl rfl (fun r3 H_r3 O_r3 q_r3 => ?_)
          refine yG.load xik rfl (fun _ _ => rfl) (v := yI (a1)) rfl rfl ?_
          refine yG.iald A_hq.1 (v_Dispatch_rowVariable W H_r3) rfl (by omega) (by omega) (fun z4 e_z4 i_z4 l_z4 u_z4 => ?_)
          refine yG.num (c := 12) rfl (fun _ _ => rfl) (by decide) ?_
          refine yG.icmp rfl (t := 217) rfl ⟨by omega, by omega⟩ ⟨by omega, by omega⟩ (fun c5 => ?_) (fun c5 => ?_)
          · have c5 : (z4 : Int) ≥ 12 := c5
            refine yG.iinc rfl (a := a1) rfl (L' := [(1, yI (a1 + 1)), (0, yR k0)]) rfl ?_
            refine yG.goto rfl (t := 180) rfl ?_
            exact yG.mono (yG.sub (i_180 (a1 + 1)  hq A_hq   (by omega) (by omega) (by omega)) (ySub.cons rfl (ySub.cons rfl (ySub.nil)))) (by omega)
          · have c5 : (z4 : Int) < 12 := c5
            refine yG.load xak rfl (fun _ _ => rfl) (v := yR k0) rfl rfl ?_
            refine yG.load xik rfl (fun _ _ => rfl) (v := yI (a1)) rfl rfl ?_
            refine yG.num (c := 0) rfl (fun _ _ => rfl) (by decide) ?_
            refine yG.load xak rfl (fun _ _ => rfl) (v := yR k0) rfl rfl ?_
            refine yG.getO A_hq.1 (w_Dispatch_startOf W H_k0) rfl rfl (fun r6 H_r6 O_r6 q_r6 => ?_)
            refine yG.load xak rfl (fun _ _ => rfl) (v := yR k0) rfl rfl ?_
            refine yG.getS9 A_hq.1 (w_Dispatch_rowVariable W H_k0) q_r3 rfl rfl ?_
            refine yG.load xik rfl (fun _ _ => rfl) (v := yI (a1)) rfl rfl ?_
            refine yG.iald A_hq.1 (v_Dispatch_rowVariable W H_r3) rfl (by omega) (by omega) (fun z7 e_z7 i_z7 l_z7 u_z7 => ?_)
            rw [show (z7 : Int) = z4 by omega]
            refine yG.iald A_hq.1 (v_Dispatch_startOf W H_r6) rfl (by omega) (by omega) (fun z8 e_z8 i_z8 l_z8 u_z8 => ?_)
            refine yG.i2l rfl ⟨by omega, by omega⟩ ?_
            refine yG.invV (rest := []) A_hq.1 (bOb (d_Dispatch W) H_k0) rfl rfl rfl rfl (c_Dispatch_add W (d + 1) A_hq.1 H_k0 (a1) (0) (z8) (by omega) (by omega) (by omega) (by omega) (by omega) (by omega)) (fun rv h9 q9 => ?_)
            obtain ⟨⟨rfl, R_z10⟩, B_h9⟩ := q9
            have A_h9 := A_hq.tr B_h9 (by decide)
            have qq1 : zsl h9 k0 12 = yR r3 := (B_h9.sl H_k0 (by decide)).trans q_r3
            have : ys h9 r3 (a1 : Int).toNat = ys hq r3 (a1 : Int).toNat := B_h9.ys H_r3 (bNo_ok (by decide) _)
            show yG _ _ _ _ _ _ _ _ _ _ [] _
            refine yG.iinc rfl (a := a1) rfl (L' := [(1, yI (a1 + 1)), (0, yR k0)]) rfl ?_
            refine yG.goto rfl (t := 180) rfl ?_
            exact yG.mono (yG.sub (i_180 (a1 + 1)  h9 A_h9   (by omega) (by omega) (by omega)) (ySub.cons rfl (ySub.cons rfl (ySub.nil)))) (by omega)
      · intro a1 hq A_hq f0 f1 hm
        refine yG.mono (N := 69 * m + 69) ?_ (by omega)
        refine yG.load xik rfl (fun _ _ => rfl) (v := yI (a1)) rfl rfl ?_
        refine yG.load xak rfl (fun _ _ => rfl) (v := yR k0) rfl rfl ?_
        refine yG.getI A_hq.1 (w_Dispatch_columns W H_k0) rfl rfl (fun z1 e_z1 i_z1 l_z1 u_z1 => ?_)
        refine yG.icmp rfl (t := 315) rfl ⟨by omega, by omega⟩ ⟨by omega, by omega⟩ (fun c2 => ?_) (fun c2 => ?_)
        · have c2 : (a1 : Int) ≥ z1 := c2
          refine yG.ret rfl (fun _ _ => rfl) ?_
          exact (yP.void ⟨⟨rfl, trivial⟩, A_hq⟩)
        · have c2 : (a1 : Int) < z1 := c2
          refine yG.load xak rfl (fun _ _ => rfl) (v := yR k0) rfl rfl ?_
          refine yG.getO A_hq.1 (w_Dispatch_columnVariable W H_k0) rfl rfl (fun r3 H_r3 O_r3 q_r3 => ?_)
          refine yG.load xik rfl (fun _ _ => rfl) (v := yI (a1)) rfl rfl ?_
          refine yG.iald A_hq.1 (v_Dispatch_columnVariable W H_r3) rfl (by omega) (by omega) (fun z4 e_z4 i_z4 l_z4 u_z4 => ?_)
          have w_z4 := (M_bCv.fr A_hq (by decide)) r3 k0 H_r3 H_k0 (a1 : Int).toNat (by omega)
          refine yG.store1 xik (L' := [(2, yI (z4)), (0, yR k0), (1, yI (a1))]) rfl (fun _ _ => rfl) rfl rfl ?_
          refine yG.load xak rfl (fun _ _ => rfl) (v := yR k0) rfl rfl ?_
          refine yG.getO A_hq.1 (w_Dispatch_turned W H_k0) rfl rfl (fun r5 H_r5 O_r5 q_r5 => ?_)
          refine yG.load xik rfl (fun _ _ => rfl) (v := yI (z4)) rfl rfl ?_
          refine yG.bald A_hq.1 (v_Dispatch_turned W H_r5) rfl (by omega) (by omega) (fun z6 e_z6 i_z6 l_z6 u_z6 => ?_)
          refine yG.ifz rfl (t := 253) rfl ⟨by omega, by omega⟩ (fun c7 => ?_) (fun c7 => ?_)
          · have c7 : (z6 : Int) = 0 := c7
            refine yG.num (c := 1) rfl (fun _ _ => rfl) (by decide) ?_
            refine yG.store1 xik (L' := [(3, yI (1)), (2, yI (z4)), (0, yR k0), (1, yI (a1))]) rfl (fun _ _ => rfl) rfl rfl ?_
            refine yG.load xak rfl (fun _ _ => rfl) (v := yR k0) rfl rfl ?_
            refine yG.load xak rfl (fun _ _ => rfl) (v := yR k0) rfl rfl ?_
            refine yG.getI A_hq.1 (w_Dispatch_rows W H_k0) rfl rfl (fun z8 e_z8 i_z8 l_z8 u_z8 => ?_)
            refine yG.num (c := 1) rfl (fun _ _ => rfl) (by decide) ?_
            refine yG.iadd rfl ?_
            refine yG.load xak rfl (fun _ _ => rfl) (v := yR k0) rfl rfl ?_
            refine yG.getO A_hq.1 (w_Dispatch_machineOf W H_k0) rfl rfl (fun r9 H_r9 O_r9 q_r9 => ?_)
            refine yG.load xik rfl (fun _ _ => rfl) (v := yI (z4)) rfl rfl ?_
            refine yG.iald A_hq.1 (v_Dispatch_machineOf W H_r9) rfl (by omega) (by omega) (fun z10 e_z10 i_z10 l_z10 u_z10 => ?_)
            refine yG.iadd rfl ?_
            refine yG.load xik rfl (fun _ _ => rfl) (v := yI (a1)) rfl rfl ?_
            refine yG.load xik rfl (fun _ _ => rfl) (v := yI (1)) rfl rfl ?_
            refine yG.i2l rfl ⟨by omega, by omega⟩ ?_
            refine yG.invV (rest := []) A_hq.1 (bOb (d_Dispatch W) H_k0) rfl rfl rfl rfl (c_Dispatch_add W (d + 1) A_hq.1 H_k0 ((z8 + 1) + z10) (a1) (1) (by omega) (by omega) (by omega) (by omega) (by omega) (by omega)) (fun rv h11 q9 => ?_)
            obtain ⟨⟨rfl, R_z12⟩, B_h11⟩ := q9
            have A_h11 := A_hq.tr B_h11 (by decide)
            have : ys h11 k0 11 = ys hq k0 11 := B_h11.ys H_k0 (by decide)
            have : ys h11 k0 10 = ys hq k0 10 := B_h11.ys H_k0 (by decide)
            show yG _ _ _ _ _ _ _ _ _ _ [] _
            refine yG.load xak rfl (fun _ _ => rfl) (v := yR k0) rfl rfl ?_
            refine yG.load xak rfl (fun _ _ => rfl) (v := yR k0) rfl rfl ?_
            refine yG.getI A_h11.1 (w_Dispatch_rows W H_k0) rfl rfl (fun z13 e_z13 i_z13 l_z13 u_z13 => ?_)
            rw [show (z13 : Int) = z8 by omega]
            refine yG.load xik rfl (fun _ _ => rfl) (v := yI (a1)) rfl rfl ?_
            refine yG.load xik rfl (fun _ _ => rfl) (v := yI (1)) rfl rfl ?_
            refine yG.load xak rfl (fun _ _ => rfl) (v := yR k0) rfl rfl ?_
            refine yG.getO A_h11.1 (w_Dispatch_costOf W H_k0) rfl rfl (fun r14 H_r14 O_r14 q_r14 => ?_)
            refine yG.load xik rfl (fun _ _ => rfl) (v := yI (z4)) rfl rfl ?_
            refine yG.iald A_h11.1 (v_Dispatch_costOf W H_r14) rfl (by omega) (by omega) (fun z15 e_z15 i_z15 l_z15 u_z15 => ?_)
            refine yG.imul rfl ?_
            refine yG.i2l rfl ⟨by omega, by omega⟩ ?_
            refine yG.invV (rest := []) A_h11.1 (bOb (d_Dispatch W) H_k0) rfl rfl rfl rfl (c_Dispatch_add W (d + 1) A_h11.1 H_k0 (z8) (a1) (1 * z15) (by omega) (by omega) (by omega) (by omega) (by omega) (by omega)) (fun rv h16 q9 => ?_)
            obtain ⟨⟨rfl, R_z17⟩, B_h16⟩ := q9
            have A_h16 := A_h11.tr B_h16 (by decide)
            have : ys h16 k0 11 = ys h11 k0 11 := B_h16.ys H_k0 (by decide)
            have : ys h16 k0 10 = ys h11 k0 10 := B_h16.ys H_k0 (by decide)
            show yG _ _ _ _ _ _ _ _ _ _ [] _
            refine yG.load xak rfl (fun _ _ => rfl) (v := yR k0) rfl rfl ?_
            refine yG.load xik rfl (fun _ _ => rfl) (v := yI (a1)) rfl rfl ?_
            refine yG.load xak rfl (fun _ _ => rfl) (v := yR k0) rfl rfl ?_
            refine yG.getO A_h16.1 (w_Dispatch_keeper W H_k0) rfl rfl (fun r18 H_r18 O_r18 q_r18 => ?_)
            refine yG.load xak rfl (fun _ _ => rfl) (v := yR k0) rfl rfl ?_
            refine yG.load xik rfl (fun _ _ => rfl) (v := yI (z4)) rfl rfl ?_
            refine yG.invV (rest := [yR r18, yI (a1), yR k0]) A_h16.1 (bOb (d_Dispatch W) H_k0) rfl rfl rfl rfl (c_Dispatch_islandOf W (d + 3) A_h16.1 H_k0 (z4) (by omega) (by omega)) (fun rv hp9 q9 => ?_)
            obtain ⟨⟨z19, rfl, l_z19, u_z19, R_z19⟩, e9⟩ := q9
            rw [e9]
            show yG _ _ _ _ _ _ _ _ _ _ (yI z19 :: [yR r18, yI (a1), yR k0]) _
            refine yG.iald A_h16.1 (v_Dispatch_keeper W H_r18) rfl (by omega) (by omega) (fun z20 e_z20 i_z20 l_z20 u_z20 => ?_)
            refine yG.load xik rfl (fun _ _ => rfl) (v := yI (1)) rfl rfl ?_
            refine yG.invV (rest := []) A_h16.1 (bOb (d_Dispatch W) H_k0) rfl rfl rfl rfl (c_Dispatch_takeFromKeeper W d A_h16.1 H_k0 (a1) (z20) (1) (by omega) (by omega) (by omega) (by omega) (by omega) (by omega)) (fun rv h21 q9 => ?_)
            obtain ⟨⟨rfl, R_z22⟩, B_h21⟩ := q9
            have A_h21 := A_h16.tr B_h21 (by decide)
            have : ys h21 k0 11 = ys h16 k0 11 := B_h21.ys H_k0 (by decide)
            have : ys h21 k0 10 = ys h16 k0 10 := B_h21.ys H_k0 (by decide)
            show yG _ _ _ _ _ _ _ _ _ _ [] _
            refine yG.iinc rfl (a := a1) rfl (L' := [(1, yI (a1 + 1)), (3, yI (1)), (2, yI (z4)), (0, yR k0)]) rfl ?_
            refine yG.goto rfl (t := 225) rfl ?_
            exact yG.mono (yG.sub (i_225 (a1 + 1)  h21 A_h21   (by omega) (by omega) (by omega)) (ySub.cons rfl (ySub.cons rfl (ySub.nil)))) (by omega)
          · have c7 : (z6 : Int) ≠ 0 := c7
            refine yG.num (c := -1) rfl (fun _ _ => rfl) (by decide) ?_
            refine yG.goto rfl (t := 254) rfl ?_
            refine yG.store1 xik (L' := [(3, yI ((-1))), (2, yI (z4)), (0, yR k0), (1, yI (a1))]) rfl (fun _ _ => rfl) rfl rfl ?_
            refine yG.load xak rfl (fun _ _ => rfl) (v := yR k0) rfl rfl ?_
            refine yG.load xak rfl (fun _ _ => rfl) (v := yR k0) rfl rfl ?_
            refine yG.getI A_hq.1 (w_Dispatch_rows W H_k0) rfl rfl (fun z23 e_z23 i_z23 l_z23 u_z23 => ?_)
            refine yG.num (c := 1) rfl (fun _ _ => rfl) (by decide) ?_
            refine yG.iadd rfl ?_
            refine yG.load xak rfl (fun _ _ => rfl) (v := yR k0) rfl rfl ?_
            refine yG.getO A_hq.1 (w_Dispatch_machineOf W H_k0) rfl rfl (fun r24 H_r24 O_r24 q_r24 => ?_)
            refine yG.load xik rfl (fun _ _ => rfl) (v := yI (z4)) rfl rfl ?_
            refine yG.iald A_hq.1 (v_Dispatch_machineOf W H_r24) rfl (by omega) (by omega) (fun z25 e_z25 i_z25 l_z25 u_z25 => ?_)
            refine yG.iadd rfl ?_
            refine yG.load xik rfl (fun _ _ => rfl) (v := yI (a1)) rfl rfl ?_
            refine yG.load xik rfl (fun _ _ => rfl) (v := yI ((-1))) rfl rfl ?_
            refine yG.i2l rfl ⟨by omega, by omega⟩ ?_
            refine yG.invV (rest := []) A_hq.1 (bOb (d_Dispatch W) H_k0) rfl rfl rfl rfl (c_Dispatch_add W (d + 1) A_hq.1 H_k0 ((z23 + 1) + z25) (a1) ((-1)) (by omega) (by omega) (by omega) (by omega) (by omega) (by omega)) (fun rv h26 q9 => ?_)
            obtain ⟨⟨rfl, R_z27⟩, B_h26⟩ := q9
            have A_h26 := A_hq.tr B_h26 (by decide)
            have : ys h26 k0 11 = ys hq k0 11 := B_h26.ys H_k0 (by decide)
            have : ys h26 k0 10 = ys hq k0 10 := B_h26.ys H_k0 (by decide)
            show yG _ _ _ _ _ _ _ _ _ _ [] _
            refine yG.load xak rfl (fun _ _ => rfl) (v := yR k0) rfl rfl ?_
            refine yG.load xak rfl (fun _ _ => rfl) (v := yR k0) rfl rfl ?_
            refine yG.getI A_h26.1 (w_Dispatch_rows W H_k0) rfl rfl (fun z28 e_z28 i_z28 l_z28 u_z28 => ?_)
            rw [show (z28 : Int) = z23 by omega]
            refine yG.load xik rfl (fun _ _ => rfl) (v := yI (a1)) rfl rfl ?_
            refine yG.load xik rfl (fun _ _ => rfl) (v := yI ((-1))) rfl rfl ?_
            refine yG.load xak rfl (fun _ _ => rfl) (v := yR k0) rfl rfl ?_
            refine yG.getO A_h26.1 (w_Dispatch_costOf W H_k0) rfl rfl (fun r29 H_r29 O_r29 q_r29 => ?_)
            refine yG.load xik rfl (fun _ _ => rfl) (v := yI (z4)) rfl rfl ?_
            refine yG.iald A_h26.1 (v_Dispatch_costOf W H_r29) rfl (by omega) (by omega) (fun z30 e_z30 i_z30 l_z30 u_z30 => ?_)
            refine yG.imul rfl ?_
            obtain ⟨z31, e_z31, l_z31, u_z31⟩ := ywI ((-1) * z30)
            rw [e_z31]
            refine yG.i2l rfl ⟨by omega, by omega⟩ ?_
            refine yG.invV (rest := []) A_h26.1 (bOb (d_Dispatch W) H_k0) rfl rfl rfl rfl (c_Dispatch_add W (d + 1) A_h26.1 H_k0 (z23) (a1) (z31) (by omega) (by omega) (by omega) (by omega) (by omega) (by omega)) (fun rv h32 q9 => ?_)
            obtain ⟨⟨rfl, R_z33⟩, B_h32⟩ := q9
            have A_h32 := A_h26.tr B_h32 (by decide)
            have : ys h32 k0 11 = ys h26 k0 11 := B_h32.ys H_k0 (by decide)
            have : ys h32 k0 10 = ys h26 k0 10 := B_h32.ys H_k0 (by decide)
            show yG _ _ _ _ _ _ _ _ _ _ [] _
            refine yG.load xak rfl (fun _ _ => rfl) (v := yR k0) rfl rfl ?_
            refine yG.load xik rfl (fun _ _ => rfl) (v := yI (a1)) rfl rfl ?_
            refine yG.load xak rfl (fun _ _ => rfl) (v := yR k0) rfl rfl ?_
            refine yG.getO A_h32.1 (w_Dispatch_keeper W H_k0) rfl rfl (fun r34 H_r34 O_r34 q_r34 => ?_)
            refine yG.load xak rfl (fun _ _ => rfl) (v := yR k0) rfl rfl ?_
            refine yG.load xik rfl (fun _ _ => rfl) (v := yI (z4)) rfl rfl ?_
            refine yG.invV (rest := [yR r34, yI (a1), yR k0]) A_h32.1 (bOb (d_Dispatch W) H_k0) rfl rfl rfl rfl (c_Dispatch_islandOf W (d + 3) A_h32.1 H_k0 (z4) (by omega) (by omega)) (fun rv hp9 q9 => ?_)
            obtain ⟨⟨z35, rfl, l_z35, u_z35, R_z35⟩, e9⟩ := q9
            rw [e9]
            show yG _ _ _ _ _ _ _ _ _ _ (yI z35 :: [yR r34, yI (a1), yR k0]) _
            refine yG.iald A_h32.1 (v_Dispatch_keeper W H_r34) rfl (by omega) (by omega) (fun z36 e_z36 i_z36 l_z36 u_z36 => ?_)
            refine yG.load xik rfl (fun _ _ => rfl) (v := yI ((-1))) rfl rfl ?_
            refine yG.invV (rest := []) A_h32.1 (bOb (d_Dispatch W) H_k0) rfl rfl rfl rfl (c_Dispatch_takeFromKeeper W d A_h32.1 H_k0 (a1) (z36) ((-1)) (by omega) (by omega) (by omega) (by omega) (by omega) (by omega)) (fun rv h37 q9 => ?_)
            obtain ⟨⟨rfl, R_z38⟩, B_h37⟩ := q9
            have A_h37 := A_h32.tr B_h37 (by decide)
            have : ys h37 k0 11 = ys h32 k0 11 := B_h37.ys H_k0 (by decide)
            have : ys h37 k0 10 = ys h32 k0 10 := B_h37.ys H_k0 (by decide)
            show yG _ _ _ _ _ _ _ _ _ _ [] _
            refine yG.iinc rfl (a := a1) rfl (L' := [(1, yI (a1 + 1)), (3, yI ((-1))), (2, yI (z4)), (0, yR k0)]) rfl ?_
            refine yG.goto rfl (t := 225) rfl ?_
            exact yG.mono (yG.sub (i_225 (a1 + 1)  h37 A_h37   (by omega) (by omega) (by omega)) (ySub.cons rfl (ySub.cons rfl (ySub.nil)))) (by omega)
  refine yC.of (M := (xt_X1_fillParts, (4, (0, (2, []))))) rfl rfl (N := 4584291) (yfuel (by decide)) ?_
  show yG 89 xfts (xcall 89 xfts xpools xms (d + 5)) (xpool xp_RX1) [] xt_X1_fillParts (yP 0 (fun rv hp' => (rv = none ∧ True) ∧ bAx G [(34359738368, 1), (34359738368, 2), (68719476736, 256)] hp hp')) 4584291 0 [(0, yR k0)] [] hp
  obtain ⟨i_2, i_116, i_180, i_225⟩ := H 66438
  refine yG.num (c := 0) rfl (fun _ _ => rfl) (by decide) ?_
  refine yG.store1 xik (L' := [(1, yI (0)), (0, yR k0)]) rfl (fun _ _ => rfl) rfl rfl ?_
  exact yG.mono (yG.sub (i_2 (0)  hp A_hp   (by omega) (by omega) (by omega)) (ySub.cons rfl (ySub.cons rfl (ySub.nil)))) (by omega)
theorem c_Dispatch_turn {hp : xH} (W : bW G) (d : Nat) (hT : zTy G hp) {k0 : Nat} (H_k0 : bRo G 96 k0) (p1 : Int) (h1l : 0 ≤ p1) (h1u : p1 ≤ 25) : yC (xcall 89 xfts xpools xms (d + 4)) 98 [yR k0, yI (p1)] hp (fun rv hp' => (rv = none ∧ True) ∧ bAx G [(34359738368, 1), (34359738368, 2), (68719476736, 256)] hp hp') := by
  have A_hp : bAx G [(34359738368, 1), (34359738368, 2), (68719476736, 256)] hp hp := bAx.rf hT
  have H : ∀ m : Nat, (∀ a2 : Int, ∀ hq, bAx G [(34359738368, 1), (34359738368, 2), (68719476736, 256)] hp hq → 0 ≤ a2 → (-13) ≤ 0 - a2 → 0 ≤ p1 → (-25) ≤ 0 - p1 → 0 - 2 * a2 + 27 < (m : Int) → yG 89 xfts (xcall 89 xfts xpools xms (d + 3)) (xpool xp_RX1) [] xt_X1_turn (yP 0 (fun rv hp' => (rv = none ∧ True) ∧ bAx G [(34359738368, 1), (34359738368, 2), (68719476736, 256)] hp hp')) (36 * m) 2 [(0, yR k0), (1, yI (p1)), (2, yI (a2))] [] hq) := by
    intro m
    induction m with
    | zero =>
      intros; exfalso; omega
    | succ m ih =>
      have i_2 := ih
      clear ih
      intro a2 hq A_hq f0 f1 f2 f3 hm
      refine yG.mono (N := 36 * m + 36) ?_ (by omega)
      refine yG.load xik rfl (fun _ _ => rfl) (v := yI (a2)) rfl rfl ?_
      refine yG.load xak rfl (fun _ _ => rfl) (v := yR k0) rfl rfl ?_
      refine yG.getI A_hq.1 (w_Dispatch_columns W H_k0) rfl rfl (fun z1 e_z1 i_z1 l_z1 u_z1 => ?_)
      refine yG.icmp rfl (t := 25) rfl ⟨by omega, by omega⟩ ⟨by omega, by omega⟩ (fun c2 => ?_) (fun c2 => ?_)
      · have c2 : (a2 : Int) ≥ z1 := c2
        refine yG.load xak rfl (fun _ _ => rfl) (v := yR k0) rfl rfl ?_
        refine yG.getO A_hq.1 (w_Dispatch_help W H_k0) rfl rfl (fun r3 H_r3 O_r3 q_r3 => ?_)
        refine yG.num (c := 0) rfl (fun _ _ => rfl) (by decide) ?_
        refine yG.aaldO (r := 35) A_hq.1 (v_Big4 W H_r3) rfl rfl rfl (by omega) (by omega) (fun r4 H_r4 q_r4 => ?_)
        obtain ⟨n_r4, N_r4⟩ : ∃ n : Int, n = ((zat G r4 : Nat) : Int) := ⟨_, rfl⟩
        have L_r4 := n_Big W H_r4
        refine yG.load xak rfl (fun _ _ => rfl) (v := yR k0) rfl rfl ?_
        refine yG.getO A_hq.1 (w_Dispatch_common W H_k0) rfl rfl (fun r5 H_r5 O_r5 q_r5 => ?_)
        obtain ⟨n_r5, N_r5⟩ : ∃ n : Int, n = ((zat G r5 : Nat) : Int) := ⟨_, rfl⟩
        have L_r5 := n_Big W H_r5
        refine yG.invV (rest := []) A_hq.1 (bOb (d_Big W) H_r4) rfl rfl rfl rfl (c_Big_copy W (d + 1) A_hq.1 H_r4 H_r5) (fun rv h6 q9 => ?_)
        obtain ⟨⟨rfl, R_z7⟩, B_h6⟩ := q9
        have A_h6 := A_hq.tr B_h6 (by decide)
        have qq1 : zsl h6 k0 16 = yR r3 := (B_h6.sl H_k0 (by decide)).trans q_r3
        have qq2 : zsl h6 r3 (0 : Int).toNat = yR r4 := (B_h6.sl H_r3 (bNo_ok (by decide) _)).trans q_r4
        show yG _ _ _ _ _ _ _ _ _ _ [] _
        refine yG.load xak rfl (fun _ _ => rfl) (v := yR k0) rfl rfl ?_
        refine yG.getS9 A_h6.1 (w_Dispatch_help W H_k0) qq1 rfl rfl ?_
        refine yG.num (c := 0) rfl (fun _ _ => rfl) (by decide) ?_
        refine yG.aaldO (r := 35) A_h6.1 (v_Big4 W H_r3) rfl rfl rfl (by omega) (by omega) (fun r8 H_r8 q_r8 => ?_)
        obtain ⟨n_r8, N_r8⟩ : ∃ n : Int, n = ((zat G r8 : Nat) : Int) := ⟨_, rfl⟩
        have L_r8 := n_Big W H_r8
        have s_r8 : r8 = r4 := by have e9 := q_r8.symm.trans qq2; cases e9; rfl
        rw [s_r8]
        refine yG.load xak rfl (fun _ _ => rfl) (v := yR k0) rfl rfl ?_
        refine yG.getO A_h6.1 (w_Dispatch_most W H_k0) rfl rfl (fun r9 H_r9 O_r9 q_r9 => ?_)
        refine yG.load xak rfl (fun _ _ => rfl) (v := yR k0) rfl rfl ?_
        refine yG.getO A_h6.1 (w_Dispatch_rowVariable W H_k0) rfl rfl (fun r10 H_r10 O_r10 q_r10 => ?_)
        refine yG.load xik rfl (fun _ _ => rfl) (v := yI (p1)) rfl rfl ?_
        refine yG.iald A_h6.1 (v_Dispatch_rowVariable W H_r10) rfl (by omega) (by omega) (fun z11 e_z11 i_z11 l_z11 u_z11 => ?_)
        refine yG.iald A_h6.1 (v_Dispatch_most W H_r9) rfl (by omega) (by omega) (fun z12 e_z12 i_z12 l_z12 u_z12 => ?_)
        refine yG.i2l rfl ⟨by omega, by omega⟩ ?_
        refine yG.invV (rest := []) A_h6.1 (bOb (d_Big W) H_r4) rfl rfl rfl rfl (c_Big_scale W (d + 1) A_h6.1 H_r4 (z12) (by omega) (by omega)) (fun rv h13 q9 => ?_)
        obtain ⟨⟨rfl, R_z14⟩, B_h13⟩ := q9
        have A_h13 := A_h6.tr B_h13 (by decide)
        have qq3 : zsl h13 k0 16 = yR r3 := (B_h13.sl H_k0 (by decide)).trans qq1
        have qq4 : zsl h13 r3 (0 : Int).toNat = yR r4 := (B_h13.sl H_r3 (bNo_ok (by decide) _)).trans qq2
        show yG _ _ _ _ _ _ _ _ _ _ [] _
        refine yG.load xak rfl (fun _ _ => rfl) (v := yR k0) rfl rfl ?_
        refine yG.load xik rfl (fun _ _ => rfl) (v := yI (p1)) rfl rfl ?_
        refine yG.num (c := 0) rfl (fun _ _ => rfl) (by decide) ?_
        refine yG.invV (rest := []) A_h13.1 (bOb (d_Dispatch W) H_k0) rfl rfl rfl rfl (c_Dispatch_at W (d + 2) A_h13.1 H_k0 (p1) (0) (by omega) (by omega) (by omega) (by omega)) (fun rv hp9 q9 => ?_)
        obtain ⟨⟨r15, rfl, H_r15⟩, e9⟩ := q9
        rw [e9]
        obtain ⟨n_r15, N_r15⟩ : ∃ n : Int, n = ((zat G r15 : Nat) : Int) := ⟨_, rfl⟩
        have L_r15 := n_Big W H_r15
        show yG _ _ _ _ _ _ _ _ _ _ (yR r15 :: []) _
        refine yG.load xak rfl (fun _ _ => rfl) (v := yR k0) rfl rfl ?_
        refine yG.getS9 A_h13.1 (w_Dispatch_help W H_k0) qq3 rfl rfl ?_
        refine yG.num (c := 0) rfl (fun _ _ => rfl) (by decide) ?_
        refine yG.aaldO (r := 35) A_h13.1 (v_Big4 W H_r3) rfl rfl rfl (by omega) (by omega) (fun r16 H_r16 q_r16 => ?_)
        obtain ⟨n_r16, N_r16⟩ : ∃ n : Int, n = ((zat G r16 : Nat) : Int) := ⟨_, rfl⟩
        have L_r16 := n_Big W H_r16
        have s_r16 : r16 = r4 := by have e9 := q_r16.symm.trans qq4; cases e9; rfl
        rw [s_r16]
        refine yG.invV (rest := []) A_h13.1 (bOb (d_Big W) H_r15) rfl rfl rfl rfl (c_Big_more W d A_h13.1 H_r15 H_r4) (fun rv h17 q9 => ?_)
        obtain ⟨⟨rfl, R_z18⟩, B_h17⟩ := q9
        have A_h17 := A_h13.tr B_h17 (by decide)
        have qq5 : zsl h17 k0 16 = yR r3 := (B_h17.sl H_k0 (by decide)).trans qq3
        have qq6 : zsl h17 r3 (0 : Int).toNat = yR r4 := (B_h17.sl H_r3 (bNo_ok (by decide) _)).trans qq4
        show yG _ _ _ _ _ _ _ _ _ _ [] _
        refine yG.ret rfl (fun _ _ => rfl) ?_
        exact (yP.void ⟨⟨rfl, trivial⟩, A_h17⟩)
      · have c2 : (a2 : Int) < z1 := c2
        refine yG.load xak rfl (fun _ _ => rfl) (v := yR k0) rfl rfl ?_
        refine yG.load xik rfl (fun _ _ => rfl) (v := yI (p1)) rfl rfl ?_
        refine yG.load xik rfl (fun _ _ => rfl) (v := yI (a2)) rfl rfl ?_
        refine yG.invV (rest := []) A_hq.1 (bOb (d_Dispatch W) H_k0) rfl rfl rfl rfl (c_Dispatch_at W (d + 2) A_hq.1 H_k0 (p1) (a2) (by omega) (by omega) (by omega) (by omega)) (fun rv hp9 q9 => ?_)
        obtain ⟨⟨r19, rfl, H_r19⟩, e9⟩ := q9
        rw [e9]
        obtain ⟨n_r19, N_r19⟩ : ∃ n : Int, n = ((zat G r19 : Nat) : Int) := ⟨_, rfl⟩
        have L_r19 := n_Big W H_r19
        show yG _ _ _ _ _ _ _ _ _ _ (yR r19 :: []) _
        refine yG.invV (rest := []) A_hq.1 (bOb (d_Big W) H_r19) rfl rfl rfl rfl (c_Big_negate W (d + 2) A_hq.1 H_r19) (fun rv h20 q9 => ?_)
        obtain ⟨⟨rfl, R_z21⟩, B_h20⟩ := q9
        have A_h20 := A_hq.tr B_h20 (by decide)
        show yG _ _ _ _ _ _ _ _ _ _ [] _
        refine yG.iinc rfl (a := a2) rfl (L' := [(2, yI (a2 + 1)), (0, yR k0), (1, yI (p1))]) rfl ?_
        refine yG.goto rfl (t := 2) rfl ?_
        exact yG.mono (yG.sub (i_2 (a2 + 1)  h20 A_h20   (by omega) (by omega) (by omega) (by omega) (by omega)) (ySub.cons rfl (ySub.cons rfl (ySub.cons rfl (ySub.nil))))) (by omega)
  refine yC.of (M := (xt_X1_turn, (3, (0, (2, []))))) rfl rfl (N := 1080) (yfuel (by decide)) ?_
  show yG 89 xfts (xcall 89 xfts xpools xms (d + 3)) (xpool xp_RX1) [] xt_X1_turn (yP 0 (fun rv hp' => (rv = none ∧ True) ∧ bAx G [(34359738368, 1), (34359738368, 2), (68719476736, 256)] hp hp')) 1080 0 [(0, yR k0), (1, yI (p1))] [] hp
  have i_2 := H 29
  refine yG.num (c := 0) rfl (fun _ _ => rfl) (by decide) ?_
  refine yG.store1 xik (L' := [(2, yI (0)), (0, yR k0), (1, yI (p1))]) rfl (fun _ _ => rfl) rfl rfl ?_
  exact yG.mono (yG.sub (i_2 (0)  hp A_hp   (by omega) (by omega) (by omega) (by omega) (by omega)) (ySub.cons rfl (ySub.cons rfl (ySub.cons rfl (ySub.nil))))) (by omega)
theorem c_Dispatch_leaving {hp : xH} (W : bW G) (d : Nat) (hT : zTy G hp) {k0 : Nat} (H_k0 : bRo G 96 k0) : yC (xcall 89 xfts xpools xms (d + 5)) 86 [yR k0] hp (bQi G [(34359738368, 1), (34359738368, 2), (68719476736, 256)] hp (-1) 25 (fun _ => True)) := by
  have A_hp : bAx G [(34359738368, 1), (34359738368, 2), (68719476736, 256)] hp hp := bAx.rf hT
  have H : ∀ m : Nat, (∀ a1 : Int, ∀ a2 : Int, ∀ a3 : Int, ∀ hq, bAx G [(34359738368, 1), (34359738368, 2), (68719476736, 256)] hp hq → (-1) ≤ a1 → (-25) ≤ 0 - a1 → 0 ≤ a2 → (-1) ≤ 0 - a2 → 0 ≤ a3 → (-26) ≤ 0 - a3 → (-1) ≤ a1 - a2 → 1 ≤ 0 - a1 + a3 → 0 - 3 * a3 + 80 < (m : Int) → yG 89 xfts (xcall 89 xfts xpools xms (d + 4)) (xpool xp_RX1) [] xt_X1_leaving (yP 1 (bQi G [(34359738368, 1), (34359738368, 2), (68719476736, 256)] hp (-1) 25 (fun _ => True))) (48 * m) 6 [(0, yR k0), (1, yI (a1)), (2, yI (a2)), (3, yI (a3))] [] hq) ∧ (∀ a1 : Int, ∀ a2 : Int, ∀ a3 : Int, ∀ hq, bAx G [(34359738368, 1), (34359738368, 2), (68719476736, 256)] hp hq → (-1) ≤ a1 → (-24) ≤ 0 - a1 → 0 ≤ a2 → (-1) ≤ 0 - a2 → 0 ≤ a3 → (-25) ≤ 0 - a3 → (-1) ≤ a1 - a2 → 1 ≤ 0 - a1 + a3 → 0 - 3 * a3 + 79 < (m : Int) → yG 89 xfts (xcall 89 xfts xpools xms (d + 4)) (xpool xp_RX1) [] xt_X1_leaving (yP 1 (bQi G [(34359738368, 1), (34359738368, 2), (68719476736, 256)] hp (-1) 25 (fun _ => True))) (48 * m) 34 [(0, yR k0), (1, yI (a1)), (2, yI (a2)), (3, yI (a3))] [] hq) := by
    intro m
    induction m with
    | zero =>
      refine ⟨?_, ?_⟩ <;> (intros; exfalso; omega)
    | succ m ih =>
      obtain ⟨i_6, i_34⟩ := ih
      refine ⟨?_, ?_⟩
      · intro a1 a2 a3 hq A_hq f0 f1 f2 f3 f4 f5 f6 f7 hm
        refine yG.mono (N := 48 * m + 48) ?_ (by omega)
        refine yG.load xik rfl (fun _ _ => rfl) (v := yI (a3)) rfl rfl ?_
        refine yG.load xak rfl (fun _ _ => rfl) (v := yR k0) rfl rfl ?_
        refine yG.getI A_hq.1 (w_Dispatch_rows W H_k0) rfl rfl (fun z1 e_z1 i_z1 l_z1 u_z1 => ?_)
        refine yG.icmp rfl (t := 121) rfl ⟨by omega, by omega⟩ ⟨by omega, by omega⟩ (fun c2 => ?_) (fun c2 => ?_)
        · have c2 : (a3 : Int) ≥ z1 := c2
          refine yG.load xik rfl (fun _ _ => rfl) (v := yI (a2)) rfl rfl ?_
          refine yG.ifz rfl (t := 130) rfl ⟨by omega, by omega⟩ (fun c3 => ?_) (fun c3 => ?_)
          · have c3 : (a2 : Int) = 0 := c3
            refine yG.load xik rfl (fun _ _ => rfl) (v := yI (a1)) rfl rfl ?_
            refine yG.ret rfl (fun _ _ => rfl) ?_
            exact (yP.int ⟨by omega, by omega⟩ ⟨⟨a1, rfl, by omega, by omega, trivial⟩, A_hq⟩)
          · have c3 : (a2 : Int) ≠ 0 := c3
            refine yG.load xak rfl (fun _ _ => rfl) (v := yR k0) rfl rfl ?_
            refine yG.load xik rfl (fun _ _ => rfl) (v := yI (a1)) rfl rfl ?_
            refine yG.invV (rest := []) A_hq.1 (bOb (d_Dispatch W) H_k0) rfl rfl rfl rfl (c_Dispatch_turn W d A_hq.1 H_k0 (a1) (by omega) (by omega)) (fun rv h4 q9 => ?_)
            obtain ⟨⟨rfl, R_z5⟩, B_h4⟩ := q9
            have A_h4 := A_hq.tr B_h4 (by decide)
            show yG _ _ _ _ _ _ _ _ _ _ [] _
            refine yG.load xik rfl (fun _ _ => rfl) (v := yI (a1)) rfl rfl ?_
            refine yG.ret rfl (fun _ _ => rfl) ?_
            exact (yP.int ⟨by omega, by omega⟩ ⟨⟨a1, rfl, by omega, by omega, trivial⟩, A_h4⟩)
        · have c2 : (a3 : Int) < z1 := c2
          refine yG.load xik rfl (fun _ _ => rfl) (v := yI (a1)) rfl rfl ?_
          refine yG.num (c := -1) rfl (fun _ _ => rfl) (by decide) ?_
          refine yG.icmp rfl (t := 34) rfl ⟨by omega, by omega⟩ ⟨by omega, by omega⟩ (fun c6 => ?_) (fun c6 => ?_)
          · have c6 : (a1 : Int) = (-1) := c6
            exact yG.mono (yG.sub (i_34 (a1) (a2) (a3)  hq A_hq   (by omega) (by omega) (by omega) (by omega) (by omega) (by omega) (by omega) (by omega) (by omega)) (ySub.cons rfl (ySub.cons rfl (ySub.cons rfl (ySub.cons rfl (ySub.nil)))))) (by omega)
          · have c6 : (a1 : Int) ≠ (-1) := c6
            refine yG.load xak rfl (fun _ _ => rfl) (v := yR k0) rfl rfl ?_
            refine yG.getO A_hq.1 (w_Dispatch_rowVariable W H_k0) rfl rfl (fun r7 H_r7 O_r7 q_r7 => ?_)
            refine yG.load xik rfl (fun _ _ => rfl) (v := yI (a3)) rfl rfl ?_
            refine yG.iald A_hq.1 (v_Dispatch_rowVariable W H_r7) rfl (by omega) (by omega) (fun z8 e_z8 i_z8 l_z8 u_z8 => ?_)
            refine yG.load xak rfl (fun _ _ => rfl) (v := yR k0) rfl rfl ?_
            refine yG.getS9 A_hq.1 (w_Dispatch_rowVariable W H_k0) q_r7 rfl rfl ?_
            refine yG.load xik rfl (fun _ _ => rfl) (v := yI (a1)) rfl rfl ?_
            refine yG.iald A_hq.1 (v_Dispatch_rowVariable W H_r7) rfl (by omega) (by omega) (fun z9 e_z9 i_z9 l_z9 u_z9 => ?_)
            refine yG.icmp rfl (t := 115) rfl ⟨by omega, by omega⟩ ⟨by omega, by omega⟩ (fun c10 => ?_) (fun c10 => ?_)
            · have c10 : (z8 : Int) ≥ z9 := c10
              refine yG.iinc rfl (a := a3) rfl (L' := [(3, yI (a3 + 1)), (0, yR k0), (1, yI (a1)), (2, yI (a2))]) rfl ?_
              refine yG.goto rfl (t := 6) rfl ?_
              exact yG.mono (yG.sub (i_6 (a1) (a2) (a3 + 1)  hq A_hq   (by omega) (by omega) (by omega) (by omega) (by omega) (by omega) (by omega) (by omega) (by omega)) (ySub.cons rfl (ySub.cons rfl (ySub.cons rfl (ySub.cons rfl (ySub.nil)))))) (by omega)
            · have c10 : (z8 : Int) < z9 := c10
              exact yG.mono (yG.sub (i_34 (a1) (a2) (a3)  hq A_hq   (by omega) (by omega) (by omega) (by omega) (by omega) (by omega) (by omega) (by omega) (by omega)) (ySub.cons rfl (ySub.cons rfl (ySub.cons rfl (ySub.cons rfl (ySub.nil)))))) (by omega)
      · intro a1 a2 a3 hq A_hq f0 f1 f2 f3 f4 f5 f6 f7 hm
        refine yG.mono (N := 48 * m + 48) ?_ (by omega)
        refine yG.load xak rfl (fun _ _ => rfl) (v := yR k0) rfl rfl ?_
        refine yG.getO A_hq.1 (w_Dispatch_help W H_k0) rfl rfl (fun r1 H_r1 O_r1 q_r1 => ?_)
        refine yG.num (c := 0) rfl (fun _ _ => rfl) (by decide) ?_
        refine yG.aaldO (r := 35) A_hq.1 (v_Big4 W H_r1) rfl rfl rfl (by omega) (by omega) (fun r2 H_r2 q_r2 => ?_)
        obtain ⟨n_r2, N_r2⟩ : ∃ n : Int, n = ((zat G r2 : Nat) : Int) := ⟨_, rfl⟩
        have L_r2 := n_Big W H_r2
        refine yG.load xak rfl (fun _ _ => rfl) (v := yR k0) rfl rfl ?_
        refine yG.getO A_hq.1 (w_Dispatch_common W H_k0) rfl rfl (fun r3 H_r3 O_r3 q_r3 => ?_)
        obtain ⟨n_r3, N_r3⟩ : ∃ n : Int, n = ((zat G r3 : Nat) : Int) := ⟨_, rfl⟩
        have L_r3 := n_Big W H_r3
        refine yG.invV (rest := []) A_hq.1 (bOb (d_Big W) H_r2) rfl rfl rfl rfl (c_Big_copy W (d + 2) A_hq.1 H_r2 H_r3) (fun rv h4 q9 => ?_)
        obtain ⟨⟨rfl, R_z5⟩, B_h4⟩ := q9
        have A_h4 := A_hq.tr B_h4 (by decide)
        have qq1 : zsl h4 k0 16 = yR r1 := (B_h4.sl H_k0 (by decide)).trans q_r1
        have qq2 : zsl h4 r1 (0 : Int).toNat = yR r2 := (B_h4.sl H_r1 (bNo_ok (by decide) _)).trans q_r2
        show yG _ _ _ _ _ _ _ _ _ _ [] _
        refine yG.load xak rfl (fun _ _ => rfl) (v := yR k0) rfl rfl ?_
        refine yG.getS9 A_h4.1 (w_Dispatch_help W H_k0) qq1 rfl rfl ?_
        refine yG.num (c := 0) rfl (fun _ _ => rfl) (by decide) ?_
        refine yG.aaldO (r := 35) A_h4.1 (v_Big4 W H_r1) rfl rfl rfl (by omega) (by omega) (fun r6 H_r6 q_r6 => ?_)
        obtain ⟨n_r6, N_r6⟩ : ∃ n : Int, n = ((zat G r6 : Nat) : Int) := ⟨_, rfl⟩
        have L_r6 := n_Big W H_r6
        have s_r6 : r6 = r2 := by have e9 := q_r6.symm.trans qq2; cases e9; rfl
        rw [s_r6]
        refine yG.load xak rfl (fun _ _ => rfl) (v := yR k0) rfl rfl ?_
        refine yG.getO A_h4.1 (w_Dispatch_most W H_k0) rfl rfl (fun r7 H_r7 O_r7 q_r7 => ?_)
        refine yG.load xak rfl (fun _ _ => rfl) (v := yR k0) rfl rfl ?_
        refine yG.getO A_h4.1 (w_Dispatch_rowVariable W H_k0) rfl rfl (fun r8 H_r8 O_r8 q_r8 => ?_)
        refine yG.load xik rfl (fun _ _ => rfl) (v := yI (a3)) rfl rfl ?_
        refine yG.iald A_h4.1 (v_Dispatch_rowVariable W H_r8) rfl (by omega) (by omega) (fun z9 e_z9 i_z9 l_z9 u_z9 => ?_)
        refine yG.iald A_h4.1 (v_Dispatch_most W H_r7) rfl (by omega) (by omega) (fun z10 e_z10 i_z10 l_z10 u_z10 => ?_)
        refine yG.i2l rfl ⟨by omega, by omega⟩ ?_
        refine yG.invV (rest := []) A_h4.1 (bOb (d_Big W) H_r2) rfl rfl rfl rfl (c_Big_scale W (d + 2) A_h4.1 H_r2 (z10) (by omega) (by omega)) (fun rv h11 q9 => ?_)
        obtain ⟨⟨rfl, R_z12⟩, B_h11⟩ := q9
        have A_h11 := A_h4.tr B_h11 (by decide)
        have qq3 : zsl h11 k0 16 = yR r1 := (B_h11.sl H_k0 (by decide)).trans qq1
        have qq4 : zsl h11 r1 (0 : Int).toNat = yR r2 := (B_h11.sl H_r1 (bNo_ok (by decide) _)).trans qq2
        show yG _ _ _ _ _ _ _ _ _ _ [] _
        refine yG.load xak rfl (fun _ _ => rfl) (v := yR k0) rfl rfl ?_
        refine yG.load xik rfl (fun _ _ => rfl) (v := yI (a3)) rfl rfl ?_
        refine yG.num (c := 0) rfl (fun _ _ => rfl) (by decide) ?_
        refine yG.invV (rest := []) A_h11.1 (bOb (d_Dispatch W) H_k0) rfl rfl rfl rfl (c_Dispatch_at W (d + 3) A_h11.1 H_k0 (a3) (0) (by omega) (by omega) (by omega) (by omega)) (fun rv hp9 q9 => ?_)
        obtain ⟨⟨r13, rfl, H_r13⟩, e9⟩ := q9
        rw [e9]
        obtain ⟨n_r13, N_r13⟩ : ∃ n : Int, n = ((zat G r13 : Nat) : Int) := ⟨_, rfl⟩
        have L_r13 := n_Big W H_r13
        show yG _ _ _ _ _ _ _ _ _ _ (yR r13 :: []) _
        refine yG.load xak rfl (fun _ _ => rfl) (v := yR k0) rfl rfl ?_
        refine yG.getS9 A_h11.1 (w_Dispatch_help W H_k0) qq3 rfl rfl ?_
        refine yG.num (c := 0) rfl (fun _ _ => rfl) (by decide) ?_
        refine yG.aaldO (r := 35) A_h11.1 (v_Big4 W H_r1) rfl rfl rfl (by omega) (by omega) (fun r14 H_r14 q_r14 => ?_)
        obtain ⟨n_r14, N_r14⟩ : ∃ n : Int, n = ((zat G r14 : Nat) : Int) := ⟨_, rfl⟩
        have L_r14 := n_Big W H_r14
        have s_r14 : r14 = r2 := by have e9 := q_r14.symm.trans qq4; cases e9; rfl
        rw [s_r14]
        refine yG.invV (rest := []) A_h11.1 (bOb (d_Big W) H_r13) rfl rfl rfl rfl (c_Big_compare W (d + 2) A_h11.1 H_r13 H_r2) (fun rv hp9 q9 => ?_)
        obtain ⟨⟨z15, rfl, l_z15, u_z15, R_z15⟩, e9⟩ := q9
        rw [e9]
        show yG _ _ _ _ _ _ _ _ _ _ (yI z15 :: []) _
        refine yG.ifz rfl (t := 90) rfl ⟨by omega, by omega⟩ (fun c16 => ?_) (fun c16 => ?_)
        · have c16 : (z15 : Int) ≤ 0 := c16
          refine yG.num (c := 0) rfl (fun _ _ => rfl) (by decide) ?_
          refine yG.store1 xik (L' := [(4, yI (0)), (0, yR k0), (1, yI (a1)), (2, yI (a2)), (3, yI (a3))]) rfl (fun _ _ => rfl) rfl rfl ?_
          refine yG.load xik rfl (fun _ _ => rfl) (v := yI (0)) rfl rfl ?_
          refine yG.ifz rfl (t := 110) rfl ⟨by omega, by omega⟩ (fun c17 => ?_) (fun c17 => ?_)
          · have c17 : (0 : Int) ≠ 0 := c17
            exfalso; omega
          · have c17 : (0 : Int) = 0 := c17
            refine yG.load xak rfl (fun _ _ => rfl) (v := yR k0) rfl rfl ?_
            refine yG.load xik rfl (fun _ _ => rfl) (v := yI (a3)) rfl rfl ?_
            refine yG.num (c := 0) rfl (fun _ _ => rfl) (by decide) ?_
            refine yG.invV (rest := []) A_h11.1 (bOb (d_Dispatch W) H_k0) rfl rfl rfl rfl (c_Dispatch_at W (d + 3) A_h11.1 H_k0 (a3) (0) (by omega) (by omega) (by omega) (by omega)) (fun rv hp9 q9 => ?_)
            obtain ⟨⟨r18, rfl, H_r18⟩, e9⟩ := q9
            rw [e9]
            obtain ⟨n_r18, N_r18⟩ : ∃ n : Int, n = ((zat G r18 : Nat) : Int) := ⟨_, rfl⟩
            have L_r18 := n_Big W H_r18
            show yG _ _ _ _ _ _ _ _ _ _ (yR r18 :: []) _
            refine yG.invV (rest := []) A_h11.1 (bOb (d_Big W) H_r18) rfl rfl rfl rfl (c_Big_sign W (d + 3) A_h11.1 H_r18) (fun rv hp9 q9 => ?_)
            obtain ⟨⟨z19, rfl, l_z19, u_z19, R_z19⟩, e9⟩ := q9
            rw [e9]
            show yG _ _ _ _ _ _ _ _ _ _ (yI z19 :: []) _
            refine yG.ifz rfl (t := 115) rfl ⟨by omega, by omega⟩ (fun c20 => ?_) (fun c20 => ?_)
            · have c20 : (z19 : Int) ≥ 0 := c20
              refine yG.iinc rfl (a := a3) rfl (L' := [(3, yI (a3 + 1)), (4, yI (0)), (0, yR k0), (1, yI (a1)), (2, yI (a2))]) rfl ?_
              refine yG.goto rfl (t := 6) rfl ?_
              exact yG.mono (yG.sub (i_6 (a1) (a2) (a3 + 1)  h11 A_h11   (by omega) (by omega) (by omega) (by omega) (by omega) (by omega) (by omega) (by omega) (by omega)) (ySub.cons rfl (ySub.cons rfl (ySub.cons rfl (ySub.cons rfl (ySub.nil)))))) (by omega)
            · have c20 : (z19 : Int) < 0 := c20
              refine yG.load xik rfl (fun _ _ => rfl) (v := yI (a3)) rfl rfl ?_
              refine yG.store1 xik (L' := [(1, yI (a3)), (4, yI (0)), (0, yR k0), (2, yI (a2)), (3, yI (a3))]) rfl (fun _ _ => rfl) rfl rfl ?_
              refine yG.load xik rfl (fun _ _ => rfl) (v := yI (0)) rfl rfl ?_
              refine yG.store1 xik (L' := [(2, yI (0)), (1, yI (a3)), (4, yI (0)), (0, yR k0), (3, yI (a3))]) rfl (fun _ _ => rfl) rfl rfl ?_
              refine yG.iinc rfl (a := a3) rfl (L' := [(3, yI (a3 + 1)), (2, yI (0)), (1, yI (a3)), (4, yI (0)), (0, yR k0)]) rfl ?_
              refine yG.goto rfl (t := 6) rfl ?_
              exact yG.mono (yG.sub (i_6 (a3) (0) (a3 + 1)  h11 A_h11   (by omega) (by omega) (by omega) (by omega) (by omega) (by omega) (by omega) (by omega) (by omega)) (ySub.cons rfl (ySub.cons rfl (ySub.cons rfl (ySub.cons rfl (ySub.nil)))))) (by omega)
        · have c16 : (z15 : Int) > 0 := c16
          refine yG.num (c := 1) rfl (fun _ _ => rfl) (by decide) ?_
          refine yG.goto rfl (t := 91) rfl ?_
          refine yG.store1 xik (L' := [(4, yI (1)), (0, yR k0), (1, yI (a1)), (2, yI (a2)), (3, yI (a3))]) rfl (fun _ _ => rfl) rfl rfl ?_
          refine yG.load xik rfl (fun _ _ => rfl) (v := yI (1)) rfl rfl ?_
          refine yG.ifz rfl (t := 110) rfl ⟨by omega, by omega⟩ (fun c21 => ?_) (fun c21 => ?_)
          · have c21 : (1 : Int) ≠ 0 := c21
            refine yG.load xik rfl (fun _ _ => rfl) (v := yI (a3)) rfl rfl ?_
            refine yG.store1 xik (L' := [(1, yI (a3)), (4, yI (1)), (0, yR k0), (2, yI (a2)), (3, yI (a3))]) rfl (fun _ _ => rfl) rfl rfl ?_
            refine yG.load xik rfl (fun _ _ => rfl) (v := yI (1)) rfl rfl ?_
            refine yG.store1 xik (L' := [(2, yI (1)), (1, yI (a3)), (4, yI (1)), (0, yR k0), (3, yI (a3))]) rfl (fun _ _ => rfl) rfl rfl ?_
            refine yG.iinc rfl (a := a3) rfl (L' := [(3, yI (a3 + 1)), (2, yI (1)), (1, yI (a3)), (4, yI (1)), (0, yR k0)]) rfl ?_
            refine yG.goto rfl (t := 6) rfl ?_
            exact yG.mono (yG.sub (i_6 (a3) (1) (a3 + 1)  h11 A_h11   (by omega) (by omega) (by omega) (by omega) (by omega) (by omega) (by omega) (by omega) (by omega)) (ySub.cons rfl (ySub.cons rfl (ySub.cons rfl (ySub.cons rfl (ySub.nil)))))) (by omega)
          · have c21 : (1 : Int) = 0 := c21
            exfalso; omega
  refine yC.of (M := (xt_X1_leaving, (5, (1, (2, []))))) rfl rfl (N := 3984) (yfuel (by decide)) ?_
  show yG 89 xfts (xcall 89 xfts xpools xms (d + 4)) (xpool xp_RX1) [] xt_X1_leaving (yP 1 (bQi G [(34359738368, 1), (34359738368, 2), (68719476736, 256)] hp (-1) 25 (fun _ => True))) 3984 0 [(0, yR k0)] [] hp
  obtain ⟨i_6, i_34⟩ := H 82
  refine yG.num (c := -1) rfl (fun _ _ => rfl) (by decide) ?_
  refine yG.store1 xik (L' := [(1, yI ((-1))), (0, yR k0)]) rfl (fun _ _ => rfl) rfl rfl ?_
  refine yG.num (c := 0) rfl (fun _ _ => rfl) (by decide) ?_
  refine yG.store1 xik (L' := [(2, yI (0)), (1, yI ((-1))), (0, yR k0)]) rfl (fun _ _ => rfl) rfl rfl ?_
  refine yG.num (c := 0) rfl (fun _ _ => rfl) (by decide) ?_
  refine yG.store1 xik (L' := [(3, yI (0)), (2, yI (0)), (1, yI ((-1))), (0, yR k0)]) rfl (fun _ _ => rfl) rfl rfl ?_
  exact yG.mono (yG.sub (i_6 ((-1)) (0) (0)  hp A_hp   (by omega) (by omega) (by omega) (by omega) (by omega) (by omega) (by omega) (by omega) (by omega)) (ySub.cons rfl (ySub.cons rfl (ySub.cons rfl (ySub.cons rfl (ySub.nil)))))) (by omega)
theorem c_Dispatch_isAhead {hp : xH} (W : bW G) (d : Nat) (hT : zTy G hp) {k0 : Nat} (H_k0 : bRo G 96 k0) (p1 p2 p3 : Int) (h1l : 0 ≤ p1) (h1u : p1 ≤ 25) (h2l : 0 ≤ p2) (h2u : p2 ≤ 12) (h3l : 0 ≤ p3) (h3u : p3 ≤ 12) : yC (xcall 89 xfts xpools xms (d + 3)) 84 [yR k0, yI (p1), yI (p2), yI (p3)] hp (bQi G [(34359738368, 1), (34359738368, 2), (68719476736, 256)] hp 0 1 (fun _ => True)) := by
  have A_hp : bAx G [(34359738368, 1), (34359738368, 2), (68719476736, 256)] hp hp := bAx.rf hT
  have H : ∀ m : Nat, (∀ a4 : Int, ∀ hq, bAx G [(34359738368, 1), (34359738368, 2), (68719476736, 256)] hp hq → 0 ≤ a4 → (-33) ≤ 0 - a4 → 0 ≤ p1 → (-25) ≤ 0 - p1 → 0 ≤ p2 → (-12) ≤ 0 - p2 → 0 ≤ p3 → (-12) ≤ 0 - p3 → 0 - 2 * a4 + 67 < (m : Int) → yG 89 xfts (xcall 89 xfts xpools xms (d + 2)) (xpool xp_RX1) [] xt_X1_isAhead (yP 4 (bQi G [(34359738368, 1), (34359738368, 2), (68719476736, 256)] hp 0 1 (fun _ => True))) (51 * m) 6 [(0, yR k0), (1, yI (p1)), (2, yI (p2)), (3, yI (p3)), (4, yI (a4))] [] hq) := by
    intro m
    induction m with
    | zero =>
      intros; exfalso; omega
    | succ m ih =>
      have i_6 := ih
      clear ih
      intro a4 hq A_hq f0 f1 f2 f3 f4 f5 f6 f7 hm
      refine yG.mono (N := 51 * m + 51) ?_ (by omega)
      refine yG.load xik rfl (fun _ _ => rfl) (v := yI (a4)) rfl rfl ?_
      refine yG.load xak rfl (fun _ _ => rfl) (v := yR k0) rfl rfl ?_
      refine yG.getI A_hq.1 (w_Dispatch_rows W H_k0) rfl rfl (fun z1 e_z1 i_z1 l_z1 u_z1 => ?_)
      refine yG.num (c := 6) rfl (fun _ _ => rfl) (by decide) ?_
      refine yG.iadd rfl ?_
      refine yG.icmp rfl (t := 101) rfl ⟨by omega, by omega⟩ ⟨by omega, by omega⟩ (fun c2 => ?_) (fun c2 => ?_)
      · have c2 : (a4 : Int) > z1 + 6 := c2
        refine yG.load xak rfl (fun _ _ => rfl) (v := yR k0) rfl rfl ?_
        refine yG.getO A_hq.1 (w_Dispatch_columnVariable W H_k0) rfl rfl (fun r3 H_r3 O_r3 q_r3 => ?_)
        refine yG.load xik rfl (fun _ _ => rfl) (v := yI (p2)) rfl rfl ?_
        refine yG.iald A_hq.1 (v_Dispatch_columnVariable W H_r3) rfl (by omega) (by omega) (fun z4 e_z4 i_z4 l_z4 u_z4 => ?_)
        refine yG.load xak rfl (fun _ _ => rfl) (v := yR k0) rfl rfl ?_
        refine yG.getS9 A_hq.1 (w_Dispatch_columnVariable W H_k0) q_r3 rfl rfl ?_
        refine yG.load xik rfl (fun _ _ => rfl) (v := yI (p3)) rfl rfl ?_
        refine yG.iald A_hq.1 (v_Dispatch_columnVariable W H_r3) rfl (by omega) (by omega) (fun z5 e_z5 i_z5 l_z5 u_z5 => ?_)
        refine yG.icmp rfl (t := 120) rfl ⟨by omega, by omega⟩ ⟨by omega, by omega⟩ (fun c6 => ?_) (fun c6 => ?_)
        · have c6 : (z4 : Int) ≥ z5 := c6
          refine yG.num (c := 0) rfl (fun _ _ => rfl) (by decide) ?_
          refine yG.ret rfl (fun _ _ => rfl) ?_
          exact (yP.bool (by omega) ⟨⟨0, rfl, by omega, by omega, trivial⟩, A_hq⟩)
        · have c6 : (z4 : Int) < z5 := c6
          refine yG.num (c := 1) rfl (fun _ _ => rfl) (by decide) ?_
          refine yG.goto rfl (t := 121) rfl ?_
          refine yG.ret rfl (fun _ _ => rfl) ?_
          exact (yP.bool (by omega) ⟨⟨1, rfl, by omega, by omega, trivial⟩, A_hq⟩)
      · have c2 : (a4 : Int) ≤ z1 + 6 := c2
        refine yG.load xak rfl (fun _ _ => rfl) (v := yR k0) rfl rfl ?_
        refine yG.getO A_hq.1 (w_Dispatch_help W H_k0) rfl rfl (fun r7 H_r7 O_r7 q_r7 => ?_)
        refine yG.num (c := 0) rfl (fun _ _ => rfl) (by decide) ?_
        refine yG.aaldO (r := 35) A_hq.1 (v_Big4 W H_r7) rfl rfl rfl (by omega) (by omega) (fun r8 H_r8 q_r8 => ?_)
        obtain ⟨n_r8, N_r8⟩ : ∃ n : Int, n = ((zat G r8 : Nat) : Int) := ⟨_, rfl⟩
        have L_r8 := n_Big W H_r8
        refine yG.load xak rfl (fun _ _ => rfl) (v := yR k0) rfl rfl ?_
        refine yG.load xik rfl (fun _ _ => rfl) (v := yI (a4)) rfl rfl ?_
        refine yG.load xik rfl (fun _ _ => rfl) (v := yI (p2)) rfl rfl ?_
        refine yG.invV (rest := [yR r8]) A_hq.1 (bOb (d_Dispatch W) H_k0) rfl rfl rfl rfl (c_Dispatch_at W (d + 1) A_hq.1 H_k0 (a4) (p2) (by omega) (by omega) (by omega) (by omega)) (fun rv hp9 q9 => ?_)
        obtain ⟨⟨r9, rfl, H_r9⟩, e9⟩ := q9
        rw [e9]
        obtain ⟨n_r9, N_r9⟩ : ∃ n : Int, n = ((zat G r9 : Nat) : Int) := ⟨_, rfl⟩
        have L_r9 := n_Big W H_r9
        show yG _ _ _ _ _ _ _ _ _ _ (yR r9 :: [yR r8]) _
        refine yG.load xak rfl (fun _ _ => rfl) (v := yR k0) rfl rfl ?_
        refine yG.load xik rfl (fun _ _ => rfl) (v := yI (p1)) rfl rfl ?_
        refine yG.load xik rfl (fun _ _ => rfl) (v := yI (p3)) rfl rfl ?_
        refine yG.invV (rest := [yR r9, yR r8]) A_hq.1 (bOb (d_Dispatch W) H_k0) rfl rfl rfl rfl (c_Dispatch_at W (d + 1) A_hq.1 H_k0 (p1) (p3) (by omega) (by omega) (by omega) (by omega)) (fun rv hp9 q9 => ?_)
        obtain ⟨⟨r10, rfl, H_r10⟩, e9⟩ := q9
        rw [e9]
        obtain ⟨n_r10, N_r10⟩ : ∃ n : Int, n = ((zat G r10 : Nat) : Int) := ⟨_, rfl⟩
        have L_r10 := n_Big W H_r10
        show yG _ _ _ _ _ _ _ _ _ _ (yR r10 :: [yR r9, yR r8]) _
        refine yG.invV (rest := []) A_hq.1 (bOb (d_Big W) H_r8) rfl rfl rfl rfl (c_Big_product W d A_hq.1 H_r8 H_r9 H_r10) (fun rv h11 q9 => ?_)
        obtain ⟨⟨rfl, R_z12⟩, B_h11⟩ := q9
        have A_h11 := A_hq.tr B_h11 (by decide)
        have qq1 : zsl h11 k0 16 = yR r7 := (B_h11.sl H_k0 (by decide)).trans q_r7
        have qq2 : zsl h11 r7 (0 : Int).toNat = yR r8 := (B_h11.sl H_r7 (bNo_ok (by decide) _)).trans q_r8
        show yG _ _ _ _ _ _ _ _ _ _ [] _
        refine yG.load xak rfl (fun _ _ => rfl) (v := yR k0) rfl rfl ?_
        refine yG.getS9 A_h11.1 (w_Dispatch_help W H_k0) qq1 rfl rfl ?_
        refine yG.num (c := 1) rfl (fun _ _ => rfl) (by decide) ?_
        refine yG.aaldO (r := 35) A_h11.1 (v_Big4 W H_r7) rfl rfl rfl (by omega) (by omega) (fun r13 H_r13 q_r13 => ?_)
        obtain ⟨n_r13, N_r13⟩ : ∃ n : Int, n = ((zat G r13 : Nat) : Int) := ⟨_, rfl⟩
        have L_r13 := n_Big W H_r13
        refine yG.load xak rfl (fun _ _ => rfl) (v := yR k0) rfl rfl ?_
        refine yG.load xik rfl (fun _ _ => rfl) (v := yI (a4)) rfl rfl ?_
        refine yG.load xik rfl (fun _ _ => rfl) (v := yI (p3)) rfl rfl ?_
        refine yG.invV (rest := [yR r13]) A_h11.1 (bOb (d_Dispatch W) H_k0) rfl rfl rfl rfl (c_Dispatch_at W (d + 1) A_h11.1 H_k0 (a4) (p3) (by omega) (by omega) (by omega) (by omega)) (fun rv hp9 q9 => ?_)
        obtain ⟨⟨r14, rfl, H_r14⟩, e9⟩ := q9
        rw [e9]
        obtain ⟨n_r14, N_r14⟩ : ∃ n : Int, n = ((zat G r14 : Nat) : Int) := ⟨_, rfl⟩
        have L_r14 := n_Big W H_r14
        show yG _ _ _ _ _ _ _ _ _ _ (yR r14 :: [yR r13]) _
        refine yG.load xak rfl (fun _ _ => rfl) (v := yR k0) rfl rfl ?_
        refine yG.load xik rfl (fun _ _ => rfl) (v := yI (p1)) rfl rfl ?_
        refine yG.load xik rfl (fun _ _ => rfl) (v := yI (p2)) rfl rfl ?_
        refine yG.invV (rest := [yR r14, yR r13]) A_h11.1 (bOb (d_Dispatch W) H_k0) rfl rfl rfl rfl (c_Dispatch_at W (d + 1) A_h11.1 H_k0 (p1) (p2) (by omega) (by omega) (by omega) (by omega)) (fun rv hp9 q9 => ?_)
        obtain ⟨⟨r15, rfl, H_r15⟩, e9⟩ := q9
        rw [e9]
        obtain ⟨n_r15, N_r15⟩ : ∃ n : Int, n = ((zat G r15 : Nat) : Int) := ⟨_, rfl⟩
        have L_r15 := n_Big W H_r15
        show yG _ _ _ _ _ _ _ _ _ _ (yR r15 :: [yR r14, yR r13]) _
        refine yG.invV (rest := []) A_h11.1 (bOb (d_Big W) H_r13) rfl rfl rfl rfl (c_Big_product W d A_h11.1 H_r13 H_r14 H_r15) (fun rv h16 q9 => ?_)
        obtain ⟨⟨rfl, R_z17⟩, B_h16⟩ := q9
        have A_h16 := A_h11.tr B_h16 (by decide)
        have qq3 : zsl h16 k0 16 = yR r7 := (B_h16.sl H_k0 (by decide)).trans qq1
        have qq4 : zsl h16 r7 (0 : Int).toNat = yR r8 := (B_h16.sl H_r7 (bNo_ok (by decide) _)).trans qq2
        have qq5 : zsl h16 r7 (1 : Int).toNat = yR r13 := (B_h16.sl H_r7 (bNo_ok (by decide) _)).trans q_r13
        show yG _ _ _ _ _ _ _ _ _ _ [] _
        refine yG.load xak rfl (fun _ _ => rfl) (v := yR k0) rfl rfl ?_
        refine yG.getS9 A_h16.1 (w_Dispatch_help W H_k0) qq3 rfl rfl ?_
        refine yG.num (c := 0) rfl (fun _ _ => rfl) (by decide) ?_
        refine yG.aaldO (r := 35) A_h16.1 (v_Big4 W H_r7) rfl rfl rfl (by omega) (by omega) (fun r18 H_r18 q_r18 => ?_)
        obtain ⟨n_r18, N_r18⟩ : ∃ n : Int, n = ((zat G r18 : Nat) : Int) := ⟨_, rfl⟩
        have L_r18 := n_Big W H_r18
        have s_r18 : r18 = r8 := by have e9 := q_r18.symm.trans qq4; cases e9; rfl
        rw [s_r18]
        refine yG.load xak rfl (fun _ _ => rfl) (v := yR k0) rfl rfl ?_
        refine yG.getS9 A_h16.1 (w_Dispatch_help W H_k0) qq3 rfl rfl ?_
        refine yG.num (c := 1) rfl (fun _ _ => rfl) (by decide) ?_
        refine yG.aaldO (r := 35) A_h16.1 (v_Big4 W H_r7) rfl rfl rfl (by omega) (by omega) (fun r19 H_r19 q_r19 => ?_)
        obtain ⟨n_r19, N_r19⟩ : ∃ n : Int, n = ((zat G r19 : Nat) : Int) := ⟨_, rfl⟩
        have L_r19 := n_Big W H_r19
        have s_r19 : r19 = r13 := by have e9 := q_r19.symm.trans qq5; cases e9; rfl
        rw [s_r19]
        refine yG.invV (rest := []) A_h16.1 (bOb (d_Big W) H_r8) rfl rfl rfl rfl (c_Big_compare W d A_h16.1 H_r8 H_r13) (fun rv hp9 q9 => ?_)
        obtain ⟨⟨z20, rfl, l_z20, u_z20, R_z20⟩, e9⟩ := q9
        rw [e9]
        show yG _ _ _ _ _ _ _ _ _ _ (yI z20 :: []) _
        refine yG.store1 xik (L' := [(5, yI (z20)), (0, yR k0), (1, yI (p1)), (2, yI (p2)), (3, yI (p3)), (4, yI (a4))]) rfl (fun _ _ => rfl) rfl rfl ?_
        refine yG.load xik rfl (fun _ _ => rfl) (v := yI (z20)) rfl rfl ?_
        refine yG.ifz rfl (t := 95) rfl ⟨by omega, by omega⟩ (fun c21 => ?_) (fun c21 => ?_)
        · have c21 : (z20 : Int) = 0 := c21
          refine yG.iinc rfl (a := a4) rfl (L' := [(4, yI (a4 + 1)), (5, yI (z20)), (0, yR k0), (1, yI (p1)), (2, yI (p2)), (3, yI (p3))]) rfl ?_
          refine yG.goto rfl (t := 6) rfl ?_
          exact yG.mono (yG.sub (i_6 (a4 + 1)  h16 A_h16   (by omega) (by omega) (by omega) (by omega) (by omega) (by omega) (by omega) (by omega) (by omega)) (ySub.cons rfl (ySub.cons rfl (ySub.cons rfl (ySub.cons rfl (ySub.cons rfl (ySub.nil))))))) (by omega)
        · have c21 : (z20 : Int) ≠ 0 := c21
          refine yG.load xik rfl (fun _ _ => rfl) (v := yI (z20)) rfl rfl ?_
          refine yG.ifz rfl (t := 93) rfl ⟨by omega, by omega⟩ (fun c22 => ?_) (fun c22 => ?_)
          · have c22 : (z20 : Int) ≥ 0 := c22
            refine yG.num (c := 0) rfl (fun _ _ => rfl) (by decide) ?_
            refine yG.ret rfl (fun _ _ => rfl) ?_
            exact (yP.bool (by omega) ⟨⟨0, rfl, by omega, by omega, trivial⟩, A_h16⟩)
          · have c22 : (z20 : Int) < 0 := c22
            refine yG.num (c := 1) rfl (fun _ _ => rfl) (by decide) ?_
            refine yG.goto rfl (t := 94) rfl ?_
            refine yG.ret rfl (fun _ _ => rfl) ?_
            exact (yP.bool (by omega) ⟨⟨1, rfl, by omega, by omega, trivial⟩, A_h16⟩)
  refine yC.of (M := (xt_X1_isAhead, (6, (4, (2, []))))) rfl rfl (N := 3570) (yfuel (by decide)) ?_
  show yG 89 xfts (xcall 89 xfts xpools xms (d + 2)) (xpool xp_RX1) [] xt_X1_isAhead (yP 4 (bQi G [(34359738368, 1), (34359738368, 2), (68719476736, 256)] hp 0 1 (fun _ => True))) 3570 0 [(0, yR k0), (1, yI (p1)), (2, yI (p2)), (3, yI (p3))] [] hp
  have i_6 := H 69
  refine yG.load xak rfl (fun _ _ => rfl) (v := yR k0) rfl rfl ?_
  refine yG.getI A_hp.1 (w_Dispatch_rows W H_k0) rfl rfl (fun z1 e_z1 i_z1 l_z1 u_z1 => ?_)
  refine yG.store1 xik (L' := [(4, yI (z1)), (0, yR k0), (1, yI (p1)), (2, yI (p2)), (3, yI (p3))]) rfl (fun _ _ => rfl) rfl rfl ?_
  exact yG.mono (yG.sub (i_6 (z1)  hp A_hp   (by omega) (by omega) (by omega) (by omega) (by omega) (by omega) (by omega) (by omega) (by omega)) (ySub.cons rfl (ySub.cons rfl (ySub.cons rfl (ySub.cons rfl (ySub.cons rfl (ySub.nil))))))) (by omega)
theorem c_Dispatch_entering {hp : xH} (W : bW G) (d : Nat) (hT : zTy G hp) {k0 : Nat} (H_k0 : bRo G 96 k0) (p1 : Int) (h1l : 0 ≤ p1) (h1u : p1 ≤ 25) : yC (xcall 89 xfts xpools xms (d + 4)) 78 [yR k0, yI (p1)] hp (bQi G [(34359738368, 1), (34359738368, 2), (68719476736, 256)] hp (-1) 12 (fun _ => True)) := by
  have A_hp : bAx G [(34359738368, 1), (34359738368, 2), (68719476736, 256)] hp hp := bAx.rf hT
  have H : ∀ m : Nat, (∀ a2 : Int, ∀ a3 : Int, ∀ hq, bAx G [(34359738368, 1), (34359738368, 2), (68719476736, 256)] hp hq → (-1) ≤ a2 → (-12) ≤ 0 - a2 → 1 ≤ a3 → (-13) ≤ 0 - a3 → 0 ≤ p1 → (-25) ≤ 0 - p1 → 1 ≤ 0 - a2 + a3 → 0 - 2 * a3 + 27 < (m : Int) → yG 89 xfts (xcall 89 xfts xpools xms (d + 3)) (xpool xp_RX1) [] xt_X1_entering (yP 1 (bQi G [(34359738368, 1), (34359738368, 2), (68719476736, 256)] hp (-1) 12 (fun _ => True))) (25 * m) 4 [(0, yR k0), (1, yI (p1)), (2, yI (a2)), (3, yI (a3))] [] hq) := by
    intro m
    induction m with
    | zero =>
      intros; exfalso; omega
    | succ m ih =>
      have i_4 := ih
      clear ih
      intro a2 a3 hq A_hq f0 f1 f2 f3 f4 f5 f6 hm
      refine yG.mono (N := 25 * m + 25) ?_ (by omega)
      refine yG.load xik rfl (fun _ _ => rfl) (v := yI (a3)) rfl rfl ?_
      refine yG.load xak rfl (fun _ _ => rfl) (v := yR k0) rfl rfl ?_
      refine yG.getI A_hq.1 (w_Dispatch_columns W H_k0) rfl rfl (fun z1 e_z1 i_z1 l_z1 u_z1 => ?_)
      refine yG.icmp rfl (t := 47) rfl ⟨by omega, by omega⟩ ⟨by omega, by omega⟩ (fun c2 => ?_) (fun c2 => ?_)
      · have c2 : (a3 : Int) ≥ z1 := c2
        refine yG.load xik rfl (fun _ _ => rfl) (v := yI (a2)) rfl rfl ?_
        refine yG.ret rfl (fun _ _ => rfl) ?_
        exact (yP.int ⟨by omega, by omega⟩ ⟨⟨a2, rfl, by omega, by omega, trivial⟩, A_hq⟩)
      · have c2 : (a3 : Int) < z1 := c2
        refine yG.load xak rfl (fun _ _ => rfl) (v := yR k0) rfl rfl ?_
        refine yG.load xik rfl (fun _ _ => rfl) (v := yI (p1)) rfl rfl ?_
        refine yG.load xik rfl (fun _ _ => rfl) (v := yI (a3)) rfl rfl ?_
        refine yG.invV (rest := []) A_hq.1 (bOb (d_Dispatch W) H_k0) rfl rfl rfl rfl (c_Dispatch_at W (d + 2) A_hq.1 H_k0 (p1) (a3) (by omega) (by omega) (by omega) (by omega)) (fun rv hp9 q9 => ?_)
        obtain ⟨⟨r3, rfl, H_r3⟩, e9⟩ := q9
        rw [e9]
        obtain ⟨n_r3, N_r3⟩ : ∃ n : Int, n = ((zat G r3 : Nat) : Int) := ⟨_, rfl⟩
        have L_r3 := n_Big W H_r3
        show yG _ _ _ _ _ _ _ _ _ _ (yR r3 :: []) _
        refine yG.invV (rest := []) A_hq.1 (bOb (d_Big W) H_r3) rfl rfl rfl rfl (c_Big_sign W (d + 2) A_hq.1 H_r3) (fun rv hp9 q9 => ?_)
        obtain ⟨⟨z4, rfl, l_z4, u_z4, R_z4⟩, e9⟩ := q9
        rw [e9]
        show yG _ _ _ _ _ _ _ _ _ _ (yI z4 :: []) _
        refine yG.ifz rfl (t := 41) rfl ⟨by omega, by omega⟩ (fun c5 => ?_) (fun c5 => ?_)
        · have c5 : (z4 : Int) ≤ 0 := c5
          refine yG.iinc rfl (a := a3) rfl (L' := [(3, yI (a3 + 1)), (0, yR k0), (1, yI (p1)), (2, yI (a2))]) rfl ?_
          refine yG.goto rfl (t := 4) rfl ?_
          exact yG.mono (yG.sub (i_4 (a2) (a3 + 1)  hq A_hq   (by omega) (by omega) (by omega) (by omega) (by omega) (by omega) (by omega) (by omega)) (ySub.cons rfl (ySub.cons rfl (ySub.cons rfl (ySub.cons rfl (ySub.nil)))))) (by omega)
        · have c5 : (z4 : Int) > 0 := c5
          refine yG.load xik rfl (fun _ _ => rfl) (v := yI (a2)) rfl rfl ?_
          refine yG.num (c := -1) rfl (fun _ _ => rfl) (by decide) ?_
          refine yG.icmp rfl (t := 39) rfl ⟨by omega, by omega⟩ ⟨by omega, by omega⟩ (fun c6 => ?_) (fun c6 => ?_)
          · have c6 : (a2 : Int) = (-1) := c6
            refine yG.load xik rfl (fun _ _ => rfl) (v := yI (a3)) rfl rfl ?_
            refine yG.store1 xik (L' := [(2, yI (a3)), (0, yR k0), (1, yI (p1)), (3, yI (a3))]) rfl (fun _ _ => rfl) rfl rfl ?_
            refine yG.iinc rfl (a := a3) rfl (L' := [(3, yI (a3 + 1)), (2, yI (a3)), (0, yR k0), (1, yI (p1))]) rfl ?_
            refine yG.goto rfl (t := 4) rfl ?_
            exact yG.mono (yG.sub (i_4 (a3) (a3 + 1)  hq A_hq   (by omega) (by omega) (by omega) (by omega) (by omega) (by omega) (by omega) (by omega)) (ySub.cons rfl (ySub.cons rfl (ySub.cons rfl (ySub.cons rfl (ySub.nil)))))) (by omega)
          · have c6 : (a2 : Int) ≠ (-1) := c6
            refine yG.load xak rfl (fun _ _ => rfl) (v := yR k0) rfl rfl ?_
            refine yG.load xik rfl (fun _ _ => rfl) (v := yI (p1)) rfl rfl ?_
            refine yG.load xik rfl (fun _ _ => rfl) (v := yI (a3)) rfl rfl ?_
            refine yG.load xik rfl (fun _ _ => rfl) (v := yI (a2)) rfl rfl ?_
            refine yG.invV (rest := []) A_hq.1 (bOb (d_Dispatch W) H_k0) rfl rfl rfl rfl (c_Dispatch_isAhead W d A_hq.1 H_k0 (p1) (a3) (a2) (by omega) (by omega) (by omega) (by omega) (by omega) (by omega)) (fun rv h7 q9 => ?_)
            obtain ⟨⟨z8, rfl, l_z8, u_z8, R_z8⟩, B_h7⟩ := q9
            have A_h7 := A_hq.tr B_h7 (by decide)
            show yG _ _ _ _ _ _ _ _ _ _ (yI z8 :: []) _
            refine yG.ifz rfl (t := 41) rfl ⟨by omega, by omega⟩ (fun c9 => ?_) (fun c9 => ?_)
            · have c9 : (z8 : Int) = 0 := c9
              refine yG.iinc rfl (a := a3) rfl (L' := [(3, yI (a3 + 1)), (0, yR k0), (1, yI (p1)), (2, yI (a2))]) rfl ?_
              refine yG.goto rfl (t := 4) rfl ?_
              exact yG.mono (yG.sub (i_4 (a2) (a3 + 1)  h7 A_h7   (by omega) (by omega) (by omega) (by omega) (by omega) (by omega) (by omega) (by omega)) (ySub.cons rfl (ySub.cons rfl (ySub.cons rfl (ySub.cons rfl (ySub.nil)))))) (by omega)
            · have c9 : (z8 : Int) ≠ 0 := c9
              refine yG.load xik rfl (fun _ _ => rfl) (v := yI (a3)) rfl rfl ?_
              refine yG.store1 xik (L' := [(2, yI (a3)), (0, yR k0), (1, yI (p1)), (3, yI (a3))]) rfl (fun _ _ => rfl) rfl rfl ?_
              refine yG.iinc rfl (a := a3) rfl (L' := [(3, yI (a3 + 1)), (2, yI (a3)), (0, yR k0), (1, yI (p1))]) rfl ?_
              refine yG.goto rfl (t := 4) rfl ?_
              exact yG.mono (yG.sub (i_4 (a3) (a3 + 1)  h7 A_h7   (by omega) (by omega) (by omega) (by omega) (by omega) (by omega) (by omega) (by omega)) (ySub.cons rfl (ySub.cons rfl (ySub.cons rfl (ySub.cons rfl (ySub.nil)))))) (by omega)
  refine yC.of (M := (xt_X1_entering, (4, (1, (2, []))))) rfl rfl (N := 700) (yfuel (by decide)) ?_
  show yG 89 xfts (xcall 89 xfts xpools xms (d + 3)) (xpool xp_RX1) [] xt_X1_entering (yP 1 (bQi G [(34359738368, 1), (34359738368, 2), (68719476736, 256)] hp (-1) 12 (fun _ => True))) 700 0 [(0, yR k0), (1, yI (p1))] [] hp
  have i_4 := H 27
  refine yG.num (c := -1) rfl (fun _ _ => rfl) (by decide) ?_
  refine yG.store1 xik (L' := [(2, yI ((-1))), (0, yR k0), (1, yI (p1))]) rfl (fun _ _ => rfl) rfl rfl ?_
  refine yG.num (c := 1) rfl (fun _ _ => rfl) (by decide) ?_
  refine yG.store1 xik (L' := [(3, yI (1)), (2, yI ((-1))), (0, yR k0), (1, yI (p1))]) rfl (fun _ _ => rfl) rfl rfl ?_
  exact yG.mono (yG.sub (i_4 ((-1)) (1)  hp A_hp   (by omega) (by omega) (by omega) (by omega) (by omega) (by omega) (by omega) (by omega)) (ySub.cons rfl (ySub.cons rfl (ySub.cons rfl (ySub.cons rfl (ySub.nil)))))) (by omega)
theorem c_Dispatch_update {hp : xH} (W : bW G) (d : Nat) (hT : zTy G hp) {k0 : Nat} (H_k0 : bRo G 96 k0) {k1 : Nat} (H_k1 : bRo G 35 k1) {k2 : Nat} (H_k2 : bRo G 35 k2) {k3 : Nat} (H_k3 : bRo G 35 k3) {k4 : Nat} (H_k4 : bRo G 35 k4) : yC (xcall 89 xfts xpools xms (d + 4)) 99 [yR k0, yR k1, yR k2, yR k3, yR k4] hp (fun rv hp' => (rv = none ∧ True) ∧ bAx G [(34359738368, 1), (34359738368, 2), (68719476736, 256)] hp hp') := by
  have A_hp : bAx G [(34359738368, 1), (34359738368, 2), (68719476736, 256)] hp hp := bAx.rf hT
  obtain ⟨n_k1, N_k1⟩ : ∃ n : Int, n = ((zat G k1 : Nat) : Int) := ⟨_, rfl⟩
  have L_k1 := n_Big W H_k1
  obtain ⟨n_k2, N_k2⟩ : ∃ n : Int, n = ((zat G k2 : Nat) : Int) := ⟨_, rfl⟩
  have L_k2 := n_Big W H_k2
  obtain ⟨n_k3, N_k3⟩ : ∃ n : Int, n = ((zat G k3 : Nat) : Int) := ⟨_, rfl⟩
  have L_k3 := n_Big W H_k3
  obtain ⟨n_k4, N_k4⟩ : ∃ n : Int, n = ((zat G k4 : Nat) : Int) := ⟨_, rfl⟩
  have L_k4 := n_Big W H_k4
  refine yC.of (M := (xt_X1_update, (7, (0, (2, []))))) rfl rfl (N := 147) (yfuel (by decide)) ?_
  show yG 89 xfts (xcall 89 xfts xpools xms (d + 3)) (xpool xp_RX1) [] xt_X1_update (yP 0 (fun rv hp' => (rv = none ∧ True) ∧ bAx G [(34359738368, 1), (34359738368, 2), (68719476736, 256)] hp hp')) 147 0 [(0, yR k0), (1, yR k1), (2, yR k2), (3, yR k3), (4, yR k4)] [] hp
  refine yG.load xak rfl (fun _ _ => rfl) (v := yR k0) rfl rfl ?_
  refine yG.getO A_hp.1 (w_Dispatch_help W H_k0) rfl rfl (fun r1 H_r1 O_r1 q_r1 => ?_)
  refine yG.num (c := 0) rfl (fun _ _ => rfl) (by decide) ?_
  refine yG.aaldO (r := 35) A_hp.1 (v_Big4 W H_r1) rfl rfl rfl (by omega) (by omega) (fun r2 H_r2 q_r2 => ?_)
  obtain ⟨n_r2, N_r2⟩ : ∃ n : Int, n = ((zat G r2 : Nat) : Int) := ⟨_, rfl⟩
  have L_r2 := n_Big W H_r2
  refine yG.store1 xak (L' := [(5, yR r2), (0, yR k0), (1, yR k1), (2, yR k2), (3, yR k3), (4, yR k4)]) rfl (fun _ _ => rfl) rfl rfl ?_
  refine yG.load xak rfl (fun _ _ => rfl) (v := yR r2) rfl rfl ?_
  refine yG.load xak rfl (fun _ _ => rfl) (v := yR k1) rfl rfl ?_
  refine yG.load xak rfl (fun _ _ => rfl) (v := yR k2) rfl rfl ?_
  refine yG.invV (rest := []) A_hp.1 (bOb (d_Big W) H_r2) rfl rfl rfl rfl (c_Big_product W (d + 1) A_hp.1 H_r2 H_k1 H_k2) (fun rv h3 q9 => ?_)
  obtain ⟨⟨rfl, R_z4⟩, B_h3⟩ := q9
  have A_h3 := A_hp.tr B_h3 (by decide)
  have qq1 : zsl h3 k0 16 = yR r1 := (B_h3.sl H_k0 (by decide)).trans q_r1
  show yG _ _ _ _ _ _ _ _ _ _ [] _
  refine yG.load xak rfl (fun _ _ => rfl) (v := yR k0) rfl rfl ?_
  refine yG.getS9 A_h3.1 (w_Dispatch_help W H_k0) qq1 rfl rfl ?_
  refine yG.num (c := 1) rfl (fun _ _ => rfl) (by decide) ?_
  refine yG.aaldO (r := 35) A_h3.1 (v_Big4 W H_r1) rfl rfl rfl (by omega) (by omega) (fun r5 H_r5 q_r5 => ?_)
  obtain ⟨n_r5, N_r5⟩ : ∃ n : Int, n = ((zat G r5 : Nat) : Int) := ⟨_, rfl⟩
  have L_r5 := n_Big W H_r5
  refine yG.load xak rfl (fun _ _ => rfl) (v := yR k3) rfl rfl ?_
  refine yG.load xak rfl (fun _ _ => rfl) (v := yR k4) rfl rfl ?_
  refine yG.invV (rest := []) A_h3.1 (bOb (d_Big W) H_r5) rfl rfl rfl rfl (c_Big_product W (d + 1) A_h3.1 H_r5 H_k3 H_k4) (fun rv h6 q9 => ?_)
  obtain ⟨⟨rfl, R_z7⟩, B_h6⟩ := q9
  have A_h6 := A_h3.tr B_h6 (by decide)
  have qq2 : zsl h6 k0 16 = yR r1 := (B_h6.sl H_k0 (by decide)).trans qq1
  have qq3 : zsl h6 r1 (1 : Int).toNat = yR r5 := (B_h6.sl H_r1 (bNo_ok (by decide) _)).trans q_r5
  show yG _ _ _ _ _ _ _ _ _ _ [] _
  refine yG.load xak rfl (fun _ _ => rfl) (v := yR r2) rfl rfl ?_
  refine yG.load xak rfl (fun _ _ => rfl) (v := yR k0) rfl rfl ?_
  refine yG.getS9 A_h6.1 (w_Dispatch_help W H_k0) qq2 rfl rfl ?_
  refine yG.num (c := 1) rfl (fun _ _ => rfl) (by decide) ?_
  refine yG.aaldO (r := 35) A_h6.1 (v_Big4 W H_r1) rfl rfl rfl (by omega) (by omega) (fun r8 H_r8 q_r8 => ?_)
  obtain ⟨n_r8, N_r8⟩ : ∃ n : Int, n = ((zat G r8 : Nat) : Int) := ⟨_, rfl⟩
  have L_r8 := n_Big W H_r8
  have s_r8 : r8 = r5 := by have e9 := q_r8.symm.trans qq3; cases e9; rfl
  rw [s_r8]
  refine yG.invV (rest := []) A_h6.1 (bOb (d_Big W) H_r2) rfl rfl rfl rfl (c_Big_less W d A_h6.1 H_r2 H_r5) (fun rv h9 q9 => ?_)
  obtain ⟨⟨rfl, R_z10⟩, B_h9⟩ := q9
  have A_h9 := A_h6.tr B_h9 (by decide)
  have qq4 : zsl h9 k0 16 = yR r1 := (B_h9.sl H_k0 (by decide)).trans qq2
  have qq5 : zsl h9 r1 (1 : Int).toNat = yR r5 := (B_h9.sl H_r1 (bNo_ok (by decide) _)).trans qq3
  show yG _ _ _ _ _ _ _ _ _ _ [] _
  refine yG.load xak rfl (fun _ _ => rfl) (v := yR r2) rfl rfl ?_
  refine yG.invV (rest := []) A_h9.1 (bOb (d_Big W) H_r2) rfl rfl rfl rfl (c_Big_sign W (d + 2) A_h9.1 H_r2) (fun rv hp9 q9 => ?_)
  obtain ⟨⟨z11, rfl, l_z11, u_z11, R_z11⟩, e9⟩ := q9
  rw [e9]
  show yG _ _ _ _ _ _ _ _ _ _ (yI z11 :: []) _
  refine yG.ifz rfl (t := 50) rfl ⟨by omega, by omega⟩ (fun c12 => ?_) (fun c12 => ?_)
  · have c12 : (z11 : Int) ≥ 0 := c12
    refine yG.num (c := 0) rfl (fun _ _ => rfl) (by decide) ?_
    refine yG.store1 xik (L' := [(6, yI (0)), (5, yR r2), (0, yR k0), (1, yR k1), (2, yR k2), (3, yR k3), (4, yR k4)]) rfl (fun _ _ => rfl) rfl rfl ?_
    refine yG.load xak rfl (fun _ _ => rfl) (v := yR r2) rfl rfl ?_
    refine yG.load xak rfl (fun _ _ => rfl) (v := yR k0) rfl rfl ?_
    refine yG.getO A_h9.1 (w_Dispatch_common W H_k0) rfl rfl (fun r13 H_r13 O_r13 q_r13 => ?_)
    obtain ⟨n_r13, N_r13⟩ : ∃ n : Int, n = ((zat G r13 : Nat) : Int) := ⟨_, rfl⟩
    have L_r13 := n_Big W H_r13
    refine yG.load xak rfl (fun _ _ => rfl) (v := yR k0) rfl rfl ?_
    refine yG.getS9 A_h9.1 (w_Dispatch_help W H_k0) qq4 rfl rfl ?_
    refine yG.num (c := 3) rfl (fun _ _ => rfl) (by decide) ?_
    refine yG.aaldO (r := 35) A_h9.1 (v_Big4 W H_r1) rfl rfl rfl (by omega) (by omega) (fun r14 H_r14 q_r14 => ?_)
    obtain ⟨n_r14, N_r14⟩ : ∃ n : Int, n = ((zat G r14 : Nat) : Int) := ⟨_, rfl⟩
    have L_r14 := n_Big W H_r14
    refine yG.invV (rest := []) A_h9.1 (bOb (d_Big W) H_r2) rfl rfl rfl rfl (c_Big_divide W d A_h9.1 H_r2 H_r13 H_r14) (fun rv h15 q9 => ?_)
    obtain ⟨⟨rfl, R_z16⟩, B_h15⟩ := q9
    have A_h15 := A_h9.tr B_h15 (by decide)
    have qq6 : zsl h15 k0 16 = yR r1 := (B_h15.sl H_k0 (by decide)).trans qq4
    have qq7 : zsl h15 r1 (1 : Int).toNat = yR r5 := (B_h15.sl H_r1 (bNo_ok (by decide) _)).trans qq5
    have qq8 : zsl h15 r1 (3 : Int).toNat = yR r14 := (B_h15.sl H_r1 (bNo_ok (by decide) _)).trans q_r14
    show yG _ _ _ _ _ _ _ _ _ _ [] _
    refine yG.load xak rfl (fun _ _ => rfl) (v := yR k1) rfl rfl ?_
    refine yG.load xak rfl (fun _ _ => rfl) (v := yR k0) rfl rfl ?_
    refine yG.getS9 A_h15.1 (w_Dispatch_help W H_k0) qq6 rfl rfl ?_
    refine yG.num (c := 3) rfl (fun _ _ => rfl) (by decide) ?_
    refine yG.aaldO (r := 35) A_h15.1 (v_Big4 W H_r1) rfl rfl rfl (by omega) (by omega) (fun r17 H_r17 q_r17 => ?_)
    obtain ⟨n_r17, N_r17⟩ : ∃ n : Int, n = ((zat G r17 : Nat) : Int) := ⟨_, rfl⟩
    have L_r17 := n_Big W H_r17
    have s_r17 : r17 = r14 := by have e9 := q_r17.symm.trans qq8; cases e9; rfl
    rw [s_r17]
    refine yG.invV (rest := []) A_h15.1 (bOb (d_Big W) H_k1) rfl rfl rfl rfl (c_Big_copy W (d + 1) A_h15.1 H_k1 H_r14) (fun rv h18 q9 => ?_)
    obtain ⟨⟨rfl, R_z19⟩, B_h18⟩ := q9
    have A_h18 := A_h15.tr B_h18 (by decide)
    have qq9 : zsl h18 k0 16 = yR r1 := (B_h18.sl H_k0 (by decide)).trans qq6
    have qq10 : zsl h18 r1 (1 : Int).toNat = yR r5 := (B_h18.sl H_r1 (bNo_ok (by decide) _)).trans qq7
    have qq11 : zsl h18 r1 (3 : Int).toNat = yR r14 := (B_h18.sl H_r1 (bNo_ok (by decide) _)).trans qq8
    show yG _ _ _ _ _ _ _ _ _ _ [] _
    refine yG.load xik rfl (fun _ _ => rfl) (v := yI (0)) rfl rfl ?_
    refine yG.ifz rfl (t := 87) rfl ⟨by omega, by omega⟩ (fun c20 => ?_) (fun c20 => ?_)
    · have c20 : (0 : Int) = 0 := c20
      refine yG.ret rfl (fun _ _ => rfl) ?_
      exact (yP.void ⟨⟨rfl, trivial⟩, A_h18⟩)
    · have c20 : (0 : Int) ≠ 0 := c20
      exfalso; omega
  · have c12 : (z11 : Int) < 0 := c12
    refine yG.num (c := 1) rfl (fun _ _ => rfl) (by decide) ?_
    refine yG.goto rfl (t := 51) rfl ?_
    refine yG.store1 xik (L' := [(6, yI (1)), (5, yR r2), (0, yR k0), (1, yR k1), (2, yR k2), (3, yR k3), (4, yR k4)]) rfl (fun _ _ => rfl) rfl rfl ?_
    refine yG.load xak rfl (fun _ _ => rfl) (v := yR r2) rfl rfl ?_
    refine yG.load xak rfl (fun _ _ => rfl) (v := yR k0) rfl rfl ?_
    refine yG.getO A_h9.1 (w_Dispatch_common W H_k0) rfl rfl (fun r21 H_r21 O_r21 q_r21 => ?_)
    obtain ⟨n_r21, N_r21⟩ : ∃ n : Int, n = ((zat G r21 : Nat) : Int) := ⟨_, rfl⟩
    have L_r21 := n_Big W H_r21
    refine yG.load xak rfl (fun _ _ => rfl) (v := yR k0) rfl rfl ?_
    refine yG.getS9 A_h9.1 (w_Dispatch_help W H_k0) qq4 rfl rfl ?_
    refine yG.num (c := 3) rfl (fun _ _ => rfl) (by decide) ?_
    refine yG.aaldO (r := 35) A_h9.1 (v_Big4 W H_r1) rfl rfl rfl (by omega) (by omega) (fun r22 H_r22 q_r22 => ?_)
    obtain ⟨n_r22, N_r22⟩ : ∃ n : Int, n = ((zat G r22 : Nat) : Int) := ⟨_, rfl⟩
    have L_r22 := n_Big W H_r22
    refine yG.invV (rest := []) A_h9.1 (bOb (d_Big W) H_r2) rfl rfl rfl rfl (c_Big_divide W d A_h9.1 H_r2 H_r21 H_r22) (fun rv h23 q9 => ?_)
    obtain ⟨⟨rfl, R_z24⟩, B_h23⟩ := q9
    have A_h23 := A_h9.tr B_h23 (by decide)
    have qq12 : zsl h23 k0 16 = yR r1 := (B_h23.sl H_k0 (by decide)).trans qq4
    have qq13 : zsl h23 r1 (1 : Int).toNat = yR r5 := (B_h23.sl H_r1 (bNo_ok (by decide) _)).trans qq5
    have qq14 : zsl h23 r1 (3 : Int).toNat = yR r22 := (B_h23.sl H_r1 (bNo_ok (by decide) _)).trans q_r22
    show yG _ _ _ _ _ _ _ _ _ _ [] _
    refine yG.load xak rfl (fun _ _ => rfl) (v := yR k1) rfl rfl ?_
    refine yG.load xak rfl (fun _ _ => rfl) (v := yR k0) rfl rfl ?_
    refine yG.getS9 A_h23.1 (w_Dispatch_help W H_k0) qq12 rfl rfl ?_
    refine yG.num (c := 3) rfl (fun _ _ => rfl) (by decide) ?_
    refine yG.aaldO (r := 35) A_h23.1 (v_Big4 W H_r1) rfl rfl rfl (by omega) (by omega) (fun r25 H_r25 q_r25 => ?_)
    obtain ⟨n_r25, N_r25⟩ : ∃ n : Int, n = ((zat G r25 : Nat) : Int) := ⟨_, rfl⟩
    have L_r25 := n_Big W H_r25
    have s_r25 : r25 = r22 := by have e9 := q_r25.symm.trans qq14; cases e9; rfl
    rw [s_r25]
    refine yG.invV (rest := []) A_h23.1 (bOb (d_Big W) H_k1) rfl rfl rfl rfl (c_Big_copy W (d + 1) A_h23.1 H_k1 H_r22) (fun rv h26 q9 => ?_)
    obtain ⟨⟨rfl, R_z27⟩, B_h26⟩ := q9
    have A_h26 := A_h23.tr B_h26 (by decide)
    have qq15 : zsl h26 k0 16 = yR r1 := (B_h26.sl H_k0 (by decide)).trans qq12
    have qq16 : zsl h26 r1 (1 : Int).toNat = yR r5 := (B_h26.sl H_r1 (bNo_ok (by decide) _)).trans qq13
    have qq17 : zsl h26 r1 (3 : Int).toNat = yR r22 := (B_h26.sl H_r1 (bNo_ok (by decide) _)).trans qq14
    show yG _ _ _ _ _ _ _ _ _ _ [] _
    refine yG.load xik rfl (fun _ _ => rfl) (v := yI (1)) rfl rfl ?_
    refine yG.ifz rfl (t := 87) rfl ⟨by omega, by omega⟩ (fun c28 => ?_) (fun c28 => ?_)
    · have c28 : (1 : Int) = 0 := c28
      exfalso; omega
    · have c28 : (1 : Int) ≠ 0 := c28
      refine yG.load xak rfl (fun _ _ => rfl) (v := yR k1) rfl rfl ?_
      refine yG.invV (rest := []) A_h26.1 (bOb (d_Big W) H_k1) rfl rfl rfl rfl (c_Big_negate W (d + 2) A_h26.1 H_k1) (fun rv h29 q9 => ?_)
      obtain ⟨⟨rfl, R_z30⟩, B_h29⟩ := q9
      have A_h29 := A_h26.tr B_h29 (by decide)
      have qq18 : zsl h29 k0 16 = yR r1 := (B_h29.sl H_k0 (by decide)).trans qq15
      have qq19 : zsl h29 r1 (1 : Int).toNat = yR r5 := (B_h29.sl H_r1 (bNo_ok (by decide) _)).trans qq16
      have qq20 : zsl h29 r1 (3 : Int).toNat = yR r22 := (B_h29.sl H_r1 (bNo_ok (by decide) _)).trans qq17
      show yG _ _ _ _ _ _ _ _ _ _ [] _
      refine yG.ret rfl (fun _ _ => rfl) ?_
      exact (yP.void ⟨⟨rfl, trivial⟩, A_h29⟩)
theorem c_Dispatch_pivot {hp : xH} (W : bW G) (d : Nat) (hT : zTy G hp) {k0 : Nat} (H_k0 : bRo G 96 k0) (p1 p2 : Int) (h1l : 0 ≤ p1) (h1u : p1 ≤ 25) (h2l : 0 ≤ p2) (h2u : p2 ≤ 12) : yC (xcall 89 xfts xpools xms (d + 5)) 88 [yR k0, yI (p1), yI (p2)] hp (fun rv hp' => (rv = none ∧ True) ∧ bAx G [(34359738368, 1), (34359738368, 2), (30423614405477505635989596405760, 256)] hp hp') := by
  have A_hp : bAx G [(34359738368, 1), (34359738368, 2), (30423614405477505635989596405760, 256)] hp hp := bAx.rf hT
  have H : ∀ m : Nat, (∀ a3 : Nat, ∀ a4 : Int, ∀ hq, bAx G [(34359738368, 1), (34359738368, 2), (30423614405477505635989596405760, 256)] hp hq → bRo G 35 a3 → 0 ≤ a4 → (-33) ≤ 0 - a4 → 0 ≤ p1 → (-25) ≤ 0 - p1 → 0 ≤ p2 → (-12) ≤ 0 - p2 → 0 - 29 * a4 + 985 < (m : Int) → yG 89 xfts (xcall 89 xfts xpools xms (d + 4)) (xpool xp_RX1) [] xt_X1_pivot (yP 0 (fun rv hp' => (rv = none ∧ True) ∧ bAx G [(34359738368, 1), (34359738368, 2), (30423614405477505635989596405760, 256)] hp hp')) (36 * m) 20 [(0, yR k0), (1, yI (p1)), (2, yI (p2)), (3, yR a3), (4, yI (a4))] [] hq) ∧ (∀ a3 : Nat, ∀ a4 : Int, ∀ a5 : Int, ∀ hq, bAx G [(34359738368, 1), (34359738368, 2), (30423614405477505635989596405760, 256)] hp hq → bRo G 35 a3 → 0 ≤ a4 → (-32) ≤ 0 - a4 → 0 ≤ a5 → (-13) ≤ 0 - a5 → 0 ≤ p1 → (-25) ≤ 0 - p1 → 0 ≤ p2 → (-12) ≤ 0 - p2 → 0 - 29 * a4 - 2 * a5 + 984 < (m : Int) → yG 89 xfts (xcall 89 xfts xpools xms (d + 4)) (xpool xp_RX1) [] xt_X1_pivot (yP 0 (fun rv hp' => (rv = none ∧ True) ∧ bAx G [(34359738368, 1), (34359738368, 2), (30423614405477505635989596405760, 256)] hp hp')) (36 * m) 35 [(0, yR k0), (1, yI (p1)), (2, yI (p2)), (3, yR a3), (4, yI (a4)), (5, yI (a5))] [] hq) ∧ (∀ a3 : Nat, ∀ a4 : Int, ∀ hq, bAx G [(34359738368, 1), (34359738368, 2), (30423614405477505635989596405760, 256)] hp hq → bRo G 35 a3 → 0 ≤ a4 → (-13) ≤ 0 - a4 → 0 ≤ p1 → (-25) ≤ 0 - p1 → 0 ≤ p2 → (-12) ≤ 0 - p2 → 0 - 2 * a4 + 27 < (m : Int) → yG 89 xfts (xcall 89 xfts xpools xms (d + 4)) (xpool xp_RX1) [] xt_X1_pivot (yP 0 (fun rv hp' => (rv = none ∧ True) ∧ bAx G [(34359738368, 1), (34359738368, 2), (30423614405477505635989596405760, 256)] hp hp')) (36 * m) 98 [(0, yR k0), (1, yI (p1)), (2, yI (p2)), (3, yR a3), (4, yI (a4))] [] hq) := by
    intro m
    induction m with
    | zero =>
      refine ⟨?_, ?_, ?_⟩ <;> (intros; exfalso; omega)
    | succ m ih =>
      obtain ⟨i_20, i_35, i_98⟩ := ih
      refine ⟨?_, ?_, ?_⟩
      · intro a3 a4 hq A_hq H_a3 f0 f1 f2 f3 f4 f5 hm
        refine yG.mono (N := 36 * m + 36) ?_ (by omega)
        obtain ⟨n_a3, N_a3⟩ : ∃ n : Int, n = ((zat G a3 : Nat) : Int) := ⟨_, rfl⟩
        have L_a3 := n_Big W H_a3
        refine yG.load xik rfl (fun _ _ => rfl) (v := yI (a4)) rfl rfl ?_
        refine yG.load xak rfl (fun _ _ => rfl) (v := yR k0) rfl rfl ?_
        refine yG.getI A_hq.1 (w_Dispatch_rows W H_k0) rfl rfl (fun z1 e_z1 i_z1 l_z1 u_z1 => ?_)
        refine yG.num (c := 6) rfl (fun _ _ => rfl) (by decide) ?_
        refine yG.iadd rfl ?_
        refine yG.icmp rfl (t := 95) rfl ⟨by omega, by omega⟩ ⟨by omega, by omega⟩ (fun c2 => ?_) (fun c2 => ?_)
        · have c2 : (a4 : Int) > z1 + 6 := c2
          refine yG.num (c := 0) rfl (fun _ _ => rfl) (by decide) ?_
          refine yG.store1 xik (L' := [(4, yI (0)), (0, yR k0), (1, yI (p1)), (2, yI (p2)), (3, yR a3)]) rfl (fun _ _ => rfl) rfl rfl ?_
          exact yG.mono (yG.sub (i_98 a3 (0)  hq A_hq H_a3  (by omega) (by omega) (by omega) (by omega) (by omega) (by omega) (by omega)) (ySub.cons rfl (ySub.cons rfl (ySub.cons rfl (ySub.cons rfl (ySub.cons rfl (ySub.nil))))))) (by omega)
        · have c2 : (a4 : Int) ≤ z1 + 6 := c2
          refine yG.num (c := 0) rfl (fun _ _ => rfl) (by decide) ?_
          refine yG.store1 xik (L' := [(5, yI (0)), (0, yR k0), (1, yI (p1)), (2, yI (p2)), (3, yR a3), (4, yI (a4))]) rfl (fun _ _ => rfl) rfl rfl ?_
          exact yG.mono (yG.sub (i_35 a3 (a4) (0)  hq A_hq H_a3  (by omega) (by omega) (by omega) (by omega) (by omega) (by omega) (by omega) (by omega) (by omega)) (ySub.cons rfl (ySub.cons rfl (ySub.cons rfl (ySub.cons rfl (ySub.cons rfl (ySub.cons rfl (ySub.nil)))))))) (by omega)
      · intro a3 a4 a5 hq A_hq H_a3 f0 f1 f2 f3 f4 f5 f6 f7 hm
        refine yG.mono (N := 36 * m + 36) ?_ (by omega)
        obtain ⟨n_a3, N_a3⟩ : ∃ n : Int, n = ((zat G a3 : Nat) : Int) := ⟨_, rfl⟩
        have L_a3 := n_Big W H_a3
        refine yG.load xik rfl (fun _ _ => rfl) (v := yI (a5)) rfl rfl ?_
        refine yG.load xak rfl (fun _ _ => rfl) (v := yR k0) rfl rfl ?_
        refine yG.getI A_hq.1 (w_Dispatch_columns W H_k0) rfl rfl (fun z1 e_z1 i_z1 l_z1 u_z1 => ?_)
        refine yG.icmp rfl (t := 89) rfl ⟨by omega, by omega⟩ ⟨by omega, by omega⟩ (fun c2 => ?_) (fun c2 => ?_)
        · have c2 : (a5 : Int) ≥ z1 := c2
          refine yG.iinc rfl (a := a4) rfl (L' := [(4, yI (a4 + 1)), (0, yR k0), (1, yI (p1)), (2, yI (p2)), (3, yR a3), (5, yI (a5))]) rfl ?_
          refine yG.goto rfl (t := 20) rfl ?_
          exact yG.mono (yG.sub (i_20 a3 (a4 + 1)  hq A_hq H_a3  (by omega) (by omega) (by omega) (by omega) (by omega) (by omega) (by omega)) (ySub.cons rfl (ySub.cons rfl (ySub.cons rfl (ySub.cons rfl (ySub.cons rfl (ySub.nil))))))) (by omega)
        · have c2 : (a5 : Int) < z1 := c2
          refine yG.load xik rfl (fun _ _ => rfl) (v := yI (a4)) rfl rfl ?_
          refine yG.load xik rfl (fun _ _ => rfl) (v := yI (p1)) rfl rfl ?_
          refine yG.icmp rfl (t := 83) rfl ⟨by omega, by omega⟩ ⟨by omega, by omega⟩ (fun c3 => ?_) (fun c3 => ?_)
          · have c3 : (a4 : Int) = p1 := c3
            refine yG.iinc rfl (a := a5) rfl (L' := [(5, yI (a5 + 1)), (0, yR k0), (1, yI (p1)), (2, yI (p2)), (3, yR a3), (4, yI (a4))]) rfl ?_
            refine yG.goto rfl (t := 35) rfl ?_
            exact yG.mono (yG.sub (i_35 a3 (a4) (a5 + 1)  hq A_hq H_a3  (by omega) (by omega) (by omega) (by omega) (by omega) (by omega) (by omega) (by omega) (by omega)) (ySub.cons rfl (ySub.cons rfl (ySub.cons rfl (ySub.cons rfl (ySub.cons rfl (ySub.cons rfl (ySub.nil)))))))) (by omega)
          · have c3 : (a4 : Int) ≠ p1 := c3
            refine yG.load xik rfl (fun _ _ => rfl) (v := yI (a5)) rfl rfl ?_
            refine yG.load xik rfl (fun _ _ => rfl) (v := yI (p2)) rfl rfl ?_
            refine yG.icmp rfl (t := 83) rfl ⟨by omega, by omega⟩ ⟨by omega, by omega⟩ (fun c4 => ?_) (fun c4 => ?_)
            · have c4 : (a5 : Int) = p2 := c4
              refine yG.iinc rfl (a := a5) rfl (L' := [(5, yI (a5 + 1)), (0, yR k0), (1, yI (p1)), (2, yI (p2)), (3, yR a3), (4, yI (a4))]) rfl ?_
              refine yG.goto rfl (t := 35) rfl ?_
              exact yG.mono (yG.sub (i_35 a3 (a4) (a5 + 1)  hq A_hq H_a3  (by omega) (by omega) (by omega) (by omega) (by omega) (by omega) (by omega) (by omega) (by omega)) (ySub.cons rfl (ySub.cons rfl (ySub.cons rfl (ySub.cons rfl (ySub.cons rfl (ySub.cons rfl (ySub.nil)))))))) (by omega)
            · have c4 : (a5 : Int) ≠ p2 := c4
              refine yG.load xak rfl (fun _ _ => rfl) (v := yR k0) rfl rfl ?_
              refine yG.load xak rfl (fun _ _ => rfl) (v := yR k0) rfl rfl ?_
              refine yG.load xik rfl (fun _ _ => rfl) (v := yI (a4)) rfl rfl ?_
              refine yG.load xik rfl (fun _ _ => rfl) (v := yI (a5)) rfl rfl ?_
              refine yG.invV (rest := [yR k0]) A_hq.1 (bOb (d_Dispatch W) H_k0) rfl rfl rfl rfl (c_Dispatch_at W (d + 3) A_hq.1 H_k0 (a4) (a5) (by omega) (by omega) (by omega) (by omega)) (fun rv hp9 q9 => ?_)
              obtain ⟨⟨r5, rfl, H_r5⟩, e9⟩ := q9
              rw [e9]
              obtain ⟨n_r5, N_r5⟩ : ∃ n : Int, n = ((zat G r5 : Nat) : Int) := ⟨_, rfl⟩
              have L_r5 := n_Big W H_r5
              show yG _ _ _ _ _ _ _ _ _ _ (yR r5 :: [yR k0]) _
              refine yG.load xak rfl (fun _ _ => rfl) (v := yR a3) rfl rfl ?_
              refine yG.load xak rfl (fun _ _ => rfl) (v := yR k0) rfl rfl ?_
              refine yG.load xik rfl (fun _ _ => rfl) (v := yI (a4)) rfl rfl ?_
              refine yG.load xik rfl (fun _ _ => rfl) (v := yI (p2)) rfl rfl ?_
              refine yG.invV (rest := [yR a3, yR r5, yR k0]) A_hq.1 (bOb (d_Dispatch W) H_k0) rfl rfl rfl rfl (c_Dispatch_at W (d + 3) A_hq.1 H_k0 (a4) (p2) (by omega) (by omega) (by omega) (by omega)) (fun rv hp9 q9 => ?_)
              obtain ⟨⟨r6, rfl, H_r6⟩, e9⟩ := q9
              rw [e9]
              obtain ⟨n_r6, N_r6⟩ : ∃ n : Int, n = ((zat G r6 : Nat) : Int) := ⟨_, rfl⟩
              have L_r6 := n_Big W H_r6
              show yG _ _ _ _ _ _ _ _ _ _ (yR r6 :: [yR a3, yR r5, yR k0]) _
              refine yG.load xak rfl (fun _ _ => rfl) (v := yR k0) rfl rfl ?_
              refine yG.load xik rfl (fun _ _ => rfl) (v := yI (p1)) rfl rfl ?_
              refine yG.load xik rfl (fun _ _ => rfl) (v := yI (a5)) rfl rfl ?_
              refine yG.invV (rest := [yR r6, yR a3, yR r5, yR k0]) A_hq.1 (bOb (d_Dispatch W) H_k0) rfl rfl rfl rfl (c_Dispatch_at W (d + 3) A_hq.1 H_k0 (p1) (a5) (by omega) (by omega) (by omega) (by omega)) (fun rv hp9 q9 => ?_)
              obtain ⟨⟨r7, rfl, H_r7⟩, e9⟩ := q9
              rw [e9]
              obtain ⟨n_r7, N_r7⟩ : ∃ n : Int, n = ((zat G r7 : Nat) : Int) := ⟨_, rfl⟩
              have L_r7 := n_Big W H_r7
              show yG _ _ _ _ _ _ _ _ _ _ (yR r7 :: [yR r6, yR a3, yR r5, yR k0]) _
              refine yG.invV (rest := []) A_hq.1 (bOb (d_Dispatch W) H_k0) rfl rfl rfl rfl (c_Dispatch_update W d A_hq.1 H_k0 H_r5 H_a3 H_r6 H_r7) (fun rv h8 q9 => ?_)
              obtain ⟨⟨rfl, R_z9⟩, B_h8⟩ := q9
              have A_h8 := A_hq.tr B_h8 (by decide)
              show yG _ _ _ _ _ _ _ _ _ _ [] _
              refine yG.iinc rfl (a := a5) rfl (L' := [(5, yI (a5 + 1)), (0, yR k0), (1, yI (p1)), (2, yI (p2)), (3, yR a3), (4, yI (a4))]) rfl ?_
              refine yG.goto rfl (t := 35) rfl ?_
              exact yG.mono (yG.sub (i_35 a3 (a4) (a5 + 1)  h8 A_h8 H_a3  (by omega) (by omega) (by omega) (by omega) (by omega) (by omega) (by omega) (by omega) (by omega)) (ySub.cons rfl (ySub.cons rfl (ySub.cons rfl (ySub.cons rfl (ySub.cons rfl (ySub.cons rfl (ySub.nil)))))))) (by omega)
      · intro a3 a4 hq A_hq H_a3 f0 f1 f2 f3 f4 f5 hm
        refine yG.mono (N := 36 * m + 36) ?_ (by omega)
        obtain ⟨n_a3, N_a3⟩ : ∃ n : Int, n = ((zat G a3 : Nat) : Int) := ⟨_, rfl⟩
        have L_a3 := n_Big W H_a3
        refine yG.load xik rfl (fun _ _ => rfl) (v := yI (a4)) rfl rfl ?_
        refine yG.load xak rfl (fun _ _ => rfl) (v := yR k0) rfl rfl ?_
        refine yG.getI A_hq.1 (w_Dispatch_columns W H_k0) rfl rfl (fun z1 e_z1 i_z1 l_z1 u_z1 => ?_)
        refine yG.icmp rfl (t := 123) rfl ⟨by omega, by omega⟩ ⟨by omega, by omega⟩ (fun c2 => ?_) (fun c2 => ?_)
        · have c2 : (a4 : Int) ≥ z1 := c2
          refine yG.load xak rfl (fun _ _ => rfl) (v := yR k0) rfl rfl ?_
          refine yG.load xik rfl (fun _ _ => rfl) (v := yI (p1)) rfl rfl ?_
          refine yG.load xik rfl (fun _ _ => rfl) (v := yI (p2)) rfl rfl ?_
          refine yG.invV (rest := []) A_hq.1 (bOb (d_Dispatch W) H_k0) rfl rfl rfl rfl (c_Dispatch_at W (d + 3) A_hq.1 H_k0 (p1) (p2) (by omega) (by omega) (by omega) (by omega)) (fun rv hp9 q9 => ?_)
          obtain ⟨⟨r3, rfl, H_r3⟩, e9⟩ := q9
          rw [e9]
          obtain ⟨n_r3, N_r3⟩ : ∃ n : Int, n = ((zat G r3 : Nat) : Int) := ⟨_, rfl⟩
          have L_r3 := n_Big W H_r3
          show yG _ _ _ _ _ _ _ _ _ _ (yR r3 :: []) _
          refine yG.load xak rfl (fun _ _ => rfl) (v := yR k0) rfl rfl ?_
          refine yG.getO A_hq.1 (w_Dispatch_common W H_k0) rfl rfl (fun r4 H_r4 O_r4 q_r4 => ?_)
          obtain ⟨n_r4, N_r4⟩ : ∃ n : Int, n = ((zat G r4 : Nat) : Int) := ⟨_, rfl⟩
          have L_r4 := n_Big W H_r4
          refine yG.invV (rest := []) A_hq.1 (bOb (d_Big W) H_r3) rfl rfl rfl rfl (c_Big_copy W (d + 2) A_hq.1 H_r3 H_r4) (fun rv h5 q9 => ?_)
          obtain ⟨⟨rfl, R_z6⟩, B_h5⟩ := q9
          have A_h5 := A_hq.tr B_h5 (by decide)
          have qq1 : zsl h5 k0 15 = yR r4 := (B_h5.sl H_k0 (by decide)).trans q_r4
          show yG _ _ _ _ _ _ _ _ _ _ [] _
          refine yG.load xak rfl (fun _ _ => rfl) (v := yR k0) rfl rfl ?_
          refine yG.getS9 A_h5.1 (w_Dispatch_common W H_k0) qq1 rfl rfl ?_
          refine yG.load xak rfl (fun _ _ => rfl) (v := yR a3) rfl rfl ?_
          refine yG.invV (rest := []) A_h5.1 (bOb (d_Big W) H_r4) rfl rfl rfl rfl (c_Big_copy W (d + 2) A_h5.1 H_r4 H_a3) (fun rv h7 q9 => ?_)
          obtain ⟨⟨rfl, R_z8⟩, B_h7⟩ := q9
          have A_h7 := A_h5.tr B_h7 (by decide)
          have qq2 : zsl h7 k0 15 = yR r4 := (B_h7.sl H_k0 (by decide)).trans qq1
          show yG _ _ _ _ _ _ _ _ _ _ [] _
          refine yG.load xak rfl (fun _ _ => rfl) (v := yR k0) rfl rfl ?_
          refine yG.getO A_h7.1 (w_Dispatch_rowVariable W H_k0) rfl rfl (fun r9 H_r9 O_r9 q_r9 => ?_)
          refine yG.load xik rfl (fun _ _ => rfl) (v := yI (p1)) rfl rfl ?_
          refine yG.iald A_h7.1 (v_Dispatch_rowVariable W H_r9) rfl (by omega) (by omega) (fun z10 e_z10 i_z10 l_z10 u_z10 => ?_)
          refine yG.store1 xik (L' := [(4, yI (z10)), (0, yR k0), (1, yI (p1)), (2, yI (p2)), (3, yR a3)]) rfl (fun _ _ => rfl) rfl rfl ?_
          refine yG.load xak rfl (fun _ _ => rfl) (v := yR k0) rfl rfl ?_
          refine yG.getS9 A_h7.1 (w_Dispatch_rowVariable W H_k0) q_r9 rfl rfl ?_
          refine yG.load xik rfl (fun _ _ => rfl) (v := yI (p1)) rfl rfl ?_
          refine yG.load xak rfl (fun _ _ => rfl) (v := yR k0) rfl rfl ?_
          refine yG.getO A_h7.1 (w_Dispatch_columnVariable W H_k0) rfl rfl (fun r11 H_r11 O_r11 q_r11 => ?_)
          refine yG.load xik rfl (fun _ _ => rfl) (v := yI (p2)) rfl rfl ?_
          refine yG.iald A_h7.1 (v_Dispatch_columnVariable W H_r11) rfl (by omega) (by omega) (fun z12 e_z12 i_z12 l_z12 u_z12 => ?_)
          refine yG.iast A_h7.1 (v_Dispatch_rowVariable W H_r9) (W.2.1 _ _ H_r9 (by decide) (by decide)) rfl (by omega) (by omega) ⟨by omega, by omega⟩ (by omega) (by omega) (fun h13 T_h13 b_h13 f_h13 y_h13 => ?_)
          have A_h13 := A_h7.put T_h13 b_h13 f_h13 H_r9 (bAll_ok (by decide) _)
          have qq3 : zsl h13 k0 15 = yR r4 := ((f_h13 k0 15).trans (if_neg (fun e => (bRo.ne H_k0 H_r9 (by decide)) e.1))).trans qq2
          have qq4 : zsl h13 k0 12 = yR r9 := ((f_h13 k0 12).trans (if_neg (fun e => (bRo.ne H_k0 H_r9 (by decide)) e.1))).trans q_r9
          have qq5 : zsl h13 k0 13 = yR r11 := ((f_h13 k0 13).trans (if_neg (fun e => (bRo.ne H_k0 H_r9 (by decide)) e.1))).trans q_r11
          refine yG.load xak rfl (fun _ _ => rfl) (v := yR k0) rfl rfl ?_
          refine yG.getS9 A_h13.1 (w_Dispatch_columnVariable W H_k0) qq5 rfl rfl ?_
          refine yG.load xik rfl (fun _ _ => rfl) (v := yI (p2)) rfl rfl ?_
          refine yG.load xik rfl (fun _ _ => rfl) (v := yI (z10)) rfl rfl ?_
          refine yG.iast A_h13.1 (v_Dispatch_columnVariable W H_r11) (W.2.1 _ _ H_r11 (by decide) (by decide)) rfl (by omega) (by omega) ⟨by omega, by omega⟩ (by omega) (by omega) (fun h14 T_h14 b_h14 f_h14 y_h14 => ?_)
          have A_h14 := A_h13.put T_h14 b_h14 f_h14 H_r11 (bAll_ok (by decide) _)
          have qq6 : zsl h14 k0 15 = yR r4 := ((f_h14 k0 15).trans (if_neg (fun e => (bRo.ne H_k0 H_r11 (by decide)) e.1))).trans qq3
          have qq7 : zsl h14 k0 12 = yR r9 := ((f_h14 k0 12).trans (if_neg (fun e => (bRo.ne H_k0 H_r11 (by decide)) e.1))).trans qq4
          have qq8 : zsl h14 k0 13 = yR r11 := ((f_h14 k0 13).trans (if_neg (fun e => (bRo.ne H_k0 H_r11 (by decide)) e.1))).trans qq5
          refine yG.ret rfl (fun _ _ => rfl) ?_
          exact (yP.void ⟨⟨rfl, trivial⟩, A_h14⟩)
        · have c2 : (a4 : Int) < z1 := c2
          refine yG.load xak rfl (fun _ _ => rfl) (v := yR k0) rfl rfl ?_
          refine yG.load xik rfl (fun _ _ => rfl) (v := yI (p1)) rfl rfl ?_
          refine yG.load xik rfl (fun _ _ => rfl) (v := yI (a4)) rfl rfl ?_
          refine yG.invV (rest := []) A_hq.1 (bOb (d_Dispatch W) H_k0) rfl rfl rfl rfl (c_Dispatch_at W (d + 3) A_hq.1 H_k0 (p1) (a4) (by omega) (by omega) (by omega) (by omega)) (fun rv hp9 q9 => ?_)
          obtain ⟨⟨r15, rfl, H_r15⟩, e9⟩ := q9
          rw [e9]
          obtain ⟨n_r15, N_r15⟩ : ∃ n : Int, n = ((zat G r15 : Nat) : Int) := ⟨_, rfl⟩
          have L_r15 := n_Big W H_r15
          show yG _ _ _ _ _ _ _ _ _ _ (yR r15 :: []) _
          refine yG.invV (rest := []) A_hq.1 (bOb (d_Big W) H_r15) rfl rfl rfl rfl (c_Big_negate W (d + 3) A_hq.1 H_r15) (fun rv h16 q9 => ?_)
          obtain ⟨⟨rfl, R_z17⟩, B_h16⟩ := q9
          have A_h16 := A_hq.tr B_h16 (by decide)
          show yG _ _ _ _ _ _ _ _ _ _ [] _
          refine yG.iinc rfl (a := a4) rfl (L' := [(4, yI (a4 + 1)), (0, yR k0), (1, yI (p1)), (2, yI (p2)), (3, yR a3)]) rfl ?_
          refine yG.goto rfl (t := 98) rfl ?_
          exact yG.mono (yG.sub (i_98 a3 (a4 + 1)  h16 A_h16 H_a3  (by omega) (by omega) (by omega) (by omega) (by omega) (by omega) (by omega)) (ySub.cons rfl (ySub.cons rfl (ySub.cons rfl (ySub.cons rfl (ySub.cons rfl (ySub.nil))))))) (by omega)
  refine yC.of (M := (xt_X1_pivot, (6, (0, (2, []))))) rfl rfl (N := 35568) (yfuel (by decide)) ?_
  show yG 89 xfts (xcall 89 xfts xpools xms (d + 4)) (xpool xp_RX1) [] xt_X1_pivot (yP 0 (fun rv hp' => (rv = none ∧ True) ∧ bAx G [(34359738368, 1), (34359738368, 2), (30423614405477505635989596405760, 256)] hp hp')) 35568 0 [(0, yR k0), (1, yI (p1)), (2, yI (p2))] [] hp
  obtain ⟨i_20, i_35, i_98⟩ := H 987
  refine yG.load xak rfl (fun _ _ => rfl) (v := yR k0) rfl rfl ?_
  refine yG.getO A_hp.1 (w_Dispatch_help W H_k0) rfl rfl (fun r1 H_r1 O_r1 q_r1 => ?_)
  refine yG.num (c := 2) rfl (fun _ _ => rfl) (by decide) ?_
  refine yG.aaldO (r := 35) A_hp.1 (v_Big4 W H_r1) rfl rfl rfl (by omega) (by omega) (fun r2 H_r2 q_r2 => ?_)
  obtain ⟨n_r2, N_r2⟩ : ∃ n : Int, n = ((zat G r2 : Nat) : Int) := ⟨_, rfl⟩
  have L_r2 := n_Big W H_r2
  refine yG.store1 xak (L' := [(3, yR r2), (0, yR k0), (1, yI (p1)), (2, yI (p2))]) rfl (fun _ _ => rfl) rfl rfl ?_
  refine yG.load xak rfl (fun _ _ => rfl) (v := yR r2) rfl rfl ?_
  refine yG.load xak rfl (fun _ _ => rfl) (v := yR k0) rfl rfl ?_
  refine yG.load xik rfl (fun _ _ => rfl) (v := yI (p1)) rfl rfl ?_
  refine yG.load xik rfl (fun _ _ => rfl) (v := yI (p2)) rfl rfl ?_
  refine yG.invV (rest := [yR r2]) A_hp.1 (bOb (d_Dispatch W) H_k0) rfl rfl rfl rfl (c_Dispatch_at W (d + 3) A_hp.1 H_k0 (p1) (p2) (by omega) (by omega) (by omega) (by omega)) (fun rv hp9 q9 => ?_)
  obtain ⟨⟨r3, rfl, H_r3⟩, e9⟩ := q9
  rw [e9]
  obtain ⟨n_r3, N_r3⟩ : ∃ n : Int, n = ((zat G r3 : Nat) : Int) := ⟨_, rfl⟩
  have L_r3 := n_Big W H_r3
  show yG _ _ _ _ _ _ _ _ _ _ (yR r3 :: [yR r2]) _
  refine yG.invV (rest := []) A_hp.1 (bOb (d_Big W) H_r2) rfl rfl rfl rfl (c_Big_copy W (d + 2) A_hp.1 H_r2 H_r3) (fun rv h4 q9 => ?_)
  obtain ⟨⟨rfl, R_z5⟩, B_h4⟩ := q9
  have A_h4 := A_hp.tr B_h4 (by decide)
  show yG _ _ _ _ _ _ _ _ _ _ [] _
  refine yG.num (c := 0) rfl (fun _ _ => rfl) (by decide) ?_
  refine yG.store1 xik (L' := [(4, yI (0)), (3, yR r2), (0, yR k0), (1, yI (p1)), (2, yI (p2))]) rfl (fun _ _ => rfl) rfl rfl ?_
  exact yG.mono (yG.sub (i_20 r2 (0)  h4 A_h4 H_r2  (by omega) (by omega) (by omega) (by omega) (by omega) (by omega) (by omega)) (ySub.cons rfl (ySub.cons rfl (ySub.cons rfl (ySub.cons rfl (ySub.cons rfl (ySub.nil))))))) (by omega)
theorem c_Dispatch_trial {hp : xH} (W : bW G) (d : Nat) (hT : zTy G hp) {k0 : Nat} (H_k0 : bRo G 96 k0) (p1 : Int) (h1l : (-1) ≤ p1) (h1u : p1 ≤ 15) : yC (xcall 89 xfts xpools xms (d + 7)) 97 [yR k0, yI (p1)] hp (bQi G [(34359738368, 1), (1133871366144, 2), (79228162514264338693055578112, 3), (1099511627776, 6), (1099511627776, 7), (1099511627776, 8), (79228162514264337593543950336, 10), (79228162514264337593543950336, 11), (40406362882274830202567806418944, 256)] hp 0 1 (fun _ => True)) := by
  have A_hp : bAx G [(34359738368, 1), (1133871366144, 2), (79228162514264338693055578112, 3), (1099511627776, 6), (1099511627776, 7), (1099511627776, 8), (79228162514264337593543950336, 10), (79228162514264337593543950336, 11), (40406362882274830202567806418944, 256)] hp hp := bAx.rf hT
  have H : ∀ m : Nat, (∀ a2 : Int, ∀ hq, bAx G [(34359738368, 1), (1133871366144, 2), (79228162514264338693055578112, 3), (1099511627776, 6), (1099511627776, 7), (1099511627776, 8), (79228162514264337593543950336, 10), (79228162514264337593543950336, 11), (40406362882274830202567806418944, 256)] hp hq → 0 ≤ a2 → (-1000000) ≤ 0 - a2 → (-1) ≤ p1 → (-15) ≤ 0 - p1 → 0 - 2 * a2 + 2000001 < (m : Int) → yG 89 xfts (xcall 89 xfts xpools xms (d + 6)) (xpool xp_RX1) [] xt_X1_trial (yP 4 (bQi G [(34359738368, 1), (1133871366144, 2), (79228162514264338693055578112, 3), (1099511627776, 6), (1099511627776, 7), (1099511627776, 8), (79228162514264337593543950336, 10), (79228162514264337593543950336, 11), (40406362882274830202567806418944, 256)] hp 0 1 (fun _ => True))) (24 * m) 29 [(0, yR k0), (2, yI (a2))] [] hq) := by
    intro m
    induction m with
    | zero =>
      intros; exfalso; omega
    | succ m ih =>
      have i_29 := ih
      clear ih
      intro a2 hq A_hq f0 f1 f2 f3 hm
      refine yG.mono (N := 24 * m + 24) ?_ (by omega)
      refine yG.load xik rfl (fun _ _ => rfl) (v := yI (a2)) rfl rfl ?_
      refine yG.num (c := 1000000) rfl (fun _ _ => rfl) (by decide) ?_
      refine yG.icmp rfl (t := 75) rfl ⟨by omega, by omega⟩ ⟨by omega, by omega⟩ (fun c1 => ?_) (fun c1 => ?_)
      · have c1 : (a2 : Int) ≥ 1000000 := c1
        refine yG.num (c := 0) rfl (fun _ _ => rfl) (by decide) ?_
        refine yG.ret rfl (fun _ _ => rfl) ?_
        exact (yP.bool (by omega) ⟨⟨0, rfl, by omega, by omega, trivial⟩, A_hq⟩)
      · have c1 : (a2 : Int) < 1000000 := c1
        refine yG.load xak rfl (fun _ _ => rfl) (v := yR k0) rfl rfl ?_
        refine yG.invV (rest := []) A_hq.1 (bOb (d_Dispatch W) H_k0) rfl rfl rfl rfl (c_Dispatch_leaving W (d + 1) A_hq.1 H_k0) (fun rv h2 q9 => ?_)
        obtain ⟨⟨z3, rfl, l_z3, u_z3, R_z3⟩, B_h2⟩ := q9
        have A_h2 := A_hq.tr B_h2 (by decide)
        show yG _ _ _ _ _ _ _ _ _ _ (yI z3 :: []) _
        refine yG.store1 xik (L' := [(3, yI (z3)), (0, yR k0), (2, yI (a2))]) rfl (fun _ _ => rfl) rfl rfl ?_
        refine yG.load xik rfl (fun _ _ => rfl) (v := yI (z3)) rfl rfl ?_
        refine yG.num (c := -1) rfl (fun _ _ => rfl) (by decide) ?_
        refine yG.icmp rfl (t := 47) rfl ⟨by omega, by omega⟩ ⟨by omega, by omega⟩ (fun c4 => ?_) (fun c4 => ?_)
        · have c4 : (z3 : Int) ≠ (-1) := c4
          refine yG.load xak rfl (fun _ _ => rfl) (v := yR k0) rfl rfl ?_
          refine yG.load xik rfl (fun _ _ => rfl) (v := yI (z3)) rfl rfl ?_
          refine yG.invV (rest := []) A_h2.1 (bOb (d_Dispatch W) H_k0) rfl rfl rfl rfl (c_Dispatch_entering W (d + 2) A_h2.1 H_k0 (z3) (by omega) (by omega)) (fun rv h5 q9 => ?_)
          obtain ⟨⟨z6, rfl, l_z6, u_z6, R_z6⟩, B_h5⟩ := q9
          have A_h5 := A_h2.tr B_h5 (by decide)
          show yG _ _ _ _ _ _ _ _ _ _ (yI z6 :: []) _
          refine yG.store1 xik (L' := [(4, yI (z6)), (3, yI (z3)), (0, yR k0), (2, yI (a2))]) rfl (fun _ _ => rfl) rfl rfl ?_
          refine yG.load xik rfl (fun _ _ => rfl) (v := yI (z6)) rfl rfl ?_
          refine yG.num (c := -1) rfl (fun _ _ => rfl) (by decide) ?_
          refine yG.icmp rfl (t := 62) rfl ⟨by omega, by omega⟩ ⟨by omega, by omega⟩ (fun c7 => ?_) (fun c7 => ?_)
          · have c7 : (z6 : Int) ≠ (-1) := c7
            refine yG.load xak rfl (fun _ _ => rfl) (v := yR k0) rfl rfl ?_
            refine yG.load xik rfl (fun _ _ => rfl) (v := yI (z3)) rfl rfl ?_
            refine yG.load xik rfl (fun _ _ => rfl) (v := yI (z6)) rfl rfl ?_
            refine yG.invV (rest := []) A_h5.1 (bOb (d_Dispatch W) H_k0) rfl rfl rfl rfl (c_Dispatch_pivot W (d + 1) A_h5.1 H_k0 (z3) (z6) (by omega) (by omega) (by omega) (by omega)) (fun rv h8 q9 => ?_)
            obtain ⟨⟨rfl, R_z9⟩, B_h8⟩ := q9
            have A_h8 := A_h5.tr B_h8 (by decide)
            show yG _ _ _ _ _ _ _ _ _ _ [] _
            refine yG.iinc rfl (a := a2) rfl (L' := [(2, yI (a2 + 1)), (4, yI (z6)), (3, yI (z3)), (0, yR k0)]) rfl ?_
            refine yG.goto rfl (t := 29) rfl ?_
            exact yG.mono (yG.sub (i_29 (a2 + 1)  h8 A_h8   (by omega) (by omega) (by omega) (by omega) (by omega)) (ySub.cons rfl (ySub.cons rfl (ySub.nil)))) (by omega)
          · have c7 : (z6 : Int) = (-1) := c7
            refine yG.num (c := 0) rfl (fun _ _ => rfl) (by decide) ?_
            refine yG.ret rfl (fun _ _ => rfl) ?_
            exact (yP.bool (by omega) ⟨⟨0, rfl, by omega, by omega, trivial⟩, A_h5⟩)
        · have c4 : (z3 : Int) = (-1) := c4
          refine yG.num (c := 1) rfl (fun _ _ => rfl) (by decide) ?_
          refine yG.ret rfl (fun _ _ => rfl) ?_
          exact (yP.bool (by omega) ⟨⟨1, rfl, by omega, by omega, trivial⟩, A_h2⟩)
  refine yC.of (M := (xt_X1_trial, (5, (4, (2, []))))) rfl rfl (N := 48000096) (yfuel (by decide)) ?_
  show yG 89 xfts (xcall 89 xfts xpools xms (d + 6)) (xpool xp_RX1) [] xt_X1_trial (yP 4 (bQi G [(34359738368, 1), (1133871366144, 2), (79228162514264338693055578112, 3), (1099511627776, 6), (1099511627776, 7), (1099511627776, 8), (79228162514264337593543950336, 10), (79228162514264337593543950336, 11), (40406362882274830202567806418944, 256)] hp 0 1 (fun _ => True))) 48000096 0 [(0, yR k0), (1, yI (p1))] [] hp
  have i_29 := H 2000003
  refine yG.load xak rfl (fun _ _ => rfl) (v := yR k0) rfl rfl ?_
  refine yG.invV (rest := []) A_hp.1 (bOb (d_Dispatch W) H_k0) rfl rfl rfl rfl (c_Dispatch_cut W (d + 4) A_hp.1 H_k0) (fun rv h1 q9 => ?_)
  obtain ⟨⟨rfl, R_z2⟩, B_h1⟩ := q9
  have A_h1 := A_hp.tr B_h1 (by decide)
  show yG _ _ _ _ _ _ _ _ _ _ [] _
  refine yG.load xak rfl (fun _ _ => rfl) (v := yR k0) rfl rfl ?_
  refine yG.load xik rfl (fun _ _ => rfl) (v := yI (p1)) rfl rfl ?_
  refine yG.invV (rest := []) A_h1.1 (bOb (d_Dispatch W) H_k0) rfl rfl rfl rfl (c_Dispatch_share W (d + 2) A_h1.1 H_k0 (p1) (by omega) (by omega)) (fun rv h3 q9 => ?_)
  obtain ⟨⟨z4, rfl, l_z4, u_z4, R_z4⟩, B_h3⟩ := q9
  have A_h3 := A_h1.tr B_h3 (by decide)
  show yG _ _ _ _ _ _ _ _ _ _ (yI z4 :: []) _
  refine yG.ifz rfl (t := 14) rfl ⟨by omega, by omega⟩ (fun c5 => ?_) (fun c5 => ?_)
  · have c5 : (z4 : Int) ≠ 0 := c5
    refine yG.load xak rfl (fun _ _ => rfl) (v := yR k0) rfl rfl ?_
    obtain ⟨r6, H_r6, q_r6⟩ := bFdO (w_Dispatch_shape W H_k0) A_h3.1
    obtain ⟨r7, H_r7, q_r7⟩ := bFdO (w_Shape_island W H_r6) A_h3.1
    obtain ⟨r8, H_r8, q_r8⟩ := bFdO (w_Shape_spot W H_r6) A_h3.1
    obtain ⟨r9, H_r9, q_r9⟩ := bFdO (w_Dispatch_machineOf W H_k0) A_h3.1
    obtain ⟨r10, H_r10, q_r10⟩ := bFdO (w_Dispatch_keeper W H_k0) A_h3.1
    obtain ⟨r11, H_r11, q_r11⟩ := bFdO (w_Dispatch_columnVariable W H_k0) A_h3.1
    refine yG.invV (rest := []) A_h3.1 (bOb (d_Dispatch W) H_k0) rfl rfl rfl rfl (c_Dispatch_setOut W (d + 3) A_h3.1 H_k0 H_r6 q_r6 H_r7 q_r7 H_r8 q_r8 H_r9 q_r9 H_r10 q_r10 H_r11 q_r11) (fun rv h12 q9 => ?_)
    obtain ⟨q9, M_bCv_h12⟩ := q9
    obtain ⟨⟨rfl, R_z13⟩, B_h12⟩ := q9
    have A_h12 := A_h3.tr B_h12 (by decide)
    show yG _ _ _ _ _ _ _ _ _ _ [] _
    refine yG.load xak rfl (fun _ _ => rfl) (v := yR k0) rfl rfl ?_
    refine yG.load xik rfl (fun _ _ => rfl) (v := yI (p1)) rfl rfl ?_
    refine yG.invV (rest := []) A_h12.1 (bOb (d_Dispatch W) H_k0) rfl rfl rfl rfl (c_Dispatch_measureLines W (d + 1) A_h12.1 M_bCv_h12 H_k0 (p1) (by omega) (by omega)) (fun rv h14 q9 => ?_)
    obtain ⟨⟨rfl, R_z15⟩, B_h14⟩ := q9
    have A_h14 := A_h12.tr B_h14 (by decide)
    have M_bCv_h14 := M_bCv_h12.fr B_h14 (by decide)
    show yG _ _ _ _ _ _ _ _ _ _ [] _
    refine yG.load xak rfl (fun _ _ => rfl) (v := yR k0) rfl rfl ?_
    refine yG.invV (rest := []) A_h14.1 (bOb (d_Dispatch W) H_k0) rfl rfl rfl rfl (c_Dispatch_fillParts W d A_h14.1 M_bCv_h14 H_k0) (fun rv h16 q9 => ?_)
    obtain ⟨⟨rfl, R_z17⟩, B_h16⟩ := q9
    have A_h16 := A_h14.tr B_h16 (by decide)
    have M_bCv_h16 := M_bCv_h14.fr B_h16 (by decide)
    show yG _ _ _ _ _ _ _ _ _ _ [] _
    refine yG.num (c := 0) rfl (fun _ _ => rfl) (by decide) ?_
    refine yG.store1 xik (L' := [(2, yI (0)), (0, yR k0), (1, yI (p1))]) rfl (fun _ _ => rfl) rfl rfl ?_
    exact yG.mono (yG.sub (i_29 (0)  h16 A_h16   (by omega) (by omega) (by omega) (by omega) (by omega)) (ySub.cons rfl (ySub.cons rfl (ySub.nil)))) (by omega)
  · have c5 : (z4 : Int) = 0 := c5
    refine yG.num (c := 0) rfl (fun _ _ => rfl) (by decide) ?_
    refine yG.ret rfl (fun _ _ => rfl) ?_
    exact (yP.bool (by omega) ⟨⟨0, rfl, by omega, by omega, trivial⟩, A_h3⟩)
theorem c_Dispatch_solve {hp : xH} (W : bW G) (d : Nat) (hT : zTy G hp) {k0 : Nat} (H_k0 : bRo G 96 k0) : yC (xcall 89 xfts xpools xms (d + 8)) 92 [yR k0] hp (fun rv hp' => (rv = none ∧ True) ∧ bAx G [(34359738368, 1), (1133871366144, 2), (79228162514264338693055578112, 3), (1099511627776, 6), (1099511627776, 7), (1099511627776, 8), (79228162514264337593543950336, 10), (79228162514264337593543950336, 11), (79228162514264337593543950336, 18), (79228162514264337593543950336, 19), (40406362882274830202567806418944, 256)] hp hp') := by
  have A_hp : bAx G [(34359738368, 1), (1133871366144, 2), (79228162514264338693055578112, 3), (1099511627776, 6), (1099511627776, 7), (1099511627776, 8), (79228162514264337593543950336, 10), (79228162514264337593543950336, 11), (79228162514264337593543950336, 18), (79228162514264337593543950336, 19), (40406362882274830202567806418944, 256)] hp hp := bAx.rf hT
  have H : ∀ m : Nat, (∀ a1 : Int, ∀ hq, bAx G [(34359738368, 1), (1133871366144, 2), (79228162514264338693055578112, 3), (1099511627776, 6), (1099511627776, 7), (1099511627776, 8), (79228162514264337593543950336, 10), (79228162514264337593543950336, 11), (79228162514264337593543950336, 18), (79228162514264337593543950336, 19), (40406362882274830202567806418944, 256)] hp hq → 0 ≤ a1 → (-6) ≤ 0 - a1 → 0 - 2 * a1 + 13 < (m : Int) → yG 89 xfts (xcall 89 xfts xpools xms (d + 7)) (xpool xp_RX1) [] xt_X1_solve (yP 0 (fun rv hp' => (rv = none ∧ True) ∧ bAx G [(34359738368, 1), (1133871366144, 2), (79228162514264338693055578112, 3), (1099511627776, 6), (1099511627776, 7), (1099511627776, 8), (79228162514264337593543950336, 10), (79228162514264337593543950336, 11), (79228162514264337593543950336, 18), (79228162514264337593543950336, 19), (40406362882274830202567806418944, 256)] hp hp')) (23 * m) 31 [(0, yR k0), (1, yI (a1))] [] hq) := by
    intro m
    induction m with
    | zero =>
      intros; exfalso; omega
    | succ m ih =>
      have i_31 := ih
      clear ih
      intro a1 hq A_hq f0 f1 hm
      refine yG.mono (N := 23 * m + 23) ?_ (by omega)
      refine yG.load xik rfl (fun _ _ => rfl) (v := yI (a1)) rfl rfl ?_
      refine yG.num (c := 6) rfl (fun _ _ => rfl) (by decide) ?_
      refine yG.icmp rfl (t := 65) rfl ⟨by omega, by omega⟩ ⟨by omega, by omega⟩ (fun c1 => ?_) (fun c1 => ?_)
      · have c1 : (a1 : Int) ≥ 6 := c1
        refine yG.load xak rfl (fun _ _ => rfl) (v := yR k0) rfl rfl ?_
        refine yG.getO A_hq.1 (w_Dispatch_best W H_k0) rfl rfl (fun r2 H_r2 O_r2 q_r2 => ?_)
        refine yG.num (c := 6) rfl (fun _ _ => rfl) (by decide) ?_
        refine yG.aaldO (r := 35) A_hq.1 (v_Big8 W H_r2) rfl rfl rfl (by omega) (by omega) (fun r3 H_r3 q_r3 => ?_)
        obtain ⟨n_r3, N_r3⟩ : ∃ n : Int, n = ((zat G r3 : Nat) : Int) := ⟨_, rfl⟩
        have L_r3 := n_Big W H_r3
        refine yG.load xak rfl (fun _ _ => rfl) (v := yR k0) rfl rfl ?_
        refine yG.load xak rfl (fun _ _ => rfl) (v := yR k0) rfl rfl ?_
        refine yG.getI A_hq.1 (w_Dispatch_rows W H_k0) rfl rfl (fun z4 e_z4 i_z4 l_z4 u_z4 => ?_)
        refine yG.num (c := 0) rfl (fun _ _ => rfl) (by decide) ?_
        refine yG.invV (rest := [yR r3]) A_hq.1 (bOb (d_Dispatch W) H_k0) rfl rfl rfl rfl (c_Dispatch_at W (d + 6) A_hq.1 H_k0 (z4) (0) (by omega) (by omega) (by omega) (by omega)) (fun rv hp9 q9 => ?_)
        obtain ⟨⟨r5, rfl, H_r5⟩, e9⟩ := q9
        rw [e9]
        obtain ⟨n_r5, N_r5⟩ : ∃ n : Int, n = ((zat G r5 : Nat) : Int) := ⟨_, rfl⟩
        have L_r5 := n_Big W H_r5
        show yG _ _ _ _ _ _ _ _ _ _ (yR r5 :: [yR r3]) _
        refine yG.invV (rest := []) A_hq.1 (bOb (d_Big W) H_r3) rfl rfl rfl rfl (c_Big_copy W (d + 5) A_hq.1 H_r3 H_r5) (fun rv h6 q9 => ?_)
        obtain ⟨⟨rfl, R_z7⟩, B_h6⟩ := q9
        have A_h6 := A_hq.tr B_h6 (by decide)
        have qq1 : zsl h6 k0 17 = yR r2 := (B_h6.sl H_k0 (by decide)).trans q_r2
        show yG _ _ _ _ _ _ _ _ _ _ [] _
        refine yG.load xak rfl (fun _ _ => rfl) (v := yR k0) rfl rfl ?_
        refine yG.getS9 A_h6.1 (w_Dispatch_best W H_k0) qq1 rfl rfl ?_
        refine yG.num (c := 7) rfl (fun _ _ => rfl) (by decide) ?_
        refine yG.aaldO (r := 35) A_h6.1 (v_Big8 W H_r2) rfl rfl rfl (by omega) (by omega) (fun r8 H_r8 q_r8 => ?_)
        obtain ⟨n_r8, N_r8⟩ : ∃ n : Int, n = ((zat G r8 : Nat) : Int) := ⟨_, rfl⟩
        have L_r8 := n_Big W H_r8
        refine yG.load xak rfl (fun _ _ => rfl) (v := yR k0) rfl rfl ?_
        refine yG.getO A_h6.1 (w_Dispatch_common W H_k0) rfl rfl (fun r9 H_r9 O_r9 q_r9 => ?_)
        obtain ⟨n_r9, N_r9⟩ : ∃ n : Int, n = ((zat G r9 : Nat) : Int) := ⟨_, rfl⟩
        have L_r9 := n_Big W H_r9
        refine yG.invV (rest := []) A_h6.1 (bOb (d_Big W) H_r8) rfl rfl rfl rfl (c_Big_copy W (d + 5) A_h6.1 H_r8 H_r9) (fun rv h10 q9 => ?_)
        obtain ⟨⟨rfl, R_z11⟩, B_h10⟩ := q9
        have A_h10 := A_h6.tr B_h10 (by decide)
        have qq2 : zsl h10 k0 17 = yR r2 := (B_h10.sl H_k0 (by decide)).trans qq1
        show yG _ _ _ _ _ _ _ _ _ _ [] _
        refine yG.ret rfl (fun _ _ => rfl) ?_
        exact (yP.void ⟨⟨rfl, trivial⟩, A_h10⟩)
      · have c1 : (a1 : Int) < 6 := c1
        refine yG.load xak rfl (fun _ _ => rfl) (v := yR k0) rfl rfl ?_
        refine yG.getO A_hq.1 (w_Dispatch_best W H_k0) rfl rfl (fun r12 H_r12 O_r12 q_r12 => ?_)
        refine yG.load xik rfl (fun _ _ => rfl) (v := yI (a1)) rfl rfl ?_
        refine yG.aaldO (r := 35) A_hq.1 (v_Big8 W H_r12) rfl rfl rfl (by omega) (by omega) (fun r13 H_r13 q_r13 => ?_)
        obtain ⟨n_r13, N_r13⟩ : ∃ n : Int, n = ((zat G r13 : Nat) : Int) := ⟨_, rfl⟩
        have L_r13 := n_Big W H_r13
        refine yG.load xak rfl (fun _ _ => rfl) (v := yR k0) rfl rfl ?_
        refine yG.load xak rfl (fun _ _ => rfl) (v := yR k0) rfl rfl ?_
        refine yG.getI A_hq.1 (w_Dispatch_rows W H_k0) rfl rfl (fun z14 e_z14 i_z14 l_z14 u_z14 => ?_)
        refine yG.num (c := 1) rfl (fun _ _ => rfl) (by decide) ?_
        refine yG.iadd rfl ?_
        refine yG.load xik rfl (fun _ _ => rfl) (v := yI (a1)) rfl rfl ?_
        refine yG.iadd rfl ?_
        refine yG.num (c := 0) rfl (fun _ _ => rfl) (by decide) ?_
        refine yG.invV (rest := [yR r13]) A_hq.1 (bOb (d_Dispatch W) H_k0) rfl rfl rfl rfl (c_Dispatch_at W (d + 6) A_hq.1 H_k0 ((z14 + 1) + a1) (0) (by omega) (by omega) (by omega) (by omega)) (fun rv hp9 q9 => ?_)
        obtain ⟨⟨r15, rfl, H_r15⟩, e9⟩ := q9
        rw [e9]
        obtain ⟨n_r15, N_r15⟩ : ∃ n : Int, n = ((zat G r15 : Nat) : Int) := ⟨_, rfl⟩
        have L_r15 := n_Big W H_r15
        show yG _ _ _ _ _ _ _ _ _ _ (yR r15 :: [yR r13]) _
        refine yG.invV (rest := []) A_hq.1 (bOb (d_Big W) H_r13) rfl rfl rfl rfl (c_Big_copy W (d + 5) A_hq.1 H_r13 H_r15) (fun rv h16 q9 => ?_)
        obtain ⟨⟨rfl, R_z17⟩, B_h16⟩ := q9
        have A_h16 := A_hq.tr B_h16 (by decide)
        have qq3 : zsl h16 k0 17 = yR r12 := (B_h16.sl H_k0 (by decide)).trans q_r12
        show yG _ _ _ _ _ _ _ _ _ _ [] _
        refine yG.iinc rfl (a := a1) rfl (L' := [(1, yI (a1 + 1)), (0, yR k0)]) rfl ?_
        refine yG.goto rfl (t := 31) rfl ?_
        exact yG.mono (yG.sub (i_31 (a1 + 1)  h16 A_h16   (by omega) (by omega) (by omega)) (ySub.cons rfl (ySub.cons rfl (ySub.nil)))) (by omega)
  refine yC.of (M := (xt_X1_solve, (2, (0, (2, []))))) rfl rfl (N := 368) (yfuel (by decide)) ?_
  show yG 89 xfts (xcall 89 xfts xpools xms (d + 7)) (xpool xp_RX1) [] xt_X1_solve (yP 0 (fun rv hp' => (rv = none ∧ True) ∧ bAx G [(34359738368, 1), (1133871366144, 2), (79228162514264338693055578112, 3), (1099511627776, 6), (1099511627776, 7), (1099511627776, 8), (79228162514264337593543950336, 10), (79228162514264337593543950336, 11), (79228162514264337593543950336, 18), (79228162514264337593543950336, 19), (40406362882274830202567806418944, 256)] hp hp')) 368 0 [(0, yR k0)] [] hp
  have i_31 := H 15
  refine yG.load xak rfl (fun _ _ => rfl) (v := yR k0) rfl rfl ?_
  refine yG.getI A_hp.1 (w_Dispatch_known W H_k0) rfl rfl (fun z1 e_z1 i_z1 l_z1 u_z1 => ?_)
  refine yG.ifz rfl (t := 8) rfl ⟨by omega, by omega⟩ (fun c2 => ?_) (fun c2 => ?_)
  · have c2 : (z1 : Int) = 0 := c2
    refine yG.load xak rfl (fun _ _ => rfl) (v := yR k0) rfl rfl ?_
    refine yG.num (c := 1) rfl (fun _ _ => rfl) (by decide) ?_
    refine yG.putI A_hp.1 (w_Dispatch_known W H_k0) (W.2.1 _ _ H_k0 (by decide) (by decide)) rfl rfl (.inr ⟨rfl, rfl, rfl⟩) ⟨by omega, by omega⟩ (by omega) (by omega) (fun h3 T_h3 b_h3 f_h3 y_h3 => ?_)
    have A_h3 := A_hp.put T_h3 b_h3 f_h3 H_k0 (by decide)
    refine yG.load xak rfl (fun _ _ => rfl) (v := yR k0) rfl rfl ?_
    refine yG.load xak rfl (fun _ _ => rfl) (v := yR k0) rfl rfl ?_
    refine yG.num (c := -1) rfl (fun _ _ => rfl) (by decide) ?_
    refine yG.invV (rest := [yR k0]) A_h3.1 (bOb (d_Dispatch W) H_k0) rfl rfl rfl rfl (c_Dispatch_trial W d A_h3.1 H_k0 ((-1)) (by omega) (by omega)) (fun rv h4 q9 => ?_)
    obtain ⟨⟨z5, rfl, l_z5, u_z5, R_z5⟩, B_h4⟩ := q9
    have A_h4 := A_h3.tr B_h4 (by decide)
    show yG _ _ _ _ _ _ _ _ _ _ (yI z5 :: [yR k0]) _
    refine yG.putI A_h4.1 (w_Dispatch_found W H_k0) (W.2.1 _ _ H_k0 (by decide) (by decide)) rfl rfl (.inr ⟨rfl, rfl, rfl⟩) ⟨by omega, by omega⟩ (by omega) (by omega) (fun h6 T_h6 b_h6 f_h6 y_h6 => ?_)
    have A_h6 := A_h4.put T_h6 b_h6 f_h6 H_k0 (by decide)
    have : ys h6 k0 19 = z5 := (y_h6 k0 19).trans (if_pos ⟨rfl, rfl⟩)
    refine yG.load xak rfl (fun _ _ => rfl) (v := yR k0) rfl rfl ?_
    refine yG.getI A_h6.1 (w_Dispatch_found W H_k0) rfl rfl (fun z7 e_z7 i_z7 l_z7 u_z7 => ?_)
    rw [show (z7 : Int) = z5 by omega]
    refine yG.ifz rfl (t := 98) rfl ⟨by omega, by omega⟩ (fun c8 => ?_) (fun c8 => ?_)
    · have c8 : (z5 : Int) = 0 := c8
      refine yG.ret rfl (fun _ _ => rfl) ?_
      exact (yP.void ⟨⟨rfl, trivial⟩, A_h6⟩)
    · have c8 : (z5 : Int) ≠ 0 := c8
      refine yG.num (c := 0) rfl (fun _ _ => rfl) (by decide) ?_
      refine yG.store1 xik (L' := [(1, yI (0)), (0, yR k0)]) rfl (fun _ _ => rfl) rfl rfl ?_
      exact yG.mono (yG.sub (i_31 (0)  h6 A_h6   (by omega) (by omega) (by omega)) (ySub.cons rfl (ySub.cons rfl (ySub.nil)))) (by omega)
  · have c2 : (z1 : Int) ≠ 0 := c2
    refine yG.ret rfl (fun _ _ => rfl) ?_
    exact (yP.void ⟨⟨rfl, trivial⟩, A_hp⟩)
theorem c_Dispatch_tellMachine {hp : xH} (W : bW G) (d : Nat) (hT : zTy G hp) {k0 : Nat} (H_k0 : bRo G 96 k0) {k2 : Nat} (H_k2 : bRo G 34 k2) (p1 : Int) (h1l : 0 ≤ p1) (h1u : p1 ≤ 6) : yC (xcall 89 xfts xpools xms (d + 3)) 95 [yR k0, yI (p1), yR k2] hp (fun rv hp' => (rv = none ∧ True) ∧ bAx G [(34359738368, 1), (34359738368, 2), (68719476736, 256)] hp hp') := by
  have A_hp : bAx G [(34359738368, 1), (34359738368, 2), (68719476736, 256)] hp hp := bAx.rf hT
  refine yC.of (M := (xt_X1_tellMachine, (3, (0, (2, []))))) rfl rfl (N := 51) (yfuel (by decide)) ?_
  show yG 89 xfts (xcall 89 xfts xpools xms (d + 2)) (xpool xp_RX1) [] xt_X1_tellMachine (yP 0 (fun rv hp' => (rv = none ∧ True) ∧ bAx G [(34359738368, 1), (34359738368, 2), (68719476736, 256)] hp hp')) 51 0 [(0, yR k0), (1, yI (p1)), (2, yR k2)] [] hp
  refine yG.load xak rfl (fun _ _ => rfl) (v := yR k2) rfl rfl ?_
  refine yG.getO A_hp.1 (w_Hand_above W H_k2) rfl rfl (fun r1 H_r1 O_r1 q_r1 => ?_)
  obtain ⟨n_r1, N_r1⟩ : ∃ n : Int, n = ((zat G r1 : Nat) : Int) := ⟨_, rfl⟩
  have L_r1 := n_Big W H_r1
  refine yG.load xak rfl (fun _ _ => rfl) (v := yR k0) rfl rfl ?_
  refine yG.getO A_hp.1 (w_Dispatch_best W H_k0) rfl rfl (fun r2 H_r2 O_r2 q_r2 => ?_)
  refine yG.load xik rfl (fun _ _ => rfl) (v := yI (p1)) rfl rfl ?_
  refine yG.aaldO (r := 35) A_hp.1 (v_Big8 W H_r2) rfl rfl rfl (by omega) (by omega) (fun r3 H_r3 q_r3 => ?_)
  obtain ⟨n_r3, N_r3⟩ : ∃ n : Int, n = ((zat G r3 : Nat) : Int) := ⟨_, rfl⟩
  have L_r3 := n_Big W H_r3
  refine yG.invV (rest := []) A_hp.1 (bOb (d_Big W) H_r1) rfl rfl rfl rfl (c_Big_copy W d A_hp.1 H_r1 H_r3) (fun rv h4 q9 => ?_)
  obtain ⟨⟨rfl, R_z5⟩, B_h4⟩ := q9
  have A_h4 := A_hp.tr B_h4 (by decide)
  have qq1 : zsl h4 k0 17 = yR r2 := (B_h4.sl H_k0 (by decide)).trans q_r2
  show yG _ _ _ _ _ _ _ _ _ _ [] _
  refine yG.load xak rfl (fun _ _ => rfl) (v := yR k2) rfl rfl ?_
  refine yG.getO A_h4.1 (w_Hand_below W H_k2) rfl rfl (fun r6 H_r6 O_r6 q_r6 => ?_)
  obtain ⟨n_r6, N_r6⟩ : ∃ n : Int, n = ((zat G r6 : Nat) : Int) := ⟨_, rfl⟩
  have L_r6 := n_Big W H_r6
  refine yG.load xak rfl (fun _ _ => rfl) (v := yR k0) rfl rfl ?_
  refine yG.getS9 A_h4.1 (w_Dispatch_best W H_k0) qq1 rfl rfl ?_
  refine yG.num (c := 7) rfl (fun _ _ => rfl) (by decide) ?_
  refine yG.aaldO (r := 35) A_h4.1 (v_Big8 W H_r2) rfl rfl rfl (by omega) (by omega) (fun r7 H_r7 q_r7 => ?_)
  obtain ⟨n_r7, N_r7⟩ : ∃ n : Int, n = ((zat G r7 : Nat) : Int) := ⟨_, rfl⟩
  have L_r7 := n_Big W H_r7
  refine yG.invV (rest := []) A_h4.1 (bOb (d_Big W) H_r6) rfl rfl rfl rfl (c_Big_copy W d A_h4.1 H_r6 H_r7) (fun rv h8 q9 => ?_)
  obtain ⟨⟨rfl, R_z9⟩, B_h8⟩ := q9
  have A_h8 := A_h4.tr B_h8 (by decide)
  have qq2 : zsl h8 k0 17 = yR r2 := (B_h8.sl H_k0 (by decide)).trans qq1
  show yG _ _ _ _ _ _ _ _ _ _ [] _
  refine yG.ret rfl (fun _ _ => rfl) ?_
  exact (yP.void ⟨⟨rfl, trivial⟩, A_h8⟩)
theorem c_Dispatch_tellCost {hp : xH} (W : bW G) (d : Nat) (hT : zTy G hp) {k0 : Nat} (H_k0 : bRo G 96 k0) {k1 : Nat} (H_k1 : bRo G 34 k1) : yC (xcall 89 xfts xpools xms (d + 4)) 94 [yR k0, yR k1] hp (fun rv hp' => (rv = none ∧ True) ∧ bAx G [(34359738368, 1), (34359738368, 2), (68719476736, 256)] hp hp') := by
  have A_hp : bAx G [(34359738368, 1), (34359738368, 2), (68719476736, 256)] hp hp := bAx.rf hT
  refine yC.of (M := (xt_X1_tellCost, (2, (0, (2, []))))) rfl rfl (N := 21) (yfuel (by decide)) ?_
  show yG 89 xfts (xcall 89 xfts xpools xms (d + 3)) (xpool xp_RX1) [] xt_X1_tellCost (yP 0 (fun rv hp' => (rv = none ∧ True) ∧ bAx G [(34359738368, 1), (34359738368, 2), (68719476736, 256)] hp hp')) 21 0 [(0, yR k0), (1, yR k1)] [] hp
  refine yG.load xak rfl (fun _ _ => rfl) (v := yR k0) rfl rfl ?_
  refine yG.num (c := 6) rfl (fun _ _ => rfl) (by decide) ?_
  refine yG.load xak rfl (fun _ _ => rfl) (v := yR k1) rfl rfl ?_
  refine yG.invV (rest := []) A_hp.1 (bOb (d_Dispatch W) H_k0) rfl rfl rfl rfl (c_Dispatch_tellMachine W d A_hp.1 H_k0 H_k1 (6) (by omega) (by omega)) (fun rv h1 q9 => ?_)
  obtain ⟨⟨rfl, R_z2⟩, B_h1⟩ := q9
  have A_h1 := A_hp.tr B_h1 (by decide)
  show yG _ _ _ _ _ _ _ _ _ _ [] _
  refine yG.ret rfl (fun _ _ => rfl) ?_
  exact (yP.void ⟨⟨rfl, trivial⟩, A_h1⟩)
theorem c_Dispatch_tellPrice {hp : xH} (W : bW G) (d : Nat) (hT : zTy G hp) {k0 : Nat} (H_k0 : bRo G 96 k0) {k1 : Nat} (H_k1 : bRo G 34 k1) : yC (xcall 89 xfts xpools xms (d + 4)) 96 [yR k0, yR k1] hp (fun rv hp' => (rv = none ∧ True) ∧ bAx G [(34359738368, 1), (34359738368, 2), (68719476736, 256)] hp hp') := by
  have A_hp : bAx G [(34359738368, 1), (34359738368, 2), (68719476736, 256)] hp hp := bAx.rf hT
  refine yC.of (M := (xt_X1_tellPrice, (2, (0, (2, []))))) rfl rfl (N := 126) (yfuel (by decide)) ?_
  show yG 89 xfts (xcall 89 xfts xpools xms (d + 3)) (xpool xp_RX1) [] xt_X1_tellPrice (yP 0 (fun rv hp' => (rv = none ∧ True) ∧ bAx G [(34359738368, 1), (34359738368, 2), (68719476736, 256)] hp hp')) 126 0 [(0, yR k0), (1, yR k1)] [] hp
  refine yG.load xak rfl (fun _ _ => rfl) (v := yR k1) rfl rfl ?_
  refine yG.getO A_hp.1 (w_Hand_above W H_k1) rfl rfl (fun r1 H_r1 O_r1 q_r1 => ?_)
  obtain ⟨n_r1, N_r1⟩ : ∃ n : Int, n = ((zat G r1 : Nat) : Int) := ⟨_, rfl⟩
  have L_r1 := n_Big W H_r1
  refine yG.load xak rfl (fun _ _ => rfl) (v := yR k0) rfl rfl ?_
  refine yG.load xak rfl (fun _ _ => rfl) (v := yR k0) rfl rfl ?_
  refine yG.getI A_hp.1 (w_Dispatch_rows W H_k0) rfl rfl (fun z2 e_z2 i_z2 l_z2 u_z2 => ?_)
  refine yG.num (c := 0) rfl (fun _ _ => rfl) (by decide) ?_
  refine yG.invV (rest := [yR r1]) A_hp.1 (bOb (d_Dispatch W) H_k0) rfl rfl rfl rfl (c_Dispatch_at W (d + 2) A_hp.1 H_k0 (z2) (0) (by omega) (by omega) (by omega) (by omega)) (fun rv hp9 q9 => ?_)
  obtain ⟨⟨r3, rfl, H_r3⟩, e9⟩ := q9
  rw [e9]
  obtain ⟨n_r3, N_r3⟩ : ∃ n : Int, n = ((zat G r3 : Nat) : Int) := ⟨_, rfl⟩
  have L_r3 := n_Big W H_r3
  show yG _ _ _ _ _ _ _ _ _ _ (yR r3 :: [yR r1]) _
  refine yG.load xak rfl (fun _ _ => rfl) (v := yR k0) rfl rfl ?_
  refine yG.getO A_hp.1 (w_Dispatch_best W H_k0) rfl rfl (fun r4 H_r4 O_r4 q_r4 => ?_)
  refine yG.num (c := 7) rfl (fun _ _ => rfl) (by decide) ?_
  refine yG.aaldO (r := 35) A_hp.1 (v_Big8 W H_r4) rfl rfl rfl (by omega) (by omega) (fun r5 H_r5 q_r5 => ?_)
  obtain ⟨n_r5, N_r5⟩ : ∃ n : Int, n = ((zat G r5 : Nat) : Int) := ⟨_, rfl⟩
  have L_r5 := n_Big W H_r5
  refine yG.invV (rest := []) A_hp.1 (bOb (d_Big W) H_r1) rfl rfl rfl rfl (c_Big_product W (d + 1) A_hp.1 H_r1 H_r3 H_r5) (fun rv h6 q9 => ?_)
  obtain ⟨⟨rfl, R_z7⟩, B_h6⟩ := q9
  have A_h6 := A_hp.tr B_h6 (by decide)
  have qq1 : zsl h6 k1 0 = yR r1 := (B_h6.sl H_k1 (by decide)).trans q_r1
  have qq2 : zsl h6 k0 17 = yR r4 := (B_h6.sl H_k0 (by decide)).trans q_r4
  have qq3 : zsl h6 r4 (7 : Int).toNat = yR r5 := (B_h6.sl H_r4 (bNo_ok (by decide) _)).trans q_r5
  show yG _ _ _ _ _ _ _ _ _ _ [] _
  refine yG.load xak rfl (fun _ _ => rfl) (v := yR k0) rfl rfl ?_
  refine yG.getO A_h6.1 (w_Dispatch_help W H_k0) rfl rfl (fun r8 H_r8 O_r8 q_r8 => ?_)
  refine yG.num (c := 0) rfl (fun _ _ => rfl) (by decide) ?_
  refine yG.aaldO (r := 35) A_h6.1 (v_Big4 W H_r8) rfl rfl rfl (by omega) (by omega) (fun r9 H_r9 q_r9 => ?_)
  obtain ⟨n_r9, N_r9⟩ : ∃ n : Int, n = ((zat G r9 : Nat) : Int) := ⟨_, rfl⟩
  have L_r9 := n_Big W H_r9
  refine yG.load xak rfl (fun _ _ => rfl) (v := yR k0) rfl rfl ?_
  refine yG.getS9 A_h6.1 (w_Dispatch_best W H_k0) qq2 rfl rfl ?_
  refine yG.num (c := 6) rfl (fun _ _ => rfl) (by decide) ?_
  refine yG.aaldO (r := 35) A_h6.1 (v_Big8 W H_r4) rfl rfl rfl (by omega) (by omega) (fun r10 H_r10 q_r10 => ?_)
  obtain ⟨n_r10, N_r10⟩ : ∃ n : Int, n = ((zat G r10 : Nat) : Int) := ⟨_, rfl⟩
  have L_r10 := n_Big W H_r10
  refine yG.load xak rfl (fun _ _ => rfl) (v := yR k0) rfl rfl ?_
  refine yG.getO A_h6.1 (w_Dispatch_common W H_k0) rfl rfl (fun r11 H_r11 O_r11 q_r11 => ?_)
  obtain ⟨n_r11, N_r11⟩ : ∃ n : Int, n = ((zat G r11 : Nat) : Int) := ⟨_, rfl⟩
  have L_r11 := n_Big W H_r11
  refine yG.invV (rest := []) A_h6.1 (bOb (d_Big W) H_r9) rfl rfl rfl rfl (c_Big_product W (d + 1) A_h6.1 H_r9 H_r10 H_r11) (fun rv h12 q9 => ?_)
  obtain ⟨⟨rfl, R_z13⟩, B_h12⟩ := q9
  have A_h12 := A_h6.tr B_h12 (by decide)
  have qq4 : zsl h12 k1 0 = yR r1 := (B_h12.sl H_k1 (by decide)).trans qq1
  have qq5 : zsl h12 k0 17 = yR r4 := (B_h12.sl H_k0 (by decide)).trans qq2
  have qq6 : zsl h12 r4 (7 : Int).toNat = yR r5 := (B_h12.sl H_r4 (bNo_ok (by decide) _)).trans qq3
  have qq7 : zsl h12 k0 16 = yR r8 := (B_h12.sl H_k0 (by decide)).trans q_r8
  have qq8 : zsl h12 r8 (0 : Int).toNat = yR r9 := (B_h12.sl H_r8 (bNo_ok (by decide) _)).trans q_r9
  have qq9 : zsl h12 k0 15 = yR r11 := (B_h12.sl H_k0 (by decide)).trans q_r11
  show yG _ _ _ _ _ _ _ _ _ _ [] _
  refine yG.load xak rfl (fun _ _ => rfl) (v := yR k1) rfl rfl ?_
  refine yG.getS9 A_h12.1 (w_Hand_above W H_k1) qq4 rfl rfl ?_
  refine yG.load xak rfl (fun _ _ => rfl) (v := yR k0) rfl rfl ?_
  refine yG.getS9 A_h12.1 (w_Dispatch_help W H_k0) qq7 rfl rfl ?_
  refine yG.num (c := 0) rfl (fun _ _ => rfl) (by decide) ?_
  refine yG.aaldO (r := 35) A_h12.1 (v_Big4 W H_r8) rfl rfl rfl (by omega) (by omega) (fun r14 H_r14 q_r14 => ?_)
  obtain ⟨n_r14, N_r14⟩ : ∃ n : Int, n = ((zat G r14 : Nat) : Int) := ⟨_, rfl⟩
  have L_r14 := n_Big W H_r14
  have s_r14 : r14 = r9 := by have e9 := q_r14.symm.trans qq8; cases e9; rfl
  rw [s_r14]
  refine yG.invV (rest := []) A_h12.1 (bOb (d_Big W) H_r1) rfl rfl rfl rfl (c_Big_less W d A_h12.1 H_r1 H_r9) (fun rv h15 q9 => ?_)
  obtain ⟨⟨rfl, R_z16⟩, B_h15⟩ := q9
  have A_h15 := A_h12.tr B_h15 (by decide)
  have qq10 : zsl h15 k1 0 = yR r1 := (B_h15.sl H_k1 (by decide)).trans qq4
  have qq11 : zsl h15 k0 17 = yR r4 := (B_h15.sl H_k0 (by decide)).trans qq5
  have qq12 : zsl h15 r4 (7 : Int).toNat = yR r5 := (B_h15.sl H_r4 (bNo_ok (by decide) _)).trans qq6
  have qq13 : zsl h15 k0 16 = yR r8 := (B_h15.sl H_k0 (by decide)).trans qq7
  have qq14 : zsl h15 r8 (0 : Int).toNat = yR r9 := (B_h15.sl H_r8 (bNo_ok (by decide) _)).trans qq8
  have qq15 : zsl h15 k0 15 = yR r11 := (B_h15.sl H_k0 (by decide)).trans qq9
  show yG _ _ _ _ _ _ _ _ _ _ [] _
  refine yG.load xak rfl (fun _ _ => rfl) (v := yR k1) rfl rfl ?_
  refine yG.getO A_h15.1 (w_Hand_below W H_k1) rfl rfl (fun r17 H_r17 O_r17 q_r17 => ?_)
  obtain ⟨n_r17, N_r17⟩ : ∃ n : Int, n = ((zat G r17 : Nat) : Int) := ⟨_, rfl⟩
  have L_r17 := n_Big W H_r17
  refine yG.load xak rfl (fun _ _ => rfl) (v := yR k0) rfl rfl ?_
  refine yG.getS9 A_h15.1 (w_Dispatch_common W H_k0) qq15 rfl rfl ?_
  refine yG.load xak rfl (fun _ _ => rfl) (v := yR k0) rfl rfl ?_
  refine yG.getS9 A_h15.1 (w_Dispatch_best W H_k0) qq11 rfl rfl ?_
  refine yG.num (c := 7) rfl (fun _ _ => rfl) (by decide) ?_
  refine yG.aaldO (r := 35) A_h15.1 (v_Big8 W H_r4) rfl rfl rfl (by omega) (by omega) (fun r18 H_r18 q_r18 => ?_)
  obtain ⟨n_r18, N_r18⟩ : ∃ n : Int, n = ((zat G r18 : Nat) : Int) := ⟨_, rfl⟩
  have L_r18 := n_Big W H_r18
  have s_r18 : r18 = r5 := by have e9 := q_r18.symm.trans qq12; cases e9; rfl
  rw [s_r18]
  refine yG.invV (rest := []) A_h15.1 (bOb (d_Big W) H_r17) rfl rfl rfl rfl (c_Big_product W (d + 1) A_h15.1 H_r17 H_r11 H_r5) (fun rv h19 q9 => ?_)
  obtain ⟨⟨rfl, R_z20⟩, B_h19⟩ := q9
  have A_h19 := A_h15.tr B_h19 (by decide)
  have qq16 : zsl h19 k1 0 = yR r1 := (B_h19.sl H_k1 (by decide)).trans qq10
  have qq17 : zsl h19 k0 17 = yR r4 := (B_h19.sl H_k0 (by decide)).trans qq11
  have qq18 : zsl h19 r4 (7 : Int).toNat = yR r5 := (B_h19.sl H_r4 (bNo_ok (by decide) _)).trans qq12
  have qq19 : zsl h19 k0 16 = yR r8 := (B_h19.sl H_k0 (by decide)).trans qq13
  have qq20 : zsl h19 r8 (0 : Int).toNat = yR r9 := (B_h19.sl H_r8 (bNo_ok (by decide) _)).trans qq14
  have qq21 : zsl h19 k0 15 = yR r11 := (B_h19.sl H_k0 (by decide)).trans qq15
  show yG _ _ _ _ _ _ _ _ _ _ [] _
  refine yG.ret rfl (fun _ _ => rfl) ?_
  exact (yP.void ⟨⟨rfl, trivial⟩, A_h19⟩)
end BDispatch
