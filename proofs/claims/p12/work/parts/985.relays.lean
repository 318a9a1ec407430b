/-! ===== the class: relays, printed by a program ===== -/
section BRelays
variable {G : zW}
theorem c_Relays_clear {hp : xH} (W : bW G) (d : Nat) (hT : zTy G hp) {k0 : Nat} (H_k0 : bRo G 81 k0) : yC (xcall 89 xfts xpools xms (d + 1)) 172 [yR k0] hp (fun rv hp' => (rv = none ∧ True) ∧ bAx G [(2417851639229258349412352, 7), (2417851639229258349412352, 9), (2417851639229258349412352, 10), (618970019642690137449562112, 256)] hp hp') := by
  have A_hp : bAx G [(2417851639229258349412352, 7), (2417851639229258349412352, 9), (2417851639229258349412352, 10), (618970019642690137449562112, 256)] hp hp := bAx.rf hT
  have H : ∀ m : Nat, (∀ a1 : Int, ∀ hq, bAx G [(2417851639229258349412352, 7), (2417851639229258349412352, 9), (2417851639229258349412352, 10), (618970019642690137449562112, 256)] hp hq → 0 ≤ a1 → (-24) ≤ 0 - a1 → 0 - 2 * a1 + 49 < (m : Int) → yG 89 xfts (xcall 89 xfts xpools xms d) (xpool xp_RX6) [] xt_X6_clear (yP 0 (fun rv hp' => (rv = none ∧ True) ∧ bAx G [(2417851639229258349412352, 7), (2417851639229258349412352, 9), (2417851639229258349412352, 10), (618970019642690137449562112, 256)] hp hp')) (13 * m) 18 [(0, yR k0), (1, yI (a1))] [] hq) := by
    intro m
    induction m with
    | zero =>
      intros; exfalso; omega
    | succ m ih =>
      have i_18 := ih
      clear ih
      intro a1 hq A_hq f0 f1 hm
      refine yG.mono (N := 13 * m + 13) ?_ (by omega)
      refine yG.load xik rfl (fun _ _ => rfl) (v := yI (a1)) rfl rfl ?_
      refine yG.num (c := 24) rfl (fun _ _ => rfl) (by decide) ?_
      refine yG.icmp rfl (t := 37) rfl ⟨by omega, by omega⟩ ⟨by omega, by omega⟩ (fun c1 => ?_) (fun c1 => ?_)
      · have c1 : (a1 : Int) ≥ 24 := c1
        refine yG.ret rfl (fun _ _ => rfl) ?_
        exact (yP.void ⟨⟨rfl, trivial⟩, A_hq⟩)
      · have c1 : (a1 : Int) < 24 := c1
        refine yG.load xak rfl (fun _ _ => rfl) (v := yR k0) rfl rfl ?_
        refine yG.getO A_hq.1 (w_Relays_failing W H_k0) rfl rfl (fun r2 H_r2 O_r2 q_r2 => ?_)
        refine yG.load xik rfl (fun _ _ => rfl) (v := yI (a1)) rfl rfl ?_
        refine yG.num (c := 0) rfl (fun _ _ => rfl) (by decide) ?_
        refine yG.bast A_hq.1 (v_Relays_failing W H_r2) (W.2.1 _ _ H_r2 (by decide) (by decide)) rfl (by omega) (by omega) ⟨by omega, by omega⟩ (by omega) (by omega) (fun h3 T_h3 b_h3 f_h3 y_h3 => ?_)
        have A_h3 := A_hq.put T_h3 b_h3 f_h3 H_r2 (bAll_ok (by decide) _)
        refine yG.iinc rfl (a := a1) rfl (L' := [(1, yI (a1 + 1)), (0, yR k0)]) rfl ?_
        refine yG.goto rfl (t := 18) rfl ?_
        exact yG.mono (yG.sub (i_18 (a1 + 1)  h3 A_h3   (by omega) (by omega) (by omega)) (ySub.cons rfl (ySub.cons rfl (ySub.nil)))) (by omega)
  refine yC.of (M := (xt_X6_clear, (2, (0, (7, []))))) rfl rfl (N := 676) (yfuel (by decide)) ?_
  show yG 89 xfts (xcall 89 xfts xpools xms d) (xpool xp_RX6) [] xt_X6_clear (yP 0 (fun rv hp' => (rv = none ∧ True) ∧ bAx G [(2417851639229258349412352, 7), (2417851639229258349412352, 9), (2417851639229258349412352, 10), (618970019642690137449562112, 256)] hp hp')) 676 0 [(0, yR k0)] [] hp
  have i_18 := H 51
  refine yG.load xak rfl (fun _ _ => rfl) (v := yR k0) rfl rfl ?_
  refine yG.num (c := 0) rfl (fun _ _ => rfl) (by decide) ?_
  refine yG.putI A_hp.1 (w_Relays_count W H_k0) (W.2.1 _ _ H_k0 (by decide) (by decide)) rfl rfl (.inl rfl) ⟨by omega, by omega⟩ (by omega) (by omega) (fun h1 T_h1 b_h1 f_h1 y_h1 => ?_)
  have A_h1 := A_hp.put T_h1 b_h1 f_h1 H_k0 (by decide)
  refine yG.load xak rfl (fun _ _ => rfl) (v := yR k0) rfl rfl ?_
  refine yG.num (c := 100000) rfl (fun _ _ => rfl) (by decide) ?_
  refine yG.putI A_h1.1 (w_Relays_later W H_k0) (W.2.1 _ _ H_k0 (by decide) (by decide)) rfl rfl (.inl rfl) ⟨by omega, by omega⟩ (by omega) (by omega) (fun h2 T_h2 b_h2 f_h2 y_h2 => ?_)
  have A_h2 := A_h1.put T_h2 b_h2 f_h2 H_k0 (by decide)
  refine yG.load xak rfl (fun _ _ => rfl) (v := yR k0) rfl rfl ?_
  refine yG.num (c := 0) rfl (fun _ _ => rfl) (by decide) ?_
  refine yG.putI A_h2.1 (w_Relays_running W H_k0) (W.2.1 _ _ H_k0 (by decide) (by decide)) rfl rfl (.inr ⟨rfl, rfl, rfl⟩) ⟨by omega, by omega⟩ (by omega) (by omega) (fun h3 T_h3 b_h3 f_h3 y_h3 => ?_)
  have A_h3 := A_h2.put T_h3 b_h3 f_h3 H_k0 (by decide)
  refine yG.num (c := 0) rfl (fun _ _ => rfl) (by decide) ?_
  refine yG.store1 xik (L' := [(1, yI (0)), (0, yR k0)]) rfl (fun _ _ => rfl) rfl rfl ?_
  exact yG.mono (yG.sub (i_18 (0)  h3 A_h3   (by omega) (by omega) (by omega)) (ySub.cons rfl (ySub.cons rfl (ySub.nil)))) (by omega)
theorem c_Relays_told {hp : xH} (W : bW G) (d : Nat) (hT : zTy G hp) {k0 : Nat} (H_k0 : bRo G 81 k0) (p1 p2 p3 p4 : Int) (h1l : 0 ≤ p1) (h1u : p1 ≤ 19) (h2l : 0 ≤ p2) (h2u : p2 ≤ 1) (h3l : 0 ≤ p3) (h3u : p3 ≤ 23) (h4l : 0 ≤ p4) (h4u : p4 ≤ 1) : yC (xcall 89 xfts xpools xms (d + 1)) 184 [yR k0, yI (p1), yI (p2), yI (p3), yI (p4)] hp (bQi G [(2417851639229258349412352, 7), (149906801632214017663565824, 256)] hp 0 16 (fun _ => True)) := by
  have A_hp : bAx G [(2417851639229258349412352, 7), (149906801632214017663565824, 256)] hp hp := bAx.rf hT
  refine yC.of (M := (xt_X6_told, (6, (1, (7, []))))) rfl rfl (N := 135) (yfuel (by decide)) ?_
  show yG 89 xfts (xcall 89 xfts xpools xms d) (xpool xp_RX6) [] xt_X6_told (yP 1 (bQi G [(2417851639229258349412352, 7), (149906801632214017663565824, 256)] hp 0 16 (fun _ => True))) 135 0 [(0, yR k0), (1, yI (p1)), (2, yI (p2)), (3, yI (p3)), (4, yI (p4))] [] hp
  refine yG.load xak rfl (fun _ _ => rfl) (v := yR k0) rfl rfl ?_
  refine yG.getI A_hp.1 (w_Relays_count W H_k0) rfl rfl (fun z1 e_z1 i_z1 l_z1 u_z1 => ?_)
  refine yG.store1 xik (L' := [(5, yI (z1)), (0, yR k0), (1, yI (p1)), (2, yI (p2)), (3, yI (p3)), (4, yI (p4))]) rfl (fun _ _ => rfl) rfl rfl ?_
  refine yG.load xik rfl (fun _ _ => rfl) (v := yI (z1)) rfl rfl ?_
  refine yG.num (c := 16) rfl (fun _ _ => rfl) (by decide) ?_
  refine yG.icmp rfl (t := 73) rfl ⟨by omega, by omega⟩ ⟨by omega, by omega⟩ (fun c2 => ?_) (fun c2 => ?_)
  · have c2 : (z1 : Int) ≥ 16 := c2
    refine yG.load xik rfl (fun _ _ => rfl) (v := yI (z1)) rfl rfl ?_
    refine yG.ret rfl (fun _ _ => rfl) ?_
    exact (yP.int ⟨by omega, by omega⟩ ⟨⟨z1, rfl, by omega, by omega, trivial⟩, A_hp⟩)
  · have c2 : (z1 : Int) < 16 := c2
    refine yG.load xak rfl (fun _ _ => rfl) (v := yR k0) rfl rfl ?_
    refine yG.getO A_hp.1 (w_Relays_line W H_k0) rfl rfl (fun r3 H_r3 O_r3 q_r3 => ?_)
    refine yG.load xik rfl (fun _ _ => rfl) (v := yI (z1)) rfl rfl ?_
    refine yG.load xik rfl (fun _ _ => rfl) (v := yI (p1)) rfl rfl ?_
    refine yG.iast A_hp.1 (v_Relays_line W H_r3) (W.2.1 _ _ H_r3 (by decide) (by decide)) rfl (by omega) (by omega) ⟨by omega, by omega⟩ (by omega) (by omega) (fun h4 T_h4 b_h4 f_h4 y_h4 => ?_)
    have A_h4 := A_hp.put T_h4 b_h4 f_h4 H_r3 (bAll_ok (by decide) _)
    have : ys h4 k0 7 = ys hp k0 7 := (y_h4 k0 7).trans (if_neg (fun e => (bRo.ne H_k0 H_r3 (by decide)) e.1))
    refine yG.load xak rfl (fun _ _ => rfl) (v := yR k0) rfl rfl ?_
    refine yG.getO A_h4.1 (w_Relays_end W H_k0) rfl rfl (fun r5 H_r5 O_r5 q_r5 => ?_)
    refine yG.load xik rfl (fun _ _ => rfl) (v := yI (z1)) rfl rfl ?_
    refine yG.load xik rfl (fun _ _ => rfl) (v := yI (p2)) rfl rfl ?_
    refine yG.iast A_h4.1 (v_Relays_end W H_r5) (W.2.1 _ _ H_r5 (by decide) (by decide)) rfl (by omega) (by omega) ⟨by omega, by omega⟩ (by omega) (by omega) (fun h6 T_h6 b_h6 f_h6 y_h6 => ?_)
    have A_h6 := A_h4.put T_h6 b_h6 f_h6 H_r5 (bAll_ok (by decide) _)
    have : ys h6 k0 7 = ys h4 k0 7 := (y_h6 k0 7).trans (if_neg (fun e => (bRo.ne H_k0 H_r5 (by decide)) e.1))
    refine yG.load xak rfl (fun _ _ => rfl) (v := yR k0) rfl rfl ?_
    refine yG.getO A_h6.1 (w_Relays_opens W H_k0) rfl rfl (fun r7 H_r7 O_r7 q_r7 => ?_)
    refine yG.load xik rfl (fun _ _ => rfl) (v := yI (z1)) rfl rfl ?_
    refine yG.load xik rfl (fun _ _ => rfl) (v := yI (p3)) rfl rfl ?_
    refine yG.iast A_h6.1 (v_Relays_opens W H_r7) (W.2.1 _ _ H_r7 (by decide) (by decide)) rfl (by omega) (by omega) ⟨by omega, by omega⟩ (by omega) (by omega) (fun h8 T_h8 b_h8 f_h8 y_h8 => ?_)
    have A_h8 := A_h6.put T_h8 b_h8 f_h8 H_r7 (bAll_ok (by decide) _)
    have : ys h8 k0 7 = ys h6 k0 7 := (y_h8 k0 7).trans (if_neg (fun e => (bRo.ne H_k0 H_r7 (by decide)) e.1))
    refine yG.load xak rfl (fun _ _ => rfl) (v := yR k0) rfl rfl ?_
    refine yG.getO A_h8.1 (w_Relays_impedance W H_k0) rfl rfl (fun r9 H_r9 O_r9 q_r9 => ?_)
    refine yG.load xik rfl (fun _ _ => rfl) (v := yI (z1)) rfl rfl ?_
    refine yG.load xik rfl (fun _ _ => rfl) (v := yI (p4)) rfl rfl ?_
    refine yG.num (c := 1) rfl (fun _ _ => rfl) (by decide) ?_
    refine yG.icmp rfl (t := 53) rfl ⟨by omega, by omega⟩ ⟨by omega, by omega⟩ (fun c10 => ?_) (fun c10 => ?_)
    · have c10 : (p4 : Int) ≠ 1 := c10
      refine yG.num (c := 0) rfl (fun _ _ => rfl) (by decide) ?_
      refine yG.bast A_h8.1 (v_Relays_impedance W H_r9) (W.2.1 _ _ H_r9 (by decide) (by decide)) rfl (by omega) (by omega) ⟨by omega, by omega⟩ (by omega) (by omega) (fun h11 T_h11 b_h11 f_h11 y_h11 => ?_)
      have A_h11 := A_h8.put T_h11 b_h11 f_h11 H_r9 (bAll_ok (by decide) _)
      have : ys h11 k0 7 = ys h8 k0 7 := (y_h11 k0 7).trans (if_neg (fun e => (bRo.ne H_k0 H_r9 (by decide)) e.1))
      refine yG.load xak rfl (fun _ _ => rfl) (v := yR k0) rfl rfl ?_
      refine yG.getO A_h11.1 (w_Relays_rowCount W H_k0) rfl rfl (fun r12 H_r12 O_r12 q_r12 => ?_)
      refine yG.load xik rfl (fun _ _ => rfl) (v := yI (z1)) rfl rfl ?_
      refine yG.num (c := 0) rfl (fun _ _ => rfl) (by decide) ?_
      refine yG.iast A_h11.1 (v_Relays_rowCount W H_r12) (W.2.1 _ _ H_r12 (by decide) (by decide)) rfl (by omega) (by omega) ⟨by omega, by omega⟩ (by omega) (by omega) (fun h13 T_h13 b_h13 f_h13 y_h13 => ?_)
      have A_h13 := A_h11.put T_h13 b_h13 f_h13 H_r12 (bAll_ok (by decide) _)
      have : ys h13 k0 7 = ys h11 k0 7 := (y_h13 k0 7).trans (if_neg (fun e => (bRo.ne H_k0 H_r12 (by decide)) e.1))
      refine yG.load xak rfl (fun _ _ => rfl) (v := yR k0) rfl rfl ?_
      refine yG.step (pc' := 65) (stk' := [yR k0, yR k0]) rfl (fun _ _ => rfl) ?_
      refine yG.getI A_h13.1 (w_Relays_count W H_k0) rfl rfl (fun z14 e_z14 i_z14 l_z14 u_z14 => ?_)
      refine yG.num (c := 1) rfl (fun _ _ => rfl) (by decide) ?_
      refine yG.iadd rfl ?_
      refine yG.putI A_h13.1 (w_Relays_count W H_k0) (W.2.1 _ _ H_k0 (by decide) (by decide)) rfl rfl (.inl rfl) ⟨by omega, by omega⟩ (by omega) (by omega) (fun h15 T_h15 b_h15 f_h15 y_h15 => ?_)
      have A_h15 := A_h13.put T_h15 b_h15 f_h15 H_k0 (by decide)
      have : ys h15 k0 7 = z14 + 1 := (y_h15 k0 7).trans (if_pos ⟨rfl, rfl⟩)
      refine yG.load xik rfl (fun _ _ => rfl) (v := yI (z1)) rfl rfl ?_
      refine yG.ret rfl (fun _ _ => rfl) ?_
      exact (yP.int ⟨by omega, by omega⟩ ⟨⟨z1, rfl, by omega, by omega, trivial⟩, A_h15⟩)
    · have c10 : (p4 : Int) = 1 := c10
      refine yG.num (c := 1) rfl (fun _ _ => rfl) (by decide) ?_
      refine yG.goto rfl (t := 54) rfl ?_
      refine yG.bast A_h8.1 (v_Relays_impedance W H_r9) (W.2.1 _ _ H_r9 (by decide) (by decide)) rfl (by omega) (by omega) ⟨by omega, by omega⟩ (by omega) (by omega) (fun h16 T_h16 b_h16 f_h16 y_h16 => ?_)
      have A_h16 := A_h8.put T_h16 b_h16 f_h16 H_r9 (bAll_ok (by decide) _)
      have : ys h16 k0 7 = ys h8 k0 7 := (y_h16 k0 7).trans (if_neg (fun e => (bRo.ne H_k0 H_r9 (by decide)) e.1))
      refine yG.load xak rfl (fun _ _ => rfl) (v := yR k0) rfl rfl ?_
      refine yG.getO A_h16.1 (w_Relays_rowCount W H_k0) rfl rfl (fun r17 H_r17 O_r17 q_r17 => ?_)
      refine yG.load xik rfl (fun _ _ => rfl) (v := yI (z1)) rfl rfl ?_
      refine yG.num (c := 0) rfl (fun _ _ => rfl) (by decide) ?_
      refine yG.iast A_h16.1 (v_Relays_rowCount W H_r17) (W.2.1 _ _ H_r17 (by decide) (by decide)) rfl (by omega) (by omega) ⟨by omega, by omega⟩ (by omega) (by omega) (fun h18 T_h18 b_h18 f_h18 y_h18 => ?_)
      have A_h18 := A_h16.put T_h18 b_h18 f_h18 H_r17 (bAll_ok (by decide) _)
      have : ys h18 k0 7 = ys h16 k0 7 := (y_h18 k0 7).trans (if_neg (fun e => (bRo.ne H_k0 H_r17 (by decide)) e.1))
      refine yG.load xak rfl (fun _ _ => rfl) (v := yR k0) rfl rfl ?_
      refine yG.step (pc' := 65) (stk' := [yR k0, yR k0]) rfl (fun _ _ => rfl) ?_
      refine yG.getI A_h18.1 (w_Relays_count W H_k0) rfl rfl (fun z19 e_z19 i_z19 l_z19 u_z19 => ?_)
      refine yG.num (c := 1) rfl (fun _ _ => rfl) (by decide) ?_
      refine yG.iadd rfl ?_
      refine yG.putI A_h18.1 (w_Relays_count W H_k0) (W.2.1 _ _ H_k0 (by decide) (by decide)) rfl rfl (.inl rfl) ⟨by omega, by omega⟩ (by omega) (by omega) (fun h20 T_h20 b_h20 f_h20 y_h20 => ?_)
      have A_h20 := A_h18.put T_h20 b_h20 f_h20 H_k0 (by decide)
      have : ys h20 k0 7 = z19 + 1 := (y_h20 k0 7).trans (if_pos ⟨rfl, rfl⟩)
      refine yG.load xik rfl (fun _ _ => rfl) (v := yI (z1)) rfl rfl ?_
      refine yG.ret rfl (fun _ _ => rfl) ?_
      exact (yP.int ⟨by omega, by omega⟩ ⟨⟨z1, rfl, by omega, by omega, trivial⟩, A_h20⟩)
theorem c_Relays_rowTold {hp : xH} (W : bW G) (d : Nat) (hT : zTy G hp) {k0 : Nat} (H_k0 : bRo G 81 k0) (p1 p2 p3 : Int) (h1l : 0 ≤ p1) (h1u : p1 ≤ 15) (h2l : (-2147483648) ≤ p2) (h2u : p2 ≤ 2147483647) (h3l : (-2147483648) ≤ p3) (h3u : p3 ≤ 2147483647) : yC (xcall 89 xfts xpools xms (d + 1)) 182 [yR k0, yI (p1), yI (p2), yI (p3)] hp (bQi G [(541598767187353870268366848, 256)] hp 0 4 (fun _ => True)) := by
  have A_hp : bAx G [(541598767187353870268366848, 256)] hp hp := bAx.rf hT
  refine yC.of (M := (xt_X6_rowTold, (5, (1, (7, []))))) rfl rfl (N := 114) (yfuel (by decide)) ?_
  show yG 89 xfts (xcall 89 xfts xpools xms d) (xpool xp_RX6) [] xt_X6_rowTold (yP 1 (bQi G [(541598767187353870268366848, 256)] hp 0 4 (fun _ => True))) 114 0 [(0, yR k0), (1, yI (p1)), (2, yI (p2)), (3, yI (p3))] [] hp
  refine yG.load xak rfl (fun _ _ => rfl) (v := yR k0) rfl rfl ?_
  refine yG.getO A_hp.1 (w_Relays_rowCount W H_k0) rfl rfl (fun r1 H_r1 O_r1 q_r1 => ?_)
  refine yG.load xik rfl (fun _ _ => rfl) (v := yI (p1)) rfl rfl ?_
  refine yG.iald A_hp.1 (v_Relays_rowCount W H_r1) rfl (by omega) (by omega) (fun z2 e_z2 i_z2 l_z2 u_z2 => ?_)
  refine yG.store1 xik (L' := [(4, yI (z2)), (0, yR k0), (1, yI (p1)), (2, yI (p2)), (3, yI (p3))]) rfl (fun _ _ => rfl) rfl rfl ?_
  refine yG.load xik rfl (fun _ _ => rfl) (v := yI (z2)) rfl rfl ?_
  refine yG.num (c := 4) rfl (fun _ _ => rfl) (by decide) ?_
  refine yG.icmp rfl (t := 48) rfl ⟨by omega, by omega⟩ ⟨by omega, by omega⟩ (fun c3 => ?_) (fun c3 => ?_)
  · have c3 : (z2 : Int) ≥ 4 := c3
    refine yG.load xik rfl (fun _ _ => rfl) (v := yI (z2)) rfl rfl ?_
    refine yG.ret rfl (fun _ _ => rfl) ?_
    exact (yP.int ⟨by omega, by omega⟩ ⟨⟨z2, rfl, by omega, by omega, trivial⟩, A_hp⟩)
  · have c3 : (z2 : Int) < 4 := c3
    refine yG.load xak rfl (fun _ _ => rfl) (v := yR k0) rfl rfl ?_
    refine yG.getO A_hp.1 (w_Relays_setting W H_k0) rfl rfl (fun r4 H_r4 O_r4 q_r4 => ?_)
    refine yG.load xik rfl (fun _ _ => rfl) (v := yI (p1)) rfl rfl ?_
    refine yG.num (c := 4) rfl (fun _ _ => rfl) (by decide) ?_
    refine yG.imul rfl ?_
    refine yG.load xik rfl (fun _ _ => rfl) (v := yI (z2)) rfl rfl ?_
    refine yG.iadd rfl ?_
    refine yG.load xik rfl (fun _ _ => rfl) (v := yI (p2)) rfl rfl ?_
    refine yG.iast A_hp.1 (v_Relays_setting W H_r4) (W.2.1 _ _ H_r4 (by decide) (by decide)) rfl (by omega) (by omega) ⟨by omega, by omega⟩ (by omega) (by omega) (fun h5 T_h5 b_h5 f_h5 y_h5 => ?_)
    have A_h5 := A_hp.put T_h5 b_h5 f_h5 H_r4 (bAll_ok (by decide) _)
    have qq1 : zsl h5 k0 4 = yR r1 := ((f_h5 k0 4).trans (if_neg (fun e => (bRo.ne H_k0 H_r4 (by decide)) e.1))).trans q_r1
    have : ys h5 r1 (p1 : Int).toNat = ys hp r1 (p1 : Int).toNat := (y_h5 r1 (p1 : Int).toNat).trans (if_neg (fun e => (bRo.ne H_r1 H_r4 (by decide)) e.1))
    refine yG.load xak rfl (fun _ _ => rfl) (v := yR k0) rfl rfl ?_
    refine yG.getO A_h5.1 (w_Relays_delay W H_k0) rfl rfl (fun r6 H_r6 O_r6 q_r6 => ?_)
    refine yG.load xik rfl (fun _ _ => rfl) (v := yI (p1)) rfl rfl ?_
    refine yG.num (c := 4) rfl (fun _ _ => rfl) (by decide) ?_
    refine yG.imul rfl ?_
    refine yG.load xik rfl (fun _ _ => rfl) (v := yI (z2)) rfl rfl ?_
    refine yG.iadd rfl ?_
    refine yG.load xik rfl (fun _ _ => rfl) (v := yI (p3)) rfl rfl ?_
    refine yG.iast A_h5.1 (v_Relays_delay W H_r6) (W.2.1 _ _ H_r6 (by decide) (by decide)) rfl (by omega) (by omega) ⟨by omega, by omega⟩ (by omega) (by omega) (fun h7 T_h7 b_h7 f_h7 y_h7 => ?_)
    have A_h7 := A_h5.put T_h7 b_h7 f_h7 H_r6 (bAll_ok (by decide) _)
    have qq2 : zsl h7 k0 4 = yR r1 := ((f_h7 k0 4).trans (if_neg (fun e => (bRo.ne H_k0 H_r6 (by decide)) e.1))).trans qq1
    have : ys h7 r1 (p1 : Int).toNat = ys h5 r1 (p1 : Int).toNat := (y_h7 r1 (p1 : Int).toNat).trans (if_neg (fun e => (bRo.ne H_r1 H_r6 (by decide)) e.1))
    refine yG.load xak rfl (fun _ _ => rfl) (v := yR k0) rfl rfl ?_
    refine yG.getS9 A_h7.1 (w_Relays_rowCount W H_k0) qq2 rfl rfl ?_
    refine yG.load xik rfl (fun _ _ => rfl) (v := yI (p1)) rfl rfl ?_
    refine yG.step (pc' := 44) (stk' := [yI (p1), yR r1, yI (p1), yR r1]) rfl (fun _ _ => rfl) ?_
    refine yG.iald A_h7.1 (v_Relays_rowCount W H_r1) rfl (by omega) (by omega) (fun z8 e_z8 i_z8 l_z8 u_z8 => ?_)
    refine yG.num (c := 1) rfl (fun _ _ => rfl) (by decide) ?_
    refine yG.iadd rfl ?_
    refine yG.iast A_h7.1 (v_Relays_rowCount W H_r1) (W.2.1 _ _ H_r1 (by decide) (by decide)) rfl (by omega) (by omega) ⟨by omega, by omega⟩ (by omega) (by omega) (fun h9 T_h9 b_h9 f_h9 y_h9 => ?_)
    have A_h9 := A_h7.put T_h9 b_h9 f_h9 H_r1 (bAll_ok (by decide) _)
    have qq3 : zsl h9 k0 4 = yR r1 := ((f_h9 k0 4).trans (if_neg (fun e => (bRo.ne H_k0 H_r1 (by decide)) e.1))).trans qq2
    have : ys h9 r1 (p1 : Int).toNat = z8 + 1 := (y_h9 r1 _).trans (if_pos ⟨rfl, rfl⟩)
    refine yG.load xik rfl (fun _ _ => rfl) (v := yI (z2)) rfl rfl ?_
    refine yG.ret rfl (fun _ _ => rfl) ?_
    exact (yP.int ⟨by omega, by omega⟩ ⟨⟨z2, rfl, by omega, by omega, trivial⟩, A_h9⟩)
theorem c_Relays_isMet {hp : xH} (W : bW G) (d : Nat) (hT : zTy G hp) {k0 : Nat} (H_k0 : bRo G 81 k0) {k1 : Nat} (H_k1 : bRo G 75 k1) (p2 p3 : Int) (h2l : 0 ≤ p2) (h2u : p2 ≤ 15) (h3l : 0 ≤ p3) (h3u : p3 ≤ 3) : yC (xcall 89 xfts xpools xms (d + 6)) 175 [yR k0, yR k1, yI (p2), yI (p3)] hp (bQi G [(34359738368, 1), (34359738368, 2), (1208925819614697894182912, 256)] hp 0 1 (fun _ => True)) := by
  have A_hp : bAx G [(34359738368, 1), (34359738368, 2), (1208925819614697894182912, 256)] hp hp := bAx.rf hT
  refine yC.of (M := (xt_X6_isMet, (5, (4, (7, []))))) rfl rfl (N := 111) (yfuel (by decide)) ?_
  show yG 89 xfts (xcall 89 xfts xpools xms (d + 5)) (xpool xp_RX6) [] xt_X6_isMet (yP 4 (bQi G [(34359738368, 1), (34359738368, 2), (1208925819614697894182912, 256)] hp 0 1 (fun _ => True))) 111 0 [(0, yR k0), (1, yR k1), (2, yI (p2)), (3, yI (p3))] [] hp
  refine yG.load xak rfl (fun _ _ => rfl) (v := yR k1) rfl rfl ?_
  refine yG.load xak rfl (fun _ _ => rfl) (v := yR k0) rfl rfl ?_
  refine yG.getO A_hp.1 (w_Relays_line W H_k0) rfl rfl (fun r1 H_r1 O_r1 q_r1 => ?_)
  refine yG.load xik rfl (fun _ _ => rfl) (v := yI (p2)) rfl rfl ?_
  refine yG.iald A_hp.1 (v_Relays_line W H_r1) rfl (by omega) (by omega) (fun z2 e_z2 i_z2 l_z2 u_z2 => ?_)
  refine yG.load xak rfl (fun _ _ => rfl) (v := yR k0) rfl rfl ?_
  refine yG.getO A_hp.1 (w_Relays_end W H_k0) rfl rfl (fun r3 H_r3 O_r3 q_r3 => ?_)
  refine yG.load xik rfl (fun _ _ => rfl) (v := yI (p2)) rfl rfl ?_
  refine yG.iald A_hp.1 (v_Relays_end W H_r3) rfl (by omega) (by omega) (fun z4 e_z4 i_z4 l_z4 u_z4 => ?_)
  refine yG.load xak rfl (fun _ _ => rfl) (v := yR k0) rfl rfl ?_
  refine yG.getO A_hp.1 (w_Relays_impedance W H_k0) rfl rfl (fun r5 H_r5 O_r5 q_r5 => ?_)
  refine yG.load xik rfl (fun _ _ => rfl) (v := yI (p2)) rfl rfl ?_
  refine yG.bald A_hp.1 (v_Relays_impedance W H_r5) rfl (by omega) (by omega) (fun z6 e_z6 i_z6 l_z6 u_z6 => ?_)
  refine yG.invV (rest := []) A_hp.1 (bOb (d_Shorts W) H_k1) rfl rfl rfl rfl (c_Shorts_measure W d A_hp.1 H_k1 (z2) (z4) (z6) (by omega) (by omega) (by omega) (by omega) (by omega) (by omega)) (fun rv h7 q9 => ?_)
  obtain ⟨⟨z8, rfl, l_z8, u_z8, R_z8⟩, B_h7⟩ := q9
  have A_h7 := A_hp.tr B_h7 (by decide)
  have qq1 : zsl h7 k0 3 = yR r5 := (B_h7.sl H_k0 (by decide)).trans q_r5
  have : ys h7 r5 (p2 : Int).toNat = ys hp r5 (p2 : Int).toNat := B_h7.ys H_r5 (bNo_ok (by decide) _)
  show yG _ _ _ _ _ _ _ _ _ _ (yI z8 :: []) _
  refine yG.store1 xik (L' := [(4, yI (z8)), (0, yR k0), (1, yR k1), (2, yI (p2)), (3, yI (p3))]) rfl (fun _ _ => rfl) rfl rfl ?_
  refine yG.load xik rfl (fun _ _ => rfl) (v := yI (z8)) rfl rfl ?_
  refine yG.ifz rfl (t := 56) rfl ⟨by omega, by omega⟩ (fun c9 => ?_) (fun c9 => ?_)
  · have c9 : (z8 : Int) = 0 := c9
    refine yG.num (c := 0) rfl (fun _ _ => rfl) (by decide) ?_
    refine yG.ret rfl (fun _ _ => rfl) ?_
    exact (yP.bool (by omega) ⟨⟨0, rfl, by omega, by omega, trivial⟩, A_h7⟩)
  · have c9 : (z8 : Int) ≠ 0 := c9
    refine yG.load xak rfl (fun _ _ => rfl) (v := yR k1) rfl rfl ?_
    refine yG.load xak rfl (fun _ _ => rfl) (v := yR k0) rfl rfl ?_
    refine yG.getO A_h7.1 (w_Relays_setting W H_k0) rfl rfl (fun r10 H_r10 O_r10 q_r10 => ?_)
    refine yG.load xik rfl (fun _ _ => rfl) (v := yI (p2)) rfl rfl ?_
    refine yG.num (c := 4) rfl (fun _ _ => rfl) (by decide) ?_
    refine yG.imul rfl ?_
    refine yG.load xik rfl (fun _ _ => rfl) (v := yI (p3)) rfl rfl ?_
    refine yG.iadd rfl ?_
    refine yG.iald A_h7.1 (v_Relays_setting W H_r10) rfl (by omega) (by omega) (fun z11 e_z11 i_z11 l_z11 u_z11 => ?_)
    refine yG.invV (rest := []) A_h7.1 (bOb (d_Shorts W) H_k1) rfl rfl rfl rfl (c_Shorts_isAbove W (d + 2) A_h7.1 H_k1 (z11) (by omega) (by omega)) (fun rv h12 q9 => ?_)
    obtain ⟨⟨z13, rfl, l_z13, u_z13, R_z13⟩, B_h12⟩ := q9
    have A_h12 := A_h7.tr B_h12 (by decide)
    have qq2 : zsl h12 k0 3 = yR r5 := (B_h12.sl H_k0 (by decide)).trans qq1
    have : ys h12 r5 (p2 : Int).toNat = ys h7 r5 (p2 : Int).toNat := B_h12.ys H_r5 (bNo_ok (by decide) _)
    show yG _ _ _ _ _ _ _ _ _ _ (yI z13 :: []) _
    refine yG.load xak rfl (fun _ _ => rfl) (v := yR k0) rfl rfl ?_
    refine yG.getS9 A_h12.1 (w_Relays_impedance W H_k0) qq2 rfl rfl ?_
    refine yG.load xik rfl (fun _ _ => rfl) (v := yI (p2)) rfl rfl ?_
    refine yG.bald A_h12.1 (v_Relays_impedance W H_r5) rfl (by omega) (by omega) (fun z14 e_z14 i_z14 l_z14 u_z14 => ?_)
    refine yG.icmp rfl (t := 56) rfl ⟨by omega, by omega⟩ ⟨by omega, by omega⟩ (fun c15 => ?_) (fun c15 => ?_)
    · have c15 : (z13 : Int) = z14 := c15
      refine yG.num (c := 0) rfl (fun _ _ => rfl) (by decide) ?_
      refine yG.ret rfl (fun _ _ => rfl) ?_
      exact (yP.bool (by omega) ⟨⟨0, rfl, by omega, by omega, trivial⟩, A_h12⟩)
    · have c15 : (z13 : Int) ≠ z14 := c15
      refine yG.num (c := 1) rfl (fun _ _ => rfl) (by decide) ?_
      refine yG.goto rfl (t := 57) rfl ?_
      refine yG.ret rfl (fun _ _ => rfl) ?_
      exact (yP.bool (by omega) ⟨⟨1, rfl, by omega, by omega, trivial⟩, A_h12⟩)
theorem c_Relays_note {hp : xH} (W : bW G) (d : Nat) (hT : zTy G hp) {k0 : Nat} (H_k0 : bRo G 81 k0) (p1 p2 p3 : Int) (h1l : 0 ≤ p1) (h1u : p1 ≤ 63) (h2l : 0 ≤ p2) (h2u : p2 ≤ 1) (h3l : (-9223372036854775808) ≤ p3) (h3u : p3 ≤ 9223372036854775807) : yC (xcall 89 xfts xpools xms (d + 1)) 179 [yR k0, yI (p1), yI (p2), yJ (p3)] hp (fun rv hp' => (rv = none ∧ True) ∧ bAx G [(1237940039285380274899124224, 256)] hp hp') := by
  have A_hp : bAx G [(1237940039285380274899124224, 256)] hp hp := bAx.rf hT
  refine yC.of (M := (xt_X6_note, (5, (0, (7, []))))) rfl rfl (N := 69) (yfuel (by decide)) ?_
  show yG 89 xfts (xcall 89 xfts xpools xms d) (xpool xp_RX6) [] xt_X6_note (yP 0 (fun rv hp' => (rv = none ∧ True) ∧ bAx G [(1237940039285380274899124224, 256)] hp hp')) 69 0 [(0, yR k0), (1, yI (p1)), (2, yI (p2)), (3, yJ (p3))] [] hp
  refine yG.load xik rfl (fun _ _ => rfl) (v := yI (p2)) rfl rfl ?_
  refine yG.ifz rfl (t := 16) rfl ⟨by omega, by omega⟩ (fun c1 => ?_) (fun c1 => ?_)
  · have c1 : (p2 : Int) ≠ 0 := c1
    refine yG.load xak rfl (fun _ _ => rfl) (v := yR k0) rfl rfl ?_
    refine yG.getO A_hp.1 (w_Relays_tripAt W H_k0) rfl rfl (fun r2 H_r2 O_r2 q_r2 => ?_)
    refine yG.load xik rfl (fun _ _ => rfl) (v := yI (p1)) rfl rfl ?_
    refine yG.lald A_hp.1 (v_Relays_tripAt W H_r2) rfl (by omega) (by omega) (fun z3 e_z3 i_z3 l_z3 u_z3 => ?_)
    refine yG.numl (c := 9223372036854775807) rfl (fun _ _ => rfl) (by decide) ?_
    refine yG.lcmp rfl ⟨by omega, by omega⟩ ⟨by omega, by omega⟩ (fun z4 e_z4 => ?_)
    refine yG.ifz rfl (t := 44) rfl ⟨by omega, by omega⟩ (fun c5 => ?_) (fun c5 => ?_)
    · have c5 : (z4 : Int) ≠ 0 := c5
      refine yG.ret rfl (fun _ _ => rfl) ?_
      exact (yP.void ⟨⟨rfl, trivial⟩, A_hp⟩)
    · have c5 : (z4 : Int) = 0 := c5
      refine yG.load xak rfl (fun _ _ => rfl) (v := yR k0) rfl rfl ?_
      refine yG.getS9 A_hp.1 (w_Relays_tripAt W H_k0) q_r2 rfl rfl ?_
      refine yG.load xik rfl (fun _ _ => rfl) (v := yI (p1)) rfl rfl ?_
      refine yG.load xlk2 rfl (fun _ _ => rfl) (v := yJ (p3)) rfl rfl ?_
      refine yG.load xak rfl (fun _ _ => rfl) (v := yR k0) rfl rfl ?_
      refine yG.getO A_hp.1 (w_Relays_delay W H_k0) rfl rfl (fun r6 H_r6 O_r6 q_r6 => ?_)
      refine yG.load xik rfl (fun _ _ => rfl) (v := yI (p1)) rfl rfl ?_
      refine yG.iald A_hp.1 (v_Relays_delay W H_r6) rfl (by omega) (by omega) (fun z7 e_z7 i_z7 l_z7 u_z7 => ?_)
      refine yG.i2l rfl ⟨by omega, by omega⟩ ?_
      refine yG.ladd rfl ?_
      obtain ⟨z8, e_z8, l_z8, u_z8⟩ := ywJ (p3 + z7)
      rw [e_z8]
      refine yG.last A_hp.1 (v_Relays_tripAt W H_r2) (W.2.1 _ _ H_r2 (by decide) (by decide)) rfl (by omega) (by omega) ⟨by omega, by omega⟩ (by omega) (by omega) (fun h9 T_h9 b_h9 f_h9 y_h9 => ?_)
      have A_h9 := A_hp.put T_h9 b_h9 f_h9 H_r2 (bAll_ok (by decide) _)
      have qq1 : zsl h9 k0 14 = yR r2 := ((f_h9 k0 14).trans (if_neg (fun e => (bRo.ne H_k0 H_r2 (by decide)) e.1))).trans q_r2
      refine yG.ret rfl (fun _ _ => rfl) ?_
      exact (yP.void ⟨⟨rfl, trivial⟩, A_h9⟩)
  · have c1 : (p2 : Int) = 0 := c1
    refine yG.load xak rfl (fun _ _ => rfl) (v := yR k0) rfl rfl ?_
    refine yG.getO A_hp.1 (w_Relays_tripAt W H_k0) rfl rfl (fun r10 H_r10 O_r10 q_r10 => ?_)
    refine yG.load xik rfl (fun _ _ => rfl) (v := yI (p1)) rfl rfl ?_
    refine yG.numl (c := 9223372036854775807) rfl (fun _ _ => rfl) (by decide) ?_
    refine yG.last A_hp.1 (v_Relays_tripAt W H_r10) (W.2.1 _ _ H_r10 (by decide) (by decide)) rfl (by omega) (by omega) ⟨by omega, by omega⟩ (by omega) (by omega) (fun h11 T_h11 b_h11 f_h11 y_h11 => ?_)
    have A_h11 := A_hp.put T_h11 b_h11 f_h11 H_r10 (bAll_ok (by decide) _)
    have qq2 : zsl h11 k0 14 = yR r10 := ((f_h11 k0 14).trans (if_neg (fun e => (bRo.ne H_k0 H_r10 (by decide)) e.1))).trans q_r10
    refine yG.goto rfl (t := 44) rfl ?_
    refine yG.ret rfl (fun _ _ => rfl) ?_
    exact (yP.void ⟨⟨rfl, trivial⟩, A_h11⟩)
theorem c_Relays_look {hp : xH} (W : bW G) (d : Nat) (hT : zTy G hp) (M_bSh : bSh G hp) {k0 : Nat} (H_k0 : bRo G 81 k0) (p1 : Int) (h1l : (-9223372036854775808) ≤ p1) (h1u : p1 ≤ 9223372036854775807) : yC (xcall 89 xfts xpools xms (d + 7)) 176 [yR k0, yJ (p1)] hp (bQi G [(34359738368, 1), (1133871366144, 2), (1099511627776, 3), (37778931862957161709568, 4), (37778931862957161709568, 5), (37778931864056673337344, 6), (37778931864056673337344, 7), (37778931864056673337344, 8), (2251799813685248, 9), (2251799813685248, 10), (2251799813685248, 11), (1239224525198018095827910656, 256)] hp (-2147483648) 2147483647 (fun _ => True)) := by
  have A_hp : bAx G [(34359738368, 1), (1133871366144, 2), (1099511627776, 3), (37778931862957161709568, 4), (37778931862957161709568, 5), (37778931864056673337344, 6), (37778931864056673337344, 7), (37778931864056673337344, 8), (2251799813685248, 9), (2251799813685248, 10), (2251799813685248, 11), (1239224525198018095827910656, 256)] hp hp := bAx.rf hT
  have H : ∀ m : Nat, (∀ a3 : Int, ∀ a4 : Int, ∀ hq, bAx G [(34359738368, 1), (1133871366144, 2), (1099511627776, 3), (37778931862957161709568, 4), (37778931862957161709568, 5), (37778931864056673337344, 6), (37778931864056673337344, 7), (37778931864056673337344, 8), (2251799813685248, 9), (2251799813685248, 10), (2251799813685248, 11), (1239224525198018095827910656, 256)] hp hq → (-2147483648) ≤ a3 → (-2147483647) ≤ 0 - a3 → 0 ≤ a4 → (-16) ≤ 0 - a4 → (-9223372036854775808) ≤ p1 → (-9223372036854775807) ≤ 0 - p1 → (-2147483646) ≤ 0 - a3 + a4 → 0 - 131 * a4 + 2226 < (m : Int) → yG 89 xfts (xcall 89 xfts xpools xms (d + 6)) (xpool xp_RX6) [] xt_X6_look (yP 1 (bQi G [(34359738368, 1), (1133871366144, 2), (1099511627776, 3), (37778931862957161709568, 4), (37778931862957161709568, 5), (37778931864056673337344, 6), (37778931864056673337344, 7), (37778931864056673337344, 8), (2251799813685248, 9), (2251799813685248, 10), (2251799813685248, 11), (1239224525198018095827910656, 256)] hp (-2147483648) 2147483647 (fun _ => True))) (43 * m) 31 [(0, yR k0), (1, yJ (p1)), (3, yI (a3)), (4, yI (a4))] [] hq) ∧ (∀ a3 : Int, ∀ a4 : Int, ∀ a5 : Int, ∀ a6 : Int, ∀ hq, bAx G [(34359738368, 1), (1133871366144, 2), (1099511627776, 3), (37778931862957161709568, 4), (37778931862957161709568, 5), (37778931864056673337344, 6), (37778931864056673337344, 7), (37778931864056673337344, 8), (2251799813685248, 9), (2251799813685248, 10), (2251799813685248, 11), (1239224525198018095827910656, 256)] hp hq → (-2147483648) ≤ a3 → (-2147483647) ≤ 0 - a3 → 0 ≤ a4 → (-15) ≤ 0 - a4 → 0 ≤ a5 → (-1) ≤ 0 - a5 → 0 ≤ a6 → (-64) ≤ 0 - a6 → (-9223372036854775808) ≤ p1 → (-9223372036854775807) ≤ 0 - p1 → (-49) ≤ a4 - a6 → (-2147483646) ≤ 0 - a3 + a6 → 0 ≤ 0 - a4 + a6 → 0 - 131 * a4 - 2 * a6 + 2225 < (m : Int) → yG 89 xfts (xcall 89 xfts xpools xms (d + 6)) (xpool xp_RX6) [] xt_X6_look (yP 1 (bQi G [(34359738368, 1), (1133871366144, 2), (1099511627776, 3), (37778931862957161709568, 4), (37778931862957161709568, 5), (37778931864056673337344, 6), (37778931864056673337344, 7), (37778931864056673337344, 8), (2251799813685248, 9), (2251799813685248, 10), (2251799813685248, 11), (1239224525198018095827910656, 256)] hp (-2147483648) 2147483647 (fun _ => True))) (43 * m) 76 [(0, yR k0), (1, yJ (p1)), (3, yI (a3)), (4, yI (a4)), (5, yI (a5)), (6, yI (a6))] [] hq) := by
    intro m
    induction m with
    | zero =>
      refine ⟨?_, ?_⟩ <;> (intros; exfalso; omega)
    | succ m ih =>
      obtain ⟨i_31, i_76⟩ := ih
      refine ⟨?_, ?_⟩
      · intro a3 a4 hq A_hq f0 f1 f2 f3 f4 f5 f6 hm
        refine yG.mono (N := 43 * m + 43) ?_ (by omega)
        refine yG.load xik rfl (fun _ _ => rfl) (v := yI (a4)) rfl rfl ?_
        refine yG.load xak rfl (fun _ _ => rfl) (v := yR k0) rfl rfl ?_
        refine yG.getI A_hq.1 (w_Relays_count W H_k0) rfl rfl (fun z1 e_z1 i_z1 l_z1 u_z1 => ?_)
        refine yG.icmp rfl (t := 163) rfl ⟨by omega, by omega⟩ ⟨by omega, by omega⟩ (fun c2 => ?_) (fun c2 => ?_)
        · have c2 : (a4 : Int) ≥ z1 := c2
          refine yG.load xik rfl (fun _ _ => rfl) (v := yI (a3)) rfl rfl ?_
          refine yG.ret rfl (fun _ _ => rfl) ?_
          exact (yP.int ⟨by omega, by omega⟩ ⟨⟨a3, rfl, by omega, by omega, trivial⟩, A_hq⟩)
        · have c2 : (a4 : Int) < z1 := c2
          refine yG.load xak rfl (fun _ _ => rfl) (v := yR k0) rfl rfl ?_
          refine yG.getO A_hq.1 (w_Relays_shorts W H_k0) rfl rfl (fun r3 H_r3 O_r3 q_r3 => ?_)
          refine yG.load xak rfl (fun _ _ => rfl) (v := yR k0) rfl rfl ?_
          refine yG.getO A_hq.1 (w_Relays_line W H_k0) rfl rfl (fun r4 H_r4 O_r4 q_r4 => ?_)
          refine yG.load xik rfl (fun _ _ => rfl) (v := yI (a4)) rfl rfl ?_
          refine yG.iald A_hq.1 (v_Relays_line W H_r4) rfl (by omega) (by omega) (fun z5 e_z5 i_z5 l_z5 u_z5 => ?_)
          refine yG.load xak rfl (fun _ _ => rfl) (v := yR k0) rfl rfl ?_
          refine yG.getO A_hq.1 (w_Relays_end W H_k0) rfl rfl (fun r6 H_r6 O_r6 q_r6 => ?_)
          refine yG.load xik rfl (fun _ _ => rfl) (v := yI (a4)) rfl rfl ?_
          refine yG.iald A_hq.1 (v_Relays_end W H_r6) rfl (by omega) (by omega) (fun z7 e_z7 i_z7 l_z7 u_z7 => ?_)
          refine yG.load xak rfl (fun _ _ => rfl) (v := yR k0) rfl rfl ?_
          refine yG.getO A_hq.1 (w_Relays_impedance W H_k0) rfl rfl (fun r8 H_r8 O_r8 q_r8 => ?_)
          refine yG.load xik rfl (fun _ _ => rfl) (v := yI (a4)) rfl rfl ?_
          refine yG.bald A_hq.1 (v_Relays_impedance W H_r8) rfl (by omega) (by omega) (fun z9 e_z9 i_z9 l_z9 u_z9 => ?_)
          refine yG.invV (rest := []) A_hq.1 (bOb (d_Shorts W) H_r3) rfl rfl rfl rfl (c_Shorts_measure W (d + 1) A_hq.1 H_r3 (z5) (z7) (z9) (by omega) (by omega) (by omega) (by omega) (by omega) (by omega)) (fun rv h10 q9 => ?_)
          obtain ⟨⟨z11, rfl, l_z11, u_z11, R_z11⟩, B_h10⟩ := q9
          have A_h10 := A_hq.tr B_h10 (by decide)
          show yG _ _ _ _ _ _ _ _ _ _ (yI z11 :: []) _
          refine yG.store1 xik (L' := [(5, yI (z11)), (0, yR k0), (1, yJ (p1)), (3, yI (a3)), (4, yI (a4))]) rfl (fun _ _ => rfl) rfl rfl ?_
          refine yG.load xik rfl (fun _ _ => rfl) (v := yI (a4)) rfl rfl ?_
          refine yG.num (c := 4) rfl (fun _ _ => rfl) (by decide) ?_
          refine yG.imul rfl ?_
          obtain ⟨z12, e_z12⟩ : ∃ z : Int, z = a4 * 4 := ⟨_, rfl⟩
          rw [← e_z12]
          refine yG.store1 xik (L' := [(6, yI (z12)), (5, yI (z11)), (0, yR k0), (1, yJ (p1)), (3, yI (a3)), (4, yI (a4))]) rfl (fun _ _ => rfl) rfl rfl ?_
          exact yG.mono (yG.sub (i_76 (a3) (a4) (z11) (z12)  h10 A_h10   (by omega) (by omega) (by omega) (by omega) (by omega) (by omega) (by omega) (by omega) (by omega) (by omega) (by omega) (by omega) (by omega) (by omega)) (ySub.cons rfl (ySub.cons rfl (ySub.cons rfl (ySub.cons rfl (ySub.cons rfl (ySub.cons rfl (ySub.nil)))))))) (by omega)
      · intro a3 a4 a5 a6 hq A_hq f0 f1 f2 f3 f4 f5 f6 f7 f8 f9 f10 f11 f12 hm
        refine yG.mono (N := 43 * m + 43) ?_ (by omega)
        refine yG.load xik rfl (fun _ _ => rfl) (v := yI (a6)) rfl rfl ?_
        refine yG.load xik rfl (fun _ _ => rfl) (v := yI (a4)) rfl rfl ?_
        refine yG.num (c := 4) rfl (fun _ _ => rfl) (by decide) ?_
        refine yG.imul rfl ?_
        refine yG.load xak rfl (fun _ _ => rfl) (v := yR k0) rfl rfl ?_
        refine yG.getO A_hq.1 (w_Relays_rowCount W H_k0) rfl rfl (fun r1 H_r1 O_r1 q_r1 => ?_)
        refine yG.load xik rfl (fun _ _ => rfl) (v := yI (a4)) rfl rfl ?_
        refine yG.iald A_hq.1 (v_Relays_rowCount W H_r1) rfl (by omega) (by omega) (fun z2 e_z2 i_z2 l_z2 u_z2 => ?_)
        refine yG.iadd rfl ?_
        refine yG.icmp rfl (t := 157) rfl ⟨by omega, by omega⟩ ⟨by omega, by omega⟩ (fun c3 => ?_) (fun c3 => ?_)
        · have c3 : (a6 : Int) ≥ (a4 * 4) + z2 := c3
          refine yG.iinc rfl (a := a4) rfl (L' := [(4, yI (a4 + 1)), (0, yR k0), (1, yJ (p1)), (3, yI (a3)), (5, yI (a5)), (6, yI (a6))]) rfl ?_
          refine yG.goto rfl (t := 31) rfl ?_
          exact yG.mono (yG.sub (i_31 (a3) (a4 + 1)  hq A_hq   (by omega) (by omega) (by omega) (by omega) (by omega) (by omega) (by omega) (by omega)) (ySub.cons rfl (ySub.cons rfl (ySub.cons rfl (ySub.cons rfl (ySub.nil)))))) (by omega)
        · have c3 : (a6 : Int) < (a4 * 4) + z2 := c3
          refine yG.load xik rfl (fun _ _ => rfl) (v := yI (a5)) rfl rfl ?_
          refine yG.ifz rfl (t := 126) rfl ⟨by omega, by omega⟩ (fun c4 => ?_) (fun c4 => ?_)
          · have c4 : (a5 : Int) = 0 := c4
            refine yG.num (c := 0) rfl (fun _ _ => rfl) (by decide) ?_
            refine yG.store1 xik (L' := [(7, yI (0)), (0, yR k0), (1, yJ (p1)), (3, yI (a3)), (4, yI (a4)), (5, yI (a5)), (6, yI (a6))]) rfl (fun _ _ => rfl) rfl rfl ?_
            refine yG.load xak rfl (fun _ _ => rfl) (v := yR k0) rfl rfl ?_
            refine yG.load xik rfl (fun _ _ => rfl) (v := yI (a6)) rfl rfl ?_
            refine yG.load xik rfl (fun _ _ => rfl) (v := yI (0)) rfl rfl ?_
            refine yG.load xlk2 rfl (fun _ _ => rfl) (v := yJ (p1)) rfl rfl ?_
            refine yG.invV (rest := []) A_hq.1 (bOb (d_Relays W) H_k0) rfl rfl rfl rfl (c_Relays_note W (d + 5) A_hq.1 H_k0 (a6) (0) (p1) (by omega) (by omega) (by omega) (by omega) (by omega) (by omega)) (fun rv h5 q9 => ?_)
            obtain ⟨⟨rfl, R_z6⟩, B_h5⟩ := q9
            have A_h5 := A_hq.tr B_h5 (by decide)
            show yG _ _ _ _ _ _ _ _ _ _ [] _
            refine yG.load xik rfl (fun _ _ => rfl) (v := yI (a3)) rfl rfl ?_
            refine yG.load xik rfl (fun _ _ => rfl) (v := yI (0)) rfl rfl ?_
            refine yG.ifz rfl (t := 148) rfl ⟨by omega, by omega⟩ (fun c7 => ?_) (fun c7 => ?_)
            · have c7 : (0 : Int) = 0 := c7
              refine yG.num (c := 0) rfl (fun _ _ => rfl) (by decide) ?_
              refine yG.iadd rfl ?_
              obtain ⟨z8, e_z8⟩ : ∃ z : Int, z = a3 + 0 := ⟨_, rfl⟩
              rw [← e_z8]
              refine yG.store1 xik (L' := [(3, yI (z8)), (7, yI (0)), (0, yR k0), (1, yJ (p1)), (4, yI (a4)), (5, yI (a5)), (6, yI (a6))]) rfl (fun _ _ => rfl) rfl rfl ?_
              refine yG.iinc rfl (a := a6) rfl (L' := [(6, yI (a6 + 1)), (3, yI (z8)), (7, yI (0)), (0, yR k0), (1, yJ (p1)), (4, yI (a4)), (5, yI (a5))]) rfl ?_
              refine yG.goto rfl (t := 76) rfl ?_
              exact yG.mono (yG.sub (i_76 (z8) (a4) (a5) (a6 + 1)  h5 A_h5   (by omega) (by omega) (by omega) (by omega) (by omega) (by omega) (by omega) (by omega) (by omega) (by omega) (by omega) (by omega) (by omega) (by omega)) (ySub.cons rfl (ySub.cons rfl (ySub.cons rfl (ySub.cons rfl (ySub.cons rfl (ySub.cons rfl (ySub.nil)))))))) (by omega)
            · have c7 : (0 : Int) ≠ 0 := c7
              exfalso; omega
          · have c4 : (a5 : Int) ≠ 0 := c4
            refine yG.load xak rfl (fun _ _ => rfl) (v := yR k0) rfl rfl ?_
            refine yG.getO A_hq.1 (w_Relays_shorts W H_k0) rfl rfl (fun r9 H_r9 O_r9 q_r9 => ?_)
            refine yG.load xak rfl (fun _ _ => rfl) (v := yR k0) rfl rfl ?_
            refine yG.getO A_hq.1 (w_Relays_setting W H_k0) rfl rfl (fun r10 H_r10 O_r10 q_r10 => ?_)
            refine yG.load xik rfl (fun _ _ => rfl) (v := yI (a6)) rfl rfl ?_
            refine yG.iald A_hq.1 (v_Relays_setting W H_r10) rfl (by omega) (by omega) (fun z11 e_z11 i_z11 l_z11 u_z11 => ?_)
            refine yG.invV (rest := []) A_hq.1 (bOb (d_Shorts W) H_r9) rfl rfl rfl rfl (c_Shorts_isAbove W (d + 3) A_hq.1 H_r9 (z11) (by omega) (by omega)) (fun rv h12 q9 => ?_)
            obtain ⟨⟨z13, rfl, l_z13, u_z13, R_z13⟩, B_h12⟩ := q9
            have A_h12 := A_hq.tr B_h12 (by decide)
            show yG _ _ _ _ _ _ _ _ _ _ (yI z13 :: []) _
            refine yG.load xak rfl (fun _ _ => rfl) (v := yR k0) rfl rfl ?_
            refine yG.getO A_h12.1 (w_Relays_impedance W H_k0) rfl rfl (fun r14 H_r14 O_r14 q_r14 => ?_)
            refine yG.load xik rfl (fun _ _ => rfl) (v := yI (a4)) rfl rfl ?_
            refine yG.bald A_h12.1 (v_Relays_impedance W H_r14) rfl (by omega) (by omega) (fun z15 e_z15 i_z15 l_z15 u_z15 => ?_)
            refine yG.icmp rfl (t := 126) rfl ⟨by omega, by omega⟩ ⟨by omega, by omega⟩ (fun c16 => ?_) (fun c16 => ?_)
            · have c16 : (z13 : Int) = z15 := c16
              refine yG.num (c := 0) rfl (fun _ _ => rfl) (by decide) ?_
              refine yG.store1 xik (L' := [(7, yI (0)), (0, yR k0), (1, yJ (p1)), (3, yI (a3)), (4, yI (a4)), (5, yI (a5)), (6, yI (a6))]) rfl (fun _ _ => rfl) rfl rfl ?_
              refine yG.load xak rfl (fun _ _ => rfl) (v := yR k0) rfl rfl ?_
              refine yG.load xik rfl (fun _ _ => rfl) (v := yI (a6)) rfl rfl ?_
              refine yG.load xik rfl (fun _ _ => rfl) (v := yI (0)) rfl rfl ?_
              refine yG.load xlk2 rfl (fun _ _ => rfl) (v := yJ (p1)) rfl rfl ?_
              refine yG.invV (rest := []) A_h12.1 (bOb (d_Relays W) H_k0) rfl rfl rfl rfl (c_Relays_note W (d + 5) A_h12.1 H_k0 (a6) (0) (p1) (by omega) (by omega) (by omega) (by omega) (by omega) (by omega)) (fun rv h17 q9 => ?_)
              obtain ⟨⟨rfl, R_z18⟩, B_h17⟩ := q9
              have A_h17 := A_h12.tr B_h17 (by decide)
              show yG _ _ _ _ _ _ _ _ _ _ [] _
              refine yG.load xik rfl (fun _ _ => rfl) (v := yI (a3)) rfl rfl ?_
              refine yG.load xik rfl (fun _ _ => rfl) (v := yI (0)) rfl rfl ?_
              refine yG.ifz rfl (t := 148) rfl ⟨by omega, by omega⟩ (fun c19 => ?_) (fun c19 => ?_)
              · have c19 : (0 : Int) = 0 := c19
                refine yG.num (c := 0) rfl (fun _ _ => rfl) (by decide) ?_
                refine yG.iadd rfl ?_
                obtain ⟨z20, e_z20⟩ : ∃ z : Int, z = a3 + 0 := ⟨_, rfl⟩
                rw [← e_z20]
                refine yG.store1 xik (L' := [(3, yI (z20)), (7, yI (0)), (0, yR k0), (1, yJ (p1)), (4, yI (a4)), (5, yI (a5)), (6, yI (a6))]) rfl (fun _ _ => rfl) rfl rfl ?_
                refine yG.iinc rfl (a := a6) rfl (L' := [(6, yI (a6 + 1)), (3, yI (z20)), (7, yI (0)), (0, yR k0), (1, yJ (p1)), (4, yI (a4)), (5, yI (a5))]) rfl ?_
                refine yG.goto rfl (t := 76) rfl ?_
                exact yG.mono (yG.sub (i_76 (z20) (a4) (a5) (a6 + 1)  h17 A_h17   (by omega) (by omega) (by omega) (by omega) (by omega) (by omega) (by omega) (by omega) (by omega) (by omega) (by omega) (by omega) (by omega) (by omega)) (ySub.cons rfl (ySub.cons rfl (ySub.cons rfl (ySub.cons rfl (ySub.cons rfl (ySub.cons rfl (ySub.nil)))))))) (by omega)
              · have c19 : (0 : Int) ≠ 0 := c19
                exfalso; omega
            · have c16 : (z13 : Int) ≠ z15 := c16
              refine yG.num (c := 1) rfl (fun _ _ => rfl) (by decide) ?_
              refine yG.goto rfl (t := 127) rfl ?_
              refine yG.store1 xik (L' := [(7, yI (1)), (0, yR k0), (1, yJ (p1)), (3, yI (a3)), (4, yI (a4)), (5, yI (a5)), (6, yI (a6))]) rfl (fun _ _ => rfl) rfl rfl ?_
              refine yG.load xak rfl (fun _ _ => rfl) (v := yR k0) rfl rfl ?_
              refine yG.load xik rfl (fun _ _ => rfl) (v := yI (a6)) rfl rfl ?_
              refine yG.load xik rfl (fun _ _ => rfl) (v := yI (1)) rfl rfl ?_
              refine yG.load xlk2 rfl (fun _ _ => rfl) (v := yJ (p1)) rfl rfl ?_
              refine yG.invV (rest := []) A_h12.1 (bOb (d_Relays W) H_k0) rfl rfl rfl rfl (c_Relays_note W (d + 5) A_h12.1 H_k0 (a6) (1) (p1) (by omega) (by omega) (by omega) (by omega) (by omega) (by omega)) (fun rv h21 q9 => ?_)
              obtain ⟨⟨rfl, R_z22⟩, B_h21⟩ := q9
              have A_h21 := A_h12.tr B_h21 (by decide)
              show yG _ _ _ _ _ _ _ _ _ _ [] _
              refine yG.load xik rfl (fun _ _ => rfl) (v := yI (a3)) rfl rfl ?_
              refine yG.load xik rfl (fun _ _ => rfl) (v := yI (1)) rfl rfl ?_
              refine yG.ifz rfl (t := 148) rfl ⟨by omega, by omega⟩ (fun c23 => ?_) (fun c23 => ?_)
              · have c23 : (1 : Int) = 0 := c23
                exfalso; omega
              · have c23 : (1 : Int) ≠ 0 := c23
                refine yG.num (c := 1) rfl (fun _ _ => rfl) (by decide) ?_
                refine yG.goto rfl (t := 149) rfl ?_
                refine yG.iadd rfl ?_
                obtain ⟨z24, e_z24, l_z24, u_z24⟩ := ywI (a3 + 1)
                rw [e_z24]
                refine yG.store1 xik (L' := [(3, yI (z24)), (7, yI (1)), (0, yR k0), (1, yJ (p1)), (4, yI (a4)), (5, yI (a5)), (6, yI (a6))]) rfl (fun _ _ => rfl) rfl rfl ?_
                refine yG.iinc rfl (a := a6) rfl (L' := [(6, yI (a6 + 1)), (3, yI (z24)), (7, yI (1)), (0, yR k0), (1, yJ (p1)), (4, yI (a4)), (5, yI (a5))]) rfl ?_
                refine yG.goto rfl (t := 76) rfl ?_
                exact yG.mono (yG.sub (i_76 (z24) (a4) (a5) (a6 + 1)  h21 A_h21   (by omega) (by omega) (by omega) (by omega) (by omega) (by omega) (by omega) (by omega) (by omega) (by omega) (by omega) (by omega) (by omega) (by omega)) (ySub.cons rfl (ySub.cons rfl (ySub.cons rfl (ySub.cons rfl (ySub.cons rfl (ySub.cons rfl (ySub.nil)))))))) (by omega)
  refine yC.of (M := (xt_X6_look, (8, (1, (7, []))))) rfl rfl (N := 95847) (yfuel (by decide)) ?_
  show yG 89 xfts (xcall 89 xfts xpools xms (d + 6)) (xpool xp_RX6) [] xt_X6_look (yP 1 (bQi G [(34359738368, 1), (1133871366144, 2), (1099511627776, 3), (37778931862957161709568, 4), (37778931862957161709568, 5), (37778931864056673337344, 6), (37778931864056673337344, 7), (37778931864056673337344, 8), (2251799813685248, 9), (2251799813685248, 10), (2251799813685248, 11), (1239224525198018095827910656, 256)] hp (-2147483648) 2147483647 (fun _ => True))) 95847 0 [(0, yR k0), (1, yJ (p1))] [] hp
  obtain ⟨i_31, i_76⟩ := H 2228
  refine yG.load xak rfl (fun _ _ => rfl) (v := yR k0) rfl rfl ?_
  refine yG.getO A_hp.1 (w_Relays_shorts W H_k0) rfl rfl (fun r1 H_r1 O_r1 q_r1 => ?_)
  refine yG.getO A_hp.1 (w_Shorts_shape W H_r1) rfl rfl (fun r2 H_r2 O_r2 q_r2 => ?_)
  refine yG.num (c := 0) rfl (fun _ _ => rfl) (by decide) ?_
  refine yG.invV (rest := []) A_hp.1 (bOb (d_Shape W) H_r2) rfl rfl rfl rfl (c_Shape_look W (d + 3) A_hp.1 H_r2 (0) (by omega) (by omega)) (fun rv h3 q9 => ?_)
  obtain ⟨⟨rfl, R_z4⟩, B_h3⟩ := q9
  have A_h3 := A_hp.tr B_h3 (by decide)
  have qq1 : zsl h3 k0 13 = yR r1 := (B_h3.sl H_k0 (by decide)).trans q_r1
  show yG _ _ _ _ _ _ _ _ _ _ [] _
  refine yG.load xak rfl (fun _ _ => rfl) (v := yR k0) rfl rfl ?_
  refine yG.getS9 A_h3.1 (w_Relays_shorts W H_k0) qq1 rfl rfl ?_
  refine yG.num (c := 0) rfl (fun _ _ => rfl) (by decide) ?_
  refine yG.putI A_h3.1 (w_Shorts_known W H_r1) (W.2.1 _ _ H_r1 (by decide) (by decide)) rfl rfl (.inr ⟨rfl, rfl, rfl⟩) ⟨by omega, by omega⟩ (by omega) (by omega) (fun h5 T_h5 b_h5 f_h5 y_h5 => ?_)
  have A_h5 := A_h3.put T_h5 b_h5 f_h5 H_r1 (by decide)
  have qq2 : zsl h5 k0 13 = yR r1 := ((f_h5 k0 13).trans (if_neg (fun e => (bRo.ne H_k0 H_r1 (by decide)) e.1))).trans qq1
  refine yG.load xak rfl (fun _ _ => rfl) (v := yR k0) rfl rfl ?_
  refine yG.getS9 A_h5.1 (w_Relays_shorts W H_k0) qq2 rfl rfl ?_
  obtain ⟨r6, H_r6, q_r6⟩ := bFdO (w_Shorts_net W H_r1) A_h5.1
  refine yG.invV (rest := []) A_h5.1 (bOb (d_Shorts W) H_r1) rfl rfl rfl rfl (c_Shorts_solve W d A_h5.1 (M_bSh.fr A_h5 (by decide)) H_r1 H_r6 q_r6) (fun rv h7 q9 => ?_)
  obtain ⟨⟨rfl, R_z8⟩, B_h7⟩ := q9
  have A_h7 := A_h5.tr B_h7 (by decide)
  have qq3 : zsl h7 k0 13 = yR r1 := (B_h7.sl H_k0 (by decide)).trans qq2
  show yG _ _ _ _ _ _ _ _ _ _ [] _
  refine yG.num (c := 0) rfl (fun _ _ => rfl) (by decide) ?_
  refine yG.store1 xik (L' := [(3, yI (0)), (0, yR k0), (1, yJ (p1))]) rfl (fun _ _ => rfl) rfl rfl ?_
  refine yG.num (c := 0) rfl (fun _ _ => rfl) (by decide) ?_
  refine yG.store1 xik (L' := [(4, yI (0)), (3, yI (0)), (0, yR k0), (1, yJ (p1))]) rfl (fun _ _ => rfl) rfl rfl ?_
  exact yG.mono (yG.sub (i_31 (0) (0)  h7 A_h7   (by omega) (by omega) (by omega) (by omega) (by omega) (by omega) (by omega) (by omega)) (ySub.cons rfl (ySub.cons rfl (ySub.cons rfl (ySub.cons rfl (ySub.nil)))))) (by omega)
theorem c_Relays_start {hp : xH} (W : bW G) (d : Nat) (hT : zTy G hp) (M_bSh : bSh G hp) {k0 : Nat} (H_k0 : bRo G 81 k0) {k1 : Nat} (H_k1 : bRo G 18 k1) : yC (xcall 89 xfts xpools xms (d + 8)) 183 [yR k0, yR k1] hp (fun rv hp' => (bQi G [(34359738368, 1), (1133871366144, 2), (1099511889920, 3), (37778931862957161971712, 4), (37778931862957161971712, 5), (37778931864056673599488, 6), (37778931864056673599488, 7), (37778931864056673337344, 8), (2251799813685248, 9), (2417851641481058163097600, 10), (2417851641481058163097600, 11), (2417851639229258349412352, 19), (18570385075193341948706947072, 256)] hp (-2147483648) 2147483647 (fun _ => True)) rv hp' ∧ bSh G hp') := by
  have A_hp : bAx G [(34359738368, 1), (1133871366144, 2), (1099511889920, 3), (37778931862957161971712, 4), (37778931862957161971712, 5), (37778931864056673599488, 6), (37778931864056673599488, 7), (37778931864056673337344, 8), (2251799813685248, 9), (2417851641481058163097600, 10), (2417851641481058163097600, 11), (2417851639229258349412352, 19), (18570385075193341948706947072, 256)] hp hp := bAx.rf hT
  have M_bSh_hp := M_bSh
  have H : ∀ m : Nat, (∀ a2 : Int, ∀ hq, bAx G [(34359738368, 1), (1133871366144, 2), (1099511889920, 3), (37778931862957161971712, 4), (37778931862957161971712, 5), (37778931864056673599488, 6), (37778931864056673599488, 7), (37778931864056673337344, 8), (2251799813685248, 9), (2417851641481058163097600, 10), (2417851641481058163097600, 11), (2417851639229258349412352, 19), (18570385075193341948706947072, 256)] hp hq → bSh G hq → 0 ≤ a2 → (-24) ≤ 0 - a2 → 0 - 131 * a2 + 3274 < (m : Int) → yG 89 xfts (xcall 89 xfts xpools xms (d + 7)) (xpool xp_RX6) [] xt_X6_start (yP 1 (fun rv hp' => (bQi G [(34359738368, 1), (1133871366144, 2), (1099511889920, 3), (37778931862957161971712, 4), (37778931862957161971712, 5), (37778931864056673599488, 6), (37778931864056673599488, 7), (37778931864056673337344, 8), (2251799813685248, 9), (2417851641481058163097600, 10), (2417851641481058163097600, 11), (2417851639229258349412352, 19), (18570385075193341948706947072, 256)] hp (-2147483648) 2147483647 (fun _ => True)) rv hp' ∧ bSh G hp')) (22 * m) 25 [(0, yR k0), (2, yI (a2))] [] hq) ∧ (∀ a2 : Int, ∀ hq, bAx G [(34359738368, 1), (1133871366144, 2), (1099511889920, 3), (37778931862957161971712, 4), (37778931862957161971712, 5), (37778931864056673599488, 6), (37778931864056673599488, 7), (37778931864056673337344, 8), (2251799813685248, 9), (2417851641481058163097600, 10), (2417851641481058163097600, 11), (2417851639229258349412352, 19), (18570385075193341948706947072, 256)] hp hq → bSh G hq → 0 ≤ a2 → (-64) ≤ 0 - a2 → 0 - 2 * a2 + 129 < (m : Int) → yG 89 xfts (xcall 89 xfts xpools xms (d + 7)) (xpool xp_RX6) [] xt_X6_start (yP 1 (fun rv hp' => (bQi G [(34359738368, 1), (1133871366144, 2), (1099511889920, 3), (37778931862957161971712, 4), (37778931862957161971712, 5), (37778931864056673599488, 6), (37778931864056673599488, 7), (37778931864056673337344, 8), (2251799813685248, 9), (2417851641481058163097600, 10), (2417851641481058163097600, 11), (2417851639229258349412352, 19), (18570385075193341948706947072, 256)] hp (-2147483648) 2147483647 (fun _ => True)) rv hp' ∧ bSh G hp')) (22 * m) 64 [(0, yR k0), (2, yI (a2))] [] hq) := by
    intro m
    induction m with
    | zero =>
      refine ⟨?_, ?_⟩ <;> (intros; exfalso; omega)
    | succ m ih =>
      obtain ⟨i_25, i_64⟩ := ih
      refine ⟨?_, ?_⟩
      · intro a2 hq A_hq M_bSh_hq f0 f1 hm
        refine yG.mono (N := 22 * m + 22) ?_ (by omega)
        refine yG.load xik rfl (fun _ _ => rfl) (v := yI (a2)) rfl rfl ?_
        refine yG.num (c := 24) rfl (fun _ _ => rfl) (by decide) ?_
        refine yG.icmp rfl (t := 62) rfl ⟨by omega, by omega⟩ ⟨by omega, by omega⟩ (fun c1 => ?_) (fun c1 => ?_)
        · have c1 : (a2 : Int) ≥ 24 := c1
          refine yG.num (c := 0) rfl (fun _ _ => rfl) (by decide) ?_
          refine yG.store1 xik (L' := [(2, yI (0)), (0, yR k0)]) rfl (fun _ _ => rfl) rfl rfl ?_
          exact yG.mono (yG.sub (i_64 (0)  hq A_hq M_bSh_hq   (by omega) (by omega) (by omega)) (ySub.cons rfl (ySub.cons rfl (ySub.nil)))) (by omega)
        · have c1 : (a2 : Int) < 24 := c1
          refine yG.load xak rfl (fun _ _ => rfl) (v := yR k0) rfl rfl ?_
          refine yG.getO A_hq.1 (w_Relays_openAt W H_k0) rfl rfl (fun r2 H_r2 O_r2 q_r2 => ?_)
          refine yG.load xik rfl (fun _ _ => rfl) (v := yI (a2)) rfl rfl ?_
          refine yG.numl (c := 9223372036854775807) rfl (fun _ _ => rfl) (by decide) ?_
          refine yG.last A_hq.1 (v_Relays_openAt W H_r2) (W.2.1 _ _ H_r2 (by decide) (by decide)) rfl (by omega) (by omega) ⟨by omega, by omega⟩ (by omega) (by omega) (fun h3 T_h3 b_h3 f_h3 y_h3 => ?_)
          have M_bSh_h3 := M_bSh_hq.fr (bAx.put (Wl := [(2475880078570760549798248448, 256)]) (bAx.rf A_hq.1) T_h3 b_h3 f_h3 H_r2 (bAll_ok (by decide) _)) (by decide)
          have A_h3 := A_hq.put T_h3 b_h3 f_h3 H_r2 (bAll_ok (by decide) _)
          refine yG.load xak rfl (fun _ _ => rfl) (v := yR k0) rfl rfl ?_
          refine yG.getO A_h3.1 (w_Relays_backupAt W H_k0) rfl rfl (fun r4 H_r4 O_r4 q_r4 => ?_)
          refine yG.load xik rfl (fun _ _ => rfl) (v := yI (a2)) rfl rfl ?_
          refine yG.numl (c := 9223372036854775807) rfl (fun _ _ => rfl) (by decide) ?_
          refine yG.last A_h3.1 (v_Relays_backupAt W H_r4) (W.2.1 _ _ H_r4 (by decide) (by decide)) rfl (by omega) (by omega) ⟨by omega, by omega⟩ (by omega) (by omega) (fun h5 T_h5 b_h5 f_h5 y_h5 => ?_)
          have M_bSh_h5 := M_bSh_h3.fr (bAx.put (Wl := [(4951760157141521099596496896, 256)]) (bAx.rf A_h3.1) T_h5 b_h5 f_h5 H_r4 (bAll_ok (by decide) _)) (by decide)
          have A_h5 := A_h3.put T_h5 b_h5 f_h5 H_r4 (bAll_ok (by decide) _)
          refine yG.load xak rfl (fun _ _ => rfl) (v := yR k0) rfl rfl ?_
          refine yG.getO A_h5.1 (w_Relays_hasOrder W H_k0) rfl rfl (fun r6 H_r6 O_r6 q_r6 => ?_)
          refine yG.load xik rfl (fun _ _ => rfl) (v := yI (a2)) rfl rfl ?_
          refine yG.num (c := 0) rfl (fun _ _ => rfl) (by decide) ?_
          refine yG.bast A_h5.1 (v_Relays_hasOrder W H_r6) (W.2.1 _ _ H_r6 (by decide) (by decide)) rfl (by omega) (by omega) ⟨by omega, by omega⟩ (by omega) (by omega) (fun h7 T_h7 b_h7 f_h7 y_h7 => ?_)
          have M_bSh_h7 := M_bSh_h5.fr (bAx.put (Wl := [(9903520314283042199192993792, 256)]) (bAx.rf A_h5.1) T_h7 b_h7 f_h7 H_r6 (bAll_ok (by decide) _)) (by decide)
          have A_h7 := A_h5.put T_h7 b_h7 f_h7 H_r6 (bAll_ok (by decide) _)
          refine yG.iinc rfl (a := a2) rfl (L' := [(2, yI (a2 + 1)), (0, yR k0)]) rfl ?_
          refine yG.goto rfl (t := 25) rfl ?_
          exact yG.mono (yG.sub (i_25 (a2 + 1)  h7 A_h7 M_bSh_h7   (by omega) (by omega) (by omega)) (ySub.cons rfl (ySub.cons rfl (ySub.nil)))) (by omega)
      · intro a2 hq A_hq M_bSh_hq f0 f1 hm
        refine yG.mono (N := 22 * m + 22) ?_ (by omega)
        refine yG.load xik rfl (fun _ _ => rfl) (v := yI (a2)) rfl rfl ?_
        refine yG.load xak rfl (fun _ _ => rfl) (v := yR k0) rfl rfl ?_
        refine yG.getO A_hq.1 (w_Relays_tripAt W H_k0) rfl rfl (fun r1 H_r1 O_r1 q_r1 => ?_)
        refine yG.alenF A_hq.1 (v_Relays_tripAt W H_r1).yIF rfl ?_
        obtain ⟨z2, e_z2⟩ : ∃ z : Int, z = ((64 : Nat) : Int) := ⟨_, rfl⟩
        rw [← e_z2]
        refine yG.icmp rfl (t := 88) rfl ⟨by omega, by omega⟩ ⟨by omega, by omega⟩ (fun c3 => ?_) (fun c3 => ?_)
        · have c3 : (a2 : Int) ≥ z2 := c3
          refine yG.load xak rfl (fun _ _ => rfl) (v := yR k0) rfl rfl ?_
          refine yG.numl (c := 0) rfl (fun _ _ => rfl) (by decide) ?_
          refine yG.invV (rest := []) A_hq.1 (bOb (d_Relays W) H_k0) rfl rfl rfl rfl (c_Relays_look W d A_hq.1 M_bSh_hq H_k0 (0) (by omega) (by omega)) (fun rv h4 q9 => ?_)
          obtain ⟨⟨z5, rfl, l_z5, u_z5, R_z5⟩, B_h4⟩ := q9
          have A_h4 := A_hq.tr B_h4 (by decide)
          have M_bSh_h4 := M_bSh_hq.fr B_h4 (by decide)
          have qq1 : zsl h4 k0 14 = yR r1 := (B_h4.sl H_k0 (by decide)).trans q_r1
          show yG _ _ _ _ _ _ _ _ _ _ (yI z5 :: []) _
          refine yG.ret rfl (fun _ _ => rfl) ?_
          exact (yP.int ⟨by omega, by omega⟩ ⟨⟨⟨z5, rfl, by omega, by omega, trivial⟩, A_h4⟩, M_bSh_h4⟩)
        · have c3 : (a2 : Int) < z2 := c3
          refine yG.load xak rfl (fun _ _ => rfl) (v := yR k0) rfl rfl ?_
          refine yG.getS9 A_hq.1 (w_Relays_tripAt W H_k0) q_r1 rfl rfl ?_
          refine yG.load xik rfl (fun _ _ => rfl) (v := yI (a2)) rfl rfl ?_
          refine yG.numl (c := 9223372036854775807) rfl (fun _ _ => rfl) (by decide) ?_
          refine yG.last A_hq.1 (v_Relays_tripAt W H_r1) (W.2.1 _ _ H_r1 (by decide) (by decide)) rfl (by omega) (by omega) ⟨by omega, by omega⟩ (by omega) (by omega) (fun h6 T_h6 b_h6 f_h6 y_h6 => ?_)
          have M_bSh_h6 := M_bSh_hq.fr (bAx.put (Wl := [(1237940039285380274899124224, 256)]) (bAx.rf A_hq.1) T_h6 b_h6 f_h6 H_r1 (bAll_ok (by decide) _)) (by decide)
          have A_h6 := A_hq.put T_h6 b_h6 f_h6 H_r1 (bAll_ok (by decide) _)
          have qq2 : zsl h6 k0 14 = yR r1 := ((f_h6 k0 14).trans (if_neg (fun e => (bRo.ne H_k0 H_r1 (by decide)) e.1))).trans q_r1
          refine yG.iinc rfl (a := a2) rfl (L' := [(2, yI (a2 + 1)), (0, yR k0)]) rfl ?_
          refine yG.goto rfl (t := 64) rfl ?_
          exact yG.mono (yG.sub (i_64 (a2 + 1)  h6 A_h6 M_bSh_h6   (by omega) (by omega) (by omega)) (ySub.cons rfl (ySub.cons rfl (ySub.nil)))) (by omega)
  refine yC.of (M := (xt_X6_start, (3, (1, (7, []))))) rfl rfl (N := 72094) (yfuel (by decide)) ?_
  show yG 89 xfts (xcall 89 xfts xpools xms (d + 7)) (xpool xp_RX6) [] xt_X6_start (yP 1 (fun rv hp' => (bQi G [(34359738368, 1), (1133871366144, 2), (1099511889920, 3), (37778931862957161971712, 4), (37778931862957161971712, 5), (37778931864056673599488, 6), (37778931864056673599488, 7), (37778931864056673337344, 8), (2251799813685248, 9), (2417851641481058163097600, 10), (2417851641481058163097600, 11), (2417851639229258349412352, 19), (18570385075193341948706947072, 256)] hp (-2147483648) 2147483647 (fun _ => True)) rv hp' ∧ bSh G hp')) 72094 0 [(0, yR k0), (1, yR k1)] [] hp
  obtain ⟨i_25, i_64⟩ := H 3276
  refine yG.load xak rfl (fun _ _ => rfl) (v := yR k0) rfl rfl ?_
  refine yG.getO A_hp.1 (w_Relays_net W H_k0) rfl rfl (fun r1 H_r1 O_r1 q_r1 => ?_)
  refine yG.load xak rfl (fun _ _ => rfl) (v := yR k1) rfl rfl ?_
  refine yG.invV (rest := []) A_hp.1 (bOb (d_Net W) H_r1) rfl rfl rfl rfl (c_Net_copy W (d + 5) A_hp.1 M_bSh_hp H_r1 H_k1) (fun rv h2 q9 => ?_)
  obtain ⟨q9, M_bSh_h2⟩ := q9
  obtain ⟨⟨rfl, R_z3⟩, B_h2⟩ := q9
  have A_h2 := A_hp.tr B_h2 (by decide)
  show yG _ _ _ _ _ _ _ _ _ _ [] _
  refine yG.load xak rfl (fun _ _ => rfl) (v := yR k0) rfl rfl ?_
  refine yG.num (c := 1) rfl (fun _ _ => rfl) (by decide) ?_
  refine yG.putI A_h2.1 (w_Relays_running W H_k0) (W.2.1 _ _ H_k0 (by decide) (by decide)) rfl rfl (.inr ⟨rfl, rfl, rfl⟩) ⟨by omega, by omega⟩ (by omega) (by omega) (fun h4 T_h4 b_h4 f_h4 y_h4 => ?_)
  have M_bSh_h4 := M_bSh_h2.fr (bAx.put (Wl := [(2417851639229258349412352, 10)]) (bAx.rf A_h2.1) T_h4 b_h4 f_h4 H_k0 (by decide)) (by decide)
  have A_h4 := A_h2.put T_h4 b_h4 f_h4 H_k0 (by decide)
  refine yG.load xak rfl (fun _ _ => rfl) (v := yR k0) rfl rfl ?_
  refine yG.num (c := 0) rfl (fun _ _ => rfl) (by decide) ?_
  refine yG.putI A_h4.1 (w_Relays_time W H_k0) (W.2.1 _ _ H_k0 (by decide) (by decide)) rfl rfl (.inl rfl) ⟨by omega, by omega⟩ (by omega) (by omega) (fun h5 T_h5 b_h5 f_h5 y_h5 => ?_)
  have M_bSh_h5 := M_bSh_h4.fr (bAx.put (Wl := [(2417851639229258349412352, 11)]) (bAx.rf A_h4.1) T_h5 b_h5 f_h5 H_k0 (by decide)) (by decide)
  have A_h5 := A_h4.put T_h5 b_h5 f_h5 H_k0 (by decide)
  refine yG.load xak rfl (fun _ _ => rfl) (v := yR k0) rfl rfl ?_
  refine yG.num (c := 0) rfl (fun _ _ => rfl) (by decide) ?_
  refine yG.putI A_h5.1 (w_Relays_openedCount W H_k0) (W.2.1 _ _ H_k0 (by decide) (by decide)) rfl rfl (.inl rfl) ⟨by omega, by omega⟩ (by omega) (by omega) (fun h6 T_h6 b_h6 f_h6 y_h6 => ?_)
  have M_bSh_h6 := M_bSh_h5.fr (bAx.put (Wl := [(2417851639229258349412352, 19)]) (bAx.rf A_h5.1) T_h6 b_h6 f_h6 H_k0 (by decide)) (by decide)
  have A_h6 := A_h5.put T_h6 b_h6 f_h6 H_k0 (by decide)
  refine yG.num (c := 0) rfl (fun _ _ => rfl) (by decide) ?_
  refine yG.store1 xik (L' := [(2, yI (0)), (0, yR k0), (1, yR k1)]) rfl (fun _ _ => rfl) rfl rfl ?_
  exact yG.mono (yG.sub (i_25 (0)  h6 A_h6 M_bSh_h6   (by omega) (by omega) (by omega)) (ySub.cons rfl (ySub.cons rfl (ySub.nil)))) (by omega)
theorem c_Relays_nextTime {hp : xH} (W : bW G) (d : Nat) (hT : zTy G hp) {k0 : Nat} (H_k0 : bRo G 81 k0) : yC (xcall 89 xfts xpools xms (d + 2)) 177 [yR k0] hp (bQpj hp (-9223372036854775808) 9223372036854775807 (fun _ => True)) := by
  have A_hp : bAx G [] hp hp := bAx.rf hT
  have H : ∀ m : Nat, (∀ a1 : Int, ∀ a3 : Int, (-9223372036854775808) ≤ a1 → (-9223372036854775807) ≤ 0 - a1 → 0 ≤ a3 → (-24) ≤ 0 - a3 → 0 - 131 * a3 + 3274 < (m : Int) → yG 89 xfts (xcall 89 xfts xpools xms (d + 1)) (xpool xp_RX6) [] xt_X6_nextTime (yP 2 (bQpj hp (-9223372036854775808) 9223372036854775807 (fun _ => True))) (19 * m) 6 [(0, yR k0), (1, yJ (a1)), (3, yI (a3))] [] hp) ∧ (∀ a1 : Int, ∀ a3 : Int, (-9223372036854775808) ≤ a1 → (-9223372036854775807) ≤ 0 - a1 → 0 ≤ a3 → (-64) ≤ 0 - a3 → 0 - 2 * a3 + 129 < (m : Int) → yG 89 xfts (xcall 89 xfts xpools xms (d + 1)) (xpool xp_RX6) [] xt_X6_nextTime (yP 2 (bQpj hp (-9223372036854775808) 9223372036854775807 (fun _ => True))) (19 * m) 40 [(0, yR k0), (1, yJ (a1)), (3, yI (a3))] [] hp) := by
    intro m
    induction m with
    | zero =>
      refine ⟨?_, ?_⟩ <;> (intros; exfalso; omega)
    | succ m ih =>
      obtain ⟨i_6, i_40⟩ := ih
      refine ⟨?_, ?_⟩
      · intro a1 a3 f0 f1 f2 f3 hm
        refine yG.mono (N := 19 * m + 19) ?_ (by omega)
        refine yG.load xik rfl (fun _ _ => rfl) (v := yI (a3)) rfl rfl ?_
        refine yG.num (c := 24) rfl (fun _ _ => rfl) (by decide) ?_
        refine yG.icmp rfl (t := 38) rfl ⟨by omega, by omega⟩ ⟨by omega, by omega⟩ (fun c1 => ?_) (fun c1 => ?_)
        · have c1 : (a3 : Int) ≥ 24 := c1
          refine yG.num (c := 0) rfl (fun _ _ => rfl) (by decide) ?_
          refine yG.store1 xik (L' := [(3, yI (0)), (0, yR k0), (1, yJ (a1))]) rfl (fun _ _ => rfl) rfl rfl ?_
          exact yG.mono (yG.sub (i_40 (a1) (0)     (by omega) (by omega) (by omega) (by omega) (by omega)) (ySub.cons rfl (ySub.cons rfl (ySub.cons rfl (ySub.nil))))) (by omega)
        · have c1 : (a3 : Int) < 24 := c1
          refine yG.load xlk2 rfl (fun _ _ => rfl) (v := yJ (a1)) rfl rfl ?_
          refine yG.load xak rfl (fun _ _ => rfl) (v := yR k0) rfl rfl ?_
          refine yG.getO A_hp.1 (w_Relays_openAt W H_k0) rfl rfl (fun r2 H_r2 O_r2 q_r2 => ?_)
          refine yG.load xik rfl (fun _ _ => rfl) (v := yI (a3)) rfl rfl ?_
          refine yG.lald A_hp.1 (v_Relays_openAt W H_r2) rfl (by omega) (by omega) (fun z3 e_z3 i_z3 l_z3 u_z3 => ?_)
          refine yG.load xak rfl (fun _ _ => rfl) (v := yR k0) rfl rfl ?_
          refine yG.getO A_hp.1 (w_Relays_backupAt W H_k0) rfl rfl (fun r4 H_r4 O_r4 q_r4 => ?_)
          refine yG.load xik rfl (fun _ _ => rfl) (v := yI (a3)) rfl rfl ?_
          refine yG.lald A_hp.1 (v_Relays_backupAt W H_r4) rfl (by omega) (by omega) (fun z5 e_z5 i_z5 l_z5 u_z5 => ?_)
          refine yG.invS (rest := [yJ (a1)]) rfl rfl rfl rfl (c_J9_minJ W d A_hp.1 (z3) (z5) (by omega) (by omega) (by omega) (by omega)) (fun rv hp9 q9 => ?_)
          obtain ⟨⟨z6, rfl, l_z6, u_z6, R_z6⟩, e9⟩ := q9
          rw [e9]
          show yG _ _ _ _ _ _ _ _ _ _ (yJ z6 :: [yJ (a1)]) _
          refine yG.invS (rest := []) rfl rfl rfl rfl (c_J9_minJ W d A_hp.1 (a1) (z6) (by omega) (by omega) (by omega) (by omega)) (fun rv hp9 q9 => ?_)
          obtain ⟨⟨z7, rfl, l_z7, u_z7, R_z7⟩, e9⟩ := q9
          rw [e9]
          show yG _ _ _ _ _ _ _ _ _ _ (yJ z7 :: []) _
          refine yG.store2 xlk2 (L' := [(1, yJ (z7)), (0, yR k0), (3, yI (a3))]) rfl (fun _ _ => rfl) rfl rfl ?_
          refine yG.iinc rfl (a := a3) rfl (L' := [(3, yI (a3 + 1)), (1, yJ (z7)), (0, yR k0)]) rfl ?_
          refine yG.goto rfl (t := 6) rfl ?_
          exact yG.mono (yG.sub (i_6 (z7) (a3 + 1)     (by omega) (by omega) (by omega) (by omega) (by omega)) (ySub.cons rfl (ySub.cons rfl (ySub.cons rfl (ySub.nil))))) (by omega)
      · intro a1 a3 f0 f1 f2 f3 hm
        refine yG.mono (N := 19 * m + 19) ?_ (by omega)
        refine yG.load xik rfl (fun _ _ => rfl) (v := yI (a3)) rfl rfl ?_
        refine yG.load xak rfl (fun _ _ => rfl) (v := yR k0) rfl rfl ?_
        refine yG.getO A_hp.1 (w_Relays_tripAt W H_k0) rfl rfl (fun r1 H_r1 O_r1 q_r1 => ?_)
        refine yG.alenF A_hp.1 (v_Relays_tripAt W H_r1).yIF rfl ?_
        obtain ⟨z2, e_z2⟩ : ∃ z : Int, z = ((64 : Nat) : Int) := ⟨_, rfl⟩
        rw [← e_z2]
        refine yG.icmp rfl (t := 66) rfl ⟨by omega, by omega⟩ ⟨by omega, by omega⟩ (fun c3 => ?_) (fun c3 => ?_)
        · have c3 : (a3 : Int) ≥ z2 := c3
          refine yG.load xlk2 rfl (fun _ _ => rfl) (v := yJ (a1)) rfl rfl ?_
          refine yG.ret rfl (fun _ _ => rfl) ?_
          exact (yP.long ⟨by omega, by omega⟩ ⟨⟨a1, rfl, by omega, by omega, trivial⟩, rfl⟩)
        · have c3 : (a3 : Int) < z2 := c3
          refine yG.load xlk2 rfl (fun _ _ => rfl) (v := yJ (a1)) rfl rfl ?_
          refine yG.load xak rfl (fun _ _ => rfl) (v := yR k0) rfl rfl ?_
          refine yG.getS9 A_hp.1 (w_Relays_tripAt W H_k0) q_r1 rfl rfl ?_
          refine yG.load xik rfl (fun _ _ => rfl) (v := yI (a3)) rfl rfl ?_
          refine yG.lald A_hp.1 (v_Relays_tripAt W H_r1) rfl (by omega) (by omega) (fun z4 e_z4 i_z4 l_z4 u_z4 => ?_)
          refine yG.invS (rest := []) rfl rfl rfl rfl (c_J9_minJ W d A_hp.1 (a1) (z4) (by omega) (by omega) (by omega) (by omega)) (fun rv hp9 q9 => ?_)
          obtain ⟨⟨z5, rfl, l_z5, u_z5, R_z5⟩, e9⟩ := q9
          rw [e9]
          show yG _ _ _ _ _ _ _ _ _ _ (yJ z5 :: []) _
          refine yG.store2 xlk2 (L' := [(1, yJ (z5)), (0, yR k0), (3, yI (a3))]) rfl (fun _ _ => rfl) rfl rfl ?_
          refine yG.iinc rfl (a := a3) rfl (L' := [(3, yI (a3 + 1)), (1, yJ (z5)), (0, yR k0)]) rfl ?_
          refine yG.goto rfl (t := 40) rfl ?_
          exact yG.mono (yG.sub (i_40 (z5) (a3 + 1)     (by omega) (by omega) (by omega) (by omega) (by omega)) (ySub.cons rfl (ySub.cons rfl (ySub.cons rfl (ySub.nil))))) (by omega)
  refine yC.of (M := (xt_X6_nextTime, (4, (2, (7, []))))) rfl rfl (N := 62263) (yfuel (by decide)) ?_
  show yG 89 xfts (xcall 89 xfts xpools xms (d + 1)) (xpool xp_RX6) [] xt_X6_nextTime (yP 2 (bQpj hp (-9223372036854775808) 9223372036854775807 (fun _ => True))) 62263 0 [(0, yR k0)] [] hp
  obtain ⟨i_6, i_40⟩ := H 3276
  refine yG.numl (c := 9223372036854775807) rfl (fun _ _ => rfl) (by decide) ?_
  refine yG.store2 xlk2 (L' := [(1, yJ (9223372036854775807)), (0, yR k0)]) rfl (fun _ _ => rfl) rfl rfl ?_
  refine yG.num (c := 0) rfl (fun _ _ => rfl) (by decide) ?_
  refine yG.store1 xik (L' := [(3, yI (0)), (1, yJ (9223372036854775807)), (0, yR k0)]) rfl (fun _ _ => rfl) rfl rfl ?_
  exact yG.mono (yG.sub (i_6 (9223372036854775807) (0)     (by omega) (by omega) (by omega) (by omega) (by omega)) (ySub.cons rfl (ySub.cons rfl (ySub.cons rfl (ySub.nil))))) (by omega)
theorem c_Relays_openAll {hp : xH} (W : bW G) (d : Nat) (hT : zTy G hp) {k0 : Nat} (H_k0 : bRo G 81 k0) (p1 : Int) (h1l : (-9223372036854775808) ≤ p1) (h1u : p1 ≤ 9223372036854775807) : yC (xcall 89 xfts xpools xms (d + 2)) 180 [yR k0, yJ (p1)] hp (bQi G [(2417851639229258349412352, 19), (42089961335702929346587000832, 256)] hp 0 24 (fun _ => True)) := by
  have A_hp : bAx G [(2417851639229258349412352, 19), (42089961335702929346587000832, 256)] hp hp := bAx.rf hT
  have H : ∀ m : Nat, (∀ a3 : Int, ∀ a4 : Int, ∀ hq, bAx G [(2417851639229258349412352, 19), (42089961335702929346587000832, 256)] hp hq → 0 ≤ a3 → (-24) ≤ 0 - a3 → 0 ≤ a4 → (-24) ≤ 0 - a4 → (-9223372036854775808) ≤ p1 → (-9223372036854775807) ≤ 0 - p1 → 0 ≤ 0 - a3 + a4 → 0 - 2 * a4 + 49 < (m : Int) → yG 89 xfts (xcall 89 xfts xpools xms (d + 1)) (xpool xp_RX6) [] xt_X6_openAll (yP 1 (bQi G [(2417851639229258349412352, 19), (42089961335702929346587000832, 256)] hp 0 24 (fun _ => True))) (54 * m) 5 [(0, yR k0), (1, yJ (p1)), (3, yI (a3)), (4, yI (a4))] [] hq) := by
    intro m
    induction m with
    | zero =>
      intros; exfalso; omega
    | succ m ih =>
      have i_5 := ih
      clear ih
      intro a3 a4 hq A_hq f0 f1 f2 f3 f4 f5 f6 hm
      refine yG.mono (N := 54 * m + 54) ?_ (by omega)
      refine yG.load xik rfl (fun _ _ => rfl) (v := yI (a4)) rfl rfl ?_
      refine yG.num (c := 24) rfl (fun _ _ => rfl) (by decide) ?_
      refine yG.icmp rfl (t := 100) rfl ⟨by omega, by omega⟩ ⟨by omega, by omega⟩ (fun c1 => ?_) (fun c1 => ?_)
      · have c1 : (a4 : Int) ≥ 24 := c1
        refine yG.load xik rfl (fun _ _ => rfl) (v := yI (a3)) rfl rfl ?_
        refine yG.ret rfl (fun _ _ => rfl) ?_
        exact (yP.int ⟨by omega, by omega⟩ ⟨⟨a3, rfl, by omega, by omega, trivial⟩, A_hq⟩)
      · have c1 : (a4 : Int) < 24 := c1
        refine yG.load xak rfl (fun _ _ => rfl) (v := yR k0) rfl rfl ?_
        refine yG.getO A_hq.1 (w_Relays_openAt W H_k0) rfl rfl (fun r2 H_r2 O_r2 q_r2 => ?_)
        refine yG.load xik rfl (fun _ _ => rfl) (v := yI (a4)) rfl rfl ?_
        refine yG.lald A_hq.1 (v_Relays_openAt W H_r2) rfl (by omega) (by omega) (fun z3 e_z3 i_z3 l_z3 u_z3 => ?_)
        refine yG.load xlk2 rfl (fun _ _ => rfl) (v := yJ (p1)) rfl rfl ?_
        refine yG.lcmp rfl ⟨by omega, by omega⟩ ⟨by omega, by omega⟩ (fun z4 e_z4 => ?_)
        refine yG.ifz rfl (t := 94) rfl ⟨by omega, by omega⟩ (fun c5 => ?_) (fun c5 => ?_)
        · have c5 : (z4 : Int) ≠ 0 := c5
          refine yG.iinc rfl (a := a4) rfl (L' := [(4, yI (a4 + 1)), (0, yR k0), (1, yJ (p1)), (3, yI (a3))]) rfl ?_
          refine yG.goto rfl (t := 5) rfl ?_
          exact yG.mono (yG.sub (i_5 (a3) (a4 + 1)  hq A_hq   (by omega) (by omega) (by omega) (by omega) (by omega) (by omega) (by omega) (by omega)) (ySub.cons rfl (ySub.cons rfl (ySub.cons rfl (ySub.cons rfl (ySub.nil)))))) (by omega)
        · have c5 : (z4 : Int) = 0 := c5
          refine yG.load xak rfl (fun _ _ => rfl) (v := yR k0) rfl rfl ?_
          refine yG.getS9 A_hq.1 (w_Relays_openAt W H_k0) q_r2 rfl rfl ?_
          refine yG.load xik rfl (fun _ _ => rfl) (v := yI (a4)) rfl rfl ?_
          refine yG.numl (c := 9223372036854775807) rfl (fun _ _ => rfl) (by decide) ?_
          refine yG.last A_hq.1 (v_Relays_openAt W H_r2) (W.2.1 _ _ H_r2 (by decide) (by decide)) rfl (by omega) (by omega) ⟨by omega, by omega⟩ (by omega) (by omega) (fun h6 T_h6 b_h6 f_h6 y_h6 => ?_)
          have A_h6 := A_hq.put T_h6 b_h6 f_h6 H_r2 (bAll_ok (by decide) _)
          have qq1 : zsl h6 k0 15 = yR r2 := ((f_h6 k0 15).trans (if_neg (fun e => (bRo.ne H_k0 H_r2 (by decide)) e.1))).trans q_r2
          refine yG.load xak rfl (fun _ _ => rfl) (v := yR k0) rfl rfl ?_
          refine yG.getO A_h6.1 (w_Relays_net W H_k0) rfl rfl (fun r7 H_r7 O_r7 q_r7 => ?_)
          refine yG.num (c := 1) rfl (fun _ _ => rfl) (by decide) ?_
          refine yG.load xik rfl (fun _ _ => rfl) (v := yI (a4)) rfl rfl ?_
          refine yG.num (c := 0) rfl (fun _ _ => rfl) (by decide) ?_
          refine yG.num (c := 0) rfl (fun _ _ => rfl) (by decide) ?_
          refine yG.invV (rest := []) A_h6.1 (bOb (d_Net W) H_r7) rfl rfl rfl rfl (c_Net_put_1_0 W d A_h6.1 H_r7 (a4) (0) (by omega) (by omega) (by omega) (by omega)) (fun rv h8 q9 => ?_)
          obtain ⟨⟨rfl, R_z9⟩, B_h8⟩ := q9
          have A_h8 := A_h6.tr B_h8 (by decide)
          have qq2 : zsl h8 k0 15 = yR r2 := (B_h8.sl H_k0 (by decide)).trans qq1
          show yG _ _ _ _ _ _ _ _ _ _ [] _
          refine yG.load xak rfl (fun _ _ => rfl) (v := yR k0) rfl rfl ?_
          refine yG.getI A_h8.1 (w_Relays_openedCount W H_k0) rfl rfl (fun z10 e_z10 i_z10 l_z10 u_z10 => ?_)
          refine yG.num (c := 24) rfl (fun _ _ => rfl) (by decide) ?_
          refine yG.icmp rfl (t := 91) rfl ⟨by omega, by omega⟩ ⟨by omega, by omega⟩ (fun c11 => ?_) (fun c11 => ?_)
          · have c11 : (z10 : Int) ≥ 24 := c11
            refine yG.iinc rfl (a := a3) rfl (L' := [(3, yI (a3 + 1)), (0, yR k0), (1, yJ (p1)), (4, yI (a4))]) rfl ?_
            refine yG.iinc rfl (a := a4) rfl (L' := [(4, yI (a4 + 1)), (3, yI (a3 + 1)), (0, yR k0), (1, yJ (p1))]) rfl ?_
            refine yG.goto rfl (t := 5) rfl ?_
            exact yG.mono (yG.sub (i_5 (a3 + 1) (a4 + 1)  h8 A_h8   (by omega) (by omega) (by omega) (by omega) (by omega) (by omega) (by omega) (by omega)) (ySub.cons rfl (ySub.cons rfl (ySub.cons rfl (ySub.cons rfl (ySub.nil)))))) (by omega)
          · have c11 : (z10 : Int) < 24 := c11
            refine yG.load xak rfl (fun _ _ => rfl) (v := yR k0) rfl rfl ?_
            refine yG.getO A_h8.1 (w_Relays_opened W H_k0) rfl rfl (fun r12 H_r12 O_r12 q_r12 => ?_)
            refine yG.load xak rfl (fun _ _ => rfl) (v := yR k0) rfl rfl ?_
            refine yG.getI A_h8.1 (w_Relays_openedCount W H_k0) rfl rfl (fun z13 e_z13 i_z13 l_z13 u_z13 => ?_)
            refine yG.aaldO (r := 95) A_h8.1 (v_Relays_opened W H_r12) rfl rfl rfl (by omega) (by omega) (fun r14 H_r14 q_r14 => ?_)
            refine yG.num (c := 0) rfl (fun _ _ => rfl) (by decide) ?_
            refine yG.load xik rfl (fun _ _ => rfl) (v := yI (a4)) rfl rfl ?_
            refine yG.i2l rfl ⟨by omega, by omega⟩ ?_
            refine yG.last A_h8.1 (v_Relays_openeds W H_r14) (W.2.1 _ _ H_r14 (by decide) (by decide)) rfl (by omega) (by omega) ⟨by omega, by omega⟩ (by omega) (by omega) (fun h15 T_h15 b_h15 f_h15 y_h15 => ?_)
            have A_h15 := A_h8.put T_h15 b_h15 f_h15 H_r14 (bAll_ok (by decide) _)
            have qq3 : zsl h15 k0 15 = yR r2 := ((f_h15 k0 15).trans (if_neg (fun e => (bRo.ne H_k0 H_r14 (by decide)) e.1))).trans qq2
            have : ys h15 k0 19 = ys h8 k0 19 := (y_h15 k0 19).trans (if_neg (fun e => (bRo.ne H_k0 H_r14 (by decide)) e.1))
            have qq4 : zsl h15 k0 18 = yR r12 := ((f_h15 k0 18).trans (if_neg (fun e => (bRo.ne H_k0 H_r14 (by decide)) e.1))).trans q_r12
            refine yG.load xak rfl (fun _ _ => rfl) (v := yR k0) rfl rfl ?_
            refine yG.getS9 A_h15.1 (w_Relays_opened W H_k0) qq4 rfl rfl ?_
            refine yG.load xak rfl (fun _ _ => rfl) (v := yR k0) rfl rfl ?_
            refine yG.getI A_h15.1 (w_Relays_openedCount W H_k0) rfl rfl (fun z16 e_z16 i_z16 l_z16 u_z16 => ?_)
            refine yG.aaldO (r := 95) A_h15.1 (v_Relays_opened W H_r12) rfl rfl rfl (by omega) (by omega) (fun r17 H_r17 q_r17 => ?_)
            refine yG.num (c := 1) rfl (fun _ _ => rfl) (by decide) ?_
            refine yG.load xlk2 rfl (fun _ _ => rfl) (v := yJ (p1)) rfl rfl ?_
            refine yG.last A_h15.1 (v_Relays_openeds W H_r17) (W.2.1 _ _ H_r17 (by decide) (by decide)) rfl (by omega) (by omega) ⟨by omega, by omega⟩ (by omega) (by omega) (fun h18 T_h18 b_h18 f_h18 y_h18 => ?_)
            have A_h18 := A_h15.put T_h18 b_h18 f_h18 H_r17 (bAll_ok (by decide) _)
            have qq5 : zsl h18 k0 15 = yR r2 := ((f_h18 k0 15).trans (if_neg (fun e => (bRo.ne H_k0 H_r17 (by decide)) e.1))).trans qq3
            have : ys h18 k0 19 = ys h15 k0 19 := (y_h18 k0 19).trans (if_neg (fun e => (bRo.ne H_k0 H_r17 (by decide)) e.1))
            have qq6 : zsl h18 k0 18 = yR r12 := ((f_h18 k0 18).trans (if_neg (fun e => (bRo.ne H_k0 H_r17 (by decide)) e.1))).trans qq4
            refine yG.load xak rfl (fun _ _ => rfl) (v := yR k0) rfl rfl ?_
            refine yG.step (pc' := 83) (stk' := [yR k0, yR k0]) rfl (fun _ _ => rfl) ?_
            refine yG.getI A_h18.1 (w_Relays_openedCount W H_k0) rfl rfl (fun z19 e_z19 i_z19 l_z19 u_z19 => ?_)
            refine yG.num (c := 1) rfl (fun _ _ => rfl) (by decide) ?_
            refine yG.iadd rfl ?_
            refine yG.putI A_h18.1 (w_Relays_openedCount W H_k0) (W.2.1 _ _ H_k0 (by decide) (by decide)) rfl rfl (.inl rfl) ⟨by omega, by omega⟩ (by omega) (by omega) (fun h20 T_h20 b_h20 f_h20 y_h20 => ?_)
            have A_h20 := A_h18.put T_h20 b_h20 f_h20 H_k0 (by decide)
            have qq7 : zsl h20 k0 15 = yR r2 := ((f_h20 k0 15).trans (if_neg (fun e => absurd e.2 (by decide)))).trans qq5
            have qq8 : zsl h20 k0 18 = yR r12 := ((f_h20 k0 18).trans (if_neg (fun e => absurd e.2 (by decide)))).trans qq6
            have : ys h20 k0 19 = z19 + 1 := (y_h20 k0 19).trans (if_pos ⟨rfl, rfl⟩)
            refine yG.iinc rfl (a := a3) rfl (L' := [(3, yI (a3 + 1)), (0, yR k0), (1, yJ (p1)), (4, yI (a4))]) rfl ?_
            refine yG.iinc rfl (a := a4) rfl (L' := [(4, yI (a4 + 1)), (3, yI (a3 + 1)), (0, yR k0), (1, yJ (p1))]) rfl ?_
            refine yG.goto rfl (t := 5) rfl ?_
            exact yG.mono (yG.sub (i_5 (a3 + 1) (a4 + 1)  h20 A_h20   (by omega) (by omega) (by omega) (by omega) (by omega) (by omega) (by omega) (by omega)) (ySub.cons rfl (ySub.cons rfl (ySub.cons rfl (ySub.cons rfl (ySub.nil)))))) (by omega)
  refine yC.of (M := (xt_X6_openAll, (5, (1, (7, []))))) rfl rfl (N := 2808) (yfuel (by decide)) ?_
  show yG 89 xfts (xcall 89 xfts xpools xms (d + 1)) (xpool xp_RX6) [] xt_X6_openAll (yP 1 (bQi G [(2417851639229258349412352, 19), (42089961335702929346587000832, 256)] hp 0 24 (fun _ => True))) 2808 0 [(0, yR k0), (1, yJ (p1))] [] hp
  have i_5 := H 51
  refine yG.num (c := 0) rfl (fun _ _ => rfl) (by decide) ?_
  refine yG.store1 xik (L' := [(3, yI (0)), (0, yR k0), (1, yJ (p1))]) rfl (fun _ _ => rfl) rfl rfl ?_
  refine yG.num (c := 0) rfl (fun _ _ => rfl) (by decide) ?_
  refine yG.store1 xik (L' := [(4, yI (0)), (3, yI (0)), (0, yR k0), (1, yJ (p1))]) rfl (fun _ _ => rfl) rfl rfl ?_
  exact yG.mono (yG.sub (i_5 (0) (0)  hp A_hp   (by omega) (by omega) (by omega) (by omega) (by omega) (by omega) (by omega) (by omega)) (ySub.cons rfl (ySub.cons rfl (ySub.cons rfl (ySub.cons rfl (ySub.nil)))))) (by omega)
theorem c_Relays_nodeOf_0 {hp : xH} (W : bW G) (d : Nat) (hT : zTy G hp) {k0 : Nat} (H_k0 : bRo G 81 k0) (p1 : Int) (h1l : 0 ≤ p1) (h1u : p1 ≤ 23) : yC (xcall 89 xfts xpools xms (d + 2)) 178 [yR k0, yI (p1), yI (0)] hp (bQpi hp 0 15 (fun _ => True)) := by
  have A_hp : bAx G [] hp hp := bAx.rf hT
  refine yC.of (M := (xt_X6_nodeOf, (3, (1, (7, []))))) rfl rfl (N := 48) (yfuel (by decide)) ?_
  show yG 89 xfts (xcall 89 xfts xpools xms (d + 1)) (xpool xp_RX6) [] xt_X6_nodeOf (yP 1 (bQpi hp 0 15 (fun _ => True))) 48 0 [(0, yR k0), (1, yI (p1)), (2, yI (0))] [] hp
  refine yG.load xak rfl (fun _ _ => rfl) (v := yR k0) rfl rfl ?_
  refine yG.getO A_hp.1 (w_Relays_shorts W H_k0) rfl rfl (fun r1 H_r1 O_r1 q_r1 => ?_)
  refine yG.getO A_hp.1 (w_Shorts_shape W H_r1) rfl rfl (fun r2 H_r2 O_r2 q_r2 => ?_)
  refine yG.getO A_hp.1 (w_Shape_node W H_r2) rfl rfl (fun r3 H_r3 O_r3 q_r3 => ?_)
  refine yG.load xak rfl (fun _ _ => rfl) (v := yR k0) rfl rfl ?_
  refine yG.getO A_hp.1 (w_Relays_net W H_k0) rfl rfl (fun r4 H_r4 O_r4 q_r4 => ?_)
  refine yG.num (c := 1) rfl (fun _ _ => rfl) (by decide) ?_
  refine yG.load xik rfl (fun _ _ => rfl) (v := yI (p1)) rfl rfl ?_
  refine yG.num (c := 3) rfl (fun _ _ => rfl) (by decide) ?_
  refine yG.load xik rfl (fun _ _ => rfl) (v := yI (0)) rfl rfl ?_
  refine yG.iadd rfl ?_
  rw [show (3 + 0 : Int) = 3 by omega]
  refine yG.invV (rest := [yR r3]) A_hp.1 (bOb (d_Net W) H_r4) rfl rfl rfl rfl (c_Net_at_1_3 W d A_hp.1 H_r4 (p1) (by omega) (by omega)) (fun rv hp9 q9 => ?_)
  obtain ⟨⟨z5, rfl, l_z5, u_z5, R_z5⟩, e9⟩ := q9
  rw [e9]
  show yG _ _ _ _ _ _ _ _ _ _ (yI z5 :: [yR r3]) _
  refine yG.ialdF A_hp.1 (v_Shape_node W H_r3) rfl rfl (by omega) (by omega) (fun z6 e_z6 i_z6 l_z6 u_z6 => ?_)
  refine yG.ret rfl (fun _ _ => rfl) ?_
  exact (yP.int ⟨by omega, by omega⟩ ⟨⟨z6, rfl, by omega, by omega, trivial⟩, rfl⟩)
theorem c_Relays_nodeOf_1 {hp : xH} (W : bW G) (d : Nat) (hT : zTy G hp) {k0 : Nat} (H_k0 : bRo G 81 k0) (p1 : Int) (h1l : 0 ≤ p1) (h1u : p1 ≤ 23) : yC (xcall 89 xfts xpools xms (d + 2)) 178 [yR k0, yI (p1), yI (1)] hp (bQpi hp 0 15 (fun _ => True)) := by
  have A_hp : bAx G [] hp hp := bAx.rf hT
  refine yC.of (M := (xt_X6_nodeOf, (3, (1, (7, []))))) rfl rfl (N := 48) (yfuel (by decide)) ?_
  show yG 89 xfts (xcall 89 xfts xpools xms (d + 1)) (xpool xp_RX6) [] xt_X6_nodeOf (yP 1 (bQpi hp 0 15 (fun _ => True))) 48 0 [(0, yR k0), (1, yI (p1)), (2, yI (1))] [] hp
  refine yG.load xak rfl (fun _ _ => rfl) (v := yR k0) rfl rfl ?_
  refine yG.getO A_hp.1 (w_Relays_shorts W H_k0) rfl rfl (fun r1 H_r1 O_r1 q_r1 => ?_)
  refine yG.getO A_hp.1 (w_Shorts_shape W H_r1) rfl rfl (fun r2 H_r2 O_r2 q_r2 => ?_)
  refine yG.getO A_hp.1 (w_Shape_node W H_r2) rfl rfl (fun r3 H_r3 O_r3 q_r3 => ?_)
  refine yG.load xak rfl (fun _ _ => rfl) (v := yR k0) rfl rfl ?_
  refine yG.getO A_hp.1 (w_Relays_net W H_k0) rfl rfl (fun r4 H_r4 O_r4 q_r4 => ?_)
  refine yG.num (c := 1) rfl (fun _ _ => rfl) (by decide) ?_
  refine yG.load xik rfl (fun _ _ => rfl) (v := yI (p1)) rfl rfl ?_
  refine yG.num (c := 3) rfl (fun _ _ => rfl) (by decide) ?_
  refine yG.load xik rfl (fun _ _ => rfl) (v := yI (1)) rfl rfl ?_
  refine yG.iadd rfl ?_
  rw [show (3 + 1 : Int) = 4 by omega]
  refine yG.invV (rest := [yR r3]) A_hp.1 (bOb (d_Net W) H_r4) rfl rfl rfl rfl (c_Net_at_1_4 W d A_hp.1 H_r4 (p1) (by omega) (by omega)) (fun rv hp9 q9 => ?_)
  obtain ⟨⟨z5, rfl, l_z5, u_z5, R_z5⟩, e9⟩ := q9
  rw [e9]
  show yG _ _ _ _ _ _ _ _ _ _ (yI z5 :: [yR r3]) _
  refine yG.ialdF A_hp.1 (v_Shape_node W H_r3) rfl rfl (by omega) (by omega) (fun z6 e_z6 i_z6 l_z6 u_z6 => ?_)
  refine yG.ret rfl (fun _ _ => rfl) ?_
  exact (yP.int ⟨by omega, by omega⟩ ⟨⟨z6, rfl, by omega, by omega, trivial⟩, rfl⟩)
theorem c_Relays_command {hp : xH} (W : bW G) (d : Nat) (hT : zTy G hp) {k0 : Nat} (H_k0 : bRo G 81 k0) (p1 p2 : Int) (h1l : 0 ≤ p1) (h1u : p1 ≤ 23) (h2l : (-9223372036854775808) ≤ p2) (h2u : p2 ≤ 9223372036854775807) : yC (xcall 89 xfts xpools xms (d + 2)) 173 [yR k0, yI (p1), yJ (p2)] hp (bQi G [(17331160549995323848587739136, 256)] hp 0 1 (fun _ => True)) := by
  have A_hp : bAx G [(17331160549995323848587739136, 256)] hp hp := bAx.rf hT
  refine yC.of (M := (xt_X6_command, (6, (4, (7, []))))) rfl rfl (N := 138) (yfuel (by decide)) ?_
  show yG 89 xfts (xcall 89 xfts xpools xms (d + 1)) (xpool xp_RX6) [] xt_X6_command (yP 4 (bQi G [(17331160549995323848587739136, 256)] hp 0 1 (fun _ => True))) 138 0 [(0, yR k0), (1, yI (p1)), (2, yJ (p2))] [] hp
  refine yG.load xak rfl (fun _ _ => rfl) (v := yR k0) rfl rfl ?_
  refine yG.getO A_hp.1 (w_Relays_hasOrder W H_k0) rfl rfl (fun r1 H_r1 O_r1 q_r1 => ?_)
  refine yG.load xik rfl (fun _ _ => rfl) (v := yI (p1)) rfl rfl ?_
  refine yG.bald A_hp.1 (v_Relays_hasOrder W H_r1) rfl (by omega) (by omega) (fun z2 e_z2 i_z2 l_z2 u_z2 => ?_)
  refine yG.ifz rfl (t := 22) rfl ⟨by omega, by omega⟩ (fun c3 => ?_) (fun c3 => ?_)
  · have c3 : (z2 : Int) ≠ 0 := c3
    refine yG.num (c := 0) rfl (fun _ _ => rfl) (by decide) ?_
    refine yG.ret rfl (fun _ _ => rfl) ?_
    exact (yP.bool (by omega) ⟨⟨0, rfl, by omega, by omega, trivial⟩, A_hp⟩)
  · have c3 : (z2 : Int) = 0 := c3
    refine yG.load xak rfl (fun _ _ => rfl) (v := yR k0) rfl rfl ?_
    refine yG.getO A_hp.1 (w_Relays_net W H_k0) rfl rfl (fun r4 H_r4 O_r4 q_r4 => ?_)
    refine yG.num (c := 1) rfl (fun _ _ => rfl) (by decide) ?_
    refine yG.load xik rfl (fun _ _ => rfl) (v := yI (p1)) rfl rfl ?_
    refine yG.num (c := 0) rfl (fun _ _ => rfl) (by decide) ?_
    refine yG.invV (rest := []) A_hp.1 (bOb (d_Net W) H_r4) rfl rfl rfl rfl (c_Net_is_1 W d A_hp.1 H_r4 (p1) (0) (by omega) (by omega) (by omega) (by omega)) (fun rv hp9 q9 => ?_)
    obtain ⟨⟨z5, rfl, l_z5, u_z5, R_z5⟩, e9⟩ := q9
    rw [e9]
    show yG _ _ _ _ _ _ _ _ _ _ (yI z5 :: []) _
    refine yG.ifz rfl (t := 24) rfl ⟨by omega, by omega⟩ (fun c6 => ?_) (fun c6 => ?_)
    · have c6 : (z5 : Int) ≠ 0 := c6
      refine yG.load xak rfl (fun _ _ => rfl) (v := yR k0) rfl rfl ?_
      refine yG.getS9 A_hp.1 (w_Relays_hasOrder W H_k0) q_r1 rfl rfl ?_
      refine yG.load xik rfl (fun _ _ => rfl) (v := yI (p1)) rfl rfl ?_
      refine yG.num (c := 1) rfl (fun _ _ => rfl) (by decide) ?_
      refine yG.bast A_hp.1 (v_Relays_hasOrder W H_r1) (W.2.1 _ _ H_r1 (by decide) (by decide)) rfl (by omega) (by omega) ⟨by omega, by omega⟩ (by omega) (by omega) (fun h7 T_h7 b_h7 f_h7 y_h7 => ?_)
      have A_h7 := A_hp.put T_h7 b_h7 f_h7 H_r1 (bAll_ok (by decide) _)
      have qq1 : zsl h7 k0 17 = yR r1 := ((f_h7 k0 17).trans (if_neg (fun e => (bRo.ne H_k0 H_r1 (by decide)) e.1))).trans q_r1
      have qq2 : zsl h7 k0 12 = yR r4 := ((f_h7 k0 12).trans (if_neg (fun e => (bRo.ne H_k0 H_r1 (by decide)) e.1))).trans q_r4
      refine yG.load xlk2 rfl (fun _ _ => rfl) (v := yJ (p2)) rfl rfl ?_
      refine yG.load xak rfl (fun _ _ => rfl) (v := yR k0) rfl rfl ?_
      refine yG.getS9 A_h7.1 (w_Relays_net W H_k0) qq2 rfl rfl ?_
      refine yG.num (c := 1) rfl (fun _ _ => rfl) (by decide) ?_
      refine yG.load xik rfl (fun _ _ => rfl) (v := yI (p1)) rfl rfl ?_
      refine yG.num (c := 1) rfl (fun _ _ => rfl) (by decide) ?_
      refine yG.invV (rest := [yJ (p2)]) A_h7.1 (bOb (d_Net W) H_r4) rfl rfl rfl rfl (c_Net_at_1_1 W d A_h7.1 H_r4 (p1) (by omega) (by omega)) (fun rv hp9 q9 => ?_)
      obtain ⟨⟨z8, rfl, l_z8, u_z8, R_z8⟩, e9⟩ := q9
      rw [e9]
      show yG _ _ _ _ _ _ _ _ _ _ (yI z8 :: [yJ (p2)]) _
      refine yG.i2l rfl ⟨by omega, by omega⟩ ?_
      refine yG.ladd rfl ?_
      obtain ⟨z9, e_z9, l_z9, u_z9⟩ := ywJ (p2 + z8)
      rw [e_z9]
      refine yG.store2 xlk2 (L' := [(4, yJ (z9)), (0, yR k0), (1, yI (p1)), (2, yJ (p2))]) rfl (fun _ _ => rfl) rfl rfl ?_
      refine yG.load xak rfl (fun _ _ => rfl) (v := yR k0) rfl rfl ?_
      refine yG.getO A_h7.1 (w_Relays_failing W H_k0) rfl rfl (fun r10 H_r10 O_r10 q_r10 => ?_)
      refine yG.load xik rfl (fun _ _ => rfl) (v := yI (p1)) rfl rfl ?_
      refine yG.bald A_h7.1 (v_Relays_failing W H_r10) rfl (by omega) (by omega) (fun z11 e_z11 i_z11 l_z11 u_z11 => ?_)
      refine yG.ifz rfl (t := 72) rfl ⟨by omega, by omega⟩ (fun c12 => ?_) (fun c12 => ?_)
      · have c12 : (z11 : Int) = 0 := c12
        refine yG.load xak rfl (fun _ _ => rfl) (v := yR k0) rfl rfl ?_
        refine yG.getO A_h7.1 (w_Relays_openAt W H_k0) rfl rfl (fun r13 H_r13 O_r13 q_r13 => ?_)
        refine yG.load xik rfl (fun _ _ => rfl) (v := yI (p1)) rfl rfl ?_
        refine yG.load xlk2 rfl (fun _ _ => rfl) (v := yJ (z9)) rfl rfl ?_
        refine yG.last A_h7.1 (v_Relays_openAt W H_r13) (W.2.1 _ _ H_r13 (by decide) (by decide)) rfl (by omega) (by omega) ⟨by omega, by omega⟩ (by omega) (by omega) (fun h14 T_h14 b_h14 f_h14 y_h14 => ?_)
        have A_h14 := A_h7.put T_h14 b_h14 f_h14 H_r13 (bAll_ok (by decide) _)
        have qq3 : zsl h14 k0 17 = yR r1 := ((f_h14 k0 17).trans (if_neg (fun e => (bRo.ne H_k0 H_r13 (by decide)) e.1))).trans qq1
        have qq4 : zsl h14 k0 12 = yR r4 := ((f_h14 k0 12).trans (if_neg (fun e => (bRo.ne H_k0 H_r13 (by decide)) e.1))).trans qq2
        refine yG.num (c := 1) rfl (fun _ _ => rfl) (by decide) ?_
        refine yG.ret rfl (fun _ _ => rfl) ?_
        exact (yP.bool (by omega) ⟨⟨1, rfl, by omega, by omega, trivial⟩, A_h14⟩)
      · have c12 : (z11 : Int) ≠ 0 := c12
        refine yG.load xak rfl (fun _ _ => rfl) (v := yR k0) rfl rfl ?_
        refine yG.getO A_h7.1 (w_Relays_backupAt W H_k0) rfl rfl (fun r15 H_r15 O_r15 q_r15 => ?_)
        refine yG.load xik rfl (fun _ _ => rfl) (v := yI (p1)) rfl rfl ?_
        refine yG.load xlk2 rfl (fun _ _ => rfl) (v := yJ (z9)) rfl rfl ?_
        refine yG.load xak rfl (fun _ _ => rfl) (v := yR k0) rfl rfl ?_
        refine yG.getI A_h7.1 (w_Relays_later W H_k0) rfl rfl (fun z16 e_z16 i_z16 l_z16 u_z16 => ?_)
        refine yG.i2l rfl ⟨by omega, by omega⟩ ?_
        refine yG.ladd rfl ?_
        obtain ⟨z17, e_z17, l_z17, u_z17⟩ := ywJ (z9 + z16)
        rw [e_z17]
        refine yG.last A_h7.1 (v_Relays_backupAt W H_r15) (W.2.1 _ _ H_r15 (by decide) (by decide)) rfl (by omega) (by omega) ⟨by omega, by omega⟩ (by omega) (by omega) (fun h18 T_h18 b_h18 f_h18 y_h18 => ?_)
        have A_h18 := A_h7.put T_h18 b_h18 f_h18 H_r15 (bAll_ok (by decide) _)
        have qq5 : zsl h18 k0 17 = yR r1 := ((f_h18 k0 17).trans (if_neg (fun e => (bRo.ne H_k0 H_r15 (by decide)) e.1))).trans qq1
        have qq6 : zsl h18 k0 12 = yR r4 := ((f_h18 k0 12).trans (if_neg (fun e => (bRo.ne H_k0 H_r15 (by decide)) e.1))).trans qq2
        refine yG.goto rfl (t := 80) rfl ?_
        refine yG.num (c := 1) rfl (fun _ _ => rfl) (by decide) ?_
        refine yG.ret rfl (fun _ _ => rfl) ?_
        exact (yP.bool (by omega) ⟨⟨1, rfl, by omega, by omega, trivial⟩, A_h18⟩)
    · have c6 : (z5 : Int) = 0 := c6
      refine yG.num (c := 0) rfl (fun _ _ => rfl) (by decide) ?_
      refine yG.ret rfl (fun _ _ => rfl) ?_
      exact (yP.bool (by omega) ⟨⟨0, rfl, by omega, by omega, trivial⟩, A_hp⟩)
theorem c_Relays_backUp {hp : xH} (W : bW G) (d : Nat) (hT : zTy G hp) {k0 : Nat} (H_k0 : bRo G 81 k0) (p1 p2 : Int) (h1l : 0 ≤ p1) (h1u : p1 ≤ 23) (h2l : (-9223372036854775808) ≤ p2) (h2u : p2 ≤ 9223372036854775807) : yC (xcall 89 xfts xpools xms (d + 3)) 170 [yR k0, yI (p1), yJ (p2)] hp (fun rv hp' => (rv = none ∧ True) ∧ bAx G [(17331160549995323848587739136, 256)] hp hp') := by
  have A_hp : bAx G [(17331160549995323848587739136, 256)] hp hp := bAx.rf hT
  have H : ∀ m : Nat, (∀ a4 : Int, ∀ a5 : Int, ∀ a6 : Int, ∀ hq, bAx G [(17331160549995323848587739136, 256)] hp hq → 0 ≤ a4 → (-15) ≤ 0 - a4 → 0 ≤ a5 → (-15) ≤ 0 - a5 → 0 ≤ a6 → (-24) ≤ 0 - a6 → 0 ≤ p1 → (-23) ≤ 0 - p1 → (-9223372036854775808) ≤ p2 → (-9223372036854775807) ≤ 0 - p2 → 0 - 3 * a6 + 74 < (m : Int) → yG 89 xfts (xcall 89 xfts xpools xms (d + 2)) (xpool xp_RX6) [] xt_X6_backUp (yP 0 (fun rv hp' => (rv = none ∧ True) ∧ bAx G [(17331160549995323848587739136, 256)] hp hp')) (36 * m) 19 [(0, yR k0), (1, yI (p1)), (2, yJ (p2)), (4, yI (a4)), (5, yI (a5)), (6, yI (a6))] [] hq) ∧ (∀ a4 : Int, ∀ a5 : Int, ∀ a6 : Int, ∀ hq, bAx G [(17331160549995323848587739136, 256)] hp hq → 0 ≤ a4 → (-15) ≤ 0 - a4 → 0 ≤ a5 → (-15) ≤ 0 - a5 → 0 ≤ a6 → (-23) ≤ 0 - a6 → 0 ≤ p1 → (-23) ≤ 0 - p1 → (-9223372036854775808) ≤ p2 → (-9223372036854775807) ≤ 0 - p2 → 0 - 3 * a6 + 73 < (m : Int) → yG 89 xfts (xcall 89 xfts xpools xms (d + 2)) (xpool xp_RX6) [] xt_X6_backUp (yP 0 (fun rv hp' => (rv = none ∧ True) ∧ bAx G [(17331160549995323848587739136, 256)] hp hp')) (36 * m) 85 [(0, yR k0), (1, yI (p1)), (2, yJ (p2)), (4, yI (a4)), (5, yI (a5)), (6, yI (a6))] [] hq) := by
    intro m
    induction m with
    | zero =>
      refine ⟨?_, ?_⟩ <;> (intros; exfalso; omega)
    | succ m ih =>
      obtain ⟨i_19, i_85⟩ := ih
      refine ⟨?_, ?_⟩
      · intro a4 a5 a6 hq A_hq f0 f1 f2 f3 f4 f5 f6 f7 f8 f9 hm
        refine yG.mono (N := 36 * m + 36) ?_ (by omega)
        refine yG.load xik rfl (fun _ _ => rfl) (v := yI (a6)) rfl rfl ?_
        refine yG.load xak rfl (fun _ _ => rfl) (v := yR k0) rfl rfl ?_
        refine yG.getO A_hq.1 (w_Relays_net W H_k0) rfl rfl (fun r1 H_r1 O_r1 q_r1 => ?_)
        refine yG.getO A_hq.1 (w_Net_count W H_r1) rfl rfl (fun r2 H_r2 O_r2 q_r2 => ?_)
        refine yG.num (c := 1) rfl (fun _ _ => rfl) (by decide) ?_
        refine yG.ialdF A_hq.1 (v_Net_count W H_r2) rfl rfl (by omega) (by omega) (fun z3 e_z3 i_z3 l_z3 u_z3 => ?_)
        refine yG.icmp rfl (t := 99) rfl ⟨by omega, by omega⟩ ⟨by omega, by omega⟩ (fun c4 => ?_) (fun c4 => ?_)
        · have c4 : (a6 : Int) ≥ z3 := c4
          refine yG.ret rfl (fun _ _ => rfl) ?_
          exact (yP.void ⟨⟨rfl, trivial⟩, A_hq⟩)
        · have c4 : (a6 : Int) < z3 := c4
          refine yG.load xak rfl (fun _ _ => rfl) (v := yR k0) rfl rfl ?_
          refine yG.load xik rfl (fun _ _ => rfl) (v := yI (a6)) rfl rfl ?_
          refine yG.num (c := 0) rfl (fun _ _ => rfl) (by decide) ?_
          refine yG.invV (rest := []) A_hq.1 (bOb (d_Relays W) H_k0) rfl rfl rfl rfl (c_Relays_nodeOf_0 W d A_hq.1 H_k0 (a6) (by omega) (by omega)) (fun rv hp9 q9 => ?_)
          obtain ⟨⟨z5, rfl, l_z5, u_z5, R_z5⟩, e9⟩ := q9
          rw [e9]
          show yG _ _ _ _ _ _ _ _ _ _ (yI z5 :: []) _
          refine yG.store1 xik (L' := [(7, yI (z5)), (0, yR k0), (1, yI (p1)), (2, yJ (p2)), (4, yI (a4)), (5, yI (a5)), (6, yI (a6))]) rfl (fun _ _ => rfl) rfl rfl ?_
          refine yG.load xak rfl (fun _ _ => rfl) (v := yR k0) rfl rfl ?_
          refine yG.load xik rfl (fun _ _ => rfl) (v := yI (a6)) rfl rfl ?_
          refine yG.num (c := 1) rfl (fun _ _ => rfl) (by decide) ?_
          refine yG.invV (rest := []) A_hq.1 (bOb (d_Relays W) H_k0) rfl rfl rfl rfl (c_Relays_nodeOf_1 W d A_hq.1 H_k0 (a6) (by omega) (by omega)) (fun rv hp9 q9 => ?_)
          obtain ⟨⟨z6, rfl, l_z6, u_z6, R_z6⟩, e9⟩ := q9
          rw [e9]
          show yG _ _ _ _ _ _ _ _ _ _ (yI z6 :: []) _
          refine yG.store1 xik (L' := [(8, yI (z6)), (7, yI (z5)), (0, yR k0), (1, yI (p1)), (2, yJ (p2)), (4, yI (a4)), (5, yI (a5)), (6, yI (a6))]) rfl (fun _ _ => rfl) rfl rfl ?_
          refine yG.load xik rfl (fun _ _ => rfl) (v := yI (a6)) rfl rfl ?_
          refine yG.load xik rfl (fun _ _ => rfl) (v := yI (p1)) rfl rfl ?_
          refine yG.icmp rfl (t := 93) rfl ⟨by omega, by omega⟩ ⟨by omega, by omega⟩ (fun c7 => ?_) (fun c7 => ?_)
          · have c7 : (a6 : Int) = p1 := c7
            refine yG.iinc rfl (a := a6) rfl (L' := [(6, yI (a6 + 1)), (8, yI (z6)), (7, yI (z5)), (0, yR k0), (1, yI (p1)), (2, yJ (p2)), (4, yI (a4)), (5, yI (a5))]) rfl ?_
            refine yG.goto rfl (t := 19) rfl ?_
            exact yG.mono (yG.sub (i_19 (a4) (a5) (a6 + 1)  hq A_hq   (by omega) (by omega) (by omega) (by omega) (by omega) (by omega) (by omega) (by omega) (by omega) (by omega) (by omega)) (ySub.cons rfl (ySub.cons rfl (ySub.cons rfl (ySub.cons rfl (ySub.cons rfl (ySub.cons rfl (ySub.nil)))))))) (by omega)
          · have c7 : (a6 : Int) ≠ p1 := c7
            refine yG.load xik rfl (fun _ _ => rfl) (v := yI (a4)) rfl rfl ?_
            refine yG.load xik rfl (fun _ _ => rfl) (v := yI (z5)) rfl rfl ?_
            refine yG.icmp rfl (t := 85) rfl ⟨by omega, by omega⟩ ⟨by omega, by omega⟩ (fun c8 => ?_) (fun c8 => ?_)
            · have c8 : (a4 : Int) = z5 := c8
              exact yG.mono (yG.sub (i_85 (a4) (a5) (a6)  hq A_hq   (by omega) (by omega) (by omega) (by omega) (by omega) (by omega) (by omega) (by omega) (by omega) (by omega) (by omega)) (ySub.cons rfl (ySub.cons rfl (ySub.cons rfl (ySub.cons rfl (ySub.cons rfl (ySub.cons rfl (ySub.nil)))))))) (by omega)
            · have c8 : (a4 : Int) ≠ z5 := c8
              refine yG.load xik rfl (fun _ _ => rfl) (v := yI (a4)) rfl rfl ?_
              refine yG.load xik rfl (fun _ _ => rfl) (v := yI (z6)) rfl rfl ?_
              refine yG.icmp rfl (t := 85) rfl ⟨by omega, by omega⟩ ⟨by omega, by omega⟩ (fun c9 => ?_) (fun c9 => ?_)
              · have c9 : (a4 : Int) = z6 := c9
                exact yG.mono (yG.sub (i_85 (a4) (a5) (a6)  hq A_hq   (by omega) (by omega) (by omega) (by omega) (by omega) (by omega) (by omega) (by omega) (by omega) (by omega) (by omega)) (ySub.cons rfl (ySub.cons rfl (ySub.cons rfl (ySub.cons rfl (ySub.cons rfl (ySub.cons rfl (ySub.nil)))))))) (by omega)
              · have c9 : (a4 : Int) ≠ z6 := c9
                refine yG.load xik rfl (fun _ _ => rfl) (v := yI (a5)) rfl rfl ?_
                refine yG.load xik rfl (fun _ _ => rfl) (v := yI (z5)) rfl rfl ?_
                refine yG.icmp rfl (t := 85) rfl ⟨by omega, by omega⟩ ⟨by omega, by omega⟩ (fun c10 => ?_) (fun c10 => ?_)
                · have c10 : (a5 : Int) = z5 := c10
                  exact yG.mono (yG.sub (i_85 (a4) (a5) (a6)  hq A_hq   (by omega) (by omega) (by omega) (by omega) (by omega) (by omega) (by omega) (by omega) (by omega) (by omega) (by omega)) (ySub.cons rfl (ySub.cons rfl (ySub.cons rfl (ySub.cons rfl (ySub.cons rfl (ySub.cons rfl (ySub.nil)))))))) (by omega)
                · have c10 : (a5 : Int) ≠ z5 := c10
                  refine yG.load xik rfl (fun _ _ => rfl) (v := yI (a5)) rfl rfl ?_
                  refine yG.load xik rfl (fun _ _ => rfl) (v := yI (z6)) rfl rfl ?_
                  refine yG.icmp rfl (t := 93) rfl ⟨by omega, by omega⟩ ⟨by omega, by omega⟩ (fun c11 => ?_) (fun c11 => ?_)
                  · have c11 : (a5 : Int) ≠ z6 := c11
                    refine yG.iinc rfl (a := a6) rfl (L' := [(6, yI (a6 + 1)), (8, yI (z6)), (7, yI (z5)), (0, yR k0), (1, yI (p1)), (2, yJ (p2)), (4, yI (a4)), (5, yI (a5))]) rfl ?_
                    refine yG.goto rfl (t := 19) rfl ?_
                    exact yG.mono (yG.sub (i_19 (a4) (a5) (a6 + 1)  hq A_hq   (by omega) (by omega) (by omega) (by omega) (by omega) (by omega) (by omega) (by omega) (by omega) (by omega) (by omega)) (ySub.cons rfl (ySub.cons rfl (ySub.cons rfl (ySub.cons rfl (ySub.cons rfl (ySub.cons rfl (ySub.nil)))))))) (by omega)
                  · have c11 : (a5 : Int) = z6 := c11
                    exact yG.mono (yG.sub (i_85 (a4) (a5) (a6)  hq A_hq   (by omega) (by omega) (by omega) (by omega) (by omega) (by omega) (by omega) (by omega) (by omega) (by omega) (by omega)) (ySub.cons rfl (ySub.cons rfl (ySub.cons rfl (ySub.cons rfl (ySub.cons rfl (ySub.cons rfl (ySub.nil)))))))) (by omega)
      · intro a4 a5 a6 hq A_hq f0 f1 f2 f3 f4 f5 f6 f7 f8 f9 hm
        refine yG.mono (N := 36 * m + 36) ?_ (by omega)
        refine yG.load xak rfl (fun _ _ => rfl) (v := yR k0) rfl rfl ?_
        refine yG.load xik rfl (fun _ _ => rfl) (v := yI (a6)) rfl rfl ?_
        refine yG.load xlk2 rfl (fun _ _ => rfl) (v := yJ (p2)) rfl rfl ?_
        refine yG.invV (rest := []) A_hq.1 (bOb (d_Relays W) H_k0) rfl rfl rfl rfl (c_Relays_command W d A_hq.1 H_k0 (a6) (p2) (by omega) (by omega) (by omega) (by omega)) (fun rv h1 q9 => ?_)
        obtain ⟨⟨z2, rfl, l_z2, u_z2, R_z2⟩, B_h1⟩ := q9
        have A_h1 := A_hq.tr B_h1 (by decide)
        show yG _ _ _ _ _ _ _ _ _ _ (yI z2 :: []) _
        refine yG.step (pc' := 93) (stk' := []) rfl (fun _ _ => rfl) ?_
        refine yG.iinc rfl (a := a6) rfl (L' := [(6, yI (a6 + 1)), (0, yR k0), (1, yI (p1)), (2, yJ (p2)), (4, yI (a4)), (5, yI (a5))]) rfl ?_
        refine yG.goto rfl (t := 19) rfl ?_
        exact yG.mono (yG.sub (i_19 (a4) (a5) (a6 + 1)  h1 A_h1   (by omega) (by omega) (by omega) (by omega) (by omega) (by omega) (by omega) (by omega) (by omega) (by omega) (by omega)) (ySub.cons rfl (ySub.cons rfl (ySub.cons rfl (ySub.cons rfl (ySub.cons rfl (ySub.cons rfl (ySub.nil)))))))) (by omega)
  refine yC.of (M := (xt_X6_backUp, (9, (0, (7, []))))) rfl rfl (N := 2772) (yfuel (by decide)) ?_
  show yG 89 xfts (xcall 89 xfts xpools xms (d + 2)) (xpool xp_RX6) [] xt_X6_backUp (yP 0 (fun rv hp' => (rv = none ∧ True) ∧ bAx G [(17331160549995323848587739136, 256)] hp hp')) 2772 0 [(0, yR k0), (1, yI (p1)), (2, yJ (p2))] [] hp
  obtain ⟨i_19, i_85⟩ := H 76
  refine yG.load xak rfl (fun _ _ => rfl) (v := yR k0) rfl rfl ?_
  refine yG.load xik rfl (fun _ _ => rfl) (v := yI (p1)) rfl rfl ?_
  refine yG.num (c := 0) rfl (fun _ _ => rfl) (by decide) ?_
  refine yG.invV (rest := []) A_hp.1 (bOb (d_Relays W) H_k0) rfl rfl rfl rfl (c_Relays_nodeOf_0 W d A_hp.1 H_k0 (p1) (by omega) (by omega)) (fun rv hp9 q9 => ?_)
  obtain ⟨⟨z1, rfl, l_z1, u_z1, R_z1⟩, e9⟩ := q9
  rw [e9]
  show yG _ _ _ _ _ _ _ _ _ _ (yI z1 :: []) _
  refine yG.store1 xik (L' := [(4, yI (z1)), (0, yR k0), (1, yI (p1)), (2, yJ (p2))]) rfl (fun _ _ => rfl) rfl rfl ?_
  refine yG.load xak rfl (fun _ _ => rfl) (v := yR k0) rfl rfl ?_
  refine yG.load xik rfl (fun _ _ => rfl) (v := yI (p1)) rfl rfl ?_
  refine yG.num (c := 1) rfl (fun _ _ => rfl) (by decide) ?_
  refine yG.invV (rest := []) A_hp.1 (bOb (d_Relays W) H_k0) rfl rfl rfl rfl (c_Relays_nodeOf_1 W d A_hp.1 H_k0 (p1) (by omega) (by omega)) (fun rv hp9 q9 => ?_)
  obtain ⟨⟨z2, rfl, l_z2, u_z2, R_z2⟩, e9⟩ := q9
  rw [e9]
  show yG _ _ _ _ _ _ _ _ _ _ (yI z2 :: []) _
  refine yG.store1 xik (L' := [(5, yI (z2)), (4, yI (z1)), (0, yR k0), (1, yI (p1)), (2, yJ (p2))]) rfl (fun _ _ => rfl) rfl rfl ?_
  refine yG.num (c := 0) rfl (fun _ _ => rfl) (by decide) ?_
  refine yG.store1 xik (L' := [(6, yI (0)), (5, yI (z2)), (4, yI (z1)), (0, yR k0), (1, yI (p1)), (2, yJ (p2))]) rfl (fun _ _ => rfl) rfl rfl ?_
  exact yG.mono (yG.sub (i_19 (z1) (z2) (0)  hp A_hp   (by omega) (by omega) (by omega) (by omega) (by omega) (by omega) (by omega) (by omega) (by omega) (by omega) (by omega)) (ySub.cons rfl (ySub.cons rfl (ySub.cons rfl (ySub.cons rfl (ySub.cons rfl (ySub.cons rfl (ySub.nil)))))))) (by omega)
theorem c_Relays_backUpAll {hp : xH} (W : bW G) (d : Nat) (hT : zTy G hp) {k0 : Nat} (H_k0 : bRo G 81 k0) (p1 : Int) (h1l : (-9223372036854775808) ≤ p1) (h1u : p1 ≤ 9223372036854775807) : yC (xcall 89 xfts xpools xms (d + 4)) 171 [yR k0, yJ (p1)] hp (bQi G [(17331160549995323848587739136, 256)] hp 0 24 (fun _ => True)) := by
  have A_hp : bAx G [(17331160549995323848587739136, 256)] hp hp := bAx.rf hT
  have H : ∀ m : Nat, (∀ a3 : Int, ∀ a4 : Int, ∀ hq, bAx G [(17331160549995323848587739136, 256)] hp hq → 0 ≤ a3 → (-24) ≤ 0 - a3 → 0 ≤ a4 → (-24) ≤ 0 - a4 → (-9223372036854775808) ≤ p1 → (-9223372036854775807) ≤ 0 - p1 → 0 ≤ 0 - a3 + a4 → 0 - 2 * a4 + 49 < (m : Int) → yG 89 xfts (xcall 89 xfts xpools xms (d + 3)) (xpool xp_RX6) [] xt_X6_backUpAll (yP 1 (bQi G [(17331160549995323848587739136, 256)] hp 0 24 (fun _ => True))) (24 * m) 5 [(0, yR k0), (1, yJ (p1)), (3, yI (a3)), (4, yI (a4))] [] hq) := by
    intro m
    induction m with
    | zero =>
      intros; exfalso; omega
    | succ m ih =>
      have i_5 := ih
      clear ih
      intro a3 a4 hq A_hq f0 f1 f2 f3 f4 f5 f6 hm
      refine yG.mono (N := 24 * m + 24) ?_ (by omega)
      refine yG.load xik rfl (fun _ _ => rfl) (v := yI (a4)) rfl rfl ?_
      refine yG.num (c := 24) rfl (fun _ _ => rfl) (by decide) ?_
      refine yG.icmp rfl (t := 50) rfl ⟨by omega, by omega⟩ ⟨by omega, by omega⟩ (fun c1 => ?_) (fun c1 => ?_)
      · have c1 : (a4 : Int) ≥ 24 := c1
        refine yG.load xik rfl (fun _ _ => rfl) (v := yI (a3)) rfl rfl ?_
        refine yG.ret rfl (fun _ _ => rfl) ?_
        exact (yP.int ⟨by omega, by omega⟩ ⟨⟨a3, rfl, by omega, by omega, trivial⟩, A_hq⟩)
      · have c1 : (a4 : Int) < 24 := c1
        refine yG.load xak rfl (fun _ _ => rfl) (v := yR k0) rfl rfl ?_
        refine yG.getO A_hq.1 (w_Relays_backupAt W H_k0) rfl rfl (fun r2 H_r2 O_r2 q_r2 => ?_)
        refine yG.load xik rfl (fun _ _ => rfl) (v := yI (a4)) rfl rfl ?_
        refine yG.lald A_hq.1 (v_Relays_backupAt W H_r2) rfl (by omega) (by omega) (fun z3 e_z3 i_z3 l_z3 u_z3 => ?_)
        refine yG.load xlk2 rfl (fun _ _ => rfl) (v := yJ (p1)) rfl rfl ?_
        refine yG.lcmp rfl ⟨by omega, by omega⟩ ⟨by omega, by omega⟩ (fun z4 e_z4 => ?_)
        refine yG.ifz rfl (t := 44) rfl ⟨by omega, by omega⟩ (fun c5 => ?_) (fun c5 => ?_)
        · have c5 : (z4 : Int) ≠ 0 := c5
          refine yG.iinc rfl (a := a4) rfl (L' := [(4, yI (a4 + 1)), (0, yR k0), (1, yJ (p1)), (3, yI (a3))]) rfl ?_
          refine yG.goto rfl (t := 5) rfl ?_
          exact yG.mono (yG.sub (i_5 (a3) (a4 + 1)  hq A_hq   (by omega) (by omega) (by omega) (by omega) (by omega) (by omega) (by omega) (by omega)) (ySub.cons rfl (ySub.cons rfl (ySub.cons rfl (ySub.cons rfl (ySub.nil)))))) (by omega)
        · have c5 : (z4 : Int) = 0 := c5
          refine yG.load xak rfl (fun _ _ => rfl) (v := yR k0) rfl rfl ?_
          refine yG.getS9 A_hq.1 (w_Relays_backupAt W H_k0) q_r2 rfl rfl ?_
          refine yG.load xik rfl (fun _ _ => rfl) (v := yI (a4)) rfl rfl ?_
          refine yG.numl (c := 9223372036854775807) rfl (fun _ _ => rfl) (by decide) ?_
          refine yG.last A_hq.1 (v_Relays_backupAt W H_r2) (W.2.1 _ _ H_r2 (by decide) (by decide)) rfl (by omega) (by omega) ⟨by omega, by omega⟩ (by omega) (by omega) (fun h6 T_h6 b_h6 f_h6 y_h6 => ?_)
          have A_h6 := A_hq.put T_h6 b_h6 f_h6 H_r2 (bAll_ok (by decide) _)
          have qq1 : zsl h6 k0 16 = yR r2 := ((f_h6 k0 16).trans (if_neg (fun e => (bRo.ne H_k0 H_r2 (by decide)) e.1))).trans q_r2
          refine yG.load xak rfl (fun _ _ => rfl) (v := yR k0) rfl rfl ?_
          refine yG.load xik rfl (fun _ _ => rfl) (v := yI (a4)) rfl rfl ?_
          refine yG.load xlk2 rfl (fun _ _ => rfl) (v := yJ (p1)) rfl rfl ?_
          refine yG.invV (rest := []) A_h6.1 (bOb (d_Relays W) H_k0) rfl rfl rfl rfl (c_Relays_backUp W d A_h6.1 H_k0 (a4) (p1) (by omega) (by omega) (by omega) (by omega)) (fun rv h7 q9 => ?_)
          obtain ⟨⟨rfl, R_z8⟩, B_h7⟩ := q9
          have A_h7 := A_h6.tr B_h7 (by decide)
          have qq2 : zsl h7 k0 16 = yR r2 := (B_h7.sl H_k0 (by decide)).trans qq1
          show yG _ _ _ _ _ _ _ _ _ _ [] _
          refine yG.iinc rfl (a := a3) rfl (L' := [(3, yI (a3 + 1)), (0, yR k0), (1, yJ (p1)), (4, yI (a4))]) rfl ?_
          refine yG.iinc rfl (a := a4) rfl (L' := [(4, yI (a4 + 1)), (3, yI (a3 + 1)), (0, yR k0), (1, yJ (p1))]) rfl ?_
          refine yG.goto rfl (t := 5) rfl ?_
          exact yG.mono (yG.sub (i_5 (a3 + 1) (a4 + 1)  h7 A_h7   (by omega) (by omega) (by omega) (by omega) (by omega) (by omega) (by omega) (by omega)) (ySub.cons rfl (ySub.cons rfl (ySub.cons rfl (ySub.cons rfl (ySub.nil)))))) (by omega)
  refine yC.of (M := (xt_X6_backUpAll, (5, (1, (7, []))))) rfl rfl (N := 1248) (yfuel (by decide)) ?_
  show yG 89 xfts (xcall 89 xfts xpools xms (d + 3)) (xpool xp_RX6) [] xt_X6_backUpAll (yP 1 (bQi G [(17331160549995323848587739136, 256)] hp 0 24 (fun _ => True))) 1248 0 [(0, yR k0), (1, yJ (p1))] [] hp
  have i_5 := H 51
  refine yG.num (c := 0) rfl (fun _ _ => rfl) (by decide) ?_
  refine yG.store1 xik (L' := [(3, yI (0)), (0, yR k0), (1, yJ (p1))]) rfl (fun _ _ => rfl) rfl rfl ?_
  refine yG.num (c := 0) rfl (fun _ _ => rfl) (by decide) ?_
  refine yG.store1 xik (L' := [(4, yI (0)), (3, yI (0)), (0, yR k0), (1, yJ (p1))]) rfl (fun _ _ => rfl) rfl rfl ?_
  exact yG.mono (yG.sub (i_5 (0) (0)  hp A_hp   (by omega) (by omega) (by omega) (by omega) (by omega) (by omega) (by omega) (by omega)) (ySub.cons rfl (ySub.cons rfl (ySub.cons rfl (ySub.cons rfl (ySub.nil)))))) (by omega)
theorem c_Relays_tripAll {hp : xH} (W : bW G) (d : Nat) (hT : zTy G hp) {k0 : Nat} (H_k0 : bRo G 81 k0) (p1 : Int) (h1l : (-9223372036854775808) ≤ p1) (h1u : p1 ≤ 9223372036854775807) : yC (xcall 89 xfts xpools xms (d + 3)) 185 [yR k0, yJ (p1)] hp (bQi G [(18569100589280704123486863360, 256)] hp 0 64 (fun _ => True)) := by
  have A_hp : bAx G [(18569100589280704123486863360, 256)] hp hp := bAx.rf hT
  have H : ∀ m : Nat, (∀ a3 : Int, ∀ a4 : Int, ∀ hq, bAx G [(18569100589280704123486863360, 256)] hp hq → 0 ≤ a3 → (-64) ≤ 0 - a3 → 0 ≤ a4 → (-64) ≤ 0 - a4 → (-9223372036854775808) ≤ p1 → (-9223372036854775807) ≤ 0 - p1 → 0 ≤ 0 - a3 + a4 → 0 - 2 * a4 + 129 < (m : Int) → yG 89 xfts (xcall 89 xfts xpools xms (d + 2)) (xpool xp_RX6) [] xt_X6_tripAll (yP 1 (bQi G [(18569100589280704123486863360, 256)] hp 0 64 (fun _ => True))) (37 * m) 5 [(0, yR k0), (1, yJ (p1)), (3, yI (a3)), (4, yI (a4))] [] hq) := by
    intro m
    induction m with
    | zero =>
      intros; exfalso; omega
    | succ m ih =>
      have i_5 := ih
      clear ih
      intro a3 a4 hq A_hq f0 f1 f2 f3 f4 f5 f6 hm
      refine yG.mono (N := 37 * m + 37) ?_ (by omega)
      refine yG.load xik rfl (fun _ _ => rfl) (v := yI (a4)) rfl rfl ?_
      refine yG.load xak rfl (fun _ _ => rfl) (v := yR k0) rfl rfl ?_
      refine yG.getI A_hq.1 (w_Relays_count W H_k0) rfl rfl (fun z1 e_z1 i_z1 l_z1 u_z1 => ?_)
      refine yG.num (c := 4) rfl (fun _ _ => rfl) (by decide) ?_
      refine yG.imul rfl ?_
      refine yG.icmp rfl (t := 69) rfl ⟨by omega, by omega⟩ ⟨by omega, by omega⟩ (fun c2 => ?_) (fun c2 => ?_)
      · have c2 : (a4 : Int) ≥ z1 * 4 := c2
        refine yG.load xik rfl (fun _ _ => rfl) (v := yI (a3)) rfl rfl ?_
        refine yG.ret rfl (fun _ _ => rfl) ?_
        exact (yP.int ⟨by omega, by omega⟩ ⟨⟨a3, rfl, by omega, by omega, trivial⟩, A_hq⟩)
      · have c2 : (a4 : Int) < z1 * 4 := c2
        refine yG.load xak rfl (fun _ _ => rfl) (v := yR k0) rfl rfl ?_
        refine yG.getO A_hq.1 (w_Relays_tripAt W H_k0) rfl rfl (fun r3 H_r3 O_r3 q_r3 => ?_)
        refine yG.load xik rfl (fun _ _ => rfl) (v := yI (a4)) rfl rfl ?_
        refine yG.lald A_hq.1 (v_Relays_tripAt W H_r3) rfl (by omega) (by omega) (fun z4 e_z4 i_z4 l_z4 u_z4 => ?_)
        refine yG.load xlk2 rfl (fun _ _ => rfl) (v := yJ (p1)) rfl rfl ?_
        refine yG.lcmp rfl ⟨by omega, by omega⟩ ⟨by omega, by omega⟩ (fun z5 e_z5 => ?_)
        refine yG.ifz rfl (t := 63) rfl ⟨by omega, by omega⟩ (fun c6 => ?_) (fun c6 => ?_)
        · have c6 : (z5 : Int) ≠ 0 := c6
          refine yG.iinc rfl (a := a4) rfl (L' := [(4, yI (a4 + 1)), (0, yR k0), (1, yJ (p1)), (3, yI (a3))]) rfl ?_
          refine yG.goto rfl (t := 5) rfl ?_
          exact yG.mono (yG.sub (i_5 (a3) (a4 + 1)  hq A_hq   (by omega) (by omega) (by omega) (by omega) (by omega) (by omega) (by omega) (by omega)) (ySub.cons rfl (ySub.cons rfl (ySub.cons rfl (ySub.cons rfl (ySub.nil)))))) (by omega)
        · have c6 : (z5 : Int) = 0 := c6
          refine yG.load xak rfl (fun _ _ => rfl) (v := yR k0) rfl rfl ?_
          refine yG.getS9 A_hq.1 (w_Relays_tripAt W H_k0) q_r3 rfl rfl ?_
          refine yG.load xik rfl (fun _ _ => rfl) (v := yI (a4)) rfl rfl ?_
          refine yG.numl (c := 9223372036854775806) rfl (fun _ _ => rfl) (by decide) ?_
          refine yG.last A_hq.1 (v_Relays_tripAt W H_r3) (W.2.1 _ _ H_r3 (by decide) (by decide)) rfl (by omega) (by omega) ⟨by omega, by omega⟩ (by omega) (by omega) (fun h7 T_h7 b_h7 f_h7 y_h7 => ?_)
          have A_h7 := A_hq.put T_h7 b_h7 f_h7 H_r3 (bAll_ok (by decide) _)
          have qq1 : zsl h7 k0 14 = yR r3 := ((f_h7 k0 14).trans (if_neg (fun e => (bRo.ne H_k0 H_r3 (by decide)) e.1))).trans q_r3
          refine yG.load xik rfl (fun _ _ => rfl) (v := yI (a3)) rfl rfl ?_
          refine yG.load xak rfl (fun _ _ => rfl) (v := yR k0) rfl rfl ?_
          refine yG.load xak rfl (fun _ _ => rfl) (v := yR k0) rfl rfl ?_
          refine yG.getO A_h7.1 (w_Relays_opens W H_k0) rfl rfl (fun r8 H_r8 O_r8 q_r8 => ?_)
          refine yG.load xik rfl (fun _ _ => rfl) (v := yI (a4)) rfl rfl ?_
          refine yG.num (c := 4) rfl (fun _ _ => rfl) (by decide) ?_
          refine yG.idiv rfl ⟨by omega, by omega⟩ ⟨by omega, by omega⟩ (by omega) (by omega) ?_
          obtain ⟨z9, e_z9⟩ : ∃ z : Int, z = (a4) / (4) := ⟨_, rfl⟩
          rw [← e_z9]
          refine yG.iald A_h7.1 (v_Relays_opens W H_r8) rfl (by omega) (by omega) (fun z10 e_z10 i_z10 l_z10 u_z10 => ?_)
          refine yG.load xlk2 rfl (fun _ _ => rfl) (v := yJ (p1)) rfl rfl ?_
          refine yG.invV (rest := [yI (a3)]) A_h7.1 (bOb (d_Relays W) H_k0) rfl rfl rfl rfl (c_Relays_command W d A_h7.1 H_k0 (z10) (p1) (by omega) (by omega) (by omega) (by omega)) (fun rv h11 q9 => ?_)
          obtain ⟨⟨z12, rfl, l_z12, u_z12, R_z12⟩, B_h11⟩ := q9
          have A_h11 := A_h7.tr B_h11 (by decide)
          have qq2 : zsl h11 k0 14 = yR r3 := (B_h11.sl H_k0 (by decide)).trans qq1
          show yG _ _ _ _ _ _ _ _ _ _ (yI z12 :: [yI (a3)]) _
          refine yG.ifz rfl (t := 60) rfl ⟨by omega, by omega⟩ (fun c13 => ?_) (fun c13 => ?_)
          · have c13 : (z12 : Int) = 0 := c13
            refine yG.num (c := 0) rfl (fun _ _ => rfl) (by decide) ?_
            refine yG.iadd rfl ?_
            obtain ⟨z14, e_z14⟩ : ∃ z : Int, z = a3 + 0 := ⟨_, rfl⟩
            rw [← e_z14]
            refine yG.store1 xik (L' := [(3, yI (z14)), (0, yR k0), (1, yJ (p1)), (4, yI (a4))]) rfl (fun _ _ => rfl) rfl rfl ?_
            refine yG.iinc rfl (a := a4) rfl (L' := [(4, yI (a4 + 1)), (3, yI (z14)), (0, yR k0), (1, yJ (p1))]) rfl ?_
            refine yG.goto rfl (t := 5) rfl ?_
            exact yG.mono (yG.sub (i_5 (z14) (a4 + 1)  h11 A_h11   (by omega) (by omega) (by omega) (by omega) (by omega) (by omega) (by omega) (by omega)) (ySub.cons rfl (ySub.cons rfl (ySub.cons rfl (ySub.cons rfl (ySub.nil)))))) (by omega)
          · have c13 : (z12 : Int) ≠ 0 := c13
            refine yG.num (c := 1) rfl (fun _ _ => rfl) (by decide) ?_
            refine yG.goto rfl (t := 61) rfl ?_
            refine yG.iadd rfl ?_
            obtain ⟨z15, e_z15⟩ : ∃ z : Int, z = a3 + 1 := ⟨_, rfl⟩
            rw [← e_z15]
            refine yG.store1 xik (L' := [(3, yI (z15)), (0, yR k0), (1, yJ (p1)), (4, yI (a4))]) rfl (fun _ _ => rfl) rfl rfl ?_
            refine yG.iinc rfl (a := a4) rfl (L' := [(4, yI (a4 + 1)), (3, yI (z15)), (0, yR k0), (1, yJ (p1))]) rfl ?_
            refine yG.goto rfl (t := 5) rfl ?_
            exact yG.mono (yG.sub (i_5 (z15) (a4 + 1)  h11 A_h11   (by omega) (by omega) (by omega) (by omega) (by omega) (by omega) (by omega) (by omega)) (ySub.cons rfl (ySub.cons rfl (ySub.cons rfl (ySub.cons rfl (ySub.nil)))))) (by omega)
  refine yC.of (M := (xt_X6_tripAll, (5, (1, (7, []))))) rfl rfl (N := 4884) (yfuel (by decide)) ?_
  show yG 89 xfts (xcall 89 xfts xpools xms (d + 2)) (xpool xp_RX6) [] xt_X6_tripAll (yP 1 (bQi G [(18569100589280704123486863360, 256)] hp 0 64 (fun _ => True))) 4884 0 [(0, yR k0), (1, yJ (p1))] [] hp
  have i_5 := H 131
  refine yG.num (c := 0) rfl (fun _ _ => rfl) (by decide) ?_
  refine yG.store1 xik (L' := [(3, yI (0)), (0, yR k0), (1, yJ (p1))]) rfl (fun _ _ => rfl) rfl rfl ?_
  refine yG.num (c := 0) rfl (fun _ _ => rfl) (by decide) ?_
  refine yG.store1 xik (L' := [(4, yI (0)), (3, yI (0)), (0, yR k0), (1, yJ (p1))]) rfl (fun _ _ => rfl) rfl rfl ?_
  exact yG.mono (yG.sub (i_5 (0) (0)  hp A_hp   (by omega) (by omega) (by omega) (by omega) (by omega) (by omega) (by omega) (by omega)) (ySub.cons rfl (ySub.cons rfl (ySub.cons rfl (ySub.cons rfl (ySub.nil)))))) (by omega)
theorem c_Relays_advance {hp : xH} (W : bW G) (d : Nat) (hT : zTy G hp) (M_bSh : bSh G hp) {k0 : Nat} (H_k0 : bRo G 81 k0) (p1 : Int) (h1l : (-2147483648) ≤ p1) (h1u : p1 ≤ 2147483647) : yC (xcall 89 xfts xpools xms (d + 8)) 169 [yR k0, yI (p1)] hp (bQi G [(34359738368, 1), (1133871366144, 2), (1099511627776, 3), (37778931862957161709568, 4), (37778931862957161709568, 5), (37778931864056673337344, 6), (37778931864056673337344, 7), (37778931864056673337344, 8), (2251799813685248, 9), (2251799813685248, 10), (2417851641481058163097600, 11), (2417851639229258349412352, 19), (58184466332325510741204402176, 256)] hp (-2147483648) 2147483647 (fun _ => True)) := by
  have A_hp : bAx G [(34359738368, 1), (1133871366144, 2), (1099511627776, 3), (37778931862957161709568, 4), (37778931862957161709568, 5), (37778931864056673337344, 6), (37778931864056673337344, 7), (37778931864056673337344, 8), (2251799813685248, 9), (2251799813685248, 10), (2417851641481058163097600, 11), (2417851639229258349412352, 19), (58184466332325510741204402176, 256)] hp hp := bAx.rf hT
  have H : ∀ m : Nat, (∀ a2 : Int, ∀ a3 : Int, ∀ a5 : Int, ∀ hq, bAx G [(34359738368, 1), (1133871366144, 2), (1099511627776, 3), (37778931862957161709568, 4), (37778931862957161709568, 5), (37778931864056673337344, 6), (37778931864056673337344, 7), (37778931864056673337344, 8), (2251799813685248, 9), (2251799813685248, 10), (2417851641481058163097600, 11), (2417851639229258349412352, 19), (58184466332325510741204402176, 256)] hp hq → (-2147483648) ≤ a2 → (-2147483647) ≤ 0 - a2 → (-9223372036854775808) ≤ a3 → (-9223372036854775807) ≤ 0 - a3 → 0 ≤ a5 → (-1000000) ≤ 0 - a5 → (-2147483648) ≤ p1 → (-2147483647) ≤ 0 - p1 → (-2147483646) ≤ 0 - a2 + a5 → 0 - 3 * a5 + 3000002 < (m : Int) → yG 89 xfts (xcall 89 xfts xpools xms (d + 7)) (xpool xp_RX6) [] xt_X6_advance (yP 1 (bQi G [(34359738368, 1), (1133871366144, 2), (1099511627776, 3), (37778931862957161709568, 4), (37778931862957161709568, 5), (37778931864056673337344, 6), (37778931864056673337344, 7), (37778931864056673337344, 8), (2251799813685248, 9), (2251799813685248, 10), (2417851641481058163097600, 11), (2417851639229258349412352, 19), (58184466332325510741204402176, 256)] hp (-2147483648) 2147483647 (fun _ => True))) (20 * m) 10 [(0, yR k0), (1, yI (p1)), (2, yI (a2)), (3, yJ (a3)), (5, yI (a5))] [] hq) ∧ (∀ a2 : Int, ∀ a3 : Int, ∀ a5 : Int, ∀ a6 : Int, ∀ hq, bAx G [(34359738368, 1), (1133871366144, 2), (1099511627776, 3), (37778931862957161709568, 4), (37778931862957161709568, 5), (37778931864056673337344, 6), (37778931864056673337344, 7), (37778931864056673337344, 8), (2251799813685248, 9), (2251799813685248, 10), (2417851641481058163097600, 11), (2417851639229258349412352, 19), (58184466332325510741204402176, 256)] hp hq → (-2147483648) ≤ a2 → (-2147483647) ≤ 0 - a2 → (-9223372036854775808) ≤ a3 → (-2147483647) ≤ 0 - a3 → 0 ≤ a5 → (-999999) ≤ 0 - a5 → 0 ≤ a6 → (-24) ≤ 0 - a6 → (-2147483648) ≤ p1 → (-2147483647) ≤ 0 - p1 → (-2147483646) ≤ 0 - a2 + a5 → 0 ≤ 0 - a3 + p1 → 0 - 3 * a5 + 3000001 < (m : Int) → yG 89 xfts (xcall 89 xfts xpools xms (d + 7)) (xpool xp_RX6) [] xt_X6_advance (yP 1 (bQi G [(34359738368, 1), (1133871366144, 2), (1099511627776, 3), (37778931862957161709568, 4), (37778931862957161709568, 5), (37778931864056673337344, 6), (37778931864056673337344, 7), (37778931864056673337344, 8), (2251799813685248, 9), (2251799813685248, 10), (2417851641481058163097600, 11), (2417851639229258349412352, 19), (58184466332325510741204402176, 256)] hp (-2147483648) 2147483647 (fun _ => True))) (20 * m) 42 [(0, yR k0), (1, yI (p1)), (2, yI (a2)), (3, yJ (a3)), (5, yI (a5)), (6, yI (a6))] [] hq) := by
    intro m
    induction m with
    | zero =>
      refine ⟨?_, ?_⟩ <;> (intros; exfalso; omega)
    | succ m ih =>
      obtain ⟨i_10, i_42⟩ := ih
      refine ⟨?_, ?_⟩
      · intro a2 a3 a5 hq A_hq f0 f1 f2 f3 f4 f5 f6 f7 f8 hm
        refine yG.mono (N := 20 * m + 20) ?_ (by omega)
        refine yG.load xik rfl (fun _ _ => rfl) (v := yI (a5)) rfl rfl ?_
        refine yG.num (c := 1000000) rfl (fun _ _ => rfl) (by decide) ?_
        refine yG.icmp rfl (t := 70) rfl ⟨by omega, by omega⟩ ⟨by omega, by omega⟩ (fun c1 => ?_) (fun c1 => ?_)
        · have c1 : (a5 : Int) ≥ 1000000 := c1
          refine yG.load xak rfl (fun _ _ => rfl) (v := yR k0) rfl rfl ?_
          refine yG.load xik rfl (fun _ _ => rfl) (v := yI (p1)) rfl rfl ?_
          refine yG.putI A_hq.1 (w_Relays_time W H_k0) (W.2.1 _ _ H_k0 (by decide) (by decide)) rfl rfl (.inl rfl) ⟨by omega, by omega⟩ (by omega) (by omega) (fun h2 T_h2 b_h2 f_h2 y_h2 => ?_)
          have A_h2 := A_hq.put T_h2 b_h2 f_h2 H_k0 (by decide)
          refine yG.load xik rfl (fun _ _ => rfl) (v := yI (a2)) rfl rfl ?_
          refine yG.ret rfl (fun _ _ => rfl) ?_
          exact (yP.int ⟨by omega, by omega⟩ ⟨⟨a2, rfl, by omega, by omega, trivial⟩, A_h2⟩)
        · have c1 : (a5 : Int) < 1000000 := c1
          refine yG.load xlk2 rfl (fun _ _ => rfl) (v := yJ (a3)) rfl rfl ?_
          refine yG.load xik rfl (fun _ _ => rfl) (v := yI (p1)) rfl rfl ?_
          refine yG.i2l rfl ⟨by omega, by omega⟩ ?_
          refine yG.lcmp rfl ⟨by omega, by omega⟩ ⟨by omega, by omega⟩ (fun z3 e_z3 => ?_)
          refine yG.ifz rfl (t := 70) rfl ⟨by omega, by omega⟩ (fun c4 => ?_) (fun c4 => ?_)
          · have c4 : (z3 : Int) > 0 := c4
            refine yG.load xak rfl (fun _ _ => rfl) (v := yR k0) rfl rfl ?_
            refine yG.load xik rfl (fun _ _ => rfl) (v := yI (p1)) rfl rfl ?_
            refine yG.putI A_hq.1 (w_Relays_time W H_k0) (W.2.1 _ _ H_k0 (by decide) (by decide)) rfl rfl (.inl rfl) ⟨by omega, by omega⟩ (by omega) (by omega) (fun h5 T_h5 b_h5 f_h5 y_h5 => ?_)
            have A_h5 := A_hq.put T_h5 b_h5 f_h5 H_k0 (by decide)
            refine yG.load xik rfl (fun _ _ => rfl) (v := yI (a2)) rfl rfl ?_
            refine yG.ret rfl (fun _ _ => rfl) ?_
            exact (yP.int ⟨by omega, by omega⟩ ⟨⟨a2, rfl, by omega, by omega, trivial⟩, A_h5⟩)
          · have c4 : (z3 : Int) ≤ 0 := c4
            refine yG.load xak rfl (fun _ _ => rfl) (v := yR k0) rfl rfl ?_
            refine yG.load xlk2 rfl (fun _ _ => rfl) (v := yJ (a3)) rfl rfl ?_
            refine yG.invV (rest := []) A_hq.1 (bOb (d_Relays W) H_k0) rfl rfl rfl rfl (c_Relays_openAll W (d + 5) A_hq.1 H_k0 (a3) (by omega) (by omega)) (fun rv h6 q9 => ?_)
            obtain ⟨⟨z7, rfl, l_z7, u_z7, R_z7⟩, B_h6⟩ := q9
            have A_h6 := A_hq.tr B_h6 (by decide)
            show yG _ _ _ _ _ _ _ _ _ _ (yI z7 :: []) _
            refine yG.store1 xik (L' := [(6, yI (z7)), (0, yR k0), (1, yI (p1)), (2, yI (a2)), (3, yJ (a3)), (5, yI (a5))]) rfl (fun _ _ => rfl) rfl rfl ?_
            refine yG.load xik rfl (fun _ _ => rfl) (v := yI (z7)) rfl rfl ?_
            refine yG.ifz rfl (t := 42) rfl ⟨by omega, by omega⟩ (fun c8 => ?_) (fun c8 => ?_)
            · have c8 : (z7 : Int) ≤ 0 := c8
              exact yG.mono (yG.sub (i_42 (a2) (a3) (a5) (z7)  h6 A_h6   (by omega) (by omega) (by omega) (by omega) (by omega) (by omega) (by omega) (by omega) (by omega) (by omega) (by omega) (by omega) (by omega)) (ySub.cons rfl (ySub.cons rfl (ySub.cons rfl (ySub.cons rfl (ySub.cons rfl (ySub.cons rfl (ySub.nil)))))))) (by omega)
            · have c8 : (z7 : Int) > 0 := c8
              refine yG.load xak rfl (fun _ _ => rfl) (v := yR k0) rfl rfl ?_
              refine yG.load xlk2 rfl (fun _ _ => rfl) (v := yJ (a3)) rfl rfl ?_
              refine yG.invV (rest := []) A_h6.1 (bOb (d_Relays W) H_k0) rfl rfl rfl rfl (c_Relays_look W d A_h6.1 (M_bSh.fr A_h6 (by decide)) H_k0 (a3) (by omega) (by omega)) (fun rv h9 q9 => ?_)
              obtain ⟨⟨z10, rfl, l_z10, u_z10, R_z10⟩, B_h9⟩ := q9
              have A_h9 := A_h6.tr B_h9 (by decide)
              show yG _ _ _ _ _ _ _ _ _ _ (yI z10 :: []) _
              refine yG.step (pc' := 42) (stk' := []) rfl (fun _ _ => rfl) ?_
              exact yG.mono (yG.sub (i_42 (a2) (a3) (a5) (z7)  h9 A_h9   (by omega) (by omega) (by omega) (by omega) (by omega) (by omega) (by omega) (by omega) (by omega) (by omega) (by omega) (by omega) (by omega)) (ySub.cons rfl (ySub.cons rfl (ySub.cons rfl (ySub.cons rfl (ySub.cons rfl (ySub.cons rfl (ySub.nil)))))))) (by omega)
      · intro a2 a3 a5 a6 hq A_hq f0 f1 f2 f3 f4 f5 f6 f7 f8 f9 f10 f11 hm
        refine yG.mono (N := 20 * m + 20) ?_ (by omega)
        refine yG.load xik rfl (fun _ _ => rfl) (v := yI (a2)) rfl rfl ?_
        refine yG.load xik rfl (fun _ _ => rfl) (v := yI (a6)) rfl rfl ?_
        refine yG.load xak rfl (fun _ _ => rfl) (v := yR k0) rfl rfl ?_
        refine yG.load xlk2 rfl (fun _ _ => rfl) (v := yJ (a3)) rfl rfl ?_
        refine yG.invV (rest := [yI (a6), yI (a2)]) A_hq.1 (bOb (d_Relays W) H_k0) rfl rfl rfl rfl (c_Relays_backUpAll W (d + 3) A_hq.1 H_k0 (a3) (by omega) (by omega)) (fun rv h1 q9 => ?_)
        obtain ⟨⟨z2, rfl, l_z2, u_z2, R_z2⟩, B_h1⟩ := q9
        have A_h1 := A_hq.tr B_h1 (by decide)
        show yG _ _ _ _ _ _ _ _ _ _ (yI z2 :: [yI (a6), yI (a2)]) _
        refine yG.iadd rfl ?_
        refine yG.load xak rfl (fun _ _ => rfl) (v := yR k0) rfl rfl ?_
        refine yG.load xlk2 rfl (fun _ _ => rfl) (v := yJ (a3)) rfl rfl ?_
        refine yG.invV (rest := [yI (a6 + z2), yI (a2)]) A_h1.1 (bOb (d_Relays W) H_k0) rfl rfl rfl rfl (c_Relays_tripAll W (d + 4) A_h1.1 H_k0 (a3) (by omega) (by omega)) (fun rv h3 q9 => ?_)
        obtain ⟨⟨z4, rfl, l_z4, u_z4, R_z4⟩, B_h3⟩ := q9
        have A_h3 := A_h1.tr B_h3 (by decide)
        show yG _ _ _ _ _ _ _ _ _ _ (yI z4 :: [yI (a6 + z2), yI (a2)]) _
        refine yG.iadd rfl ?_
        refine yG.iadd rfl ?_
        obtain ⟨z5, e_z5, l_z5, u_z5⟩ := ywI (a2 + ((a6 + z2) + z4))
        rw [e_z5]
        refine yG.store1 xik (L' := [(2, yI (z5)), (0, yR k0), (1, yI (p1)), (3, yJ (a3)), (5, yI (a5)), (6, yI (a6))]) rfl (fun _ _ => rfl) rfl rfl ?_
        refine yG.load xak rfl (fun _ _ => rfl) (v := yR k0) rfl rfl ?_
        refine yG.invV (rest := []) A_h3.1 (bOb (d_Relays W) H_k0) rfl rfl rfl rfl (c_Relays_nextTime W (d + 5) A_h3.1 H_k0) (fun rv hp9 q9 => ?_)
        obtain ⟨⟨z6, rfl, l_z6, u_z6, R_z6⟩, e9⟩ := q9
        rw [e9]
        show yG _ _ _ _ _ _ _ _ _ _ (yJ z6 :: []) _
        refine yG.store2 xlk2 (L' := [(3, yJ (z6)), (2, yI (z5)), (0, yR k0), (1, yI (p1)), (5, yI (a5)), (6, yI (a6))]) rfl (fun _ _ => rfl) rfl rfl ?_
        refine yG.iinc rfl (a := a5) rfl (L' := [(5, yI (a5 + 1)), (3, yJ (z6)), (2, yI (z5)), (0, yR k0), (1, yI (p1)), (6, yI (a6))]) rfl ?_
        refine yG.goto rfl (t := 10) rfl ?_
        exact yG.mono (yG.sub (i_10 (z5) (z6) (a5 + 1)  h3 A_h3   (by omega) (by omega) (by omega) (by omega) (by omega) (by omega) (by omega) (by omega) (by omega) (by omega)) (ySub.cons rfl (ySub.cons rfl (ySub.cons rfl (ySub.cons rfl (ySub.cons rfl (ySub.nil))))))) (by omega)
  refine yC.of (M := (xt_X6_advance, (7, (1, (7, []))))) rfl rfl (N := 60000100) (yfuel (by decide)) ?_
  show yG 89 xfts (xcall 89 xfts xpools xms (d + 7)) (xpool xp_RX6) [] xt_X6_advance (yP 1 (bQi G [(34359738368, 1), (1133871366144, 2), (1099511627776, 3), (37778931862957161709568, 4), (37778931862957161709568, 5), (37778931864056673337344, 6), (37778931864056673337344, 7), (37778931864056673337344, 8), (2251799813685248, 9), (2251799813685248, 10), (2417851641481058163097600, 11), (2417851639229258349412352, 19), (58184466332325510741204402176, 256)] hp (-2147483648) 2147483647 (fun _ => True))) 60000100 0 [(0, yR k0), (1, yI (p1))] [] hp
  obtain ⟨i_10, i_42⟩ := H 3000004
  refine yG.num (c := 0) rfl (fun _ _ => rfl) (by decide) ?_
  refine yG.store1 xik (L' := [(2, yI (0)), (0, yR k0), (1, yI (p1))]) rfl (fun _ _ => rfl) rfl rfl ?_
  refine yG.load xak rfl (fun _ _ => rfl) (v := yR k0) rfl rfl ?_
  refine yG.invV (rest := []) A_hp.1 (bOb (d_Relays W) H_k0) rfl rfl rfl rfl (c_Relays_nextTime W (d + 5) A_hp.1 H_k0) (fun rv hp9 q9 => ?_)
  obtain ⟨⟨z1, rfl, l_z1, u_z1, R_z1⟩, e9⟩ := q9
  rw [e9]
  show yG _ _ _ _ _ _ _ _ _ _ (yJ z1 :: []) _
  refine yG.store2 xlk2 (L' := [(3, yJ (z1)), (2, yI (0)), (0, yR k0), (1, yI (p1))]) rfl (fun _ _ => rfl) rfl rfl ?_
  refine yG.num (c := 0) rfl (fun _ _ => rfl) (by decide) ?_
  refine yG.store1 xik (L' := [(5, yI (0)), (3, yJ (z1)), (2, yI (0)), (0, yR k0), (1, yI (p1))]) rfl (fun _ _ => rfl) rfl rfl ?_
  exact yG.mono (yG.sub (i_10 (0) (z1) (0)  hp A_hp   (by omega) (by omega) (by omega) (by omega) (by omega) (by omega) (by omega) (by omega) (by omega) (by omega)) (ySub.cons rfl (ySub.cons rfl (ySub.cons rfl (ySub.cons rfl (ySub.cons rfl (ySub.nil))))))) (by omega)
theorem c_Relays_openedAs {hp : xH} (W : bW G) (d : Nat) (hT : zTy G hp) {k0 : Nat} (H_k0 : bRo G 81 k0) (p1 p2 : Int) (h1l : (-2147483648) ≤ p1) (h1u : p1 ≤ 2147483647) (h2l : (-2147483648) ≤ p2) (h2u : p2 ≤ 2147483647) : yC (xcall 89 xfts xpools xms (d + 1)) 181 [yR k0, yI (p1), yI (p2)] hp (bQpi hp (-2147483648) 2147483647 (fun z => 0 ≤ 0 - p1 + z + 2147483671 ∧ 0 ≤ p1 - z + 2147483647 ∧ 0 ≤ 0 - p2 + z + 2147483649 ∧ 0 ≤ p2 - z + 2147483647)) := by
  have A_hp : bAx G [] hp hp := bAx.rf hT
  have H : ∀ m : Nat, ((-2147483648) ≤ p1 → (-2147483647) ≤ 0 - p1 → (-2147483648) ≤ p2 → (-2147483647) ≤ 0 - p2 → 1 < (m : Int) → yG 89 xfts (xcall 89 xfts xpools xms d) (xpool xp_RX6) [] xt_X6_openedAs (yP 1 (bQpi hp (-2147483648) 2147483647 (fun z => 0 ≤ 0 - p1 + z + 2147483671 ∧ 0 ≤ p1 - z + 2147483647 ∧ 0 ≤ 0 - p2 + z + 2147483649 ∧ 0 ≤ p2 - z + 2147483647))) (30 * m) 32 [(0, yR k0), (1, yI (p1)), (2, yI (p2))] [] hp) := by
    intro m
    induction m with
    | zero =>
      intros; exfalso; omega
    | succ m ih =>
      have i_32 := ih
      clear ih
      intro f0 f1 f2 f3 hm
      refine yG.mono (N := 30 * m + 30) ?_ (by omega)
      refine yG.num (c := 0) rfl (fun _ _ => rfl) (by decide) ?_
      refine yG.store1 xik (L' := [(3, yI (0)), (0, yR k0), (1, yI (p1)), (2, yI (p2))]) rfl (fun _ _ => rfl) rfl rfl ?_
      refine yG.load xik rfl (fun _ _ => rfl) (v := yI (0)) rfl rfl ?_
      refine yG.ifz rfl (t := 50) rfl ⟨by omega, by omega⟩ (fun c1 => ?_) (fun c1 => ?_)
      · have c1 : (0 : Int) = 0 := c1
        refine yG.num (c := -1) rfl (fun _ _ => rfl) (by decide) ?_
        refine yG.ret rfl (fun _ _ => rfl) ?_
        exact (yP.int ⟨by omega, by omega⟩ ⟨⟨(-1), rfl, by omega, by omega, by omega⟩, rfl⟩)
      · have c1 : (0 : Int) ≠ 0 := c1
        exfalso; omega
  refine yC.of (M := (xt_X6_openedAs, (4, (1, (7, []))))) rfl rfl (N := 120) (yfuel (by decide)) ?_
  show yG 89 xfts (xcall 89 xfts xpools xms d) (xpool xp_RX6) [] xt_X6_openedAs (yP 1 (bQpi hp (-2147483648) 2147483647 (fun z => 0 ≤ 0 - p1 + z + 2147483671 ∧ 0 ≤ p1 - z + 2147483647 ∧ 0 ≤ 0 - p2 + z + 2147483649 ∧ 0 ≤ p2 - z + 2147483647))) 120 0 [(0, yR k0), (1, yI (p1)), (2, yI (p2))] [] hp
  have i_32 := H 3
  refine yG.load xak rfl (fun _ _ => rfl) (v := yR k0) rfl rfl ?_
  refine yG.getI A_hp.1 (w_Relays_running W H_k0) rfl rfl (fun z1 e_z1 i_z1 l_z1 u_z1 => ?_)
  refine yG.ifz rfl (t := 32) rfl ⟨by omega, by omega⟩ (fun c2 => ?_) (fun c2 => ?_)
  · have c2 : (z1 : Int) = 0 := c2
    exact yG.mono (yG.sub (i_32      (by omega) (by omega) (by omega) (by omega) (by omega)) (ySub.cons rfl (ySub.cons rfl (ySub.cons rfl (ySub.nil))))) (by omega)
  · have c2 : (z1 : Int) ≠ 0 := c2
    refine yG.load xik rfl (fun _ _ => rfl) (v := yI (p1)) rfl rfl ?_
    refine yG.ifz rfl (t := 32) rfl ⟨by omega, by omega⟩ (fun c3 => ?_) (fun c3 => ?_)
    · have c3 : (p1 : Int) < 0 := c3
      exact yG.mono (yG.sub (i_32      (by omega) (by omega) (by omega) (by omega) (by omega)) (ySub.cons rfl (ySub.cons rfl (ySub.cons rfl (ySub.nil))))) (by omega)
    · have c3 : (p1 : Int) ≥ 0 := c3
      refine yG.load xik rfl (fun _ _ => rfl) (v := yI (p1)) rfl rfl ?_
      refine yG.load xak rfl (fun _ _ => rfl) (v := yR k0) rfl rfl ?_
      refine yG.getI A_hp.1 (w_Relays_openedCount W H_k0) rfl rfl (fun z4 e_z4 i_z4 l_z4 u_z4 => ?_)
      refine yG.icmp rfl (t := 32) rfl ⟨by omega, by omega⟩ ⟨by omega, by omega⟩ (fun c5 => ?_) (fun c5 => ?_)
      · have c5 : (p1 : Int) ≥ z4 := c5
        exact yG.mono (yG.sub (i_32      (by omega) (by omega) (by omega) (by omega) (by omega)) (ySub.cons rfl (ySub.cons rfl (ySub.cons rfl (ySub.nil))))) (by omega)
      · have c5 : (p1 : Int) < z4 := c5
        refine yG.load xik rfl (fun _ _ => rfl) (v := yI (p2)) rfl rfl ?_
        refine yG.ifz rfl (t := 32) rfl ⟨by omega, by omega⟩ (fun c6 => ?_) (fun c6 => ?_)
        · have c6 : (p2 : Int) < 0 := c6
          exact yG.mono (yG.sub (i_32      (by omega) (by omega) (by omega) (by omega) (by omega)) (ySub.cons rfl (ySub.cons rfl (ySub.cons rfl (ySub.nil))))) (by omega)
        · have c6 : (p2 : Int) ≥ 0 := c6
          refine yG.load xik rfl (fun _ _ => rfl) (v := yI (p2)) rfl rfl ?_
          refine yG.num (c := 1) rfl (fun _ _ => rfl) (by decide) ?_
          refine yG.icmp rfl (t := 32) rfl ⟨by omega, by omega⟩ ⟨by omega, by omega⟩ (fun c7 => ?_) (fun c7 => ?_)
          · have c7 : (p2 : Int) > 1 := c7
            exact yG.mono (yG.sub (i_32      (by omega) (by omega) (by omega) (by omega) (by omega)) (ySub.cons rfl (ySub.cons rfl (ySub.cons rfl (ySub.nil))))) (by omega)
          · have c7 : (p2 : Int) ≤ 1 := c7
            refine yG.num (c := 1) rfl (fun _ _ => rfl) (by decide) ?_
            refine yG.goto rfl (t := 33) rfl ?_
            refine yG.store1 xik (L' := [(3, yI (1)), (0, yR k0), (1, yI (p1)), (2, yI (p2))]) rfl (fun _ _ => rfl) rfl rfl ?_
            refine yG.load xik rfl (fun _ _ => rfl) (v := yI (1)) rfl rfl ?_
            refine yG.ifz rfl (t := 50) rfl ⟨by omega, by omega⟩ (fun c8 => ?_) (fun c8 => ?_)
            · have c8 : (1 : Int) = 0 := c8
              exfalso; omega
            · have c8 : (1 : Int) ≠ 0 := c8
              refine yG.load xak rfl (fun _ _ => rfl) (v := yR k0) rfl rfl ?_
              refine yG.getO A_hp.1 (w_Relays_opened W H_k0) rfl rfl (fun r9 H_r9 O_r9 q_r9 => ?_)
              refine yG.load xik rfl (fun _ _ => rfl) (v := yI (p1)) rfl rfl ?_
              refine yG.aaldO (r := 95) A_hp.1 (v_Relays_opened W H_r9) rfl rfl rfl (by omega) (by omega) (fun r10 H_r10 q_r10 => ?_)
              refine yG.load xik rfl (fun _ _ => rfl) (v := yI (p2)) rfl rfl ?_
              refine yG.lald A_hp.1 (v_Relays_openeds W H_r10) rfl (by omega) (by omega) (fun z11 e_z11 i_z11 l_z11 u_z11 => ?_)
              refine yG.l2i rfl ?_
              refine yG.goto rfl (t := 51) rfl ?_
              refine yG.ret rfl (fun _ _ => rfl) ?_
              obtain ⟨z12, e_z12, l_z12, u_z12⟩ := ywI (z11)
              rw [e_z12]
              exact (yP.int ⟨by omega, by omega⟩ ⟨⟨z12, rfl, by omega, by omega, by omega⟩, rfl⟩)
end BRelays
