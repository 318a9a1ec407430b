/-! ===== the class: its tape and net, printed by a program ===== -/
section BNet
variable {G : zW}
theorem c_Tape_write {hp : xH} (W : bW G) (d : Nat) (hT : zTy G hp) {k0 : Nat} (H_k0 : bRo G 15 k0) (p1 : Int) (h1l : (-2147483648) ≤ p1) (h1u : p1 ≤ 2147483647) : yC (xcall 89 xfts xpools xms (d + 1)) 277 [yR k0, yI (p1)] hp (fun rv hp' => (rv = none ∧ True) ∧ bAx G [(32768, 4), (65536, 256)] hp hp') := by
  have A_hp : bAx G [(32768, 4), (65536, 256)] hp hp := bAx.rf hT
  have H : ∀ m : Nat, (∀ a2 : Int, ∀ hq, bAx G [(32768, 4), (65536, 256)] hp hq → (-8) ≤ a2 → (-24) ≤ 0 - a2 → (-2147483648) ≤ p1 → (-2147483647) ≤ 0 - p1 → 2 * a2 + 17 < (m : Int) → yG 89 xfts (xcall 89 xfts xpools xms d) (xpool xp_RX11) [] xt_X11_write (yP 0 (fun rv hp' => (rv = none ∧ True) ∧ bAx G [(32768, 4), (65536, 256)] hp hp')) (25 * m) 3 [(0, yR k0), (1, yI (p1)), (2, yI (a2))] [] hq) := by
    intro m
    induction m with
    | zero =>
      intros; exfalso; omega
    | succ m ih =>
      have i_3 := ih
      clear ih
      intro a2 hq A_hq f0 f1 f2 f3 hm
      refine yG.mono (N := 25 * m + 25) ?_ (by omega)
      refine yG.load xik rfl (fun _ _ => rfl) (v := yI (a2)) rfl rfl ?_
      refine yG.ifz rfl (t := 46) rfl ⟨by omega, by omega⟩ (fun c1 => ?_) (fun c1 => ?_)
      · have c1 : (a2 : Int) < 0 := c1
        refine yG.ret rfl (fun _ _ => rfl) ?_
        exact (yP.void ⟨⟨rfl, trivial⟩, A_hq⟩)
      · have c1 : (a2 : Int) ≥ 0 := c1
        refine yG.load xak rfl (fun _ _ => rfl) (v := yR k0) rfl rfl ?_
        refine yG.getI A_hq.1 (w_Tape_length W H_k0) rfl rfl (fun z2 e_z2 i_z2 l_z2 u_z2 => ?_)
        refine yG.num (c := 4000) rfl (fun _ _ => rfl) (by decide) ?_
        refine yG.icmp rfl (t := 46) rfl ⟨by omega, by omega⟩ ⟨by omega, by omega⟩ (fun c3 => ?_) (fun c3 => ?_)
        · have c3 : (z2 : Int) ≥ 4000 := c3
          refine yG.ret rfl (fun _ _ => rfl) ?_
          exact (yP.void ⟨⟨rfl, trivial⟩, A_hq⟩)
        · have c3 : (z2 : Int) < 4000 := c3
          refine yG.load xak rfl (fun _ _ => rfl) (v := yR k0) rfl rfl ?_
          refine yG.getO A_hq.1 (w_Tape_bytes W H_k0) rfl rfl (fun r4 H_r4 O_r4 q_r4 => ?_)
          refine yG.load xak rfl (fun _ _ => rfl) (v := yR k0) rfl rfl ?_
          refine yG.getI A_hq.1 (w_Tape_length W H_k0) rfl rfl (fun z5 e_z5 i_z5 l_z5 u_z5 => ?_)
          refine yG.load xik rfl (fun _ _ => rfl) (v := yI (p1)) rfl rfl ?_
          refine yG.load xik rfl (fun _ _ => rfl) (v := yI (a2)) rfl rfl ?_
          refine yG.bit32 rfl (fun _ _ => rfl) (fun z6 e_z6 l_z6 u_z6 => ?_)
          refine yG.bit32 rfl (fun _ _ => rfl) (fun z7 e_z7 l_z7 u_z7 => ?_)
          refine yG.bast3 A_hq.1 (v_Tape_bytes W H_r4) (W.2.1 _ _ H_r4 (by decide) (by decide)) rfl (by omega) (by omega) ⟨by omega, by omega⟩ (fun h8 w_h8 T_h8 b_h8 f_h8 y_h8 => ?_)
          have A_h8 := A_hq.put T_h8 b_h8 f_h8 H_r4 (bAll_ok (by decide) _)
          have : ys h8 k0 4 = ys hq k0 4 := (y_h8 k0 4).trans (if_neg (fun e => (bRo.ne H_k0 H_r4 (by decide)) e.1))
          refine yG.load xak rfl (fun _ _ => rfl) (v := yR k0) rfl rfl ?_
          refine yG.step (pc' := 32) (stk' := [yR k0, yR k0]) rfl (fun _ _ => rfl) ?_
          refine yG.getI A_h8.1 (w_Tape_length W H_k0) rfl rfl (fun z9 e_z9 i_z9 l_z9 u_z9 => ?_)
          refine yG.num (c := 1) rfl (fun _ _ => rfl) (by decide) ?_
          refine yG.iadd rfl ?_
          refine yG.putI A_h8.1 (w_Tape_length W H_k0) (W.2.1 _ _ H_k0 (by decide) (by decide)) rfl rfl (.inl rfl) ⟨by omega, by omega⟩ (by omega) (by omega) (fun h10 T_h10 b_h10 f_h10 y_h10 => ?_)
          have A_h10 := A_h8.put T_h10 b_h10 f_h10 H_k0 (by decide)
          have : ys h10 k0 4 = z9 + 1 := (y_h10 k0 4).trans (if_pos ⟨rfl, rfl⟩)
          refine yG.iinc rfl (a := a2) rfl (L' := [(2, yI (a2 + (-8))), (0, yR k0), (1, yI (p1))]) rfl ?_
          refine yG.goto rfl (t := 3) rfl ?_
          exact yG.mono (yG.sub (i_3 (a2 + (-8))  h10 A_h10   (by omega) (by omega) (by omega) (by omega) (by omega)) (ySub.cons rfl (ySub.cons rfl (ySub.cons rfl (ySub.nil))))) (by omega)
  refine yC.of (M := (xt_X11_write, (3, (0, (12, []))))) rfl rfl (N := 1700) (yfuel (by decide)) ?_
  show yG 89 xfts (xcall 89 xfts xpools xms d) (xpool xp_RX11) [] xt_X11_write (yP 0 (fun rv hp' => (rv = none ∧ True) ∧ bAx G [(32768, 4), (65536, 256)] hp hp')) 1700 0 [(0, yR k0), (1, yI (p1))] [] hp
  have i_3 := H 67
  refine yG.num (c := 24) rfl (fun _ _ => rfl) (by decide) ?_
  refine yG.store1 xik (L' := [(2, yI (24)), (0, yR k0), (1, yI (p1))]) rfl (fun _ _ => rfl) rfl rfl ?_
  exact yG.mono (yG.sub (i_3 (24)  hp A_hp   (by omega) (by omega) (by omega) (by omega) (by omega)) (ySub.cons rfl (ySub.cons rfl (ySub.cons rfl (ySub.nil))))) (by omega)
theorem c_Tape_rewind {hp : xH} (W : bW G) (d : Nat) (hT : zTy G hp) {k0 : Nat} (H_k0 : bRo G 15 k0) : yC (xcall 89 xfts xpools xms (d + 1)) 275 [yR k0] hp (fun rv hp' => (rv = none ∧ True) ∧ bAx G [(32768, 2)] hp hp') := by
  have A_hp : bAx G [(32768, 2)] hp hp := bAx.rf hT
  refine yC.of (M := (xt_X11_rewind, (1, (0, (12, []))))) rfl rfl (N := 18) (yfuel (by decide)) ?_
  show yG 89 xfts (xcall 89 xfts xpools xms d) (xpool xp_RX11) [] xt_X11_rewind (yP 0 (fun rv hp' => (rv = none ∧ True) ∧ bAx G [(32768, 2)] hp hp')) 18 0 [(0, yR k0)] [] hp
  refine yG.load xak rfl (fun _ _ => rfl) (v := yR k0) rfl rfl ?_
  refine yG.num (c := 0) rfl (fun _ _ => rfl) (by decide) ?_
  refine yG.putI A_hp.1 (w_Tape_at W H_k0) (W.2.1 _ _ H_k0 (by decide) (by decide)) rfl rfl (.inl rfl) ⟨by omega, by omega⟩ (by omega) (by omega) (fun h1 T_h1 b_h1 f_h1 y_h1 => ?_)
  have A_h1 := A_hp.put T_h1 b_h1 f_h1 H_k0 (by decide)
  refine yG.ret rfl (fun _ _ => rfl) ?_
  exact (yP.void ⟨⟨rfl, trivial⟩, A_h1⟩)
theorem c_Tape_isFigure {hp : xH} (W : bW G) (d : Nat) (hT : zTy G hp) (p0 : Int) (h0l : (-2147483648) ≤ p0) (h0u : p0 ≤ 2147483647) : yC (xcall 89 xfts xpools xms (d + 1)) 267 [yI (p0)] hp (bQpi hp 0 1 (fun z => (z = 1 → 0 ≤ p0 - 48 ∧ 0 ≤ 0 - p0 + 57))) := by
  have A_hp : bAx G [] hp hp := bAx.rf hT
  refine yC.of (M := (xt_X11_isFigure, (1, (4, (12, []))))) rfl rfl (N := 33) (yfuel (by decide)) ?_
  show yG 89 xfts (xcall 89 xfts xpools xms d) (xpool xp_RX11) [] xt_X11_isFigure (yP 4 (bQpi hp 0 1 (fun z => (z = 1 → 0 ≤ p0 - 48 ∧ 0 ≤ 0 - p0 + 57)))) 33 0 [(0, yI (p0))] [] hp
  refine yG.load xik rfl (fun _ _ => rfl) (v := yI (p0)) rfl rfl ?_
  refine yG.num (c := 48) rfl (fun _ _ => rfl) (by decide) ?_
  refine yG.icmp rfl (t := 16) rfl ⟨by omega, by omega⟩ ⟨by omega, by omega⟩ (fun c1 => ?_) (fun c1 => ?_)
  · have c1 : (p0 : Int) < 48 := c1
    refine yG.num (c := 0) rfl (fun _ _ => rfl) (by decide) ?_
    refine yG.ret rfl (fun _ _ => rfl) ?_
    exact (yP.bool (by omega) ⟨⟨0, rfl, by omega, by omega, by omega⟩, rfl⟩)
  · have c1 : (p0 : Int) ≥ 48 := c1
    refine yG.load xik rfl (fun _ _ => rfl) (v := yI (p0)) rfl rfl ?_
    refine yG.num (c := 57) rfl (fun _ _ => rfl) (by decide) ?_
    refine yG.icmp rfl (t := 16) rfl ⟨by omega, by omega⟩ ⟨by omega, by omega⟩ (fun c2 => ?_) (fun c2 => ?_)
    · have c2 : (p0 : Int) > 57 := c2
      refine yG.num (c := 0) rfl (fun _ _ => rfl) (by decide) ?_
      refine yG.ret rfl (fun _ _ => rfl) ?_
      exact (yP.bool (by omega) ⟨⟨0, rfl, by omega, by omega, by omega⟩, rfl⟩)
    · have c2 : (p0 : Int) ≤ 57 := c2
      refine yG.num (c := 1) rfl (fun _ _ => rfl) (by decide) ?_
      refine yG.goto rfl (t := 17) rfl ?_
      refine yG.ret rfl (fun _ _ => rfl) ?_
      exact (yP.bool (by omega) ⟨⟨1, rfl, by omega, by omega, by omega⟩, rfl⟩)
theorem c_Tape_isPlain {hp : xH} (W : bW G) (d : Nat) (hT : zTy G hp) (p0 : Int) (h0l : (-2147483648) ≤ p0) (h0u : p0 ≤ 2147483647) : yC (xcall 89 xfts xpools xms (d + 1)) 269 [yI (p0)] hp (bQpi hp 0 1 (fun z => (z = 1 → 0 ≤ p0 - 48 ∧ 0 ≤ 0 - p0 + 122))) := by
  have A_hp : bAx G [] hp hp := bAx.rf hT
  refine yC.of (M := (xt_X11_isPlain, (1, (4, (12, []))))) rfl rfl (N := 51) (yfuel (by decide)) ?_
  show yG 89 xfts (xcall 89 xfts xpools xms d) (xpool xp_RX11) [] xt_X11_isPlain (yP 4 (bQpi hp 0 1 (fun z => (z = 1 → 0 ≤ p0 - 48 ∧ 0 ≤ 0 - p0 + 122)))) 51 0 [(0, yI (p0))] [] hp
  refine yG.load xik rfl (fun _ _ => rfl) (v := yI (p0)) rfl rfl ?_
  refine yG.num (c := 48) rfl (fun _ _ => rfl) (by decide) ?_
  refine yG.icmp rfl (t := 12) rfl ⟨by omega, by omega⟩ ⟨by omega, by omega⟩ (fun c1 => ?_) (fun c1 => ?_)
  · have c1 : (p0 : Int) < 48 := c1
    refine yG.load xik rfl (fun _ _ => rfl) (v := yI (p0)) rfl rfl ?_
    refine yG.num (c := 97) rfl (fun _ _ => rfl) (by decide) ?_
    refine yG.icmp rfl (t := 28) rfl ⟨by omega, by omega⟩ ⟨by omega, by omega⟩ (fun c2 => ?_) (fun c2 => ?_)
    · have c2 : (p0 : Int) < 97 := c2
      refine yG.num (c := 0) rfl (fun _ _ => rfl) (by decide) ?_
      refine yG.ret rfl (fun _ _ => rfl) ?_
      exact (yP.bool (by omega) ⟨⟨0, rfl, by omega, by omega, by omega⟩, rfl⟩)
    · have c2 : (p0 : Int) ≥ 97 := c2
      exfalso; omega
  · have c1 : (p0 : Int) ≥ 48 := c1
    refine yG.load xik rfl (fun _ _ => rfl) (v := yI (p0)) rfl rfl ?_
    refine yG.num (c := 57) rfl (fun _ _ => rfl) (by decide) ?_
    refine yG.icmp rfl (t := 24) rfl ⟨by omega, by omega⟩ ⟨by omega, by omega⟩ (fun c3 => ?_) (fun c3 => ?_)
    · have c3 : (p0 : Int) ≤ 57 := c3
      refine yG.num (c := 1) rfl (fun _ _ => rfl) (by decide) ?_
      refine yG.goto rfl (t := 29) rfl ?_
      refine yG.ret rfl (fun _ _ => rfl) ?_
      exact (yP.bool (by omega) ⟨⟨1, rfl, by omega, by omega, by omega⟩, rfl⟩)
    · have c3 : (p0 : Int) > 57 := c3
      refine yG.load xik rfl (fun _ _ => rfl) (v := yI (p0)) rfl rfl ?_
      refine yG.num (c := 97) rfl (fun _ _ => rfl) (by decide) ?_
      refine yG.icmp rfl (t := 28) rfl ⟨by omega, by omega⟩ ⟨by omega, by omega⟩ (fun c4 => ?_) (fun c4 => ?_)
      · have c4 : (p0 : Int) < 97 := c4
        refine yG.num (c := 0) rfl (fun _ _ => rfl) (by decide) ?_
        refine yG.ret rfl (fun _ _ => rfl) ?_
        exact (yP.bool (by omega) ⟨⟨0, rfl, by omega, by omega, by omega⟩, rfl⟩)
      · have c4 : (p0 : Int) ≥ 97 := c4
        refine yG.load xik rfl (fun _ _ => rfl) (v := yI (p0)) rfl rfl ?_
        refine yG.num (c := 122) rfl (fun _ _ => rfl) (by decide) ?_
        refine yG.icmp rfl (t := 28) rfl ⟨by omega, by omega⟩ ⟨by omega, by omega⟩ (fun c5 => ?_) (fun c5 => ?_)
        · have c5 : (p0 : Int) > 122 := c5
          refine yG.num (c := 0) rfl (fun _ _ => rfl) (by decide) ?_
          refine yG.ret rfl (fun _ _ => rfl) ?_
          exact (yP.bool (by omega) ⟨⟨0, rfl, by omega, by omega, by omega⟩, rfl⟩)
        · have c5 : (p0 : Int) ≤ 122 := c5
          refine yG.num (c := 1) rfl (fun _ _ => rfl) (by decide) ?_
          refine yG.goto rfl (t := 29) rfl ?_
          refine yG.ret rfl (fun _ _ => rfl) ?_
          exact (yP.bool (by omega) ⟨⟨1, rfl, by omega, by omega, by omega⟩, rfl⟩)
theorem c_Tape_readOn {hp : xH} (W : bW G) (d : Nat) (hT : zTy G hp) {k0 : Nat} (H_k0 : bRo G 15 k0) (p1 : Int) (h1l : 0 ≤ p1) (h1u : p1 ≤ 255) : yC (xcall 89 xfts xpools xms (d + 2)) 274 [yR k0, yI (p1)] hp (fun rv hp' => (rv = none ∧ True) ∧ bAx G [(32768, 2), (32768, 6), (32768, 7)] hp hp') := by
  have A_hp : bAx G [(32768, 2), (32768, 6), (32768, 7)] hp hp := bAx.rf hT
  have H : ∀ m : Nat, (∀ a2 : Int, ∀ a3 : Int, ∀ a4 : Int, ∀ gg0 : Int, ∀ hq, bAx G [(32768, 2), (32768, 6), (32768, 7)] hp hq → ys hq k0 2 = gg0 → 1 ≤ a2 → (-4001) ≤ 0 - a2 → (-2147483648) ≤ a3 → (-2147483647) ≤ 0 - a3 → 0 ≤ a4 → (-1) ≤ 0 - a4 → 0 ≤ gg0 → (-4000) ≤ 0 - gg0 → 0 ≤ p1 → (-255) ≤ 0 - p1 → (-2147483645) ≤ a2 - a3 → (-2147483654) ≤ 0 - a2 + a3 → (-2147483646) ≤ 0 - a3 + a4 → (-1) ≤ 0 - a2 + gg0 → 0 - 2 * a2 + 8003 < (m : Int) → yG 89 xfts (xcall 89 xfts xpools xms (d + 1)) (xpool xp_RX11) [] xt_X11_readOn (yP 0 (fun rv hp' => (rv = none ∧ True) ∧ bAx G [(32768, 2), (32768, 6), (32768, 7)] hp hp')) (63 * m) 21 [(0, yR k0), (2, yI (a2)), (3, yI (a3)), (4, yI (a4))] [] hq) := by
    intro m
    induction m with
    | zero =>
      intros; exfalso; omega
    | succ m ih =>
      have i_21 := ih
      clear ih
      intro a2 a3 a4 gg0 hq A_hq E_0 f0 f1 f2 f3 f4 f5 f6 f7 f8 f9 f10 f11 f12 f13 hm
      refine yG.mono (N := 63 * m + 63) ?_ (by omega)
      obtain ⟨-, -, g_0l, g_0u⟩ := (w_Tape_at W H_k0).int A_hq.1
      refine yG.load xak rfl (fun _ _ => rfl) (v := yR k0) rfl rfl ?_
      refine yG.getI A_hq.1 (w_Tape_at W H_k0) rfl rfl (fun z1 e_z1 i_z1 l_z1 u_z1 => ?_)
      refine yG.load xak rfl (fun _ _ => rfl) (v := yR k0) rfl rfl ?_
      refine yG.getI A_hq.1 (w_Tape_length W H_k0) rfl rfl (fun z2 e_z2 i_z2 l_z2 u_z2 => ?_)
      refine yG.icmp rfl (t := 147) rfl ⟨by omega, by omega⟩ ⟨by omega, by omega⟩ (fun c3 => ?_) (fun c3 => ?_)
      · have c3 : (z1 : Int) ≥ z2 := c3
        refine yG.load xak rfl (fun _ _ => rfl) (v := yR k0) rfl rfl ?_
        refine yG.load xik rfl (fun _ _ => rfl) (v := yI (a4)) rfl rfl ?_
        refine yG.ifz rfl (t := 157) rfl ⟨by omega, by omega⟩ (fun c4 => ?_) (fun c4 => ?_)
        · have c4 : (a4 : Int) = 0 := c4
          refine yG.num (c := -1) rfl (fun _ _ => rfl) (by decide) ?_
          refine yG.putI A_hq.1 (w_Tape_number W H_k0) (W.2.1 _ _ H_k0 (by decide) (by decide)) rfl rfl (.inl rfl) ⟨by omega, by omega⟩ (by omega) (by omega) (fun h5 T_h5 b_h5 f_h5 y_h5 => ?_)
          have A_h5 := A_hq.put T_h5 b_h5 f_h5 H_k0 (by decide)
          have : ys h5 k0 2 = ys hq k0 2 := (y_h5 k0 2).trans (if_neg (fun e => absurd e.2 (by decide)))
          refine yG.ret rfl (fun _ _ => rfl) ?_
          exact (yP.void ⟨⟨rfl, trivial⟩, A_h5⟩)
        · have c4 : (a4 : Int) ≠ 0 := c4
          refine yG.load xik rfl (fun _ _ => rfl) (v := yI (a3)) rfl rfl ?_
          refine yG.goto rfl (t := 158) rfl ?_
          refine yG.putI A_hq.1 (w_Tape_number W H_k0) (W.2.1 _ _ H_k0 (by decide) (by decide)) rfl rfl (.inl rfl) ⟨by omega, by omega⟩ (by omega) (by omega) (fun h6 T_h6 b_h6 f_h6 y_h6 => ?_)
          have A_h6 := A_hq.put T_h6 b_h6 f_h6 H_k0 (by decide)
          have : ys h6 k0 2 = ys hq k0 2 := (y_h6 k0 2).trans (if_neg (fun e => absurd e.2 (by decide)))
          refine yG.ret rfl (fun _ _ => rfl) ?_
          exact (yP.void ⟨⟨rfl, trivial⟩, A_h6⟩)
      · have c3 : (z1 : Int) < z2 := c3
        refine yG.load xak rfl (fun _ _ => rfl) (v := yR k0) rfl rfl ?_
        refine yG.getO A_hq.1 (w_Tape_bytes W H_k0) rfl rfl (fun r7 H_r7 O_r7 q_r7 => ?_)
        refine yG.load xak rfl (fun _ _ => rfl) (v := yR k0) rfl rfl ?_
        refine yG.getI A_hq.1 (w_Tape_at W H_k0) rfl rfl (fun z8 e_z8 i_z8 l_z8 u_z8 => ?_)
        refine yG.bald3 A_hq.1 (v_Tape_bytes W H_r7) rfl (by omega) (by omega) (fun z9 e_z9 i_z9 l_z9 u_z9 => ?_)
        refine yG.invS (rest := []) rfl rfl rfl rfl (c_Tape_isPlain W d A_hq.1 (z9) (by omega) (by omega)) (fun rv hp9 q9 => ?_)
        obtain ⟨⟨z10, rfl, l_z10, u_z10, R_z10⟩, e9⟩ := q9
        rw [e9]
        show yG _ _ _ _ _ _ _ _ _ _ (yI z10 :: []) _
        refine yG.ifz rfl (t := 147) rfl ⟨by omega, by omega⟩ (fun c11 => ?_) (fun c11 => ?_)
        · have c11 : (z10 : Int) = 0 := c11
          refine yG.load xak rfl (fun _ _ => rfl) (v := yR k0) rfl rfl ?_
          refine yG.load xik rfl (fun _ _ => rfl) (v := yI (a4)) rfl rfl ?_
          refine yG.ifz rfl (t := 157) rfl ⟨by omega, by omega⟩ (fun c12 => ?_) (fun c12 => ?_)
          · have c12 : (a4 : Int) = 0 := c12
            refine yG.num (c := -1) rfl (fun _ _ => rfl) (by decide) ?_
            refine yG.putI A_hq.1 (w_Tape_number W H_k0) (W.2.1 _ _ H_k0 (by decide) (by decide)) rfl rfl (.inl rfl) ⟨by omega, by omega⟩ (by omega) (by omega) (fun h13 T_h13 b_h13 f_h13 y_h13 => ?_)
            have A_h13 := A_hq.put T_h13 b_h13 f_h13 H_k0 (by decide)
            have : ys h13 k0 2 = ys hq k0 2 := (y_h13 k0 2).trans (if_neg (fun e => absurd e.2 (by decide)))
            have qq1 : zsl h13 k0 0 = yR r7 := ((f_h13 k0 0).trans (if_neg (fun e => absurd e.2 (by decide)))).trans q_r7
            refine yG.ret rfl (fun _ _ => rfl) ?_
            exact (yP.void ⟨⟨rfl, trivial⟩, A_h13⟩)
          · have c12 : (a4 : Int) ≠ 0 := c12
            refine yG.load xik rfl (fun _ _ => rfl) (v := yI (a3)) rfl rfl ?_
            refine yG.goto rfl (t := 158) rfl ?_
            refine yG.putI A_hq.1 (w_Tape_number W H_k0) (W.2.1 _ _ H_k0 (by decide) (by decide)) rfl rfl (.inl rfl) ⟨by omega, by omega⟩ (by omega) (by omega) (fun h14 T_h14 b_h14 f_h14 y_h14 => ?_)
            have A_h14 := A_hq.put T_h14 b_h14 f_h14 H_k0 (by decide)
            have : ys h14 k0 2 = ys hq k0 2 := (y_h14 k0 2).trans (if_neg (fun e => absurd e.2 (by decide)))
            have qq2 : zsl h14 k0 0 = yR r7 := ((f_h14 k0 0).trans (if_neg (fun e => absurd e.2 (by decide)))).trans q_r7
            refine yG.ret rfl (fun _ _ => rfl) ?_
            exact (yP.void ⟨⟨rfl, trivial⟩, A_h14⟩)
        · have c11 : (z10 : Int) ≠ 0 := c11
          refine yG.load xak rfl (fun _ _ => rfl) (v := yR k0) rfl rfl ?_
          refine yG.getS9 A_hq.1 (w_Tape_bytes W H_k0) q_r7 rfl rfl ?_
          refine yG.load xak rfl (fun _ _ => rfl) (v := yR k0) rfl rfl ?_
          refine yG.getI A_hq.1 (w_Tape_at W H_k0) rfl rfl (fun z15 e_z15 i_z15 l_z15 u_z15 => ?_)
          refine yG.bald3 A_hq.1 (v_Tape_bytes W H_r7) rfl (by omega) (by omega) (fun z16 e_z16 i_z16 l_z16 u_z16 => ?_)
          refine yG.store1 xik (L' := [(5, yI (z16)), (0, yR k0), (2, yI (a2)), (3, yI (a3)), (4, yI (a4))]) rfl (fun _ _ => rfl) rfl rfl ?_
          refine yG.load xak rfl (fun _ _ => rfl) (v := yR k0) rfl rfl ?_
          refine yG.step (pc' := 60) (stk' := [yR k0, yR k0]) rfl (fun _ _ => rfl) ?_
          refine yG.getI A_hq.1 (w_Tape_at W H_k0) rfl rfl (fun z17 e_z17 i_z17 l_z17 u_z17 => ?_)
          refine yG.num (c := 1) rfl (fun _ _ => rfl) (by decide) ?_
          refine yG.iadd rfl ?_
          refine yG.putI A_hq.1 (w_Tape_at W H_k0) (W.2.1 _ _ H_k0 (by decide) (by decide)) rfl rfl (.inl rfl) ⟨by omega, by omega⟩ (by omega) (by omega) (fun h18 T_h18 b_h18 f_h18 y_h18 => ?_)
          have A_h18 := A_hq.put T_h18 b_h18 f_h18 H_k0 (by decide)
          have qq3 : zsl h18 k0 0 = yR r7 := ((f_h18 k0 0).trans (if_neg (fun e => absurd e.2 (by decide)))).trans q_r7
          have : ys h18 k0 2 = z17 + 1 := (y_h18 k0 2).trans (if_pos ⟨rfl, rfl⟩)
          refine yG.iinc rfl (a := a2) rfl (L' := [(2, yI (a2 + 1)), (5, yI (z16)), (0, yR k0), (3, yI (a3)), (4, yI (a4))]) rfl ?_
          refine yG.load xak rfl (fun _ _ => rfl) (v := yR k0) rfl rfl ?_
          refine yG.load xik rfl (fun _ _ => rfl) (v := yI (a2 + 1)) rfl rfl ?_
          refine yG.num (c := 8) rfl (fun _ _ => rfl) (by decide) ?_
          refine yG.icmp rfl (t := 92) rfl ⟨by omega, by omega⟩ ⟨by omega, by omega⟩ (fun c19 => ?_) (fun c19 => ?_)
          · have c19 : (a2 + 1 : Int) > 8 := c19
            refine yG.numl (c := -1) rfl (fun _ _ => rfl) (by decide) ?_
            refine yG.putJ A_h18.1 (w_Tape_word W H_k0) (W.2.1 _ _ H_k0 (by decide) (by decide)) rfl rfl rfl ⟨by omega, by omega⟩ (by omega) (by omega) (fun h20 T_h20 b_h20 f_h20 y_h20 => ?_)
            have A_h20 := A_h18.put T_h20 b_h20 f_h20 H_k0 (by decide)
            have qq4 : zsl h20 k0 0 = yR r7 := ((f_h20 k0 0).trans (if_neg (fun e => absurd e.2 (by decide)))).trans qq3
            have : ys h20 k0 2 = ys h18 k0 2 := (y_h20 k0 2).trans (if_neg (fun e => absurd e.2 (by decide)))
            refine yG.load xik rfl (fun _ _ => rfl) (v := yI (a4)) rfl rfl ?_
            refine yG.ifz rfl (t := 121) rfl ⟨by omega, by omega⟩ (fun c21 => ?_) (fun c21 => ?_)
            · have c21 : (a4 : Int) = 0 := c21
              refine yG.num (c := 0) rfl (fun _ _ => rfl) (by decide) ?_
              refine yG.store1 xik (L' := [(4, yI (0)), (2, yI (a2 + 1)), (5, yI (z16)), (0, yR k0), (3, yI (a3))]) rfl (fun _ _ => rfl) rfl rfl ?_
              refine yG.load xik rfl (fun _ _ => rfl) (v := yI (0)) rfl rfl ?_
              refine yG.ifz rfl (t := 142) rfl ⟨by omega, by omega⟩ (fun c22 => ?_) (fun c22 => ?_)
              · have c22 : (0 : Int) = 0 := c22
                refine yG.num (c := 0) rfl (fun _ _ => rfl) (by decide) ?_
                refine yG.store1 xik (L' := [(3, yI (0)), (4, yI (0)), (2, yI (a2 + 1)), (5, yI (z16)), (0, yR k0)]) rfl (fun _ _ => rfl) rfl rfl ?_
                refine yG.goto rfl (t := 21) rfl ?_
                exact yG.mono (yG.sub (i_21 (a2 + 1) (0) (0) (ys h20 k0 2) h20 A_h20  rfl (by omega) (by omega) (by omega) (by omega) (by omega) (by omega) (by omega) (by omega) (by omega) (by omega) (by omega) (by omega) (by omega) (by omega) (by omega)) (ySub.cons rfl (ySub.cons rfl (ySub.cons rfl (ySub.cons rfl (ySub.nil)))))) (by omega)
              · have c22 : (0 : Int) ≠ 0 := c22
                exfalso; omega
            · have c21 : (a4 : Int) ≠ 0 := c21
              refine yG.load xik rfl (fun _ _ => rfl) (v := yI (z16)) rfl rfl ?_
              refine yG.invS (rest := []) rfl rfl rfl rfl (c_Tape_isFigure W d A_h20.1 (z16) (by omega) (by omega)) (fun rv hp9 q9 => ?_)
              obtain ⟨⟨z23, rfl, l_z23, u_z23, R_z23⟩, e9⟩ := q9
              rw [e9]
              show yG _ _ _ _ _ _ _ _ _ _ (yI z23 :: []) _
              refine yG.ifz rfl (t := 121) rfl ⟨by omega, by omega⟩ (fun c24 => ?_) (fun c24 => ?_)
              · have c24 : (z23 : Int) = 0 := c24
                refine yG.num (c := 0) rfl (fun _ _ => rfl) (by decide) ?_
                refine yG.store1 xik (L' := [(4, yI (0)), (2, yI (a2 + 1)), (5, yI (z16)), (0, yR k0), (3, yI (a3))]) rfl (fun _ _ => rfl) rfl rfl ?_
                refine yG.load xik rfl (fun _ _ => rfl) (v := yI (0)) rfl rfl ?_
                refine yG.ifz rfl (t := 142) rfl ⟨by omega, by omega⟩ (fun c25 => ?_) (fun c25 => ?_)
                · have c25 : (0 : Int) = 0 := c25
                  refine yG.num (c := 0) rfl (fun _ _ => rfl) (by decide) ?_
                  refine yG.store1 xik (L' := [(3, yI (0)), (4, yI (0)), (2, yI (a2 + 1)), (5, yI (z16)), (0, yR k0)]) rfl (fun _ _ => rfl) rfl rfl ?_
                  refine yG.goto rfl (t := 21) rfl ?_
                  exact yG.mono (yG.sub (i_21 (a2 + 1) (0) (0) (ys h20 k0 2) h20 A_h20  rfl (by omega) (by omega) (by omega) (by omega) (by omega) (by omega) (by omega) (by omega) (by omega) (by omega) (by omega) (by omega) (by omega) (by omega) (by omega)) (ySub.cons rfl (ySub.cons rfl (ySub.cons rfl (ySub.cons rfl (ySub.nil)))))) (by omega)
                · have c25 : (0 : Int) ≠ 0 := c25
                  exfalso; omega
              · have c24 : (z23 : Int) ≠ 0 := c24
                refine yG.load xik rfl (fun _ _ => rfl) (v := yI (a2 + 1)) rfl rfl ?_
                refine yG.num (c := 6) rfl (fun _ _ => rfl) (by decide) ?_
                refine yG.icmp rfl (t := 121) rfl ⟨by omega, by omega⟩ ⟨by omega, by omega⟩ (fun c26 => ?_) (fun c26 => ?_)
                · have c26 : (a2 + 1 : Int) > 6 := c26
                  refine yG.num (c := 0) rfl (fun _ _ => rfl) (by decide) ?_
                  refine yG.store1 xik (L' := [(4, yI (0)), (2, yI (a2 + 1)), (5, yI (z16)), (0, yR k0), (3, yI (a3))]) rfl (fun _ _ => rfl) rfl rfl ?_
                  refine yG.load xik rfl (fun _ _ => rfl) (v := yI (0)) rfl rfl ?_
                  refine yG.ifz rfl (t := 142) rfl ⟨by omega, by omega⟩ (fun c27 => ?_) (fun c27 => ?_)
                  · have c27 : (0 : Int) = 0 := c27
                    refine yG.num (c := 0) rfl (fun _ _ => rfl) (by decide) ?_
                    refine yG.store1 xik (L' := [(3, yI (0)), (4, yI (0)), (2, yI (a2 + 1)), (5, yI (z16)), (0, yR k0)]) rfl (fun _ _ => rfl) rfl rfl ?_
                    refine yG.goto rfl (t := 21) rfl ?_
                    exact yG.mono (yG.sub (i_21 (a2 + 1) (0) (0) (ys h20 k0 2) h20 A_h20  rfl (by omega) (by omega) (by omega) (by omega) (by omega) (by omega) (by omega) (by omega) (by omega) (by omega) (by omega) (by omega) (by omega) (by omega) (by omega)) (ySub.cons rfl (ySub.cons rfl (ySub.cons rfl (ySub.cons rfl (ySub.nil)))))) (by omega)
                  · have c27 : (0 : Int) ≠ 0 := c27
                    exfalso; omega
                · have c26 : (a2 + 1 : Int) ≤ 6 := c26
                  exfalso; omega
          · have c19 : (a2 + 1 : Int) ≤ 8 := c19
            refine yG.load xak rfl (fun _ _ => rfl) (v := yR k0) rfl rfl ?_
            refine yG.getJ A_h18.1 (w_Tape_word W H_k0) rfl rfl (fun z28 e_z28 i_z28 l_z28 u_z28 => ?_)
            refine yG.num (c := 8) rfl (fun _ _ => rfl) (by decide) ?_
            refine yG.bit64 rfl (fun _ _ => rfl) (fun z29 e_z29 l_z29 u_z29 => ?_)
            refine yG.load xik rfl (fun _ _ => rfl) (v := yI (z16)) rfl rfl ?_
            refine yG.i2l rfl ⟨by omega, by omega⟩ ?_
            refine yG.bit64 rfl (fun _ _ => rfl) (fun z30 e_z30 l_z30 u_z30 => ?_)
            refine yG.goto rfl (t := 95) rfl ?_
            refine yG.putJ A_h18.1 (w_Tape_word W H_k0) (W.2.1 _ _ H_k0 (by decide) (by decide)) rfl rfl rfl ⟨by omega, by omega⟩ (by omega) (by omega) (fun h31 T_h31 b_h31 f_h31 y_h31 => ?_)
            have A_h31 := A_h18.put T_h31 b_h31 f_h31 H_k0 (by decide)
            have qq5 : zsl h31 k0 0 = yR r7 := ((f_h31 k0 0).trans (if_neg (fun e => absurd e.2 (by decide)))).trans qq3
            have : ys h31 k0 2 = ys h18 k0 2 := (y_h31 k0 2).trans (if_neg (fun e => absurd e.2 (by decide)))
            refine yG.load xik rfl (fun _ _ => rfl) (v := yI (a4)) rfl rfl ?_
            refine yG.ifz rfl (t := 121) rfl ⟨by omega, by omega⟩ (fun c32 => ?_) (fun c32 => ?_)
            · have c32 : (a4 : Int) = 0 := c32
              refine yG.num (c := 0) rfl (fun _ _ => rfl) (by decide) ?_
              refine yG.store1 xik (L' := [(4, yI (0)), (2, yI (a2 + 1)), (5, yI (z16)), (0, yR k0), (3, yI (a3))]) rfl (fun _ _ => rfl) rfl rfl ?_
              refine yG.load xik rfl (fun _ _ => rfl) (v := yI (0)) rfl rfl ?_
              refine yG.ifz rfl (t := 142) rfl ⟨by omega, by omega⟩ (fun c33 => ?_) (fun c33 => ?_)
              · have c33 : (0 : Int) = 0 := c33
                refine yG.num (c := 0) rfl (fun _ _ => rfl) (by decide) ?_
                refine yG.store1 xik (L' := [(3, yI (0)), (4, yI (0)), (2, yI (a2 + 1)), (5, yI (z16)), (0, yR k0)]) rfl (fun _ _ => rfl) rfl rfl ?_
                refine yG.goto rfl (t := 21) rfl ?_
                exact yG.mono (yG.sub (i_21 (a2 + 1) (0) (0) (ys h31 k0 2) h31 A_h31  rfl (by omega) (by omega) (by omega) (by omega) (by omega) (by omega) (by omega) (by omega) (by omega) (by omega) (by omega) (by omega) (by omega) (by omega) (by omega)) (ySub.cons rfl (ySub.cons rfl (ySub.cons rfl (ySub.cons rfl (ySub.nil)))))) (by omega)
              · have c33 : (0 : Int) ≠ 0 := c33
                exfalso; omega
            · have c32 : (a4 : Int) ≠ 0 := c32
              refine yG.load xik rfl (fun _ _ => rfl) (v := yI (z16)) rfl rfl ?_
              refine yG.invS (rest := []) rfl rfl rfl rfl (c_Tape_isFigure W d A_h31.1 (z16) (by omega) (by omega)) (fun rv hp9 q9 => ?_)
              obtain ⟨⟨z34, rfl, l_z34, u_z34, R_z34⟩, e9⟩ := q9
              rw [e9]
              show yG _ _ _ _ _ _ _ _ _ _ (yI z34 :: []) _
              refine yG.ifz rfl (t := 121) rfl ⟨by omega, by omega⟩ (fun c35 => ?_) (fun c35 => ?_)
              · have c35 : (z34 : Int) = 0 := c35
                refine yG.num (c := 0) rfl (fun _ _ => rfl) (by decide) ?_
                refine yG.store1 xik (L' := [(4, yI (0)), (2, yI (a2 + 1)), (5, yI (z16)), (0, yR k0), (3, yI (a3))]) rfl (fun _ _ => rfl) rfl rfl ?_
                refine yG.load xik rfl (fun _ _ => rfl) (v := yI (0)) rfl rfl ?_
                refine yG.ifz rfl (t := 142) rfl ⟨by omega, by omega⟩ (fun c36 => ?_) (fun c36 => ?_)
                · have c36 : (0 : Int) = 0 := c36
                  refine yG.num (c := 0) rfl (fun _ _ => rfl) (by decide) ?_
                  refine yG.store1 xik (L' := [(3, yI (0)), (4, yI (0)), (2, yI (a2 + 1)), (5, yI (z16)), (0, yR k0)]) rfl (fun _ _ => rfl) rfl rfl ?_
                  refine yG.goto rfl (t := 21) rfl ?_
                  exact yG.mono (yG.sub (i_21 (a2 + 1) (0) (0) (ys h31 k0 2) h31 A_h31  rfl (by omega) (by omega) (by omega) (by omega) (by omega) (by omega) (by omega) (by omega) (by omega) (by omega) (by omega) (by omega) (by omega) (by omega) (by omega)) (ySub.cons rfl (ySub.cons rfl (ySub.cons rfl (ySub.cons rfl (ySub.nil)))))) (by omega)
                · have c36 : (0 : Int) ≠ 0 := c36
                  exfalso; omega
              · have c35 : (z34 : Int) ≠ 0 := c35
                refine yG.load xik rfl (fun _ _ => rfl) (v := yI (a2 + 1)) rfl rfl ?_
                refine yG.num (c := 6) rfl (fun _ _ => rfl) (by decide) ?_
                refine yG.icmp rfl (t := 121) rfl ⟨by omega, by omega⟩ ⟨by omega, by omega⟩ (fun c37 => ?_) (fun c37 => ?_)
                · have c37 : (a2 + 1 : Int) > 6 := c37
                  refine yG.num (c := 0) rfl (fun _ _ => rfl) (by decide) ?_
                  refine yG.store1 xik (L' := [(4, yI (0)), (2, yI (a2 + 1)), (5, yI (z16)), (0, yR k0), (3, yI (a3))]) rfl (fun _ _ => rfl) rfl rfl ?_
                  refine yG.load xik rfl (fun _ _ => rfl) (v := yI (0)) rfl rfl ?_
                  refine yG.ifz rfl (t := 142) rfl ⟨by omega, by omega⟩ (fun c38 => ?_) (fun c38 => ?_)
                  · have c38 : (0 : Int) = 0 := c38
                    refine yG.num (c := 0) rfl (fun _ _ => rfl) (by decide) ?_
                    refine yG.store1 xik (L' := [(3, yI (0)), (4, yI (0)), (2, yI (a2 + 1)), (5, yI (z16)), (0, yR k0)]) rfl (fun _ _ => rfl) rfl rfl ?_
                    refine yG.goto rfl (t := 21) rfl ?_
                    exact yG.mono (yG.sub (i_21 (a2 + 1) (0) (0) (ys h31 k0 2) h31 A_h31  rfl (by omega) (by omega) (by omega) (by omega) (by omega) (by omega) (by omega) (by omega) (by omega) (by omega) (by omega) (by omega) (by omega) (by omega) (by omega)) (ySub.cons rfl (ySub.cons rfl (ySub.cons rfl (ySub.cons rfl (ySub.nil)))))) (by omega)
                  · have c38 : (0 : Int) ≠ 0 := c38
                    exfalso; omega
                · have c37 : (a2 + 1 : Int) ≤ 6 := c37
                  refine yG.num (c := 1) rfl (fun _ _ => rfl) (by decide) ?_
                  refine yG.goto rfl (t := 122) rfl ?_
                  refine yG.store1 xik (L' := [(4, yI (1)), (2, yI (a2 + 1)), (5, yI (z16)), (0, yR k0), (3, yI (a3))]) rfl (fun _ _ => rfl) rfl rfl ?_
                  refine yG.load xik rfl (fun _ _ => rfl) (v := yI (1)) rfl rfl ?_
                  refine yG.ifz rfl (t := 142) rfl ⟨by omega, by omega⟩ (fun c39 => ?_) (fun c39 => ?_)
                  · have c39 : (1 : Int) = 0 := c39
                    exfalso; omega
                  · have c39 : (1 : Int) ≠ 0 := c39
                    refine yG.load xik rfl (fun _ _ => rfl) (v := yI (a3)) rfl rfl ?_
                    refine yG.num (c := 10) rfl (fun _ _ => rfl) (by decide) ?_
                    refine yG.imul rfl ?_
                    refine yG.load xik rfl (fun _ _ => rfl) (v := yI (z16)) rfl rfl ?_
                    refine yG.iadd rfl ?_
                    refine yG.num (c := 48) rfl (fun _ _ => rfl) (by decide) ?_
                    refine yG.isub rfl ?_
                    refine yG.goto rfl (t := 143) rfl ?_
                    obtain ⟨z40, e_z40, l_z40, u_z40⟩ := ywI (((a3 * 10) + z16) - 48)
                    rw [e_z40]
                    refine yG.store1 xik (L' := [(3, yI (z40)), (4, yI (1)), (2, yI (a2 + 1)), (5, yI (z16)), (0, yR k0)]) rfl (fun _ _ => rfl) rfl rfl ?_
                    refine yG.goto rfl (t := 21) rfl ?_
                    exact yG.mono (yG.sub (i_21 (a2 + 1) (z40) (1) (ys h31 k0 2) h31 A_h31  rfl (by omega) (by omega) (by omega) (by omega) (by omega) (by omega) (by omega) (by omega) (by omega) (by omega) (by omega) (by omega) (by omega) (by omega) (by omega)) (ySub.cons rfl (ySub.cons rfl (ySub.cons rfl (ySub.cons rfl (ySub.nil)))))) (by omega)
  refine yC.of (M := (xt_X11_readOn, (6, (0, (12, []))))) rfl rfl (N := 504252) (yfuel (by decide)) ?_
  show yG 89 xfts (xcall 89 xfts xpools xms (d + 1)) (xpool xp_RX11) [] xt_X11_readOn (yP 0 (fun rv hp' => (rv = none ∧ True) ∧ bAx G [(32768, 2), (32768, 6), (32768, 7)] hp hp')) 504252 0 [(0, yR k0), (1, yI (p1))] [] hp
  have i_21 := H 8003
  obtain ⟨gg0, E_0⟩ : ∃ z : Int, ys hp k0 2 = z := ⟨_, rfl⟩
  obtain ⟨-, -, g_0l, g_0u⟩ := (w_Tape_at W H_k0).int hT
  refine yG.num (c := 1) rfl (fun _ _ => rfl) (by decide) ?_
  refine yG.store1 xik (L' := [(2, yI (1)), (0, yR k0), (1, yI (p1))]) rfl (fun _ _ => rfl) rfl rfl ?_
  refine yG.load xik rfl (fun _ _ => rfl) (v := yI (p1)) rfl rfl ?_
  refine yG.num (c := 48) rfl (fun _ _ => rfl) (by decide) ?_
  refine yG.isub rfl ?_
  obtain ⟨z1, e_z1⟩ : ∃ z : Int, z = p1 - 48 := ⟨_, rfl⟩
  rw [← e_z1]
  refine yG.store1 xik (L' := [(3, yI (z1)), (2, yI (1)), (0, yR k0), (1, yI (p1))]) rfl (fun _ _ => rfl) rfl rfl ?_
  refine yG.load xak rfl (fun _ _ => rfl) (v := yR k0) rfl rfl ?_
  refine yG.getI A_hp.1 (w_Tape_letterFirst W H_k0) rfl rfl (fun z2 e_z2 i_z2 l_z2 u_z2 => ?_)
  refine yG.ifz rfl (t := 18) rfl ⟨by omega, by omega⟩ (fun c3 => ?_) (fun c3 => ?_)
  · have c3 : (z2 : Int) ≠ 0 := c3
    refine yG.num (c := 0) rfl (fun _ _ => rfl) (by decide) ?_
    refine yG.store1 xik (L' := [(4, yI (0)), (3, yI (z1)), (2, yI (1)), (0, yR k0), (1, yI (p1))]) rfl (fun _ _ => rfl) rfl rfl ?_
    exact yG.mono (yG.sub (i_21 (1) (z1) (0) (ys hp k0 2) hp A_hp  rfl (by omega) (by omega) (by omega) (by omega) (by omega) (by omega) (by omega) (by omega) (by omega) (by omega) (by omega) (by omega) (by omega) (by omega) (by omega)) (ySub.cons rfl (ySub.cons rfl (ySub.cons rfl (ySub.cons rfl (ySub.nil)))))) (by omega)
  · have c3 : (z2 : Int) = 0 := c3
    refine yG.num (c := 1) rfl (fun _ _ => rfl) (by decide) ?_
    refine yG.goto rfl (t := 19) rfl ?_
    refine yG.store1 xik (L' := [(4, yI (1)), (3, yI (z1)), (2, yI (1)), (0, yR k0), (1, yI (p1))]) rfl (fun _ _ => rfl) rfl rfl ?_
    exact yG.mono (yG.sub (i_21 (1) (z1) (1) (ys hp k0 2) hp A_hp  rfl (by omega) (by omega) (by omega) (by omega) (by omega) (by omega) (by omega) (by omega) (by omega) (by omega) (by omega) (by omega) (by omega) (by omega) (by omega)) (ySub.cons rfl (ySub.cons rfl (ySub.cons rfl (ySub.cons rfl (ySub.nil)))))) (by omega)
theorem c_Tape_next {hp : xH} (W : bW G) (d : Nat) (hT : zTy G hp) {k0 : Nat} (H_k0 : bRo G 15 k0) : yC (xcall 89 xfts xpools xms (d + 3)) 273 [yR k0] hp (bQi G [(32768, 2), (32768, 3), (32768, 5), (32768, 6), (32768, 7)] hp 0 1 (fun _ => True)) := by
  have A_hp : bAx G [(32768, 2), (32768, 3), (32768, 5), (32768, 6), (32768, 7)] hp hp := bAx.rf hT
  have H : ∀ m : Nat, (∀ gg0 : Int, ∀ hq, bAx G [(32768, 2), (32768, 3), (32768, 5), (32768, 6), (32768, 7)] hp hq → ys hq k0 2 = gg0 → 1 ≤ gg0 → (-4000) ≤ 0 - gg0 → 0 - 3 * gg0 + 12002 < (m : Int) → yG 89 xfts (xcall 89 xfts xpools xms (d + 2)) (xpool xp_RX11) [] xt_X11_next (yP 4 (bQi G [(32768, 2), (32768, 3), (32768, 5), (32768, 6), (32768, 7)] hp 0 1 (fun _ => True))) (50 * m) 0 [(0, yR k0)] [] hq) ∧ (∀ gg0 : Int, ∀ hq, bAx G [(32768, 2), (32768, 3), (32768, 5), (32768, 6), (32768, 7)] hp hq → ys hq k0 2 = gg0 → 0 ≤ gg0 → (-4000) ≤ 0 - gg0 → 1 < (m : Int) → yG 89 xfts (xcall 89 xfts xpools xms (d + 2)) (xpool xp_RX11) [] xt_X11_next (yP 4 (bQi G [(32768, 2), (32768, 3), (32768, 5), (32768, 6), (32768, 7)] hp 0 1 (fun _ => True))) (50 * m) 52 [(0, yR k0)] [] hq) := by
    intro m
    induction m with
    | zero =>
      refine ⟨?_, ?_⟩ <;> (intros; exfalso; omega)
    | succ m ih =>
      obtain ⟨i_0, i_52⟩ := ih
      refine ⟨?_, ?_⟩
      · intro gg0 hq A_hq E_0 f0 f1 hm
        refine yG.mono (N := 50 * m + 50) ?_ (by omega)
        obtain ⟨-, -, g_0l, g_0u⟩ := (w_Tape_at W H_k0).int A_hq.1
        refine yG.load xak rfl (fun _ _ => rfl) (v := yR k0) rfl rfl ?_
        refine yG.getI A_hq.1 (w_Tape_at W H_k0) rfl rfl (fun z1 e_z1 i_z1 l_z1 u_z1 => ?_)
        refine yG.load xak rfl (fun _ _ => rfl) (v := yR k0) rfl rfl ?_
        refine yG.getI A_hq.1 (w_Tape_length W H_k0) rfl rfl (fun z2 e_z2 i_z2 l_z2 u_z2 => ?_)
        refine yG.icmp rfl (t := 52) rfl ⟨by omega, by omega⟩ ⟨by omega, by omega⟩ (fun c3 => ?_) (fun c3 => ?_)
        · have c3 : (z1 : Int) ≥ z2 := c3
          exact yG.mono (yG.sub (i_52  (ys hq k0 2) hq A_hq  rfl (by omega) (by omega) (by omega)) (ySub.cons rfl (ySub.nil))) (by omega)
        · have c3 : (z1 : Int) < z2 := c3
          refine yG.load xak rfl (fun _ _ => rfl) (v := yR k0) rfl rfl ?_
          refine yG.getO A_hq.1 (w_Tape_bytes W H_k0) rfl rfl (fun r4 H_r4 O_r4 q_r4 => ?_)
          refine yG.load xak rfl (fun _ _ => rfl) (v := yR k0) rfl rfl ?_
          refine yG.getI A_hq.1 (w_Tape_at W H_k0) rfl rfl (fun z5 e_z5 i_z5 l_z5 u_z5 => ?_)
          refine yG.bald3 A_hq.1 (v_Tape_bytes W H_r4) rfl (by omega) (by omega) (fun z6 e_z6 i_z6 l_z6 u_z6 => ?_)
          refine yG.num (c := 32) rfl (fun _ _ => rfl) (by decide) ?_
          refine yG.icmp rfl (t := 39) rfl ⟨by omega, by omega⟩ ⟨by omega, by omega⟩ (fun c7 => ?_) (fun c7 => ?_)
          · have c7 : (z6 : Int) = 32 := c7
            refine yG.load xak rfl (fun _ _ => rfl) (v := yR k0) rfl rfl ?_
            refine yG.step (pc' := 41) (stk' := [yR k0, yR k0]) rfl (fun _ _ => rfl) ?_
            refine yG.getI A_hq.1 (w_Tape_at W H_k0) rfl rfl (fun z8 e_z8 i_z8 l_z8 u_z8 => ?_)
            refine yG.num (c := 1) rfl (fun _ _ => rfl) (by decide) ?_
            refine yG.iadd rfl ?_
            refine yG.putI A_hq.1 (w_Tape_at W H_k0) (W.2.1 _ _ H_k0 (by decide) (by decide)) rfl rfl (.inl rfl) ⟨by omega, by omega⟩ (by omega) (by omega) (fun h9 T_h9 b_h9 f_h9 y_h9 => ?_)
            have A_h9 := A_hq.put T_h9 b_h9 f_h9 H_k0 (by decide)
            have qq1 : zsl h9 k0 0 = yR r4 := ((f_h9 k0 0).trans (if_neg (fun e => absurd e.2 (by decide)))).trans q_r4
            have : ys h9 k0 2 = z8 + 1 := (y_h9 k0 2).trans (if_pos ⟨rfl, rfl⟩)
            refine yG.goto rfl (t := 0) rfl ?_
            exact yG.mono (yG.sub (i_0  (ys h9 k0 2) h9 A_h9  rfl (by omega) (by omega) (by omega)) (ySub.cons rfl (ySub.nil))) (by omega)
          · have c7 : (z6 : Int) ≠ 32 := c7
            refine yG.load xak rfl (fun _ _ => rfl) (v := yR k0) rfl rfl ?_
            refine yG.getS9 A_hq.1 (w_Tape_bytes W H_k0) q_r4 rfl rfl ?_
            refine yG.load xak rfl (fun _ _ => rfl) (v := yR k0) rfl rfl ?_
            refine yG.getI A_hq.1 (w_Tape_at W H_k0) rfl rfl (fun z10 e_z10 i_z10 l_z10 u_z10 => ?_)
            refine yG.bald3 A_hq.1 (v_Tape_bytes W H_r4) rfl (by omega) (by omega) (fun z11 e_z11 i_z11 l_z11 u_z11 => ?_)
            refine yG.num (c := 10) rfl (fun _ _ => rfl) (by decide) ?_
            refine yG.icmp rfl (t := 52) rfl ⟨by omega, by omega⟩ ⟨by omega, by omega⟩ (fun c12 => ?_) (fun c12 => ?_)
            · have c12 : (z11 : Int) ≠ 10 := c12
              exact yG.mono (yG.sub (i_52  (ys hq k0 2) hq A_hq  rfl (by omega) (by omega) (by omega)) (ySub.cons rfl (ySub.nil))) (by omega)
            · have c12 : (z11 : Int) = 10 := c12
              refine yG.load xak rfl (fun _ _ => rfl) (v := yR k0) rfl rfl ?_
              refine yG.step (pc' := 41) (stk' := [yR k0, yR k0]) rfl (fun _ _ => rfl) ?_
              refine yG.getI A_hq.1 (w_Tape_at W H_k0) rfl rfl (fun z13 e_z13 i_z13 l_z13 u_z13 => ?_)
              refine yG.num (c := 1) rfl (fun _ _ => rfl) (by decide) ?_
              refine yG.iadd rfl ?_
              refine yG.putI A_hq.1 (w_Tape_at W H_k0) (W.2.1 _ _ H_k0 (by decide) (by decide)) rfl rfl (.inl rfl) ⟨by omega, by omega⟩ (by omega) (by omega) (fun h14 T_h14 b_h14 f_h14 y_h14 => ?_)
              have A_h14 := A_hq.put T_h14 b_h14 f_h14 H_k0 (by decide)
              have qq2 : zsl h14 k0 0 = yR r4 := ((f_h14 k0 0).trans (if_neg (fun e => absurd e.2 (by decide)))).trans q_r4
              have : ys h14 k0 2 = z13 + 1 := (y_h14 k0 2).trans (if_pos ⟨rfl, rfl⟩)
              refine yG.goto rfl (t := 0) rfl ?_
              exact yG.mono (yG.sub (i_0  (ys h14 k0 2) h14 A_h14  rfl (by omega) (by omega) (by omega)) (ySub.cons rfl (ySub.nil))) (by omega)
      · intro gg0 hq A_hq E_0 f0 f1 hm
        refine yG.mono (N := 50 * m + 50) ?_ (by omega)
        obtain ⟨-, -, g_0l, g_0u⟩ := (w_Tape_at W H_k0).int A_hq.1
        refine yG.load xak rfl (fun _ _ => rfl) (v := yR k0) rfl rfl ?_
        refine yG.load xak rfl (fun _ _ => rfl) (v := yR k0) rfl rfl ?_
        refine yG.getI A_hq.1 (w_Tape_at W H_k0) rfl rfl (fun z1 e_z1 i_z1 l_z1 u_z1 => ?_)
        refine yG.putI A_hq.1 (w_Tape_from W H_k0) (W.2.1 _ _ H_k0 (by decide) (by decide)) rfl rfl (.inl rfl) ⟨by omega, by omega⟩ (by omega) (by omega) (fun h2 T_h2 b_h2 f_h2 y_h2 => ?_)
        have A_h2 := A_hq.put T_h2 b_h2 f_h2 H_k0 (by decide)
        have : ys h2 k0 2 = ys hq k0 2 := (y_h2 k0 2).trans (if_neg (fun e => absurd e.2 (by decide)))
        refine yG.load xak rfl (fun _ _ => rfl) (v := yR k0) rfl rfl ?_
        refine yG.num (c := -1) rfl (fun _ _ => rfl) (by decide) ?_
        refine yG.putI A_h2.1 (w_Tape_number W H_k0) (W.2.1 _ _ H_k0 (by decide) (by decide)) rfl rfl (.inl rfl) ⟨by omega, by omega⟩ (by omega) (by omega) (fun h3 T_h3 b_h3 f_h3 y_h3 => ?_)
        have A_h3 := A_h2.put T_h3 b_h3 f_h3 H_k0 (by decide)
        have : ys h3 k0 2 = ys h2 k0 2 := (y_h3 k0 2).trans (if_neg (fun e => absurd e.2 (by decide)))
        refine yG.load xak rfl (fun _ _ => rfl) (v := yR k0) rfl rfl ?_
        refine yG.num (c := 0) rfl (fun _ _ => rfl) (by decide) ?_
        refine yG.putI A_h3.1 (w_Tape_letterFirst W H_k0) (W.2.1 _ _ H_k0 (by decide) (by decide)) rfl rfl (.inr ⟨rfl, rfl, rfl⟩) ⟨by omega, by omega⟩ (by omega) (by omega) (fun h4 T_h4 b_h4 f_h4 y_h4 => ?_)
        have A_h4 := A_h3.put T_h4 b_h4 f_h4 H_k0 (by decide)
        have : ys h4 k0 2 = ys h3 k0 2 := (y_h4 k0 2).trans (if_neg (fun e => absurd e.2 (by decide)))
        refine yG.load xak rfl (fun _ _ => rfl) (v := yR k0) rfl rfl ?_
        refine yG.getI A_h4.1 (w_Tape_at W H_k0) rfl rfl (fun z5 e_z5 i_z5 l_z5 u_z5 => ?_)
        refine yG.load xak rfl (fun _ _ => rfl) (v := yR k0) rfl rfl ?_
        refine yG.getI A_h4.1 (w_Tape_length W H_k0) rfl rfl (fun z6 e_z6 i_z6 l_z6 u_z6 => ?_)
        refine yG.icmp rfl (t := 90) rfl ⟨by omega, by omega⟩ ⟨by omega, by omega⟩ (fun c7 => ?_) (fun c7 => ?_)
        · have c7 : (z5 : Int) < z6 := c7
          refine yG.load xak rfl (fun _ _ => rfl) (v := yR k0) rfl rfl ?_
          refine yG.getO A_h4.1 (w_Tape_bytes W H_k0) rfl rfl (fun r8 H_r8 O_r8 q_r8 => ?_)
          refine yG.load xak rfl (fun _ _ => rfl) (v := yR k0) rfl rfl ?_
          refine yG.getI A_h4.1 (w_Tape_at W H_k0) rfl rfl (fun z9 e_z9 i_z9 l_z9 u_z9 => ?_)
          refine yG.bald3 A_h4.1 (v_Tape_bytes W H_r8) rfl (by omega) (by omega) (fun z10 e_z10 i_z10 l_z10 u_z10 => ?_)
          refine yG.num (c := 255) rfl (fun _ _ => rfl) (by decide) ?_
          refine yG.bit32 rfl (fun _ _ => rfl) (fun z11 e_z11 l_z11 u_z11 => ?_)
          have b_z11 : 0 ≤ z11 ∧ z11 ≤ 255 := by rw [e_z11]; exact yiand ⟨by decide, by decide⟩ (by decide)
          refine yG.store1 xik (L' := [(1, yI (z11)), (0, yR k0)]) rfl (fun _ _ => rfl) rfl rfl ?_
          refine yG.load xak rfl (fun _ _ => rfl) (v := yR k0) rfl rfl ?_
          refine yG.load xik rfl (fun _ _ => rfl) (v := yI (z11)) rfl rfl ?_
          refine yG.i2l rfl ⟨by omega, by omega⟩ ?_
          refine yG.putJ A_h4.1 (w_Tape_word W H_k0) (W.2.1 _ _ H_k0 (by decide) (by decide)) rfl rfl rfl ⟨by omega, by omega⟩ (by omega) (by omega) (fun h12 T_h12 b_h12 f_h12 y_h12 => ?_)
          have A_h12 := A_h4.put T_h12 b_h12 f_h12 H_k0 (by decide)
          have : ys h12 k0 2 = ys h4 k0 2 := (y_h12 k0 2).trans (if_neg (fun e => absurd e.2 (by decide)))
          refine yG.load xak rfl (fun _ _ => rfl) (v := yR k0) rfl rfl ?_
          refine yG.step (pc' := 112) (stk' := [yR k0, yR k0]) rfl (fun _ _ => rfl) ?_
          refine yG.getI A_h12.1 (w_Tape_at W H_k0) rfl rfl (fun z13 e_z13 i_z13 l_z13 u_z13 => ?_)
          refine yG.num (c := 1) rfl (fun _ _ => rfl) (by decide) ?_
          refine yG.iadd rfl ?_
          refine yG.putI A_h12.1 (w_Tape_at W H_k0) (W.2.1 _ _ H_k0 (by decide) (by decide)) rfl rfl (.inl rfl) ⟨by omega, by omega⟩ (by omega) (by omega) (fun h14 T_h14 b_h14 f_h14 y_h14 => ?_)
          have A_h14 := A_h12.put T_h14 b_h14 f_h14 H_k0 (by decide)
          have : ys h14 k0 2 = z13 + 1 := (y_h14 k0 2).trans (if_pos ⟨rfl, rfl⟩)
          refine yG.load xik rfl (fun _ _ => rfl) (v := yI (z11)) rfl rfl ?_
          refine yG.invS (rest := []) rfl rfl rfl rfl (c_Tape_isPlain W (d + 1) A_h14.1 (z11) (by omega) (by omega)) (fun rv hp9 q9 => ?_)
          obtain ⟨⟨z15, rfl, l_z15, u_z15, R_z15⟩, e9⟩ := q9
          rw [e9]
          show yG _ _ _ _ _ _ _ _ _ _ (yI z15 :: []) _
          refine yG.ifz rfl (t := 148) rfl ⟨by omega, by omega⟩ (fun c16 => ?_) (fun c16 => ?_)
          · have c16 : (z15 : Int) = 0 := c16
            refine yG.num (c := 1) rfl (fun _ _ => rfl) (by decide) ?_
            refine yG.ret rfl (fun _ _ => rfl) ?_
            exact (yP.bool (by omega) ⟨⟨1, rfl, by omega, by omega, trivial⟩, A_h14⟩)
          · have c16 : (z15 : Int) ≠ 0 := c16
            refine yG.load xak rfl (fun _ _ => rfl) (v := yR k0) rfl rfl ?_
            refine yG.load xik rfl (fun _ _ => rfl) (v := yI (z11)) rfl rfl ?_
            refine yG.invS (rest := [yR k0]) rfl rfl rfl rfl (c_Tape_isFigure W (d + 1) A_h14.1 (z11) (by omega) (by omega)) (fun rv hp9 q9 => ?_)
            obtain ⟨⟨z17, rfl, l_z17, u_z17, R_z17⟩, e9⟩ := q9
            rw [e9]
            show yG _ _ _ _ _ _ _ _ _ _ (yI z17 :: [yR k0]) _
            refine yG.ifz rfl (t := 139) rfl ⟨by omega, by omega⟩ (fun c18 => ?_) (fun c18 => ?_)
            · have c18 : (z17 : Int) ≠ 0 := c18
              refine yG.num (c := 0) rfl (fun _ _ => rfl) (by decide) ?_
              refine yG.putI A_h14.1 (w_Tape_letterFirst W H_k0) (W.2.1 _ _ H_k0 (by decide) (by decide)) rfl rfl (.inr ⟨rfl, rfl, rfl⟩) ⟨by omega, by omega⟩ (by omega) (by omega) (fun h19 T_h19 b_h19 f_h19 y_h19 => ?_)
              have A_h19 := A_h14.put T_h19 b_h19 f_h19 H_k0 (by decide)
              have : ys h19 k0 2 = ys h14 k0 2 := (y_h19 k0 2).trans (if_neg (fun e => absurd e.2 (by decide)))
              refine yG.load xak rfl (fun _ _ => rfl) (v := yR k0) rfl rfl ?_
              refine yG.load xik rfl (fun _ _ => rfl) (v := yI (z11)) rfl rfl ?_
              refine yG.invV (rest := []) A_h19.1 (bOb (d_Tape W) H_k0) rfl rfl rfl rfl (c_Tape_readOn W d A_h19.1 H_k0 (z11) (by omega) (by omega)) (fun rv h20 q9 => ?_)
              obtain ⟨⟨rfl, R_z21⟩, B_h20⟩ := q9
              have A_h20 := A_h19.tr B_h20 (by decide)
              show yG _ _ _ _ _ _ _ _ _ _ [] _
              refine yG.num (c := 1) rfl (fun _ _ => rfl) (by decide) ?_
              refine yG.ret rfl (fun _ _ => rfl) ?_
              exact (yP.bool (by omega) ⟨⟨1, rfl, by omega, by omega, trivial⟩, A_h20⟩)
            · have c18 : (z17 : Int) = 0 := c18
              refine yG.num (c := 1) rfl (fun _ _ => rfl) (by decide) ?_
              refine yG.goto rfl (t := 140) rfl ?_
              refine yG.putI A_h14.1 (w_Tape_letterFirst W H_k0) (W.2.1 _ _ H_k0 (by decide) (by decide)) rfl rfl (.inr ⟨rfl, rfl, rfl⟩) ⟨by omega, by omega⟩ (by omega) (by omega) (fun h22 T_h22 b_h22 f_h22 y_h22 => ?_)
              have A_h22 := A_h14.put T_h22 b_h22 f_h22 H_k0 (by decide)
              have : ys h22 k0 2 = ys h14 k0 2 := (y_h22 k0 2).trans (if_neg (fun e => absurd e.2 (by decide)))
              refine yG.load xak rfl (fun _ _ => rfl) (v := yR k0) rfl rfl ?_
              refine yG.load xik rfl (fun _ _ => rfl) (v := yI (z11)) rfl rfl ?_
              refine yG.invV (rest := []) A_h22.1 (bOb (d_Tape W) H_k0) rfl rfl rfl rfl (c_Tape_readOn W d A_h22.1 H_k0 (z11) (by omega) (by omega)) (fun rv h23 q9 => ?_)
              obtain ⟨⟨rfl, R_z24⟩, B_h23⟩ := q9
              have A_h23 := A_h22.tr B_h23 (by decide)
              show yG _ _ _ _ _ _ _ _ _ _ [] _
              refine yG.num (c := 1) rfl (fun _ _ => rfl) (by decide) ?_
              refine yG.ret rfl (fun _ _ => rfl) ?_
              exact (yP.bool (by omega) ⟨⟨1, rfl, by omega, by omega, trivial⟩, A_h23⟩)
        · have c7 : (z5 : Int) ≥ z6 := c7
          refine yG.load xak rfl (fun _ _ => rfl) (v := yR k0) rfl rfl ?_
          refine yG.numl (c := -2) rfl (fun _ _ => rfl) (by decide) ?_
          refine yG.putJ A_h4.1 (w_Tape_word W H_k0) (W.2.1 _ _ H_k0 (by decide) (by decide)) rfl rfl rfl ⟨by omega, by omega⟩ (by omega) (by omega) (fun h25 T_h25 b_h25 f_h25 y_h25 => ?_)
          have A_h25 := A_h4.put T_h25 b_h25 f_h25 H_k0 (by decide)
          have : ys h25 k0 2 = ys h4 k0 2 := (y_h25 k0 2).trans (if_neg (fun e => absurd e.2 (by decide)))
          refine yG.num (c := 0) rfl (fun _ _ => rfl) (by decide) ?_
          refine yG.ret rfl (fun _ _ => rfl) ?_
          exact (yP.bool (by omega) ⟨⟨0, rfl, by omega, by omega, trivial⟩, A_h25⟩)
  refine yC.of (M := (xt_X11_next, (2, (4, (12, []))))) rfl rfl (N := 600100) (yfuel (by decide)) ?_
  show yG 89 xfts (xcall 89 xfts xpools xms (d + 2)) (xpool xp_RX11) [] xt_X11_next (yP 4 (bQi G [(32768, 2), (32768, 3), (32768, 5), (32768, 6), (32768, 7)] hp 0 1 (fun _ => True))) 600100 0 [(0, yR k0)] [] hp
  obtain ⟨i_0, i_52⟩ := H 12001
  obtain ⟨gg0, E_0⟩ : ∃ z : Int, ys hp k0 2 = z := ⟨_, rfl⟩
  obtain ⟨-, -, g_0l, g_0u⟩ := (w_Tape_at W H_k0).int hT
  refine yG.load xak rfl (fun _ _ => rfl) (v := yR k0) rfl rfl ?_
  refine yG.getI A_hp.1 (w_Tape_at W H_k0) rfl rfl (fun z1 e_z1 i_z1 l_z1 u_z1 => ?_)
  refine yG.load xak rfl (fun _ _ => rfl) (v := yR k0) rfl rfl ?_
  refine yG.getI A_hp.1 (w_Tape_length W H_k0) rfl rfl (fun z2 e_z2 i_z2 l_z2 u_z2 => ?_)
  refine yG.icmp rfl (t := 52) rfl ⟨by omega, by omega⟩ ⟨by omega, by omega⟩ (fun c3 => ?_) (fun c3 => ?_)
  · have c3 : (z1 : Int) ≥ z2 := c3
    exact yG.mono (yG.sub (i_52  (ys hp k0 2) hp A_hp  rfl (by omega) (by omega) (by omega)) (ySub.cons rfl (ySub.nil))) (by omega)
  · have c3 : (z1 : Int) < z2 := c3
    refine yG.load xak rfl (fun _ _ => rfl) (v := yR k0) rfl rfl ?_
    refine yG.getO A_hp.1 (w_Tape_bytes W H_k0) rfl rfl (fun r4 H_r4 O_r4 q_r4 => ?_)
    refine yG.load xak rfl (fun _ _ => rfl) (v := yR k0) rfl rfl ?_
    refine yG.getI A_hp.1 (w_Tape_at W H_k0) rfl rfl (fun z5 e_z5 i_z5 l_z5 u_z5 => ?_)
    refine yG.bald3 A_hp.1 (v_Tape_bytes W H_r4) rfl (by omega) (by omega) (fun z6 e_z6 i_z6 l_z6 u_z6 => ?_)
    refine yG.num (c := 32) rfl (fun _ _ => rfl) (by decide) ?_
    refine yG.icmp rfl (t := 39) rfl ⟨by omega, by omega⟩ ⟨by omega, by omega⟩ (fun c7 => ?_) (fun c7 => ?_)
    · have c7 : (z6 : Int) = 32 := c7
      refine yG.load xak rfl (fun _ _ => rfl) (v := yR k0) rfl rfl ?_
      refine yG.step (pc' := 41) (stk' := [yR k0, yR k0]) rfl (fun _ _ => rfl) ?_
      refine yG.getI A_hp.1 (w_Tape_at W H_k0) rfl rfl (fun z8 e_z8 i_z8 l_z8 u_z8 => ?_)
      refine yG.num (c := 1) rfl (fun _ _ => rfl) (by decide) ?_
      refine yG.iadd rfl ?_
      refine yG.putI A_hp.1 (w_Tape_at W H_k0) (W.2.1 _ _ H_k0 (by decide) (by decide)) rfl rfl (.inl rfl) ⟨by omega, by omega⟩ (by omega) (by omega) (fun h9 T_h9 b_h9 f_h9 y_h9 => ?_)
      have A_h9 := A_hp.put T_h9 b_h9 f_h9 H_k0 (by decide)
      have qq1 : zsl h9 k0 0 = yR r4 := ((f_h9 k0 0).trans (if_neg (fun e => absurd e.2 (by decide)))).trans q_r4
      have : ys h9 k0 2 = z8 + 1 := (y_h9 k0 2).trans (if_pos ⟨rfl, rfl⟩)
      refine yG.goto rfl (t := 0) rfl ?_
      exact yG.mono (yG.sub (i_0  (ys h9 k0 2) h9 A_h9  rfl (by omega) (by omega) (by omega)) (ySub.cons rfl (ySub.nil))) (by omega)
    · have c7 : (z6 : Int) ≠ 32 := c7
      refine yG.load xak rfl (fun _ _ => rfl) (v := yR k0) rfl rfl ?_
      refine yG.getS9 A_hp.1 (w_Tape_bytes W H_k0) q_r4 rfl rfl ?_
      refine yG.load xak rfl (fun _ _ => rfl) (v := yR k0) rfl rfl ?_
      refine yG.getI A_hp.1 (w_Tape_at W H_k0) rfl rfl (fun z10 e_z10 i_z10 l_z10 u_z10 => ?_)
      refine yG.bald3 A_hp.1 (v_Tape_bytes W H_r4) rfl (by omega) (by omega) (fun z11 e_z11 i_z11 l_z11 u_z11 => ?_)
      refine yG.num (c := 10) rfl (fun _ _ => rfl) (by decide) ?_
      refine yG.icmp rfl (t := 52) rfl ⟨by omega, by omega⟩ ⟨by omega, by omega⟩ (fun c12 => ?_) (fun c12 => ?_)
      · have c12 : (z11 : Int) ≠ 10 := c12
        exact yG.mono (yG.sub (i_52  (ys hp k0 2) hp A_hp  rfl (by omega) (by omega) (by omega)) (ySub.cons rfl (ySub.nil))) (by omega)
      · have c12 : (z11 : Int) = 10 := c12
        refine yG.load xak rfl (fun _ _ => rfl) (v := yR k0) rfl rfl ?_
        refine yG.step (pc' := 41) (stk' := [yR k0, yR k0]) rfl (fun _ _ => rfl) ?_
        refine yG.getI A_hp.1 (w_Tape_at W H_k0) rfl rfl (fun z13 e_z13 i_z13 l_z13 u_z13 => ?_)
        refine yG.num (c := 1) rfl (fun _ _ => rfl) (by decide) ?_
        refine yG.iadd rfl ?_
        refine yG.putI A_hp.1 (w_Tape_at W H_k0) (W.2.1 _ _ H_k0 (by decide) (by decide)) rfl rfl (.inl rfl) ⟨by omega, by omega⟩ (by omega) (by omega) (fun h14 T_h14 b_h14 f_h14 y_h14 => ?_)
        have A_h14 := A_hp.put T_h14 b_h14 f_h14 H_k0 (by decide)
        have qq2 : zsl h14 k0 0 = yR r4 := ((f_h14 k0 0).trans (if_neg (fun e => absurd e.2 (by decide)))).trans q_r4
        have : ys h14 k0 2 = z13 + 1 := (y_h14 k0 2).trans (if_pos ⟨rfl, rfl⟩)
        refine yG.goto rfl (t := 0) rfl ?_
        exact yG.mono (yG.sub (i_0  (ys h14 k0 2) h14 A_h14  rfl (by omega) (by omega) (by omega)) (ySub.cons rfl (ySub.nil))) (by omega)
theorem c_Tape_key {hp : xH} (W : bW G) (d : Nat) (hT : zTy G hp) {k0 : Nat} (H_k0 : bRo G 15 k0) : yC (xcall 89 xfts xpools xms (d + 1)) 271 [yR k0] hp (bQpi hp (-1) 30 (fun _ => True)) := by
  have A_hp : bAx G [] hp hp := bAx.rf hT
  have H : ∀ m : Nat, (∀ a1 : Int, 0 ≤ a1 → (-31) ≤ 0 - a1 → 0 - 2 * a1 + 63 < (m : Int) → yG 89 xfts (xcall 89 xfts xpools xms d) (xpool xp_RX11) [] xt_X11_key (yP 1 (bQpi hp (-1) 30 (fun _ => True))) (15 * m) 2 [(0, yR k0), (1, yI (a1))] [] hp) := by
    intro m
    induction m with
    | zero =>
      intros; exfalso; omega
    | succ m ih =>
      have i_2 := ih
      clear ih
      intro a1 f0 f1 hm
      refine yG.mono (N := 15 * m + 15) ?_ (by omega)
      refine yG.load xik rfl (fun _ _ => rfl) (v := yI (a1)) rfl rfl ?_
      refine yG.num (c := 31) rfl (fun _ _ => rfl) (by decide) ?_
      refine yG.icmp rfl (t := 30) rfl ⟨by omega, by omega⟩ ⟨by omega, by omega⟩ (fun c1 => ?_) (fun c1 => ?_)
      · have c1 : (a1 : Int) ≥ 31 := c1
        refine yG.num (c := -1) rfl (fun _ _ => rfl) (by decide) ?_
        refine yG.ret rfl (fun _ _ => rfl) ?_
        exact (yP.int ⟨by omega, by omega⟩ ⟨⟨(-1), rfl, by omega, by omega, trivial⟩, rfl⟩)
      · have c1 : (a1 : Int) < 31 := c1
        refine yG.load xak rfl (fun _ _ => rfl) (v := yR k0) rfl rfl ?_
        refine yG.getO A_hp.1 (w_Tape_keys W H_k0) rfl rfl (fun r2 H_r2 O_r2 q_r2 => ?_)
        refine yG.load xik rfl (fun _ _ => rfl) (v := yI (a1)) rfl rfl ?_
        refine yG.lald A_hp.1 (v_Tape_keys W H_r2) rfl (by omega) (by omega) (fun z3 e_z3 i_z3 l_z3 u_z3 => ?_)
        refine yG.load xak rfl (fun _ _ => rfl) (v := yR k0) rfl rfl ?_
        refine yG.getJ A_hp.1 (w_Tape_word W H_k0) rfl rfl (fun z4 e_z4 i_z4 l_z4 u_z4 => ?_)
        refine yG.lcmp rfl ⟨by omega, by omega⟩ ⟨by omega, by omega⟩ (fun z5 e_z5 => ?_)
        refine yG.ifz rfl (t := 24) rfl ⟨by omega, by omega⟩ (fun c6 => ?_) (fun c6 => ?_)
        · have c6 : (z5 : Int) ≠ 0 := c6
          refine yG.iinc rfl (a := a1) rfl (L' := [(1, yI (a1 + 1)), (0, yR k0)]) rfl ?_
          refine yG.goto rfl (t := 2) rfl ?_
          exact yG.mono (yG.sub (i_2 (a1 + 1)     (by omega) (by omega) (by omega)) (ySub.cons rfl (ySub.cons rfl (ySub.nil)))) (by omega)
        · have c6 : (z5 : Int) = 0 := c6
          refine yG.load xik rfl (fun _ _ => rfl) (v := yI (a1)) rfl rfl ?_
          refine yG.ret rfl (fun _ _ => rfl) ?_
          exact (yP.int ⟨by omega, by omega⟩ ⟨⟨a1, rfl, by omega, by omega, trivial⟩, rfl⟩)
  refine yC.of (M := (xt_X11_key, (2, (1, (12, []))))) rfl rfl (N := 990) (yfuel (by decide)) ?_
  show yG 89 xfts (xcall 89 xfts xpools xms d) (xpool xp_RX11) [] xt_X11_key (yP 1 (bQpi hp (-1) 30 (fun _ => True))) 990 0 [(0, yR k0)] [] hp
  have i_2 := H 65
  refine yG.num (c := 0) rfl (fun _ _ => rfl) (by decide) ?_
  refine yG.store1 xik (L' := [(1, yI (0)), (0, yR k0)]) rfl (fun _ _ => rfl) rfl rfl ?_
  exact yG.mono (yG.sub (i_2 (0)     (by omega) (by omega) (by omega)) (ySub.cons rfl (ySub.cons rfl (ySub.nil)))) (by omega)
theorem c_Tape_isName {hp : xH} (W : bW G) (d : Nat) (hT : zTy G hp) {k0 : Nat} (H_k0 : bRo G 15 k0) : yC (xcall 89 xfts xpools xms (d + 2)) 268 [yR k0] hp (bQpi hp 0 1 (fun _ => True)) := by
  have A_hp : bAx G [] hp hp := bAx.rf hT
  refine yC.of (M := (xt_X11_isName, (1, (4, (12, []))))) rfl rfl (N := 51) (yfuel (by decide)) ?_
  show yG 89 xfts (xcall 89 xfts xpools xms (d + 1)) (xpool xp_RX11) [] xt_X11_isName (yP 4 (bQpi hp 0 1 (fun _ => True))) 51 0 [(0, yR k0)] [] hp
  refine yG.load xak rfl (fun _ _ => rfl) (v := yR k0) rfl rfl ?_
  refine yG.getI A_hp.1 (w_Tape_letterFirst W H_k0) rfl rfl (fun z1 e_z1 i_z1 l_z1 u_z1 => ?_)
  refine yG.ifz rfl (t := 30) rfl ⟨by omega, by omega⟩ (fun c2 => ?_) (fun c2 => ?_)
  · have c2 : (z1 : Int) = 0 := c2
    refine yG.num (c := 0) rfl (fun _ _ => rfl) (by decide) ?_
    refine yG.ret rfl (fun _ _ => rfl) ?_
    exact (yP.bool (by omega) ⟨⟨0, rfl, by omega, by omega, trivial⟩, rfl⟩)
  · have c2 : (z1 : Int) ≠ 0 := c2
    refine yG.load xak rfl (fun _ _ => rfl) (v := yR k0) rfl rfl ?_
    refine yG.getJ A_hp.1 (w_Tape_word W H_k0) rfl rfl (fun z3 e_z3 i_z3 l_z3 u_z3 => ?_)
    refine yG.numl (c := -1) rfl (fun _ _ => rfl) (by decide) ?_
    refine yG.lcmp rfl ⟨by omega, by omega⟩ ⟨by omega, by omega⟩ (fun z4 e_z4 => ?_)
    refine yG.ifz rfl (t := 30) rfl ⟨by omega, by omega⟩ (fun c5 => ?_) (fun c5 => ?_)
    · have c5 : (z4 : Int) = 0 := c5
      refine yG.num (c := 0) rfl (fun _ _ => rfl) (by decide) ?_
      refine yG.ret rfl (fun _ _ => rfl) ?_
      exact (yP.bool (by omega) ⟨⟨0, rfl, by omega, by omega, trivial⟩, rfl⟩)
    · have c5 : (z4 : Int) ≠ 0 := c5
      refine yG.load xak rfl (fun _ _ => rfl) (v := yR k0) rfl rfl ?_
      refine yG.invV (rest := []) A_hp.1 (bOb (d_Tape W) H_k0) rfl rfl rfl rfl (c_Tape_key W d A_hp.1 H_k0) (fun rv hp9 q9 => ?_)
      obtain ⟨⟨z6, rfl, l_z6, u_z6, R_z6⟩, e9⟩ := q9
      rw [e9]
      show yG _ _ _ _ _ _ _ _ _ _ (yI z6 :: []) _
      refine yG.num (c := -1) rfl (fun _ _ => rfl) (by decide) ?_
      refine yG.icmp rfl (t := 30) rfl ⟨by omega, by omega⟩ ⟨by omega, by omega⟩ (fun c7 => ?_) (fun c7 => ?_)
      · have c7 : (z6 : Int) ≠ (-1) := c7
        refine yG.num (c := 0) rfl (fun _ _ => rfl) (by decide) ?_
        refine yG.ret rfl (fun _ _ => rfl) ?_
        exact (yP.bool (by omega) ⟨⟨0, rfl, by omega, by omega, trivial⟩, rfl⟩)
      · have c7 : (z6 : Int) = (-1) := c7
        refine yG.num (c := 1) rfl (fun _ _ => rfl) (by decide) ?_
        refine yG.goto rfl (t := 31) rfl ?_
        refine yG.ret rfl (fun _ _ => rfl) ?_
        exact (yP.bool (by omega) ⟨⟨1, rfl, by omega, by omega, trivial⟩, rfl⟩)
theorem c_Tape_isSign {hp : xH} (W : bW G) (d : Nat) (hT : zTy G hp) {k0 : Nat} (H_k0 : bRo G 15 k0) (p1 : Int) (h1l : (-2147483648) ≤ p1) (h1u : p1 ≤ 2147483647) : yC (xcall 89 xfts xpools xms (d + 1)) 270 [yR k0, yI (p1)] hp (bQpi hp 0 1 (fun _ => True)) := by
  have A_hp : bAx G [] hp hp := bAx.rf hT
  refine yC.of (M := (xt_X11_isSign, (2, (4, (12, []))))) rfl rfl (N := 33) (yfuel (by decide)) ?_
  show yG 89 xfts (xcall 89 xfts xpools xms d) (xpool xp_RX11) [] xt_X11_isSign (yP 4 (bQpi hp 0 1 (fun _ => True))) 33 0 [(0, yR k0), (1, yI (p1))] [] hp
  refine yG.load xak rfl (fun _ _ => rfl) (v := yR k0) rfl rfl ?_
  refine yG.getJ A_hp.1 (w_Tape_word W H_k0) rfl rfl (fun z1 e_z1 i_z1 l_z1 u_z1 => ?_)
  refine yG.load xik rfl (fun _ _ => rfl) (v := yI (p1)) rfl rfl ?_
  refine yG.i2l rfl ⟨by omega, by omega⟩ ?_
  refine yG.lcmp rfl ⟨by omega, by omega⟩ ⟨by omega, by omega⟩ (fun z2 e_z2 => ?_)
  refine yG.ifz rfl (t := 14) rfl ⟨by omega, by omega⟩ (fun c3 => ?_) (fun c3 => ?_)
  · have c3 : (z2 : Int) ≠ 0 := c3
    refine yG.num (c := 0) rfl (fun _ _ => rfl) (by decide) ?_
    refine yG.ret rfl (fun _ _ => rfl) ?_
    exact (yP.bool (by omega) ⟨⟨0, rfl, by omega, by omega, trivial⟩, rfl⟩)
  · have c3 : (z2 : Int) = 0 := c3
    refine yG.num (c := 1) rfl (fun _ _ => rfl) (by decide) ?_
    refine yG.goto rfl (t := 15) rfl ?_
    refine yG.ret rfl (fun _ _ => rfl) ?_
    exact (yP.bool (by omega) ⟨⟨1, rfl, by omega, by omega, trivial⟩, rfl⟩)
theorem c_Tape_whole {hp : xH} (W : bW G) (d : Nat) (hT : zTy G hp) {k0 : Nat} (H_k0 : bRo G 15 k0) : yC (xcall 89 xfts xpools xms (d + 1)) 276 [yR k0] hp (bQpj hp (-9223372036854775808) 9223372036854775807 (fun _ => True)) := by
  have A_hp : bAx G [] hp hp := bAx.rf hT
  have H : ∀ m : Nat, (∀ a1 : Int, ∀ a3 : Int, (-9223372036854775808) ≤ a1 → (-9223372036854775807) ≤ 0 - a1 → 0 ≤ a3 → (-4000) ≤ 0 - a3 → (-9223372036854775806) ≤ 0 - a1 + a3 → 0 - 2 * a3 + 8001 < (m : Int) → yG 89 xfts (xcall 89 xfts xpools xms d) (xpool xp_RX11) [] xt_X11_whole (yP 2 (bQpj hp (-9223372036854775808) 9223372036854775807 (fun _ => True))) (26 * m) 47 [(0, yR k0), (1, yJ (a1)), (3, yI (a3))] [] hp) := by
    intro m
    induction m with
    | zero =>
      intros; exfalso; omega
    | succ m ih =>
      have i_47 := ih
      clear ih
      intro a1 a3 f0 f1 f2 f3 f4 hm
      refine yG.mono (N := 26 * m + 26) ?_ (by omega)
      refine yG.load xik rfl (fun _ _ => rfl) (v := yI (a3)) rfl rfl ?_
      refine yG.load xak rfl (fun _ _ => rfl) (v := yR k0) rfl rfl ?_
      refine yG.getI A_hp.1 (w_Tape_length W H_k0) rfl rfl (fun z1 e_z1 i_z1 l_z1 u_z1 => ?_)
      refine yG.icmp rfl (t := 85) rfl ⟨by omega, by omega⟩ ⟨by omega, by omega⟩ (fun c2 => ?_) (fun c2 => ?_)
      · have c2 : (a3 : Int) ≥ z1 := c2
        refine yG.load xlk2 rfl (fun _ _ => rfl) (v := yJ (a1)) rfl rfl ?_
        refine yG.ret rfl (fun _ _ => rfl) ?_
        exact (yP.long ⟨by omega, by omega⟩ ⟨⟨a1, rfl, by omega, by omega, trivial⟩, rfl⟩)
      · have c2 : (a3 : Int) < z1 := c2
        refine yG.load xik rfl (fun _ _ => rfl) (v := yI (a3)) rfl rfl ?_
        refine yG.num (c := 4000) rfl (fun _ _ => rfl) (by decide) ?_
        refine yG.icmp rfl (t := 85) rfl ⟨by omega, by omega⟩ ⟨by omega, by omega⟩ (fun c3 => ?_) (fun c3 => ?_)
        · have c3 : (a3 : Int) ≥ 4000 := c3
          exfalso; omega
        · have c3 : (a3 : Int) < 4000 := c3
          refine yG.load xlk2 rfl (fun _ _ => rfl) (v := yJ (a1)) rfl rfl ?_
          refine yG.num (c := 8) rfl (fun _ _ => rfl) (by decide) ?_
          refine yG.bit64 rfl (fun _ _ => rfl) (fun z4 e_z4 l_z4 u_z4 => ?_)
          refine yG.load xak rfl (fun _ _ => rfl) (v := yR k0) rfl rfl ?_
          refine yG.getO A_hp.1 (w_Tape_bytes W H_k0) rfl rfl (fun r5 H_r5 O_r5 q_r5 => ?_)
          refine yG.load xik rfl (fun _ _ => rfl) (v := yI (a3)) rfl rfl ?_
          refine yG.bald3 A_hp.1 (v_Tape_bytes W H_r5) rfl (by omega) (by omega) (fun z6 e_z6 i_z6 l_z6 u_z6 => ?_)
          refine yG.num (c := 255) rfl (fun _ _ => rfl) (by decide) ?_
          refine yG.bit32 rfl (fun _ _ => rfl) (fun z7 e_z7 l_z7 u_z7 => ?_)
          have b_z7 : 0 ≤ z7 ∧ z7 ≤ 255 := by rw [e_z7]; exact yiand ⟨by decide, by decide⟩ (by decide)
          refine yG.i2l rfl ⟨by omega, by omega⟩ ?_
          refine yG.bit64 rfl (fun _ _ => rfl) (fun z8 e_z8 l_z8 u_z8 => ?_)
          refine yG.store2 xlk2 (L' := [(1, yJ (z8)), (0, yR k0), (3, yI (a3))]) rfl (fun _ _ => rfl) rfl rfl ?_
          refine yG.iinc rfl (a := a3) rfl (L' := [(3, yI (a3 + 1)), (1, yJ (z8)), (0, yR k0)]) rfl ?_
          refine yG.goto rfl (t := 47) rfl ?_
          exact yG.mono (yG.sub (i_47 (z8) (a3 + 1)     (by omega) (by omega) (by omega) (by omega) (by omega) (by omega)) (ySub.cons rfl (ySub.cons rfl (ySub.cons rfl (ySub.nil))))) (by omega)
  refine yC.of (M := (xt_X11_whole, (4, (2, (12, []))))) rfl rfl (N := 208104) (yfuel (by decide)) ?_
  show yG 89 xfts (xcall 89 xfts xpools xms d) (xpool xp_RX11) [] xt_X11_whole (yP 2 (bQpj hp (-9223372036854775808) 9223372036854775807 (fun _ => True))) 208104 0 [(0, yR k0)] [] hp
  have i_47 := H 8003
  refine yG.load xak rfl (fun _ _ => rfl) (v := yR k0) rfl rfl ?_
  refine yG.getI A_hp.1 (w_Tape_length W H_k0) rfl rfl (fun z1 e_z1 i_z1 l_z1 u_z1 => ?_)
  refine yG.num (c := 1) rfl (fun _ _ => rfl) (by decide) ?_
  refine yG.icmp rfl (t := 39) rfl ⟨by omega, by omega⟩ ⟨by omega, by omega⟩ (fun c2 => ?_) (fun c2 => ?_)
  · have c2 : (z1 : Int) < 1 := c2
    refine yG.numl (c := -1) rfl (fun _ _ => rfl) (by decide) ?_
    refine yG.ret rfl (fun _ _ => rfl) ?_
    exact (yP.long ⟨by omega, by omega⟩ ⟨⟨(-1), rfl, by omega, by omega, trivial⟩, rfl⟩)
  · have c2 : (z1 : Int) ≥ 1 := c2
    refine yG.load xak rfl (fun _ _ => rfl) (v := yR k0) rfl rfl ?_
    refine yG.getI A_hp.1 (w_Tape_length W H_k0) rfl rfl (fun z3 e_z3 i_z3 l_z3 u_z3 => ?_)
    refine yG.num (c := 8) rfl (fun _ _ => rfl) (by decide) ?_
    refine yG.icmp rfl (t := 39) rfl ⟨by omega, by omega⟩ ⟨by omega, by omega⟩ (fun c4 => ?_) (fun c4 => ?_)
    · have c4 : (z3 : Int) > 8 := c4
      refine yG.numl (c := -1) rfl (fun _ _ => rfl) (by decide) ?_
      refine yG.ret rfl (fun _ _ => rfl) ?_
      exact (yP.long ⟨by omega, by omega⟩ ⟨⟨(-1), rfl, by omega, by omega, trivial⟩, rfl⟩)
    · have c4 : (z3 : Int) ≤ 8 := c4
      refine yG.load xak rfl (fun _ _ => rfl) (v := yR k0) rfl rfl ?_
      refine yG.getO A_hp.1 (w_Tape_bytes W H_k0) rfl rfl (fun r5 H_r5 O_r5 q_r5 => ?_)
      refine yG.num (c := 0) rfl (fun _ _ => rfl) (by decide) ?_
      refine yG.bald3 A_hp.1 (v_Tape_bytes W H_r5) rfl (by omega) (by omega) (fun z6 e_z6 i_z6 l_z6 u_z6 => ?_)
      refine yG.num (c := 97) rfl (fun _ _ => rfl) (by decide) ?_
      refine yG.icmp rfl (t := 39) rfl ⟨by omega, by omega⟩ ⟨by omega, by omega⟩ (fun c7 => ?_) (fun c7 => ?_)
      · have c7 : (z6 : Int) < 97 := c7
        refine yG.numl (c := -1) rfl (fun _ _ => rfl) (by decide) ?_
        refine yG.ret rfl (fun _ _ => rfl) ?_
        exact (yP.long ⟨by omega, by omega⟩ ⟨⟨(-1), rfl, by omega, by omega, trivial⟩, rfl⟩)
      · have c7 : (z6 : Int) ≥ 97 := c7
        refine yG.load xak rfl (fun _ _ => rfl) (v := yR k0) rfl rfl ?_
        refine yG.getS9 A_hp.1 (w_Tape_bytes W H_k0) q_r5 rfl rfl ?_
        refine yG.num (c := 0) rfl (fun _ _ => rfl) (by decide) ?_
        refine yG.bald3 A_hp.1 (v_Tape_bytes W H_r5) rfl (by omega) (by omega) (fun z8 e_z8 i_z8 l_z8 u_z8 => ?_)
        refine yG.num (c := 122) rfl (fun _ _ => rfl) (by decide) ?_
        refine yG.icmp rfl (t := 43) rfl ⟨by omega, by omega⟩ ⟨by omega, by omega⟩ (fun c9 => ?_) (fun c9 => ?_)
        · have c9 : (z8 : Int) ≤ 122 := c9
          refine yG.numl (c := 0) rfl (fun _ _ => rfl) (by decide) ?_
          refine yG.store2 xlk2 (L' := [(1, yJ (0)), (0, yR k0)]) rfl (fun _ _ => rfl) rfl rfl ?_
          refine yG.num (c := 0) rfl (fun _ _ => rfl) (by decide) ?_
          refine yG.store1 xik (L' := [(3, yI (0)), (1, yJ (0)), (0, yR k0)]) rfl (fun _ _ => rfl) rfl rfl ?_
          exact yG.mono (yG.sub (i_47 (0) (0)     (by omega) (by omega) (by omega) (by omega) (by omega) (by omega)) (ySub.cons rfl (ySub.cons rfl (ySub.cons rfl (ySub.nil))))) (by omega)
        · have c9 : (z8 : Int) > 122 := c9
          refine yG.numl (c := -1) rfl (fun _ _ => rfl) (by decide) ?_
          refine yG.ret rfl (fun _ _ => rfl) ?_
          exact (yP.long ⟨by omega, by omega⟩ ⟨⟨(-1), rfl, by omega, by omega, trivial⟩, rfl⟩)
theorem c_Tape_byteOf {hp : xH} (W : bW G) (d : Nat) (hT : zTy G hp) (p0 p2 : Int) (h0l : (-9223372036854775808) ≤ p0) (h0u : p0 ≤ 9223372036854775807) (h2l : (-2147483648) ≤ p2) (h2u : p2 ≤ 2147483647) : yC (xcall 89 xfts xpools xms (d + 1)) 265 [yJ (p0), yI (p2)] hp (bQpi hp (-1) 255 (fun z => 0 ≤ p0 - z + 9223372036854776062 ∧ 0 ≤ p2 - z + 2147483647)) := by
  have A_hp : bAx G [] hp hp := bAx.rf hT
  have H : ∀ m : Nat, (∀ a3 : Int, ∀ a4 : Int, 0 ≤ a3 → (-8) ≤ 0 - a3 → (-9223372036854775808) ≤ a4 → (-9223372036854775807) ≤ 0 - a4 → (-9223372036854775808) ≤ p0 → (-9223372036854775807) ≤ 0 - p0 → (-2147483648) ≤ p2 → (-2147483647) ≤ 0 - p2 → (-9223372036854775808) ≤ 0 - a3 + a4 → (-9223372036854775807) ≤ a4 - p0 → 0 ≤ 0 - a4 + p0 → 0 - 3 * a3 + 26 < (m : Int) → yG 89 xfts (xcall 89 xfts xpools xms d) (xpool xp_RX11) [] xt_X11_byteOf (yP 1 (bQpi hp (-1) 255 (fun z => 0 ≤ p0 - z + 9223372036854776062 ∧ 0 ≤ p2 - z + 2147483647))) (20 * m) 5 [(0, yJ (p0)), (2, yI (p2)), (3, yI (a3)), (4, yJ (a4))] [] hp) ∧ (∀ a3 : Int, 0 ≤ a3 → (-8) ≤ 0 - a3 → (-9223372036854775808) ≤ p0 → (-9223372036854775807) ≤ 0 - p0 → (-2147483648) ≤ p2 → (-2147483647) ≤ 0 - p2 → (-9223372036854775808) ≤ 0 - a3 + p0 → 1 < (m : Int) → yG 89 xfts (xcall 89 xfts xpools xms d) (xpool xp_RX11) [] xt_X11_byteOf (yP 1 (bQpi hp (-1) 255 (fun z => 0 ≤ p0 - z + 9223372036854776062 ∧ 0 ≤ p2 - z + 2147483647))) (20 * m) 31 [(0, yJ (p0)), (2, yI (p2)), (3, yI (a3))] [] hp) := by
    intro m
    induction m with
    | zero =>
      refine ⟨?_, ?_⟩ <;> (intros; exfalso; omega)
    | succ m ih =>
      obtain ⟨i_5, i_31⟩ := ih
      refine ⟨?_, ?_⟩
      · intro a3 a4 f0 f1 f2 f3 f4 f5 f6 f7 f8 f9 f10 hm
        refine yG.mono (N := 20 * m + 20) ?_ (by omega)
        refine yG.load xlk2 rfl (fun _ _ => rfl) (v := yJ (a4)) rfl rfl ?_
        refine yG.numl (c := 0) rfl (fun _ _ => rfl) (by decide) ?_
        refine yG.lcmp rfl ⟨by omega, by omega⟩ ⟨by omega, by omega⟩ (fun z1 e_z1 => ?_)
        refine yG.ifz rfl (t := 31) rfl ⟨by omega, by omega⟩ (fun c2 => ?_) (fun c2 => ?_)
        · have c2 : (z1 : Int) ≤ 0 := c2
          exact yG.mono (yG.sub (i_31 (a3)     (by omega) (by omega) (by omega) (by omega) (by omega) (by omega) (by omega) (by omega)) (ySub.cons rfl (ySub.cons rfl (ySub.cons rfl (ySub.nil))))) (by omega)
        · have c2 : (z1 : Int) > 0 := c2
          refine yG.load xik rfl (fun _ _ => rfl) (v := yI (a3)) rfl rfl ?_
          refine yG.num (c := 8) rfl (fun _ _ => rfl) (by decide) ?_
          refine yG.icmp rfl (t := 31) rfl ⟨by omega, by omega⟩ ⟨by omega, by omega⟩ (fun c3 => ?_) (fun c3 => ?_)
          · have c3 : (a3 : Int) ≥ 8 := c3
            exact yG.mono (yG.sub (i_31 (a3)     (by omega) (by omega) (by omega) (by omega) (by omega) (by omega) (by omega) (by omega)) (ySub.cons rfl (ySub.cons rfl (ySub.cons rfl (ySub.nil))))) (by omega)
          · have c3 : (a3 : Int) < 8 := c3
            refine yG.iinc rfl (a := a3) rfl (L' := [(3, yI (a3 + 1)), (0, yJ (p0)), (2, yI (p2)), (4, yJ (a4))]) rfl ?_
            refine yG.load xlk2 rfl (fun _ _ => rfl) (v := yJ (a4)) rfl rfl ?_
            refine yG.num (c := 8) rfl (fun _ _ => rfl) (by decide) ?_
            refine yG.bit64 rfl (fun _ _ => rfl) (fun z4 e_z4 l_z4 u_z4 => ?_)
            have b_z4 : z4 = ((zc64 (a4) : Nat) : Int) / 256 := by rw [e_z4]; exact blushr (n := 8) (by decide) (by decide) (by decide)
            have c_z4 : zc64 (a4) < 18446744073709551616 := by unfold zc64; omega
            have d_z4 : ((zc64 (a4) : Nat) : Int) = a4 := by unfold zc64; omega
            refine yG.store2 xlk2 (L' := [(4, yJ (z4)), (3, yI (a3 + 1)), (0, yJ (p0)), (2, yI (p2))]) rfl (fun _ _ => rfl) rfl rfl ?_
            refine yG.goto rfl (t := 5) rfl ?_
            exact yG.mono (yG.sub (i_5 (a3 + 1) (z4)     (by omega) (by omega) (by omega) (by omega) (by omega) (by omega) (by omega) (by omega) (by omega) (by omega) (by omega) (by omega)) (ySub.cons rfl (ySub.cons rfl (ySub.cons rfl (ySub.cons rfl (ySub.nil)))))) (by omega)
      · intro a3 f0 f1 f2 f3 f4 f5 f6 hm
        refine yG.mono (N := 20 * m + 20) ?_ (by omega)
        refine yG.load xik rfl (fun _ _ => rfl) (v := yI (p2)) rfl rfl ?_
        refine yG.ifz rfl (t := 40) rfl ⟨by omega, by omega⟩ (fun c1 => ?_) (fun c1 => ?_)
        · have c1 : (p2 : Int) < 0 := c1
          refine yG.num (c := -1) rfl (fun _ _ => rfl) (by decide) ?_
          refine yG.goto rfl (t := 59) rfl ?_
          refine yG.ret rfl (fun _ _ => rfl) ?_
          exact (yP.int ⟨by omega, by omega⟩ ⟨⟨(-1), rfl, by omega, by omega, by omega⟩, rfl⟩)
        · have c1 : (p2 : Int) ≥ 0 := c1
          refine yG.load xik rfl (fun _ _ => rfl) (v := yI (p2)) rfl rfl ?_
          refine yG.load xik rfl (fun _ _ => rfl) (v := yI (a3)) rfl rfl ?_
          refine yG.icmp rfl (t := 44) rfl ⟨by omega, by omega⟩ ⟨by omega, by omega⟩ (fun c2 => ?_) (fun c2 => ?_)
          · have c2 : (p2 : Int) < a3 := c2
            refine yG.load xlk2 rfl (fun _ _ => rfl) (v := yJ (p0)) rfl rfl ?_
            refine yG.num (c := 8) rfl (fun _ _ => rfl) (by decide) ?_
            refine yG.load xik rfl (fun _ _ => rfl) (v := yI (a3)) rfl rfl ?_
            refine yG.num (c := 1) rfl (fun _ _ => rfl) (by decide) ?_
            refine yG.isub rfl ?_
            refine yG.load xik rfl (fun _ _ => rfl) (v := yI (p2)) rfl rfl ?_
            refine yG.isub rfl ?_
            refine yG.imul rfl ?_
            refine yG.bit64 rfl (fun _ _ => rfl) (fun z3 e_z3 l_z3 u_z3 => ?_)
            refine yG.l2i rfl ?_
            refine yG.num (c := 255) rfl (fun _ _ => rfl) (by decide) ?_
            refine yG.bit32 rfl (fun _ _ => rfl) (fun z4 e_z4 l_z4 u_z4 => ?_)
            have b_z4 : 0 ≤ z4 ∧ z4 ≤ 255 := by rw [e_z4]; exact yiand ⟨by decide, by decide⟩ (by decide)
            refine yG.ret rfl (fun _ _ => rfl) ?_
            exact (yP.int ⟨by omega, by omega⟩ ⟨⟨z4, rfl, by omega, by omega, by omega⟩, rfl⟩)
          · have c2 : (p2 : Int) ≥ a3 := c2
            refine yG.num (c := -1) rfl (fun _ _ => rfl) (by decide) ?_
            refine yG.goto rfl (t := 59) rfl ?_
            refine yG.ret rfl (fun _ _ => rfl) ?_
            exact (yP.int ⟨by omega, by omega⟩ ⟨⟨(-1), rfl, by omega, by omega, by omega⟩, rfl⟩)
  refine yC.of (M := (xt_X11_byteOf, (6, (1, (12, []))))) rfl rfl (N := 580) (yfuel (by decide)) ?_
  show yG 89 xfts (xcall 89 xfts xpools xms d) (xpool xp_RX11) [] xt_X11_byteOf (yP 1 (bQpi hp (-1) 255 (fun z => 0 ≤ p0 - z + 9223372036854776062 ∧ 0 ≤ p2 - z + 2147483647))) 580 0 [(0, yJ (p0)), (2, yI (p2))] [] hp
  obtain ⟨i_5, i_31⟩ := H 28
  refine yG.num (c := 0) rfl (fun _ _ => rfl) (by decide) ?_
  refine yG.store1 xik (L' := [(3, yI (0)), (0, yJ (p0)), (2, yI (p2))]) rfl (fun _ _ => rfl) rfl rfl ?_
  refine yG.load xlk2 rfl (fun _ _ => rfl) (v := yJ (p0)) rfl rfl ?_
  refine yG.store2 xlk2 (L' := [(4, yJ (p0)), (3, yI (0)), (0, yJ (p0)), (2, yI (p2))]) rfl (fun _ _ => rfl) rfl rfl ?_
  exact yG.mono (yG.sub (i_5 (0) (p0)     (by omega) (by omega) (by omega) (by omega) (by omega) (by omega) (by omega) (by omega) (by omega) (by omega) (by omega) (by omega)) (ySub.cons rfl (ySub.cons rfl (ySub.cons rfl (ySub.cons rfl (ySub.nil)))))) (by omega)
theorem c_Net_has_0 {hp : xH} (W : bW G) (d : Nat) (hT : zTy G hp) {k0 : Nat} (H_k0 : bRo G 18 k0) (p2 : Int) (h2l : (-2147483648) ≤ p2) (h2u : p2 ≤ 2147483647) : yC (xcall 89 xfts xpools xms (d + 1)) 155 [yR k0, yI (0), yI (p2)] hp (bQpi hp 0 1 (fun z => (z = 1 → 0 ≤ p2 ∧ 0 ≤ 0 - p2 + 15))) := by
  have A_hp : bAx G [] hp hp := bAx.rf hT
  refine yC.of (M := (xt_X5_has, (3, (4, (6, []))))) rfl rfl (N := 54) (yfuel (by decide)) ?_
  show yG 89 xfts (xcall 89 xfts xpools xms d) (xpool xp_RX5) [] xt_X5_has (yP 4 (bQpi hp 0 1 (fun z => (z = 1 → 0 ≤ p2 ∧ 0 ≤ 0 - p2 + 15)))) 54 0 [(0, yR k0), (1, yI (0)), (2, yI (p2))] [] hp
  refine yG.load xik rfl (fun _ _ => rfl) (v := yI (0)) rfl rfl ?_
  refine yG.ifz rfl (t := 27) rfl ⟨by omega, by omega⟩ (fun c1 => ?_) (fun c1 => ?_)
  · have c1 : (0 : Int) < 0 := c1
    exfalso; omega
  · have c1 : (0 : Int) ≥ 0 := c1
    refine yG.load xik rfl (fun _ _ => rfl) (v := yI (0)) rfl rfl ?_
    refine yG.num (c := 5) rfl (fun _ _ => rfl) (by decide) ?_
    refine yG.icmp rfl (t := 27) rfl ⟨by omega, by omega⟩ ⟨by omega, by omega⟩ (fun c2 => ?_) (fun c2 => ?_)
    · have c2 : (0 : Int) ≥ 5 := c2
      exfalso; omega
    · have c2 : (0 : Int) < 5 := c2
      refine yG.load xik rfl (fun _ _ => rfl) (v := yI (p2)) rfl rfl ?_
      refine yG.ifz rfl (t := 27) rfl ⟨by omega, by omega⟩ (fun c3 => ?_) (fun c3 => ?_)
      · have c3 : (p2 : Int) < 0 := c3
        refine yG.num (c := 0) rfl (fun _ _ => rfl) (by decide) ?_
        refine yG.ret rfl (fun _ _ => rfl) ?_
        exact (yP.bool (by omega) ⟨⟨0, rfl, by omega, by omega, by omega⟩, rfl⟩)
      · have c3 : (p2 : Int) ≥ 0 := c3
        refine yG.load xik rfl (fun _ _ => rfl) (v := yI (p2)) rfl rfl ?_
        refine yG.load xak rfl (fun _ _ => rfl) (v := yR k0) rfl rfl ?_
        refine yG.getO A_hp.1 (w_Net_count W H_k0) rfl rfl (fun r4 H_r4 O_r4 q_r4 => ?_)
        refine yG.load xik rfl (fun _ _ => rfl) (v := yI (0)) rfl rfl ?_
        refine yG.ialdF A_hp.1 (v_Net_count W H_r4) rfl rfl (by omega) (by omega) (fun z5 e_z5 i_z5 l_z5 u_z5 => ?_)
        refine yG.icmp rfl (t := 27) rfl ⟨by omega, by omega⟩ ⟨by omega, by omega⟩ (fun c6 => ?_) (fun c6 => ?_)
        · have c6 : (p2 : Int) ≥ z5 := c6
          refine yG.num (c := 0) rfl (fun _ _ => rfl) (by decide) ?_
          refine yG.ret rfl (fun _ _ => rfl) ?_
          exact (yP.bool (by omega) ⟨⟨0, rfl, by omega, by omega, by omega⟩, rfl⟩)
        · have c6 : (p2 : Int) < z5 := c6
          refine yG.num (c := 1) rfl (fun _ _ => rfl) (by decide) ?_
          refine yG.goto rfl (t := 28) rfl ?_
          refine yG.ret rfl (fun _ _ => rfl) ?_
          exact (yP.bool (by omega) ⟨⟨1, rfl, by omega, by omega, by omega⟩, rfl⟩)
theorem c_Net_has_1 {hp : xH} (W : bW G) (d : Nat) (hT : zTy G hp) {k0 : Nat} (H_k0 : bRo G 18 k0) (p2 : Int) (h2l : (-2147483648) ≤ p2) (h2u : p2 ≤ 2147483647) : yC (xcall 89 xfts xpools xms (d + 1)) 155 [yR k0, yI (1), yI (p2)] hp (bQpi hp 0 1 (fun z => (z = 1 → 0 ≤ p2 ∧ 0 ≤ 0 - p2 + 23))) := by
  have A_hp : bAx G [] hp hp := bAx.rf hT
  refine yC.of (M := (xt_X5_has, (3, (4, (6, []))))) rfl rfl (N := 54) (yfuel (by decide)) ?_
  show yG 89 xfts (xcall 89 xfts xpools xms d) (xpool xp_RX5) [] xt_X5_has (yP 4 (bQpi hp 0 1 (fun z => (z = 1 → 0 ≤ p2 ∧ 0 ≤ 0 - p2 + 23)))) 54 0 [(0, yR k0), (1, yI (1)), (2, yI (p2))] [] hp
  refine yG.load xik rfl (fun _ _ => rfl) (v := yI (1)) rfl rfl ?_
  refine yG.ifz rfl (t := 27) rfl ⟨by omega, by omega⟩ (fun c1 => ?_) (fun c1 => ?_)
  · have c1 : (1 : Int) < 0 := c1
    exfalso; omega
  · have c1 : (1 : Int) ≥ 0 := c1
    refine yG.load xik rfl (fun _ _ => rfl) (v := yI (1)) rfl rfl ?_
    refine yG.num (c := 5) rfl (fun _ _ => rfl) (by decide) ?_
    refine yG.icmp rfl (t := 27) rfl ⟨by omega, by omega⟩ ⟨by omega, by omega⟩ (fun c2 => ?_) (fun c2 => ?_)
    · have c2 : (1 : Int) ≥ 5 := c2
      exfalso; omega
    · have c2 : (1 : Int) < 5 := c2
      refine yG.load xik rfl (fun _ _ => rfl) (v := yI (p2)) rfl rfl ?_
      refine yG.ifz rfl (t := 27) rfl ⟨by omega, by omega⟩ (fun c3 => ?_) (fun c3 => ?_)
      · have c3 : (p2 : Int) < 0 := c3
        refine yG.num (c := 0) rfl (fun _ _ => rfl) (by decide) ?_
        refine yG.ret rfl (fun _ _ => rfl) ?_
        exact (yP.bool (by omega) ⟨⟨0, rfl, by omega, by omega, by omega⟩, rfl⟩)
      · have c3 : (p2 : Int) ≥ 0 := c3
        refine yG.load xik rfl (fun _ _ => rfl) (v := yI (p2)) rfl rfl ?_
        refine yG.load xak rfl (fun _ _ => rfl) (v := yR k0) rfl rfl ?_
        refine yG.getO A_hp.1 (w_Net_count W H_k0) rfl rfl (fun r4 H_r4 O_r4 q_r4 => ?_)
        refine yG.load xik rfl (fun _ _ => rfl) (v := yI (1)) rfl rfl ?_
        refine yG.ialdF A_hp.1 (v_Net_count W H_r4) rfl rfl (by omega) (by omega) (fun z5 e_z5 i_z5 l_z5 u_z5 => ?_)
        refine yG.icmp rfl (t := 27) rfl ⟨by omega, by omega⟩ ⟨by omega, by omega⟩ (fun c6 => ?_) (fun c6 => ?_)
        · have c6 : (p2 : Int) ≥ z5 := c6
          refine yG.num (c := 0) rfl (fun _ _ => rfl) (by decide) ?_
          refine yG.ret rfl (fun _ _ => rfl) ?_
          exact (yP.bool (by omega) ⟨⟨0, rfl, by omega, by omega, by omega⟩, rfl⟩)
        · have c6 : (p2 : Int) < z5 := c6
          refine yG.num (c := 1) rfl (fun _ _ => rfl) (by decide) ?_
          refine yG.goto rfl (t := 28) rfl ?_
          refine yG.ret rfl (fun _ _ => rfl) ?_
          exact (yP.bool (by omega) ⟨⟨1, rfl, by omega, by omega, by omega⟩, rfl⟩)
theorem c_Net_has_2 {hp : xH} (W : bW G) (d : Nat) (hT : zTy G hp) {k0 : Nat} (H_k0 : bRo G 18 k0) (p2 : Int) (h2l : (-2147483648) ≤ p2) (h2u : p2 ≤ 2147483647) : yC (xcall 89 xfts xpools xms (d + 1)) 155 [yR k0, yI (2), yI (p2)] hp (bQpi hp 0 1 (fun z => (z = 1 → 0 ≤ p2 ∧ 0 ≤ 0 - p2 + 19))) := by
  have A_hp : bAx G [] hp hp := bAx.rf hT
  refine yC.of (M := (xt_X5_has, (3, (4, (6, []))))) rfl rfl (N := 54) (yfuel (by decide)) ?_
  show yG 89 xfts (xcall 89 xfts xpools xms d) (xpool xp_RX5) [] xt_X5_has (yP 4 (bQpi hp 0 1 (fun z => (z = 1 → 0 ≤ p2 ∧ 0 ≤ 0 - p2 + 19)))) 54 0 [(0, yR k0), (1, yI (2)), (2, yI (p2))] [] hp
  refine yG.load xik rfl (fun _ _ => rfl) (v := yI (2)) rfl rfl ?_
  refine yG.ifz rfl (t := 27) rfl ⟨by omega, by omega⟩ (fun c1 => ?_) (fun c1 => ?_)
  · have c1 : (2 : Int) < 0 := c1
    exfalso; omega
  · have c1 : (2 : Int) ≥ 0 := c1
    refine yG.load xik rfl (fun _ _ => rfl) (v := yI (2)) rfl rfl ?_
    refine yG.num (c := 5) rfl (fun _ _ => rfl) (by decide) ?_
    refine yG.icmp rfl (t := 27) rfl ⟨by omega, by omega⟩ ⟨by omega, by omega⟩ (fun c2 => ?_) (fun c2 => ?_)
    · have c2 : (2 : Int) ≥ 5 := c2
      exfalso; omega
    · have c2 : (2 : Int) < 5 := c2
      refine yG.load xik rfl (fun _ _ => rfl) (v := yI (p2)) rfl rfl ?_
      refine yG.ifz rfl (t := 27) rfl ⟨by omega, by omega⟩ (fun c3 => ?_) (fun c3 => ?_)
      · have c3 : (p2 : Int) < 0 := c3
        refine yG.num (c := 0) rfl (fun _ _ => rfl) (by decide) ?_
        refine yG.ret rfl (fun _ _ => rfl) ?_
        exact (yP.bool (by omega) ⟨⟨0, rfl, by omega, by omega, by omega⟩, rfl⟩)
      · have c3 : (p2 : Int) ≥ 0 := c3
        refine yG.load xik rfl (fun _ _ => rfl) (v := yI (p2)) rfl rfl ?_
        refine yG.load xak rfl (fun _ _ => rfl) (v := yR k0) rfl rfl ?_
        refine yG.getO A_hp.1 (w_Net_count W H_k0) rfl rfl (fun r4 H_r4 O_r4 q_r4 => ?_)
        refine yG.load xik rfl (fun _ _ => rfl) (v := yI (2)) rfl rfl ?_
        refine yG.ialdF A_hp.1 (v_Net_count W H_r4) rfl rfl (by omega) (by omega) (fun z5 e_z5 i_z5 l_z5 u_z5 => ?_)
        refine yG.icmp rfl (t := 27) rfl ⟨by omega, by omega⟩ ⟨by omega, by omega⟩ (fun c6 => ?_) (fun c6 => ?_)
        · have c6 : (p2 : Int) ≥ z5 := c6
          refine yG.num (c := 0) rfl (fun _ _ => rfl) (by decide) ?_
          refine yG.ret rfl (fun _ _ => rfl) ?_
          exact (yP.bool (by omega) ⟨⟨0, rfl, by omega, by omega, by omega⟩, rfl⟩)
        · have c6 : (p2 : Int) < z5 := c6
          refine yG.num (c := 1) rfl (fun _ _ => rfl) (by decide) ?_
          refine yG.goto rfl (t := 28) rfl ?_
          refine yG.ret rfl (fun _ _ => rfl) ?_
          exact (yP.bool (by omega) ⟨⟨1, rfl, by omega, by omega, by omega⟩, rfl⟩)
theorem c_Net_has_3 {hp : xH} (W : bW G) (d : Nat) (hT : zTy G hp) {k0 : Nat} (H_k0 : bRo G 18 k0) (p2 : Int) (h2l : (-2147483648) ≤ p2) (h2u : p2 ≤ 2147483647) : yC (xcall 89 xfts xpools xms (d + 1)) 155 [yR k0, yI (3), yI (p2)] hp (bQpi hp 0 1 (fun z => (z = 1 → 0 ≤ p2 ∧ 0 ≤ 0 - p2 + 5))) := by
  have A_hp : bAx G [] hp hp := bAx.rf hT
  refine yC.of (M := (xt_X5_has, (3, (4, (6, []))))) rfl rfl (N := 54) (yfuel (by decide)) ?_
  show yG 89 xfts (xcall 89 xfts xpools xms d) (xpool xp_RX5) [] xt_X5_has (yP 4 (bQpi hp 0 1 (fun z => (z = 1 → 0 ≤ p2 ∧ 0 ≤ 0 - p2 + 5)))) 54 0 [(0, yR k0), (1, yI (3)), (2, yI (p2))] [] hp
  refine yG.load xik rfl (fun _ _ => rfl) (v := yI (3)) rfl rfl ?_
  refine yG.ifz rfl (t := 27) rfl ⟨by omega, by omega⟩ (fun c1 => ?_) (fun c1 => ?_)
  · have c1 : (3 : Int) < 0 := c1
    exfalso; omega
  · have c1 : (3 : Int) ≥ 0 := c1
    refine yG.load xik rfl (fun _ _ => rfl) (v := yI (3)) rfl rfl ?_
    refine yG.num (c := 5) rfl (fun _ _ => rfl) (by decide) ?_
    refine yG.icmp rfl (t := 27) rfl ⟨by omega, by omega⟩ ⟨by omega, by omega⟩ (fun c2 => ?_) (fun c2 => ?_)
    · have c2 : (3 : Int) ≥ 5 := c2
      exfalso; omega
    · have c2 : (3 : Int) < 5 := c2
      refine yG.load xik rfl (fun _ _ => rfl) (v := yI (p2)) rfl rfl ?_
      refine yG.ifz rfl (t := 27) rfl ⟨by omega, by omega⟩ (fun c3 => ?_) (fun c3 => ?_)
      · have c3 : (p2 : Int) < 0 := c3
        refine yG.num (c := 0) rfl (fun _ _ => rfl) (by decide) ?_
        refine yG.ret rfl (fun _ _ => rfl) ?_
        exact (yP.bool (by omega) ⟨⟨0, rfl, by omega, by omega, by omega⟩, rfl⟩)
      · have c3 : (p2 : Int) ≥ 0 := c3
        refine yG.load xik rfl (fun _ _ => rfl) (v := yI (p2)) rfl rfl ?_
        refine yG.load xak rfl (fun _ _ => rfl) (v := yR k0) rfl rfl ?_
        refine yG.getO A_hp.1 (w_Net_count W H_k0) rfl rfl (fun r4 H_r4 O_r4 q_r4 => ?_)
        refine yG.load xik rfl (fun _ _ => rfl) (v := yI (3)) rfl rfl ?_
        refine yG.ialdF A_hp.1 (v_Net_count W H_r4) rfl rfl (by omega) (by omega) (fun z5 e_z5 i_z5 l_z5 u_z5 => ?_)
        refine yG.icmp rfl (t := 27) rfl ⟨by omega, by omega⟩ ⟨by omega, by omega⟩ (fun c6 => ?_) (fun c6 => ?_)
        · have c6 : (p2 : Int) ≥ z5 := c6
          refine yG.num (c := 0) rfl (fun _ _ => rfl) (by decide) ?_
          refine yG.ret rfl (fun _ _ => rfl) ?_
          exact (yP.bool (by omega) ⟨⟨0, rfl, by omega, by omega, by omega⟩, rfl⟩)
        · have c6 : (p2 : Int) < z5 := c6
          refine yG.num (c := 1) rfl (fun _ _ => rfl) (by decide) ?_
          refine yG.goto rfl (t := 28) rfl ?_
          refine yG.ret rfl (fun _ _ => rfl) ?_
          exact (yP.bool (by omega) ⟨⟨1, rfl, by omega, by omega, by omega⟩, rfl⟩)
theorem c_Net_has_4 {hp : xH} (W : bW G) (d : Nat) (hT : zTy G hp) {k0 : Nat} (H_k0 : bRo G 18 k0) (p2 : Int) (h2l : (-2147483648) ≤ p2) (h2u : p2 ≤ 2147483647) : yC (xcall 89 xfts xpools xms (d + 1)) 155 [yR k0, yI (4), yI (p2)] hp (bQpi hp 0 1 (fun z => (z = 1 → 0 ≤ p2 ∧ 0 ≤ 0 - p2 + 11))) := by
  have A_hp : bAx G [] hp hp := bAx.rf hT
  refine yC.of (M := (xt_X5_has, (3, (4, (6, []))))) rfl rfl (N := 54) (yfuel (by decide)) ?_
  show yG 89 xfts (xcall 89 xfts xpools xms d) (xpool xp_RX5) [] xt_X5_has (yP 4 (bQpi hp 0 1 (fun z => (z = 1 → 0 ≤ p2 ∧ 0 ≤ 0 - p2 + 11)))) 54 0 [(0, yR k0), (1, yI (4)), (2, yI (p2))] [] hp
  refine yG.load xik rfl (fun _ _ => rfl) (v := yI (4)) rfl rfl ?_
  refine yG.ifz rfl (t := 27) rfl ⟨by omega, by omega⟩ (fun c1 => ?_) (fun c1 => ?_)
  · have c1 : (4 : Int) < 0 := c1
    exfalso; omega
  · have c1 : (4 : Int) ≥ 0 := c1
    refine yG.load xik rfl (fun _ _ => rfl) (v := yI (4)) rfl rfl ?_
    refine yG.num (c := 5) rfl (fun _ _ => rfl) (by decide) ?_
    refine yG.icmp rfl (t := 27) rfl ⟨by omega, by omega⟩ ⟨by omega, by omega⟩ (fun c2 => ?_) (fun c2 => ?_)
    · have c2 : (4 : Int) ≥ 5 := c2
      exfalso; omega
    · have c2 : (4 : Int) < 5 := c2
      refine yG.load xik rfl (fun _ _ => rfl) (v := yI (p2)) rfl rfl ?_
      refine yG.ifz rfl (t := 27) rfl ⟨by omega, by omega⟩ (fun c3 => ?_) (fun c3 => ?_)
      · have c3 : (p2 : Int) < 0 := c3
        refine yG.num (c := 0) rfl (fun _ _ => rfl) (by decide) ?_
        refine yG.ret rfl (fun _ _ => rfl) ?_
        exact (yP.bool (by omega) ⟨⟨0, rfl, by omega, by omega, by omega⟩, rfl⟩)
      · have c3 : (p2 : Int) ≥ 0 := c3
        refine yG.load xik rfl (fun _ _ => rfl) (v := yI (p2)) rfl rfl ?_
        refine yG.load xak rfl (fun _ _ => rfl) (v := yR k0) rfl rfl ?_
        refine yG.getO A_hp.1 (w_Net_count W H_k0) rfl rfl (fun r4 H_r4 O_r4 q_r4 => ?_)
        refine yG.load xik rfl (fun _ _ => rfl) (v := yI (4)) rfl rfl ?_
        refine yG.ialdF A_hp.1 (v_Net_count W H_r4) rfl rfl (by omega) (by omega) (fun z5 e_z5 i_z5 l_z5 u_z5 => ?_)
        refine yG.icmp rfl (t := 27) rfl ⟨by omega, by omega⟩ ⟨by omega, by omega⟩ (fun c6 => ?_) (fun c6 => ?_)
        · have c6 : (p2 : Int) ≥ z5 := c6
          refine yG.num (c := 0) rfl (fun _ _ => rfl) (by decide) ?_
          refine yG.ret rfl (fun _ _ => rfl) ?_
          exact (yP.bool (by omega) ⟨⟨0, rfl, by omega, by omega, by omega⟩, rfl⟩)
        · have c6 : (p2 : Int) < z5 := c6
          refine yG.num (c := 1) rfl (fun _ _ => rfl) (by decide) ?_
          refine yG.goto rfl (t := 28) rfl ?_
          refine yG.ret rfl (fun _ _ => rfl) ?_
          exact (yP.bool (by omega) ⟨⟨1, rfl, by omega, by omega, by omega⟩, rfl⟩)
theorem c_Net_has_z {hp : xH} (W : bW G) (d : Nat) (hT : zTy G hp) {k0 : Nat} (H_k0 : bRo G 18 k0) (p1 p2 : Int) (h1l : (-2147483648) ≤ p1) (h1u : p1 ≤ 2147483647) (h2l : (-2147483648) ≤ p2) (h2u : p2 ≤ 2147483647) : yC (xcall 89 xfts xpools xms (d + 1)) 155 [yR k0, yI (p1), yI (p2)] hp (bQpi hp 0 1 (fun z => (z = 1 → 0 ≤ p1 ∧ 0 ≤ 0 - p1 + 4 ∧ 0 ≤ p2 ∧ 0 ≤ 0 - p2 + 23))) := by
  have A_hp : bAx G [] hp hp := bAx.rf hT
  refine yC.of (M := (xt_X5_has, (3, (4, (6, []))))) rfl rfl (N := 54) (yfuel (by decide)) ?_
  show yG 89 xfts (xcall 89 xfts xpools xms d) (xpool xp_RX5) [] xt_X5_has (yP 4 (bQpi hp 0 1 (fun z => (z = 1 → 0 ≤ p1 ∧ 0 ≤ 0 - p1 + 4 ∧ 0 ≤ p2 ∧ 0 ≤ 0 - p2 + 23)))) 54 0 [(0, yR k0), (1, yI (p1)), (2, yI (p2))] [] hp
  refine yG.load xik rfl (fun _ _ => rfl) (v := yI (p1)) rfl rfl ?_
  refine yG.ifz rfl (t := 27) rfl ⟨by omega, by omega⟩ (fun c1 => ?_) (fun c1 => ?_)
  · have c1 : (p1 : Int) < 0 := c1
    refine yG.num (c := 0) rfl (fun _ _ => rfl) (by decide) ?_
    refine yG.ret rfl (fun _ _ => rfl) ?_
    exact (yP.bool (by omega) ⟨⟨0, rfl, by omega, by omega, by omega⟩, rfl⟩)
  · have c1 : (p1 : Int) ≥ 0 := c1
    refine yG.load xik rfl (fun _ _ => rfl) (v := yI (p1)) rfl rfl ?_
    refine yG.num (c := 5) rfl (fun _ _ => rfl) (by decide) ?_
    refine yG.icmp rfl (t := 27) rfl ⟨by omega, by omega⟩ ⟨by omega, by omega⟩ (fun c2 => ?_) (fun c2 => ?_)
    · have c2 : (p1 : Int) ≥ 5 := c2
      refine yG.num (c := 0) rfl (fun _ _ => rfl) (by decide) ?_
      refine yG.ret rfl (fun _ _ => rfl) ?_
      exact (yP.bool (by omega) ⟨⟨0, rfl, by omega, by omega, by omega⟩, rfl⟩)
    · have c2 : (p1 : Int) < 5 := c2
      refine yG.load xik rfl (fun _ _ => rfl) (v := yI (p2)) rfl rfl ?_
      refine yG.ifz rfl (t := 27) rfl ⟨by omega, by omega⟩ (fun c3 => ?_) (fun c3 => ?_)
      · have c3 : (p2 : Int) < 0 := c3
        refine yG.num (c := 0) rfl (fun _ _ => rfl) (by decide) ?_
        refine yG.ret rfl (fun _ _ => rfl) ?_
        exact (yP.bool (by omega) ⟨⟨0, rfl, by omega, by omega, by omega⟩, rfl⟩)
      · have c3 : (p2 : Int) ≥ 0 := c3
        refine yG.load xik rfl (fun _ _ => rfl) (v := yI (p2)) rfl rfl ?_
        refine yG.load xak rfl (fun _ _ => rfl) (v := yR k0) rfl rfl ?_
        refine yG.getO A_hp.1 (w_Net_count W H_k0) rfl rfl (fun r4 H_r4 O_r4 q_r4 => ?_)
        refine yG.load xik rfl (fun _ _ => rfl) (v := yI (p1)) rfl rfl ?_
        refine yG.ialdT A_hp.1 (v_Net_count W H_r4) (yhull2 (tf := bTf 5 t_Net_count) (bTf_h (A := 0) (B := 24) (by decide) (by decide) (by decide) _)) rfl (by omega) (by omega) (fun z5 lo_z5 hi_z5 e_z5 i_z5 T_z5 l_z5 u_z5 => ?_)
        obtain ⟨L_z5, U_z5⟩ := yhull (tf := bTf 5 t_Net_count) (bTf_h (A := 0) (B := 24) (by decide) (by decide) (by decide) _) T_z5
        refine yG.icmp rfl (t := 27) rfl ⟨by omega, by omega⟩ ⟨by omega, by omega⟩ (fun c6 => ?_) (fun c6 => ?_)
        · have c6 : (p2 : Int) ≥ z5 := c6
          refine yG.num (c := 0) rfl (fun _ _ => rfl) (by decide) ?_
          refine yG.ret rfl (fun _ _ => rfl) ?_
          exact (yP.bool (by omega) ⟨⟨0, rfl, by omega, by omega, by omega⟩, rfl⟩)
        · have c6 : (p2 : Int) < z5 := c6
          refine yG.num (c := 1) rfl (fun _ _ => rfl) (by decide) ?_
          refine yG.goto rfl (t := 28) rfl ?_
          refine yG.ret rfl (fun _ _ => rfl) ?_
          exact (yP.bool (by omega) ⟨⟨1, rfl, by omega, by omega, by omega⟩, rfl⟩)
theorem c_Net_at_0_0 {hp : xH} (W : bW G) (d : Nat) (hT : zTy G hp) {k0 : Nat} (H_k0 : bRo G 18 k0) (p2 : Int) (h2l : 0 ≤ p2) (h2u : p2 ≤ 15) : yC (xcall 89 xfts xpools xms (d + 1)) 151 [yR k0, yI (0), yI (p2), yI (0)] hp (bQpi hp 0 1 (fun _ => True)) := by
  have A_hp : bAx G [] hp hp := bAx.rf hT
  refine yC.of (M := (xt_X5_at, (4, (1, (6, []))))) rfl rfl (N := 45) (yfuel (by decide)) ?_
  show yG 89 xfts (xcall 89 xfts xpools xms d) (xpool xp_RX5) [] xt_X5_at (yP 1 (bQpi hp 0 1 (fun _ => True))) 45 0 [(0, yR k0), (1, yI (0)), (2, yI (p2)), (3, yI (0))] [] hp
  refine yG.load xak rfl (fun _ _ => rfl) (v := yR k0) rfl rfl ?_
  refine yG.getO A_hp.1 (w_Net_value W H_k0) rfl rfl (fun r1 H_r1 O_r1 q_r1 => ?_)
  refine yG.load xik rfl (fun _ _ => rfl) (v := yI (0)) rfl rfl ?_
  refine yG.aaldO (r := 22) A_hp.1 (v_Net_value W H_r1) rfl rfl rfl (by omega) (by omega) (fun r2 H_r2 q_r2 => ?_)
  refine yG.load xik rfl (fun _ _ => rfl) (v := yI (p2)) rfl rfl ?_
  refine yG.getS (c := 2) rfl rfl ?_
  refine yG.load xik rfl (fun _ _ => rfl) (v := yI (0)) rfl rfl ?_
  refine yG.ialdF A_hp.1 (v_S_Net_WIDTH W (s_S_Net_WIDTH W)) rfl rfl (by omega) (by omega) (fun z3 e_z3 i_z3 l_z3 u_z3 => ?_)
  obtain rfl : z3 = 1 := by omega
  refine yG.imul rfl ?_
  refine yG.load xik rfl (fun _ _ => rfl) (v := yI (0)) rfl rfl ?_
  refine yG.iadd rfl ?_
  refine yG.iald A_hp.1 (v_Net_value0 W H_r2) rfl (by omega) (by omega) (fun z4 e_z4 i_z4 l_z4 u_z4 => ?_)
  refine yG.ret rfl (fun _ _ => rfl) ?_
  exact (yP.int ⟨by omega, by omega⟩ ⟨⟨z4, rfl, by omega, by omega, trivial⟩, rfl⟩)
theorem c_Net_put_0_0 {hp : xH} (W : bW G) (d : Nat) (hT : zTy G hp) {k0 : Nat} (H_k0 : bRo G 18 k0) (p2 p4 : Int) (h2l : 0 ≤ p2) (h2u : p2 ≤ 15) (h4l : 0 ≤ p4) (h4u : p4 ≤ 1) : yC (xcall 89 xfts xpools xms (d + 1)) 162 [yR k0, yI (0), yI (p2), yI (0), yI (p4)] hp (fun rv hp' => (rv = none ∧ True) ∧ bAx G [(4194304, 256)] hp hp') := by
  have A_hp : bAx G [(4194304, 256)] hp hp := bAx.rf hT
  refine yC.of (M := (xt_X5_put, (5, (0, (6, []))))) rfl rfl (N := 48) (yfuel (by decide)) ?_
  show yG 89 xfts (xcall 89 xfts xpools xms d) (xpool xp_RX5) [] xt_X5_put (yP 0 (fun rv hp' => (rv = none ∧ True) ∧ bAx G [(4194304, 256)] hp hp')) 48 0 [(0, yR k0), (1, yI (0)), (2, yI (p2)), (3, yI (0)), (4, yI (p4))] [] hp
  refine yG.load xak rfl (fun _ _ => rfl) (v := yR k0) rfl rfl ?_
  refine yG.getO A_hp.1 (w_Net_value W H_k0) rfl rfl (fun r1 H_r1 O_r1 q_r1 => ?_)
  refine yG.load xik rfl (fun _ _ => rfl) (v := yI (0)) rfl rfl ?_
  refine yG.aaldO (r := 22) A_hp.1 (v_Net_value W H_r1) rfl rfl rfl (by omega) (by omega) (fun r2 H_r2 q_r2 => ?_)
  refine yG.load xik rfl (fun _ _ => rfl) (v := yI (p2)) rfl rfl ?_
  refine yG.getS (c := 2) rfl rfl ?_
  refine yG.load xik rfl (fun _ _ => rfl) (v := yI (0)) rfl rfl ?_
  refine yG.ialdF A_hp.1 (v_S_Net_WIDTH W (s_S_Net_WIDTH W)) rfl rfl (by omega) (by omega) (fun z3 e_z3 i_z3 l_z3 u_z3 => ?_)
  obtain rfl : z3 = 1 := by omega
  refine yG.imul rfl ?_
  refine yG.load xik rfl (fun _ _ => rfl) (v := yI (0)) rfl rfl ?_
  refine yG.iadd rfl ?_
  refine yG.load xik rfl (fun _ _ => rfl) (v := yI (p4)) rfl rfl ?_
  refine yG.iast A_hp.1 (v_Net_value0 W H_r2) (W.2.1 _ _ H_r2 (by decide) (by decide)) rfl (by omega) (by omega) ⟨by omega, by omega⟩ (by omega) (by omega) (fun h4 T_h4 b_h4 f_h4 y_h4 => ?_)
  have A_h4 := A_hp.put T_h4 b_h4 f_h4 H_r2 (bAll_ok (by decide) _)
  refine yG.ret rfl (fun _ _ => rfl) ?_
  exact (yP.void ⟨⟨rfl, trivial⟩, A_h4⟩)
theorem c_Net_at_0z {hp : xH} (W : bW G) (d : Nat) (hT : zTy G hp) {k0 : Nat} (H_k0 : bRo G 18 k0) (p2 p3 : Int) (h2l : 0 ≤ p2) (h2u : p2 ≤ 15) (h3l : 0 ≤ p3) (h3u : p3 ≤ 0) : yC (xcall 89 xfts xpools xms (d + 1)) 151 [yR k0, yI (0), yI (p2), yI (p3)] hp (bQpi hp 0 1 (fun _ => True)) := by
  have A_hp : bAx G [] hp hp := bAx.rf hT
  refine yC.of (M := (xt_X5_at, (4, (1, (6, []))))) rfl rfl (N := 45) (yfuel (by decide)) ?_
  show yG 89 xfts (xcall 89 xfts xpools xms d) (xpool xp_RX5) [] xt_X5_at (yP 1 (bQpi hp 0 1 (fun _ => True))) 45 0 [(0, yR k0), (1, yI (0)), (2, yI (p2)), (3, yI (p3))] [] hp
  refine yG.load xak rfl (fun _ _ => rfl) (v := yR k0) rfl rfl ?_
  refine yG.getO A_hp.1 (w_Net_value W H_k0) rfl rfl (fun r1 H_r1 O_r1 q_r1 => ?_)
  refine yG.load xik rfl (fun _ _ => rfl) (v := yI (0)) rfl rfl ?_
  refine yG.aaldO (r := 22) A_hp.1 (v_Net_value W H_r1) rfl rfl rfl (by omega) (by omega) (fun r2 H_r2 q_r2 => ?_)
  refine yG.load xik rfl (fun _ _ => rfl) (v := yI (p2)) rfl rfl ?_
  refine yG.getS (c := 2) rfl rfl ?_
  refine yG.load xik rfl (fun _ _ => rfl) (v := yI (0)) rfl rfl ?_
  refine yG.ialdF A_hp.1 (v_S_Net_WIDTH W (s_S_Net_WIDTH W)) rfl rfl (by omega) (by omega) (fun z3 e_z3 i_z3 l_z3 u_z3 => ?_)
  obtain rfl : z3 = 1 := by omega
  refine yG.imul rfl ?_
  refine yG.load xik rfl (fun _ _ => rfl) (v := yI (p3)) rfl rfl ?_
  refine yG.iadd rfl ?_
  refine yG.iald A_hp.1 (v_Net_value0 W H_r2) rfl (by omega) (by omega) (fun z4 e_z4 i_z4 l_z4 u_z4 => ?_)
  refine yG.ret rfl (fun _ _ => rfl) ?_
  exact (yP.int ⟨by omega, by omega⟩ ⟨⟨z4, rfl, by omega, by omega, trivial⟩, rfl⟩)
theorem c_Net_is_0 {hp : xH} (W : bW G) (d : Nat) (hT : zTy G hp) {k0 : Nat} (H_k0 : bRo G 18 k0) (p2 p3 : Int) (h2l : 0 ≤ p2) (h2u : p2 ≤ 15) (h3l : 0 ≤ p3) (h3u : p3 ≤ 0) : yC (xcall 89 xfts xpools xms (d + 1)) 158 [yR k0, yI (0), yI (p2), yI (p3)] hp (bQpi hp 0 1 (fun _ => True)) := by
  have A_hp : bAx G [] hp hp := bAx.rf hT
  refine yC.of (M := (xt_X5_is, (4, (4, (6, []))))) rfl rfl (N := 57) (yfuel (by decide)) ?_
  show yG 89 xfts (xcall 89 xfts xpools xms d) (xpool xp_RX5) [] xt_X5_is (yP 4 (bQpi hp 0 1 (fun _ => True))) 57 0 [(0, yR k0), (1, yI (0)), (2, yI (p2)), (3, yI (p3))] [] hp
  refine yG.load xak rfl (fun _ _ => rfl) (v := yR k0) rfl rfl ?_
  refine yG.getO A_hp.1 (w_Net_value W H_k0) rfl rfl (fun r1 H_r1 O_r1 q_r1 => ?_)
  refine yG.load xik rfl (fun _ _ => rfl) (v := yI (0)) rfl rfl ?_
  refine yG.aaldO (r := 22) A_hp.1 (v_Net_value W H_r1) rfl rfl rfl (by omega) (by omega) (fun r2 H_r2 q_r2 => ?_)
  refine yG.load xik rfl (fun _ _ => rfl) (v := yI (p2)) rfl rfl ?_
  refine yG.getS (c := 2) rfl rfl ?_
  refine yG.load xik rfl (fun _ _ => rfl) (v := yI (0)) rfl rfl ?_
  refine yG.ialdF A_hp.1 (v_S_Net_WIDTH W (s_S_Net_WIDTH W)) rfl rfl (by omega) (by omega) (fun z3 e_z3 i_z3 l_z3 u_z3 => ?_)
  obtain rfl : z3 = 1 := by omega
  refine yG.imul rfl ?_
  refine yG.load xik rfl (fun _ _ => rfl) (v := yI (p3)) rfl rfl ?_
  refine yG.iadd rfl ?_
  refine yG.iald A_hp.1 (v_Net_value0 W H_r2) rfl (by omega) (by omega) (fun z4 e_z4 i_z4 l_z4 u_z4 => ?_)
  refine yG.num (c := 1) rfl (fun _ _ => rfl) (by decide) ?_
  refine yG.icmp rfl (t := 24) rfl ⟨by omega, by omega⟩ ⟨by omega, by omega⟩ (fun c5 => ?_) (fun c5 => ?_)
  · have c5 : (z4 : Int) ≠ 1 := c5
    refine yG.num (c := 0) rfl (fun _ _ => rfl) (by decide) ?_
    refine yG.ret rfl (fun _ _ => rfl) ?_
    exact (yP.bool (by omega) ⟨⟨0, rfl, by omega, by omega, trivial⟩, rfl⟩)
  · have c5 : (z4 : Int) = 1 := c5
    refine yG.num (c := 1) rfl (fun _ _ => rfl) (by decide) ?_
    refine yG.goto rfl (t := 25) rfl ?_
    refine yG.ret rfl (fun _ _ => rfl) ?_
    exact (yP.bool (by omega) ⟨⟨1, rfl, by omega, by omega, trivial⟩, rfl⟩)
theorem c_Net_at_1_0 {hp : xH} (W : bW G) (d : Nat) (hT : zTy G hp) {k0 : Nat} (H_k0 : bRo G 18 k0) (p2 : Int) (h2l : 0 ≤ p2) (h2u : p2 ≤ 23) : yC (xcall 89 xfts xpools xms (d + 1)) 151 [yR k0, yI (1), yI (p2), yI (0)] hp (bQpi hp 0 2 (fun _ => True)) := by
  have A_hp : bAx G [] hp hp := bAx.rf hT
  refine yC.of (M := (xt_X5_at, (4, (1, (6, []))))) rfl rfl (N := 45) (yfuel (by decide)) ?_
  show yG 89 xfts (xcall 89 xfts xpools xms d) (xpool xp_RX5) [] xt_X5_at (yP 1 (bQpi hp 0 2 (fun _ => True))) 45 0 [(0, yR k0), (1, yI (1)), (2, yI (p2)), (3, yI (0))] [] hp
  refine yG.load xak rfl (fun _ _ => rfl) (v := yR k0) rfl rfl ?_
  refine yG.getO A_hp.1 (w_Net_value W H_k0) rfl rfl (fun r1 H_r1 O_r1 q_r1 => ?_)
  refine yG.load xik rfl (fun _ _ => rfl) (v := yI (1)) rfl rfl ?_
  refine yG.aaldO (r := 24) A_hp.1 (v_Net_value W H_r1) rfl rfl rfl (by omega) (by omega) (fun r2 H_r2 q_r2 => ?_)
  refine yG.load xik rfl (fun _ _ => rfl) (v := yI (p2)) rfl rfl ?_
  refine yG.getS (c := 2) rfl rfl ?_
  refine yG.load xik rfl (fun _ _ => rfl) (v := yI (1)) rfl rfl ?_
  refine yG.ialdF A_hp.1 (v_S_Net_WIDTH W (s_S_Net_WIDTH W)) rfl rfl (by omega) (by omega) (fun z3 e_z3 i_z3 l_z3 u_z3 => ?_)
  obtain rfl : z3 = 5 := by omega
  refine yG.imul rfl ?_
  refine yG.load xik rfl (fun _ _ => rfl) (v := yI (0)) rfl rfl ?_
  refine yG.iadd rfl ?_
  refine yG.ialdF A_hp.1 (v_Net_value1 W H_r2) ((bTf_m (m := 0) (by omega) (by decide)).trans rfl) rfl (by omega) (by omega) (fun z4 e_z4 i_z4 l_z4 u_z4 => ?_)
  refine yG.ret rfl (fun _ _ => rfl) ?_
  exact (yP.int ⟨by omega, by omega⟩ ⟨⟨z4, rfl, by omega, by omega, trivial⟩, rfl⟩)
theorem c_Net_put_1_0 {hp : xH} (W : bW G) (d : Nat) (hT : zTy G hp) {k0 : Nat} (H_k0 : bRo G 18 k0) (p2 p4 : Int) (h2l : 0 ≤ p2) (h2u : p2 ≤ 23) (h4l : 0 ≤ p4) (h4u : p4 ≤ 2) : yC (xcall 89 xfts xpools xms (d + 1)) 162 [yR k0, yI (1), yI (p2), yI (0), yI (p4)] hp (fun rv hp' => (rv = none ∧ True) ∧ bAx G [(16777216, 256)] hp hp') := by
  have A_hp : bAx G [(16777216, 256)] hp hp := bAx.rf hT
  refine yC.of (M := (xt_X5_put, (5, (0, (6, []))))) rfl rfl (N := 48) (yfuel (by decide)) ?_
  show yG 89 xfts (xcall 89 xfts xpools xms d) (xpool xp_RX5) [] xt_X5_put (yP 0 (fun rv hp' => (rv = none ∧ True) ∧ bAx G [(16777216, 256)] hp hp')) 48 0 [(0, yR k0), (1, yI (1)), (2, yI (p2)), (3, yI (0)), (4, yI (p4))] [] hp
  refine yG.load xak rfl (fun _ _ => rfl) (v := yR k0) rfl rfl ?_
  refine yG.getO A_hp.1 (w_Net_value W H_k0) rfl rfl (fun r1 H_r1 O_r1 q_r1 => ?_)
  refine yG.load xik rfl (fun _ _ => rfl) (v := yI (1)) rfl rfl ?_
  refine yG.aaldO (r := 24) A_hp.1 (v_Net_value W H_r1) rfl rfl rfl (by omega) (by omega) (fun r2 H_r2 q_r2 => ?_)
  refine yG.load xik rfl (fun _ _ => rfl) (v := yI (p2)) rfl rfl ?_
  refine yG.getS (c := 2) rfl rfl ?_
  refine yG.load xik rfl (fun _ _ => rfl) (v := yI (1)) rfl rfl ?_
  refine yG.ialdF A_hp.1 (v_S_Net_WIDTH W (s_S_Net_WIDTH W)) rfl rfl (by omega) (by omega) (fun z3 e_z3 i_z3 l_z3 u_z3 => ?_)
  obtain rfl : z3 = 5 := by omega
  refine yG.imul rfl ?_
  refine yG.load xik rfl (fun _ _ => rfl) (v := yI (0)) rfl rfl ?_
  refine yG.iadd rfl ?_
  refine yG.load xik rfl (fun _ _ => rfl) (v := yI (p4)) rfl rfl ?_
  refine yG.iastF A_hp.1 (v_Net_value1 W H_r2) ((bTf_m (m := 0) (by omega) (by decide)).trans rfl) (W.2.1 _ _ H_r2 (by decide) (by decide)) rfl (by omega) (by omega) ⟨by omega, by omega⟩ (by omega) (by omega) (fun h4 T_h4 b_h4 f_h4 y_h4 => ?_)
  have A_h4 := A_hp.put T_h4 b_h4 f_h4 H_r2 (bAll_ok (by decide) _)
  refine yG.ret rfl (fun _ _ => rfl) ?_
  exact (yP.void ⟨⟨rfl, trivial⟩, A_h4⟩)
theorem c_Net_at_1_1 {hp : xH} (W : bW G) (d : Nat) (hT : zTy G hp) {k0 : Nat} (H_k0 : bRo G 18 k0) (p2 : Int) (h2l : 0 ≤ p2) (h2u : p2 ≤ 23) : yC (xcall 89 xfts xpools xms (d + 1)) 151 [yR k0, yI (1), yI (p2), yI (1)] hp (bQpi hp 0 999999 (fun _ => True)) := by
  have A_hp : bAx G [] hp hp := bAx.rf hT
  refine yC.of (M := (xt_X5_at, (4, (1, (6, []))))) rfl rfl (N := 45) (yfuel (by decide)) ?_
  show yG 89 xfts (xcall 89 xfts xpools xms d) (xpool xp_RX5) [] xt_X5_at (yP 1 (bQpi hp 0 999999 (fun _ => True))) 45 0 [(0, yR k0), (1, yI (1)), (2, yI (p2)), (3, yI (1))] [] hp
  refine yG.load xak rfl (fun _ _ => rfl) (v := yR k0) rfl rfl ?_
  refine yG.getO A_hp.1 (w_Net_value W H_k0) rfl rfl (fun r1 H_r1 O_r1 q_r1 => ?_)
  refine yG.load xik rfl (fun _ _ => rfl) (v := yI (1)) rfl rfl ?_
  refine yG.aaldO (r := 24) A_hp.1 (v_Net_value W H_r1) rfl rfl rfl (by omega) (by omega) (fun r2 H_r2 q_r2 => ?_)
  refine yG.load xik rfl (fun _ _ => rfl) (v := yI (p2)) rfl rfl ?_
  refine yG.getS (c := 2) rfl rfl ?_
  refine yG.load xik rfl (fun _ _ => rfl) (v := yI (1)) rfl rfl ?_
  refine yG.ialdF A_hp.1 (v_S_Net_WIDTH W (s_S_Net_WIDTH W)) rfl rfl (by omega) (by omega) (fun z3 e_z3 i_z3 l_z3 u_z3 => ?_)
  obtain rfl : z3 = 5 := by omega
  refine yG.imul rfl ?_
  refine yG.load xik rfl (fun _ _ => rfl) (v := yI (1)) rfl rfl ?_
  refine yG.iadd rfl ?_
  refine yG.ialdF A_hp.1 (v_Net_value1 W H_r2) ((bTf_m (m := 1) (by omega) (by decide)).trans rfl) rfl (by omega) (by omega) (fun z4 e_z4 i_z4 l_z4 u_z4 => ?_)
  refine yG.ret rfl (fun _ _ => rfl) ?_
  exact (yP.int ⟨by omega, by omega⟩ ⟨⟨z4, rfl, by omega, by omega, trivial⟩, rfl⟩)
theorem c_Net_put_1_1 {hp : xH} (W : bW G) (d : Nat) (hT : zTy G hp) {k0 : Nat} (H_k0 : bRo G 18 k0) (p2 p4 : Int) (h2l : 0 ≤ p2) (h2u : p2 ≤ 23) (h4l : 0 ≤ p4) (h4u : p4 ≤ 999999) : yC (xcall 89 xfts xpools xms (d + 1)) 162 [yR k0, yI (1), yI (p2), yI (1), yI (p4)] hp (fun rv hp' => (rv = none ∧ True) ∧ bAx G [(16777216, 256)] hp hp') := by
  have A_hp : bAx G [(16777216, 256)] hp hp := bAx.rf hT
  refine yC.of (M := (xt_X5_put, (5, (0, (6, []))))) rfl rfl (N := 48) (yfuel (by decide)) ?_
  show yG 89 xfts (xcall 89 xfts xpools xms d) (xpool xp_RX5) [] xt_X5_put (yP 0 (fun rv hp' => (rv = none ∧ True) ∧ bAx G [(16777216, 256)] hp hp')) 48 0 [(0, yR k0), (1, yI (1)), (2, yI (p2)), (3, yI (1)), (4, yI (p4))] [] hp
  refine yG.load xak rfl (fun _ _ => rfl) (v := yR k0) rfl rfl ?_
  refine yG.getO A_hp.1 (w_Net_value W H_k0) rfl rfl (fun r1 H_r1 O_r1 q_r1 => ?_)
  refine yG.load xik rfl (fun _ _ => rfl) (v := yI (1)) rfl rfl ?_
  refine yG.aaldO (r := 24) A_hp.1 (v_Net_value W H_r1) rfl rfl rfl (by omega) (by omega) (fun r2 H_r2 q_r2 => ?_)
  refine yG.load xik rfl (fun _ _ => rfl) (v := yI (p2)) rfl rfl ?_
  refine yG.getS (c := 2) rfl rfl ?_
  refine yG.load xik rfl (fun _ _ => rfl) (v := yI (1)) rfl rfl ?_
  refine yG.ialdF A_hp.1 (v_S_Net_WIDTH W (s_S_Net_WIDTH W)) rfl rfl (by omega) (by omega) (fun z3 e_z3 i_z3 l_z3 u_z3 => ?_)
  obtain rfl : z3 = 5 := by omega
  refine yG.imul rfl ?_
  refine yG.load xik rfl (fun _ _ => rfl) (v := yI (1)) rfl rfl ?_
  refine yG.iadd rfl ?_
  refine yG.load xik rfl (fun _ _ => rfl) (v := yI (p4)) rfl rfl ?_
  refine yG.iastF A_hp.1 (v_Net_value1 W H_r2) ((bTf_m (m := 1) (by omega) (by decide)).trans rfl) (W.2.1 _ _ H_r2 (by decide) (by decide)) rfl (by omega) (by omega) ⟨by omega, by omega⟩ (by omega) (by omega) (fun h4 T_h4 b_h4 f_h4 y_h4 => ?_)
  have A_h4 := A_hp.put T_h4 b_h4 f_h4 H_r2 (bAll_ok (by decide) _)
  refine yG.ret rfl (fun _ _ => rfl) ?_
  exact (yP.void ⟨⟨rfl, trivial⟩, A_h4⟩)
theorem c_Net_at_1_2 {hp : xH} (W : bW G) (d : Nat) (hT : zTy G hp) {k0 : Nat} (H_k0 : bRo G 18 k0) (p2 : Int) (h2l : 0 ≤ p2) (h2u : p2 ≤ 23) : yC (xcall 89 xfts xpools xms (d + 1)) 151 [yR k0, yI (1), yI (p2), yI (2)] hp (bQpi hp 0 1 (fun _ => True)) := by
  have A_hp : bAx G [] hp hp := bAx.rf hT
  refine yC.of (M := (xt_X5_at, (4, (1, (6, []))))) rfl rfl (N := 45) (yfuel (by decide)) ?_
  show yG 89 xfts (xcall 89 xfts xpools xms d) (xpool xp_RX5) [] xt_X5_at (yP 1 (bQpi hp 0 1 (fun _ => True))) 45 0 [(0, yR k0), (1, yI (1)), (2, yI (p2)), (3, yI (2))] [] hp
  refine yG.load xak rfl (fun _ _ => rfl) (v := yR k0) rfl rfl ?_
  refine yG.getO A_hp.1 (w_Net_value W H_k0) rfl rfl (fun r1 H_r1 O_r1 q_r1 => ?_)
  refine yG.load xik rfl (fun _ _ => rfl) (v := yI (1)) rfl rfl ?_
  refine yG.aaldO (r := 24) A_hp.1 (v_Net_value W H_r1) rfl rfl rfl (by omega) (by omega) (fun r2 H_r2 q_r2 => ?_)
  refine yG.load xik rfl (fun _ _ => rfl) (v := yI (p2)) rfl rfl ?_
  refine yG.getS (c := 2) rfl rfl ?_
  refine yG.load xik rfl (fun _ _ => rfl) (v := yI (1)) rfl rfl ?_
  refine yG.ialdF A_hp.1 (v_S_Net_WIDTH W (s_S_Net_WIDTH W)) rfl rfl (by omega) (by omega) (fun z3 e_z3 i_z3 l_z3 u_z3 => ?_)
  obtain rfl : z3 = 5 := by omega
  refine yG.imul rfl ?_
  refine yG.load xik rfl (fun _ _ => rfl) (v := yI (2)) rfl rfl ?_
  refine yG.iadd rfl ?_
  refine yG.ialdF A_hp.1 (v_Net_value1 W H_r2) ((bTf_m (m := 2) (by omega) (by decide)).trans rfl) rfl (by omega) (by omega) (fun z4 e_z4 i_z4 l_z4 u_z4 => ?_)
  refine yG.ret rfl (fun _ _ => rfl) ?_
  exact (yP.int ⟨by omega, by omega⟩ ⟨⟨z4, rfl, by omega, by omega, trivial⟩, rfl⟩)
theorem c_Net_put_1_2 {hp : xH} (W : bW G) (d : Nat) (hT : zTy G hp) {k0 : Nat} (H_k0 : bRo G 18 k0) (p2 p4 : Int) (h2l : 0 ≤ p2) (h2u : p2 ≤ 23) (h4l : 0 ≤ p4) (h4u : p4 ≤ 1) : yC (xcall 89 xfts xpools xms (d + 1)) 162 [yR k0, yI (1), yI (p2), yI (2), yI (p4)] hp (fun rv hp' => (rv = none ∧ True) ∧ bAx G [(16777216, 256)] hp hp') := by
  have A_hp : bAx G [(16777216, 256)] hp hp := bAx.rf hT
  refine yC.of (M := (xt_X5_put, (5, (0, (6, []))))) rfl rfl (N := 48) (yfuel (by decide)) ?_
  show yG 89 xfts (xcall 89 xfts xpools xms d) (xpool xp_RX5) [] xt_X5_put (yP 0 (fun rv hp' => (rv = none ∧ True) ∧ bAx G [(16777216, 256)] hp hp')) 48 0 [(0, yR k0), (1, yI (1)), (2, yI (p2)), (3, yI (2)), (4, yI (p4))] [] hp
  refine yG.load xak rfl (fun _ _ => rfl) (v := yR k0) rfl rfl ?_
  refine yG.getO A_hp.1 (w_Net_value W H_k0) rfl rfl (fun r1 H_r1 O_r1 q_r1 => ?_)
  refine yG.load xik rfl (fun _ _ => rfl) (v := yI (1)) rfl rfl ?_
  refine yG.aaldO (r := 24) A_hp.1 (v_Net_value W H_r1) rfl rfl rfl (by omega) (by omega) (fun r2 H_r2 q_r2 => ?_)
  refine yG.load xik rfl (fun _ _ => rfl) (v := yI (p2)) rfl rfl ?_
  refine yG.getS (c := 2) rfl rfl ?_
  refine yG.load xik rfl (fun _ _ => rfl) (v := yI (1)) rfl rfl ?_
  refine yG.ialdF A_hp.1 (v_S_Net_WIDTH W (s_S_Net_WIDTH W)) rfl rfl (by omega) (by omega) (fun z3 e_z3 i_z3 l_z3 u_z3 => ?_)
  obtain rfl : z3 = 5 := by omega
  refine yG.imul rfl ?_
  refine yG.load xik rfl (fun _ _ => rfl) (v := yI (2)) rfl rfl ?_
  refine yG.iadd rfl ?_
  refine yG.load xik rfl (fun _ _ => rfl) (v := yI (p4)) rfl rfl ?_
  refine yG.iastF A_hp.1 (v_Net_value1 W H_r2) ((bTf_m (m := 2) (by omega) (by decide)).trans rfl) (W.2.1 _ _ H_r2 (by decide) (by decide)) rfl (by omega) (by omega) ⟨by omega, by omega⟩ (by omega) (by omega) (fun h4 T_h4 b_h4 f_h4 y_h4 => ?_)
  have A_h4 := A_hp.put T_h4 b_h4 f_h4 H_r2 (bAll_ok (by decide) _)
  refine yG.ret rfl (fun _ _ => rfl) ?_
  exact (yP.void ⟨⟨rfl, trivial⟩, A_h4⟩)
theorem c_Net_at_1_3 {hp : xH} (W : bW G) (d : Nat) (hT : zTy G hp) {k0 : Nat} (H_k0 : bRo G 18 k0) (p2 : Int) (h2l : 0 ≤ p2) (h2u : p2 ≤ 23) : yC (xcall 89 xfts xpools xms (d + 1)) 151 [yR k0, yI (1), yI (p2), yI (3)] hp (bQpi hp 0 15 (fun _ => True)) := by
  have A_hp : bAx G [] hp hp := bAx.rf hT
  refine yC.of (M := (xt_X5_at, (4, (1, (6, []))))) rfl rfl (N := 45) (yfuel (by decide)) ?_
  show yG 89 xfts (xcall 89 xfts xpools xms d) (xpool xp_RX5) [] xt_X5_at (yP 1 (bQpi hp 0 15 (fun _ => True))) 45 0 [(0, yR k0), (1, yI (1)), (2, yI (p2)), (3, yI (3))] [] hp
  refine yG.load xak rfl (fun _ _ => rfl) (v := yR k0) rfl rfl ?_
  refine yG.getO A_hp.1 (w_Net_value W H_k0) rfl rfl (fun r1 H_r1 O_r1 q_r1 => ?_)
  refine yG.load xik rfl (fun _ _ => rfl) (v := yI (1)) rfl rfl ?_
  refine yG.aaldO (r := 24) A_hp.1 (v_Net_value W H_r1) rfl rfl rfl (by omega) (by omega) (fun r2 H_r2 q_r2 => ?_)
  refine yG.load xik rfl (fun _ _ => rfl) (v := yI (p2)) rfl rfl ?_
  refine yG.getS (c := 2) rfl rfl ?_
  refine yG.load xik rfl (fun _ _ => rfl) (v := yI (1)) rfl rfl ?_
  refine yG.ialdF A_hp.1 (v_S_Net_WIDTH W (s_S_Net_WIDTH W)) rfl rfl (by omega) (by omega) (fun z3 e_z3 i_z3 l_z3 u_z3 => ?_)
  obtain rfl : z3 = 5 := by omega
  refine yG.imul rfl ?_
  refine yG.load xik rfl (fun _ _ => rfl) (v := yI (3)) rfl rfl ?_
  refine yG.iadd rfl ?_
  refine yG.ialdF A_hp.1 (v_Net_value1 W H_r2) ((bTf_m (m := 3) (by omega) (by decide)).trans rfl) rfl (by omega) (by omega) (fun z4 e_z4 i_z4 l_z4 u_z4 => ?_)
  refine yG.ret rfl (fun _ _ => rfl) ?_
  exact (yP.int ⟨by omega, by omega⟩ ⟨⟨z4, rfl, by omega, by omega, trivial⟩, rfl⟩)
theorem c_Net_put_1_3 {hp : xH} (W : bW G) (d : Nat) (hT : zTy G hp) {k0 : Nat} (H_k0 : bRo G 18 k0) (p2 p4 : Int) (h2l : 0 ≤ p2) (h2u : p2 ≤ 23) (h4l : 0 ≤ p4) (h4u : p4 ≤ 15) : yC (xcall 89 xfts xpools xms (d + 1)) 162 [yR k0, yI (1), yI (p2), yI (3), yI (p4)] hp (fun rv hp' => (rv = none ∧ True) ∧ bAx G [(16777216, 256)] hp hp') := by
  have A_hp : bAx G [(16777216, 256)] hp hp := bAx.rf hT
  refine yC.of (M := (xt_X5_put, (5, (0, (6, []))))) rfl rfl (N := 48) (yfuel (by decide)) ?_
  show yG 89 xfts (xcall 89 xfts xpools xms d) (xpool xp_RX5) [] xt_X5_put (yP 0 (fun rv hp' => (rv = none ∧ True) ∧ bAx G [(16777216, 256)] hp hp')) 48 0 [(0, yR k0), (1, yI (1)), (2, yI (p2)), (3, yI (3)), (4, yI (p4))] [] hp
  refine yG.load xak rfl (fun _ _ => rfl) (v := yR k0) rfl rfl ?_
  refine yG.getO A_hp.1 (w_Net_value W H_k0) rfl rfl (fun r1 H_r1 O_r1 q_r1 => ?_)
  refine yG.load xik rfl (fun _ _ => rfl) (v := yI (1)) rfl rfl ?_
  refine yG.aaldO (r := 24) A_hp.1 (v_Net_value W H_r1) rfl rfl rfl (by omega) (by omega) (fun r2 H_r2 q_r2 => ?_)
  refine yG.load xik rfl (fun _ _ => rfl) (v := yI (p2)) rfl rfl ?_
  refine yG.getS (c := 2) rfl rfl ?_
  refine yG.load xik rfl (fun _ _ => rfl) (v := yI (1)) rfl rfl ?_
  refine yG.ialdF A_hp.1 (v_S_Net_WIDTH W (s_S_Net_WIDTH W)) rfl rfl (by omega) (by omega) (fun z3 e_z3 i_z3 l_z3 u_z3 => ?_)
  obtain rfl : z3 = 5 := by omega
  refine yG.imul rfl ?_
  refine yG.load xik rfl (fun _ _ => rfl) (v := yI (3)) rfl rfl ?_
  refine yG.iadd rfl ?_
  refine yG.load xik rfl (fun _ _ => rfl) (v := yI (p4)) rfl rfl ?_
  refine yG.iastF A_hp.1 (v_Net_value1 W H_r2) ((bTf_m (m := 3) (by omega) (by decide)).trans rfl) (W.2.1 _ _ H_r2 (by decide) (by decide)) rfl (by omega) (by omega) ⟨by omega, by omega⟩ (by omega) (by omega) (fun h4 T_h4 b_h4 f_h4 y_h4 => ?_)
  have A_h4 := A_hp.put T_h4 b_h4 f_h4 H_r2 (bAll_ok (by decide) _)
  refine yG.ret rfl (fun _ _ => rfl) ?_
  exact (yP.void ⟨⟨rfl, trivial⟩, A_h4⟩)
theorem c_Net_at_1_4 {hp : xH} (W : bW G) (d : Nat) (hT : zTy G hp) {k0 : Nat} (H_k0 : bRo G 18 k0) (p2 : Int) (h2l : 0 ≤ p2) (h2u : p2 ≤ 23) : yC (xcall 89 xfts xpools xms (d + 1)) 151 [yR k0, yI (1), yI (p2), yI (4)] hp (bQpi hp 0 15 (fun _ => True)) := by
  have A_hp : bAx G [] hp hp := bAx.rf hT
  refine yC.of (M := (xt_X5_at, (4, (1, (6, []))))) rfl rfl (N := 45) (yfuel (by decide)) ?_
  show yG 89 xfts (xcall 89 xfts xpools xms d) (xpool xp_RX5) [] xt_X5_at (yP 1 (bQpi hp 0 15 (fun _ => True))) 45 0 [(0, yR k0), (1, yI (1)), (2, yI (p2)), (3, yI (4))] [] hp
  refine yG.load xak rfl (fun _ _ => rfl) (v := yR k0) rfl rfl ?_
  refine yG.getO A_hp.1 (w_Net_value W H_k0) rfl rfl (fun r1 H_r1 O_r1 q_r1 => ?_)
  refine yG.load xik rfl (fun _ _ => rfl) (v := yI (1)) rfl rfl ?_
  refine yG.aaldO (r := 24) A_hp.1 (v_Net_value W H_r1) rfl rfl rfl (by omega) (by omega) (fun r2 H_r2 q_r2 => ?_)
  refine yG.load xik rfl (fun _ _ => rfl) (v := yI (p2)) rfl rfl ?_
  refine yG.getS (c := 2) rfl rfl ?_
  refine yG.load xik rfl (fun _ _ => rfl) (v := yI (1)) rfl rfl ?_
  refine yG.ialdF A_hp.1 (v_S_Net_WIDTH W (s_S_Net_WIDTH W)) rfl rfl (by omega) (by omega) (fun z3 e_z3 i_z3 l_z3 u_z3 => ?_)
  obtain rfl : z3 = 5 := by omega
  refine yG.imul rfl ?_
  refine yG.load xik rfl (fun _ _ => rfl) (v := yI (4)) rfl rfl ?_
  refine yG.iadd rfl ?_
  refine yG.ialdF A_hp.1 (v_Net_value1 W H_r2) ((bTf_m (m := 4) (by omega) (by decide)).trans rfl) rfl (by omega) (by omega) (fun z4 e_z4 i_z4 l_z4 u_z4 => ?_)
  refine yG.ret rfl (fun _ _ => rfl) ?_
  exact (yP.int ⟨by omega, by omega⟩ ⟨⟨z4, rfl, by omega, by omega, trivial⟩, rfl⟩)
theorem c_Net_put_1_4 {hp : xH} (W : bW G) (d : Nat) (hT : zTy G hp) {k0 : Nat} (H_k0 : bRo G 18 k0) (p2 p4 : Int) (h2l : 0 ≤ p2) (h2u : p2 ≤ 23) (h4l : 0 ≤ p4) (h4u : p4 ≤ 15) : yC (xcall 89 xfts xpools xms (d + 1)) 162 [yR k0, yI (1), yI (p2), yI (4), yI (p4)] hp (fun rv hp' => (rv = none ∧ True) ∧ bAx G [(16777216, 256)] hp hp') := by
  have A_hp : bAx G [(16777216, 256)] hp hp := bAx.rf hT
  refine yC.of (M := (xt_X5_put, (5, (0, (6, []))))) rfl rfl (N := 48) (yfuel (by decide)) ?_
  show yG 89 xfts (xcall 89 xfts xpools xms d) (xpool xp_RX5) [] xt_X5_put (yP 0 (fun rv hp' => (rv = none ∧ True) ∧ bAx G [(16777216, 256)] hp hp')) 48 0 [(0, yR k0), (1, yI (1)), (2, yI (p2)), (3, yI (4)), (4, yI (p4))] [] hp
  refine yG.load xak rfl (fun _ _ => rfl) (v := yR k0) rfl rfl ?_
  refine yG.getO A_hp.1 (w_Net_value W H_k0) rfl rfl (fun r1 H_r1 O_r1 q_r1 => ?_)
  refine yG.load xik rfl (fun _ _ => rfl) (v := yI (1)) rfl rfl ?_
  refine yG.aaldO (r := 24) A_hp.1 (v_Net_value W H_r1) rfl rfl rfl (by omega) (by omega) (fun r2 H_r2 q_r2 => ?_)
  refine yG.load xik rfl (fun _ _ => rfl) (v := yI (p2)) rfl rfl ?_
  refine yG.getS (c := 2) rfl rfl ?_
  refine yG.load xik rfl (fun _ _ => rfl) (v := yI (1)) rfl rfl ?_
  refine yG.ialdF A_hp.1 (v_S_Net_WIDTH W (s_S_Net_WIDTH W)) rfl rfl (by omega) (by omega) (fun z3 e_z3 i_z3 l_z3 u_z3 => ?_)
  obtain rfl : z3 = 5 := by omega
  refine yG.imul rfl ?_
  refine yG.load xik rfl (fun _ _ => rfl) (v := yI (4)) rfl rfl ?_
  refine yG.iadd rfl ?_
  refine yG.load xik rfl (fun _ _ => rfl) (v := yI (p4)) rfl rfl ?_
  refine yG.iastF A_hp.1 (v_Net_value1 W H_r2) ((bTf_m (m := 4) (by omega) (by decide)).trans rfl) (W.2.1 _ _ H_r2 (by decide) (by decide)) rfl (by omega) (by omega) ⟨by omega, by omega⟩ (by omega) (by omega) (fun h4 T_h4 b_h4 f_h4 y_h4 => ?_)
  have A_h4 := A_hp.put T_h4 b_h4 f_h4 H_r2 (bAll_ok (by decide) _)
  refine yG.ret rfl (fun _ _ => rfl) ?_
  exact (yP.void ⟨⟨rfl, trivial⟩, A_h4⟩)
theorem c_Net_at_1z {hp : xH} (W : bW G) (d : Nat) (hT : zTy G hp) {k0 : Nat} (H_k0 : bRo G 18 k0) (p2 p3 : Int) (h2l : 0 ≤ p2) (h2u : p2 ≤ 23) (h3l : 0 ≤ p3) (h3u : p3 ≤ 4) : yC (xcall 89 xfts xpools xms (d + 1)) 151 [yR k0, yI (1), yI (p2), yI (p3)] hp (bQpi hp 0 999999 (fun _ => True)) := by
  have A_hp : bAx G [] hp hp := bAx.rf hT
  refine yC.of (M := (xt_X5_at, (4, (1, (6, []))))) rfl rfl (N := 45) (yfuel (by decide)) ?_
  show yG 89 xfts (xcall 89 xfts xpools xms d) (xpool xp_RX5) [] xt_X5_at (yP 1 (bQpi hp 0 999999 (fun _ => True))) 45 0 [(0, yR k0), (1, yI (1)), (2, yI (p2)), (3, yI (p3))] [] hp
  refine yG.load xak rfl (fun _ _ => rfl) (v := yR k0) rfl rfl ?_
  refine yG.getO A_hp.1 (w_Net_value W H_k0) rfl rfl (fun r1 H_r1 O_r1 q_r1 => ?_)
  refine yG.load xik rfl (fun _ _ => rfl) (v := yI (1)) rfl rfl ?_
  refine yG.aaldO (r := 24) A_hp.1 (v_Net_value W H_r1) rfl rfl rfl (by omega) (by omega) (fun r2 H_r2 q_r2 => ?_)
  refine yG.load xik rfl (fun _ _ => rfl) (v := yI (p2)) rfl rfl ?_
  refine yG.getS (c := 2) rfl rfl ?_
  refine yG.load xik rfl (fun _ _ => rfl) (v := yI (1)) rfl rfl ?_
  refine yG.ialdF A_hp.1 (v_S_Net_WIDTH W (s_S_Net_WIDTH W)) rfl rfl (by omega) (by omega) (fun z3 e_z3 i_z3 l_z3 u_z3 => ?_)
  obtain rfl : z3 = 5 := by omega
  refine yG.imul rfl ?_
  refine yG.load xik rfl (fun _ _ => rfl) (v := yI (p3)) rfl rfl ?_
  refine yG.iadd rfl ?_
  refine yG.ialdT A_hp.1 (v_Net_value1 W H_r2) (yhull2 (tf := bTf 5 t_Net_value1) (bTf_h (A := 0) (B := 999999) (by decide) (by decide) (by decide) _)) rfl (by omega) (by omega) (fun z4 lo_z4 hi_z4 e_z4 i_z4 T_z4 l_z4 u_z4 => ?_)
  obtain ⟨L_z4, U_z4⟩ := yhull (tf := bTf 5 t_Net_value1) (bTf_h (A := 0) (B := 999999) (by decide) (by decide) (by decide) _) T_z4
  refine yG.ret rfl (fun _ _ => rfl) ?_
  exact (yP.int ⟨by omega, by omega⟩ ⟨⟨z4, rfl, by omega, by omega, trivial⟩, rfl⟩)
theorem c_Net_is_1 {hp : xH} (W : bW G) (d : Nat) (hT : zTy G hp) {k0 : Nat} (H_k0 : bRo G 18 k0) (p2 p3 : Int) (h2l : 0 ≤ p2) (h2u : p2 ≤ 23) (h3l : 0 ≤ p3) (h3u : p3 ≤ 4) : yC (xcall 89 xfts xpools xms (d + 1)) 158 [yR k0, yI (1), yI (p2), yI (p3)] hp (bQpi hp 0 1 (fun _ => True)) := by
  have A_hp : bAx G [] hp hp := bAx.rf hT
  refine yC.of (M := (xt_X5_is, (4, (4, (6, []))))) rfl rfl (N := 57) (yfuel (by decide)) ?_
  show yG 89 xfts (xcall 89 xfts xpools xms d) (xpool xp_RX5) [] xt_X5_is (yP 4 (bQpi hp 0 1 (fun _ => True))) 57 0 [(0, yR k0), (1, yI (1)), (2, yI (p2)), (3, yI (p3))] [] hp
  refine yG.load xak rfl (fun _ _ => rfl) (v := yR k0) rfl rfl ?_
  refine yG.getO A_hp.1 (w_Net_value W H_k0) rfl rfl (fun r1 H_r1 O_r1 q_r1 => ?_)
  refine yG.load xik rfl (fun _ _ => rfl) (v := yI (1)) rfl rfl ?_
  refine yG.aaldO (r := 24) A_hp.1 (v_Net_value W H_r1) rfl rfl rfl (by omega) (by omega) (fun r2 H_r2 q_r2 => ?_)
  refine yG.load xik rfl (fun _ _ => rfl) (v := yI (p2)) rfl rfl ?_
  refine yG.getS (c := 2) rfl rfl ?_
  refine yG.load xik rfl (fun _ _ => rfl) (v := yI (1)) rfl rfl ?_
  refine yG.ialdF A_hp.1 (v_S_Net_WIDTH W (s_S_Net_WIDTH W)) rfl rfl (by omega) (by omega) (fun z3 e_z3 i_z3 l_z3 u_z3 => ?_)
  obtain rfl : z3 = 5 := by omega
  refine yG.imul rfl ?_
  refine yG.load xik rfl (fun _ _ => rfl) (v := yI (p3)) rfl rfl ?_
  refine yG.iadd rfl ?_
  refine yG.ialdT A_hp.1 (v_Net_value1 W H_r2) (yhull2 (tf := bTf 5 t_Net_value1) (bTf_h (A := 0) (B := 999999) (by decide) (by decide) (by decide) _)) rfl (by omega) (by omega) (fun z4 lo_z4 hi_z4 e_z4 i_z4 T_z4 l_z4 u_z4 => ?_)
  obtain ⟨L_z4, U_z4⟩ := yhull (tf := bTf 5 t_Net_value1) (bTf_h (A := 0) (B := 999999) (by decide) (by decide) (by decide) _) T_z4
  refine yG.num (c := 1) rfl (fun _ _ => rfl) (by decide) ?_
  refine yG.icmp rfl (t := 24) rfl ⟨by omega, by omega⟩ ⟨by omega, by omega⟩ (fun c5 => ?_) (fun c5 => ?_)
  · have c5 : (z4 : Int) ≠ 1 := c5
    refine yG.num (c := 0) rfl (fun _ _ => rfl) (by decide) ?_
    refine yG.ret rfl (fun _ _ => rfl) ?_
    exact (yP.bool (by omega) ⟨⟨0, rfl, by omega, by omega, trivial⟩, rfl⟩)
  · have c5 : (z4 : Int) = 1 := c5
    refine yG.num (c := 1) rfl (fun _ _ => rfl) (by decide) ?_
    refine yG.goto rfl (t := 25) rfl ?_
    refine yG.ret rfl (fun _ _ => rfl) ?_
    exact (yP.bool (by omega) ⟨⟨1, rfl, by omega, by omega, trivial⟩, rfl⟩)
theorem c_Net_isWithin_1_0 {hp : xH} (W : bW G) (d : Nat) (hT : zTy G hp) (p2 : Int) (h2l : (-2147483648) ≤ p2) (h2u : p2 ≤ 2147483647) : yC (xcall 89 xfts xpools xms (d + 1)) 159 [yI (1), yI (0), yI (p2)] hp (bQpi hp 0 1 (fun z => (z = 1 → 0 ≤ p2 ∧ 0 ≤ 0 - p2 + 2))) := by
  have A_hp : bAx G [] hp hp := bAx.rf hT
  refine yC.of (M := (xt_X5_isWithin, (4, (4, (6, []))))) rfl rfl (N := 63) (yfuel (by decide)) ?_
  show yG 89 xfts (xcall 89 xfts xpools xms d) (xpool xp_RX5) [] xt_X5_isWithin (yP 4 (bQpi hp 0 1 (fun z => (z = 1 → 0 ≤ p2 ∧ 0 ≤ 0 - p2 + 2)))) 63 0 [(0, yI (1)), (1, yI (0)), (2, yI (p2))] [] hp
  refine yG.getS (c := 5) rfl rfl ?_
  refine yG.load xik rfl (fun _ _ => rfl) (v := yI (1)) rfl rfl ?_
  refine yG.ialdF A_hp.1 (v_S_Net_BOUNDS W (s_S_Net_BOUNDS W)) rfl rfl (by omega) (by omega) (fun z1 e_z1 i_z1 l_z1 u_z1 => ?_)
  obtain rfl : z1 = 0 := by omega
  refine yG.load xik rfl (fun _ _ => rfl) (v := yI (0)) rfl rfl ?_
  refine yG.iadd rfl ?_
  rw [show (0 + 0 : Int) = 0 by omega]
  refine yG.store1 xik (L' := [(3, yI (0)), (0, yI (1)), (1, yI (0)), (2, yI (p2))]) rfl (fun _ _ => rfl) rfl rfl ?_
  refine yG.load xik rfl (fun _ _ => rfl) (v := yI (p2)) rfl rfl ?_
  refine yG.getS (c := 10) rfl rfl ?_
  refine yG.load xik rfl (fun _ _ => rfl) (v := yI (0)) rfl rfl ?_
  refine yG.ialdF A_hp.1 (v_S_Net_LEAST W (s_S_Net_LEAST W)) rfl rfl (by omega) (by omega) (fun z2 e_z2 i_z2 l_z2 u_z2 => ?_)
  obtain rfl : z2 = 0 := by omega
  refine yG.icmp rfl (t := 30) rfl ⟨by omega, by omega⟩ ⟨by omega, by omega⟩ (fun c3 => ?_) (fun c3 => ?_)
  · have c3 : (p2 : Int) < 0 := c3
    refine yG.num (c := 0) rfl (fun _ _ => rfl) (by decide) ?_
    refine yG.ret rfl (fun _ _ => rfl) ?_
    exact (yP.bool (by omega) ⟨⟨0, rfl, by omega, by omega, by omega⟩, rfl⟩)
  · have c3 : (p2 : Int) ≥ 0 := c3
    refine yG.load xik rfl (fun _ _ => rfl) (v := yI (p2)) rfl rfl ?_
    refine yG.getS (c := 4) rfl rfl ?_
    refine yG.load xik rfl (fun _ _ => rfl) (v := yI (0)) rfl rfl ?_
    refine yG.ialdF A_hp.1 (v_S_Net_GREATEST W (s_S_Net_GREATEST W)) rfl rfl (by omega) (by omega) (fun z4 e_z4 i_z4 l_z4 u_z4 => ?_)
    obtain rfl : z4 = 2 := by omega
    refine yG.icmp rfl (t := 30) rfl ⟨by omega, by omega⟩ ⟨by omega, by omega⟩ (fun c5 => ?_) (fun c5 => ?_)
    · have c5 : (p2 : Int) > 2 := c5
      refine yG.num (c := 0) rfl (fun _ _ => rfl) (by decide) ?_
      refine yG.ret rfl (fun _ _ => rfl) ?_
      exact (yP.bool (by omega) ⟨⟨0, rfl, by omega, by omega, by omega⟩, rfl⟩)
    · have c5 : (p2 : Int) ≤ 2 := c5
      refine yG.num (c := 1) rfl (fun _ _ => rfl) (by decide) ?_
      refine yG.goto rfl (t := 31) rfl ?_
      refine yG.ret rfl (fun _ _ => rfl) ?_
      exact (yP.bool (by omega) ⟨⟨1, rfl, by omega, by omega, by omega⟩, rfl⟩)
theorem c_Net_isWithin_1_1 {hp : xH} (W : bW G) (d : Nat) (hT : zTy G hp) (p2 : Int) (h2l : (-2147483648) ≤ p2) (h2u : p2 ≤ 2147483647) : yC (xcall 89 xfts xpools xms (d + 1)) 159 [yI (1), yI (1), yI (p2)] hp (bQpi hp 0 1 (fun z => (z = 1 → 0 ≤ p2 - 1 ∧ 0 ≤ 0 - p2 + 999999))) := by
  have A_hp : bAx G [] hp hp := bAx.rf hT
  refine yC.of (M := (xt_X5_isWithin, (4, (4, (6, []))))) rfl rfl (N := 63) (yfuel (by decide)) ?_
  show yG 89 xfts (xcall 89 xfts xpools xms d) (xpool xp_RX5) [] xt_X5_isWithin (yP 4 (bQpi hp 0 1 (fun z => (z = 1 → 0 ≤ p2 - 1 ∧ 0 ≤ 0 - p2 + 999999)))) 63 0 [(0, yI (1)), (1, yI (1)), (2, yI (p2))] [] hp
  refine yG.getS (c := 5) rfl rfl ?_
  refine yG.load xik rfl (fun _ _ => rfl) (v := yI (1)) rfl rfl ?_
  refine yG.ialdF A_hp.1 (v_S_Net_BOUNDS W (s_S_Net_BOUNDS W)) rfl rfl (by omega) (by omega) (fun z1 e_z1 i_z1 l_z1 u_z1 => ?_)
  obtain rfl : z1 = 0 := by omega
  refine yG.load xik rfl (fun _ _ => rfl) (v := yI (1)) rfl rfl ?_
  refine yG.iadd rfl ?_
  rw [show (0 + 1 : Int) = 1 by omega]
  refine yG.store1 xik (L' := [(3, yI (1)), (0, yI (1)), (1, yI (1)), (2, yI (p2))]) rfl (fun _ _ => rfl) rfl rfl ?_
  refine yG.load xik rfl (fun _ _ => rfl) (v := yI (p2)) rfl rfl ?_
  refine yG.getS (c := 10) rfl rfl ?_
  refine yG.load xik rfl (fun _ _ => rfl) (v := yI (1)) rfl rfl ?_
  refine yG.ialdF A_hp.1 (v_S_Net_LEAST W (s_S_Net_LEAST W)) rfl rfl (by omega) (by omega) (fun z2 e_z2 i_z2 l_z2 u_z2 => ?_)
  obtain rfl : z2 = 1 := by omega
  refine yG.icmp rfl (t := 30) rfl ⟨by omega, by omega⟩ ⟨by omega, by omega⟩ (fun c3 => ?_) (fun c3 => ?_)
  · have c3 : (p2 : Int) < 1 := c3
    refine yG.num (c := 0) rfl (fun _ _ => rfl) (by decide) ?_
    refine yG.ret rfl (fun _ _ => rfl) ?_
    exact (yP.bool (by omega) ⟨⟨0, rfl, by omega, by omega, by omega⟩, rfl⟩)
  · have c3 : (p2 : Int) ≥ 1 := c3
    refine yG.load xik rfl (fun _ _ => rfl) (v := yI (p2)) rfl rfl ?_
    refine yG.getS (c := 4) rfl rfl ?_
    refine yG.load xik rfl (fun _ _ => rfl) (v := yI (1)) rfl rfl ?_
    refine yG.ialdF A_hp.1 (v_S_Net_GREATEST W (s_S_Net_GREATEST W)) rfl rfl (by omega) (by omega) (fun z4 e_z4 i_z4 l_z4 u_z4 => ?_)
    obtain rfl : z4 = 999999 := by omega
    refine yG.icmp rfl (t := 30) rfl ⟨by omega, by omega⟩ ⟨by omega, by omega⟩ (fun c5 => ?_) (fun c5 => ?_)
    · have c5 : (p2 : Int) > 999999 := c5
      refine yG.num (c := 0) rfl (fun _ _ => rfl) (by decide) ?_
      refine yG.ret rfl (fun _ _ => rfl) ?_
      exact (yP.bool (by omega) ⟨⟨0, rfl, by omega, by omega, by omega⟩, rfl⟩)
    · have c5 : (p2 : Int) ≤ 999999 := c5
      refine yG.num (c := 1) rfl (fun _ _ => rfl) (by decide) ?_
      refine yG.goto rfl (t := 31) rfl ?_
      refine yG.ret rfl (fun _ _ => rfl) ?_
      exact (yP.bool (by omega) ⟨⟨1, rfl, by omega, by omega, by omega⟩, rfl⟩)
theorem c_Net_at_2_0 {hp : xH} (W : bW G) (d : Nat) (hT : zTy G hp) {k0 : Nat} (H_k0 : bRo G 18 k0) (p2 : Int) (h2l : 0 ≤ p2) (h2u : p2 ≤ 19) : yC (xcall 89 xfts xpools xms (d + 1)) 151 [yR k0, yI (2), yI (p2), yI (0)] hp (bQpi hp 0 1 (fun _ => True)) := by
  have A_hp : bAx G [] hp hp := bAx.rf hT
  refine yC.of (M := (xt_X5_at, (4, (1, (6, []))))) rfl rfl (N := 45) (yfuel (by decide)) ?_
  show yG 89 xfts (xcall 89 xfts xpools xms d) (xpool xp_RX5) [] xt_X5_at (yP 1 (bQpi hp 0 1 (fun _ => True))) 45 0 [(0, yR k0), (1, yI (2)), (2, yI (p2)), (3, yI (0))] [] hp
  refine yG.load xak rfl (fun _ _ => rfl) (v := yR k0) rfl rfl ?_
  refine yG.getO A_hp.1 (w_Net_value W H_k0) rfl rfl (fun r1 H_r1 O_r1 q_r1 => ?_)
  refine yG.load xik rfl (fun _ _ => rfl) (v := yI (2)) rfl rfl ?_
  refine yG.aaldO (r := 26) A_hp.1 (v_Net_value W H_r1) rfl rfl rfl (by omega) (by omega) (fun r2 H_r2 q_r2 => ?_)
  refine yG.load xik rfl (fun _ _ => rfl) (v := yI (p2)) rfl rfl ?_
  refine yG.getS (c := 2) rfl rfl ?_
  refine yG.load xik rfl (fun _ _ => rfl) (v := yI (2)) rfl rfl ?_
  refine yG.ialdF A_hp.1 (v_S_Net_WIDTH W (s_S_Net_WIDTH W)) rfl rfl (by omega) (by omega) (fun z3 e_z3 i_z3 l_z3 u_z3 => ?_)
  obtain rfl : z3 = 6 := by omega
  refine yG.imul rfl ?_
  refine yG.load xik rfl (fun _ _ => rfl) (v := yI (0)) rfl rfl ?_
  refine yG.iadd rfl ?_
  refine yG.ialdF A_hp.1 (v_Net_value2 W H_r2) ((bTf_m (m := 0) (by omega) (by decide)).trans rfl) rfl (by omega) (by omega) (fun z4 e_z4 i_z4 l_z4 u_z4 => ?_)
  refine yG.ret rfl (fun _ _ => rfl) ?_
  exact (yP.int ⟨by omega, by omega⟩ ⟨⟨z4, rfl, by omega, by omega, trivial⟩, rfl⟩)
theorem c_Net_put_2_0 {hp : xH} (W : bW G) (d : Nat) (hT : zTy G hp) {k0 : Nat} (H_k0 : bRo G 18 k0) (p2 p4 : Int) (h2l : 0 ≤ p2) (h2u : p2 ≤ 19) (h4l : 0 ≤ p4) (h4u : p4 ≤ 1) : yC (xcall 89 xfts xpools xms (d + 1)) 162 [yR k0, yI (2), yI (p2), yI (0), yI (p4)] hp (fun rv hp' => (rv = none ∧ True) ∧ bAx G [(67108864, 256)] hp hp') := by
  have A_hp : bAx G [(67108864, 256)] hp hp := bAx.rf hT
  refine yC.of (M := (xt_X5_put, (5, (0, (6, []))))) rfl rfl (N := 48) (yfuel (by decide)) ?_
  show yG 89 xfts (xcall 89 xfts xpools xms d) (xpool xp_RX5) [] xt_X5_put (yP 0 (fun rv hp' => (rv = none ∧ True) ∧ bAx G [(67108864, 256)] hp hp')) 48 0 [(0, yR k0), (1, yI (2)), (2, yI (p2)), (3, yI (0)), (4, yI (p4))] [] hp
  refine yG.load xak rfl (fun _ _ => rfl) (v := yR k0) rfl rfl ?_
  refine yG.getO A_hp.1 (w_Net_value W H_k0) rfl rfl (fun r1 H_r1 O_r1 q_r1 => ?_)
  refine yG.load xik rfl (fun _ _ => rfl) (v := yI (2)) rfl rfl ?_
  refine yG.aaldO (r := 26) A_hp.1 (v_Net_value W H_r1) rfl rfl rfl (by omega) (by omega) (fun r2 H_r2 q_r2 => ?_)
  refine yG.load xik rfl (fun _ _ => rfl) (v := yI (p2)) rfl rfl ?_
  refine yG.getS (c := 2) rfl rfl ?_
  refine yG.load xik rfl (fun _ _ => rfl) (v := yI (2)) rfl rfl ?_
  refine yG.ialdF A_hp.1 (v_S_Net_WIDTH W (s_S_Net_WIDTH W)) rfl rfl (by omega) (by omega) (fun z3 e_z3 i_z3 l_z3 u_z3 => ?_)
  obtain rfl : z3 = 6 := by omega
  refine yG.imul rfl ?_
  refine yG.load xik rfl (fun _ _ => rfl) (v := yI (0)) rfl rfl ?_
  refine yG.iadd rfl ?_
  refine yG.load xik rfl (fun _ _ => rfl) (v := yI (p4)) rfl rfl ?_
  refine yG.iastF A_hp.1 (v_Net_value2 W H_r2) ((bTf_m (m := 0) (by omega) (by decide)).trans rfl) (W.2.1 _ _ H_r2 (by decide) (by decide)) rfl (by omega) (by omega) ⟨by omega, by omega⟩ (by omega) (by omega) (fun h4 T_h4 b_h4 f_h4 y_h4 => ?_)
  have A_h4 := A_hp.put T_h4 b_h4 f_h4 H_r2 (bAll_ok (by decide) _)
  refine yG.ret rfl (fun _ _ => rfl) ?_
  exact (yP.void ⟨⟨rfl, trivial⟩, A_h4⟩)
theorem c_Net_at_2_1 {hp : xH} (W : bW G) (d : Nat) (hT : zTy G hp) {k0 : Nat} (H_k0 : bRo G 18 k0) (p2 : Int) (h2l : 0 ≤ p2) (h2u : p2 ≤ 19) : yC (xcall 89 xfts xpools xms (d + 1)) 151 [yR k0, yI (2), yI (p2), yI (1)] hp (bQpi hp 0 99 (fun _ => True)) := by
  have A_hp : bAx G [] hp hp := bAx.rf hT
  refine yC.of (M := (xt_X5_at, (4, (1, (6, []))))) rfl rfl (N := 45) (yfuel (by decide)) ?_
  show yG 89 xfts (xcall 89 xfts xpools xms d) (xpool xp_RX5) [] xt_X5_at (yP 1 (bQpi hp 0 99 (fun _ => True))) 45 0 [(0, yR k0), (1, yI (2)), (2, yI (p2)), (3, yI (1))] [] hp
  refine yG.load xak rfl (fun _ _ => rfl) (v := yR k0) rfl rfl ?_
  refine yG.getO A_hp.1 (w_Net_value W H_k0) rfl rfl (fun r1 H_r1 O_r1 q_r1 => ?_)
  refine yG.load xik rfl (fun _ _ => rfl) (v := yI (2)) rfl rfl ?_
  refine yG.aaldO (r := 26) A_hp.1 (v_Net_value W H_r1) rfl rfl rfl (by omega) (by omega) (fun r2 H_r2 q_r2 => ?_)
  refine yG.load xik rfl (fun _ _ => rfl) (v := yI (p2)) rfl rfl ?_
  refine yG.getS (c := 2) rfl rfl ?_
  refine yG.load xik rfl (fun _ _ => rfl) (v := yI (2)) rfl rfl ?_
  refine yG.ialdF A_hp.1 (v_S_Net_WIDTH W (s_S_Net_WIDTH W)) rfl rfl (by omega) (by omega) (fun z3 e_z3 i_z3 l_z3 u_z3 => ?_)
  obtain rfl : z3 = 6 := by omega
  refine yG.imul rfl ?_
  refine yG.load xik rfl (fun _ _ => rfl) (v := yI (1)) rfl rfl ?_
  refine yG.iadd rfl ?_
  refine yG.ialdF A_hp.1 (v_Net_value2 W H_r2) ((bTf_m (m := 1) (by omega) (by decide)).trans rfl) rfl (by omega) (by omega) (fun z4 e_z4 i_z4 l_z4 u_z4 => ?_)
  refine yG.ret rfl (fun _ _ => rfl) ?_
  exact (yP.int ⟨by omega, by omega⟩ ⟨⟨z4, rfl, by omega, by omega, trivial⟩, rfl⟩)
theorem c_Net_put_2_1 {hp : xH} (W : bW G) (d : Nat) (hT : zTy G hp) {k0 : Nat} (H_k0 : bRo G 18 k0) (p2 p4 : Int) (h2l : 0 ≤ p2) (h2u : p2 ≤ 19) (h4l : 0 ≤ p4) (h4u : p4 ≤ 99) : yC (xcall 89 xfts xpools xms (d + 1)) 162 [yR k0, yI (2), yI (p2), yI (1), yI (p4)] hp (fun rv hp' => (rv = none ∧ True) ∧ bAx G [(67108864, 256)] hp hp') := by
  have A_hp : bAx G [(67108864, 256)] hp hp := bAx.rf hT
  refine yC.of (M := (xt_X5_put, (5, (0, (6, []))))) rfl rfl (N := 48) (yfuel (by decide)) ?_
  show yG 89 xfts (xcall 89 xfts xpools xms d) (xpool xp_RX5) [] xt_X5_put (yP 0 (fun rv hp' => (rv = none ∧ True) ∧ bAx G [(67108864, 256)] hp hp')) 48 0 [(0, yR k0), (1, yI (2)), (2, yI (p2)), (3, yI (1)), (4, yI (p4))] [] hp
  refine yG.load xak rfl (fun _ _ => rfl) (v := yR k0) rfl rfl ?_
  refine yG.getO A_hp.1 (w_Net_value W H_k0) rfl rfl (fun r1 H_r1 O_r1 q_r1 => ?_)
  refine yG.load xik rfl (fun _ _ => rfl) (v := yI (2)) rfl rfl ?_
  refine yG.aaldO (r := 26) A_hp.1 (v_Net_value W H_r1) rfl rfl rfl (by omega) (by omega) (fun r2 H_r2 q_r2 => ?_)
  refine yG.load xik rfl (fun _ _ => rfl) (v := yI (p2)) rfl rfl ?_
  refine yG.getS (c := 2) rfl rfl ?_
  refine yG.load xik rfl (fun _ _ => rfl) (v := yI (2)) rfl rfl ?_
  refine yG.ialdF A_hp.1 (v_S_Net_WIDTH W (s_S_Net_WIDTH W)) rfl rfl (by omega) (by omega) (fun z3 e_z3 i_z3 l_z3 u_z3 => ?_)
  obtain rfl : z3 = 6 := by omega
  refine yG.imul rfl ?_
  refine yG.load xik rfl (fun _ _ => rfl) (v := yI (1)) rfl rfl ?_
  refine yG.iadd rfl ?_
  refine yG.load xik rfl (fun _ _ => rfl) (v := yI (p4)) rfl rfl ?_
  refine yG.iastF A_hp.1 (v_Net_value2 W H_r2) ((bTf_m (m := 1) (by omega) (by decide)).trans rfl) (W.2.1 _ _ H_r2 (by decide) (by decide)) rfl (by omega) (by omega) ⟨by omega, by omega⟩ (by omega) (by omega) (fun h4 T_h4 b_h4 f_h4 y_h4 => ?_)
  have A_h4 := A_hp.put T_h4 b_h4 f_h4 H_r2 (bAll_ok (by decide) _)
  refine yG.ret rfl (fun _ _ => rfl) ?_
  exact (yP.void ⟨⟨rfl, trivial⟩, A_h4⟩)
theorem c_Net_at_2_2 {hp : xH} (W : bW G) (d : Nat) (hT : zTy G hp) {k0 : Nat} (H_k0 : bRo G 18 k0) (p2 : Int) (h2l : 0 ≤ p2) (h2u : p2 ≤ 19) : yC (xcall 89 xfts xpools xms (d + 1)) 151 [yR k0, yI (2), yI (p2), yI (2)] hp (bQpi hp 0 299 (fun _ => True)) := by
  have A_hp : bAx G [] hp hp := bAx.rf hT
  refine yC.of (M := (xt_X5_at, (4, (1, (6, []))))) rfl rfl (N := 45) (yfuel (by decide)) ?_
  show yG 89 xfts (xcall 89 xfts xpools xms d) (xpool xp_RX5) [] xt_X5_at (yP 1 (bQpi hp 0 299 (fun _ => True))) 45 0 [(0, yR k0), (1, yI (2)), (2, yI (p2)), (3, yI (2))] [] hp
  refine yG.load xak rfl (fun _ _ => rfl) (v := yR k0) rfl rfl ?_
  refine yG.getO A_hp.1 (w_Net_value W H_k0) rfl rfl (fun r1 H_r1 O_r1 q_r1 => ?_)
  refine yG.load xik rfl (fun _ _ => rfl) (v := yI (2)) rfl rfl ?_
  refine yG.aaldO (r := 26) A_hp.1 (v_Net_value W H_r1) rfl rfl rfl (by omega) (by omega) (fun r2 H_r2 q_r2 => ?_)
  refine yG.load xik rfl (fun _ _ => rfl) (v := yI (p2)) rfl rfl ?_
  refine yG.getS (c := 2) rfl rfl ?_
  refine yG.load xik rfl (fun _ _ => rfl) (v := yI (2)) rfl rfl ?_
  refine yG.ialdF A_hp.1 (v_S_Net_WIDTH W (s_S_Net_WIDTH W)) rfl rfl (by omega) (by omega) (fun z3 e_z3 i_z3 l_z3 u_z3 => ?_)
  obtain rfl : z3 = 6 := by omega
  refine yG.imul rfl ?_
  refine yG.load xik rfl (fun _ _ => rfl) (v := yI (2)) rfl rfl ?_
  refine yG.iadd rfl ?_
  refine yG.ialdF A_hp.1 (v_Net_value2 W H_r2) ((bTf_m (m := 2) (by omega) (by decide)).trans rfl) rfl (by omega) (by omega) (fun z4 e_z4 i_z4 l_z4 u_z4 => ?_)
  refine yG.ret rfl (fun _ _ => rfl) ?_
  exact (yP.int ⟨by omega, by omega⟩ ⟨⟨z4, rfl, by omega, by omega, trivial⟩, rfl⟩)
theorem c_Net_put_2_2 {hp : xH} (W : bW G) (d : Nat) (hT : zTy G hp) {k0 : Nat} (H_k0 : bRo G 18 k0) (p2 p4 : Int) (h2l : 0 ≤ p2) (h2u : p2 ≤ 19) (h4l : 0 ≤ p4) (h4u : p4 ≤ 299) : yC (xcall 89 xfts xpools xms (d + 1)) 162 [yR k0, yI (2), yI (p2), yI (2), yI (p4)] hp (fun rv hp' => (rv = none ∧ True) ∧ bAx G [(67108864, 256)] hp hp') := by
  have A_hp : bAx G [(67108864, 256)] hp hp := bAx.rf hT
  refine yC.of (M := (xt_X5_put, (5, (0, (6, []))))) rfl rfl (N := 48) (yfuel (by decide)) ?_
  show yG 89 xfts (xcall 89 xfts xpools xms d) (xpool xp_RX5) [] xt_X5_put (yP 0 (fun rv hp' => (rv = none ∧ True) ∧ bAx G [(67108864, 256)] hp hp')) 48 0 [(0, yR k0), (1, yI (2)), (2, yI (p2)), (3, yI (2)), (4, yI (p4))] [] hp
  refine yG.load xak rfl (fun _ _ => rfl) (v := yR k0) rfl rfl ?_
  refine yG.getO A_hp.1 (w_Net_value W H_k0) rfl rfl (fun r1 H_r1 O_r1 q_r1 => ?_)
  refine yG.load xik rfl (fun _ _ => rfl) (v := yI (2)) rfl rfl ?_
  refine yG.aaldO (r := 26) A_hp.1 (v_Net_value W H_r1) rfl rfl rfl (by omega) (by omega) (fun r2 H_r2 q_r2 => ?_)
  refine yG.load xik rfl (fun _ _ => rfl) (v := yI (p2)) rfl rfl ?_
  refine yG.getS (c := 2) rfl rfl ?_
  refine yG.load xik rfl (fun _ _ => rfl) (v := yI (2)) rfl rfl ?_
  refine yG.ialdF A_hp.1 (v_S_Net_WIDTH W (s_S_Net_WIDTH W)) rfl rfl (by omega) (by omega) (fun z3 e_z3 i_z3 l_z3 u_z3 => ?_)
  obtain rfl : z3 = 6 := by omega
  refine yG.imul rfl ?_
  refine yG.load xik rfl (fun _ _ => rfl) (v := yI (2)) rfl rfl ?_
  refine yG.iadd rfl ?_
  refine yG.load xik rfl (fun _ _ => rfl) (v := yI (p4)) rfl rfl ?_
  refine yG.iastF A_hp.1 (v_Net_value2 W H_r2) ((bTf_m (m := 2) (by omega) (by decide)).trans rfl) (W.2.1 _ _ H_r2 (by decide) (by decide)) rfl (by omega) (by omega) ⟨by omega, by omega⟩ (by omega) (by omega) (fun h4 T_h4 b_h4 f_h4 y_h4 => ?_)
  have A_h4 := A_hp.put T_h4 b_h4 f_h4 H_r2 (bAll_ok (by decide) _)
  refine yG.ret rfl (fun _ _ => rfl) ?_
  exact (yP.void ⟨⟨rfl, trivial⟩, A_h4⟩)
theorem c_Net_at_2_3 {hp : xH} (W : bW G) (d : Nat) (hT : zTy G hp) {k0 : Nat} (H_k0 : bRo G 18 k0) (p2 : Int) (h2l : 0 ≤ p2) (h2u : p2 ≤ 19) : yC (xcall 89 xfts xpools xms (d + 1)) 151 [yR k0, yI (2), yI (p2), yI (3)] hp (bQpi hp 0 9999 (fun _ => True)) := by
  have A_hp : bAx G [] hp hp := bAx.rf hT
  refine yC.of (M := (xt_X5_at, (4, (1, (6, []))))) rfl rfl (N := 45) (yfuel (by decide)) ?_
  show yG 89 xfts (xcall 89 xfts xpools xms d) (xpool xp_RX5) [] xt_X5_at (yP 1 (bQpi hp 0 9999 (fun _ => True))) 45 0 [(0, yR k0), (1, yI (2)), (2, yI (p2)), (3, yI (3))] [] hp
  refine yG.load xak rfl (fun _ _ => rfl) (v := yR k0) rfl rfl ?_
  refine yG.getO A_hp.1 (w_Net_value W H_k0) rfl rfl (fun r1 H_r1 O_r1 q_r1 => ?_)
  refine yG.load xik rfl (fun _ _ => rfl) (v := yI (2)) rfl rfl ?_
  refine yG.aaldO (r := 26) A_hp.1 (v_Net_value W H_r1) rfl rfl rfl (by omega) (by omega) (fun r2 H_r2 q_r2 => ?_)
  refine yG.load xik rfl (fun _ _ => rfl) (v := yI (p2)) rfl rfl ?_
  refine yG.getS (c := 2) rfl rfl ?_
  refine yG.load xik rfl (fun _ _ => rfl) (v := yI (2)) rfl rfl ?_
  refine yG.ialdF A_hp.1 (v_S_Net_WIDTH W (s_S_Net_WIDTH W)) rfl rfl (by omega) (by omega) (fun z3 e_z3 i_z3 l_z3 u_z3 => ?_)
  obtain rfl : z3 = 6 := by omega
  refine yG.imul rfl ?_
  refine yG.load xik rfl (fun _ _ => rfl) (v := yI (3)) rfl rfl ?_
  refine yG.iadd rfl ?_
  refine yG.ialdF A_hp.1 (v_Net_value2 W H_r2) ((bTf_m (m := 3) (by omega) (by decide)).trans rfl) rfl (by omega) (by omega) (fun z4 e_z4 i_z4 l_z4 u_z4 => ?_)
  refine yG.ret rfl (fun _ _ => rfl) ?_
  exact (yP.int ⟨by omega, by omega⟩ ⟨⟨z4, rfl, by omega, by omega, trivial⟩, rfl⟩)
theorem c_Net_put_2_3 {hp : xH} (W : bW G) (d : Nat) (hT : zTy G hp) {k0 : Nat} (H_k0 : bRo G 18 k0) (p2 p4 : Int) (h2l : 0 ≤ p2) (h2u : p2 ≤ 19) (h4l : 0 ≤ p4) (h4u : p4 ≤ 9999) : yC (xcall 89 xfts xpools xms (d + 1)) 162 [yR k0, yI (2), yI (p2), yI (3), yI (p4)] hp (fun rv hp' => (rv = none ∧ True) ∧ bAx G [(67108864, 256)] hp hp') := by
  have A_hp : bAx G [(67108864, 256)] hp hp := bAx.rf hT
  refine yC.of (M := (xt_X5_put, (5, (0, (6, []))))) rfl rfl (N := 48) (yfuel (by decide)) ?_
  show yG 89 xfts (xcall 89 xfts xpools xms d) (xpool xp_RX5) [] xt_X5_put (yP 0 (fun rv hp' => (rv = none ∧ True) ∧ bAx G [(67108864, 256)] hp hp')) 48 0 [(0, yR k0), (1, yI (2)), (2, yI (p2)), (3, yI (3)), (4, yI (p4))] [] hp
  refine yG.load xak rfl (fun _ _ => rfl) (v := yR k0) rfl rfl ?_
  refine yG.getO A_hp.1 (w_Net_value W H_k0) rfl rfl (fun r1 H_r1 O_r1 q_r1 => ?_)
  refine yG.load xik rfl (fun _ _ => rfl) (v := yI (2)) rfl rfl ?_
  refine yG.aaldO (r := 26) A_hp.1 (v_Net_value W H_r1) rfl rfl rfl (by omega) (by omega) (fun r2 H_r2 q_r2 => ?_)
  refine yG.load xik rfl (fun _ _ => rfl) (v := yI (p2)) rfl rfl ?_
  refine yG.getS (c := 2) rfl rfl ?_
  refine yG.load xik rfl (fun _ _ => rfl) (v := yI (2)) rfl rfl ?_
  refine yG.ialdF A_hp.1 (v_S_Net_WIDTH W (s_S_Net_WIDTH W)) rfl rfl (by omega) (by omega) (fun z3 e_z3 i_z3 l_z3 u_z3 => ?_)
  obtain rfl : z3 = 6 := by omega
  refine yG.imul rfl ?_
  refine yG.load xik rfl (fun _ _ => rfl) (v := yI (3)) rfl rfl ?_
  refine yG.iadd rfl ?_
  refine yG.load xik rfl (fun _ _ => rfl) (v := yI (p4)) rfl rfl ?_
  refine yG.iastF A_hp.1 (v_Net_value2 W H_r2) ((bTf_m (m := 3) (by omega) (by decide)).trans rfl) (W.2.1 _ _ H_r2 (by decide) (by decide)) rfl (by omega) (by omega) ⟨by omega, by omega⟩ (by omega) (by omega) (fun h4 T_h4 b_h4 f_h4 y_h4 => ?_)
  have A_h4 := A_hp.put T_h4 b_h4 f_h4 H_r2 (bAll_ok (by decide) _)
  refine yG.ret rfl (fun _ _ => rfl) ?_
  exact (yP.void ⟨⟨rfl, trivial⟩, A_h4⟩)
theorem c_Net_at_2_4 {hp : xH} (W : bW G) (d : Nat) (hT : zTy G hp) {k0 : Nat} (H_k0 : bRo G 18 k0) (p2 : Int) (h2l : 0 ≤ p2) (h2u : p2 ≤ 19) : yC (xcall 89 xfts xpools xms (d + 1)) 151 [yR k0, yI (2), yI (p2), yI (4)] hp (bQpi hp 0 15 (fun _ => True)) := by
  have A_hp : bAx G [] hp hp := bAx.rf hT
  refine yC.of (M := (xt_X5_at, (4, (1, (6, []))))) rfl rfl (N := 45) (yfuel (by decide)) ?_
  show yG 89 xfts (xcall 89 xfts xpools xms d) (xpool xp_RX5) [] xt_X5_at (yP 1 (bQpi hp 0 15 (fun _ => True))) 45 0 [(0, yR k0), (1, yI (2)), (2, yI (p2)), (3, yI (4))] [] hp
  refine yG.load xak rfl (fun _ _ => rfl) (v := yR k0) rfl rfl ?_
  refine yG.getO A_hp.1 (w_Net_value W H_k0) rfl rfl (fun r1 H_r1 O_r1 q_r1 => ?_)
  refine yG.load xik rfl (fun _ _ => rfl) (v := yI (2)) rfl rfl ?_
  refine yG.aaldO (r := 26) A_hp.1 (v_Net_value W H_r1) rfl rfl rfl (by omega) (by omega) (fun r2 H_r2 q_r2 => ?_)
  refine yG.load xik rfl (fun _ _ => rfl) (v := yI (p2)) rfl rfl ?_
  refine yG.getS (c := 2) rfl rfl ?_
  refine yG.load xik rfl (fun _ _ => rfl) (v := yI (2)) rfl rfl ?_
  refine yG.ialdF A_hp.1 (v_S_Net_WIDTH W (s_S_Net_WIDTH W)) rfl rfl (by omega) (by omega) (fun z3 e_z3 i_z3 l_z3 u_z3 => ?_)
  obtain rfl : z3 = 6 := by omega
  refine yG.imul rfl ?_
  refine yG.load xik rfl (fun _ _ => rfl) (v := yI (4)) rfl rfl ?_
  refine yG.iadd rfl ?_
  refine yG.ialdF A_hp.1 (v_Net_value2 W H_r2) ((bTf_m (m := 4) (by omega) (by decide)).trans rfl) rfl (by omega) (by omega) (fun z4 e_z4 i_z4 l_z4 u_z4 => ?_)
  refine yG.ret rfl (fun _ _ => rfl) ?_
  exact (yP.int ⟨by omega, by omega⟩ ⟨⟨z4, rfl, by omega, by omega, trivial⟩, rfl⟩)
theorem c_Net_put_2_4 {hp : xH} (W : bW G) (d : Nat) (hT : zTy G hp) {k0 : Nat} (H_k0 : bRo G 18 k0) (p2 p4 : Int) (h2l : 0 ≤ p2) (h2u : p2 ≤ 19) (h4l : 0 ≤ p4) (h4u : p4 ≤ 15) : yC (xcall 89 xfts xpools xms (d + 1)) 162 [yR k0, yI (2), yI (p2), yI (4), yI (p4)] hp (fun rv hp' => (rv = none ∧ True) ∧ bAx G [(67108864, 256)] hp hp') := by
  have A_hp : bAx G [(67108864, 256)] hp hp := bAx.rf hT
  refine yC.of (M := (xt_X5_put, (5, (0, (6, []))))) rfl rfl (N := 48) (yfuel (by decide)) ?_
  show yG 89 xfts (xcall 89 xfts xpools xms d) (xpool xp_RX5) [] xt_X5_put (yP 0 (fun rv hp' => (rv = none ∧ True) ∧ bAx G [(67108864, 256)] hp hp')) 48 0 [(0, yR k0), (1, yI (2)), (2, yI (p2)), (3, yI (4)), (4, yI (p4))] [] hp
  refine yG.load xak rfl (fun _ _ => rfl) (v := yR k0) rfl rfl ?_
  refine yG.getO A_hp.1 (w_Net_value W H_k0) rfl rfl (fun r1 H_r1 O_r1 q_r1 => ?_)
  refine yG.load xik rfl (fun _ _ => rfl) (v := yI (2)) rfl rfl ?_
  refine yG.aaldO (r := 26) A_hp.1 (v_Net_value W H_r1) rfl rfl rfl (by omega) (by omega) (fun r2 H_r2 q_r2 => ?_)
  refine yG.load xik rfl (fun _ _ => rfl) (v := yI (p2)) rfl rfl ?_
  refine yG.getS (c := 2) rfl rfl ?_
  refine yG.load xik rfl (fun _ _ => rfl) (v := yI (2)) rfl rfl ?_
  refine yG.ialdF A_hp.1 (v_S_Net_WIDTH W (s_S_Net_WIDTH W)) rfl rfl (by omega) (by omega) (fun z3 e_z3 i_z3 l_z3 u_z3 => ?_)
  obtain rfl : z3 = 6 := by omega
  refine yG.imul rfl ?_
  refine yG.load xik rfl (fun _ _ => rfl) (v := yI (4)) rfl rfl ?_
  refine yG.iadd rfl ?_
  refine yG.load xik rfl (fun _ _ => rfl) (v := yI (p4)) rfl rfl ?_
  refine yG.iastF A_hp.1 (v_Net_value2 W H_r2) ((bTf_m (m := 4) (by omega) (by decide)).trans rfl) (W.2.1 _ _ H_r2 (by decide) (by decide)) rfl (by omega) (by omega) ⟨by omega, by omega⟩ (by omega) (by omega) (fun h4 T_h4 b_h4 f_h4 y_h4 => ?_)
  have A_h4 := A_hp.put T_h4 b_h4 f_h4 H_r2 (bAll_ok (by decide) _)
  refine yG.ret rfl (fun _ _ => rfl) ?_
  exact (yP.void ⟨⟨rfl, trivial⟩, A_h4⟩)
theorem c_Net_at_2_5 {hp : xH} (W : bW G) (d : Nat) (hT : zTy G hp) {k0 : Nat} (H_k0 : bRo G 18 k0) (p2 : Int) (h2l : 0 ≤ p2) (h2u : p2 ≤ 19) : yC (xcall 89 xfts xpools xms (d + 1)) 151 [yR k0, yI (2), yI (p2), yI (5)] hp (bQpi hp 0 15 (fun _ => True)) := by
  have A_hp : bAx G [] hp hp := bAx.rf hT
  refine yC.of (M := (xt_X5_at, (4, (1, (6, []))))) rfl rfl (N := 45) (yfuel (by decide)) ?_
  show yG 89 xfts (xcall 89 xfts xpools xms d) (xpool xp_RX5) [] xt_X5_at (yP 1 (bQpi hp 0 15 (fun _ => True))) 45 0 [(0, yR k0), (1, yI (2)), (2, yI (p2)), (3, yI (5))] [] hp
  refine yG.load xak rfl (fun _ _ => rfl) (v := yR k0) rfl rfl ?_
  refine yG.getO A_hp.1 (w_Net_value W H_k0) rfl rfl (fun r1 H_r1 O_r1 q_r1 => ?_)
  refine yG.load xik rfl (fun _ _ => rfl) (v := yI (2)) rfl rfl ?_
  refine yG.aaldO (r := 26) A_hp.1 (v_Net_value W H_r1) rfl rfl rfl (by omega) (by omega) (fun r2 H_r2 q_r2 => ?_)
  refine yG.load xik rfl (fun _ _ => rfl) (v := yI (p2)) rfl rfl ?_
  refine yG.getS (c := 2) rfl rfl ?_
  refine yG.load xik rfl (fun _ _ => rfl) (v := yI (2)) rfl rfl ?_
  refine yG.ialdF A_hp.1 (v_S_Net_WIDTH W (s_S_Net_WIDTH W)) rfl rfl (by omega) (by omega) (fun z3 e_z3 i_z3 l_z3 u_z3 => ?_)
  obtain rfl : z3 = 6 := by omega
  refine yG.imul rfl ?_
  refine yG.load xik rfl (fun _ _ => rfl) (v := yI (5)) rfl rfl ?_
  refine yG.iadd rfl ?_
  refine yG.ialdF A_hp.1 (v_Net_value2 W H_r2) ((bTf_m (m := 5) (by omega) (by decide)).trans rfl) rfl (by omega) (by omega) (fun z4 e_z4 i_z4 l_z4 u_z4 => ?_)
  refine yG.ret rfl (fun _ _ => rfl) ?_
  exact (yP.int ⟨by omega, by omega⟩ ⟨⟨z4, rfl, by omega, by omega, trivial⟩, rfl⟩)
theorem c_Net_put_2_5 {hp : xH} (W : bW G) (d : Nat) (hT : zTy G hp) {k0 : Nat} (H_k0 : bRo G 18 k0) (p2 p4 : Int) (h2l : 0 ≤ p2) (h2u : p2 ≤ 19) (h4l : 0 ≤ p4) (h4u : p4 ≤ 15) : yC (xcall 89 xfts xpools xms (d + 1)) 162 [yR k0, yI (2), yI (p2), yI (5), yI (p4)] hp (fun rv hp' => (rv = none ∧ True) ∧ bAx G [(67108864, 256)] hp hp') := by
  have A_hp : bAx G [(67108864, 256)] hp hp := bAx.rf hT
  refine yC.of (M := (xt_X5_put, (5, (0, (6, []))))) rfl rfl (N := 48) (yfuel (by decide)) ?_
  show yG 89 xfts (xcall 89 xfts xpools xms d) (xpool xp_RX5) [] xt_X5_put (yP 0 (fun rv hp' => (rv = none ∧ True) ∧ bAx G [(67108864, 256)] hp hp')) 48 0 [(0, yR k0), (1, yI (2)), (2, yI (p2)), (3, yI (5)), (4, yI (p4))] [] hp
  refine yG.load xak rfl (fun _ _ => rfl) (v := yR k0) rfl rfl ?_
  refine yG.getO A_hp.1 (w_Net_value W H_k0) rfl rfl (fun r1 H_r1 O_r1 q_r1 => ?_)
  refine yG.load xik rfl (fun _ _ => rfl) (v := yI (2)) rfl rfl ?_
  refine yG.aaldO (r := 26) A_hp.1 (v_Net_value W H_r1) rfl rfl rfl (by omega) (by omega) (fun r2 H_r2 q_r2 => ?_)
  refine yG.load xik rfl (fun _ _ => rfl) (v := yI (p2)) rfl rfl ?_
  refine yG.getS (c := 2) rfl rfl ?_
  refine yG.load xik rfl (fun _ _ => rfl) (v := yI (2)) rfl rfl ?_
  refine yG.ialdF A_hp.1 (v_S_Net_WIDTH W (s_S_Net_WIDTH W)) rfl rfl (by omega) (by omega) (fun z3 e_z3 i_z3 l_z3 u_z3 => ?_)
  obtain rfl : z3 = 6 := by omega
  refine yG.imul rfl ?_
  refine yG.load xik rfl (fun _ _ => rfl) (v := yI (5)) rfl rfl ?_
  refine yG.iadd rfl ?_
  refine yG.load xik rfl (fun _ _ => rfl) (v := yI (p4)) rfl rfl ?_
  refine yG.iastF A_hp.1 (v_Net_value2 W H_r2) ((bTf_m (m := 5) (by omega) (by decide)).trans rfl) (W.2.1 _ _ H_r2 (by decide) (by decide)) rfl (by omega) (by omega) ⟨by omega, by omega⟩ (by omega) (by omega) (fun h4 T_h4 b_h4 f_h4 y_h4 => ?_)
  have A_h4 := A_hp.put T_h4 b_h4 f_h4 H_r2 (bAll_ok (by decide) _)
  refine yG.ret rfl (fun _ _ => rfl) ?_
  exact (yP.void ⟨⟨rfl, trivial⟩, A_h4⟩)
theorem c_Net_at_2z {hp : xH} (W : bW G) (d : Nat) (hT : zTy G hp) {k0 : Nat} (H_k0 : bRo G 18 k0) (p2 p3 : Int) (h2l : 0 ≤ p2) (h2u : p2 ≤ 19) (h3l : 0 ≤ p3) (h3u : p3 ≤ 5) : yC (xcall 89 xfts xpools xms (d + 1)) 151 [yR k0, yI (2), yI (p2), yI (p3)] hp (bQpi hp 0 9999 (fun _ => True)) := by
  have A_hp : bAx G [] hp hp := bAx.rf hT
  refine yC.of (M := (xt_X5_at, (4, (1, (6, []))))) rfl rfl (N := 45) (yfuel (by decide)) ?_
  show yG 89 xfts (xcall 89 xfts xpools xms d) (xpool xp_RX5) [] xt_X5_at (yP 1 (bQpi hp 0 9999 (fun _ => True))) 45 0 [(0, yR k0), (1, yI (2)), (2, yI (p2)), (3, yI (p3))] [] hp
  refine yG.load xak rfl (fun _ _ => rfl) (v := yR k0) rfl rfl ?_
  refine yG.getO A_hp.1 (w_Net_value W H_k0) rfl rfl (fun r1 H_r1 O_r1 q_r1 => ?_)
  refine yG.load xik rfl (fun _ _ => rfl) (v := yI (2)) rfl rfl ?_
  refine yG.aaldO (r := 26) A_hp.1 (v_Net_value W H_r1) rfl rfl rfl (by omega) (by omega) (fun r2 H_r2 q_r2 => ?_)
  refine yG.load xik rfl (fun _ _ => rfl) (v := yI (p2)) rfl rfl ?_
  refine yG.getS (c := 2) rfl rfl ?_
  refine yG.load xik rfl (fun _ _ => rfl) (v := yI (2)) rfl rfl ?_
  refine yG.ialdF A_hp.1 (v_S_Net_WIDTH W (s_S_Net_WIDTH W)) rfl rfl (by omega) (by omega) (fun z3 e_z3 i_z3 l_z3 u_z3 => ?_)
  obtain rfl : z3 = 6 := by omega
  refine yG.imul rfl ?_
  refine yG.load xik rfl (fun _ _ => rfl) (v := yI (p3)) rfl rfl ?_
  refine yG.iadd rfl ?_
  refine yG.ialdT A_hp.1 (v_Net_value2 W H_r2) (yhull2 (tf := bTf 6 t_Net_value2) (bTf_h (A := 0) (B := 9999) (by decide) (by decide) (by decide) _)) rfl (by omega) (by omega) (fun z4 lo_z4 hi_z4 e_z4 i_z4 T_z4 l_z4 u_z4 => ?_)
  obtain ⟨L_z4, U_z4⟩ := yhull (tf := bTf 6 t_Net_value2) (bTf_h (A := 0) (B := 9999) (by decide) (by decide) (by decide) _) T_z4
  refine yG.ret rfl (fun _ _ => rfl) ?_
  exact (yP.int ⟨by omega, by omega⟩ ⟨⟨z4, rfl, by omega, by omega, trivial⟩, rfl⟩)
theorem c_Net_is_2 {hp : xH} (W : bW G) (d : Nat) (hT : zTy G hp) {k0 : Nat} (H_k0 : bRo G 18 k0) (p2 p3 : Int) (h2l : 0 ≤ p2) (h2u : p2 ≤ 19) (h3l : 0 ≤ p3) (h3u : p3 ≤ 5) : yC (xcall 89 xfts xpools xms (d + 1)) 158 [yR k0, yI (2), yI (p2), yI (p3)] hp (bQpi hp 0 1 (fun _ => True)) := by
  have A_hp : bAx G [] hp hp := bAx.rf hT
  refine yC.of (M := (xt_X5_is, (4, (4, (6, []))))) rfl rfl (N := 57) (yfuel (by decide)) ?_
  show yG 89 xfts (xcall 89 xfts xpools xms d) (xpool xp_RX5) [] xt_X5_is (yP 4 (bQpi hp 0 1 (fun _ => True))) 57 0 [(0, yR k0), (1, yI (2)), (2, yI (p2)), (3, yI (p3))] [] hp
  refine yG.load xak rfl (fun _ _ => rfl) (v := yR k0) rfl rfl ?_
  refine yG.getO A_hp.1 (w_Net_value W H_k0) rfl rfl (fun r1 H_r1 O_r1 q_r1 => ?_)
  refine yG.load xik rfl (fun _ _ => rfl) (v := yI (2)) rfl rfl ?_
  refine yG.aaldO (r := 26) A_hp.1 (v_Net_value W H_r1) rfl rfl rfl (by omega) (by omega) (fun r2 H_r2 q_r2 => ?_)
  refine yG.load xik rfl (fun _ _ => rfl) (v := yI (p2)) rfl rfl ?_
  refine yG.getS (c := 2) rfl rfl ?_
  refine yG.load xik rfl (fun _ _ => rfl) (v := yI (2)) rfl rfl ?_
  refine yG.ialdF A_hp.1 (v_S_Net_WIDTH W (s_S_Net_WIDTH W)) rfl rfl (by omega) (by omega) (fun z3 e_z3 i_z3 l_z3 u_z3 => ?_)
  obtain rfl : z3 = 6 := by omega
  refine yG.imul rfl ?_
  refine yG.load xik rfl (fun _ _ => rfl) (v := yI (p3)) rfl rfl ?_
  refine yG.iadd rfl ?_
  refine yG.ialdT A_hp.1 (v_Net_value2 W H_r2) (yhull2 (tf := bTf 6 t_Net_value2) (bTf_h (A := 0) (B := 9999) (by decide) (by decide) (by decide) _)) rfl (by omega) (by omega) (fun z4 lo_z4 hi_z4 e_z4 i_z4 T_z4 l_z4 u_z4 => ?_)
  obtain ⟨L_z4, U_z4⟩ := yhull (tf := bTf 6 t_Net_value2) (bTf_h (A := 0) (B := 9999) (by decide) (by decide) (by decide) _) T_z4
  refine yG.num (c := 1) rfl (fun _ _ => rfl) (by decide) ?_
  refine yG.icmp rfl (t := 24) rfl ⟨by omega, by omega⟩ ⟨by omega, by omega⟩ (fun c5 => ?_) (fun c5 => ?_)
  · have c5 : (z4 : Int) ≠ 1 := c5
    refine yG.num (c := 0) rfl (fun _ _ => rfl) (by decide) ?_
    refine yG.ret rfl (fun _ _ => rfl) ?_
    exact (yP.bool (by omega) ⟨⟨0, rfl, by omega, by omega, trivial⟩, rfl⟩)
  · have c5 : (z4 : Int) = 1 := c5
    refine yG.num (c := 1) rfl (fun _ _ => rfl) (by decide) ?_
    refine yG.goto rfl (t := 25) rfl ?_
    refine yG.ret rfl (fun _ _ => rfl) ?_
    exact (yP.bool (by omega) ⟨⟨1, rfl, by omega, by omega, trivial⟩, rfl⟩)
theorem c_Net_isWithin_2_0 {hp : xH} (W : bW G) (d : Nat) (hT : zTy G hp) (p2 : Int) (h2l : (-2147483648) ≤ p2) (h2u : p2 ≤ 2147483647) : yC (xcall 89 xfts xpools xms (d + 1)) 159 [yI (2), yI (0), yI (p2)] hp (bQpi hp 0 1 (fun z => (z = 1 → 0 ≤ p2 ∧ 0 ≤ 0 - p2 + 1))) := by
  have A_hp : bAx G [] hp hp := bAx.rf hT
  refine yC.of (M := (xt_X5_isWithin, (4, (4, (6, []))))) rfl rfl (N := 63) (yfuel (by decide)) ?_
  show yG 89 xfts (xcall 89 xfts xpools xms d) (xpool xp_RX5) [] xt_X5_isWithin (yP 4 (bQpi hp 0 1 (fun z => (z = 1 → 0 ≤ p2 ∧ 0 ≤ 0 - p2 + 1)))) 63 0 [(0, yI (2)), (1, yI (0)), (2, yI (p2))] [] hp
  refine yG.getS (c := 5) rfl rfl ?_
  refine yG.load xik rfl (fun _ _ => rfl) (v := yI (2)) rfl rfl ?_
  refine yG.ialdF A_hp.1 (v_S_Net_BOUNDS W (s_S_Net_BOUNDS W)) rfl rfl (by omega) (by omega) (fun z1 e_z1 i_z1 l_z1 u_z1 => ?_)
  obtain rfl : z1 = 2 := by omega
  refine yG.load xik rfl (fun _ _ => rfl) (v := yI (0)) rfl rfl ?_
  refine yG.iadd rfl ?_
  rw [show (2 + 0 : Int) = 2 by omega]
  refine yG.store1 xik (L' := [(3, yI (2)), (0, yI (2)), (1, yI (0)), (2, yI (p2))]) rfl (fun _ _ => rfl) rfl rfl ?_
  refine yG.load xik rfl (fun _ _ => rfl) (v := yI (p2)) rfl rfl ?_
  refine yG.getS (c := 10) rfl rfl ?_
  refine yG.load xik rfl (fun _ _ => rfl) (v := yI (2)) rfl rfl ?_
  refine yG.ialdF A_hp.1 (v_S_Net_LEAST W (s_S_Net_LEAST W)) rfl rfl (by omega) (by omega) (fun z2 e_z2 i_z2 l_z2 u_z2 => ?_)
  obtain rfl : z2 = 0 := by omega
  refine yG.icmp rfl (t := 30) rfl ⟨by omega, by omega⟩ ⟨by omega, by omega⟩ (fun c3 => ?_) (fun c3 => ?_)
  · have c3 : (p2 : Int) < 0 := c3
    refine yG.num (c := 0) rfl (fun _ _ => rfl) (by decide) ?_
    refine yG.ret rfl (fun _ _ => rfl) ?_
    exact (yP.bool (by omega) ⟨⟨0, rfl, by omega, by omega, by omega⟩, rfl⟩)
  · have c3 : (p2 : Int) ≥ 0 := c3
    refine yG.load xik rfl (fun _ _ => rfl) (v := yI (p2)) rfl rfl ?_
    refine yG.getS (c := 4) rfl rfl ?_
    refine yG.load xik rfl (fun _ _ => rfl) (v := yI (2)) rfl rfl ?_
    refine yG.ialdF A_hp.1 (v_S_Net_GREATEST W (s_S_Net_GREATEST W)) rfl rfl (by omega) (by omega) (fun z4 e_z4 i_z4 l_z4 u_z4 => ?_)
    obtain rfl : z4 = 1 := by omega
    refine yG.icmp rfl (t := 30) rfl ⟨by omega, by omega⟩ ⟨by omega, by omega⟩ (fun c5 => ?_) (fun c5 => ?_)
    · have c5 : (p2 : Int) > 1 := c5
      refine yG.num (c := 0) rfl (fun _ _ => rfl) (by decide) ?_
      refine yG.ret rfl (fun _ _ => rfl) ?_
      exact (yP.bool (by omega) ⟨⟨0, rfl, by omega, by omega, by omega⟩, rfl⟩)
    · have c5 : (p2 : Int) ≤ 1 := c5
      refine yG.num (c := 1) rfl (fun _ _ => rfl) (by decide) ?_
      refine yG.goto rfl (t := 31) rfl ?_
      refine yG.ret rfl (fun _ _ => rfl) ?_
      exact (yP.bool (by omega) ⟨⟨1, rfl, by omega, by omega, by omega⟩, rfl⟩)
theorem c_Net_isWithin_2_1 {hp : xH} (W : bW G) (d : Nat) (hT : zTy G hp) (p2 : Int) (h2l : (-2147483648) ≤ p2) (h2u : p2 ≤ 2147483647) : yC (xcall 89 xfts xpools xms (d + 1)) 159 [yI (2), yI (1), yI (p2)] hp (bQpi hp 0 1 (fun z => (z = 1 → 0 ≤ p2 - 1 ∧ 0 ≤ 0 - p2 + 99))) := by
  have A_hp : bAx G [] hp hp := bAx.rf hT
  refine yC.of (M := (xt_X5_isWithin, (4, (4, (6, []))))) rfl rfl (N := 63) (yfuel (by decide)) ?_
  show yG 89 xfts (xcall 89 xfts xpools xms d) (xpool xp_RX5) [] xt_X5_isWithin (yP 4 (bQpi hp 0 1 (fun z => (z = 1 → 0 ≤ p2 - 1 ∧ 0 ≤ 0 - p2 + 99)))) 63 0 [(0, yI (2)), (1, yI (1)), (2, yI (p2))] [] hp
  refine yG.getS (c := 5) rfl rfl ?_
  refine yG.load xik rfl (fun _ _ => rfl) (v := yI (2)) rfl rfl ?_
  refine yG.ialdF A_hp.1 (v_S_Net_BOUNDS W (s_S_Net_BOUNDS W)) rfl rfl (by omega) (by omega) (fun z1 e_z1 i_z1 l_z1 u_z1 => ?_)
  obtain rfl : z1 = 2 := by omega
  refine yG.load xik rfl (fun _ _ => rfl) (v := yI (1)) rfl rfl ?_
  refine yG.iadd rfl ?_
  rw [show (2 + 1 : Int) = 3 by omega]
  refine yG.store1 xik (L' := [(3, yI (3)), (0, yI (2)), (1, yI (1)), (2, yI (p2))]) rfl (fun _ _ => rfl) rfl rfl ?_
  refine yG.load xik rfl (fun _ _ => rfl) (v := yI (p2)) rfl rfl ?_
  refine yG.getS (c := 10) rfl rfl ?_
  refine yG.load xik rfl (fun _ _ => rfl) (v := yI (3)) rfl rfl ?_
  refine yG.ialdF A_hp.1 (v_S_Net_LEAST W (s_S_Net_LEAST W)) rfl rfl (by omega) (by omega) (fun z2 e_z2 i_z2 l_z2 u_z2 => ?_)
  obtain rfl : z2 = 1 := by omega
  refine yG.icmp rfl (t := 30) rfl ⟨by omega, by omega⟩ ⟨by omega, by omega⟩ (fun c3 => ?_) (fun c3 => ?_)
  · have c3 : (p2 : Int) < 1 := c3
    refine yG.num (c := 0) rfl (fun _ _ => rfl) (by decide) ?_
    refine yG.ret rfl (fun _ _ => rfl) ?_
    exact (yP.bool (by omega) ⟨⟨0, rfl, by omega, by omega, by omega⟩, rfl⟩)
  · have c3 : (p2 : Int) ≥ 1 := c3
    refine yG.load xik rfl (fun _ _ => rfl) (v := yI (p2)) rfl rfl ?_
    refine yG.getS (c := 4) rfl rfl ?_
    refine yG.load xik rfl (fun _ _ => rfl) (v := yI (3)) rfl rfl ?_
    refine yG.ialdF A_hp.1 (v_S_Net_GREATEST W (s_S_Net_GREATEST W)) rfl rfl (by omega) (by omega) (fun z4 e_z4 i_z4 l_z4 u_z4 => ?_)
    obtain rfl : z4 = 99 := by omega
    refine yG.icmp rfl (t := 30) rfl ⟨by omega, by omega⟩ ⟨by omega, by omega⟩ (fun c5 => ?_) (fun c5 => ?_)
    · have c5 : (p2 : Int) > 99 := c5
      refine yG.num (c := 0) rfl (fun _ _ => rfl) (by decide) ?_
      refine yG.ret rfl (fun _ _ => rfl) ?_
      exact (yP.bool (by omega) ⟨⟨0, rfl, by omega, by omega, by omega⟩, rfl⟩)
    · have c5 : (p2 : Int) ≤ 99 := c5
      refine yG.num (c := 1) rfl (fun _ _ => rfl) (by decide) ?_
      refine yG.goto rfl (t := 31) rfl ?_
      refine yG.ret rfl (fun _ _ => rfl) ?_
      exact (yP.bool (by omega) ⟨⟨1, rfl, by omega, by omega, by omega⟩, rfl⟩)
theorem c_Net_isWithin_2_2 {hp : xH} (W : bW G) (d : Nat) (hT : zTy G hp) (p2 : Int) (h2l : (-2147483648) ≤ p2) (h2u : p2 ≤ 2147483647) : yC (xcall 89 xfts xpools xms (d + 1)) 159 [yI (2), yI (2), yI (p2)] hp (bQpi hp 0 1 (fun z => (z = 1 → 0 ≤ p2 - 1 ∧ 0 ≤ 0 - p2 + 299))) := by
  have A_hp : bAx G [] hp hp := bAx.rf hT
  refine yC.of (M := (xt_X5_isWithin, (4, (4, (6, []))))) rfl rfl (N := 63) (yfuel (by decide)) ?_
  show yG 89 xfts (xcall 89 xfts xpools xms d) (xpool xp_RX5) [] xt_X5_isWithin (yP 4 (bQpi hp 0 1 (fun z => (z = 1 → 0 ≤ p2 - 1 ∧ 0 ≤ 0 - p2 + 299)))) 63 0 [(0, yI (2)), (1, yI (2)), (2, yI (p2))] [] hp
  refine yG.getS (c := 5) rfl rfl ?_
  refine yG.load xik rfl (fun _ _ => rfl) (v := yI (2)) rfl rfl ?_
  refine yG.ialdF A_hp.1 (v_S_Net_BOUNDS W (s_S_Net_BOUNDS W)) rfl rfl (by omega) (by omega) (fun z1 e_z1 i_z1 l_z1 u_z1 => ?_)
  obtain rfl : z1 = 2 := by omega
  refine yG.load xik rfl (fun _ _ => rfl) (v := yI (2)) rfl rfl ?_
  refine yG.iadd rfl ?_
  rw [show (2 + 2 : Int) = 4 by omega]
  refine yG.store1 xik (L' := [(3, yI (4)), (0, yI (2)), (1, yI (2)), (2, yI (p2))]) rfl (fun _ _ => rfl) rfl rfl ?_
  refine yG.load xik rfl (fun _ _ => rfl) (v := yI (p2)) rfl rfl ?_
  refine yG.getS (c := 10) rfl rfl ?_
  refine yG.load xik rfl (fun _ _ => rfl) (v := yI (4)) rfl rfl ?_
  refine yG.ialdF A_hp.1 (v_S_Net_LEAST W (s_S_Net_LEAST W)) rfl rfl (by omega) (by omega) (fun z2 e_z2 i_z2 l_z2 u_z2 => ?_)
  obtain rfl : z2 = 1 := by omega
  refine yG.icmp rfl (t := 30) rfl ⟨by omega, by omega⟩ ⟨by omega, by omega⟩ (fun c3 => ?_) (fun c3 => ?_)
  · have c3 : (p2 : Int) < 1 := c3
    refine yG.num (c := 0) rfl (fun _ _ => rfl) (by decide) ?_
    refine yG.ret rfl (fun _ _ => rfl) ?_
    exact (yP.bool (by omega) ⟨⟨0, rfl, by omega, by omega, by omega⟩, rfl⟩)
  · have c3 : (p2 : Int) ≥ 1 := c3
    refine yG.load xik rfl (fun _ _ => rfl) (v := yI (p2)) rfl rfl ?_
    refine yG.getS (c := 4) rfl rfl ?_
    refine yG.load xik rfl (fun _ _ => rfl) (v := yI (4)) rfl rfl ?_
    refine yG.ialdF A_hp.1 (v_S_Net_GREATEST W (s_S_Net_GREATEST W)) rfl rfl (by omega) (by omega) (fun z4 e_z4 i_z4 l_z4 u_z4 => ?_)
    obtain rfl : z4 = 299 := by omega
    refine yG.icmp rfl (t := 30) rfl ⟨by omega, by omega⟩ ⟨by omega, by omega⟩ (fun c5 => ?_) (fun c5 => ?_)
    · have c5 : (p2 : Int) > 299 := c5
      refine yG.num (c := 0) rfl (fun _ _ => rfl) (by decide) ?_
      refine yG.ret rfl (fun _ _ => rfl) ?_
      exact (yP.bool (by omega) ⟨⟨0, rfl, by omega, by omega, by omega⟩, rfl⟩)
    · have c5 : (p2 : Int) ≤ 299 := c5
      refine yG.num (c := 1) rfl (fun _ _ => rfl) (by decide) ?_
      refine yG.goto rfl (t := 31) rfl ?_
      refine yG.ret rfl (fun _ _ => rfl) ?_
      exact (yP.bool (by omega) ⟨⟨1, rfl, by omega, by omega, by omega⟩, rfl⟩)
theorem c_Net_isWithin_2_3 {hp : xH} (W : bW G) (d : Nat) (hT : zTy G hp) (p2 : Int) (h2l : (-2147483648) ≤ p2) (h2u : p2 ≤ 2147483647) : yC (xcall 89 xfts xpools xms (d + 1)) 159 [yI (2), yI (3), yI (p2)] hp (bQpi hp 0 1 (fun z => (z = 1 → 0 ≤ p2 ∧ 0 ≤ 0 - p2 + 9999))) := by
  have A_hp : bAx G [] hp hp := bAx.rf hT
  refine yC.of (M := (xt_X5_isWithin, (4, (4, (6, []))))) rfl rfl (N := 63) (yfuel (by decide)) ?_
  show yG 89 xfts (xcall 89 xfts xpools xms d) (xpool xp_RX5) [] xt_X5_isWithin (yP 4 (bQpi hp 0 1 (fun z => (z = 1 → 0 ≤ p2 ∧ 0 ≤ 0 - p2 + 9999)))) 63 0 [(0, yI (2)), (1, yI (3)), (2, yI (p2))] [] hp
  refine yG.getS (c := 5) rfl rfl ?_
  refine yG.load xik rfl (fun _ _ => rfl) (v := yI (2)) rfl rfl ?_
  refine yG.ialdF A_hp.1 (v_S_Net_BOUNDS W (s_S_Net_BOUNDS W)) rfl rfl (by omega) (by omega) (fun z1 e_z1 i_z1 l_z1 u_z1 => ?_)
  obtain rfl : z1 = 2 := by omega
  refine yG.load xik rfl (fun _ _ => rfl) (v := yI (3)) rfl rfl ?_
  refine yG.iadd rfl ?_
  rw [show (2 + 3 : Int) = 5 by omega]
  refine yG.store1 xik (L' := [(3, yI (5)), (0, yI (2)), (1, yI (3)), (2, yI (p2))]) rfl (fun _ _ => rfl) rfl rfl ?_
  refine yG.load xik rfl (fun _ _ => rfl) (v := yI (p2)) rfl rfl ?_
  refine yG.getS (c := 10) rfl rfl ?_
  refine yG.load xik rfl (fun _ _ => rfl) (v := yI (5)) rfl rfl ?_
  refine yG.ialdF A_hp.1 (v_S_Net_LEAST W (s_S_Net_LEAST W)) rfl rfl (by omega) (by omega) (fun z2 e_z2 i_z2 l_z2 u_z2 => ?_)
  obtain rfl : z2 = 0 := by omega
  refine yG.icmp rfl (t := 30) rfl ⟨by omega, by omega⟩ ⟨by omega, by omega⟩ (fun c3 => ?_) (fun c3 => ?_)
  · have c3 : (p2 : Int) < 0 := c3
    refine yG.num (c := 0) rfl (fun _ _ => rfl) (by decide) ?_
    refine yG.ret rfl (fun _ _ => rfl) ?_
    exact (yP.bool (by omega) ⟨⟨0, rfl, by omega, by omega, by omega⟩, rfl⟩)
  · have c3 : (p2 : Int) ≥ 0 := c3
    refine yG.load xik rfl (fun _ _ => rfl) (v := yI (p2)) rfl rfl ?_
    refine yG.getS (c := 4) rfl rfl ?_
    refine yG.load xik rfl (fun _ _ => rfl) (v := yI (5)) rfl rfl ?_
    refine yG.ialdF A_hp.1 (v_S_Net_GREATEST W (s_S_Net_GREATEST W)) rfl rfl (by omega) (by omega) (fun z4 e_z4 i_z4 l_z4 u_z4 => ?_)
    obtain rfl : z4 = 9999 := by omega
    refine yG.icmp rfl (t := 30) rfl ⟨by omega, by omega⟩ ⟨by omega, by omega⟩ (fun c5 => ?_) (fun c5 => ?_)
    · have c5 : (p2 : Int) > 9999 := c5
      refine yG.num (c := 0) rfl (fun _ _ => rfl) (by decide) ?_
      refine yG.ret rfl (fun _ _ => rfl) ?_
      exact (yP.bool (by omega) ⟨⟨0, rfl, by omega, by omega, by omega⟩, rfl⟩)
    · have c5 : (p2 : Int) ≤ 9999 := c5
      refine yG.num (c := 1) rfl (fun _ _ => rfl) (by decide) ?_
      refine yG.goto rfl (t := 31) rfl ?_
      refine yG.ret rfl (fun _ _ => rfl) ?_
      exact (yP.bool (by omega) ⟨⟨1, rfl, by omega, by omega, by omega⟩, rfl⟩)
theorem c_Net_at_3_0 {hp : xH} (W : bW G) (d : Nat) (hT : zTy G hp) {k0 : Nat} (H_k0 : bRo G 18 k0) (p2 : Int) (h2l : 0 ≤ p2) (h2u : p2 ≤ 5) : yC (xcall 89 xfts xpools xms (d + 1)) 151 [yR k0, yI (3), yI (p2), yI (0)] hp (bQpi hp 0 1 (fun _ => True)) := by
  have A_hp : bAx G [] hp hp := bAx.rf hT
  refine yC.of (M := (xt_X5_at, (4, (1, (6, []))))) rfl rfl (N := 45) (yfuel (by decide)) ?_
  show yG 89 xfts (xcall 89 xfts xpools xms d) (xpool xp_RX5) [] xt_X5_at (yP 1 (bQpi hp 0 1 (fun _ => True))) 45 0 [(0, yR k0), (1, yI (3)), (2, yI (p2)), (3, yI (0))] [] hp
  refine yG.load xak rfl (fun _ _ => rfl) (v := yR k0) rfl rfl ?_
  refine yG.getO A_hp.1 (w_Net_value W H_k0) rfl rfl (fun r1 H_r1 O_r1 q_r1 => ?_)
  refine yG.load xik rfl (fun _ _ => rfl) (v := yI (3)) rfl rfl ?_
  refine yG.aaldO (r := 28) A_hp.1 (v_Net_value W H_r1) rfl rfl rfl (by omega) (by omega) (fun r2 H_r2 q_r2 => ?_)
  refine yG.load xik rfl (fun _ _ => rfl) (v := yI (p2)) rfl rfl ?_
  refine yG.getS (c := 2) rfl rfl ?_
  refine yG.load xik rfl (fun _ _ => rfl) (v := yI (3)) rfl rfl ?_
  refine yG.ialdF A_hp.1 (v_S_Net_WIDTH W (s_S_Net_WIDTH W)) rfl rfl (by omega) (by omega) (fun z3 e_z3 i_z3 l_z3 u_z3 => ?_)
  obtain rfl : z3 = 11 := by omega
  refine yG.imul rfl ?_
  refine yG.load xik rfl (fun _ _ => rfl) (v := yI (0)) rfl rfl ?_
  refine yG.iadd rfl ?_
  refine yG.ialdF A_hp.1 (v_Net_value3 W H_r2) ((bTf_m (m := 0) (by omega) (by decide)).trans rfl) rfl (by omega) (by omega) (fun z4 e_z4 i_z4 l_z4 u_z4 => ?_)
  refine yG.ret rfl (fun _ _ => rfl) ?_
  exact (yP.int ⟨by omega, by omega⟩ ⟨⟨z4, rfl, by omega, by omega, trivial⟩, rfl⟩)
theorem c_Net_put_3_0 {hp : xH} (W : bW G) (d : Nat) (hT : zTy G hp) {k0 : Nat} (H_k0 : bRo G 18 k0) (p2 p4 : Int) (h2l : 0 ≤ p2) (h2u : p2 ≤ 5) (h4l : 0 ≤ p4) (h4u : p4 ≤ 1) : yC (xcall 89 xfts xpools xms (d + 1)) 162 [yR k0, yI (3), yI (p2), yI (0), yI (p4)] hp (fun rv hp' => (rv = none ∧ True) ∧ bAx G [(268435456, 256)] hp hp') := by
  have A_hp : bAx G [(268435456, 256)] hp hp := bAx.rf hT
  refine yC.of (M := (xt_X5_put, (5, (0, (6, []))))) rfl rfl (N := 48) (yfuel (by decide)) ?_
  show yG 89 xfts (xcall 89 xfts xpools xms d) (xpool xp_RX5) [] xt_X5_put (yP 0 (fun rv hp' => (rv = none ∧ True) ∧ bAx G [(268435456, 256)] hp hp')) 48 0 [(0, yR k0), (1, yI (3)), (2, yI (p2)), (3, yI (0)), (4, yI (p4))] [] hp
  refine yG.load xak rfl (fun _ _ => rfl) (v := yR k0) rfl rfl ?_
  refine yG.getO A_hp.1 (w_Net_value W H_k0) rfl rfl (fun r1 H_r1 O_r1 q_r1 => ?_)
  refine yG.load xik rfl (fun _ _ => rfl) (v := yI (3)) rfl rfl ?_
  refine yG.aaldO (r := 28) A_hp.1 (v_Net_value W H_r1) rfl rfl rfl (by omega) (by omega) (fun r2 H_r2 q_r2 => ?_)
  refine yG.load xik rfl (fun _ _ => rfl) (v := yI (p2)) rfl rfl ?_
  refine yG.getS (c := 2) rfl rfl ?_
  refine yG.load xik rfl (fun _ _ => rfl) (v := yI (3)) rfl rfl ?_
  refine yG.ialdF A_hp.1 (v_S_Net_WIDTH W (s_S_Net_WIDTH W)) rfl rfl (by omega) (by omega) (fun z3 e_z3 i_z3 l_z3 u_z3 => ?_)
  obtain rfl : z3 = 11 := by omega
  refine yG.imul rfl ?_
  refine yG.load xik rfl (fun _ _ => rfl) (v := yI (0)) rfl rfl ?_
  refine yG.iadd rfl ?_
  refine yG.load xik rfl (fun _ _ => rfl) (v := yI (p4)) rfl rfl ?_
  refine yG.iastF A_hp.1 (v_Net_value3 W H_r2) ((bTf_m (m := 0) (by omega) (by decide)).trans rfl) (W.2.1 _ _ H_r2 (by decide) (by decide)) rfl (by omega) (by omega) ⟨by omega, by omega⟩ (by omega) (by omega) (fun h4 T_h4 b_h4 f_h4 y_h4 => ?_)
  have A_h4 := A_hp.put T_h4 b_h4 f_h4 H_r2 (bAll_ok (by decide) _)
  refine yG.ret rfl (fun _ _ => rfl) ?_
  exact (yP.void ⟨⟨rfl, trivial⟩, A_h4⟩)
theorem c_Net_at_3_1 {hp : xH} (W : bW G) (d : Nat) (hT : zTy G hp) {k0 : Nat} (H_k0 : bRo G 18 k0) (p2 : Int) (h2l : 0 ≤ p2) (h2u : p2 ≤ 5) : yC (xcall 89 xfts xpools xms (d + 1)) 151 [yR k0, yI (3), yI (p2), yI (1)] hp (bQpi hp 0 9999 (fun _ => True)) := by
  have A_hp : bAx G [] hp hp := bAx.rf hT
  refine yC.of (M := (xt_X5_at, (4, (1, (6, []))))) rfl rfl (N := 45) (yfuel (by decide)) ?_
  show yG 89 xfts (xcall 89 xfts xpools xms d) (xpool xp_RX5) [] xt_X5_at (yP 1 (bQpi hp 0 9999 (fun _ => True))) 45 0 [(0, yR k0), (1, yI (3)), (2, yI (p2)), (3, yI (1))] [] hp
  refine yG.load xak rfl (fun _ _ => rfl) (v := yR k0) rfl rfl ?_
  refine yG.getO A_hp.1 (w_Net_value W H_k0) rfl rfl (fun r1 H_r1 O_r1 q_r1 => ?_)
  refine yG.load xik rfl (fun _ _ => rfl) (v := yI (3)) rfl rfl ?_
  refine yG.aaldO (r := 28) A_hp.1 (v_Net_value W H_r1) rfl rfl rfl (by omega) (by omega) (fun r2 H_r2 q_r2 => ?_)
  refine yG.load xik rfl (fun _ _ => rfl) (v := yI (p2)) rfl rfl ?_
  refine yG.getS (c := 2) rfl rfl ?_
  refine yG.load xik rfl (fun _ _ => rfl) (v := yI (3)) rfl rfl ?_
  refine yG.ialdF A_hp.1 (v_S_Net_WIDTH W (s_S_Net_WIDTH W)) rfl rfl (by omega) (by omega) (fun z3 e_z3 i_z3 l_z3 u_z3 => ?_)
  obtain rfl : z3 = 11 := by omega
  refine yG.imul rfl ?_
  refine yG.load xik rfl (fun _ _ => rfl) (v := yI (1)) rfl rfl ?_
  refine yG.iadd rfl ?_
  refine yG.ialdF A_hp.1 (v_Net_value3 W H_r2) ((bTf_m (m := 1) (by omega) (by decide)).trans rfl) rfl (by omega) (by omega) (fun z4 e_z4 i_z4 l_z4 u_z4 => ?_)
  refine yG.ret rfl (fun _ _ => rfl) ?_
  exact (yP.int ⟨by omega, by omega⟩ ⟨⟨z4, rfl, by omega, by omega, trivial⟩, rfl⟩)
theorem c_Net_put_3_1 {hp : xH} (W : bW G) (d : Nat) (hT : zTy G hp) {k0 : Nat} (H_k0 : bRo G 18 k0) (p2 p4 : Int) (h2l : 0 ≤ p2) (h2u : p2 ≤ 5) (h4l : 0 ≤ p4) (h4u : p4 ≤ 9999) : yC (xcall 89 xfts xpools xms (d + 1)) 162 [yR k0, yI (3), yI (p2), yI (1), yI (p4)] hp (fun rv hp' => (rv = none ∧ True) ∧ bAx G [(268435456, 256)] hp hp') := by
  have A_hp : bAx G [(268435456, 256)] hp hp := bAx.rf hT
  refine yC.of (M := (xt_X5_put, (5, (0, (6, []))))) rfl rfl (N := 48) (yfuel (by decide)) ?_
  show yG 89 xfts (xcall 89 xfts xpools xms d) (xpool xp_RX5) [] xt_X5_put (yP 0 (fun rv hp' => (rv = none ∧ True) ∧ bAx G [(268435456, 256)] hp hp')) 48 0 [(0, yR k0), (1, yI (3)), (2, yI (p2)), (3, yI (1)), (4, yI (p4))] [] hp
  refine yG.load xak rfl (fun _ _ => rfl) (v := yR k0) rfl rfl ?_
  refine yG.getO A_hp.1 (w_Net_value W H_k0) rfl rfl (fun r1 H_r1 O_r1 q_r1 => ?_)
  refine yG.load xik rfl (fun _ _ => rfl) (v := yI (3)) rfl rfl ?_
  refine yG.aaldO (r := 28) A_hp.1 (v_Net_value W H_r1) rfl rfl rfl (by omega) (by omega) (fun r2 H_r2 q_r2 => ?_)
  refine yG.load xik rfl (fun _ _ => rfl) (v := yI (p2)) rfl rfl ?_
  refine yG.getS (c := 2) rfl rfl ?_
  refine yG.load xik rfl (fun _ _ => rfl) (v := yI (3)) rfl rfl ?_
  refine yG.ialdF A_hp.1 (v_S_Net_WIDTH W (s_S_Net_WIDTH W)) rfl rfl (by omega) (by omega) (fun z3 e_z3 i_z3 l_z3 u_z3 => ?_)
  obtain rfl : z3 = 11 := by omega
  refine yG.imul rfl ?_
  refine yG.load xik rfl (fun _ _ => rfl) (v := yI (1)) rfl rfl ?_
  refine yG.iadd rfl ?_
  refine yG.load xik rfl (fun _ _ => rfl) (v := yI (p4)) rfl rfl ?_
  refine yG.iastF A_hp.1 (v_Net_value3 W H_r2) ((bTf_m (m := 1) (by omega) (by decide)).trans rfl) (W.2.1 _ _ H_r2 (by decide) (by decide)) rfl (by omega) (by omega) ⟨by omega, by omega⟩ (by omega) (by omega) (fun h4 T_h4 b_h4 f_h4 y_h4 => ?_)
  have A_h4 := A_hp.put T_h4 b_h4 f_h4 H_r2 (bAll_ok (by decide) _)
  refine yG.ret rfl (fun _ _ => rfl) ?_
  exact (yP.void ⟨⟨rfl, trivial⟩, A_h4⟩)
theorem c_Net_at_3_2 {hp : xH} (W : bW G) (d : Nat) (hT : zTy G hp) {k0 : Nat} (H_k0 : bRo G 18 k0) (p2 : Int) (h2l : 0 ≤ p2) (h2u : p2 ≤ 5) : yC (xcall 89 xfts xpools xms (d + 1)) 151 [yR k0, yI (3), yI (p2), yI (2)] hp (bQpi hp 0 99 (fun _ => True)) := by
  have A_hp : bAx G [] hp hp := bAx.rf hT
  refine yC.of (M := (xt_X5_at, (4, (1, (6, []))))) rfl rfl (N := 45) (yfuel (by decide)) ?_
  show yG 89 xfts (xcall 89 xfts xpools xms d) (xpool xp_RX5) [] xt_X5_at (yP 1 (bQpi hp 0 99 (fun _ => True))) 45 0 [(0, yR k0), (1, yI (3)), (2, yI (p2)), (3, yI (2))] [] hp
  refine yG.load xak rfl (fun _ _ => rfl) (v := yR k0) rfl rfl ?_
  refine yG.getO A_hp.1 (w_Net_value W H_k0) rfl rfl (fun r1 H_r1 O_r1 q_r1 => ?_)
  refine yG.load xik rfl (fun _ _ => rfl) (v := yI (3)) rfl rfl ?_
  refine yG.aaldO (r := 28) A_hp.1 (v_Net_value W H_r1) rfl rfl rfl (by omega) (by omega) (fun r2 H_r2 q_r2 => ?_)
  refine yG.load xik rfl (fun _ _ => rfl) (v := yI (p2)) rfl rfl ?_
  refine yG.getS (c := 2) rfl rfl ?_
  refine yG.load xik rfl (fun _ _ => rfl) (v := yI (3)) rfl rfl ?_
  refine yG.ialdF A_hp.1 (v_S_Net_WIDTH W (s_S_Net_WIDTH W)) rfl rfl (by omega) (by omega) (fun z3 e_z3 i_z3 l_z3 u_z3 => ?_)
  obtain rfl : z3 = 11 := by omega
  refine yG.imul rfl ?_
  refine yG.load xik rfl (fun _ _ => rfl) (v := yI (2)) rfl rfl ?_
  refine yG.iadd rfl ?_
  refine yG.ialdF A_hp.1 (v_Net_value3 W H_r2) ((bTf_m (m := 2) (by omega) (by decide)).trans rfl) rfl (by omega) (by omega) (fun z4 e_z4 i_z4 l_z4 u_z4 => ?_)
  refine yG.ret rfl (fun _ _ => rfl) ?_
  exact (yP.int ⟨by omega, by omega⟩ ⟨⟨z4, rfl, by omega, by omega, trivial⟩, rfl⟩)
theorem c_Net_put_3_2 {hp : xH} (W : bW G) (d : Nat) (hT : zTy G hp) {k0 : Nat} (H_k0 : bRo G 18 k0) (p2 p4 : Int) (h2l : 0 ≤ p2) (h2u : p2 ≤ 5) (h4l : 0 ≤ p4) (h4u : p4 ≤ 99) : yC (xcall 89 xfts xpools xms (d + 1)) 162 [yR k0, yI (3), yI (p2), yI (2), yI (p4)] hp (fun rv hp' => (rv = none ∧ True) ∧ bAx G [(268435456, 256)] hp hp') := by
  have A_hp : bAx G [(268435456, 256)] hp hp := bAx.rf hT
  refine yC.of (M := (xt_X5_put, (5, (0, (6, []))))) rfl rfl (N := 48) (yfuel (by decide)) ?_
  show yG 89 xfts (xcall 89 xfts xpools xms d) (xpool xp_RX5) [] xt_X5_put (yP 0 (fun rv hp' => (rv = none ∧ True) ∧ bAx G [(268435456, 256)] hp hp')) 48 0 [(0, yR k0), (1, yI (3)), (2, yI (p2)), (3, yI (2)), (4, yI (p4))] [] hp
  refine yG.load xak rfl (fun _ _ => rfl) (v := yR k0) rfl rfl ?_
  refine yG.getO A_hp.1 (w_Net_value W H_k0) rfl rfl (fun r1 H_r1 O_r1 q_r1 => ?_)
  refine yG.load xik rfl (fun _ _ => rfl) (v := yI (3)) rfl rfl ?_
  refine yG.aaldO (r := 28) A_hp.1 (v_Net_value W H_r1) rfl rfl rfl (by omega) (by omega) (fun r2 H_r2 q_r2 => ?_)
  refine yG.load xik rfl (fun _ _ => rfl) (v := yI (p2)) rfl rfl ?_
  refine yG.getS (c := 2) rfl rfl ?_
  refine yG.load xik rfl (fun _ _ => rfl) (v := yI (3)) rfl rfl ?_
  refine yG.ialdF A_hp.1 (v_S_Net_WIDTH W (s_S_Net_WIDTH W)) rfl rfl (by omega) (by omega) (fun z3 e_z3 i_z3 l_z3 u_z3 => ?_)
  obtain rfl : z3 = 11 := by omega
  refine yG.imul rfl ?_
  refine yG.load xik rfl (fun _ _ => rfl) (v := yI (2)) rfl rfl ?_
  refine yG.iadd rfl ?_
  refine yG.load xik rfl (fun _ _ => rfl) (v := yI (p4)) rfl rfl ?_
  refine yG.iastF A_hp.1 (v_Net_value3 W H_r2) ((bTf_m (m := 2) (by omega) (by decide)).trans rfl) (W.2.1 _ _ H_r2 (by decide) (by decide)) rfl (by omega) (by omega) ⟨by omega, by omega⟩ (by omega) (by omega) (fun h4 T_h4 b_h4 f_h4 y_h4 => ?_)
  have A_h4 := A_hp.put T_h4 b_h4 f_h4 H_r2 (bAll_ok (by decide) _)
  refine yG.ret rfl (fun _ _ => rfl) ?_
  exact (yP.void ⟨⟨rfl, trivial⟩, A_h4⟩)
theorem c_Net_at_3_3 {hp : xH} (W : bW G) (d : Nat) (hT : zTy G hp) {k0 : Nat} (H_k0 : bRo G 18 k0) (p2 : Int) (h2l : 0 ≤ p2) (h2u : p2 ≤ 5) : yC (xcall 89 xfts xpools xms (d + 1)) 151 [yR k0, yI (3), yI (p2), yI (3)] hp (bQpi hp 0 299 (fun _ => True)) := by
  have A_hp : bAx G [] hp hp := bAx.rf hT
  refine yC.of (M := (xt_X5_at, (4, (1, (6, []))))) rfl rfl (N := 45) (yfuel (by decide)) ?_
  show yG 89 xfts (xcall 89 xfts xpools xms d) (xpool xp_RX5) [] xt_X5_at (yP 1 (bQpi hp 0 299 (fun _ => True))) 45 0 [(0, yR k0), (1, yI (3)), (2, yI (p2)), (3, yI (3))] [] hp
  refine yG.load xak rfl (fun _ _ => rfl) (v := yR k0) rfl rfl ?_
  refine yG.getO A_hp.1 (w_Net_value W H_k0) rfl rfl (fun r1 H_r1 O_r1 q_r1 => ?_)
  refine yG.load xik rfl (fun _ _ => rfl) (v := yI (3)) rfl rfl ?_
  refine yG.aaldO (r := 28) A_hp.1 (v_Net_value W H_r1) rfl rfl rfl (by omega) (by omega) (fun r2 H_r2 q_r2 => ?_)
  refine yG.load xik rfl (fun _ _ => rfl) (v := yI (p2)) rfl rfl ?_
  refine yG.getS (c := 2) rfl rfl ?_
  refine yG.load xik rfl (fun _ _ => rfl) (v := yI (3)) rfl rfl ?_
  refine yG.ialdF A_hp.1 (v_S_Net_WIDTH W (s_S_Net_WIDTH W)) rfl rfl (by omega) (by omega) (fun z3 e_z3 i_z3 l_z3 u_z3 => ?_)
  obtain rfl : z3 = 11 := by omega
  refine yG.imul rfl ?_
  refine yG.load xik rfl (fun _ _ => rfl) (v := yI (3)) rfl rfl ?_
  refine yG.iadd rfl ?_
  refine yG.ialdF A_hp.1 (v_Net_value3 W H_r2) ((bTf_m (m := 3) (by omega) (by decide)).trans rfl) rfl (by omega) (by omega) (fun z4 e_z4 i_z4 l_z4 u_z4 => ?_)
  refine yG.ret rfl (fun _ _ => rfl) ?_
  exact (yP.int ⟨by omega, by omega⟩ ⟨⟨z4, rfl, by omega, by omega, trivial⟩, rfl⟩)
theorem c_Net_put_3_3 {hp : xH} (W : bW G) (d : Nat) (hT : zTy G hp) {k0 : Nat} (H_k0 : bRo G 18 k0) (p2 p4 : Int) (h2l : 0 ≤ p2) (h2u : p2 ≤ 5) (h4l : 0 ≤ p4) (h4u : p4 ≤ 299) : yC (xcall 89 xfts xpools xms (d + 1)) 162 [yR k0, yI (3), yI (p2), yI (3), yI (p4)] hp (fun rv hp' => (rv = none ∧ True) ∧ bAx G [(268435456, 256)] hp hp') := by
  have A_hp : bAx G [(268435456, 256)] hp hp := bAx.rf hT
  refine yC.of (M := (xt_X5_put, (5, (0, (6, []))))) rfl rfl (N := 48) (yfuel (by decide)) ?_
  show yG 89 xfts (xcall 89 xfts xpools xms d) (xpool xp_RX5) [] xt_X5_put (yP 0 (fun rv hp' => (rv = none ∧ True) ∧ bAx G [(268435456, 256)] hp hp')) 48 0 [(0, yR k0), (1, yI (3)), (2, yI (p2)), (3, yI (3)), (4, yI (p4))] [] hp
  refine yG.load xak rfl (fun _ _ => rfl) (v := yR k0) rfl rfl ?_
  refine yG.getO A_hp.1 (w_Net_value W H_k0) rfl rfl (fun r1 H_r1 O_r1 q_r1 => ?_)
  refine yG.load xik rfl (fun _ _ => rfl) (v := yI (3)) rfl rfl ?_
  refine yG.aaldO (r := 28) A_hp.1 (v_Net_value W H_r1) rfl rfl rfl (by omega) (by omega) (fun r2 H_r2 q_r2 => ?_)
  refine yG.load xik rfl (fun _ _ => rfl) (v := yI (p2)) rfl rfl ?_
  refine yG.getS (c := 2) rfl rfl ?_
  refine yG.load xik rfl (fun _ _ => rfl) (v := yI (3)) rfl rfl ?_
  refine yG.ialdF A_hp.1 (v_S_Net_WIDTH W (s_S_Net_WIDTH W)) rfl rfl (by omega) (by omega) (fun z3 e_z3 i_z3 l_z3 u_z3 => ?_)
  obtain rfl : z3 = 11 := by omega
  refine yG.imul rfl ?_
  refine yG.load xik rfl (fun _ _ => rfl) (v := yI (3)) rfl rfl ?_
  refine yG.iadd rfl ?_
  refine yG.load xik rfl (fun _ _ => rfl) (v := yI (p4)) rfl rfl ?_
  refine yG.iastF A_hp.1 (v_Net_value3 W H_r2) ((bTf_m (m := 3) (by omega) (by decide)).trans rfl) (W.2.1 _ _ H_r2 (by decide) (by decide)) rfl (by omega) (by omega) ⟨by omega, by omega⟩ (by omega) (by omega) (fun h4 T_h4 b_h4 f_h4 y_h4 => ?_)
  have A_h4 := A_hp.put T_h4 b_h4 f_h4 H_r2 (bAll_ok (by decide) _)
  refine yG.ret rfl (fun _ _ => rfl) ?_
  exact (yP.void ⟨⟨rfl, trivial⟩, A_h4⟩)
theorem c_Net_at_3_4 {hp : xH} (W : bW G) (d : Nat) (hT : zTy G hp) {k0 : Nat} (H_k0 : bRo G 18 k0) (p2 : Int) (h2l : 0 ≤ p2) (h2u : p2 ≤ 5) : yC (xcall 89 xfts xpools xms (d + 1)) 151 [yR k0, yI (3), yI (p2), yI (4)] hp (bQpi hp 0 9999 (fun _ => True)) := by
  have A_hp : bAx G [] hp hp := bAx.rf hT
  refine yC.of (M := (xt_X5_at, (4, (1, (6, []))))) rfl rfl (N := 45) (yfuel (by decide)) ?_
  show yG 89 xfts (xcall 89 xfts xpools xms d) (xpool xp_RX5) [] xt_X5_at (yP 1 (bQpi hp 0 9999 (fun _ => True))) 45 0 [(0, yR k0), (1, yI (3)), (2, yI (p2)), (3, yI (4))] [] hp
  refine yG.load xak rfl (fun _ _ => rfl) (v := yR k0) rfl rfl ?_
  refine yG.getO A_hp.1 (w_Net_value W H_k0) rfl rfl (fun r1 H_r1 O_r1 q_r1 => ?_)
  refine yG.load xik rfl (fun _ _ => rfl) (v := yI (3)) rfl rfl ?_
  refine yG.aaldO (r := 28) A_hp.1 (v_Net_value W H_r1) rfl rfl rfl (by omega) (by omega) (fun r2 H_r2 q_r2 => ?_)
  refine yG.load xik rfl (fun _ _ => rfl) (v := yI (p2)) rfl rfl ?_
  refine yG.getS (c := 2) rfl rfl ?_
  refine yG.load xik rfl (fun _ _ => rfl) (v := yI (3)) rfl rfl ?_
  refine yG.ialdF A_hp.1 (v_S_Net_WIDTH W (s_S_Net_WIDTH W)) rfl rfl (by omega) (by omega) (fun z3 e_z3 i_z3 l_z3 u_z3 => ?_)
  obtain rfl : z3 = 11 := by omega
  refine yG.imul rfl ?_
  refine yG.load xik rfl (fun _ _ => rfl) (v := yI (4)) rfl rfl ?_
  refine yG.iadd rfl ?_
  refine yG.ialdF A_hp.1 (v_Net_value3 W H_r2) ((bTf_m (m := 4) (by omega) (by decide)).trans rfl) rfl (by omega) (by omega) (fun z4 e_z4 i_z4 l_z4 u_z4 => ?_)
  refine yG.ret rfl (fun _ _ => rfl) ?_
  exact (yP.int ⟨by omega, by omega⟩ ⟨⟨z4, rfl, by omega, by omega, trivial⟩, rfl⟩)
theorem c_Net_put_3_4 {hp : xH} (W : bW G) (d : Nat) (hT : zTy G hp) {k0 : Nat} (H_k0 : bRo G 18 k0) (p2 p4 : Int) (h2l : 0 ≤ p2) (h2u : p2 ≤ 5) (h4l : 0 ≤ p4) (h4u : p4 ≤ 9999) : yC (xcall 89 xfts xpools xms (d + 1)) 162 [yR k0, yI (3), yI (p2), yI (4), yI (p4)] hp (fun rv hp' => (rv = none ∧ True) ∧ bAx G [(268435456, 256)] hp hp') := by
  have A_hp : bAx G [(268435456, 256)] hp hp := bAx.rf hT
  refine yC.of (M := (xt_X5_put, (5, (0, (6, []))))) rfl rfl (N := 48) (yfuel (by decide)) ?_
  show yG 89 xfts (xcall 89 xfts xpools xms d) (xpool xp_RX5) [] xt_X5_put (yP 0 (fun rv hp' => (rv = none ∧ True) ∧ bAx G [(268435456, 256)] hp hp')) 48 0 [(0, yR k0), (1, yI (3)), (2, yI (p2)), (3, yI (4)), (4, yI (p4))] [] hp
  refine yG.load xak rfl (fun _ _ => rfl) (v := yR k0) rfl rfl ?_
  refine yG.getO A_hp.1 (w_Net_value W H_k0) rfl rfl (fun r1 H_r1 O_r1 q_r1 => ?_)
  refine yG.load xik rfl (fun _ _ => rfl) (v := yI (3)) rfl rfl ?_
  refine yG.aaldO (r := 28) A_hp.1 (v_Net_value W H_r1) rfl rfl rfl (by omega) (by omega) (fun r2 H_r2 q_r2 => ?_)
  refine yG.load xik rfl (fun _ _ => rfl) (v := yI (p2)) rfl rfl ?_
  refine yG.getS (c := 2) rfl rfl ?_
  refine yG.load xik rfl (fun _ _ => rfl) (v := yI (3)) rfl rfl ?_
  refine yG.ialdF A_hp.1 (v_S_Net_WIDTH W (s_S_Net_WIDTH W)) rfl rfl (by omega) (by omega) (fun z3 e_z3 i_z3 l_z3 u_z3 => ?_)
  obtain rfl : z3 = 11 := by omega
  refine yG.imul rfl ?_
  refine yG.load xik rfl (fun _ _ => rfl) (v := yI (4)) rfl rfl ?_
  refine yG.iadd rfl ?_
  refine yG.load xik rfl (fun _ _ => rfl) (v := yI (p4)) rfl rfl ?_
  refine yG.iastF A_hp.1 (v_Net_value3 W H_r2) ((bTf_m (m := 4) (by omega) (by decide)).trans rfl) (W.2.1 _ _ H_r2 (by decide) (by decide)) rfl (by omega) (by omega) ⟨by omega, by omega⟩ (by omega) (by omega) (fun h4 T_h4 b_h4 f_h4 y_h4 => ?_)
  have A_h4 := A_hp.put T_h4 b_h4 f_h4 H_r2 (bAll_ok (by decide) _)
  refine yG.ret rfl (fun _ _ => rfl) ?_
  exact (yP.void ⟨⟨rfl, trivial⟩, A_h4⟩)
theorem c_Net_at_3_5 {hp : xH} (W : bW G) (d : Nat) (hT : zTy G hp) {k0 : Nat} (H_k0 : bRo G 18 k0) (p2 : Int) (h2l : 0 ≤ p2) (h2u : p2 ≤ 5) : yC (xcall 89 xfts xpools xms (d + 1)) 151 [yR k0, yI (3), yI (p2), yI (5)] hp (bQpi hp 0 9999 (fun _ => True)) := by
  have A_hp : bAx G [] hp hp := bAx.rf hT
  refine yC.of (M := (xt_X5_at, (4, (1, (6, []))))) rfl rfl (N := 45) (yfuel (by decide)) ?_
  show yG 89 xfts (xcall 89 xfts xpools xms d) (xpool xp_RX5) [] xt_X5_at (yP 1 (bQpi hp 0 9999 (fun _ => True))) 45 0 [(0, yR k0), (1, yI (3)), (2, yI (p2)), (3, yI (5))] [] hp
  refine yG.load xak rfl (fun _ _ => rfl) (v := yR k0) rfl rfl ?_
  refine yG.getO A_hp.1 (w_Net_value W H_k0) rfl rfl (fun r1 H_r1 O_r1 q_r1 => ?_)
  refine yG.load xik rfl (fun _ _ => rfl) (v := yI (3)) rfl rfl ?_
  refine yG.aaldO (r := 28) A_hp.1 (v_Net_value W H_r1) rfl rfl rfl (by omega) (by omega) (fun r2 H_r2 q_r2 => ?_)
  refine yG.load xik rfl (fun _ _ => rfl) (v := yI (p2)) rfl rfl ?_
  refine yG.getS (c := 2) rfl rfl ?_
  refine yG.load xik rfl (fun _ _ => rfl) (v := yI (3)) rfl rfl ?_
  refine yG.ialdF A_hp.1 (v_S_Net_WIDTH W (s_S_Net_WIDTH W)) rfl rfl (by omega) (by omega) (fun z3 e_z3 i_z3 l_z3 u_z3 => ?_)
  obtain rfl : z3 = 11 := by omega
  refine yG.imul rfl ?_
  refine yG.load xik rfl (fun _ _ => rfl) (v := yI (5)) rfl rfl ?_
  refine yG.iadd rfl ?_
  refine yG.ialdF A_hp.1 (v_Net_value3 W H_r2) ((bTf_m (m := 5) (by omega) (by decide)).trans rfl) rfl (by omega) (by omega) (fun z4 e_z4 i_z4 l_z4 u_z4 => ?_)
  refine yG.ret rfl (fun _ _ => rfl) ?_
  exact (yP.int ⟨by omega, by omega⟩ ⟨⟨z4, rfl, by omega, by omega, trivial⟩, rfl⟩)
theorem c_Net_put_3_5 {hp : xH} (W : bW G) (d : Nat) (hT : zTy G hp) {k0 : Nat} (H_k0 : bRo G 18 k0) (p2 p4 : Int) (h2l : 0 ≤ p2) (h2u : p2 ≤ 5) (h4l : 0 ≤ p4) (h4u : p4 ≤ 9999) : yC (xcall 89 xfts xpools xms (d + 1)) 162 [yR k0, yI (3), yI (p2), yI (5), yI (p4)] hp (fun rv hp' => (rv = none ∧ True) ∧ bAx G [(268435456, 256)] hp hp') := by
  have A_hp : bAx G [(268435456, 256)] hp hp := bAx.rf hT
  refine yC.of (M := (xt_X5_put, (5, (0, (6, []))))) rfl rfl (N := 48) (yfuel (by decide)) ?_
  show yG 89 xfts (xcall 89 xfts xpools xms d) (xpool xp_RX5) [] xt_X5_put (yP 0 (fun rv hp' => (rv = none ∧ True) ∧ bAx G [(268435456, 256)] hp hp')) 48 0 [(0, yR k0), (1, yI (3)), (2, yI (p2)), (3, yI (5)), (4, yI (p4))] [] hp
  refine yG.load xak rfl (fun _ _ => rfl) (v := yR k0) rfl rfl ?_
  refine yG.getO A_hp.1 (w_Net_value W H_k0) rfl rfl (fun r1 H_r1 O_r1 q_r1 => ?_)
  refine yG.load xik rfl (fun _ _ => rfl) (v := yI (3)) rfl rfl ?_
  refine yG.aaldO (r := 28) A_hp.1 (v_Net_value W H_r1) rfl rfl rfl (by omega) (by omega) (fun r2 H_r2 q_r2 => ?_)
  refine yG.load xik rfl (fun _ _ => rfl) (v := yI (p2)) rfl rfl ?_
  refine yG.getS (c := 2) rfl rfl ?_
  refine yG.load xik rfl (fun _ _ => rfl) (v := yI (3)) rfl rfl ?_
  refine yG.ialdF A_hp.1 (v_S_Net_WIDTH W (s_S_Net_WIDTH W)) rfl rfl (by omega) (by omega) (fun z3 e_z3 i_z3 l_z3 u_z3 => ?_)
  obtain rfl : z3 = 11 := by omega
  refine yG.imul rfl ?_
  refine yG.load xik rfl (fun _ _ => rfl) (v := yI (5)) rfl rfl ?_
  refine yG.iadd rfl ?_
  refine yG.load xik rfl (fun _ _ => rfl) (v := yI (p4)) rfl rfl ?_
  refine yG.iastF A_hp.1 (v_Net_value3 W H_r2) ((bTf_m (m := 5) (by omega) (by decide)).trans rfl) (W.2.1 _ _ H_r2 (by decide) (by decide)) rfl (by omega) (by omega) ⟨by omega, by omega⟩ (by omega) (by omega) (fun h4 T_h4 b_h4 f_h4 y_h4 => ?_)
  have A_h4 := A_hp.put T_h4 b_h4 f_h4 H_r2 (bAll_ok (by decide) _)
  refine yG.ret rfl (fun _ _ => rfl) ?_
  exact (yP.void ⟨⟨rfl, trivial⟩, A_h4⟩)
theorem c_Net_at_3_6 {hp : xH} (W : bW G) (d : Nat) (hT : zTy G hp) {k0 : Nat} (H_k0 : bRo G 18 k0) (p2 : Int) (h2l : 0 ≤ p2) (h2u : p2 ≤ 5) : yC (xcall 89 xfts xpools xms (d + 1)) 151 [yR k0, yI (3), yI (p2), yI (6)] hp (bQpi hp 0 999 (fun _ => True)) := by
  have A_hp : bAx G [] hp hp := bAx.rf hT
  refine yC.of (M := (xt_X5_at, (4, (1, (6, []))))) rfl rfl (N := 45) (yfuel (by decide)) ?_
  show yG 89 xfts (xcall 89 xfts xpools xms d) (xpool xp_RX5) [] xt_X5_at (yP 1 (bQpi hp 0 999 (fun _ => True))) 45 0 [(0, yR k0), (1, yI (3)), (2, yI (p2)), (3, yI (6))] [] hp
  refine yG.load xak rfl (fun _ _ => rfl) (v := yR k0) rfl rfl ?_
  refine yG.getO A_hp.1 (w_Net_value W H_k0) rfl rfl (fun r1 H_r1 O_r1 q_r1 => ?_)
  refine yG.load xik rfl (fun _ _ => rfl) (v := yI (3)) rfl rfl ?_
  refine yG.aaldO (r := 28) A_hp.1 (v_Net_value W H_r1) rfl rfl rfl (by omega) (by omega) (fun r2 H_r2 q_r2 => ?_)
  refine yG.load xik rfl (fun _ _ => rfl) (v := yI (p2)) rfl rfl ?_
  refine yG.getS (c := 2) rfl rfl ?_
  refine yG.load xik rfl (fun _ _ => rfl) (v := yI (3)) rfl rfl ?_
  refine yG.ialdF A_hp.1 (v_S_Net_WIDTH W (s_S_Net_WIDTH W)) rfl rfl (by omega) (by omega) (fun z3 e_z3 i_z3 l_z3 u_z3 => ?_)
  obtain rfl : z3 = 11 := by omega
  refine yG.imul rfl ?_
  refine yG.load xik rfl (fun _ _ => rfl) (v := yI (6)) rfl rfl ?_
  refine yG.iadd rfl ?_
  refine yG.ialdF A_hp.1 (v_Net_value3 W H_r2) ((bTf_m (m := 6) (by omega) (by decide)).trans rfl) rfl (by omega) (by omega) (fun z4 e_z4 i_z4 l_z4 u_z4 => ?_)
  refine yG.ret rfl (fun _ _ => rfl) ?_
  exact (yP.int ⟨by omega, by omega⟩ ⟨⟨z4, rfl, by omega, by omega, trivial⟩, rfl⟩)
theorem c_Net_put_3_6 {hp : xH} (W : bW G) (d : Nat) (hT : zTy G hp) {k0 : Nat} (H_k0 : bRo G 18 k0) (p2 p4 : Int) (h2l : 0 ≤ p2) (h2u : p2 ≤ 5) (h4l : 0 ≤ p4) (h4u : p4 ≤ 999) : yC (xcall 89 xfts xpools xms (d + 1)) 162 [yR k0, yI (3), yI (p2), yI (6), yI (p4)] hp (fun rv hp' => (rv = none ∧ True) ∧ bAx G [(268435456, 256)] hp hp') := by
  have A_hp : bAx G [(268435456, 256)] hp hp := bAx.rf hT
  refine yC.of (M := (xt_X5_put, (5, (0, (6, []))))) rfl rfl (N := 48) (yfuel (by decide)) ?_
  show yG 89 xfts (xcall 89 xfts xpools xms d) (xpool xp_RX5) [] xt_X5_put (yP 0 (fun rv hp' => (rv = none ∧ True) ∧ bAx G [(268435456, 256)] hp hp')) 48 0 [(0, yR k0), (1, yI (3)), (2, yI (p2)), (3, yI (6)), (4, yI (p4))] [] hp
  refine yG.load xak rfl (fun _ _ => rfl) (v := yR k0) rfl rfl ?_
  refine yG.getO A_hp.1 (w_Net_value W H_k0) rfl rfl (fun r1 H_r1 O_r1 q_r1 => ?_)
  refine yG.load xik rfl (fun _ _ => rfl) (v := yI (3)) rfl rfl ?_
  refine yG.aaldO (r := 28) A_hp.1 (v_Net_value W H_r1) rfl rfl rfl (by omega) (by omega) (fun r2 H_r2 q_r2 => ?_)
  refine yG.load xik rfl (fun _ _ => rfl) (v := yI (p2)) rfl rfl ?_
  refine yG.getS (c := 2) rfl rfl ?_
  refine yG.load xik rfl (fun _ _ => rfl) (v := yI (3)) rfl rfl ?_
  refine yG.ialdF A_hp.1 (v_S_Net_WIDTH W (s_S_Net_WIDTH W)) rfl rfl (by omega) (by omega) (fun z3 e_z3 i_z3 l_z3 u_z3 => ?_)
  obtain rfl : z3 = 11 := by omega
  refine yG.imul rfl ?_
  refine yG.load xik rfl (fun _ _ => rfl) (v := yI (6)) rfl rfl ?_
  refine yG.iadd rfl ?_
  refine yG.load xik rfl (fun _ _ => rfl) (v := yI (p4)) rfl rfl ?_
  refine yG.iastF A_hp.1 (v_Net_value3 W H_r2) ((bTf_m (m := 6) (by omega) (by decide)).trans rfl) (W.2.1 _ _ H_r2 (by decide) (by decide)) rfl (by omega) (by omega) ⟨by omega, by omega⟩ (by omega) (by omega) (fun h4 T_h4 b_h4 f_h4 y_h4 => ?_)
  have A_h4 := A_hp.put T_h4 b_h4 f_h4 H_r2 (bAll_ok (by decide) _)
  refine yG.ret rfl (fun _ _ => rfl) ?_
  exact (yP.void ⟨⟨rfl, trivial⟩, A_h4⟩)
theorem c_Net_at_3_7 {hp : xH} (W : bW G) (d : Nat) (hT : zTy G hp) {k0 : Nat} (H_k0 : bRo G 18 k0) (p2 : Int) (h2l : 0 ≤ p2) (h2u : p2 ≤ 5) : yC (xcall 89 xfts xpools xms (d + 1)) 151 [yR k0, yI (3), yI (p2), yI (7)] hp (bQpi hp 0 9999 (fun _ => True)) := by
  have A_hp : bAx G [] hp hp := bAx.rf hT
  refine yC.of (M := (xt_X5_at, (4, (1, (6, []))))) rfl rfl (N := 45) (yfuel (by decide)) ?_
  show yG 89 xfts (xcall 89 xfts xpools xms d) (xpool xp_RX5) [] xt_X5_at (yP 1 (bQpi hp 0 9999 (fun _ => True))) 45 0 [(0, yR k0), (1, yI (3)), (2, yI (p2)), (3, yI (7))] [] hp
  refine yG.load xak rfl (fun _ _ => rfl) (v := yR k0) rfl rfl ?_
  refine yG.getO A_hp.1 (w_Net_value W H_k0) rfl rfl (fun r1 H_r1 O_r1 q_r1 => ?_)
  refine yG.load xik rfl (fun _ _ => rfl) (v := yI (3)) rfl rfl ?_
  refine yG.aaldO (r := 28) A_hp.1 (v_Net_value W H_r1) rfl rfl rfl (by omega) (by omega) (fun r2 H_r2 q_r2 => ?_)
  refine yG.load xik rfl (fun _ _ => rfl) (v := yI (p2)) rfl rfl ?_
  refine yG.getS (c := 2) rfl rfl ?_
  refine yG.load xik rfl (fun _ _ => rfl) (v := yI (3)) rfl rfl ?_
  refine yG.ialdF A_hp.1 (v_S_Net_WIDTH W (s_S_Net_WIDTH W)) rfl rfl (by omega) (by omega) (fun z3 e_z3 i_z3 l_z3 u_z3 => ?_)
  obtain rfl : z3 = 11 := by omega
  refine yG.imul rfl ?_
  refine yG.load xik rfl (fun _ _ => rfl) (v := yI (7)) rfl rfl ?_
  refine yG.iadd rfl ?_
  refine yG.ialdF A_hp.1 (v_Net_value3 W H_r2) ((bTf_m (m := 7) (by omega) (by decide)).trans rfl) rfl (by omega) (by omega) (fun z4 e_z4 i_z4 l_z4 u_z4 => ?_)
  refine yG.ret rfl (fun _ _ => rfl) ?_
  exact (yP.int ⟨by omega, by omega⟩ ⟨⟨z4, rfl, by omega, by omega, trivial⟩, rfl⟩)
theorem c_Net_put_3_7 {hp : xH} (W : bW G) (d : Nat) (hT : zTy G hp) {k0 : Nat} (H_k0 : bRo G 18 k0) (p2 p4 : Int) (h2l : 0 ≤ p2) (h2u : p2 ≤ 5) (h4l : 0 ≤ p4) (h4u : p4 ≤ 9999) : yC (xcall 89 xfts xpools xms (d + 1)) 162 [yR k0, yI (3), yI (p2), yI (7), yI (p4)] hp (fun rv hp' => (rv = none ∧ True) ∧ bAx G [(268435456, 256)] hp hp') := by
  have A_hp : bAx G [(268435456, 256)] hp hp := bAx.rf hT
  refine yC.of (M := (xt_X5_put, (5, (0, (6, []))))) rfl rfl (N := 48) (yfuel (by decide)) ?_
  show yG 89 xfts (xcall 89 xfts xpools xms d) (xpool xp_RX5) [] xt_X5_put (yP 0 (fun rv hp' => (rv = none ∧ True) ∧ bAx G [(268435456, 256)] hp hp')) 48 0 [(0, yR k0), (1, yI (3)), (2, yI (p2)), (3, yI (7)), (4, yI (p4))] [] hp
  refine yG.load xak rfl (fun _ _ => rfl) (v := yR k0) rfl rfl ?_
  refine yG.getO A_hp.1 (w_Net_value W H_k0) rfl rfl (fun r1 H_r1 O_r1 q_r1 => ?_)
  refine yG.load xik rfl (fun _ _ => rfl) (v := yI (3)) rfl rfl ?_
  refine yG.aaldO (r := 28) A_hp.1 (v_Net_value W H_r1) rfl rfl rfl (by omega) (by omega) (fun r2 H_r2 q_r2 => ?_)
  refine yG.load xik rfl (fun _ _ => rfl) (v := yI (p2)) rfl rfl ?_
  refine yG.getS (c := 2) rfl rfl ?_
  refine yG.load xik rfl (fun _ _ => rfl) (v := yI (3)) rfl rfl ?_
  refine yG.ialdF A_hp.1 (v_S_Net_WIDTH W (s_S_Net_WIDTH W)) rfl rfl (by omega) (by omega) (fun z3 e_z3 i_z3 l_z3 u_z3 => ?_)
  obtain rfl : z3 = 11 := by omega
  refine yG.imul rfl ?_
  refine yG.load xik rfl (fun _ _ => rfl) (v := yI (7)) rfl rfl ?_
  refine yG.iadd rfl ?_
  refine yG.load xik rfl (fun _ _ => rfl) (v := yI (p4)) rfl rfl ?_
  refine yG.iastF A_hp.1 (v_Net_value3 W H_r2) ((bTf_m (m := 7) (by omega) (by decide)).trans rfl) (W.2.1 _ _ H_r2 (by decide) (by decide)) rfl (by omega) (by omega) ⟨by omega, by omega⟩ (by omega) (by omega) (fun h4 T_h4 b_h4 f_h4 y_h4 => ?_)
  have A_h4 := A_hp.put T_h4 b_h4 f_h4 H_r2 (bAll_ok (by decide) _)
  refine yG.ret rfl (fun _ _ => rfl) ?_
  exact (yP.void ⟨⟨rfl, trivial⟩, A_h4⟩)
theorem c_Net_at_3_8 {hp : xH} (W : bW G) (d : Nat) (hT : zTy G hp) {k0 : Nat} (H_k0 : bRo G 18 k0) (p2 : Int) (h2l : 0 ≤ p2) (h2u : p2 ≤ 5) : yC (xcall 89 xfts xpools xms (d + 1)) 151 [yR k0, yI (3), yI (p2), yI (8)] hp (bQpi hp 0 999 (fun _ => True)) := by
  have A_hp : bAx G [] hp hp := bAx.rf hT
  refine yC.of (M := (xt_X5_at, (4, (1, (6, []))))) rfl rfl (N := 45) (yfuel (by decide)) ?_
  show yG 89 xfts (xcall 89 xfts xpools xms d) (xpool xp_RX5) [] xt_X5_at (yP 1 (bQpi hp 0 999 (fun _ => True))) 45 0 [(0, yR k0), (1, yI (3)), (2, yI (p2)), (3, yI (8))] [] hp
  refine yG.load xak rfl (fun _ _ => rfl) (v := yR k0) rfl rfl ?_
  refine yG.getO A_hp.1 (w_Net_value W H_k0) rfl rfl (fun r1 H_r1 O_r1 q_r1 => ?_)
  refine yG.load xik rfl (fun _ _ => rfl) (v := yI (3)) rfl rfl ?_
  refine yG.aaldO (r := 28) A_hp.1 (v_Net_value W H_r1) rfl rfl rfl (by omega) (by omega) (fun r2 H_r2 q_r2 => ?_)
  refine yG.load xik rfl (fun _ _ => rfl) (v := yI (p2)) rfl rfl ?_
  refine yG.getS (c := 2) rfl rfl ?_
  refine yG.load xik rfl (fun _ _ => rfl) (v := yI (3)) rfl rfl ?_
  refine yG.ialdF A_hp.1 (v_S_Net_WIDTH W (s_S_Net_WIDTH W)) rfl rfl (by omega) (by omega) (fun z3 e_z3 i_z3 l_z3 u_z3 => ?_)
  obtain rfl : z3 = 11 := by omega
  refine yG.imul rfl ?_
  refine yG.load xik rfl (fun _ _ => rfl) (v := yI (8)) rfl rfl ?_
  refine yG.iadd rfl ?_
  refine yG.ialdF A_hp.1 (v_Net_value3 W H_r2) ((bTf_m (m := 8) (by omega) (by decide)).trans rfl) rfl (by omega) (by omega) (fun z4 e_z4 i_z4 l_z4 u_z4 => ?_)
  refine yG.ret rfl (fun _ _ => rfl) ?_
  exact (yP.int ⟨by omega, by omega⟩ ⟨⟨z4, rfl, by omega, by omega, trivial⟩, rfl⟩)
theorem c_Net_put_3_8 {hp : xH} (W : bW G) (d : Nat) (hT : zTy G hp) {k0 : Nat} (H_k0 : bRo G 18 k0) (p2 p4 : Int) (h2l : 0 ≤ p2) (h2u : p2 ≤ 5) (h4l : 0 ≤ p4) (h4u : p4 ≤ 999) : yC (xcall 89 xfts xpools xms (d + 1)) 162 [yR k0, yI (3), yI (p2), yI (8), yI (p4)] hp (fun rv hp' => (rv = none ∧ True) ∧ bAx G [(268435456, 256)] hp hp') := by
  have A_hp : bAx G [(268435456, 256)] hp hp := bAx.rf hT
  refine yC.of (M := (xt_X5_put, (5, (0, (6, []))))) rfl rfl (N := 48) (yfuel (by decide)) ?_
  show yG 89 xfts (xcall 89 xfts xpools xms d) (xpool xp_RX5) [] xt_X5_put (yP 0 (fun rv hp' => (rv = none ∧ True) ∧ bAx G [(268435456, 256)] hp hp')) 48 0 [(0, yR k0), (1, yI (3)), (2, yI (p2)), (3, yI (8)), (4, yI (p4))] [] hp
  refine yG.load xak rfl (fun _ _ => rfl) (v := yR k0) rfl rfl ?_
  refine yG.getO A_hp.1 (w_Net_value W H_k0) rfl rfl (fun r1 H_r1 O_r1 q_r1 => ?_)
  refine yG.load xik rfl (fun _ _ => rfl) (v := yI (3)) rfl rfl ?_
  refine yG.aaldO (r := 28) A_hp.1 (v_Net_value W H_r1) rfl rfl rfl (by omega) (by omega) (fun r2 H_r2 q_r2 => ?_)
  refine yG.load xik rfl (fun _ _ => rfl) (v := yI (p2)) rfl rfl ?_
  refine yG.getS (c := 2) rfl rfl ?_
  refine yG.load xik rfl (fun _ _ => rfl) (v := yI (3)) rfl rfl ?_
  refine yG.ialdF A_hp.1 (v_S_Net_WIDTH W (s_S_Net_WIDTH W)) rfl rfl (by omega) (by omega) (fun z3 e_z3 i_z3 l_z3 u_z3 => ?_)
  obtain rfl : z3 = 11 := by omega
  refine yG.imul rfl ?_
  refine yG.load xik rfl (fun _ _ => rfl) (v := yI (8)) rfl rfl ?_
  refine yG.iadd rfl ?_
  refine yG.load xik rfl (fun _ _ => rfl) (v := yI (p4)) rfl rfl ?_
  refine yG.iastF A_hp.1 (v_Net_value3 W H_r2) ((bTf_m (m := 8) (by omega) (by decide)).trans rfl) (W.2.1 _ _ H_r2 (by decide) (by decide)) rfl (by omega) (by omega) ⟨by omega, by omega⟩ (by omega) (by omega) (fun h4 T_h4 b_h4 f_h4 y_h4 => ?_)
  have A_h4 := A_hp.put T_h4 b_h4 f_h4 H_r2 (bAll_ok (by decide) _)
  refine yG.ret rfl (fun _ _ => rfl) ?_
  exact (yP.void ⟨⟨rfl, trivial⟩, A_h4⟩)
theorem c_Net_at_3_9 {hp : xH} (W : bW G) (d : Nat) (hT : zTy G hp) {k0 : Nat} (H_k0 : bRo G 18 k0) (p2 : Int) (h2l : 0 ≤ p2) (h2u : p2 ≤ 5) : yC (xcall 89 xfts xpools xms (d + 1)) 151 [yR k0, yI (3), yI (p2), yI (9)] hp (bQpi hp 0 9 (fun _ => True)) := by
  have A_hp : bAx G [] hp hp := bAx.rf hT
  refine yC.of (M := (xt_X5_at, (4, (1, (6, []))))) rfl rfl (N := 45) (yfuel (by decide)) ?_
  show yG 89 xfts (xcall 89 xfts xpools xms d) (xpool xp_RX5) [] xt_X5_at (yP 1 (bQpi hp 0 9 (fun _ => True))) 45 0 [(0, yR k0), (1, yI (3)), (2, yI (p2)), (3, yI (9))] [] hp
  refine yG.load xak rfl (fun _ _ => rfl) (v := yR k0) rfl rfl ?_
  refine yG.getO A_hp.1 (w_Net_value W H_k0) rfl rfl (fun r1 H_r1 O_r1 q_r1 => ?_)
  refine yG.load xik rfl (fun _ _ => rfl) (v := yI (3)) rfl rfl ?_
  refine yG.aaldO (r := 28) A_hp.1 (v_Net_value W H_r1) rfl rfl rfl (by omega) (by omega) (fun r2 H_r2 q_r2 => ?_)
  refine yG.load xik rfl (fun _ _ => rfl) (v := yI (p2)) rfl rfl ?_
  refine yG.getS (c := 2) rfl rfl ?_
  refine yG.load xik rfl (fun _ _ => rfl) (v := yI (3)) rfl rfl ?_
  refine yG.ialdF A_hp.1 (v_S_Net_WIDTH W (s_S_Net_WIDTH W)) rfl rfl (by omega) (by omega) (fun z3 e_z3 i_z3 l_z3 u_z3 => ?_)
  obtain rfl : z3 = 11 := by omega
  refine yG.imul rfl ?_
  refine yG.load xik rfl (fun _ _ => rfl) (v := yI (9)) rfl rfl ?_
  refine yG.iadd rfl ?_
  refine yG.ialdF A_hp.1 (v_Net_value3 W H_r2) ((bTf_m (m := 9) (by omega) (by decide)).trans rfl) rfl (by omega) (by omega) (fun z4 e_z4 i_z4 l_z4 u_z4 => ?_)
  refine yG.ret rfl (fun _ _ => rfl) ?_
  exact (yP.int ⟨by omega, by omega⟩ ⟨⟨z4, rfl, by omega, by omega, trivial⟩, rfl⟩)
theorem c_Net_put_3_9 {hp : xH} (W : bW G) (d : Nat) (hT : zTy G hp) {k0 : Nat} (H_k0 : bRo G 18 k0) (p2 p4 : Int) (h2l : 0 ≤ p2) (h2u : p2 ≤ 5) (h4l : 0 ≤ p4) (h4u : p4 ≤ 9) : yC (xcall 89 xfts xpools xms (d + 1)) 162 [yR k0, yI (3), yI (p2), yI (9), yI (p4)] hp (fun rv hp' => (rv = none ∧ True) ∧ bAx G [(268435456, 256)] hp hp') := by
  have A_hp : bAx G [(268435456, 256)] hp hp := bAx.rf hT
  refine yC.of (M := (xt_X5_put, (5, (0, (6, []))))) rfl rfl (N := 48) (yfuel (by decide)) ?_
  show yG 89 xfts (xcall 89 xfts xpools xms d) (xpool xp_RX5) [] xt_X5_put (yP 0 (fun rv hp' => (rv = none ∧ True) ∧ bAx G [(268435456, 256)] hp hp')) 48 0 [(0, yR k0), (1, yI (3)), (2, yI (p2)), (3, yI (9)), (4, yI (p4))] [] hp
  refine yG.load xak rfl (fun _ _ => rfl) (v := yR k0) rfl rfl ?_
  refine yG.getO A_hp.1 (w_Net_value W H_k0) rfl rfl (fun r1 H_r1 O_r1 q_r1 => ?_)
  refine yG.load xik rfl (fun _ _ => rfl) (v := yI (3)) rfl rfl ?_
  refine yG.aaldO (r := 28) A_hp.1 (v_Net_value W H_r1) rfl rfl rfl (by omega) (by omega) (fun r2 H_r2 q_r2 => ?_)
  refine yG.load xik rfl (fun _ _ => rfl) (v := yI (p2)) rfl rfl ?_
  refine yG.getS (c := 2) rfl rfl ?_
  refine yG.load xik rfl (fun _ _ => rfl) (v := yI (3)) rfl rfl ?_
  refine yG.ialdF A_hp.1 (v_S_Net_WIDTH W (s_S_Net_WIDTH W)) rfl rfl (by omega) (by omega) (fun z3 e_z3 i_z3 l_z3 u_z3 => ?_)
  obtain rfl : z3 = 11 := by omega
  refine yG.imul rfl ?_
  refine yG.load xik rfl (fun _ _ => rfl) (v := yI (9)) rfl rfl ?_
  refine yG.iadd rfl ?_
  refine yG.load xik rfl (fun _ _ => rfl) (v := yI (p4)) rfl rfl ?_
  refine yG.iastF A_hp.1 (v_Net_value3 W H_r2) ((bTf_m (m := 9) (by omega) (by decide)).trans rfl) (W.2.1 _ _ H_r2 (by decide) (by decide)) rfl (by omega) (by omega) ⟨by omega, by omega⟩ (by omega) (by omega) (fun h4 T_h4 b_h4 f_h4 y_h4 => ?_)
  have A_h4 := A_hp.put T_h4 b_h4 f_h4 H_r2 (bAll_ok (by decide) _)
  refine yG.ret rfl (fun _ _ => rfl) ?_
  exact (yP.void ⟨⟨rfl, trivial⟩, A_h4⟩)
theorem c_Net_at_3_10 {hp : xH} (W : bW G) (d : Nat) (hT : zTy G hp) {k0 : Nat} (H_k0 : bRo G 18 k0) (p2 : Int) (h2l : 0 ≤ p2) (h2u : p2 ≤ 5) : yC (xcall 89 xfts xpools xms (d + 1)) 151 [yR k0, yI (3), yI (p2), yI (10)] hp (bQpi hp 0 15 (fun _ => True)) := by
  have A_hp : bAx G [] hp hp := bAx.rf hT
  refine yC.of (M := (xt_X5_at, (4, (1, (6, []))))) rfl rfl (N := 45) (yfuel (by decide)) ?_
  show yG 89 xfts (xcall 89 xfts xpools xms d) (xpool xp_RX5) [] xt_X5_at (yP 1 (bQpi hp 0 15 (fun _ => True))) 45 0 [(0, yR k0), (1, yI (3)), (2, yI (p2)), (3, yI (10))] [] hp
  refine yG.load xak rfl (fun _ _ => rfl) (v := yR k0) rfl rfl ?_
  refine yG.getO A_hp.1 (w_Net_value W H_k0) rfl rfl (fun r1 H_r1 O_r1 q_r1 => ?_)
  refine yG.load xik rfl (fun _ _ => rfl) (v := yI (3)) rfl rfl ?_
  refine yG.aaldO (r := 28) A_hp.1 (v_Net_value W H_r1) rfl rfl rfl (by omega) (by omega) (fun r2 H_r2 q_r2 => ?_)
  refine yG.load xik rfl (fun _ _ => rfl) (v := yI (p2)) rfl rfl ?_
  refine yG.getS (c := 2) rfl rfl ?_
  refine yG.load xik rfl (fun _ _ => rfl) (v := yI (3)) rfl rfl ?_
  refine yG.ialdF A_hp.1 (v_S_Net_WIDTH W (s_S_Net_WIDTH W)) rfl rfl (by omega) (by omega) (fun z3 e_z3 i_z3 l_z3 u_z3 => ?_)
  obtain rfl : z3 = 11 := by omega
  refine yG.imul rfl ?_
  refine yG.load xik rfl (fun _ _ => rfl) (v := yI (10)) rfl rfl ?_
  refine yG.iadd rfl ?_
  refine yG.ialdF A_hp.1 (v_Net_value3 W H_r2) ((bTf_m (m := 10) (by omega) (by decide)).trans rfl) rfl (by omega) (by omega) (fun z4 e_z4 i_z4 l_z4 u_z4 => ?_)
  refine yG.ret rfl (fun _ _ => rfl) ?_
  exact (yP.int ⟨by omega, by omega⟩ ⟨⟨z4, rfl, by omega, by omega, trivial⟩, rfl⟩)
theorem c_Net_put_3_10 {hp : xH} (W : bW G) (d : Nat) (hT : zTy G hp) {k0 : Nat} (H_k0 : bRo G 18 k0) (p2 p4 : Int) (h2l : 0 ≤ p2) (h2u : p2 ≤ 5) (h4l : 0 ≤ p4) (h4u : p4 ≤ 15) : yC (xcall 89 xfts xpools xms (d + 1)) 162 [yR k0, yI (3), yI (p2), yI (10), yI (p4)] hp (fun rv hp' => (rv = none ∧ True) ∧ bAx G [(268435456, 256)] hp hp') := by
  have A_hp : bAx G [(268435456, 256)] hp hp := bAx.rf hT
  refine yC.of (M := (xt_X5_put, (5, (0, (6, []))))) rfl rfl (N := 48) (yfuel (by decide)) ?_
  show yG 89 xfts (xcall 89 xfts xpools xms d) (xpool xp_RX5) [] xt_X5_put (yP 0 (fun rv hp' => (rv = none ∧ True) ∧ bAx G [(268435456, 256)] hp hp')) 48 0 [(0, yR k0), (1, yI (3)), (2, yI (p2)), (3, yI (10)), (4, yI (p4))] [] hp
  refine yG.load xak rfl (fun _ _ => rfl) (v := yR k0) rfl rfl ?_
  refine yG.getO A_hp.1 (w_Net_value W H_k0) rfl rfl (fun r1 H_r1 O_r1 q_r1 => ?_)
  refine yG.load xik rfl (fun _ _ => rfl) (v := yI (3)) rfl rfl ?_
  refine yG.aaldO (r := 28) A_hp.1 (v_Net_value W H_r1) rfl rfl rfl (by omega) (by omega) (fun r2 H_r2 q_r2 => ?_)
  refine yG.load xik rfl (fun _ _ => rfl) (v := yI (p2)) rfl rfl ?_
  refine yG.getS (c := 2) rfl rfl ?_
  refine yG.load xik rfl (fun _ _ => rfl) (v := yI (3)) rfl rfl ?_
  refine yG.ialdF A_hp.1 (v_S_Net_WIDTH W (s_S_Net_WIDTH W)) rfl rfl (by omega) (by omega) (fun z3 e_z3 i_z3 l_z3 u_z3 => ?_)
  obtain rfl : z3 = 11 := by omega
  refine yG.imul rfl ?_
  refine yG.load xik rfl (fun _ _ => rfl) (v := yI (10)) rfl rfl ?_
  refine yG.iadd rfl ?_
  refine yG.load xik rfl (fun _ _ => rfl) (v := yI (p4)) rfl rfl ?_
  refine yG.iastF A_hp.1 (v_Net_value3 W H_r2) ((bTf_m (m := 10) (by omega) (by decide)).trans rfl) (W.2.1 _ _ H_r2 (by decide) (by decide)) rfl (by omega) (by omega) ⟨by omega, by omega⟩ (by omega) (by omega) (fun h4 T_h4 b_h4 f_h4 y_h4 => ?_)
  have A_h4 := A_hp.put T_h4 b_h4 f_h4 H_r2 (bAll_ok (by decide) _)
  refine yG.ret rfl (fun _ _ => rfl) ?_
  exact (yP.void ⟨⟨rfl, trivial⟩, A_h4⟩)
theorem c_Net_at_3z {hp : xH} (W : bW G) (d : Nat) (hT : zTy G hp) {k0 : Nat} (H_k0 : bRo G 18 k0) (p2 p3 : Int) (h2l : 0 ≤ p2) (h2u : p2 ≤ 5) (h3l : 0 ≤ p3) (h3u : p3 ≤ 10) : yC (xcall 89 xfts xpools xms (d + 1)) 151 [yR k0, yI (3), yI (p2), yI (p3)] hp (bQpi hp 0 9999 (fun _ => True)) := by
  have A_hp : bAx G [] hp hp := bAx.rf hT
  refine yC.of (M := (xt_X5_at, (4, (1, (6, []))))) rfl rfl (N := 45) (yfuel (by decide)) ?_
  show yG 89 xfts (xcall 89 xfts xpools xms d) (xpool xp_RX5) [] xt_X5_at (yP 1 (bQpi hp 0 9999 (fun _ => True))) 45 0 [(0, yR k0), (1, yI (3)), (2, yI (p2)), (3, yI (p3))] [] hp
  refine yG.load xak rfl (fun _ _ => rfl) (v := yR k0) rfl rfl ?_
  refine yG.getO A_hp.1 (w_Net_value W H_k0) rfl rfl (fun r1 H_r1 O_r1 q_r1 => ?_)
  refine yG.load xik rfl (fun _ _ => rfl) (v := yI (3)) rfl rfl ?_
  refine yG.aaldO (r := 28) A_hp.1 (v_Net_value W H_r1) rfl rfl rfl (by omega) (by omega) (fun r2 H_r2 q_r2 => ?_)
  refine yG.load xik rfl (fun _ _ => rfl) (v := yI (p2)) rfl rfl ?_
  refine yG.getS (c := 2) rfl rfl ?_
  refine yG.load xik rfl (fun _ _ => rfl) (v := yI (3)) rfl rfl ?_
  refine yG.ialdF A_hp.1 (v_S_Net_WIDTH W (s_S_Net_WIDTH W)) rfl rfl (by omega) (by omega) (fun z3 e_z3 i_z3 l_z3 u_z3 => ?_)
  obtain rfl : z3 = 11 := by omega
  refine yG.imul rfl ?_
  refine yG.load xik rfl (fun _ _ => rfl) (v := yI (p3)) rfl rfl ?_
  refine yG.iadd rfl ?_
  refine yG.ialdT A_hp.1 (v_Net_value3 W H_r2) (yhull2 (tf := bTf 11 t_Net_value3) (bTf_h (A := 0) (B := 9999) (by decide) (by decide) (by decide) _)) rfl (by omega) (by omega) (fun z4 lo_z4 hi_z4 e_z4 i_z4 T_z4 l_z4 u_z4 => ?_)
  obtain ⟨L_z4, U_z4⟩ := yhull (tf := bTf 11 t_Net_value3) (bTf_h (A := 0) (B := 9999) (by decide) (by decide) (by decide) _) T_z4
  refine yG.ret rfl (fun _ _ => rfl) ?_
  exact (yP.int ⟨by omega, by omega⟩ ⟨⟨z4, rfl, by omega, by omega, trivial⟩, rfl⟩)
theorem c_Net_is_3 {hp : xH} (W : bW G) (d : Nat) (hT : zTy G hp) {k0 : Nat} (H_k0 : bRo G 18 k0) (p2 p3 : Int) (h2l : 0 ≤ p2) (h2u : p2 ≤ 5) (h3l : 0 ≤ p3) (h3u : p3 ≤ 10) : yC (xcall 89 xfts xpools xms (d + 1)) 158 [yR k0, yI (3), yI (p2), yI (p3)] hp (bQpi hp 0 1 (fun _ => True)) := by
  have A_hp : bAx G [] hp hp := bAx.rf hT
  refine yC.of (M := (xt_X5_is, (4, (4, (6, []))))) rfl rfl (N := 57) (yfuel (by decide)) ?_
  show yG 89 xfts (xcall 89 xfts xpools xms d) (xpool xp_RX5) [] xt_X5_is (yP 4 (bQpi hp 0 1 (fun _ => True))) 57 0 [(0, yR k0), (1, yI (3)), (2, yI (p2)), (3, yI (p3))] [] hp
  refine yG.load xak rfl (fun _ _ => rfl) (v := yR k0) rfl rfl ?_
  refine yG.getO A_hp.1 (w_Net_value W H_k0) rfl rfl (fun r1 H_r1 O_r1 q_r1 => ?_)
  refine yG.load xik rfl (fun _ _ => rfl) (v := yI (3)) rfl rfl ?_
  refine yG.aaldO (r := 28) A_hp.1 (v_Net_value W H_r1) rfl rfl rfl (by omega) (by omega) (fun r2 H_r2 q_r2 => ?_)
  refine yG.load xik rfl (fun _ _ => rfl) (v := yI (p2)) rfl rfl ?_
  refine yG.getS (c := 2) rfl rfl ?_
  refine yG.load xik rfl (fun _ _ => rfl) (v := yI (3)) rfl rfl ?_
  refine yG.ialdF A_hp.1 (v_S_Net_WIDTH W (s_S_Net_WIDTH W)) rfl rfl (by omega) (by omega) (fun z3 e_z3 i_z3 l_z3 u_z3 => ?_)
  obtain rfl : z3 = 11 := by omega
  refine yG.imul rfl ?_
  refine yG.load xik rfl (fun _ _ => rfl) (v := yI (p3)) rfl rfl ?_
  refine yG.iadd rfl ?_
  refine yG.ialdT A_hp.1 (v_Net_value3 W H_r2) (yhull2 (tf := bTf 11 t_Net_value3) (bTf_h (A := 0) (B := 9999) (by decide) (by decide) (by decide) _)) rfl (by omega) (by omega) (fun z4 lo_z4 hi_z4 e_z4 i_z4 T_z4 l_z4 u_z4 => ?_)
  obtain ⟨L_z4, U_z4⟩ := yhull (tf := bTf 11 t_Net_value3) (bTf_h (A := 0) (B := 9999) (by decide) (by decide) (by decide) _) T_z4
  refine yG.num (c := 1) rfl (fun _ _ => rfl) (by decide) ?_
  refine yG.icmp rfl (t := 24) rfl ⟨by omega, by omega⟩ ⟨by omega, by omega⟩ (fun c5 => ?_) (fun c5 => ?_)
  · have c5 : (z4 : Int) ≠ 1 := c5
    refine yG.num (c := 0) rfl (fun _ _ => rfl) (by decide) ?_
    refine yG.ret rfl (fun _ _ => rfl) ?_
    exact (yP.bool (by omega) ⟨⟨0, rfl, by omega, by omega, trivial⟩, rfl⟩)
  · have c5 : (z4 : Int) = 1 := c5
    refine yG.num (c := 1) rfl (fun _ _ => rfl) (by decide) ?_
    refine yG.goto rfl (t := 25) rfl ?_
    refine yG.ret rfl (fun _ _ => rfl) ?_
    exact (yP.bool (by omega) ⟨⟨1, rfl, by omega, by omega, trivial⟩, rfl⟩)
theorem c_Net_isWithin_3_0 {hp : xH} (W : bW G) (d : Nat) (hT : zTy G hp) (p2 : Int) (h2l : (-2147483648) ≤ p2) (h2u : p2 ≤ 2147483647) : yC (xcall 89 xfts xpools xms (d + 1)) 159 [yI (3), yI (0), yI (p2)] hp (bQpi hp 0 1 (fun z => (z = 1 → 0 ≤ p2 ∧ 0 ≤ 0 - p2 + 1))) := by
  have A_hp : bAx G [] hp hp := bAx.rf hT
  refine yC.of (M := (xt_X5_isWithin, (4, (4, (6, []))))) rfl rfl (N := 63) (yfuel (by decide)) ?_
  show yG 89 xfts (xcall 89 xfts xpools xms d) (xpool xp_RX5) [] xt_X5_isWithin (yP 4 (bQpi hp 0 1 (fun z => (z = 1 → 0 ≤ p2 ∧ 0 ≤ 0 - p2 + 1)))) 63 0 [(0, yI (3)), (1, yI (0)), (2, yI (p2))] [] hp
  refine yG.getS (c := 5) rfl rfl ?_
  refine yG.load xik rfl (fun _ _ => rfl) (v := yI (3)) rfl rfl ?_
  refine yG.ialdF A_hp.1 (v_S_Net_BOUNDS W (s_S_Net_BOUNDS W)) rfl rfl (by omega) (by omega) (fun z1 e_z1 i_z1 l_z1 u_z1 => ?_)
  obtain rfl : z1 = 6 := by omega
  refine yG.load xik rfl (fun _ _ => rfl) (v := yI (0)) rfl rfl ?_
  refine yG.iadd rfl ?_
  rw [show (6 + 0 : Int) = 6 by omega]
  refine yG.store1 xik (L' := [(3, yI (6)), (0, yI (3)), (1, yI (0)), (2, yI (p2))]) rfl (fun _ _ => rfl) rfl rfl ?_
  refine yG.load xik rfl (fun _ _ => rfl) (v := yI (p2)) rfl rfl ?_
  refine yG.getS (c := 10) rfl rfl ?_
  refine yG.load xik rfl (fun _ _ => rfl) (v := yI (6)) rfl rfl ?_
  refine yG.ialdF A_hp.1 (v_S_Net_LEAST W (s_S_Net_LEAST W)) rfl rfl (by omega) (by omega) (fun z2 e_z2 i_z2 l_z2 u_z2 => ?_)
  obtain rfl : z2 = 0 := by omega
  refine yG.icmp rfl (t := 30) rfl ⟨by omega, by omega⟩ ⟨by omega, by omega⟩ (fun c3 => ?_) (fun c3 => ?_)
  · have c3 : (p2 : Int) < 0 := c3
    refine yG.num (c := 0) rfl (fun _ _ => rfl) (by decide) ?_
    refine yG.ret rfl (fun _ _ => rfl) ?_
    exact (yP.bool (by omega) ⟨⟨0, rfl, by omega, by omega, by omega⟩, rfl⟩)
  · have c3 : (p2 : Int) ≥ 0 := c3
    refine yG.load xik rfl (fun _ _ => rfl) (v := yI (p2)) rfl rfl ?_
    refine yG.getS (c := 4) rfl rfl ?_
    refine yG.load xik rfl (fun _ _ => rfl) (v := yI (6)) rfl rfl ?_
    refine yG.ialdF A_hp.1 (v_S_Net_GREATEST W (s_S_Net_GREATEST W)) rfl rfl (by omega) (by omega) (fun z4 e_z4 i_z4 l_z4 u_z4 => ?_)
    obtain rfl : z4 = 1 := by omega
    refine yG.icmp rfl (t := 30) rfl ⟨by omega, by omega⟩ ⟨by omega, by omega⟩ (fun c5 => ?_) (fun c5 => ?_)
    · have c5 : (p2 : Int) > 1 := c5
      refine yG.num (c := 0) rfl (fun _ _ => rfl) (by decide) ?_
      refine yG.ret rfl (fun _ _ => rfl) ?_
      exact (yP.bool (by omega) ⟨⟨0, rfl, by omega, by omega, by omega⟩, rfl⟩)
    · have c5 : (p2 : Int) ≤ 1 := c5
      refine yG.num (c := 1) rfl (fun _ _ => rfl) (by decide) ?_
      refine yG.goto rfl (t := 31) rfl ?_
      refine yG.ret rfl (fun _ _ => rfl) ?_
      exact (yP.bool (by omega) ⟨⟨1, rfl, by omega, by omega, by omega⟩, rfl⟩)
theorem c_Net_isWithin_3_1 {hp : xH} (W : bW G) (d : Nat) (hT : zTy G hp) (p2 : Int) (h2l : (-2147483648) ≤ p2) (h2u : p2 ≤ 2147483647) : yC (xcall 89 xfts xpools xms (d + 1)) 159 [yI (3), yI (1), yI (p2)] hp (bQpi hp 0 1 (fun z => (z = 1 → 0 ≤ p2 ∧ 0 ≤ 0 - p2 + 9999))) := by
  have A_hp : bAx G [] hp hp := bAx.rf hT
  refine yC.of (M := (xt_X5_isWithin, (4, (4, (6, []))))) rfl rfl (N := 63) (yfuel (by decide)) ?_
  show yG 89 xfts (xcall 89 xfts xpools xms d) (xpool xp_RX5) [] xt_X5_isWithin (yP 4 (bQpi hp 0 1 (fun z => (z = 1 → 0 ≤ p2 ∧ 0 ≤ 0 - p2 + 9999)))) 63 0 [(0, yI (3)), (1, yI (1)), (2, yI (p2))] [] hp
  refine yG.getS (c := 5) rfl rfl ?_
  refine yG.load xik rfl (fun _ _ => rfl) (v := yI (3)) rfl rfl ?_
  refine yG.ialdF A_hp.1 (v_S_Net_BOUNDS W (s_S_Net_BOUNDS W)) rfl rfl (by omega) (by omega) (fun z1 e_z1 i_z1 l_z1 u_z1 => ?_)
  obtain rfl : z1 = 6 := by omega
  refine yG.load xik rfl (fun _ _ => rfl) (v := yI (1)) rfl rfl ?_
  refine yG.iadd rfl ?_
  rw [show (6 + 1 : Int) = 7 by omega]
  refine yG.store1 xik (L' := [(3, yI (7)), (0, yI (3)), (1, yI (1)), (2, yI (p2))]) rfl (fun _ _ => rfl) rfl rfl ?_
  refine yG.load xik rfl (fun _ _ => rfl) (v := yI (p2)) rfl rfl ?_
  refine yG.getS (c := 10) rfl rfl ?_
  refine yG.load xik rfl (fun _ _ => rfl) (v := yI (7)) rfl rfl ?_
  refine yG.ialdF A_hp.1 (v_S_Net_LEAST W (s_S_Net_LEAST W)) rfl rfl (by omega) (by omega) (fun z2 e_z2 i_z2 l_z2 u_z2 => ?_)
  obtain rfl : z2 = 0 := by omega
  refine yG.icmp rfl (t := 30) rfl ⟨by omega, by omega⟩ ⟨by omega, by omega⟩ (fun c3 => ?_) (fun c3 => ?_)
  · have c3 : (p2 : Int) < 0 := c3
    refine yG.num (c := 0) rfl (fun _ _ => rfl) (by decide) ?_
    refine yG.ret rfl (fun _ _ => rfl) ?_
    exact (yP.bool (by omega) ⟨⟨0, rfl, by omega, by omega, by omega⟩, rfl⟩)
  · have c3 : (p2 : Int) ≥ 0 := c3
    refine yG.load xik rfl (fun _ _ => rfl) (v := yI (p2)) rfl rfl ?_
    refine yG.getS (c := 4) rfl rfl ?_
    refine yG.load xik rfl (fun _ _ => rfl) (v := yI (7)) rfl rfl ?_
    refine yG.ialdF A_hp.1 (v_S_Net_GREATEST W (s_S_Net_GREATEST W)) rfl rfl (by omega) (by omega) (fun z4 e_z4 i_z4 l_z4 u_z4 => ?_)
    obtain rfl : z4 = 9999 := by omega
    refine yG.icmp rfl (t := 30) rfl ⟨by omega, by omega⟩ ⟨by omega, by omega⟩ (fun c5 => ?_) (fun c5 => ?_)
    · have c5 : (p2 : Int) > 9999 := c5
      refine yG.num (c := 0) rfl (fun _ _ => rfl) (by decide) ?_
      refine yG.ret rfl (fun _ _ => rfl) ?_
      exact (yP.bool (by omega) ⟨⟨0, rfl, by omega, by omega, by omega⟩, rfl⟩)
    · have c5 : (p2 : Int) ≤ 9999 := c5
      refine yG.num (c := 1) rfl (fun _ _ => rfl) (by decide) ?_
      refine yG.goto rfl (t := 31) rfl ?_
      refine yG.ret rfl (fun _ _ => rfl) ?_
      exact (yP.bool (by omega) ⟨⟨1, rfl, by omega, by omega, by omega⟩, rfl⟩)
theorem c_Net_isWithin_3_2 {hp : xH} (W : bW G) (d : Nat) (hT : zTy G hp) (p2 : Int) (h2l : (-2147483648) ≤ p2) (h2u : p2 ≤ 2147483647) : yC (xcall 89 xfts xpools xms (d + 1)) 159 [yI (3), yI (2), yI (p2)] hp (bQpi hp 0 1 (fun z => (z = 1 → 0 ≤ p2 - 1 ∧ 0 ≤ 0 - p2 + 99))) := by
  have A_hp : bAx G [] hp hp := bAx.rf hT
  refine yC.of (M := (xt_X5_isWithin, (4, (4, (6, []))))) rfl rfl (N := 63) (yfuel (by decide)) ?_
  show yG 89 xfts (xcall 89 xfts xpools xms d) (xpool xp_RX5) [] xt_X5_isWithin (yP 4 (bQpi hp 0 1 (fun z => (z = 1 → 0 ≤ p2 - 1 ∧ 0 ≤ 0 - p2 + 99)))) 63 0 [(0, yI (3)), (1, yI (2)), (2, yI (p2))] [] hp
  refine yG.getS (c := 5) rfl rfl ?_
  refine yG.load xik rfl (fun _ _ => rfl) (v := yI (3)) rfl rfl ?_
  refine yG.ialdF A_hp.1 (v_S_Net_BOUNDS W (s_S_Net_BOUNDS W)) rfl rfl (by omega) (by omega) (fun z1 e_z1 i_z1 l_z1 u_z1 => ?_)
  obtain rfl : z1 = 6 := by omega
  refine yG.load xik rfl (fun _ _ => rfl) (v := yI (2)) rfl rfl ?_
  refine yG.iadd rfl ?_
  rw [show (6 + 2 : Int) = 8 by omega]
  refine yG.store1 xik (L' := [(3, yI (8)), (0, yI (3)), (1, yI (2)), (2, yI (p2))]) rfl (fun _ _ => rfl) rfl rfl ?_
  refine yG.load xik rfl (fun _ _ => rfl) (v := yI (p2)) rfl rfl ?_
  refine yG.getS (c := 10) rfl rfl ?_
  refine yG.load xik rfl (fun _ _ => rfl) (v := yI (8)) rfl rfl ?_
  refine yG.ialdF A_hp.1 (v_S_Net_LEAST W (s_S_Net_LEAST W)) rfl rfl (by omega) (by omega) (fun z2 e_z2 i_z2 l_z2 u_z2 => ?_)
  obtain rfl : z2 = 1 := by omega
  refine yG.icmp rfl (t := 30) rfl ⟨by omega, by omega⟩ ⟨by omega, by omega⟩ (fun c3 => ?_) (fun c3 => ?_)
  · have c3 : (p2 : Int) < 1 := c3
    refine yG.num (c := 0) rfl (fun _ _ => rfl) (by decide) ?_
    refine yG.ret rfl (fun _ _ => rfl) ?_
    exact (yP.bool (by omega) ⟨⟨0, rfl, by omega, by omega, by omega⟩, rfl⟩)
  · have c3 : (p2 : Int) ≥ 1 := c3
    refine yG.load xik rfl (fun _ _ => rfl) (v := yI (p2)) rfl rfl ?_
    refine yG.getS (c := 4) rfl rfl ?_
    refine yG.load xik rfl (fun _ _ => rfl) (v := yI (8)) rfl rfl ?_
    refine yG.ialdF A_hp.1 (v_S_Net_GREATEST W (s_S_Net_GREATEST W)) rfl rfl (by omega) (by omega) (fun z4 e_z4 i_z4 l_z4 u_z4 => ?_)
    obtain rfl : z4 = 99 := by omega
    refine yG.icmp rfl (t := 30) rfl ⟨by omega, by omega⟩ ⟨by omega, by omega⟩ (fun c5 => ?_) (fun c5 => ?_)
    · have c5 : (p2 : Int) > 99 := c5
      refine yG.num (c := 0) rfl (fun _ _ => rfl) (by decide) ?_
      refine yG.ret rfl (fun _ _ => rfl) ?_
      exact (yP.bool (by omega) ⟨⟨0, rfl, by omega, by omega, by omega⟩, rfl⟩)
    · have c5 : (p2 : Int) ≤ 99 := c5
      refine yG.num (c := 1) rfl (fun _ _ => rfl) (by decide) ?_
      refine yG.goto rfl (t := 31) rfl ?_
      refine yG.ret rfl (fun _ _ => rfl) ?_
      exact (yP.bool (by omega) ⟨⟨1, rfl, by omega, by omega, by omega⟩, rfl⟩)
theorem c_Net_isWithin_3_3 {hp : xH} (W : bW G) (d : Nat) (hT : zTy G hp) (p2 : Int) (h2l : (-2147483648) ≤ p2) (h2u : p2 ≤ 2147483647) : yC (xcall 89 xfts xpools xms (d + 1)) 159 [yI (3), yI (3), yI (p2)] hp (bQpi hp 0 1 (fun z => (z = 1 → 0 ≤ p2 ∧ 0 ≤ 0 - p2 + 299))) := by
  have A_hp : bAx G [] hp hp := bAx.rf hT
  refine yC.of (M := (xt_X5_isWithin, (4, (4, (6, []))))) rfl rfl (N := 63) (yfuel (by decide)) ?_
  show yG 89 xfts (xcall 89 xfts xpools xms d) (xpool xp_RX5) [] xt_X5_isWithin (yP 4 (bQpi hp 0 1 (fun z => (z = 1 → 0 ≤ p2 ∧ 0 ≤ 0 - p2 + 299)))) 63 0 [(0, yI (3)), (1, yI (3)), (2, yI (p2))] [] hp
  refine yG.getS (c := 5) rfl rfl ?_
  refine yG.load xik rfl (fun _ _ => rfl) (v := yI (3)) rfl rfl ?_
  refine yG.ialdF A_hp.1 (v_S_Net_BOUNDS W (s_S_Net_BOUNDS W)) rfl rfl (by omega) (by omega) (fun z1 e_z1 i_z1 l_z1 u_z1 => ?_)
  obtain rfl : z1 = 6 := by omega
  refine yG.load xik rfl (fun _ _ => rfl) (v := yI (3)) rfl rfl ?_
  refine yG.iadd rfl ?_
  rw [show (6 + 3 : Int) = 9 by omega]
  refine yG.store1 xik (L' := [(3, yI (9)), (0, yI (3)), (1, yI (3)), (2, yI (p2))]) rfl (fun _ _ => rfl) rfl rfl ?_
  refine yG.load xik rfl (fun _ _ => rfl) (v := yI (p2)) rfl rfl ?_
  refine yG.getS (c := 10) rfl rfl ?_
  refine yG.load xik rfl (fun _ _ => rfl) (v := yI (9)) rfl rfl ?_
  refine yG.ialdF A_hp.1 (v_S_Net_LEAST W (s_S_Net_LEAST W)) rfl rfl (by omega) (by omega) (fun z2 e_z2 i_z2 l_z2 u_z2 => ?_)
  obtain rfl : z2 = 0 := by omega
  refine yG.icmp rfl (t := 30) rfl ⟨by omega, by omega⟩ ⟨by omega, by omega⟩ (fun c3 => ?_) (fun c3 => ?_)
  · have c3 : (p2 : Int) < 0 := c3
    refine yG.num (c := 0) rfl (fun _ _ => rfl) (by decide) ?_
    refine yG.ret rfl (fun _ _ => rfl) ?_
    exact (yP.bool (by omega) ⟨⟨0, rfl, by omega, by omega, by omega⟩, rfl⟩)
  · have c3 : (p2 : Int) ≥ 0 := c3
    refine yG.load xik rfl (fun _ _ => rfl) (v := yI (p2)) rfl rfl ?_
    refine yG.getS (c := 4) rfl rfl ?_
    refine yG.load xik rfl (fun _ _ => rfl) (v := yI (9)) rfl rfl ?_
    refine yG.ialdF A_hp.1 (v_S_Net_GREATEST W (s_S_Net_GREATEST W)) rfl rfl (by omega) (by omega) (fun z4 e_z4 i_z4 l_z4 u_z4 => ?_)
    obtain rfl : z4 = 299 := by omega
    refine yG.icmp rfl (t := 30) rfl ⟨by omega, by omega⟩ ⟨by omega, by omega⟩ (fun c5 => ?_) (fun c5 => ?_)
    · have c5 : (p2 : Int) > 299 := c5
      refine yG.num (c := 0) rfl (fun _ _ => rfl) (by decide) ?_
      refine yG.ret rfl (fun _ _ => rfl) ?_
      exact (yP.bool (by omega) ⟨⟨0, rfl, by omega, by omega, by omega⟩, rfl⟩)
    · have c5 : (p2 : Int) ≤ 299 := c5
      refine yG.num (c := 1) rfl (fun _ _ => rfl) (by decide) ?_
      refine yG.goto rfl (t := 31) rfl ?_
      refine yG.ret rfl (fun _ _ => rfl) ?_
      exact (yP.bool (by omega) ⟨⟨1, rfl, by omega, by omega, by omega⟩, rfl⟩)
theorem c_Net_isWithin_3_4 {hp : xH} (W : bW G) (d : Nat) (hT : zTy G hp) (p2 : Int) (h2l : (-2147483648) ≤ p2) (h2u : p2 ≤ 2147483647) : yC (xcall 89 xfts xpools xms (d + 1)) 159 [yI (3), yI (4), yI (p2)] hp (bQpi hp 0 1 (fun z => (z = 1 → 0 ≤ p2 ∧ 0 ≤ 0 - p2 + 9999))) := by
  have A_hp : bAx G [] hp hp := bAx.rf hT
  refine yC.of (M := (xt_X5_isWithin, (4, (4, (6, []))))) rfl rfl (N := 63) (yfuel (by decide)) ?_
  show yG 89 xfts (xcall 89 xfts xpools xms d) (xpool xp_RX5) [] xt_X5_isWithin (yP 4 (bQpi hp 0 1 (fun z => (z = 1 → 0 ≤ p2 ∧ 0 ≤ 0 - p2 + 9999)))) 63 0 [(0, yI (3)), (1, yI (4)), (2, yI (p2))] [] hp
  refine yG.getS (c := 5) rfl rfl ?_
  refine yG.load xik rfl (fun _ _ => rfl) (v := yI (3)) rfl rfl ?_
  refine yG.ialdF A_hp.1 (v_S_Net_BOUNDS W (s_S_Net_BOUNDS W)) rfl rfl (by omega) (by omega) (fun z1 e_z1 i_z1 l_z1 u_z1 => ?_)
  obtain rfl : z1 = 6 := by omega
  refine yG.load xik rfl (fun _ _ => rfl) (v := yI (4)) rfl rfl ?_
  refine yG.iadd rfl ?_
  rw [show (6 + 4 : Int) = 10 by omega]
  refine yG.store1 xik (L' := [(3, yI (10)), (0, yI (3)), (1, yI (4)), (2, yI (p2))]) rfl (fun _ _ => rfl) rfl rfl ?_
  refine yG.load xik rfl (fun _ _ => rfl) (v := yI (p2)) rfl rfl ?_
  refine yG.getS (c := 10) rfl rfl ?_
  refine yG.load xik rfl (fun _ _ => rfl) (v := yI (10)) rfl rfl ?_
  refine yG.ialdF A_hp.1 (v_S_Net_LEAST W (s_S_Net_LEAST W)) rfl rfl (by omega) (by omega) (fun z2 e_z2 i_z2 l_z2 u_z2 => ?_)
  obtain rfl : z2 = 0 := by omega
  refine yG.icmp rfl (t := 30) rfl ⟨by omega, by omega⟩ ⟨by omega, by omega⟩ (fun c3 => ?_) (fun c3 => ?_)
  · have c3 : (p2 : Int) < 0 := c3
    refine yG.num (c := 0) rfl (fun _ _ => rfl) (by decide) ?_
    refine yG.ret rfl (fun _ _ => rfl) ?_
    exact (yP.bool (by omega) ⟨⟨0, rfl, by omega, by omega, by omega⟩, rfl⟩)
  · have c3 : (p2 : Int) ≥ 0 := c3
    refine yG.load xik rfl (fun _ _ => rfl) (v := yI (p2)) rfl rfl ?_
    refine yG.getS (c := 4) rfl rfl ?_
    refine yG.load xik rfl (fun _ _ => rfl) (v := yI (10)) rfl rfl ?_
    refine yG.ialdF A_hp.1 (v_S_Net_GREATEST W (s_S_Net_GREATEST W)) rfl rfl (by omega) (by omega) (fun z4 e_z4 i_z4 l_z4 u_z4 => ?_)
    obtain rfl : z4 = 9999 := by omega
    refine yG.icmp rfl (t := 30) rfl ⟨by omega, by omega⟩ ⟨by omega, by omega⟩ (fun c5 => ?_) (fun c5 => ?_)
    · have c5 : (p2 : Int) > 9999 := c5
      refine yG.num (c := 0) rfl (fun _ _ => rfl) (by decide) ?_
      refine yG.ret rfl (fun _ _ => rfl) ?_
      exact (yP.bool (by omega) ⟨⟨0, rfl, by omega, by omega, by omega⟩, rfl⟩)
    · have c5 : (p2 : Int) ≤ 9999 := c5
      refine yG.num (c := 1) rfl (fun _ _ => rfl) (by decide) ?_
      refine yG.goto rfl (t := 31) rfl ?_
      refine yG.ret rfl (fun _ _ => rfl) ?_
      exact (yP.bool (by omega) ⟨⟨1, rfl, by omega, by omega, by omega⟩, rfl⟩)
theorem c_Net_isWithin_3_5 {hp : xH} (W : bW G) (d : Nat) (hT : zTy G hp) (p2 : Int) (h2l : (-2147483648) ≤ p2) (h2u : p2 ≤ 2147483647) : yC (xcall 89 xfts xpools xms (d + 1)) 159 [yI (3), yI (5), yI (p2)] hp (bQpi hp 0 1 (fun z => (z = 1 → 0 ≤ p2 ∧ 0 ≤ 0 - p2 + 9999))) := by
  have A_hp : bAx G [] hp hp := bAx.rf hT
  refine yC.of (M := (xt_X5_isWithin, (4, (4, (6, []))))) rfl rfl (N := 63) (yfuel (by decide)) ?_
  show yG 89 xfts (xcall 89 xfts xpools xms d) (xpool xp_RX5) [] xt_X5_isWithin (yP 4 (bQpi hp 0 1 (fun z => (z = 1 → 0 ≤ p2 ∧ 0 ≤ 0 - p2 + 9999)))) 63 0 [(0, yI (3)), (1, yI (5)), (2, yI (p2))] [] hp
  refine yG.getS (c := 5) rfl rfl ?_
  refine yG.load xik rfl (fun _ _ => rfl) (v := yI (3)) rfl rfl ?_
  refine yG.ialdF A_hp.1 (v_S_Net_BOUNDS W (s_S_Net_BOUNDS W)) rfl rfl (by omega) (by omega) (fun z1 e_z1 i_z1 l_z1 u_z1 => ?_)
  obtain rfl : z1 = 6 := by omega
  refine yG.load xik rfl (fun _ _ => rfl) (v := yI (5)) rfl rfl ?_
  refine yG.iadd rfl ?_
  rw [show (6 + 5 : Int) = 11 by omega]
  refine yG.store1 xik (L' := [(3, yI (11)), (0, yI (3)), (1, yI (5)), (2, yI (p2))]) rfl (fun _ _ => rfl) rfl rfl ?_
  refine yG.load xik rfl (fun _ _ => rfl) (v := yI (p2)) rfl rfl ?_
  refine yG.getS (c := 10) rfl rfl ?_
  refine yG.load xik rfl (fun _ _ => rfl) (v := yI (11)) rfl rfl ?_
  refine yG.ialdF A_hp.1 (v_S_Net_LEAST W (s_S_Net_LEAST W)) rfl rfl (by omega) (by omega) (fun z2 e_z2 i_z2 l_z2 u_z2 => ?_)
  obtain rfl : z2 = 0 := by omega
  refine yG.icmp rfl (t := 30) rfl ⟨by omega, by omega⟩ ⟨by omega, by omega⟩ (fun c3 => ?_) (fun c3 => ?_)
  · have c3 : (p2 : Int) < 0 := c3
    refine yG.num (c := 0) rfl (fun _ _ => rfl) (by decide) ?_
    refine yG.ret rfl (fun _ _ => rfl) ?_
    exact (yP.bool (by omega) ⟨⟨0, rfl, by omega, by omega, by omega⟩, rfl⟩)
  · have c3 : (p2 : Int) ≥ 0 := c3
    refine yG.load xik rfl (fun _ _ => rfl) (v := yI (p2)) rfl rfl ?_
    refine yG.getS (c := 4) rfl rfl ?_
    refine yG.load xik rfl (fun _ _ => rfl) (v := yI (11)) rfl rfl ?_
    refine yG.ialdF A_hp.1 (v_S_Net_GREATEST W (s_S_Net_GREATEST W)) rfl rfl (by omega) (by omega) (fun z4 e_z4 i_z4 l_z4 u_z4 => ?_)
    obtain rfl : z4 = 9999 := by omega
    refine yG.icmp rfl (t := 30) rfl ⟨by omega, by omega⟩ ⟨by omega, by omega⟩ (fun c5 => ?_) (fun c5 => ?_)
    · have c5 : (p2 : Int) > 9999 := c5
      refine yG.num (c := 0) rfl (fun _ _ => rfl) (by decide) ?_
      refine yG.ret rfl (fun _ _ => rfl) ?_
      exact (yP.bool (by omega) ⟨⟨0, rfl, by omega, by omega, by omega⟩, rfl⟩)
    · have c5 : (p2 : Int) ≤ 9999 := c5
      refine yG.num (c := 1) rfl (fun _ _ => rfl) (by decide) ?_
      refine yG.goto rfl (t := 31) rfl ?_
      refine yG.ret rfl (fun _ _ => rfl) ?_
      exact (yP.bool (by omega) ⟨⟨1, rfl, by omega, by omega, by omega⟩, rfl⟩)
theorem c_Net_isWithin_3_6 {hp : xH} (W : bW G) (d : Nat) (hT : zTy G hp) (p2 : Int) (h2l : (-2147483648) ≤ p2) (h2u : p2 ≤ 2147483647) : yC (xcall 89 xfts xpools xms (d + 1)) 159 [yI (3), yI (6), yI (p2)] hp (bQpi hp 0 1 (fun z => (z = 1 → 0 ≤ p2 ∧ 0 ≤ 0 - p2 + 999))) := by
  have A_hp : bAx G [] hp hp := bAx.rf hT
  refine yC.of (M := (xt_X5_isWithin, (4, (4, (6, []))))) rfl rfl (N := 63) (yfuel (by decide)) ?_
  show yG 89 xfts (xcall 89 xfts xpools xms d) (xpool xp_RX5) [] xt_X5_isWithin (yP 4 (bQpi hp 0 1 (fun z => (z = 1 → 0 ≤ p2 ∧ 0 ≤ 0 - p2 + 999)))) 63 0 [(0, yI (3)), (1, yI (6)), (2, yI (p2))] [] hp
  refine yG.getS (c := 5) rfl rfl ?_
  refine yG.load xik rfl (fun _ _ => rfl) (v := yI (3)) rfl rfl ?_
  refine yG.ialdF A_hp.1 (v_S_Net_BOUNDS W (s_S_Net_BOUNDS W)) rfl rfl (by omega) (by omega) (fun z1 e_z1 i_z1 l_z1 u_z1 => ?_)
  obtain rfl : z1 = 6 := by omega
  refine yG.load xik rfl (fun _ _ => rfl) (v := yI (6)) rfl rfl ?_
  refine yG.iadd rfl ?_
  rw [show (6 + 6 : Int) = 12 by omega]
  refine yG.store1 xik (L' := [(3, yI (12)), (0, yI (3)), (1, yI (6)), (2, yI (p2))]) rfl (fun _ _ => rfl) rfl rfl ?_
  refine yG.load xik rfl (fun _ _ => rfl) (v := yI (p2)) rfl rfl ?_
  refine yG.getS (c := 10) rfl rfl ?_
  refine yG.load xik rfl (fun _ _ => rfl) (v := yI (12)) rfl rfl ?_
  refine yG.ialdF A_hp.1 (v_S_Net_LEAST W (s_S_Net_LEAST W)) rfl rfl (by omega) (by omega) (fun z2 e_z2 i_z2 l_z2 u_z2 => ?_)
  obtain rfl : z2 = 0 := by omega
  refine yG.icmp rfl (t := 30) rfl ⟨by omega, by omega⟩ ⟨by omega, by omega⟩ (fun c3 => ?_) (fun c3 => ?_)
  · have c3 : (p2 : Int) < 0 := c3
    refine yG.num (c := 0) rfl (fun _ _ => rfl) (by decide) ?_
    refine yG.ret rfl (fun _ _ => rfl) ?_
    exact (yP.bool (by omega) ⟨⟨0, rfl, by omega, by omega, by omega⟩, rfl⟩)
  · have c3 : (p2 : Int) ≥ 0 := c3
    refine yG.load xik rfl (fun _ _ => rfl) (v := yI (p2)) rfl rfl ?_
    refine yG.getS (c := 4) rfl rfl ?_
    refine yG.load xik rfl (fun _ _ => rfl) (v := yI (12)) rfl rfl ?_
    refine yG.ialdF A_hp.1 (v_S_Net_GREATEST W (s_S_Net_GREATEST W)) rfl rfl (by omega) (by omega) (fun z4 e_z4 i_z4 l_z4 u_z4 => ?_)
    obtain rfl : z4 = 999 := by omega
    refine yG.icmp rfl (t := 30) rfl ⟨by omega, by omega⟩ ⟨by omega, by omega⟩ (fun c5 => ?_) (fun c5 => ?_)
    · have c5 : (p2 : Int) > 999 := c5
      refine yG.num (c := 0) rfl (fun _ _ => rfl) (by decide) ?_
      refine yG.ret rfl (fun _ _ => rfl) ?_
      exact (yP.bool (by omega) ⟨⟨0, rfl, by omega, by omega, by omega⟩, rfl⟩)
    · have c5 : (p2 : Int) ≤ 999 := c5
      refine yG.num (c := 1) rfl (fun _ _ => rfl) (by decide) ?_
      refine yG.goto rfl (t := 31) rfl ?_
      refine yG.ret rfl (fun _ _ => rfl) ?_
      exact (yP.bool (by omega) ⟨⟨1, rfl, by omega, by omega, by omega⟩, rfl⟩)
theorem c_Net_isWithin_3_7 {hp : xH} (W : bW G) (d : Nat) (hT : zTy G hp) (p2 : Int) (h2l : (-2147483648) ≤ p2) (h2u : p2 ≤ 2147483647) : yC (xcall 89 xfts xpools xms (d + 1)) 159 [yI (3), yI (7), yI (p2)] hp (bQpi hp 0 1 (fun z => (z = 1 → 0 ≤ p2 ∧ 0 ≤ 0 - p2 + 9999))) := by
  have A_hp : bAx G [] hp hp := bAx.rf hT
  refine yC.of (M := (xt_X5_isWithin, (4, (4, (6, []))))) rfl rfl (N := 63) (yfuel (by decide)) ?_
  show yG 89 xfts (xcall 89 xfts xpools xms d) (xpool xp_RX5) [] xt_X5_isWithin (yP 4 (bQpi hp 0 1 (fun z => (z = 1 → 0 ≤ p2 ∧ 0 ≤ 0 - p2 + 9999)))) 63 0 [(0, yI (3)), (1, yI (7)), (2, yI (p2))] [] hp
  refine yG.getS (c := 5) rfl rfl ?_
  refine yG.load xik rfl (fun _ _ => rfl) (v := yI (3)) rfl rfl ?_
  refine yG.ialdF A_hp.1 (v_S_Net_BOUNDS W (s_S_Net_BOUNDS W)) rfl rfl (by omega) (by omega) (fun z1 e_z1 i_z1 l_z1 u_z1 => ?_)
  obtain rfl : z1 = 6 := by omega
  refine yG.load xik rfl (fun _ _ => rfl) (v := yI (7)) rfl rfl ?_
  refine yG.iadd rfl ?_
  rw [show (6 + 7 : Int) = 13 by omega]
  refine yG.store1 xik (L' := [(3, yI (13)), (0, yI (3)), (1, yI (7)), (2, yI (p2))]) rfl (fun _ _ => rfl) rfl rfl ?_
  refine yG.load xik rfl (fun _ _ => rfl) (v := yI (p2)) rfl rfl ?_
  refine yG.getS (c := 10) rfl rfl ?_
  refine yG.load xik rfl (fun _ _ => rfl) (v := yI (13)) rfl rfl ?_
  refine yG.ialdF A_hp.1 (v_S_Net_LEAST W (s_S_Net_LEAST W)) rfl rfl (by omega) (by omega) (fun z2 e_z2 i_z2 l_z2 u_z2 => ?_)
  obtain rfl : z2 = 0 := by omega
  refine yG.icmp rfl (t := 30) rfl ⟨by omega, by omega⟩ ⟨by omega, by omega⟩ (fun c3 => ?_) (fun c3 => ?_)
  · have c3 : (p2 : Int) < 0 := c3
    refine yG.num (c := 0) rfl (fun _ _ => rfl) (by decide) ?_
    refine yG.ret rfl (fun _ _ => rfl) ?_
    exact (yP.bool (by omega) ⟨⟨0, rfl, by omega, by omega, by omega⟩, rfl⟩)
  · have c3 : (p2 : Int) ≥ 0 := c3
    refine yG.load xik rfl (fun _ _ => rfl) (v := yI (p2)) rfl rfl ?_
    refine yG.getS (c := 4) rfl rfl ?_
    refine yG.load xik rfl (fun _ _ => rfl) (v := yI (13)) rfl rfl ?_
    refine yG.ialdF A_hp.1 (v_S_Net_GREATEST W (s_S_Net_GREATEST W)) rfl rfl (by omega) (by omega) (fun z4 e_z4 i_z4 l_z4 u_z4 => ?_)
    obtain rfl : z4 = 9999 := by omega
    refine yG.icmp rfl (t := 30) rfl ⟨by omega, by omega⟩ ⟨by omega, by omega⟩ (fun c5 => ?_) (fun c5 => ?_)
    · have c5 : (p2 : Int) > 9999 := c5
      refine yG.num (c := 0) rfl (fun _ _ => rfl) (by decide) ?_
      refine yG.ret rfl (fun _ _ => rfl) ?_
      exact (yP.bool (by omega) ⟨⟨0, rfl, by omega, by omega, by omega⟩, rfl⟩)
    · have c5 : (p2 : Int) ≤ 9999 := c5
      refine yG.num (c := 1) rfl (fun _ _ => rfl) (by decide) ?_
      refine yG.goto rfl (t := 31) rfl ?_
      refine yG.ret rfl (fun _ _ => rfl) ?_
      exact (yP.bool (by omega) ⟨⟨1, rfl, by omega, by omega, by omega⟩, rfl⟩)
theorem c_Net_isWithin_3_8 {hp : xH} (W : bW G) (d : Nat) (hT : zTy G hp) (p2 : Int) (h2l : (-2147483648) ≤ p2) (h2u : p2 ≤ 2147483647) : yC (xcall 89 xfts xpools xms (d + 1)) 159 [yI (3), yI (8), yI (p2)] hp (bQpi hp 0 1 (fun z => (z = 1 → 0 ≤ p2 ∧ 0 ≤ 0 - p2 + 999))) := by
  have A_hp : bAx G [] hp hp := bAx.rf hT
  refine yC.of (M := (xt_X5_isWithin, (4, (4, (6, []))))) rfl rfl (N := 63) (yfuel (by decide)) ?_
  show yG 89 xfts (xcall 89 xfts xpools xms d) (xpool xp_RX5) [] xt_X5_isWithin (yP 4 (bQpi hp 0 1 (fun z => (z = 1 → 0 ≤ p2 ∧ 0 ≤ 0 - p2 + 999)))) 63 0 [(0, yI (3)), (1, yI (8)), (2, yI (p2))] [] hp
  refine yG.getS (c := 5) rfl rfl ?_
  refine yG.load xik rfl (fun _ _ => rfl) (v := yI (3)) rfl rfl ?_
  refine yG.ialdF A_hp.1 (v_S_Net_BOUNDS W (s_S_Net_BOUNDS W)) rfl rfl (by omega) (by omega) (fun z1 e_z1 i_z1 l_z1 u_z1 => ?_)
  obtain rfl : z1 = 6 := by omega
  refine yG.load xik rfl (fun _ _ => rfl) (v := yI (8)) rfl rfl ?_
  refine yG.iadd rfl ?_
  rw [show (6 + 8 : Int) = 14 by omega]
  refine yG.store1 xik (L' := [(3, yI (14)), (0, yI (3)), (1, yI (8)), (2, yI (p2))]) rfl (fun _ _ => rfl) rfl rfl ?_
  refine yG.load xik rfl (fun _ _ => rfl) (v := yI (p2)) rfl rfl ?_
  refine yG.getS (c := 10) rfl rfl ?_
  refine yG.load xik rfl (fun _ _ => rfl) (v := yI (14)) rfl rfl ?_
  refine yG.ialdF A_hp.1 (v_S_Net_LEAST W (s_S_Net_LEAST W)) rfl rfl (by omega) (by omega) (fun z2 e_z2 i_z2 l_z2 u_z2 => ?_)
  obtain rfl : z2 = 0 := by omega
  refine yG.icmp rfl (t := 30) rfl ⟨by omega, by omega⟩ ⟨by omega, by omega⟩ (fun c3 => ?_) (fun c3 => ?_)
  · have c3 : (p2 : Int) < 0 := c3
    refine yG.num (c := 0) rfl (fun _ _ => rfl) (by decide) ?_
    refine yG.ret rfl (fun _ _ => rfl) ?_
    exact (yP.bool (by omega) ⟨⟨0, rfl, by omega, by omega, by omega⟩, rfl⟩)
  · have c3 : (p2 : Int) ≥ 0 := c3
    refine yG.load xik rfl (fun _ _ => rfl) (v := yI (p2)) rfl rfl ?_
    refine yG.getS (c := 4) rfl rfl ?_
    refine yG.load xik rfl (fun _ _ => rfl) (v := yI (14)) rfl rfl ?_
    refine yG.ialdF A_hp.1 (v_S_Net_GREATEST W (s_S_Net_GREATEST W)) rfl rfl (by omega) (by omega) (fun z4 e_z4 i_z4 l_z4 u_z4 => ?_)
    obtain rfl : z4 = 999 := by omega
    refine yG.icmp rfl (t := 30) rfl ⟨by omega, by omega⟩ ⟨by omega, by omega⟩ (fun c5 => ?_) (fun c5 => ?_)
    · have c5 : (p2 : Int) > 999 := c5
      refine yG.num (c := 0) rfl (fun _ _ => rfl) (by decide) ?_
      refine yG.ret rfl (fun _ _ => rfl) ?_
      exact (yP.bool (by omega) ⟨⟨0, rfl, by omega, by omega, by omega⟩, rfl⟩)
    · have c5 : (p2 : Int) ≤ 999 := c5
      refine yG.num (c := 1) rfl (fun _ _ => rfl) (by decide) ?_
      refine yG.goto rfl (t := 31) rfl ?_
      refine yG.ret rfl (fun _ _ => rfl) ?_
      exact (yP.bool (by omega) ⟨⟨1, rfl, by omega, by omega, by omega⟩, rfl⟩)
theorem c_Net_isWithin_3_9 {hp : xH} (W : bW G) (d : Nat) (hT : zTy G hp) (p2 : Int) (h2l : (-2147483648) ≤ p2) (h2u : p2 ≤ 2147483647) : yC (xcall 89 xfts xpools xms (d + 1)) 159 [yI (3), yI (9), yI (p2)] hp (bQpi hp 0 1 (fun z => (z = 1 → 0 ≤ p2 ∧ 0 ≤ 0 - p2 + 9))) := by
  have A_hp : bAx G [] hp hp := bAx.rf hT
  refine yC.of (M := (xt_X5_isWithin, (4, (4, (6, []))))) rfl rfl (N := 63) (yfuel (by decide)) ?_
  show yG 89 xfts (xcall 89 xfts xpools xms d) (xpool xp_RX5) [] xt_X5_isWithin (yP 4 (bQpi hp 0 1 (fun z => (z = 1 → 0 ≤ p2 ∧ 0 ≤ 0 - p2 + 9)))) 63 0 [(0, yI (3)), (1, yI (9)), (2, yI (p2))] [] hp
  refine yG.getS (c := 5) rfl rfl ?_
  refine yG.load xik rfl (fun _ _ => rfl) (v := yI (3)) rfl rfl ?_
  refine yG.ialdF A_hp.1 (v_S_Net_BOUNDS W (s_S_Net_BOUNDS W)) rfl rfl (by omega) (by omega) (fun z1 e_z1 i_z1 l_z1 u_z1 => ?_)
  obtain rfl : z1 = 6 := by omega
  refine yG.load xik rfl (fun _ _ => rfl) (v := yI (9)) rfl rfl ?_
  refine yG.iadd rfl ?_
  rw [show (6 + 9 : Int) = 15 by omega]
  refine yG.store1 xik (L' := [(3, yI (15)), (0, yI (3)), (1, yI (9)), (2, yI (p2))]) rfl (fun _ _ => rfl) rfl rfl ?_
  refine yG.load xik rfl (fun _ _ => rfl) (v := yI (p2)) rfl rfl ?_
  refine yG.getS (c := 10) rfl rfl ?_
  refine yG.load xik rfl (fun _ _ => rfl) (v := yI (15)) rfl rfl ?_
  refine yG.ialdF A_hp.1 (v_S_Net_LEAST W (s_S_Net_LEAST W)) rfl rfl (by omega) (by omega) (fun z2 e_z2 i_z2 l_z2 u_z2 => ?_)
  obtain rfl : z2 = 0 := by omega
  refine yG.icmp rfl (t := 30) rfl ⟨by omega, by omega⟩ ⟨by omega, by omega⟩ (fun c3 => ?_) (fun c3 => ?_)
  · have c3 : (p2 : Int) < 0 := c3
    refine yG.num (c := 0) rfl (fun _ _ => rfl) (by decide) ?_
    refine yG.ret rfl (fun _ _ => rfl) ?_
    exact (yP.bool (by omega) ⟨⟨0, rfl, by omega, by omega, by omega⟩, rfl⟩)
  · have c3 : (p2 : Int) ≥ 0 := c3
    refine yG.load xik rfl (fun _ _ => rfl) (v := yI (p2)) rfl rfl ?_
    refine yG.getS (c := 4) rfl rfl ?_
    refine yG.load xik rfl (fun _ _ => rfl) (v := yI (15)) rfl rfl ?_
    refine yG.ialdF A_hp.1 (v_S_Net_GREATEST W (s_S_Net_GREATEST W)) rfl rfl (by omega) (by omega) (fun z4 e_z4 i_z4 l_z4 u_z4 => ?_)
    obtain rfl : z4 = 9 := by omega
    refine yG.icmp rfl (t := 30) rfl ⟨by omega, by omega⟩ ⟨by omega, by omega⟩ (fun c5 => ?_) (fun c5 => ?_)
    · have c5 : (p2 : Int) > 9 := c5
      refine yG.num (c := 0) rfl (fun _ _ => rfl) (by decide) ?_
      refine yG.ret rfl (fun _ _ => rfl) ?_
      exact (yP.bool (by omega) ⟨⟨0, rfl, by omega, by omega, by omega⟩, rfl⟩)
    · have c5 : (p2 : Int) ≤ 9 := c5
      refine yG.num (c := 1) rfl (fun _ _ => rfl) (by decide) ?_
      refine yG.goto rfl (t := 31) rfl ?_
      refine yG.ret rfl (fun _ _ => rfl) ?_
      exact (yP.bool (by omega) ⟨⟨1, rfl, by omega, by omega, by omega⟩, rfl⟩)
theorem c_Net_at_4_0 {hp : xH} (W : bW G) (d : Nat) (hT : zTy G hp) {k0 : Nat} (H_k0 : bRo G 18 k0) (p2 : Int) (h2l : 0 ≤ p2) (h2u : p2 ≤ 11) : yC (xcall 89 xfts xpools xms (d + 1)) 151 [yR k0, yI (4), yI (p2), yI (0)] hp (bQpi hp 0 9999 (fun _ => True)) := by
  have A_hp : bAx G [] hp hp := bAx.rf hT
  refine yC.of (M := (xt_X5_at, (4, (1, (6, []))))) rfl rfl (N := 45) (yfuel (by decide)) ?_
  show yG 89 xfts (xcall 89 xfts xpools xms d) (xpool xp_RX5) [] xt_X5_at (yP 1 (bQpi hp 0 9999 (fun _ => True))) 45 0 [(0, yR k0), (1, yI (4)), (2, yI (p2)), (3, yI (0))] [] hp
  refine yG.load xak rfl (fun _ _ => rfl) (v := yR k0) rfl rfl ?_
  refine yG.getO A_hp.1 (w_Net_value W H_k0) rfl rfl (fun r1 H_r1 O_r1 q_r1 => ?_)
  refine yG.load xik rfl (fun _ _ => rfl) (v := yI (4)) rfl rfl ?_
  refine yG.aaldO (r := 30) A_hp.1 (v_Net_value W H_r1) rfl rfl rfl (by omega) (by omega) (fun r2 H_r2 q_r2 => ?_)
  refine yG.load xik rfl (fun _ _ => rfl) (v := yI (p2)) rfl rfl ?_
  refine yG.getS (c := 2) rfl rfl ?_
  refine yG.load xik rfl (fun _ _ => rfl) (v := yI (4)) rfl rfl ?_
  refine yG.ialdF A_hp.1 (v_S_Net_WIDTH W (s_S_Net_WIDTH W)) rfl rfl (by omega) (by omega) (fun z3 e_z3 i_z3 l_z3 u_z3 => ?_)
  obtain rfl : z3 = 2 := by omega
  refine yG.imul rfl ?_
  refine yG.load xik rfl (fun _ _ => rfl) (v := yI (0)) rfl rfl ?_
  refine yG.iadd rfl ?_
  refine yG.ialdF A_hp.1 (v_Net_value4 W H_r2) ((bTf_m (m := 0) (by omega) (by decide)).trans rfl) rfl (by omega) (by omega) (fun z4 e_z4 i_z4 l_z4 u_z4 => ?_)
  refine yG.ret rfl (fun _ _ => rfl) ?_
  exact (yP.int ⟨by omega, by omega⟩ ⟨⟨z4, rfl, by omega, by omega, trivial⟩, rfl⟩)
theorem c_Net_put_4_0 {hp : xH} (W : bW G) (d : Nat) (hT : zTy G hp) {k0 : Nat} (H_k0 : bRo G 18 k0) (p2 p4 : Int) (h2l : 0 ≤ p2) (h2u : p2 ≤ 11) (h4l : 0 ≤ p4) (h4u : p4 ≤ 9999) : yC (xcall 89 xfts xpools xms (d + 1)) 162 [yR k0, yI (4), yI (p2), yI (0), yI (p4)] hp (fun rv hp' => (rv = none ∧ True) ∧ bAx G [(1073741824, 256)] hp hp') := by
  have A_hp : bAx G [(1073741824, 256)] hp hp := bAx.rf hT
  refine yC.of (M := (xt_X5_put, (5, (0, (6, []))))) rfl rfl (N := 48) (yfuel (by decide)) ?_
  show yG 89 xfts (xcall 89 xfts xpools xms d) (xpool xp_RX5) [] xt_X5_put (yP 0 (fun rv hp' => (rv = none ∧ True) ∧ bAx G [(1073741824, 256)] hp hp')) 48 0 [(0, yR k0), (1, yI (4)), (2, yI (p2)), (3, yI (0)), (4, yI (p4))] [] hp
  refine yG.load xak rfl (fun _ _ => rfl) (v := yR k0) rfl rfl ?_
  refine yG.getO A_hp.1 (w_Net_value W H_k0) rfl rfl (fun r1 H_r1 O_r1 q_r1 => ?_)
  refine yG.load xik rfl (fun _ _ => rfl) (v := yI (4)) rfl rfl ?_
  refine yG.aaldO (r := 30) A_hp.1 (v_Net_value W H_r1) rfl rfl rfl (by omega) (by omega) (fun r2 H_r2 q_r2 => ?_)
  refine yG.load xik rfl (fun _ _ => rfl) (v := yI (p2)) rfl rfl ?_
  refine yG.getS (c := 2) rfl rfl ?_
  refine yG.load xik rfl (fun _ _ => rfl) (v := yI (4)) rfl rfl ?_
  refine yG.ialdF A_hp.1 (v_S_Net_WIDTH W (s_S_Net_WIDTH W)) rfl rfl (by omega) (by omega) (fun z3 e_z3 i_z3 l_z3 u_z3 => ?_)
  obtain rfl : z3 = 2 := by omega
  refine yG.imul rfl ?_
  refine yG.load xik rfl (fun _ _ => rfl) (v := yI (0)) rfl rfl ?_
  refine yG.iadd rfl ?_
  refine yG.load xik rfl (fun _ _ => rfl) (v := yI (p4)) rfl rfl ?_
  refine yG.iastF A_hp.1 (v_Net_value4 W H_r2) ((bTf_m (m := 0) (by omega) (by decide)).trans rfl) (W.2.1 _ _ H_r2 (by decide) (by decide)) rfl (by omega) (by omega) ⟨by omega, by omega⟩ (by omega) (by omega) (fun h4 T_h4 b_h4 f_h4 y_h4 => ?_)
  have A_h4 := A_hp.put T_h4 b_h4 f_h4 H_r2 (bAll_ok (by decide) _)
  refine yG.ret rfl (fun _ _ => rfl) ?_
  exact (yP.void ⟨⟨rfl, trivial⟩, A_h4⟩)
theorem c_Net_at_4_1 {hp : xH} (W : bW G) (d : Nat) (hT : zTy G hp) {k0 : Nat} (H_k0 : bRo G 18 k0) (p2 : Int) (h2l : 0 ≤ p2) (h2u : p2 ≤ 11) : yC (xcall 89 xfts xpools xms (d + 1)) 151 [yR k0, yI (4), yI (p2), yI (1)] hp (bQpi hp 0 15 (fun _ => True)) := by
  have A_hp : bAx G [] hp hp := bAx.rf hT
  refine yC.of (M := (xt_X5_at, (4, (1, (6, []))))) rfl rfl (N := 45) (yfuel (by decide)) ?_
  show yG 89 xfts (xcall 89 xfts xpools xms d) (xpool xp_RX5) [] xt_X5_at (yP 1 (bQpi hp 0 15 (fun _ => True))) 45 0 [(0, yR k0), (1, yI (4)), (2, yI (p2)), (3, yI (1))] [] hp
  refine yG.load xak rfl (fun _ _ => rfl) (v := yR k0) rfl rfl ?_
  refine yG.getO A_hp.1 (w_Net_value W H_k0) rfl rfl (fun r1 H_r1 O_r1 q_r1 => ?_)
  refine yG.load xik rfl (fun _ _ => rfl) (v := yI (4)) rfl rfl ?_
  refine yG.aaldO (r := 30) A_hp.1 (v_Net_value W H_r1) rfl rfl rfl (by omega) (by omega) (fun r2 H_r2 q_r2 => ?_)
  refine yG.load xik rfl (fun _ _ => rfl) (v := yI (p2)) rfl rfl ?_
  refine yG.getS (c := 2) rfl rfl ?_
  refine yG.load xik rfl (fun _ _ => rfl) (v := yI (4)) rfl rfl ?_
  refine yG.ialdF A_hp.1 (v_S_Net_WIDTH W (s_S_Net_WIDTH W)) rfl rfl (by omega) (by omega) (fun z3 e_z3 i_z3 l_z3 u_z3 => ?_)
  obtain rfl : z3 = 2 := by omega
  refine yG.imul rfl ?_
  refine yG.load xik rfl (fun _ _ => rfl) (v := yI (1)) rfl rfl ?_
  refine yG.iadd rfl ?_
  refine yG.ialdF A_hp.1 (v_Net_value4 W H_r2) ((bTf_m (m := 1) (by omega) (by decide)).trans rfl) rfl (by omega) (by omega) (fun z4 e_z4 i_z4 l_z4 u_z4 => ?_)
  refine yG.ret rfl (fun _ _ => rfl) ?_
  exact (yP.int ⟨by omega, by omega⟩ ⟨⟨z4, rfl, by omega, by omega, trivial⟩, rfl⟩)
theorem c_Net_put_4_1 {hp : xH} (W : bW G) (d : Nat) (hT : zTy G hp) {k0 : Nat} (H_k0 : bRo G 18 k0) (p2 p4 : Int) (h2l : 0 ≤ p2) (h2u : p2 ≤ 11) (h4l : 0 ≤ p4) (h4u : p4 ≤ 15) : yC (xcall 89 xfts xpools xms (d + 1)) 162 [yR k0, yI (4), yI (p2), yI (1), yI (p4)] hp (fun rv hp' => (rv = none ∧ True) ∧ bAx G [(1073741824, 256)] hp hp') := by
  have A_hp : bAx G [(1073741824, 256)] hp hp := bAx.rf hT
  refine yC.of (M := (xt_X5_put, (5, (0, (6, []))))) rfl rfl (N := 48) (yfuel (by decide)) ?_
  show yG 89 xfts (xcall 89 xfts xpools xms d) (xpool xp_RX5) [] xt_X5_put (yP 0 (fun rv hp' => (rv = none ∧ True) ∧ bAx G [(1073741824, 256)] hp hp')) 48 0 [(0, yR k0), (1, yI (4)), (2, yI (p2)), (3, yI (1)), (4, yI (p4))] [] hp
  refine yG.load xak rfl (fun _ _ => rfl) (v := yR k0) rfl rfl ?_
  refine yG.getO A_hp.1 (w_Net_value W H_k0) rfl rfl (fun r1 H_r1 O_r1 q_r1 => ?_)
  refine yG.load xik rfl (fun _ _ => rfl) (v := yI (4)) rfl rfl ?_
  refine yG.aaldO (r := 30) A_hp.1 (v_Net_value W H_r1) rfl rfl rfl (by omega) (by omega) (fun r2 H_r2 q_r2 => ?_)
  refine yG.load xik rfl (fun _ _ => rfl) (v := yI (p2)) rfl rfl ?_
  refine yG.getS (c := 2) rfl rfl ?_
  refine yG.load xik rfl (fun _ _ => rfl) (v := yI (4)) rfl rfl ?_
  refine yG.ialdF A_hp.1 (v_S_Net_WIDTH W (s_S_Net_WIDTH W)) rfl rfl (by omega) (by omega) (fun z3 e_z3 i_z3 l_z3 u_z3 => ?_)
  obtain rfl : z3 = 2 := by omega
  refine yG.imul rfl ?_
  refine yG.load xik rfl (fun _ _ => rfl) (v := yI (1)) rfl rfl ?_
  refine yG.iadd rfl ?_
  refine yG.load xik rfl (fun _ _ => rfl) (v := yI (p4)) rfl rfl ?_
  refine yG.iastF A_hp.1 (v_Net_value4 W H_r2) ((bTf_m (m := 1) (by omega) (by decide)).trans rfl) (W.2.1 _ _ H_r2 (by decide) (by decide)) rfl (by omega) (by omega) ⟨by omega, by omega⟩ (by omega) (by omega) (fun h4 T_h4 b_h4 f_h4 y_h4 => ?_)
  have A_h4 := A_hp.put T_h4 b_h4 f_h4 H_r2 (bAll_ok (by decide) _)
  refine yG.ret rfl (fun _ _ => rfl) ?_
  exact (yP.void ⟨⟨rfl, trivial⟩, A_h4⟩)
theorem c_Net_at_4z {hp : xH} (W : bW G) (d : Nat) (hT : zTy G hp) {k0 : Nat} (H_k0 : bRo G 18 k0) (p2 p3 : Int) (h2l : 0 ≤ p2) (h2u : p2 ≤ 11) (h3l : 0 ≤ p3) (h3u : p3 ≤ 1) : yC (xcall 89 xfts xpools xms (d + 1)) 151 [yR k0, yI (4), yI (p2), yI (p3)] hp (bQpi hp 0 9999 (fun _ => True)) := by
  have A_hp : bAx G [] hp hp := bAx.rf hT
  refine yC.of (M := (xt_X5_at, (4, (1, (6, []))))) rfl rfl (N := 45) (yfuel (by decide)) ?_
  show yG 89 xfts (xcall 89 xfts xpools xms d) (xpool xp_RX5) [] xt_X5_at (yP 1 (bQpi hp 0 9999 (fun _ => True))) 45 0 [(0, yR k0), (1, yI (4)), (2, yI (p2)), (3, yI (p3))] [] hp
  refine yG.load xak rfl (fun _ _ => rfl) (v := yR k0) rfl rfl ?_
  refine yG.getO A_hp.1 (w_Net_value W H_k0) rfl rfl (fun r1 H_r1 O_r1 q_r1 => ?_)
  refine yG.load xik rfl (fun _ _ => rfl) (v := yI (4)) rfl rfl ?_
  refine yG.aaldO (r := 30) A_hp.1 (v_Net_value W H_r1) rfl rfl rfl (by omega) (by omega) (fun r2 H_r2 q_r2 => ?_)
  refine yG.load xik rfl (fun _ _ => rfl) (v := yI (p2)) rfl rfl ?_
  refine yG.getS (c := 2) rfl rfl ?_
  refine yG.load xik rfl (fun _ _ => rfl) (v := yI (4)) rfl rfl ?_
  refine yG.ialdF A_hp.1 (v_S_Net_WIDTH W (s_S_Net_WIDTH W)) rfl rfl (by omega) (by omega) (fun z3 e_z3 i_z3 l_z3 u_z3 => ?_)
  obtain rfl : z3 = 2 := by omega
  refine yG.imul rfl ?_
  refine yG.load xik rfl (fun _ _ => rfl) (v := yI (p3)) rfl rfl ?_
  refine yG.iadd rfl ?_
  refine yG.ialdT A_hp.1 (v_Net_value4 W H_r2) (yhull2 (tf := bTf 2 t_Net_value4) (bTf_h (A := 0) (B := 9999) (by decide) (by decide) (by decide) _)) rfl (by omega) (by omega) (fun z4 lo_z4 hi_z4 e_z4 i_z4 T_z4 l_z4 u_z4 => ?_)
  obtain ⟨L_z4, U_z4⟩ := yhull (tf := bTf 2 t_Net_value4) (bTf_h (A := 0) (B := 9999) (by decide) (by decide) (by decide) _) T_z4
  refine yG.ret rfl (fun _ _ => rfl) ?_
  exact (yP.int ⟨by omega, by omega⟩ ⟨⟨z4, rfl, by omega, by omega, trivial⟩, rfl⟩)
theorem c_Net_is_4 {hp : xH} (W : bW G) (d : Nat) (hT : zTy G hp) {k0 : Nat} (H_k0 : bRo G 18 k0) (p2 p3 : Int) (h2l : 0 ≤ p2) (h2u : p2 ≤ 11) (h3l : 0 ≤ p3) (h3u : p3 ≤ 1) : yC (xcall 89 xfts xpools xms (d + 1)) 158 [yR k0, yI (4), yI (p2), yI (p3)] hp (bQpi hp 0 1 (fun _ => True)) := by
  have A_hp : bAx G [] hp hp := bAx.rf hT
  refine yC.of (M := (xt_X5_is, (4, (4, (6, []))))) rfl rfl (N := 57) (yfuel (by decide)) ?_
  show yG 89 xfts (xcall 89 xfts xpools xms d) (xpool xp_RX5) [] xt_X5_is (yP 4 (bQpi hp 0 1 (fun _ => True))) 57 0 [(0, yR k0), (1, yI (4)), (2, yI (p2)), (3, yI (p3))] [] hp
  refine yG.load xak rfl (fun _ _ => rfl) (v := yR k0) rfl rfl ?_
  refine yG.getO A_hp.1 (w_Net_value W H_k0) rfl rfl (fun r1 H_r1 O_r1 q_r1 => ?_)
  refine yG.load xik rfl (fun _ _ => rfl) (v := yI (4)) rfl rfl ?_
  refine yG.aaldO (r := 30) A_hp.1 (v_Net_value W H_r1) rfl rfl rfl (by omega) (by omega) (fun r2 H_r2 q_r2 => ?_)
  refine yG.load xik rfl (fun _ _ => rfl) (v := yI (p2)) rfl rfl ?_
  refine yG.getS (c := 2) rfl rfl ?_
  refine yG.load xik rfl (fun _ _ => rfl) (v := yI (4)) rfl rfl ?_
  refine yG.ialdF A_hp.1 (v_S_Net_WIDTH W (s_S_Net_WIDTH W)) rfl rfl (by omega) (by omega) (fun z3 e_z3 i_z3 l_z3 u_z3 => ?_)
  obtain rfl : z3 = 2 := by omega
  refine yG.imul rfl ?_
  refine yG.load xik rfl (fun _ _ => rfl) (v := yI (p3)) rfl rfl ?_
  refine yG.iadd rfl ?_
  refine yG.ialdT A_hp.1 (v_Net_value4 W H_r2) (yhull2 (tf := bTf 2 t_Net_value4) (bTf_h (A := 0) (B := 9999) (by decide) (by decide) (by decide) _)) rfl (by omega) (by omega) (fun z4 lo_z4 hi_z4 e_z4 i_z4 T_z4 l_z4 u_z4 => ?_)
  obtain ⟨L_z4, U_z4⟩ := yhull (tf := bTf 2 t_Net_value4) (bTf_h (A := 0) (B := 9999) (by decide) (by decide) (by decide) _) T_z4
  refine yG.num (c := 1) rfl (fun _ _ => rfl) (by decide) ?_
  refine yG.icmp rfl (t := 24) rfl ⟨by omega, by omega⟩ ⟨by omega, by omega⟩ (fun c5 => ?_) (fun c5 => ?_)
  · have c5 : (z4 : Int) ≠ 1 := c5
    refine yG.num (c := 0) rfl (fun _ _ => rfl) (by decide) ?_
    refine yG.ret rfl (fun _ _ => rfl) ?_
    exact (yP.bool (by omega) ⟨⟨0, rfl, by omega, by omega, trivial⟩, rfl⟩)
  · have c5 : (z4 : Int) = 1 := c5
    refine yG.num (c := 1) rfl (fun _ _ => rfl) (by decide) ?_
    refine yG.goto rfl (t := 25) rfl ?_
    refine yG.ret rfl (fun _ _ => rfl) ?_
    exact (yP.bool (by omega) ⟨⟨1, rfl, by omega, by omega, trivial⟩, rfl⟩)
theorem c_Net_isWithin_4_0 {hp : xH} (W : bW G) (d : Nat) (hT : zTy G hp) (p2 : Int) (h2l : (-2147483648) ≤ p2) (h2u : p2 ≤ 2147483647) : yC (xcall 89 xfts xpools xms (d + 1)) 159 [yI (4), yI (0), yI (p2)] hp (bQpi hp 0 1 (fun z => (z = 1 → 0 ≤ p2 ∧ 0 ≤ 0 - p2 + 9999))) := by
  have A_hp : bAx G [] hp hp := bAx.rf hT
  refine yC.of (M := (xt_X5_isWithin, (4, (4, (6, []))))) rfl rfl (N := 63) (yfuel (by decide)) ?_
  show yG 89 xfts (xcall 89 xfts xpools xms d) (xpool xp_RX5) [] xt_X5_isWithin (yP 4 (bQpi hp 0 1 (fun z => (z = 1 → 0 ≤ p2 ∧ 0 ≤ 0 - p2 + 9999)))) 63 0 [(0, yI (4)), (1, yI (0)), (2, yI (p2))] [] hp
  refine yG.getS (c := 5) rfl rfl ?_
  refine yG.load xik rfl (fun _ _ => rfl) (v := yI (4)) rfl rfl ?_
  refine yG.ialdF A_hp.1 (v_S_Net_BOUNDS W (s_S_Net_BOUNDS W)) rfl rfl (by omega) (by omega) (fun z1 e_z1 i_z1 l_z1 u_z1 => ?_)
  obtain rfl : z1 = 16 := by omega
  refine yG.load xik rfl (fun _ _ => rfl) (v := yI (0)) rfl rfl ?_
  refine yG.iadd rfl ?_
  rw [show (16 + 0 : Int) = 16 by omega]
  refine yG.store1 xik (L' := [(3, yI (16)), (0, yI (4)), (1, yI (0)), (2, yI (p2))]) rfl (fun _ _ => rfl) rfl rfl ?_
  refine yG.load xik rfl (fun _ _ => rfl) (v := yI (p2)) rfl rfl ?_
  refine yG.getS (c := 10) rfl rfl ?_
  refine yG.load xik rfl (fun _ _ => rfl) (v := yI (16)) rfl rfl ?_
  refine yG.ialdF A_hp.1 (v_S_Net_LEAST W (s_S_Net_LEAST W)) rfl rfl (by omega) (by omega) (fun z2 e_z2 i_z2 l_z2 u_z2 => ?_)
  obtain rfl : z2 = 0 := by omega
  refine yG.icmp rfl (t := 30) rfl ⟨by omega, by omega⟩ ⟨by omega, by omega⟩ (fun c3 => ?_) (fun c3 => ?_)
  · have c3 : (p2 : Int) < 0 := c3
    refine yG.num (c := 0) rfl (fun _ _ => rfl) (by decide) ?_
    refine yG.ret rfl (fun _ _ => rfl) ?_
    exact (yP.bool (by omega) ⟨⟨0, rfl, by omega, by omega, by omega⟩, rfl⟩)
  · have c3 : (p2 : Int) ≥ 0 := c3
    refine yG.load xik rfl (fun _ _ => rfl) (v := yI (p2)) rfl rfl ?_
    refine yG.getS (c := 4) rfl rfl ?_
    refine yG.load xik rfl (fun _ _ => rfl) (v := yI (16)) rfl rfl ?_
    refine yG.ialdF A_hp.1 (v_S_Net_GREATEST W (s_S_Net_GREATEST W)) rfl rfl (by omega) (by omega) (fun z4 e_z4 i_z4 l_z4 u_z4 => ?_)
    obtain rfl : z4 = 9999 := by omega
    refine yG.icmp rfl (t := 30) rfl ⟨by omega, by omega⟩ ⟨by omega, by omega⟩ (fun c5 => ?_) (fun c5 => ?_)
    · have c5 : (p2 : Int) > 9999 := c5
      refine yG.num (c := 0) rfl (fun _ _ => rfl) (by decide) ?_
      refine yG.ret rfl (fun _ _ => rfl) ?_
      exact (yP.bool (by omega) ⟨⟨0, rfl, by omega, by omega, by omega⟩, rfl⟩)
    · have c5 : (p2 : Int) ≤ 9999 := c5
      refine yG.num (c := 1) rfl (fun _ _ => rfl) (by decide) ?_
      refine yG.goto rfl (t := 31) rfl ?_
      refine yG.ret rfl (fun _ _ => rfl) ?_
      exact (yP.bool (by omega) ⟨⟨1, rfl, by omega, by omega, by omega⟩, rfl⟩)
theorem c_Net_agrees {hp : xH} (W : bW G) (d : Nat) (hT : zTy G hp) {k0 : Nat} (H_k0 : bRo G 18 k0) (p1 p2 p3 : Int) (h1l : 0 ≤ p1) (h1u : p1 ≤ 5) (h2l : 0 ≤ p2) (h2u : p2 ≤ 10) (h3l : (-2147483648) ≤ p3) (h3u : p3 ≤ 2147483647) : yC (xcall 89 xfts xpools xms (d + 2)) 149 [yR k0, yI (p1), yI (p2), yI (p3)] hp (bQpi hp 0 1 (fun z => (z = 0 → 0 ≤ p2 - 4 ∧ 0 ≤ 0 - p2 + 8))) := by
  have A_hp : bAx G [] hp hp := bAx.rf hT
  refine yC.of (M := (xt_X5_agrees, (4, (4, (6, []))))) rfl rfl (N := 42) (yfuel (by decide)) ?_
  show yG 89 xfts (xcall 89 xfts xpools xms (d + 1)) (xpool xp_RX5) [] xt_X5_agrees (yP 4 (bQpi hp 0 1 (fun z => (z = 0 → 0 ≤ p2 - 4 ∧ 0 ≤ 0 - p2 + 8)))) 42 0 [(0, yR k0), (1, yI (p1)), (2, yI (p2)), (3, yI (p3))] [] hp
  refine yG.load xik rfl (fun _ _ => rfl) (v := yI (p2)) rfl rfl ?_
  rcases (show (p2 < (4 : Int) ∨ (8 : Int) < p2) ∨ p2 = (4 : Int) ∨ p2 = (5 : Int) ∨ p2 = (6 : Int) ∨ p2 = (7 : Int) ∨ p2 = (8 : Int) by omega) with c1 | c1 | c1 | c1 | c1 | c1
  · skip
    refine yG.tswD (t := 106) rfl ⟨by omega, by omega⟩ c1 rfl ?_
    refine yG.num (c := 1) rfl (fun _ _ => rfl) (by decide) ?_
    refine yG.ret rfl (fun _ _ => rfl) ?_
    exact (yP.bool (by omega) ⟨⟨1, rfl, by omega, by omega, by omega⟩, rfl⟩)
  · skip
    refine yG.tswC (i := 0) (t := 36) rfl ⟨by omega, by omega⟩ (by omega) (by omega) rfl rfl ?_
    refine yG.load xik rfl (fun _ _ => rfl) (v := yI (p3)) rfl rfl ?_
    refine yG.load xak rfl (fun _ _ => rfl) (v := yR k0) rfl rfl ?_
    refine yG.num (c := 3) rfl (fun _ _ => rfl) (by decide) ?_
    refine yG.load xik rfl (fun _ _ => rfl) (v := yI (p1)) rfl rfl ?_
    refine yG.num (c := 5) rfl (fun _ _ => rfl) (by decide) ?_
    refine yG.invV (rest := [yI (p3)]) A_hp.1 (bOb (d_Net W) H_k0) rfl rfl rfl rfl (c_Net_at_3_5 W d A_hp.1 H_k0 (p1) (by omega) (by omega)) (fun rv hp9 q9 => ?_)
    obtain ⟨⟨z2, rfl, l_z2, u_z2, R_z2⟩, e9⟩ := q9
    rw [e9]
    show yG _ _ _ _ _ _ _ _ _ _ (yI z2 :: [yI (p3)]) _
    refine yG.icmp rfl (t := 51) rfl ⟨by omega, by omega⟩ ⟨by omega, by omega⟩ (fun c3 => ?_) (fun c3 => ?_)
    · have c3 : (p3 : Int) > z2 := c3
      refine yG.num (c := 0) rfl (fun _ _ => rfl) (by decide) ?_
      refine yG.ret rfl (fun _ _ => rfl) ?_
      exact (yP.bool (by omega) ⟨⟨0, rfl, by omega, by omega, by omega⟩, rfl⟩)
    · have c3 : (p3 : Int) ≤ z2 := c3
      refine yG.num (c := 1) rfl (fun _ _ => rfl) (by decide) ?_
      refine yG.goto rfl (t := 52) rfl ?_
      refine yG.ret rfl (fun _ _ => rfl) ?_
      exact (yP.bool (by omega) ⟨⟨1, rfl, by omega, by omega, by omega⟩, rfl⟩)
  · skip
    refine yG.tswC (i := 1) (t := 53) rfl ⟨by omega, by omega⟩ (by omega) (by omega) rfl rfl ?_
    refine yG.load xik rfl (fun _ _ => rfl) (v := yI (p3)) rfl rfl ?_
    refine yG.load xak rfl (fun _ _ => rfl) (v := yR k0) rfl rfl ?_
    refine yG.num (c := 3) rfl (fun _ _ => rfl) (by decide) ?_
    refine yG.load xik rfl (fun _ _ => rfl) (v := yI (p1)) rfl rfl ?_
    refine yG.num (c := 4) rfl (fun _ _ => rfl) (by decide) ?_
    refine yG.invV (rest := [yI (p3)]) A_hp.1 (bOb (d_Net W) H_k0) rfl rfl rfl rfl (c_Net_at_3_4 W d A_hp.1 H_k0 (p1) (by omega) (by omega)) (fun rv hp9 q9 => ?_)
    obtain ⟨⟨z4, rfl, l_z4, u_z4, R_z4⟩, e9⟩ := q9
    rw [e9]
    show yG _ _ _ _ _ _ _ _ _ _ (yI z4 :: [yI (p3)]) _
    refine yG.icmp rfl (t := 68) rfl ⟨by omega, by omega⟩ ⟨by omega, by omega⟩ (fun c5 => ?_) (fun c5 => ?_)
    · have c5 : (p3 : Int) < z4 := c5
      refine yG.num (c := 0) rfl (fun _ _ => rfl) (by decide) ?_
      refine yG.ret rfl (fun _ _ => rfl) ?_
      exact (yP.bool (by omega) ⟨⟨0, rfl, by omega, by omega, by omega⟩, rfl⟩)
    · have c5 : (p3 : Int) ≥ z4 := c5
      refine yG.num (c := 1) rfl (fun _ _ => rfl) (by decide) ?_
      refine yG.goto rfl (t := 69) rfl ?_
      refine yG.ret rfl (fun _ _ => rfl) ?_
      exact (yP.bool (by omega) ⟨⟨1, rfl, by omega, by omega, by omega⟩, rfl⟩)
  · skip
    refine yG.tswC (i := 2) (t := 70) rfl ⟨by omega, by omega⟩ (by omega) (by omega) rfl rfl ?_
    refine yG.load xik rfl (fun _ _ => rfl) (v := yI (p3)) rfl rfl ?_
    refine yG.load xak rfl (fun _ _ => rfl) (v := yR k0) rfl rfl ?_
    refine yG.num (c := 3) rfl (fun _ _ => rfl) (by decide) ?_
    refine yG.load xik rfl (fun _ _ => rfl) (v := yI (p1)) rfl rfl ?_
    refine yG.num (c := 8) rfl (fun _ _ => rfl) (by decide) ?_
    refine yG.invV (rest := [yI (p3)]) A_hp.1 (bOb (d_Net W) H_k0) rfl rfl rfl rfl (c_Net_at_3_8 W d A_hp.1 H_k0 (p1) (by omega) (by omega)) (fun rv hp9 q9 => ?_)
    obtain ⟨⟨z6, rfl, l_z6, u_z6, R_z6⟩, e9⟩ := q9
    rw [e9]
    show yG _ _ _ _ _ _ _ _ _ _ (yI z6 :: [yI (p3)]) _
    refine yG.icmp rfl (t := 86) rfl ⟨by omega, by omega⟩ ⟨by omega, by omega⟩ (fun c7 => ?_) (fun c7 => ?_)
    · have c7 : (p3 : Int) > z6 := c7
      refine yG.num (c := 0) rfl (fun _ _ => rfl) (by decide) ?_
      refine yG.ret rfl (fun _ _ => rfl) ?_
      exact (yP.bool (by omega) ⟨⟨0, rfl, by omega, by omega, by omega⟩, rfl⟩)
    · have c7 : (p3 : Int) ≤ z6 := c7
      refine yG.num (c := 1) rfl (fun _ _ => rfl) (by decide) ?_
      refine yG.goto rfl (t := 87) rfl ?_
      refine yG.ret rfl (fun _ _ => rfl) ?_
      exact (yP.bool (by omega) ⟨⟨1, rfl, by omega, by omega, by omega⟩, rfl⟩)
  · skip
    refine yG.tswC (i := 3) (t := 106) rfl ⟨by omega, by omega⟩ (by omega) (by omega) rfl rfl ?_
    refine yG.num (c := 1) rfl (fun _ _ => rfl) (by decide) ?_
    refine yG.ret rfl (fun _ _ => rfl) ?_
    exact (yP.bool (by omega) ⟨⟨1, rfl, by omega, by omega, by omega⟩, rfl⟩)
  · skip
    refine yG.tswC (i := 4) (t := 88) rfl ⟨by omega, by omega⟩ (by omega) (by omega) rfl rfl ?_
    refine yG.load xik rfl (fun _ _ => rfl) (v := yI (p3)) rfl rfl ?_
    refine yG.load xak rfl (fun _ _ => rfl) (v := yR k0) rfl rfl ?_
    refine yG.num (c := 3) rfl (fun _ _ => rfl) (by decide) ?_
    refine yG.load xik rfl (fun _ _ => rfl) (v := yI (p1)) rfl rfl ?_
    refine yG.num (c := 6) rfl (fun _ _ => rfl) (by decide) ?_
    refine yG.invV (rest := [yI (p3)]) A_hp.1 (bOb (d_Net W) H_k0) rfl rfl rfl rfl (c_Net_at_3_6 W d A_hp.1 H_k0 (p1) (by omega) (by omega)) (fun rv hp9 q9 => ?_)
    obtain ⟨⟨z8, rfl, l_z8, u_z8, R_z8⟩, e9⟩ := q9
    rw [e9]
    show yG _ _ _ _ _ _ _ _ _ _ (yI z8 :: [yI (p3)]) _
    refine yG.icmp rfl (t := 104) rfl ⟨by omega, by omega⟩ ⟨by omega, by omega⟩ (fun c9 => ?_) (fun c9 => ?_)
    · have c9 : (p3 : Int) < z8 := c9
      refine yG.num (c := 0) rfl (fun _ _ => rfl) (by decide) ?_
      refine yG.ret rfl (fun _ _ => rfl) ?_
      exact (yP.bool (by omega) ⟨⟨0, rfl, by omega, by omega, by omega⟩, rfl⟩)
    · have c9 : (p3 : Int) ≥ z8 := c9
      refine yG.num (c := 1) rfl (fun _ _ => rfl) (by decide) ?_
      refine yG.goto rfl (t := 105) rfl ?_
      refine yG.ret rfl (fun _ _ => rfl) ?_
      exact (yP.bool (by omega) ⟨⟨1, rfl, by omega, by omega, by omega⟩, rfl⟩)
theorem c_Net_allows_0_0 {hp : xH} (W : bW G) (d : Nat) (hT : zTy G hp) {k0 : Nat} (H_k0 : bRo G 18 k0) (p2 p4 : Int) (h2l : 0 ≤ p2) (h2u : p2 ≤ 15) (h4l : (-2147483648) ≤ p4) (h4u : p4 ≤ 2147483647) : yC (xcall 89 xfts xpools xms (d + 1)) 150 [yR k0, yI (0), yI (p2), yI (0), yI (p4)] hp (bQpi hp 0 0 (fun _ => True)) := by
  have A_hp : bAx G [] hp hp := bAx.rf hT
  refine yC.of (M := (xt_X5_allows, (5, (4, (6, []))))) rfl rfl (N := 33) (yfuel (by decide)) ?_
  show yG 89 xfts (xcall 89 xfts xpools xms d) (xpool xp_RX5) [] xt_X5_allows (yP 4 (bQpi hp 0 0 (fun _ => True))) 33 0 [(0, yR k0), (1, yI (0)), (2, yI (p2)), (3, yI (0)), (4, yI (p4))] [] hp
  refine yG.load xik rfl (fun _ _ => rfl) (v := yI (0)) rfl rfl ?_
  refine yG.ifz rfl (t := 43) rfl ⟨by omega, by omega⟩ (fun c1 => ?_) (fun c1 => ?_)
  · have c1 : (0 : Int) < 0 := c1
    exfalso; omega
  · have c1 : (0 : Int) ≥ 0 := c1
    refine yG.load xik rfl (fun _ _ => rfl) (v := yI (0)) rfl rfl ?_
    refine yG.getS (c := 9) rfl rfl ?_
    refine yG.load xik rfl (fun _ _ => rfl) (v := yI (0)) rfl rfl ?_
    refine yG.ialdF A_hp.1 (v_S_Net_SETTABLE W (s_S_Net_SETTABLE W)) rfl rfl (by omega) (by omega) (fun z2 e_z2 i_z2 l_z2 u_z2 => ?_)
    obtain rfl : z2 = 0 := by omega
    refine yG.icmp rfl (t := 43) rfl ⟨by omega, by omega⟩ ⟨by omega, by omega⟩ (fun c3 => ?_) (fun c3 => ?_)
    · have c3 : (0 : Int) ≥ 0 := c3
      refine yG.num (c := 0) rfl (fun _ _ => rfl) (by decide) ?_
      refine yG.ret rfl (fun _ _ => rfl) ?_
      exact (yP.bool (by omega) ⟨⟨0, rfl, by omega, by omega, trivial⟩, rfl⟩)
    · have c3 : (0 : Int) < 0 := c3
      exfalso; omega
theorem c_Net_allows_0_1 {hp : xH} (W : bW G) (d : Nat) (hT : zTy G hp) {k0 : Nat} (H_k0 : bRo G 18 k0) (p2 p4 : Int) (h2l : 0 ≤ p2) (h2u : p2 ≤ 15) (h4l : (-2147483648) ≤ p4) (h4u : p4 ≤ 2147483647) : yC (xcall 89 xfts xpools xms (d + 1)) 150 [yR k0, yI (0), yI (p2), yI (1), yI (p4)] hp (bQpi hp 0 0 (fun _ => True)) := by
  have A_hp : bAx G [] hp hp := bAx.rf hT
  refine yC.of (M := (xt_X5_allows, (5, (4, (6, []))))) rfl rfl (N := 33) (yfuel (by decide)) ?_
  show yG 89 xfts (xcall 89 xfts xpools xms d) (xpool xp_RX5) [] xt_X5_allows (yP 4 (bQpi hp 0 0 (fun _ => True))) 33 0 [(0, yR k0), (1, yI (0)), (2, yI (p2)), (3, yI (1)), (4, yI (p4))] [] hp
  refine yG.load xik rfl (fun _ _ => rfl) (v := yI (1)) rfl rfl ?_
  refine yG.ifz rfl (t := 43) rfl ⟨by omega, by omega⟩ (fun c1 => ?_) (fun c1 => ?_)
  · have c1 : (1 : Int) < 0 := c1
    exfalso; omega
  · have c1 : (1 : Int) ≥ 0 := c1
    refine yG.load xik rfl (fun _ _ => rfl) (v := yI (1)) rfl rfl ?_
    refine yG.getS (c := 9) rfl rfl ?_
    refine yG.load xik rfl (fun _ _ => rfl) (v := yI (0)) rfl rfl ?_
    refine yG.ialdF A_hp.1 (v_S_Net_SETTABLE W (s_S_Net_SETTABLE W)) rfl rfl (by omega) (by omega) (fun z2 e_z2 i_z2 l_z2 u_z2 => ?_)
    obtain rfl : z2 = 0 := by omega
    refine yG.icmp rfl (t := 43) rfl ⟨by omega, by omega⟩ ⟨by omega, by omega⟩ (fun c3 => ?_) (fun c3 => ?_)
    · have c3 : (1 : Int) ≥ 0 := c3
      refine yG.num (c := 0) rfl (fun _ _ => rfl) (by decide) ?_
      refine yG.ret rfl (fun _ _ => rfl) ?_
      exact (yP.bool (by omega) ⟨⟨0, rfl, by omega, by omega, trivial⟩, rfl⟩)
    · have c3 : (1 : Int) < 0 := c3
      exfalso; omega
theorem c_Net_allows_0_2 {hp : xH} (W : bW G) (d : Nat) (hT : zTy G hp) {k0 : Nat} (H_k0 : bRo G 18 k0) (p2 p4 : Int) (h2l : 0 ≤ p2) (h2u : p2 ≤ 15) (h4l : (-2147483648) ≤ p4) (h4u : p4 ≤ 2147483647) : yC (xcall 89 xfts xpools xms (d + 1)) 150 [yR k0, yI (0), yI (p2), yI (2), yI (p4)] hp (bQpi hp 0 0 (fun _ => True)) := by
  have A_hp : bAx G [] hp hp := bAx.rf hT
  refine yC.of (M := (xt_X5_allows, (5, (4, (6, []))))) rfl rfl (N := 33) (yfuel (by decide)) ?_
  show yG 89 xfts (xcall 89 xfts xpools xms d) (xpool xp_RX5) [] xt_X5_allows (yP 4 (bQpi hp 0 0 (fun _ => True))) 33 0 [(0, yR k0), (1, yI (0)), (2, yI (p2)), (3, yI (2)), (4, yI (p4))] [] hp
  refine yG.load xik rfl (fun _ _ => rfl) (v := yI (2)) rfl rfl ?_
  refine yG.ifz rfl (t := 43) rfl ⟨by omega, by omega⟩ (fun c1 => ?_) (fun c1 => ?_)
  · have c1 : (2 : Int) < 0 := c1
    exfalso; omega
  · have c1 : (2 : Int) ≥ 0 := c1
    refine yG.load xik rfl (fun _ _ => rfl) (v := yI (2)) rfl rfl ?_
    refine yG.getS (c := 9) rfl rfl ?_
    refine yG.load xik rfl (fun _ _ => rfl) (v := yI (0)) rfl rfl ?_
    refine yG.ialdF A_hp.1 (v_S_Net_SETTABLE W (s_S_Net_SETTABLE W)) rfl rfl (by omega) (by omega) (fun z2 e_z2 i_z2 l_z2 u_z2 => ?_)
    obtain rfl : z2 = 0 := by omega
    refine yG.icmp rfl (t := 43) rfl ⟨by omega, by omega⟩ ⟨by omega, by omega⟩ (fun c3 => ?_) (fun c3 => ?_)
    · have c3 : (2 : Int) ≥ 0 := c3
      refine yG.num (c := 0) rfl (fun _ _ => rfl) (by decide) ?_
      refine yG.ret rfl (fun _ _ => rfl) ?_
      exact (yP.bool (by omega) ⟨⟨0, rfl, by omega, by omega, trivial⟩, rfl⟩)
    · have c3 : (2 : Int) < 0 := c3
      exfalso; omega
theorem c_Net_allows_0_3 {hp : xH} (W : bW G) (d : Nat) (hT : zTy G hp) {k0 : Nat} (H_k0 : bRo G 18 k0) (p2 p4 : Int) (h2l : 0 ≤ p2) (h2u : p2 ≤ 15) (h4l : (-2147483648) ≤ p4) (h4u : p4 ≤ 2147483647) : yC (xcall 89 xfts xpools xms (d + 1)) 150 [yR k0, yI (0), yI (p2), yI (3), yI (p4)] hp (bQpi hp 0 0 (fun _ => True)) := by
  have A_hp : bAx G [] hp hp := bAx.rf hT
  refine yC.of (M := (xt_X5_allows, (5, (4, (6, []))))) rfl rfl (N := 33) (yfuel (by decide)) ?_
  show yG 89 xfts (xcall 89 xfts xpools xms d) (xpool xp_RX5) [] xt_X5_allows (yP 4 (bQpi hp 0 0 (fun _ => True))) 33 0 [(0, yR k0), (1, yI (0)), (2, yI (p2)), (3, yI (3)), (4, yI (p4))] [] hp
  refine yG.load xik rfl (fun _ _ => rfl) (v := yI (3)) rfl rfl ?_
  refine yG.ifz rfl (t := 43) rfl ⟨by omega, by omega⟩ (fun c1 => ?_) (fun c1 => ?_)
  · have c1 : (3 : Int) < 0 := c1
    exfalso; omega
  · have c1 : (3 : Int) ≥ 0 := c1
    refine yG.load xik rfl (fun _ _ => rfl) (v := yI (3)) rfl rfl ?_
    refine yG.getS (c := 9) rfl rfl ?_
    refine yG.load xik rfl (fun _ _ => rfl) (v := yI (0)) rfl rfl ?_
    refine yG.ialdF A_hp.1 (v_S_Net_SETTABLE W (s_S_Net_SETTABLE W)) rfl rfl (by omega) (by omega) (fun z2 e_z2 i_z2 l_z2 u_z2 => ?_)
    obtain rfl : z2 = 0 := by omega
    refine yG.icmp rfl (t := 43) rfl ⟨by omega, by omega⟩ ⟨by omega, by omega⟩ (fun c3 => ?_) (fun c3 => ?_)
    · have c3 : (3 : Int) ≥ 0 := c3
      refine yG.num (c := 0) rfl (fun _ _ => rfl) (by decide) ?_
      refine yG.ret rfl (fun _ _ => rfl) ?_
      exact (yP.bool (by omega) ⟨⟨0, rfl, by omega, by omega, trivial⟩, rfl⟩)
    · have c3 : (3 : Int) < 0 := c3
      exfalso; omega
theorem c_Net_allows_0_4 {hp : xH} (W : bW G) (d : Nat) (hT : zTy G hp) {k0 : Nat} (H_k0 : bRo G 18 k0) (p2 p4 : Int) (h2l : 0 ≤ p2) (h2u : p2 ≤ 15) (h4l : (-2147483648) ≤ p4) (h4u : p4 ≤ 2147483647) : yC (xcall 89 xfts xpools xms (d + 1)) 150 [yR k0, yI (0), yI (p2), yI (4), yI (p4)] hp (bQpi hp 0 0 (fun _ => True)) := by
  have A_hp : bAx G [] hp hp := bAx.rf hT
  refine yC.of (M := (xt_X5_allows, (5, (4, (6, []))))) rfl rfl (N := 33) (yfuel (by decide)) ?_
  show yG 89 xfts (xcall 89 xfts xpools xms d) (xpool xp_RX5) [] xt_X5_allows (yP 4 (bQpi hp 0 0 (fun _ => True))) 33 0 [(0, yR k0), (1, yI (0)), (2, yI (p2)), (3, yI (4)), (4, yI (p4))] [] hp
  refine yG.load xik rfl (fun _ _ => rfl) (v := yI (4)) rfl rfl ?_
  refine yG.ifz rfl (t := 43) rfl ⟨by omega, by omega⟩ (fun c1 => ?_) (fun c1 => ?_)
  · have c1 : (4 : Int) < 0 := c1
    exfalso; omega
  · have c1 : (4 : Int) ≥ 0 := c1
    refine yG.load xik rfl (fun _ _ => rfl) (v := yI (4)) rfl rfl ?_
    refine yG.getS (c := 9) rfl rfl ?_
    refine yG.load xik rfl (fun _ _ => rfl) (v := yI (0)) rfl rfl ?_
    refine yG.ialdF A_hp.1 (v_S_Net_SETTABLE W (s_S_Net_SETTABLE W)) rfl rfl (by omega) (by omega) (fun z2 e_z2 i_z2 l_z2 u_z2 => ?_)
    obtain rfl : z2 = 0 := by omega
    refine yG.icmp rfl (t := 43) rfl ⟨by omega, by omega⟩ ⟨by omega, by omega⟩ (fun c3 => ?_) (fun c3 => ?_)
    · have c3 : (4 : Int) ≥ 0 := c3
      refine yG.num (c := 0) rfl (fun _ _ => rfl) (by decide) ?_
      refine yG.ret rfl (fun _ _ => rfl) ?_
      exact (yP.bool (by omega) ⟨⟨0, rfl, by omega, by omega, trivial⟩, rfl⟩)
    · have c3 : (4 : Int) < 0 := c3
      exfalso; omega
theorem c_Net_allows_0_5 {hp : xH} (W : bW G) (d : Nat) (hT : zTy G hp) {k0 : Nat} (H_k0 : bRo G 18 k0) (p2 p4 : Int) (h2l : 0 ≤ p2) (h2u : p2 ≤ 15) (h4l : (-2147483648) ≤ p4) (h4u : p4 ≤ 2147483647) : yC (xcall 89 xfts xpools xms (d + 1)) 150 [yR k0, yI (0), yI (p2), yI (5), yI (p4)] hp (bQpi hp 0 0 (fun _ => True)) := by
  have A_hp : bAx G [] hp hp := bAx.rf hT
  refine yC.of (M := (xt_X5_allows, (5, (4, (6, []))))) rfl rfl (N := 33) (yfuel (by decide)) ?_
  show yG 89 xfts (xcall 89 xfts xpools xms d) (xpool xp_RX5) [] xt_X5_allows (yP 4 (bQpi hp 0 0 (fun _ => True))) 33 0 [(0, yR k0), (1, yI (0)), (2, yI (p2)), (3, yI (5)), (4, yI (p4))] [] hp
  refine yG.load xik rfl (fun _ _ => rfl) (v := yI (5)) rfl rfl ?_
  refine yG.ifz rfl (t := 43) rfl ⟨by omega, by omega⟩ (fun c1 => ?_) (fun c1 => ?_)
  · have c1 : (5 : Int) < 0 := c1
    exfalso; omega
  · have c1 : (5 : Int) ≥ 0 := c1
    refine yG.load xik rfl (fun _ _ => rfl) (v := yI (5)) rfl rfl ?_
    refine yG.getS (c := 9) rfl rfl ?_
    refine yG.load xik rfl (fun _ _ => rfl) (v := yI (0)) rfl rfl ?_
    refine yG.ialdF A_hp.1 (v_S_Net_SETTABLE W (s_S_Net_SETTABLE W)) rfl rfl (by omega) (by omega) (fun z2 e_z2 i_z2 l_z2 u_z2 => ?_)
    obtain rfl : z2 = 0 := by omega
    refine yG.icmp rfl (t := 43) rfl ⟨by omega, by omega⟩ ⟨by omega, by omega⟩ (fun c3 => ?_) (fun c3 => ?_)
    · have c3 : (5 : Int) ≥ 0 := c3
      refine yG.num (c := 0) rfl (fun _ _ => rfl) (by decide) ?_
      refine yG.ret rfl (fun _ _ => rfl) ?_
      exact (yP.bool (by omega) ⟨⟨0, rfl, by omega, by omega, trivial⟩, rfl⟩)
    · have c3 : (5 : Int) < 0 := c3
      exfalso; omega
theorem c_Net_allows_0_6 {hp : xH} (W : bW G) (d : Nat) (hT : zTy G hp) {k0 : Nat} (H_k0 : bRo G 18 k0) (p2 p4 : Int) (h2l : 0 ≤ p2) (h2u : p2 ≤ 15) (h4l : (-2147483648) ≤ p4) (h4u : p4 ≤ 2147483647) : yC (xcall 89 xfts xpools xms (d + 1)) 150 [yR k0, yI (0), yI (p2), yI (6), yI (p4)] hp (bQpi hp 0 0 (fun _ => True)) := by
  have A_hp : bAx G [] hp hp := bAx.rf hT
  refine yC.of (M := (xt_X5_allows, (5, (4, (6, []))))) rfl rfl (N := 33) (yfuel (by decide)) ?_
  show yG 89 xfts (xcall 89 xfts xpools xms d) (xpool xp_RX5) [] xt_X5_allows (yP 4 (bQpi hp 0 0 (fun _ => True))) 33 0 [(0, yR k0), (1, yI (0)), (2, yI (p2)), (3, yI (6)), (4, yI (p4))] [] hp
  refine yG.load xik rfl (fun _ _ => rfl) (v := yI (6)) rfl rfl ?_
  refine yG.ifz rfl (t := 43) rfl ⟨by omega, by omega⟩ (fun c1 => ?_) (fun c1 => ?_)
  · have c1 : (6 : Int) < 0 := c1
    exfalso; omega
  · have c1 : (6 : Int) ≥ 0 := c1
    refine yG.load xik rfl (fun _ _ => rfl) (v := yI (6)) rfl rfl ?_
    refine yG.getS (c := 9) rfl rfl ?_
    refine yG.load xik rfl (fun _ _ => rfl) (v := yI (0)) rfl rfl ?_
    refine yG.ialdF A_hp.1 (v_S_Net_SETTABLE W (s_S_Net_SETTABLE W)) rfl rfl (by omega) (by omega) (fun z2 e_z2 i_z2 l_z2 u_z2 => ?_)
    obtain rfl : z2 = 0 := by omega
    refine yG.icmp rfl (t := 43) rfl ⟨by omega, by omega⟩ ⟨by omega, by omega⟩ (fun c3 => ?_) (fun c3 => ?_)
    · have c3 : (6 : Int) ≥ 0 := c3
      refine yG.num (c := 0) rfl (fun _ _ => rfl) (by decide) ?_
      refine yG.ret rfl (fun _ _ => rfl) ?_
      exact (yP.bool (by omega) ⟨⟨0, rfl, by omega, by omega, trivial⟩, rfl⟩)
    · have c3 : (6 : Int) < 0 := c3
      exfalso; omega
theorem c_Net_allows_0_7 {hp : xH} (W : bW G) (d : Nat) (hT : zTy G hp) {k0 : Nat} (H_k0 : bRo G 18 k0) (p2 p4 : Int) (h2l : 0 ≤ p2) (h2u : p2 ≤ 15) (h4l : (-2147483648) ≤ p4) (h4u : p4 ≤ 2147483647) : yC (xcall 89 xfts xpools xms (d + 1)) 150 [yR k0, yI (0), yI (p2), yI (7), yI (p4)] hp (bQpi hp 0 0 (fun _ => True)) := by
  have A_hp : bAx G [] hp hp := bAx.rf hT
  refine yC.of (M := (xt_X5_allows, (5, (4, (6, []))))) rfl rfl (N := 33) (yfuel (by decide)) ?_
  show yG 89 xfts (xcall 89 xfts xpools xms d) (xpool xp_RX5) [] xt_X5_allows (yP 4 (bQpi hp 0 0 (fun _ => True))) 33 0 [(0, yR k0), (1, yI (0)), (2, yI (p2)), (3, yI (7)), (4, yI (p4))] [] hp
  refine yG.load xik rfl (fun _ _ => rfl) (v := yI (7)) rfl rfl ?_
  refine yG.ifz rfl (t := 43) rfl ⟨by omega, by omega⟩ (fun c1 => ?_) (fun c1 => ?_)
  · have c1 : (7 : Int) < 0 := c1
    exfalso; omega
  · have c1 : (7 : Int) ≥ 0 := c1
    refine yG.load xik rfl (fun _ _ => rfl) (v := yI (7)) rfl rfl ?_
    refine yG.getS (c := 9) rfl rfl ?_
    refine yG.load xik rfl (fun _ _ => rfl) (v := yI (0)) rfl rfl ?_
    refine yG.ialdF A_hp.1 (v_S_Net_SETTABLE W (s_S_Net_SETTABLE W)) rfl rfl (by omega) (by omega) (fun z2 e_z2 i_z2 l_z2 u_z2 => ?_)
    obtain rfl : z2 = 0 := by omega
    refine yG.icmp rfl (t := 43) rfl ⟨by omega, by omega⟩ ⟨by omega, by omega⟩ (fun c3 => ?_) (fun c3 => ?_)
    · have c3 : (7 : Int) ≥ 0 := c3
      refine yG.num (c := 0) rfl (fun _ _ => rfl) (by decide) ?_
      refine yG.ret rfl (fun _ _ => rfl) ?_
      exact (yP.bool (by omega) ⟨⟨0, rfl, by omega, by omega, trivial⟩, rfl⟩)
    · have c3 : (7 : Int) < 0 := c3
      exfalso; omega
theorem c_Net_allows_0_8 {hp : xH} (W : bW G) (d : Nat) (hT : zTy G hp) {k0 : Nat} (H_k0 : bRo G 18 k0) (p2 p4 : Int) (h2l : 0 ≤ p2) (h2u : p2 ≤ 15) (h4l : (-2147483648) ≤ p4) (h4u : p4 ≤ 2147483647) : yC (xcall 89 xfts xpools xms (d + 1)) 150 [yR k0, yI (0), yI (p2), yI (8), yI (p4)] hp (bQpi hp 0 0 (fun _ => True)) := by
  have A_hp : bAx G [] hp hp := bAx.rf hT
  refine yC.of (M := (xt_X5_allows, (5, (4, (6, []))))) rfl rfl (N := 33) (yfuel (by decide)) ?_
  show yG 89 xfts (xcall 89 xfts xpools xms d) (xpool xp_RX5) [] xt_X5_allows (yP 4 (bQpi hp 0 0 (fun _ => True))) 33 0 [(0, yR k0), (1, yI (0)), (2, yI (p2)), (3, yI (8)), (4, yI (p4))] [] hp
  refine yG.load xik rfl (fun _ _ => rfl) (v := yI (8)) rfl rfl ?_
  refine yG.ifz rfl (t := 43) rfl ⟨by omega, by omega⟩ (fun c1 => ?_) (fun c1 => ?_)
  · have c1 : (8 : Int) < 0 := c1
    exfalso; omega
  · have c1 : (8 : Int) ≥ 0 := c1
    refine yG.load xik rfl (fun _ _ => rfl) (v := yI (8)) rfl rfl ?_
    refine yG.getS (c := 9) rfl rfl ?_
    refine yG.load xik rfl (fun _ _ => rfl) (v := yI (0)) rfl rfl ?_
    refine yG.ialdF A_hp.1 (v_S_Net_SETTABLE W (s_S_Net_SETTABLE W)) rfl rfl (by omega) (by omega) (fun z2 e_z2 i_z2 l_z2 u_z2 => ?_)
    obtain rfl : z2 = 0 := by omega
    refine yG.icmp rfl (t := 43) rfl ⟨by omega, by omega⟩ ⟨by omega, by omega⟩ (fun c3 => ?_) (fun c3 => ?_)
    · have c3 : (8 : Int) ≥ 0 := c3
      refine yG.num (c := 0) rfl (fun _ _ => rfl) (by decide) ?_
      refine yG.ret rfl (fun _ _ => rfl) ?_
      exact (yP.bool (by omega) ⟨⟨0, rfl, by omega, by omega, trivial⟩, rfl⟩)
    · have c3 : (8 : Int) < 0 := c3
      exfalso; omega
theorem c_Net_allows_0_9 {hp : xH} (W : bW G) (d : Nat) (hT : zTy G hp) {k0 : Nat} (H_k0 : bRo G 18 k0) (p2 p4 : Int) (h2l : 0 ≤ p2) (h2u : p2 ≤ 15) (h4l : (-2147483648) ≤ p4) (h4u : p4 ≤ 2147483647) : yC (xcall 89 xfts xpools xms (d + 1)) 150 [yR k0, yI (0), yI (p2), yI (9), yI (p4)] hp (bQpi hp 0 0 (fun _ => True)) := by
  have A_hp : bAx G [] hp hp := bAx.rf hT
  refine yC.of (M := (xt_X5_allows, (5, (4, (6, []))))) rfl rfl (N := 33) (yfuel (by decide)) ?_
  show yG 89 xfts (xcall 89 xfts xpools xms d) (xpool xp_RX5) [] xt_X5_allows (yP 4 (bQpi hp 0 0 (fun _ => True))) 33 0 [(0, yR k0), (1, yI (0)), (2, yI (p2)), (3, yI (9)), (4, yI (p4))] [] hp
  refine yG.load xik rfl (fun _ _ => rfl) (v := yI (9)) rfl rfl ?_
  refine yG.ifz rfl (t := 43) rfl ⟨by omega, by omega⟩ (fun c1 => ?_) (fun c1 => ?_)
  · have c1 : (9 : Int) < 0 := c1
    exfalso; omega
  · have c1 : (9 : Int) ≥ 0 := c1
    refine yG.load xik rfl (fun _ _ => rfl) (v := yI (9)) rfl rfl ?_
    refine yG.getS (c := 9) rfl rfl ?_
    refine yG.load xik rfl (fun _ _ => rfl) (v := yI (0)) rfl rfl ?_
    refine yG.ialdF A_hp.1 (v_S_Net_SETTABLE W (s_S_Net_SETTABLE W)) rfl rfl (by omega) (by omega) (fun z2 e_z2 i_z2 l_z2 u_z2 => ?_)
    obtain rfl : z2 = 0 := by omega
    refine yG.icmp rfl (t := 43) rfl ⟨by omega, by omega⟩ ⟨by omega, by omega⟩ (fun c3 => ?_) (fun c3 => ?_)
    · have c3 : (9 : Int) ≥ 0 := c3
      refine yG.num (c := 0) rfl (fun _ _ => rfl) (by decide) ?_
      refine yG.ret rfl (fun _ _ => rfl) ?_
      exact (yP.bool (by omega) ⟨⟨0, rfl, by omega, by omega, trivial⟩, rfl⟩)
    · have c3 : (9 : Int) < 0 := c3
      exfalso; omega
theorem c_Net_allows_0_10 {hp : xH} (W : bW G) (d : Nat) (hT : zTy G hp) {k0 : Nat} (H_k0 : bRo G 18 k0) (p2 p4 : Int) (h2l : 0 ≤ p2) (h2u : p2 ≤ 15) (h4l : (-2147483648) ≤ p4) (h4u : p4 ≤ 2147483647) : yC (xcall 89 xfts xpools xms (d + 1)) 150 [yR k0, yI (0), yI (p2), yI (10), yI (p4)] hp (bQpi hp 0 0 (fun _ => True)) := by
  have A_hp : bAx G [] hp hp := bAx.rf hT
  refine yC.of (M := (xt_X5_allows, (5, (4, (6, []))))) rfl rfl (N := 33) (yfuel (by decide)) ?_
  show yG 89 xfts (xcall 89 xfts xpools xms d) (xpool xp_RX5) [] xt_X5_allows (yP 4 (bQpi hp 0 0 (fun _ => True))) 33 0 [(0, yR k0), (1, yI (0)), (2, yI (p2)), (3, yI (10)), (4, yI (p4))] [] hp
  refine yG.load xik rfl (fun _ _ => rfl) (v := yI (10)) rfl rfl ?_
  refine yG.ifz rfl (t := 43) rfl ⟨by omega, by omega⟩ (fun c1 => ?_) (fun c1 => ?_)
  · have c1 : (10 : Int) < 0 := c1
    exfalso; omega
  · have c1 : (10 : Int) ≥ 0 := c1
    refine yG.load xik rfl (fun _ _ => rfl) (v := yI (10)) rfl rfl ?_
    refine yG.getS (c := 9) rfl rfl ?_
    refine yG.load xik rfl (fun _ _ => rfl) (v := yI (0)) rfl rfl ?_
    refine yG.ialdF A_hp.1 (v_S_Net_SETTABLE W (s_S_Net_SETTABLE W)) rfl rfl (by omega) (by omega) (fun z2 e_z2 i_z2 l_z2 u_z2 => ?_)
    obtain rfl : z2 = 0 := by omega
    refine yG.icmp rfl (t := 43) rfl ⟨by omega, by omega⟩ ⟨by omega, by omega⟩ (fun c3 => ?_) (fun c3 => ?_)
    · have c3 : (10 : Int) ≥ 0 := c3
      refine yG.num (c := 0) rfl (fun _ _ => rfl) (by decide) ?_
      refine yG.ret rfl (fun _ _ => rfl) ?_
      exact (yP.bool (by omega) ⟨⟨0, rfl, by omega, by omega, trivial⟩, rfl⟩)
    · have c3 : (10 : Int) < 0 := c3
      exfalso; omega
theorem c_Net_allows_0_l {hp : xH} (W : bW G) (d : Nat) (hT : zTy G hp) {k0 : Nat} (H_k0 : bRo G 18 k0) (p2 p3 p4 : Int) (h2l : 0 ≤ p2) (h2u : p2 ≤ 15) (h3l : (-2147483648) ≤ p3) (h3u : p3 ≤ (-1)) (h4l : (-2147483648) ≤ p4) (h4u : p4 ≤ 2147483647) : yC (xcall 89 xfts xpools xms (d + 1)) 150 [yR k0, yI (0), yI (p2), yI (p3), yI (p4)] hp (bQpi hp 0 0 (fun _ => True)) := by
  have A_hp : bAx G [] hp hp := bAx.rf hT
  refine yC.of (M := (xt_X5_allows, (5, (4, (6, []))))) rfl rfl (N := 18) (yfuel (by decide)) ?_
  show yG 89 xfts (xcall 89 xfts xpools xms d) (xpool xp_RX5) [] xt_X5_allows (yP 4 (bQpi hp 0 0 (fun _ => True))) 18 0 [(0, yR k0), (1, yI (0)), (2, yI (p2)), (3, yI (p3)), (4, yI (p4))] [] hp
  refine yG.load xik rfl (fun _ _ => rfl) (v := yI (p3)) rfl rfl ?_
  refine yG.ifz rfl (t := 43) rfl ⟨by omega, by omega⟩ (fun c1 => ?_) (fun c1 => ?_)
  · have c1 : (p3 : Int) < 0 := c1
    refine yG.num (c := 0) rfl (fun _ _ => rfl) (by decide) ?_
    refine yG.ret rfl (fun _ _ => rfl) ?_
    exact (yP.bool (by omega) ⟨⟨0, rfl, by omega, by omega, trivial⟩, rfl⟩)
  · have c1 : (p3 : Int) ≥ 0 := c1
    exfalso; omega
theorem c_Net_allows_0_h {hp : xH} (W : bW G) (d : Nat) (hT : zTy G hp) {k0 : Nat} (H_k0 : bRo G 18 k0) (p2 p3 p4 : Int) (h2l : 0 ≤ p2) (h2u : p2 ≤ 15) (h3l : 11 ≤ p3) (h3u : p3 ≤ 2147483647) (h4l : (-2147483648) ≤ p4) (h4u : p4 ≤ 2147483647) : yC (xcall 89 xfts xpools xms (d + 1)) 150 [yR k0, yI (0), yI (p2), yI (p3), yI (p4)] hp (bQpi hp 0 0 (fun _ => True)) := by
  have A_hp : bAx G [] hp hp := bAx.rf hT
  refine yC.of (M := (xt_X5_allows, (5, (4, (6, []))))) rfl rfl (N := 33) (yfuel (by decide)) ?_
  show yG 89 xfts (xcall 89 xfts xpools xms d) (xpool xp_RX5) [] xt_X5_allows (yP 4 (bQpi hp 0 0 (fun _ => True))) 33 0 [(0, yR k0), (1, yI (0)), (2, yI (p2)), (3, yI (p3)), (4, yI (p4))] [] hp
  refine yG.load xik rfl (fun _ _ => rfl) (v := yI (p3)) rfl rfl ?_
  refine yG.ifz rfl (t := 43) rfl ⟨by omega, by omega⟩ (fun c1 => ?_) (fun c1 => ?_)
  · have c1 : (p3 : Int) < 0 := c1
    exfalso; omega
  · have c1 : (p3 : Int) ≥ 0 := c1
    refine yG.load xik rfl (fun _ _ => rfl) (v := yI (p3)) rfl rfl ?_
    refine yG.getS (c := 9) rfl rfl ?_
    refine yG.load xik rfl (fun _ _ => rfl) (v := yI (0)) rfl rfl ?_
    refine yG.ialdF A_hp.1 (v_S_Net_SETTABLE W (s_S_Net_SETTABLE W)) rfl rfl (by omega) (by omega) (fun z2 e_z2 i_z2 l_z2 u_z2 => ?_)
    obtain rfl : z2 = 0 := by omega
    refine yG.icmp rfl (t := 43) rfl ⟨by omega, by omega⟩ ⟨by omega, by omega⟩ (fun c3 => ?_) (fun c3 => ?_)
    · have c3 : (p3 : Int) ≥ 0 := c3
      refine yG.num (c := 0) rfl (fun _ _ => rfl) (by decide) ?_
      refine yG.ret rfl (fun _ _ => rfl) ?_
      exact (yP.bool (by omega) ⟨⟨0, rfl, by omega, by omega, trivial⟩, rfl⟩)
    · have c3 : (p3 : Int) < 0 := c3
      exfalso; omega
theorem c_Net_allows_1_0 {hp : xH} (W : bW G) (d : Nat) (hT : zTy G hp) {k0 : Nat} (H_k0 : bRo G 18 k0) (p2 p4 : Int) (h2l : 0 ≤ p2) (h2u : p2 ≤ 23) (h4l : (-2147483648) ≤ p4) (h4u : p4 ≤ 2147483647) : yC (xcall 89 xfts xpools xms (d + 2)) 150 [yR k0, yI (1), yI (p2), yI (0), yI (p4)] hp (bQpi hp 0 1 (fun z => (z = 1 → 0 ≤ p4 ∧ 0 ≤ 0 - p4 + 2))) := by
  have A_hp : bAx G [] hp hp := bAx.rf hT
  refine yC.of (M := (xt_X5_allows, (5, (4, (6, []))))) rfl rfl (N := 60) (yfuel (by decide)) ?_
  show yG 89 xfts (xcall 89 xfts xpools xms (d + 1)) (xpool xp_RX5) [] xt_X5_allows (yP 4 (bQpi hp 0 1 (fun z => (z = 1 → 0 ≤ p4 ∧ 0 ≤ 0 - p4 + 2)))) 60 0 [(0, yR k0), (1, yI (1)), (2, yI (p2)), (3, yI (0)), (4, yI (p4))] [] hp
  refine yG.load xik rfl (fun _ _ => rfl) (v := yI (0)) rfl rfl ?_
  refine yG.ifz rfl (t := 43) rfl ⟨by omega, by omega⟩ (fun c1 => ?_) (fun c1 => ?_)
  · have c1 : (0 : Int) < 0 := c1
    exfalso; omega
  · have c1 : (0 : Int) ≥ 0 := c1
    refine yG.load xik rfl (fun _ _ => rfl) (v := yI (0)) rfl rfl ?_
    refine yG.getS (c := 9) rfl rfl ?_
    refine yG.load xik rfl (fun _ _ => rfl) (v := yI (1)) rfl rfl ?_
    refine yG.ialdF A_hp.1 (v_S_Net_SETTABLE W (s_S_Net_SETTABLE W)) rfl rfl (by omega) (by omega) (fun z2 e_z2 i_z2 l_z2 u_z2 => ?_)
    obtain rfl : z2 = 2 := by omega
    refine yG.icmp rfl (t := 43) rfl ⟨by omega, by omega⟩ ⟨by omega, by omega⟩ (fun c3 => ?_) (fun c3 => ?_)
    · have c3 : (0 : Int) ≥ 2 := c3
      exfalso; omega
    · have c3 : (0 : Int) < 2 := c3
      refine yG.load xik rfl (fun _ _ => rfl) (v := yI (1)) rfl rfl ?_
      refine yG.load xik rfl (fun _ _ => rfl) (v := yI (0)) rfl rfl ?_
      refine yG.load xik rfl (fun _ _ => rfl) (v := yI (p4)) rfl rfl ?_
      refine yG.invS (rest := []) rfl rfl rfl rfl (c_Net_isWithin_1_0 W d A_hp.1 (p4) (by omega) (by omega)) (fun rv hp9 q9 => ?_)
      obtain ⟨⟨z4, rfl, l_z4, u_z4, R_z4⟩, e9⟩ := q9
      rw [e9]
      show yG _ _ _ _ _ _ _ _ _ _ (yI z4 :: []) _
      refine yG.ifz rfl (t := 43) rfl ⟨by omega, by omega⟩ (fun c5 => ?_) (fun c5 => ?_)
      · have c5 : (z4 : Int) = 0 := c5
        refine yG.num (c := 0) rfl (fun _ _ => rfl) (by decide) ?_
        refine yG.ret rfl (fun _ _ => rfl) ?_
        exact (yP.bool (by omega) ⟨⟨0, rfl, by omega, by omega, by omega⟩, rfl⟩)
      · have c5 : (z4 : Int) ≠ 0 := c5
        refine yG.load xik rfl (fun _ _ => rfl) (v := yI (1)) rfl rfl ?_
        refine yG.num (c := 3) rfl (fun _ _ => rfl) (by decide) ?_
        refine yG.icmp rfl (t := 39) rfl ⟨by omega, by omega⟩ ⟨by omega, by omega⟩ (fun c6 => ?_) (fun c6 => ?_)
        · have c6 : (1 : Int) ≠ 3 := c6
          refine yG.num (c := 1) rfl (fun _ _ => rfl) (by decide) ?_
          refine yG.goto rfl (t := 44) rfl ?_
          refine yG.ret rfl (fun _ _ => rfl) ?_
          exact (yP.bool (by omega) ⟨⟨1, rfl, by omega, by omega, by omega⟩, rfl⟩)
        · have c6 : (1 : Int) = 3 := c6
          exfalso; omega
theorem c_Net_allows_1_1 {hp : xH} (W : bW G) (d : Nat) (hT : zTy G hp) {k0 : Nat} (H_k0 : bRo G 18 k0) (p2 p4 : Int) (h2l : 0 ≤ p2) (h2u : p2 ≤ 23) (h4l : (-2147483648) ≤ p4) (h4u : p4 ≤ 2147483647) : yC (xcall 89 xfts xpools xms (d + 2)) 150 [yR k0, yI (1), yI (p2), yI (1), yI (p4)] hp (bQpi hp 0 1 (fun z => (z = 1 → 0 ≤ p4 - 1 ∧ 0 ≤ 0 - p4 + 999999))) := by
  have A_hp : bAx G [] hp hp := bAx.rf hT
  refine yC.of (M := (xt_X5_allows, (5, (4, (6, []))))) rfl rfl (N := 60) (yfuel (by decide)) ?_
  show yG 89 xfts (xcall 89 xfts xpools xms (d + 1)) (xpool xp_RX5) [] xt_X5_allows (yP 4 (bQpi hp 0 1 (fun z => (z = 1 → 0 ≤ p4 - 1 ∧ 0 ≤ 0 - p4 + 999999)))) 60 0 [(0, yR k0), (1, yI (1)), (2, yI (p2)), (3, yI (1)), (4, yI (p4))] [] hp
  refine yG.load xik rfl (fun _ _ => rfl) (v := yI (1)) rfl rfl ?_
  refine yG.ifz rfl (t := 43) rfl ⟨by omega, by omega⟩ (fun c1 => ?_) (fun c1 => ?_)
  · have c1 : (1 : Int) < 0 := c1
    exfalso; omega
  · have c1 : (1 : Int) ≥ 0 := c1
    refine yG.load xik rfl (fun _ _ => rfl) (v := yI (1)) rfl rfl ?_
    refine yG.getS (c := 9) rfl rfl ?_
    refine yG.load xik rfl (fun _ _ => rfl) (v := yI (1)) rfl rfl ?_
    refine yG.ialdF A_hp.1 (v_S_Net_SETTABLE W (s_S_Net_SETTABLE W)) rfl rfl (by omega) (by omega) (fun z2 e_z2 i_z2 l_z2 u_z2 => ?_)
    obtain rfl : z2 = 2 := by omega
    refine yG.icmp rfl (t := 43) rfl ⟨by omega, by omega⟩ ⟨by omega, by omega⟩ (fun c3 => ?_) (fun c3 => ?_)
    · have c3 : (1 : Int) ≥ 2 := c3
      exfalso; omega
    · have c3 : (1 : Int) < 2 := c3
      refine yG.load xik rfl (fun _ _ => rfl) (v := yI (1)) rfl rfl ?_
      refine yG.load xik rfl (fun _ _ => rfl) (v := yI (1)) rfl rfl ?_
      refine yG.load xik rfl (fun _ _ => rfl) (v := yI (p4)) rfl rfl ?_
      refine yG.invS (rest := []) rfl rfl rfl rfl (c_Net_isWithin_1_1 W d A_hp.1 (p4) (by omega) (by omega)) (fun rv hp9 q9 => ?_)
      obtain ⟨⟨z4, rfl, l_z4, u_z4, R_z4⟩, e9⟩ := q9
      rw [e9]
      show yG _ _ _ _ _ _ _ _ _ _ (yI z4 :: []) _
      refine yG.ifz rfl (t := 43) rfl ⟨by omega, by omega⟩ (fun c5 => ?_) (fun c5 => ?_)
      · have c5 : (z4 : Int) = 0 := c5
        refine yG.num (c := 0) rfl (fun _ _ => rfl) (by decide) ?_
        refine yG.ret rfl (fun _ _ => rfl) ?_
        exact (yP.bool (by omega) ⟨⟨0, rfl, by omega, by omega, by omega⟩, rfl⟩)
      · have c5 : (z4 : Int) ≠ 0 := c5
        refine yG.load xik rfl (fun _ _ => rfl) (v := yI (1)) rfl rfl ?_
        refine yG.num (c := 3) rfl (fun _ _ => rfl) (by decide) ?_
        refine yG.icmp rfl (t := 39) rfl ⟨by omega, by omega⟩ ⟨by omega, by omega⟩ (fun c6 => ?_) (fun c6 => ?_)
        · have c6 : (1 : Int) ≠ 3 := c6
          refine yG.num (c := 1) rfl (fun _ _ => rfl) (by decide) ?_
          refine yG.goto rfl (t := 44) rfl ?_
          refine yG.ret rfl (fun _ _ => rfl) ?_
          exact (yP.bool (by omega) ⟨⟨1, rfl, by omega, by omega, by omega⟩, rfl⟩)
        · have c6 : (1 : Int) = 3 := c6
          exfalso; omega
theorem c_Net_allows_1_2 {hp : xH} (W : bW G) (d : Nat) (hT : zTy G hp) {k0 : Nat} (H_k0 : bRo G 18 k0) (p2 p4 : Int) (h2l : 0 ≤ p2) (h2u : p2 ≤ 23) (h4l : (-2147483648) ≤ p4) (h4u : p4 ≤ 2147483647) : yC (xcall 89 xfts xpools xms (d + 1)) 150 [yR k0, yI (1), yI (p2), yI (2), yI (p4)] hp (bQpi hp 0 0 (fun _ => True)) := by
  have A_hp : bAx G [] hp hp := bAx.rf hT
  refine yC.of (M := (xt_X5_allows, (5, (4, (6, []))))) rfl rfl (N := 33) (yfuel (by decide)) ?_
  show yG 89 xfts (xcall 89 xfts xpools xms d) (xpool xp_RX5) [] xt_X5_allows (yP 4 (bQpi hp 0 0 (fun _ => True))) 33 0 [(0, yR k0), (1, yI (1)), (2, yI (p2)), (3, yI (2)), (4, yI (p4))] [] hp
  refine yG.load xik rfl (fun _ _ => rfl) (v := yI (2)) rfl rfl ?_
  refine yG.ifz rfl (t := 43) rfl ⟨by omega, by omega⟩ (fun c1 => ?_) (fun c1 => ?_)
  · have c1 : (2 : Int) < 0 := c1
    exfalso; omega
  · have c1 : (2 : Int) ≥ 0 := c1
    refine yG.load xik rfl (fun _ _ => rfl) (v := yI (2)) rfl rfl ?_
    refine yG.getS (c := 9) rfl rfl ?_
    refine yG.load xik rfl (fun _ _ => rfl) (v := yI (1)) rfl rfl ?_
    refine yG.ialdF A_hp.1 (v_S_Net_SETTABLE W (s_S_Net_SETTABLE W)) rfl rfl (by omega) (by omega) (fun z2 e_z2 i_z2 l_z2 u_z2 => ?_)
    obtain rfl : z2 = 2 := by omega
    refine yG.icmp rfl (t := 43) rfl ⟨by omega, by omega⟩ ⟨by omega, by omega⟩ (fun c3 => ?_) (fun c3 => ?_)
    · have c3 : (2 : Int) ≥ 2 := c3
      refine yG.num (c := 0) rfl (fun _ _ => rfl) (by decide) ?_
      refine yG.ret rfl (fun _ _ => rfl) ?_
      exact (yP.bool (by omega) ⟨⟨0, rfl, by omega, by omega, trivial⟩, rfl⟩)
    · have c3 : (2 : Int) < 2 := c3
      exfalso; omega
theorem c_Net_allows_1_3 {hp : xH} (W : bW G) (d : Nat) (hT : zTy G hp) {k0 : Nat} (H_k0 : bRo G 18 k0) (p2 p4 : Int) (h2l : 0 ≤ p2) (h2u : p2 ≤ 23) (h4l : (-2147483648) ≤ p4) (h4u : p4 ≤ 2147483647) : yC (xcall 89 xfts xpools xms (d + 1)) 150 [yR k0, yI (1), yI (p2), yI (3), yI (p4)] hp (bQpi hp 0 0 (fun _ => True)) := by
  have A_hp : bAx G [] hp hp := bAx.rf hT
  refine yC.of (M := (xt_X5_allows, (5, (4, (6, []))))) rfl rfl (N := 33) (yfuel (by decide)) ?_
  show yG 89 xfts (xcall 89 xfts xpools xms d) (xpool xp_RX5) [] xt_X5_allows (yP 4 (bQpi hp 0 0 (fun _ => True))) 33 0 [(0, yR k0), (1, yI (1)), (2, yI (p2)), (3, yI (3)), (4, yI (p4))] [] hp
  refine yG.load xik rfl (fun _ _ => rfl) (v := yI (3)) rfl rfl ?_
  refine yG.ifz rfl (t := 43) rfl ⟨by omega, by omega⟩ (fun c1 => ?_) (fun c1 => ?_)
  · have c1 : (3 : Int) < 0 := c1
    exfalso; omega
  · have c1 : (3 : Int) ≥ 0 := c1
    refine yG.load xik rfl (fun _ _ => rfl) (v := yI (3)) rfl rfl ?_
    refine yG.getS (c := 9) rfl rfl ?_
    refine yG.load xik rfl (fun _ _ => rfl) (v := yI (1)) rfl rfl ?_
    refine yG.ialdF A_hp.1 (v_S_Net_SETTABLE W (s_S_Net_SETTABLE W)) rfl rfl (by omega) (by omega) (fun z2 e_z2 i_z2 l_z2 u_z2 => ?_)
    obtain rfl : z2 = 2 := by omega
    refine yG.icmp rfl (t := 43) rfl ⟨by omega, by omega⟩ ⟨by omega, by omega⟩ (fun c3 => ?_) (fun c3 => ?_)
    · have c3 : (3 : Int) ≥ 2 := c3
      refine yG.num (c := 0) rfl (fun _ _ => rfl) (by decide) ?_
      refine yG.ret rfl (fun _ _ => rfl) ?_
      exact (yP.bool (by omega) ⟨⟨0, rfl, by omega, by omega, trivial⟩, rfl⟩)
    · have c3 : (3 : Int) < 2 := c3
      exfalso; omega
theorem c_Net_allows_1_4 {hp : xH} (W : bW G) (d : Nat) (hT : zTy G hp) {k0 : Nat} (H_k0 : bRo G 18 k0) (p2 p4 : Int) (h2l : 0 ≤ p2) (h2u : p2 ≤ 23) (h4l : (-2147483648) ≤ p4) (h4u : p4 ≤ 2147483647) : yC (xcall 89 xfts xpools xms (d + 1)) 150 [yR k0, yI (1), yI (p2), yI (4), yI (p4)] hp (bQpi hp 0 0 (fun _ => True)) := by
  have A_hp : bAx G [] hp hp := bAx.rf hT
  refine yC.of (M := (xt_X5_allows, (5, (4, (6, []))))) rfl rfl (N := 33) (yfuel (by decide)) ?_
  show yG 89 xfts (xcall 89 xfts xpools xms d) (xpool xp_RX5) [] xt_X5_allows (yP 4 (bQpi hp 0 0 (fun _ => True))) 33 0 [(0, yR k0), (1, yI (1)), (2, yI (p2)), (3, yI (4)), (4, yI (p4))] [] hp
  refine yG.load xik rfl (fun _ _ => rfl) (v := yI (4)) rfl rfl ?_
  refine yG.ifz rfl (t := 43) rfl ⟨by omega, by omega⟩ (fun c1 => ?_) (fun c1 => ?_)
  · have c1 : (4 : Int) < 0 := c1
    exfalso; omega
  · have c1 : (4 : Int) ≥ 0 := c1
    refine yG.load xik rfl (fun _ _ => rfl) (v := yI (4)) rfl rfl ?_
    refine yG.getS (c := 9) rfl rfl ?_
    refine yG.load xik rfl (fun _ _ => rfl) (v := yI (1)) rfl rfl ?_
    refine yG.ialdF A_hp.1 (v_S_Net_SETTABLE W (s_S_Net_SETTABLE W)) rfl rfl (by omega) (by omega) (fun z2 e_z2 i_z2 l_z2 u_z2 => ?_)
    obtain rfl : z2 = 2 := by omega
    refine yG.icmp rfl (t := 43) rfl ⟨by omega, by omega⟩ ⟨by omega, by omega⟩ (fun c3 => ?_) (fun c3 => ?_)
    · have c3 : (4 : Int) ≥ 2 := c3
      refine yG.num (c := 0) rfl (fun _ _ => rfl) (by decide) ?_
      refine yG.ret rfl (fun _ _ => rfl) ?_
      exact (yP.bool (by omega) ⟨⟨0, rfl, by omega, by omega, trivial⟩, rfl⟩)
    · have c3 : (4 : Int) < 2 := c3
      exfalso; omega
theorem c_Net_allows_1_5 {hp : xH} (W : bW G) (d : Nat) (hT : zTy G hp) {k0 : Nat} (H_k0 : bRo G 18 k0) (p2 p4 : Int) (h2l : 0 ≤ p2) (h2u : p2 ≤ 23) (h4l : (-2147483648) ≤ p4) (h4u : p4 ≤ 2147483647) : yC (xcall 89 xfts xpools xms (d + 1)) 150 [yR k0, yI (1), yI (p2), yI (5), yI (p4)] hp (bQpi hp 0 0 (fun _ => True)) := by
  have A_hp : bAx G [] hp hp := bAx.rf hT
  refine yC.of (M := (xt_X5_allows, (5, (4, (6, []))))) rfl rfl (N := 33) (yfuel (by decide)) ?_
  show yG 89 xfts (xcall 89 xfts xpools xms d) (xpool xp_RX5) [] xt_X5_allows (yP 4 (bQpi hp 0 0 (fun _ => True))) 33 0 [(0, yR k0), (1, yI (1)), (2, yI (p2)), (3, yI (5)), (4, yI (p4))] [] hp
  refine yG.load xik rfl (fun _ _ => rfl) (v := yI (5)) rfl rfl ?_
  refine yG.ifz rfl (t := 43) rfl ⟨by omega, by omega⟩ (fun c1 => ?_) (fun c1 => ?_)
  · have c1 : (5 : Int) < 0 := c1
    exfalso; omega
  · have c1 : (5 : Int) ≥ 0 := c1
    refine yG.load xik rfl (fun _ _ => rfl) (v := yI (5)) rfl rfl ?_
    refine yG.getS (c := 9) rfl rfl ?_
    refine yG.load xik rfl (fun _ _ => rfl) (v := yI (1)) rfl rfl ?_
    refine yG.ialdF A_hp.1 (v_S_Net_SETTABLE W (s_S_Net_SETTABLE W)) rfl rfl (by omega) (by omega) (fun z2 e_z2 i_z2 l_z2 u_z2 => ?_)
    obtain rfl : z2 = 2 := by omega
    refine yG.icmp rfl (t := 43) rfl ⟨by omega, by omega⟩ ⟨by omega, by omega⟩ (fun c3 => ?_) (fun c3 => ?_)
    · have c3 : (5 : Int) ≥ 2 := c3
      refine yG.num (c := 0) rfl (fun _ _ => rfl) (by decide) ?_
      refine yG.ret rfl (fun _ _ => rfl) ?_
      exact (yP.bool (by omega) ⟨⟨0, rfl, by omega, by omega, trivial⟩, rfl⟩)
    · have c3 : (5 : Int) < 2 := c3
      exfalso; omega
theorem c_Net_allows_1_6 {hp : xH} (W : bW G) (d : Nat) (hT : zTy G hp) {k0 : Nat} (H_k0 : bRo G 18 k0) (p2 p4 : Int) (h2l : 0 ≤ p2) (h2u : p2 ≤ 23) (h4l : (-2147483648) ≤ p4) (h4u : p4 ≤ 2147483647) : yC (xcall 89 xfts xpools xms (d + 1)) 150 [yR k0, yI (1), yI (p2), yI (6), yI (p4)] hp (bQpi hp 0 0 (fun _ => True)) := by
  have A_hp : bAx G [] hp hp := bAx.rf hT
  refine yC.of (M := (xt_X5_allows, (5, (4, (6, []))))) rfl rfl (N := 33) (yfuel (by decide)) ?_
  show yG 89 xfts (xcall 89 xfts xpools xms d) (xpool xp_RX5) [] xt_X5_allows (yP 4 (bQpi hp 0 0 (fun _ => True))) 33 0 [(0, yR k0), (1, yI (1)), (2, yI (p2)), (3, yI (6)), (4, yI (p4))] [] hp
  refine yG.load xik rfl (fun _ _ => rfl) (v := yI (6)) rfl rfl ?_
  refine yG.ifz rfl (t := 43) rfl ⟨by omega, by omega⟩ (fun c1 => ?_) (fun c1 => ?_)
  · have c1 : (6 : Int) < 0 := c1
    exfalso; omega
  · have c1 : (6 : Int) ≥ 0 := c1
    refine yG.load xik rfl (fun _ _ => rfl) (v := yI (6)) rfl rfl ?_
    refine yG.getS (c := 9) rfl rfl ?_
    refine yG.load xik rfl (fun _ _ => rfl) (v := yI (1)) rfl rfl ?_
    refine yG.ialdF A_hp.1 (v_S_Net_SETTABLE W (s_S_Net_SETTABLE W)) rfl rfl (by omega) (by omega) (fun z2 e_z2 i_z2 l_z2 u_z2 => ?_)
    obtain rfl : z2 = 2 := by omega
    refine yG.icmp rfl (t := 43) rfl ⟨by omega, by omega⟩ ⟨by omega, by omega⟩ (fun c3 => ?_) (fun c3 => ?_)
    · have c3 : (6 : Int) ≥ 2 := c3
      refine yG.num (c := 0) rfl (fun _ _ => rfl) (by decide) ?_
      refine yG.ret rfl (fun _ _ => rfl) ?_
      exact (yP.bool (by omega) ⟨⟨0, rfl, by omega, by omega, trivial⟩, rfl⟩)
    · have c3 : (6 : Int) < 2 := c3
      exfalso; omega
theorem c_Net_allows_1_7 {hp : xH} (W : bW G) (d : Nat) (hT : zTy G hp) {k0 : Nat} (H_k0 : bRo G 18 k0) (p2 p4 : Int) (h2l : 0 ≤ p2) (h2u : p2 ≤ 23) (h4l : (-2147483648) ≤ p4) (h4u : p4 ≤ 2147483647) : yC (xcall 89 xfts xpools xms (d + 1)) 150 [yR k0, yI (1), yI (p2), yI (7), yI (p4)] hp (bQpi hp 0 0 (fun _ => True)) := by
  have A_hp : bAx G [] hp hp := bAx.rf hT
  refine yC.of (M := (xt_X5_allows, (5, (4, (6, []))))) rfl rfl (N := 33) (yfuel (by decide)) ?_
  show yG 89 xfts (xcall 89 xfts xpools xms d) (xpool xp_RX5) [] xt_X5_allows (yP 4 (bQpi hp 0 0 (fun _ => True))) 33 0 [(0, yR k0), (1, yI (1)), (2, yI (p2)), (3, yI (7)), (4, yI (p4))] [] hp
  refine yG.load xik rfl (fun _ _ => rfl) (v := yI (7)) rfl rfl ?_
  refine yG.ifz rfl (t := 43) rfl ⟨by omega, by omega⟩ (fun c1 => ?_) (fun c1 => ?_)
  · have c1 : (7 : Int) < 0 := c1
    exfalso; omega
  · have c1 : (7 : Int) ≥ 0 := c1
    refine yG.load xik rfl (fun _ _ => rfl) (v := yI (7)) rfl rfl ?_
    refine yG.getS (c := 9) rfl rfl ?_
    refine yG.load xik rfl (fun _ _ => rfl) (v := yI (1)) rfl rfl ?_
    refine yG.ialdF A_hp.1 (v_S_Net_SETTABLE W (s_S_Net_SETTABLE W)) rfl rfl (by omega) (by omega) (fun z2 e_z2 i_z2 l_z2 u_z2 => ?_)
    obtain rfl : z2 = 2 := by omega
    refine yG.icmp rfl (t := 43) rfl ⟨by omega, by omega⟩ ⟨by omega, by omega⟩ (fun c3 => ?_) (fun c3 => ?_)
    · have c3 : (7 : Int) ≥ 2 := c3
      refine yG.num (c := 0) rfl (fun _ _ => rfl) (by decide) ?_
      refine yG.ret rfl (fun _ _ => rfl) ?_
      exact (yP.bool (by omega) ⟨⟨0, rfl, by omega, by omega, trivial⟩, rfl⟩)
    · have c3 : (7 : Int) < 2 := c3
      exfalso; omega
theorem c_Net_allows_1_8 {hp : xH} (W : bW G) (d : Nat) (hT : zTy G hp) {k0 : Nat} (H_k0 : bRo G 18 k0) (p2 p4 : Int) (h2l : 0 ≤ p2) (h2u : p2 ≤ 23) (h4l : (-2147483648) ≤ p4) (h4u : p4 ≤ 2147483647) : yC (xcall 89 xfts xpools xms (d + 1)) 150 [yR k0, yI (1), yI (p2), yI (8), yI (p4)] hp (bQpi hp 0 0 (fun _ => True)) := by
  have A_hp : bAx G [] hp hp := bAx.rf hT
  refine yC.of (M := (xt_X5_allows, (5, (4, (6, []))))) rfl rfl (N := 33) (yfuel (by decide)) ?_
  show yG 89 xfts (xcall 89 xfts xpools xms d) (xpool xp_RX5) [] xt_X5_allows (yP 4 (bQpi hp 0 0 (fun _ => True))) 33 0 [(0, yR k0), (1, yI (1)), (2, yI (p2)), (3, yI (8)), (4, yI (p4))] [] hp
  refine yG.load xik rfl (fun _ _ => rfl) (v := yI (8)) rfl rfl ?_
  refine yG.ifz rfl (t := 43) rfl ⟨by omega, by omega⟩ (fun c1 => ?_) (fun c1 => ?_)
  · have c1 : (8 : Int) < 0 := c1
    exfalso; omega
  · have c1 : (8 : Int) ≥ 0 := c1
    refine yG.load xik rfl (fun _ _ => rfl) (v := yI (8)) rfl rfl ?_
    refine yG.getS (c := 9) rfl rfl ?_
    refine yG.load xik rfl (fun _ _ => rfl) (v := yI (1)) rfl rfl ?_
    refine yG.ialdF A_hp.1 (v_S_Net_SETTABLE W (s_S_Net_SETTABLE W)) rfl rfl (by omega) (by omega) (fun z2 e_z2 i_z2 l_z2 u_z2 => ?_)
    obtain rfl : z2 = 2 := by omega
    refine yG.icmp rfl (t := 43) rfl ⟨by omega, by omega⟩ ⟨by omega, by omega⟩ (fun c3 => ?_) (fun c3 => ?_)
    · have c3 : (8 : Int) ≥ 2 := c3
      refine yG.num (c := 0) rfl (fun _ _ => rfl) (by decide) ?_
      refine yG.ret rfl (fun _ _ => rfl) ?_
      exact (yP.bool (by omega) ⟨⟨0, rfl, by omega, by omega, trivial⟩, rfl⟩)
    · have c3 : (8 : Int) < 2 := c3
      exfalso; omega
theorem c_Net_allows_1_9 {hp : xH} (W : bW G) (d : Nat) (hT : zTy G hp) {k0 : Nat} (H_k0 : bRo G 18 k0) (p2 p4 : Int) (h2l : 0 ≤ p2) (h2u : p2 ≤ 23) (h4l : (-2147483648) ≤ p4) (h4u : p4 ≤ 2147483647) : yC (xcall 89 xfts xpools xms (d + 1)) 150 [yR k0, yI (1), yI (p2), yI (9), yI (p4)] hp (bQpi hp 0 0 (fun _ => True)) := by
  have A_hp : bAx G [] hp hp := bAx.rf hT
  refine yC.of (M := (xt_X5_allows, (5, (4, (6, []))))) rfl rfl (N := 33) (yfuel (by decide)) ?_
  show yG 89 xfts (xcall 89 xfts xpools xms d) (xpool xp_RX5) [] xt_X5_allows (yP 4 (bQpi hp 0 0 (fun _ => True))) 33 0 [(0, yR k0), (1, yI (1)), (2, yI (p2)), (3, yI (9)), (4, yI (p4))] [] hp
  refine yG.load xik rfl (fun _ _ => rfl) (v := yI (9)) rfl rfl ?_
  refine yG.ifz rfl (t := 43) rfl ⟨by omega, by omega⟩ (fun c1 => ?_) (fun c1 => ?_)
  · have c1 : (9 : Int) < 0 := c1
    exfalso; omega
  · have c1 : (9 : Int) ≥ 0 := c1
    refine yG.load xik rfl (fun _ _ => rfl) (v := yI (9)) rfl rfl ?_
    refine yG.getS (c := 9) rfl rfl ?_
    refine yG.load xik rfl (fun _ _ => rfl) (v := yI (1)) rfl rfl ?_
    refine yG.ialdF A_hp.1 (v_S_Net_SETTABLE W (s_S_Net_SETTABLE W)) rfl rfl (by omega) (by omega) (fun z2 e_z2 i_z2 l_z2 u_z2 => ?_)
    obtain rfl : z2 = 2 := by omega
    refine yG.icmp rfl (t := 43) rfl ⟨by omega, by omega⟩ ⟨by omega, by omega⟩ (fun c3 => ?_) (fun c3 => ?_)
    · have c3 : (9 : Int) ≥ 2 := c3
      refine yG.num (c := 0) rfl (fun _ _ => rfl) (by decide) ?_
      refine yG.ret rfl (fun _ _ => rfl) ?_
      exact (yP.bool (by omega) ⟨⟨0, rfl, by omega, by omega, trivial⟩, rfl⟩)
    · have c3 : (9 : Int) < 2 := c3
      exfalso; omega
theorem c_Net_allows_1_10 {hp : xH} (W : bW G) (d : Nat) (hT : zTy G hp) {k0 : Nat} (H_k0 : bRo G 18 k0) (p2 p4 : Int) (h2l : 0 ≤ p2) (h2u : p2 ≤ 23) (h4l : (-2147483648) ≤ p4) (h4u : p4 ≤ 2147483647) : yC (xcall 89 xfts xpools xms (d + 1)) 150 [yR k0, yI (1), yI (p2), yI (10), yI (p4)] hp (bQpi hp 0 0 (fun _ => True)) := by
  have A_hp : bAx G [] hp hp := bAx.rf hT
  refine yC.of (M := (xt_X5_allows, (5, (4, (6, []))))) rfl rfl (N := 33) (yfuel (by decide)) ?_
  show yG 89 xfts (xcall 89 xfts xpools xms d) (xpool xp_RX5) [] xt_X5_allows (yP 4 (bQpi hp 0 0 (fun _ => True))) 33 0 [(0, yR k0), (1, yI (1)), (2, yI (p2)), (3, yI (10)), (4, yI (p4))] [] hp
  refine yG.load xik rfl (fun _ _ => rfl) (v := yI (10)) rfl rfl ?_
  refine yG.ifz rfl (t := 43) rfl ⟨by omega, by omega⟩ (fun c1 => ?_) (fun c1 => ?_)
  · have c1 : (10 : Int) < 0 := c1
    exfalso; omega
  · have c1 : (10 : Int) ≥ 0 := c1
    refine yG.load xik rfl (fun _ _ => rfl) (v := yI (10)) rfl rfl ?_
    refine yG.getS (c := 9) rfl rfl ?_
    refine yG.load xik rfl (fun _ _ => rfl) (v := yI (1)) rfl rfl ?_
    refine yG.ialdF A_hp.1 (v_S_Net_SETTABLE W (s_S_Net_SETTABLE W)) rfl rfl (by omega) (by omega) (fun z2 e_z2 i_z2 l_z2 u_z2 => ?_)
    obtain rfl : z2 = 2 := by omega
    refine yG.icmp rfl (t := 43) rfl ⟨by omega, by omega⟩ ⟨by omega, by omega⟩ (fun c3 => ?_) (fun c3 => ?_)
    · have c3 : (10 : Int) ≥ 2 := c3
      refine yG.num (c := 0) rfl (fun _ _ => rfl) (by decide) ?_
      refine yG.ret rfl (fun _ _ => rfl) ?_
      exact (yP.bool (by omega) ⟨⟨0, rfl, by omega, by omega, trivial⟩, rfl⟩)
    · have c3 : (10 : Int) < 2 := c3
      exfalso; omega
theorem c_Net_allows_1_l {hp : xH} (W : bW G) (d : Nat) (hT : zTy G hp) {k0 : Nat} (H_k0 : bRo G 18 k0) (p2 p3 p4 : Int) (h2l : 0 ≤ p2) (h2u : p2 ≤ 23) (h3l : (-2147483648) ≤ p3) (h3u : p3 ≤ (-1)) (h4l : (-2147483648) ≤ p4) (h4u : p4 ≤ 2147483647) : yC (xcall 89 xfts xpools xms (d + 1)) 150 [yR k0, yI (1), yI (p2), yI (p3), yI (p4)] hp (bQpi hp 0 0 (fun _ => True)) := by
  have A_hp : bAx G [] hp hp := bAx.rf hT
  refine yC.of (M := (xt_X5_allows, (5, (4, (6, []))))) rfl rfl (N := 18) (yfuel (by decide)) ?_
  show yG 89 xfts (xcall 89 xfts xpools xms d) (xpool xp_RX5) [] xt_X5_allows (yP 4 (bQpi hp 0 0 (fun _ => True))) 18 0 [(0, yR k0), (1, yI (1)), (2, yI (p2)), (3, yI (p3)), (4, yI (p4))] [] hp
  refine yG.load xik rfl (fun _ _ => rfl) (v := yI (p3)) rfl rfl ?_
  refine yG.ifz rfl (t := 43) rfl ⟨by omega, by omega⟩ (fun c1 => ?_) (fun c1 => ?_)
  · have c1 : (p3 : Int) < 0 := c1
    refine yG.num (c := 0) rfl (fun _ _ => rfl) (by decide) ?_
    refine yG.ret rfl (fun _ _ => rfl) ?_
    exact (yP.bool (by omega) ⟨⟨0, rfl, by omega, by omega, trivial⟩, rfl⟩)
  · have c1 : (p3 : Int) ≥ 0 := c1
    exfalso; omega
theorem c_Net_allows_1_h {hp : xH} (W : bW G) (d : Nat) (hT : zTy G hp) {k0 : Nat} (H_k0 : bRo G 18 k0) (p2 p3 p4 : Int) (h2l : 0 ≤ p2) (h2u : p2 ≤ 23) (h3l : 11 ≤ p3) (h3u : p3 ≤ 2147483647) (h4l : (-2147483648) ≤ p4) (h4u : p4 ≤ 2147483647) : yC (xcall 89 xfts xpools xms (d + 1)) 150 [yR k0, yI (1), yI (p2), yI (p3), yI (p4)] hp (bQpi hp 0 0 (fun _ => True)) := by
  have A_hp : bAx G [] hp hp := bAx.rf hT
  refine yC.of (M := (xt_X5_allows, (5, (4, (6, []))))) rfl rfl (N := 33) (yfuel (by decide)) ?_
  show yG 89 xfts (xcall 89 xfts xpools xms d) (xpool xp_RX5) [] xt_X5_allows (yP 4 (bQpi hp 0 0 (fun _ => True))) 33 0 [(0, yR k0), (1, yI (1)), (2, yI (p2)), (3, yI (p3)), (4, yI (p4))] [] hp
  refine yG.load xik rfl (fun _ _ => rfl) (v := yI (p3)) rfl rfl ?_
  refine yG.ifz rfl (t := 43) rfl ⟨by omega, by omega⟩ (fun c1 => ?_) (fun c1 => ?_)
  · have c1 : (p3 : Int) < 0 := c1
    exfalso; omega
  · have c1 : (p3 : Int) ≥ 0 := c1
    refine yG.load xik rfl (fun _ _ => rfl) (v := yI (p3)) rfl rfl ?_
    refine yG.getS (c := 9) rfl rfl ?_
    refine yG.load xik rfl (fun _ _ => rfl) (v := yI (1)) rfl rfl ?_
    refine yG.ialdF A_hp.1 (v_S_Net_SETTABLE W (s_S_Net_SETTABLE W)) rfl rfl (by omega) (by omega) (fun z2 e_z2 i_z2 l_z2 u_z2 => ?_)
    obtain rfl : z2 = 2 := by omega
    refine yG.icmp rfl (t := 43) rfl ⟨by omega, by omega⟩ ⟨by omega, by omega⟩ (fun c3 => ?_) (fun c3 => ?_)
    · have c3 : (p3 : Int) ≥ 2 := c3
      refine yG.num (c := 0) rfl (fun _ _ => rfl) (by decide) ?_
      refine yG.ret rfl (fun _ _ => rfl) ?_
      exact (yP.bool (by omega) ⟨⟨0, rfl, by omega, by omega, trivial⟩, rfl⟩)
    · have c3 : (p3 : Int) < 2 := c3
      exfalso; omega
theorem c_Net_allows_2_0 {hp : xH} (W : bW G) (d : Nat) (hT : zTy G hp) {k0 : Nat} (H_k0 : bRo G 18 k0) (p2 p4 : Int) (h2l : 0 ≤ p2) (h2u : p2 ≤ 19) (h4l : (-2147483648) ≤ p4) (h4u : p4 ≤ 2147483647) : yC (xcall 89 xfts xpools xms (d + 2)) 150 [yR k0, yI (2), yI (p2), yI (0), yI (p4)] hp (bQpi hp 0 1 (fun z => (z = 1 → 0 ≤ p4 ∧ 0 ≤ 0 - p4 + 1))) := by
  have A_hp : bAx G [] hp hp := bAx.rf hT
  refine yC.of (M := (xt_X5_allows, (5, (4, (6, []))))) rfl rfl (N := 60) (yfuel (by decide)) ?_
  show yG 89 xfts (xcall 89 xfts xpools xms (d + 1)) (xpool xp_RX5) [] xt_X5_allows (yP 4 (bQpi hp 0 1 (fun z => (z = 1 → 0 ≤ p4 ∧ 0 ≤ 0 - p4 + 1)))) 60 0 [(0, yR k0), (1, yI (2)), (2, yI (p2)), (3, yI (0)), (4, yI (p4))] [] hp
  refine yG.load xik rfl (fun _ _ => rfl) (v := yI (0)) rfl rfl ?_
  refine yG.ifz rfl (t := 43) rfl ⟨by omega, by omega⟩ (fun c1 => ?_) (fun c1 => ?_)
  · have c1 : (0 : Int) < 0 := c1
    exfalso; omega
  · have c1 : (0 : Int) ≥ 0 := c1
    refine yG.load xik rfl (fun _ _ => rfl) (v := yI (0)) rfl rfl ?_
    refine yG.getS (c := 9) rfl rfl ?_
    refine yG.load xik rfl (fun _ _ => rfl) (v := yI (2)) rfl rfl ?_
    refine yG.ialdF A_hp.1 (v_S_Net_SETTABLE W (s_S_Net_SETTABLE W)) rfl rfl (by omega) (by omega) (fun z2 e_z2 i_z2 l_z2 u_z2 => ?_)
    obtain rfl : z2 = 4 := by omega
    refine yG.icmp rfl (t := 43) rfl ⟨by omega, by omega⟩ ⟨by omega, by omega⟩ (fun c3 => ?_) (fun c3 => ?_)
    · have c3 : (0 : Int) ≥ 4 := c3
      exfalso; omega
    · have c3 : (0 : Int) < 4 := c3
      refine yG.load xik rfl (fun _ _ => rfl) (v := yI (2)) rfl rfl ?_
      refine yG.load xik rfl (fun _ _ => rfl) (v := yI (0)) rfl rfl ?_
      refine yG.load xik rfl (fun _ _ => rfl) (v := yI (p4)) rfl rfl ?_
      refine yG.invS (rest := []) rfl rfl rfl rfl (c_Net_isWithin_2_0 W d A_hp.1 (p4) (by omega) (by omega)) (fun rv hp9 q9 => ?_)
      obtain ⟨⟨z4, rfl, l_z4, u_z4, R_z4⟩, e9⟩ := q9
      rw [e9]
      show yG _ _ _ _ _ _ _ _ _ _ (yI z4 :: []) _
      refine yG.ifz rfl (t := 43) rfl ⟨by omega, by omega⟩ (fun c5 => ?_) (fun c5 => ?_)
      · have c5 : (z4 : Int) = 0 := c5
        refine yG.num (c := 0) rfl (fun _ _ => rfl) (by decide) ?_
        refine yG.ret rfl (fun _ _ => rfl) ?_
        exact (yP.bool (by omega) ⟨⟨0, rfl, by omega, by omega, by omega⟩, rfl⟩)
      · have c5 : (z4 : Int) ≠ 0 := c5
        refine yG.load xik rfl (fun _ _ => rfl) (v := yI (2)) rfl rfl ?_
        refine yG.num (c := 3) rfl (fun _ _ => rfl) (by decide) ?_
        refine yG.icmp rfl (t := 39) rfl ⟨by omega, by omega⟩ ⟨by omega, by omega⟩ (fun c6 => ?_) (fun c6 => ?_)
        · have c6 : (2 : Int) ≠ 3 := c6
          refine yG.num (c := 1) rfl (fun _ _ => rfl) (by decide) ?_
          refine yG.goto rfl (t := 44) rfl ?_
          refine yG.ret rfl (fun _ _ => rfl) ?_
          exact (yP.bool (by omega) ⟨⟨1, rfl, by omega, by omega, by omega⟩, rfl⟩)
        · have c6 : (2 : Int) = 3 := c6
          exfalso; omega
theorem c_Net_allows_2_1 {hp : xH} (W : bW G) (d : Nat) (hT : zTy G hp) {k0 : Nat} (H_k0 : bRo G 18 k0) (p2 p4 : Int) (h2l : 0 ≤ p2) (h2u : p2 ≤ 19) (h4l : (-2147483648) ≤ p4) (h4u : p4 ≤ 2147483647) : yC (xcall 89 xfts xpools xms (d + 2)) 150 [yR k0, yI (2), yI (p2), yI (1), yI (p4)] hp (bQpi hp 0 1 (fun z => (z = 1 → 0 ≤ p4 - 1 ∧ 0 ≤ 0 - p4 + 99))) := by
  have A_hp : bAx G [] hp hp := bAx.rf hT
  refine yC.of (M := (xt_X5_allows, (5, (4, (6, []))))) rfl rfl (N := 60) (yfuel (by decide)) ?_
  show yG 89 xfts (xcall 89 xfts xpools xms (d + 1)) (xpool xp_RX5) [] xt_X5_allows (yP 4 (bQpi hp 0 1 (fun z => (z = 1 → 0 ≤ p4 - 1 ∧ 0 ≤ 0 - p4 + 99)))) 60 0 [(0, yR k0), (1, yI (2)), (2, yI (p2)), (3, yI (1)), (4, yI (p4))] [] hp
  refine yG.load xik rfl (fun _ _ => rfl) (v := yI (1)) rfl rfl ?_
  refine yG.ifz rfl (t := 43) rfl ⟨by omega, by omega⟩ (fun c1 => ?_) (fun c1 => ?_)
  · have c1 : (1 : Int) < 0 := c1
    exfalso; omega
  · have c1 : (1 : Int) ≥ 0 := c1
    refine yG.load xik rfl (fun _ _ => rfl) (v := yI (1)) rfl rfl ?_
    refine yG.getS (c := 9) rfl rfl ?_
    refine yG.load xik rfl (fun _ _ => rfl) (v := yI (2)) rfl rfl ?_
    refine yG.ialdF A_hp.1 (v_S_Net_SETTABLE W (s_S_Net_SETTABLE W)) rfl rfl (by omega) (by omega) (fun z2 e_z2 i_z2 l_z2 u_z2 => ?_)
    obtain rfl : z2 = 4 := by omega
    refine yG.icmp rfl (t := 43) rfl ⟨by omega, by omega⟩ ⟨by omega, by omega⟩ (fun c3 => ?_) (fun c3 => ?_)
    · have c3 : (1 : Int) ≥ 4 := c3
      exfalso; omega
    · have c3 : (1 : Int) < 4 := c3
      refine yG.load xik rfl (fun _ _ => rfl) (v := yI (2)) rfl rfl ?_
      refine yG.load xik rfl (fun _ _ => rfl) (v := yI (1)) rfl rfl ?_
      refine yG.load xik rfl (fun _ _ => rfl) (v := yI (p4)) rfl rfl ?_
      refine yG.invS (rest := []) rfl rfl rfl rfl (c_Net_isWithin_2_1 W d A_hp.1 (p4) (by omega) (by omega)) (fun rv hp9 q9 => ?_)
      obtain ⟨⟨z4, rfl, l_z4, u_z4, R_z4⟩, e9⟩ := q9
      rw [e9]
      show yG _ _ _ _ _ _ _ _ _ _ (yI z4 :: []) _
      refine yG.ifz rfl (t := 43) rfl ⟨by omega, by omega⟩ (fun c5 => ?_) (fun c5 => ?_)
      · have c5 : (z4 : Int) = 0 := c5
        refine yG.num (c := 0) rfl (fun _ _ => rfl) (by decide) ?_
        refine yG.ret rfl (fun _ _ => rfl) ?_
        exact (yP.bool (by omega) ⟨⟨0, rfl, by omega, by omega, by omega⟩, rfl⟩)
      · have c5 : (z4 : Int) ≠ 0 := c5
        refine yG.load xik rfl (fun _ _ => rfl) (v := yI (2)) rfl rfl ?_
        refine yG.num (c := 3) rfl (fun _ _ => rfl) (by decide) ?_
        refine yG.icmp rfl (t := 39) rfl ⟨by omega, by omega⟩ ⟨by omega, by omega⟩ (fun c6 => ?_) (fun c6 => ?_)
        · have c6 : (2 : Int) ≠ 3 := c6
          refine yG.num (c := 1) rfl (fun _ _ => rfl) (by decide) ?_
          refine yG.goto rfl (t := 44) rfl ?_
          refine yG.ret rfl (fun _ _ => rfl) ?_
          exact (yP.bool (by omega) ⟨⟨1, rfl, by omega, by omega, by omega⟩, rfl⟩)
        · have c6 : (2 : Int) = 3 := c6
          exfalso; omega
theorem c_Net_allows_2_2 {hp : xH} (W : bW G) (d : Nat) (hT : zTy G hp) {k0 : Nat} (H_k0 : bRo G 18 k0) (p2 p4 : Int) (h2l : 0 ≤ p2) (h2u : p2 ≤ 19) (h4l : (-2147483648) ≤ p4) (h4u : p4 ≤ 2147483647) : yC (xcall 89 xfts xpools xms (d + 2)) 150 [yR k0, yI (2), yI (p2), yI (2), yI (p4)] hp (bQpi hp 0 1 (fun z => (z = 1 → 0 ≤ p4 - 1 ∧ 0 ≤ 0 - p4 + 299))) := by
  have A_hp : bAx G [] hp hp := bAx.rf hT
  refine yC.of (M := (xt_X5_allows, (5, (4, (6, []))))) rfl rfl (N := 60) (yfuel (by decide)) ?_
  show yG 89 xfts (xcall 89 xfts xpools xms (d + 1)) (xpool xp_RX5) [] xt_X5_allows (yP 4 (bQpi hp 0 1 (fun z => (z = 1 → 0 ≤ p4 - 1 ∧ 0 ≤ 0 - p4 + 299)))) 60 0 [(0, yR k0), (1, yI (2)), (2, yI (p2)), (3, yI (2)), (4, yI (p4))] [] hp
  refine yG.load xik rfl (fun _ _ => rfl) (v := yI (2)) rfl rfl ?_
  refine yG.ifz rfl (t := 43) rfl ⟨by omega, by omega⟩ (fun c1 => ?_) (fun c1 => ?_)
  · have c1 : (2 : Int) < 0 := c1
    exfalso; omega
  · have c1 : (2 : Int) ≥ 0 := c1
    refine yG.load xik rfl (fun _ _ => rfl) (v := yI (2)) rfl rfl ?_
    refine yG.getS (c := 9) rfl rfl ?_
    refine yG.load xik rfl (fun _ _ => rfl) (v := yI (2)) rfl rfl ?_
    refine yG.ialdF A_hp.1 (v_S_Net_SETTABLE W (s_S_Net_SETTABLE W)) rfl rfl (by omega) (by omega) (fun z2 e_z2 i_z2 l_z2 u_z2 => ?_)
    obtain rfl : z2 = 4 := by omega
    refine yG.icmp rfl (t := 43) rfl ⟨by omega, by omega⟩ ⟨by omega, by omega⟩ (fun c3 => ?_) (fun c3 => ?_)
    · have c3 : (2 : Int) ≥ 4 := c3
      exfalso; omega
    · have c3 : (2 : Int) < 4 := c3
      refine yG.load xik rfl (fun _ _ => rfl) (v := yI (2)) rfl rfl ?_
      refine yG.load xik rfl (fun _ _ => rfl) (v := yI (2)) rfl rfl ?_
      refine yG.load xik rfl (fun _ _ => rfl) (v := yI (p4)) rfl rfl ?_
      refine yG.invS (rest := []) rfl rfl rfl rfl (c_Net_isWithin_2_2 W d A_hp.1 (p4) (by omega) (by omega)) (fun rv hp9 q9 => ?_)
      obtain ⟨⟨z4, rfl, l_z4, u_z4, R_z4⟩, e9⟩ := q9
      rw [e9]
      show yG _ _ _ _ _ _ _ _ _ _ (yI z4 :: []) _
      refine yG.ifz rfl (t := 43) rfl ⟨by omega, by omega⟩ (fun c5 => ?_) (fun c5 => ?_)
      · have c5 : (z4 : Int) = 0 := c5
        refine yG.num (c := 0) rfl (fun _ _ => rfl) (by decide) ?_
        refine yG.ret rfl (fun _ _ => rfl) ?_
        exact (yP.bool (by omega) ⟨⟨0, rfl, by omega, by omega, by omega⟩, rfl⟩)
      · have c5 : (z4 : Int) ≠ 0 := c5
        refine yG.load xik rfl (fun _ _ => rfl) (v := yI (2)) rfl rfl ?_
        refine yG.num (c := 3) rfl (fun _ _ => rfl) (by decide) ?_
        refine yG.icmp rfl (t := 39) rfl ⟨by omega, by omega⟩ ⟨by omega, by omega⟩ (fun c6 => ?_) (fun c6 => ?_)
        · have c6 : (2 : Int) ≠ 3 := c6
          refine yG.num (c := 1) rfl (fun _ _ => rfl) (by decide) ?_
          refine yG.goto rfl (t := 44) rfl ?_
          refine yG.ret rfl (fun _ _ => rfl) ?_
          exact (yP.bool (by omega) ⟨⟨1, rfl, by omega, by omega, by omega⟩, rfl⟩)
        · have c6 : (2 : Int) = 3 := c6
          exfalso; omega
theorem c_Net_allows_2_3 {hp : xH} (W : bW G) (d : Nat) (hT : zTy G hp) {k0 : Nat} (H_k0 : bRo G 18 k0) (p2 p4 : Int) (h2l : 0 ≤ p2) (h2u : p2 ≤ 19) (h4l : (-2147483648) ≤ p4) (h4u : p4 ≤ 2147483647) : yC (xcall 89 xfts xpools xms (d + 2)) 150 [yR k0, yI (2), yI (p2), yI (3), yI (p4)] hp (bQpi hp 0 1 (fun z => (z = 1 → 0 ≤ p4 ∧ 0 ≤ 0 - p4 + 9999))) := by
  have A_hp : bAx G [] hp hp := bAx.rf hT
  refine yC.of (M := (xt_X5_allows, (5, (4, (6, []))))) rfl rfl (N := 60) (yfuel (by decide)) ?_
  show yG 89 xfts (xcall 89 xfts xpools xms (d + 1)) (xpool xp_RX5) [] xt_X5_allows (yP 4 (bQpi hp 0 1 (fun z => (z = 1 → 0 ≤ p4 ∧ 0 ≤ 0 - p4 + 9999)))) 60 0 [(0, yR k0), (1, yI (2)), (2, yI (p2)), (3, yI (3)), (4, yI (p4))] [] hp
  refine yG.load xik rfl (fun _ _ => rfl) (v := yI (3)) rfl rfl ?_
  refine yG.ifz rfl (t := 43) rfl ⟨by omega, by omega⟩ (fun c1 => ?_) (fun c1 => ?_)
  · have c1 : (3 : Int) < 0 := c1
    exfalso; omega
  · have c1 : (3 : Int) ≥ 0 := c1
    refine yG.load xik rfl (fun _ _ => rfl) (v := yI (3)) rfl rfl ?_
    refine yG.getS (c := 9) rfl rfl ?_
    refine yG.load xik rfl (fun _ _ => rfl) (v := yI (2)) rfl rfl ?_
    refine yG.ialdF A_hp.1 (v_S_Net_SETTABLE W (s_S_Net_SETTABLE W)) rfl rfl (by omega) (by omega) (fun z2 e_z2 i_z2 l_z2 u_z2 => ?_)
    obtain rfl : z2 = 4 := by omega
    refine yG.icmp rfl (t := 43) rfl ⟨by omega, by omega⟩ ⟨by omega, by omega⟩ (fun c3 => ?_) (fun c3 => ?_)
    · have c3 : (3 : Int) ≥ 4 := c3
      exfalso; omega
    · have c3 : (3 : Int) < 4 := c3
      refine yG.load xik rfl (fun _ _ => rfl) (v := yI (2)) rfl rfl ?_
      refine yG.load xik rfl (fun _ _ => rfl) (v := yI (3)) rfl rfl ?_
      refine yG.load xik rfl (fun _ _ => rfl) (v := yI (p4)) rfl rfl ?_
      refine yG.invS (rest := []) rfl rfl rfl rfl (c_Net_isWithin_2_3 W d A_hp.1 (p4) (by omega) (by omega)) (fun rv hp9 q9 => ?_)
      obtain ⟨⟨z4, rfl, l_z4, u_z4, R_z4⟩, e9⟩ := q9
      rw [e9]
      show yG _ _ _ _ _ _ _ _ _ _ (yI z4 :: []) _
      refine yG.ifz rfl (t := 43) rfl ⟨by omega, by omega⟩ (fun c5 => ?_) (fun c5 => ?_)
      · have c5 : (z4 : Int) = 0 := c5
        refine yG.num (c := 0) rfl (fun _ _ => rfl) (by decide) ?_
        refine yG.ret rfl (fun _ _ => rfl) ?_
        exact (yP.bool (by omega) ⟨⟨0, rfl, by omega, by omega, by omega⟩, rfl⟩)
      · have c5 : (z4 : Int) ≠ 0 := c5
        refine yG.load xik rfl (fun _ _ => rfl) (v := yI (2)) rfl rfl ?_
        refine yG.num (c := 3) rfl (fun _ _ => rfl) (by decide) ?_
        refine yG.icmp rfl (t := 39) rfl ⟨by omega, by omega⟩ ⟨by omega, by omega⟩ (fun c6 => ?_) (fun c6 => ?_)
        · have c6 : (2 : Int) ≠ 3 := c6
          refine yG.num (c := 1) rfl (fun _ _ => rfl) (by decide) ?_
          refine yG.goto rfl (t := 44) rfl ?_
          refine yG.ret rfl (fun _ _ => rfl) ?_
          exact (yP.bool (by omega) ⟨⟨1, rfl, by omega, by omega, by omega⟩, rfl⟩)
        · have c6 : (2 : Int) = 3 := c6
          exfalso; omega
theorem c_Net_allows_2_4 {hp : xH} (W : bW G) (d : Nat) (hT : zTy G hp) {k0 : Nat} (H_k0 : bRo G 18 k0) (p2 p4 : Int) (h2l : 0 ≤ p2) (h2u : p2 ≤ 19) (h4l : (-2147483648) ≤ p4) (h4u : p4 ≤ 2147483647) : yC (xcall 89 xfts xpools xms (d + 1)) 150 [yR k0, yI (2), yI (p2), yI (4), yI (p4)] hp (bQpi hp 0 0 (fun _ => True)) := by
  have A_hp : bAx G [] hp hp := bAx.rf hT
  refine yC.of (M := (xt_X5_allows, (5, (4, (6, []))))) rfl rfl (N := 33) (yfuel (by decide)) ?_
  show yG 89 xfts (xcall 89 xfts xpools xms d) (xpool xp_RX5) [] xt_X5_allows (yP 4 (bQpi hp 0 0 (fun _ => True))) 33 0 [(0, yR k0), (1, yI (2)), (2, yI (p2)), (3, yI (4)), (4, yI (p4))] [] hp
  refine yG.load xik rfl (fun _ _ => rfl) (v := yI (4)) rfl rfl ?_
  refine yG.ifz rfl (t := 43) rfl ⟨by omega, by omega⟩ (fun c1 => ?_) (fun c1 => ?_)
  · have c1 : (4 : Int) < 0 := c1
    exfalso; omega
  · have c1 : (4 : Int) ≥ 0 := c1
    refine yG.load xik rfl (fun _ _ => rfl) (v := yI (4)) rfl rfl ?_
    refine yG.getS (c := 9) rfl rfl ?_
    refine yG.load xik rfl (fun _ _ => rfl) (v := yI (2)) rfl rfl ?_
    refine yG.ialdF A_hp.1 (v_S_Net_SETTABLE W (s_S_Net_SETTABLE W)) rfl rfl (by omega) (by omega) (fun z2 e_z2 i_z2 l_z2 u_z2 => ?_)
    obtain rfl : z2 = 4 := by omega
    refine yG.icmp rfl (t := 43) rfl ⟨by omega, by omega⟩ ⟨by omega, by omega⟩ (fun c3 => ?_) (fun c3 => ?_)
    · have c3 : (4 : Int) ≥ 4 := c3
      refine yG.num (c := 0) rfl (fun _ _ => rfl) (by decide) ?_
      refine yG.ret rfl (fun _ _ => rfl) ?_
      exact (yP.bool (by omega) ⟨⟨0, rfl, by omega, by omega, trivial⟩, rfl⟩)
    · have c3 : (4 : Int) < 4 := c3
      exfalso; omega
theorem c_Net_allows_2_5 {hp : xH} (W : bW G) (d : Nat) (hT : zTy G hp) {k0 : Nat} (H_k0 : bRo G 18 k0) (p2 p4 : Int) (h2l : 0 ≤ p2) (h2u : p2 ≤ 19) (h4l : (-2147483648) ≤ p4) (h4u : p4 ≤ 2147483647) : yC (xcall 89 xfts xpools xms (d + 1)) 150 [yR k0, yI (2), yI (p2), yI (5), yI (p4)] hp (bQpi hp 0 0 (fun _ => True)) := by
  have A_hp : bAx G [] hp hp := bAx.rf hT
  refine yC.of (M := (xt_X5_allows, (5, (4, (6, []))))) rfl rfl (N := 33) (yfuel (by decide)) ?_
  show yG 89 xfts (xcall 89 xfts xpools xms d) (xpool xp_RX5) [] xt_X5_allows (yP 4 (bQpi hp 0 0 (fun _ => True))) 33 0 [(0, yR k0), (1, yI (2)), (2, yI (p2)), (3, yI (5)), (4, yI (p4))] [] hp
  refine yG.load xik rfl (fun _ _ => rfl) (v := yI (5)) rfl rfl ?_
  refine yG.ifz rfl (t := 43) rfl ⟨by omega, by omega⟩ (fun c1 => ?_) (fun c1 => ?_)
  · have c1 : (5 : Int) < 0 := c1
    exfalso; omega
  · have c1 : (5 : Int) ≥ 0 := c1
    refine yG.load xik rfl (fun _ _ => rfl) (v := yI (5)) rfl rfl ?_
    refine yG.getS (c := 9) rfl rfl ?_
    refine yG.load xik rfl (fun _ _ => rfl) (v := yI (2)) rfl rfl ?_
    refine yG.ialdF A_hp.1 (v_S_Net_SETTABLE W (s_S_Net_SETTABLE W)) rfl rfl (by omega) (by omega) (fun z2 e_z2 i_z2 l_z2 u_z2 => ?_)
    obtain rfl : z2 = 4 := by omega
    refine yG.icmp rfl (t := 43) rfl ⟨by omega, by omega⟩ ⟨by omega, by omega⟩ (fun c3 => ?_) (fun c3 => ?_)
    · have c3 : (5 : Int) ≥ 4 := c3
      refine yG.num (c := 0) rfl (fun _ _ => rfl) (by decide) ?_
      refine yG.ret rfl (fun _ _ => rfl) ?_
      exact (yP.bool (by omega) ⟨⟨0, rfl, by omega, by omega, trivial⟩, rfl⟩)
    · have c3 : (5 : Int) < 4 := c3
      exfalso; omega
theorem c_Net_allows_2_6 {hp : xH} (W : bW G) (d : Nat) (hT : zTy G hp) {k0 : Nat} (H_k0 : bRo G 18 k0) (p2 p4 : Int) (h2l : 0 ≤ p2) (h2u : p2 ≤ 19) (h4l : (-2147483648) ≤ p4) (h4u : p4 ≤ 2147483647) : yC (xcall 89 xfts xpools xms (d + 1)) 150 [yR k0, yI (2), yI (p2), yI (6), yI (p4)] hp (bQpi hp 0 0 (fun _ => True)) := by
  have A_hp : bAx G [] hp hp := bAx.rf hT
  refine yC.of (M := (xt_X5_allows, (5, (4, (6, []))))) rfl rfl (N := 33) (yfuel (by decide)) ?_
  show yG 89 xfts (xcall 89 xfts xpools xms d) (xpool xp_RX5) [] xt_X5_allows (yP 4 (bQpi hp 0 0 (fun _ => True))) 33 0 [(0, yR k0), (1, yI (2)), (2, yI (p2)), (3, yI (6)), (4, yI (p4))] [] hp
  refine yG.load xik rfl (fun _ _ => rfl) (v := yI (6)) rfl rfl ?_
  refine yG.ifz rfl (t := 43) rfl ⟨by omega, by omega⟩ (fun c1 => ?_) (fun c1 => ?_)
  · have c1 : (6 : Int) < 0 := c1
    exfalso; omega
  · have c1 : (6 : Int) ≥ 0 := c1
    refine yG.load xik rfl (fun _ _ => rfl) (v := yI (6)) rfl rfl ?_
    refine yG.getS (c := 9) rfl rfl ?_
    refine yG.load xik rfl (fun _ _ => rfl) (v := yI (2)) rfl rfl ?_
    refine yG.ialdF A_hp.1 (v_S_Net_SETTABLE W (s_S_Net_SETTABLE W)) rfl rfl (by omega) (by omega) (fun z2 e_z2 i_z2 l_z2 u_z2 => ?_)
    obtain rfl : z2 = 4 := by omega
    refine yG.icmp rfl (t := 43) rfl ⟨by omega, by omega⟩ ⟨by omega, by omega⟩ (fun c3 => ?_) (fun c3 => ?_)
    · have c3 : (6 : Int) ≥ 4 := c3
      refine yG.num (c := 0) rfl (fun _ _ => rfl) (by decide) ?_
      refine yG.ret rfl (fun _ _ => rfl) ?_
      exact (yP.bool (by omega) ⟨⟨0, rfl, by omega, by omega, trivial⟩, rfl⟩)
    · have c3 : (6 : Int) < 4 := c3
      exfalso; omega
theorem c_Net_allows_2_7 {hp : xH} (W : bW G) (d : Nat) (hT : zTy G hp) {k0 : Nat} (H_k0 : bRo G 18 k0) (p2 p4 : Int) (h2l : 0 ≤ p2) (h2u : p2 ≤ 19) (h4l : (-2147483648) ≤ p4) (h4u : p4 ≤ 2147483647) : yC (xcall 89 xfts xpools xms (d + 1)) 150 [yR k0, yI (2), yI (p2), yI (7), yI (p4)] hp (bQpi hp 0 0 (fun _ => True)) := by
  have A_hp : bAx G [] hp hp := bAx.rf hT
  refine yC.of (M := (xt_X5_allows, (5, (4, (6, []))))) rfl rfl (N := 33) (yfuel (by decide)) ?_
  show yG 89 xfts (xcall 89 xfts xpools xms d) (xpool xp_RX5) [] xt_X5_allows (yP 4 (bQpi hp 0 0 (fun _ => True))) 33 0 [(0, yR k0), (1, yI (2)), (2, yI (p2)), (3, yI (7)), (4, yI (p4))] [] hp
  refine yG.load xik rfl (fun _ _ => rfl) (v := yI (7)) rfl rfl ?_
  refine yG.ifz rfl (t := 43) rfl ⟨by omega, by omega⟩ (fun c1 => ?_) (fun c1 => ?_)
  · have c1 : (7 : Int) < 0 := c1
    exfalso; omega
  · have c1 : (7 : Int) ≥ 0 := c1
    refine yG.load xik rfl (fun _ _ => rfl) (v := yI (7)) rfl rfl ?_
    refine yG.getS (c := 9) rfl rfl ?_
    refine yG.load xik rfl (fun _ _ => rfl) (v := yI (2)) rfl rfl ?_
    refine yG.ialdF A_hp.1 (v_S_Net_SETTABLE W (s_S_Net_SETTABLE W)) rfl rfl (by omega) (by omega) (fun z2 e_z2 i_z2 l_z2 u_z2 => ?_)
    obtain rfl : z2 = 4 := by omega
    refine yG.icmp rfl (t := 43) rfl ⟨by omega, by omega⟩ ⟨by omega, by omega⟩ (fun c3 => ?_) (fun c3 => ?_)
    · have c3 : (7 : Int) ≥ 4 := c3
      refine yG.num (c := 0) rfl (fun _ _ => rfl) (by decide) ?_
      refine yG.ret rfl (fun _ _ => rfl) ?_
      exact (yP.bool (by omega) ⟨⟨0, rfl, by omega, by omega, trivial⟩, rfl⟩)
    · have c3 : (7 : Int) < 4 := c3
      exfalso; omega
theorem c_Net_allows_2_8 {hp : xH} (W : bW G) (d : Nat) (hT : zTy G hp) {k0 : Nat} (H_k0 : bRo G 18 k0) (p2 p4 : Int) (h2l : 0 ≤ p2) (h2u : p2 ≤ 19) (h4l : (-2147483648) ≤ p4) (h4u : p4 ≤ 2147483647) : yC (xcall 89 xfts xpools xms (d + 1)) 150 [yR k0, yI (2), yI (p2), yI (8), yI (p4)] hp (bQpi hp 0 0 (fun _ => True)) := by
  have A_hp : bAx G [] hp hp := bAx.rf hT
  refine yC.of (M := (xt_X5_allows, (5, (4, (6, []))))) rfl rfl (N := 33) (yfuel (by decide)) ?_
  show yG 89 xfts (xcall 89 xfts xpools xms d) (xpool xp_RX5) [] xt_X5_allows (yP 4 (bQpi hp 0 0 (fun _ => True))) 33 0 [(0, yR k0), (1, yI (2)), (2, yI (p2)), (3, yI (8)), (4, yI (p4))] [] hp
  refine yG.load xik rfl (fun _ _ => rfl) (v := yI (8)) rfl rfl ?_
  refine yG.ifz rfl (t := 43) rfl ⟨by omega, by omega⟩ (fun c1 => ?_) (fun c1 => ?_)
  · have c1 : (8 : Int) < 0 := c1
    exfalso; omega
  · have c1 : (8 : Int) ≥ 0 := c1
    refine yG.load xik rfl (fun _ _ => rfl) (v := yI (8)) rfl rfl ?_
    refine yG.getS (c := 9) rfl rfl ?_
    refine yG.load xik rfl (fun _ _ => rfl) (v := yI (2)) rfl rfl ?_
    refine yG.ialdF A_hp.1 (v_S_Net_SETTABLE W (s_S_Net_SETTABLE W)) rfl rfl (by omega) (by omega) (fun z2 e_z2 i_z2 l_z2 u_z2 => ?_)
    obtain rfl : z2 = 4 := by omega
    refine yG.icmp rfl (t := 43) rfl ⟨by omega, by omega⟩ ⟨by omega, by omega⟩ (fun c3 => ?_) (fun c3 => ?_)
    · have c3 : (8 : Int) ≥ 4 := c3
      refine yG.num (c := 0) rfl (fun _ _ => rfl) (by decide) ?_
      refine yG.ret rfl (fun _ _ => rfl) ?_
      exact (yP.bool (by omega) ⟨⟨0, rfl, by omega, by omega, trivial⟩, rfl⟩)
    · have c3 : (8 : Int) < 4 := c3
      exfalso; omega
theorem c_Net_allows_2_9 {hp : xH} (W : bW G) (d : Nat) (hT : zTy G hp) {k0 : Nat} (H_k0 : bRo G 18 k0) (p2 p4 : Int) (h2l : 0 ≤ p2) (h2u : p2 ≤ 19) (h4l : (-2147483648) ≤ p4) (h4u : p4 ≤ 2147483647) : yC (xcall 89 xfts xpools xms (d + 1)) 150 [yR k0, yI (2), yI (p2), yI (9), yI (p4)] hp (bQpi hp 0 0 (fun _ => True)) := by
  have A_hp : bAx G [] hp hp := bAx.rf hT
  refine yC.of (M := (xt_X5_allows, (5, (4, (6, []))))) rfl rfl (N := 33) (yfuel (by decide)) ?_
  show yG 89 xfts (xcall 89 xfts xpools xms d) (xpool xp_RX5) [] xt_X5_allows (yP 4 (bQpi hp 0 0 (fun _ => True))) 33 0 [(0, yR k0), (1, yI (2)), (2, yI (p2)), (3, yI (9)), (4, yI (p4))] [] hp
  refine yG.load xik rfl (fun _ _ => rfl) (v := yI (9)) rfl rfl ?_
  refine yG.ifz rfl (t := 43) rfl ⟨by omega, by omega⟩ (fun c1 => ?_) (fun c1 => ?_)
  · have c1 : (9 : Int) < 0 := c1
    exfalso; omega
  · have c1 : (9 : Int) ≥ 0 := c1
    refine yG.load xik rfl (fun _ _ => rfl) (v := yI (9)) rfl rfl ?_
    refine yG.getS (c := 9) rfl rfl ?_
    refine yG.load xik rfl (fun _ _ => rfl) (v := yI (2)) rfl rfl ?_
    refine yG.ialdF A_hp.1 (v_S_Net_SETTABLE W (s_S_Net_SETTABLE W)) rfl rfl (by omega) (by omega) (fun z2 e_z2 i_z2 l_z2 u_z2 => ?_)
    obtain rfl : z2 = 4 := by omega
    refine yG.icmp rfl (t := 43) rfl ⟨by omega, by omega⟩ ⟨by omega, by omega⟩ (fun c3 => ?_) (fun c3 => ?_)
    · have c3 : (9 : Int) ≥ 4 := c3
      refine yG.num (c := 0) rfl (fun _ _ => rfl) (by decide) ?_
      refine yG.ret rfl (fun _ _ => rfl) ?_
      exact (yP.bool (by omega) ⟨⟨0, rfl, by omega, by omega, trivial⟩, rfl⟩)
    · have c3 : (9 : Int) < 4 := c3
      exfalso; omega
theorem c_Net_allows_2_10 {hp : xH} (W : bW G) (d : Nat) (hT : zTy G hp) {k0 : Nat} (H_k0 : bRo G 18 k0) (p2 p4 : Int) (h2l : 0 ≤ p2) (h2u : p2 ≤ 19) (h4l : (-2147483648) ≤ p4) (h4u : p4 ≤ 2147483647) : yC (xcall 89 xfts xpools xms (d + 1)) 150 [yR k0, yI (2), yI (p2), yI (10), yI (p4)] hp (bQpi hp 0 0 (fun _ => True)) := by
  have A_hp : bAx G [] hp hp := bAx.rf hT
  refine yC.of (M := (xt_X5_allows, (5, (4, (6, []))))) rfl rfl (N := 33) (yfuel (by decide)) ?_
  show yG 89 xfts (xcall 89 xfts xpools xms d) (xpool xp_RX5) [] xt_X5_allows (yP 4 (bQpi hp 0 0 (fun _ => True))) 33 0 [(0, yR k0), (1, yI (2)), (2, yI (p2)), (3, yI (10)), (4, yI (p4))] [] hp
  refine yG.load xik rfl (fun _ _ => rfl) (v := yI (10)) rfl rfl ?_
  refine yG.ifz rfl (t := 43) rfl ⟨by omega, by omega⟩ (fun c1 => ?_) (fun c1 => ?_)
  · have c1 : (10 : Int) < 0 := c1
    exfalso; omega
  · have c1 : (10 : Int) ≥ 0 := c1
    refine yG.load xik rfl (fun _ _ => rfl) (v := yI (10)) rfl rfl ?_
    refine yG.getS (c := 9) rfl rfl ?_
    refine yG.load xik rfl (fun _ _ => rfl) (v := yI (2)) rfl rfl ?_
    refine yG.ialdF A_hp.1 (v_S_Net_SETTABLE W (s_S_Net_SETTABLE W)) rfl rfl (by omega) (by omega) (fun z2 e_z2 i_z2 l_z2 u_z2 => ?_)
    obtain rfl : z2 = 4 := by omega
    refine yG.icmp rfl (t := 43) rfl ⟨by omega, by omega⟩ ⟨by omega, by omega⟩ (fun c3 => ?_) (fun c3 => ?_)
    · have c3 : (10 : Int) ≥ 4 := c3
      refine yG.num (c := 0) rfl (fun _ _ => rfl) (by decide) ?_
      refine yG.ret rfl (fun _ _ => rfl) ?_
      exact (yP.bool (by omega) ⟨⟨0, rfl, by omega, by omega, trivial⟩, rfl⟩)
    · have c3 : (10 : Int) < 4 := c3
      exfalso; omega
theorem c_Net_allows_2_l {hp : xH} (W : bW G) (d : Nat) (hT : zTy G hp) {k0 : Nat} (H_k0 : bRo G 18 k0) (p2 p3 p4 : Int) (h2l : 0 ≤ p2) (h2u : p2 ≤ 19) (h3l : (-2147483648) ≤ p3) (h3u : p3 ≤ (-1)) (h4l : (-2147483648) ≤ p4) (h4u : p4 ≤ 2147483647) : yC (xcall 89 xfts xpools xms (d + 1)) 150 [yR k0, yI (2), yI (p2), yI (p3), yI (p4)] hp (bQpi hp 0 0 (fun _ => True)) := by
  have A_hp : bAx G [] hp hp := bAx.rf hT
  refine yC.of (M := (xt_X5_allows, (5, (4, (6, []))))) rfl rfl (N := 18) (yfuel (by decide)) ?_
  show yG 89 xfts (xcall 89 xfts xpools xms d) (xpool xp_RX5) [] xt_X5_allows (yP 4 (bQpi hp 0 0 (fun _ => True))) 18 0 [(0, yR k0), (1, yI (2)), (2, yI (p2)), (3, yI (p3)), (4, yI (p4))] [] hp
  refine yG.load xik rfl (fun _ _ => rfl) (v := yI (p3)) rfl rfl ?_
  refine yG.ifz rfl (t := 43) rfl ⟨by omega, by omega⟩ (fun c1 => ?_) (fun c1 => ?_)
  · have c1 : (p3 : Int) < 0 := c1
    refine yG.num (c := 0) rfl (fun _ _ => rfl) (by decide) ?_
    refine yG.ret rfl (fun _ _ => rfl) ?_
    exact (yP.bool (by omega) ⟨⟨0, rfl, by omega, by omega, trivial⟩, rfl⟩)
  · have c1 : (p3 : Int) ≥ 0 := c1
    exfalso; omega
theorem c_Net_allows_2_h {hp : xH} (W : bW G) (d : Nat) (hT : zTy G hp) {k0 : Nat} (H_k0 : bRo G 18 k0) (p2 p3 p4 : Int) (h2l : 0 ≤ p2) (h2u : p2 ≤ 19) (h3l : 11 ≤ p3) (h3u : p3 ≤ 2147483647) (h4l : (-2147483648) ≤ p4) (h4u : p4 ≤ 2147483647) : yC (xcall 89 xfts xpools xms (d + 1)) 150 [yR k0, yI (2), yI (p2), yI (p3), yI (p4)] hp (bQpi hp 0 0 (fun _ => True)) := by
  have A_hp : bAx G [] hp hp := bAx.rf hT
  refine yC.of (M := (xt_X5_allows, (5, (4, (6, []))))) rfl rfl (N := 33) (yfuel (by decide)) ?_
  show yG 89 xfts (xcall 89 xfts xpools xms d) (xpool xp_RX5) [] xt_X5_allows (yP 4 (bQpi hp 0 0 (fun _ => True))) 33 0 [(0, yR k0), (1, yI (2)), (2, yI (p2)), (3, yI (p3)), (4, yI (p4))] [] hp
  refine yG.load xik rfl (fun _ _ => rfl) (v := yI (p3)) rfl rfl ?_
  refine yG.ifz rfl (t := 43) rfl ⟨by omega, by omega⟩ (fun c1 => ?_) (fun c1 => ?_)
  · have c1 : (p3 : Int) < 0 := c1
    exfalso; omega
  · have c1 : (p3 : Int) ≥ 0 := c1
    refine yG.load xik rfl (fun _ _ => rfl) (v := yI (p3)) rfl rfl ?_
    refine yG.getS (c := 9) rfl rfl ?_
    refine yG.load xik rfl (fun _ _ => rfl) (v := yI (2)) rfl rfl ?_
    refine yG.ialdF A_hp.1 (v_S_Net_SETTABLE W (s_S_Net_SETTABLE W)) rfl rfl (by omega) (by omega) (fun z2 e_z2 i_z2 l_z2 u_z2 => ?_)
    obtain rfl : z2 = 4 := by omega
    refine yG.icmp rfl (t := 43) rfl ⟨by omega, by omega⟩ ⟨by omega, by omega⟩ (fun c3 => ?_) (fun c3 => ?_)
    · have c3 : (p3 : Int) ≥ 4 := c3
      refine yG.num (c := 0) rfl (fun _ _ => rfl) (by decide) ?_
      refine yG.ret rfl (fun _ _ => rfl) ?_
      exact (yP.bool (by omega) ⟨⟨0, rfl, by omega, by omega, trivial⟩, rfl⟩)
    · have c3 : (p3 : Int) < 4 := c3
      exfalso; omega
theorem c_Net_allows_3_0 {hp : xH} (W : bW G) (d : Nat) (hT : zTy G hp) {k0 : Nat} (H_k0 : bRo G 18 k0) (p2 p4 : Int) (h2l : 0 ≤ p2) (h2u : p2 ≤ 5) (h4l : (-2147483648) ≤ p4) (h4u : p4 ≤ 2147483647) : yC (xcall 89 xfts xpools xms (d + 3)) 150 [yR k0, yI (3), yI (p2), yI (0), yI (p4)] hp (bQpi hp 0 1 (fun z => (z = 1 → 0 ≤ p4 ∧ 0 ≤ 0 - p4 + 1))) := by
  have A_hp : bAx G [] hp hp := bAx.rf hT
  refine yC.of (M := (xt_X5_allows, (5, (4, (6, []))))) rfl rfl (N := 78) (yfuel (by decide)) ?_
  show yG 89 xfts (xcall 89 xfts xpools xms (d + 2)) (xpool xp_RX5) [] xt_X5_allows (yP 4 (bQpi hp 0 1 (fun z => (z = 1 → 0 ≤ p4 ∧ 0 ≤ 0 - p4 + 1)))) 78 0 [(0, yR k0), (1, yI (3)), (2, yI (p2)), (3, yI (0)), (4, yI (p4))] [] hp
  refine yG.load xik rfl (fun _ _ => rfl) (v := yI (0)) rfl rfl ?_
  refine yG.ifz rfl (t := 43) rfl ⟨by omega, by omega⟩ (fun c1 => ?_) (fun c1 => ?_)
  · have c1 : (0 : Int) < 0 := c1
    exfalso; omega
  · have c1 : (0 : Int) ≥ 0 := c1
    refine yG.load xik rfl (fun _ _ => rfl) (v := yI (0)) rfl rfl ?_
    refine yG.getS (c := 9) rfl rfl ?_
    refine yG.load xik rfl (fun _ _ => rfl) (v := yI (3)) rfl rfl ?_
    refine yG.ialdF A_hp.1 (v_S_Net_SETTABLE W (s_S_Net_SETTABLE W)) rfl rfl (by omega) (by omega) (fun z2 e_z2 i_z2 l_z2 u_z2 => ?_)
    obtain rfl : z2 = 10 := by omega
    refine yG.icmp rfl (t := 43) rfl ⟨by omega, by omega⟩ ⟨by omega, by omega⟩ (fun c3 => ?_) (fun c3 => ?_)
    · have c3 : (0 : Int) ≥ 10 := c3
      exfalso; omega
    · have c3 : (0 : Int) < 10 := c3
      refine yG.load xik rfl (fun _ _ => rfl) (v := yI (3)) rfl rfl ?_
      refine yG.load xik rfl (fun _ _ => rfl) (v := yI (0)) rfl rfl ?_
      refine yG.load xik rfl (fun _ _ => rfl) (v := yI (p4)) rfl rfl ?_
      refine yG.invS (rest := []) rfl rfl rfl rfl (c_Net_isWithin_3_0 W (d + 1) A_hp.1 (p4) (by omega) (by omega)) (fun rv hp9 q9 => ?_)
      obtain ⟨⟨z4, rfl, l_z4, u_z4, R_z4⟩, e9⟩ := q9
      rw [e9]
      show yG _ _ _ _ _ _ _ _ _ _ (yI z4 :: []) _
      refine yG.ifz rfl (t := 43) rfl ⟨by omega, by omega⟩ (fun c5 => ?_) (fun c5 => ?_)
      · have c5 : (z4 : Int) = 0 := c5
        refine yG.num (c := 0) rfl (fun _ _ => rfl) (by decide) ?_
        refine yG.ret rfl (fun _ _ => rfl) ?_
        exact (yP.bool (by omega) ⟨⟨0, rfl, by omega, by omega, by omega⟩, rfl⟩)
      · have c5 : (z4 : Int) ≠ 0 := c5
        refine yG.load xik rfl (fun _ _ => rfl) (v := yI (3)) rfl rfl ?_
        refine yG.num (c := 3) rfl (fun _ _ => rfl) (by decide) ?_
        refine yG.icmp rfl (t := 39) rfl ⟨by omega, by omega⟩ ⟨by omega, by omega⟩ (fun c6 => ?_) (fun c6 => ?_)
        · have c6 : (3 : Int) ≠ 3 := c6
          exfalso; omega
        · have c6 : (3 : Int) = 3 := c6
          refine yG.load xak rfl (fun _ _ => rfl) (v := yR k0) rfl rfl ?_
          refine yG.load xik rfl (fun _ _ => rfl) (v := yI (p2)) rfl rfl ?_
          refine yG.load xik rfl (fun _ _ => rfl) (v := yI (0)) rfl rfl ?_
          refine yG.load xik rfl (fun _ _ => rfl) (v := yI (p4)) rfl rfl ?_
          refine yG.invV (rest := []) A_hp.1 (bOb (d_Net W) H_k0) rfl rfl rfl rfl (c_Net_agrees W d A_hp.1 H_k0 (p2) (0) (p4) (by omega) (by omega) (by omega) (by omega) (by omega) (by omega)) (fun rv hp9 q9 => ?_)
          obtain ⟨⟨z7, rfl, l_z7, u_z7, R_z7⟩, e9⟩ := q9
          rw [e9]
          show yG _ _ _ _ _ _ _ _ _ _ (yI z7 :: []) _
          refine yG.ifz rfl (t := 43) rfl ⟨by omega, by omega⟩ (fun c8 => ?_) (fun c8 => ?_)
          · have c8 : (z7 : Int) = 0 := c8
            exfalso; omega
          · have c8 : (z7 : Int) ≠ 0 := c8
            refine yG.num (c := 1) rfl (fun _ _ => rfl) (by decide) ?_
            refine yG.goto rfl (t := 44) rfl ?_
            refine yG.ret rfl (fun _ _ => rfl) ?_
            exact (yP.bool (by omega) ⟨⟨1, rfl, by omega, by omega, by omega⟩, rfl⟩)
theorem c_Net_allows_3_1 {hp : xH} (W : bW G) (d : Nat) (hT : zTy G hp) {k0 : Nat} (H_k0 : bRo G 18 k0) (p2 p4 : Int) (h2l : 0 ≤ p2) (h2u : p2 ≤ 5) (h4l : (-2147483648) ≤ p4) (h4u : p4 ≤ 2147483647) : yC (xcall 89 xfts xpools xms (d + 3)) 150 [yR k0, yI (3), yI (p2), yI (1), yI (p4)] hp (bQpi hp 0 1 (fun z => (z = 1 → 0 ≤ p4 ∧ 0 ≤ 0 - p4 + 9999))) := by
  have A_hp : bAx G [] hp hp := bAx.rf hT
  refine yC.of (M := (xt_X5_allows, (5, (4, (6, []))))) rfl rfl (N := 78) (yfuel (by decide)) ?_
  show yG 89 xfts (xcall 89 xfts xpools xms (d + 2)) (xpool xp_RX5) [] xt_X5_allows (yP 4 (bQpi hp 0 1 (fun z => (z = 1 → 0 ≤ p4 ∧ 0 ≤ 0 - p4 + 9999)))) 78 0 [(0, yR k0), (1, yI (3)), (2, yI (p2)), (3, yI (1)), (4, yI (p4))] [] hp
  refine yG.load xik rfl (fun _ _ => rfl) (v := yI (1)) rfl rfl ?_
  refine yG.ifz rfl (t := 43) rfl ⟨by omega, by omega⟩ (fun c1 => ?_) (fun c1 => ?_)
  · have c1 : (1 : Int) < 0 := c1
    exfalso; omega
  · have c1 : (1 : Int) ≥ 0 := c1
    refine yG.load xik rfl (fun _ _ => rfl) (v := yI (1)) rfl rfl ?_
    refine yG.getS (c := 9) rfl rfl ?_
    refine yG.load xik rfl (fun _ _ => rfl) (v := yI (3)) rfl rfl ?_
    refine yG.ialdF A_hp.1 (v_S_Net_SETTABLE W (s_S_Net_SETTABLE W)) rfl rfl (by omega) (by omega) (fun z2 e_z2 i_z2 l_z2 u_z2 => ?_)
    obtain rfl : z2 = 10 := by omega
    refine yG.icmp rfl (t := 43) rfl ⟨by omega, by omega⟩ ⟨by omega, by omega⟩ (fun c3 => ?_) (fun c3 => ?_)
    · have c3 : (1 : Int) ≥ 10 := c3
      exfalso; omega
    · have c3 : (1 : Int) < 10 := c3
      refine yG.load xik rfl (fun _ _ => rfl) (v := yI (3)) rfl rfl ?_
      refine yG.load xik rfl (fun _ _ => rfl) (v := yI (1)) rfl rfl ?_
      refine yG.load xik rfl (fun _ _ => rfl) (v := yI (p4)) rfl rfl ?_
      refine yG.invS (rest := []) rfl rfl rfl rfl (c_Net_isWithin_3_1 W (d + 1) A_hp.1 (p4) (by omega) (by omega)) (fun rv hp9 q9 => ?_)
      obtain ⟨⟨z4, rfl, l_z4, u_z4, R_z4⟩, e9⟩ := q9
      rw [e9]
      show yG _ _ _ _ _ _ _ _ _ _ (yI z4 :: []) _
      refine yG.ifz rfl (t := 43) rfl ⟨by omega, by omega⟩ (fun c5 => ?_) (fun c5 => ?_)
      · have c5 : (z4 : Int) = 0 := c5
        refine yG.num (c := 0) rfl (fun _ _ => rfl) (by decide) ?_
        refine yG.ret rfl (fun _ _ => rfl) ?_
        exact (yP.bool (by omega) ⟨⟨0, rfl, by omega, by omega, by omega⟩, rfl⟩)
      · have c5 : (z4 : Int) ≠ 0 := c5
        refine yG.load xik rfl (fun _ _ => rfl) (v := yI (3)) rfl rfl ?_
        refine yG.num (c := 3) rfl (fun _ _ => rfl) (by decide) ?_
        refine yG.icmp rfl (t := 39) rfl ⟨by omega, by omega⟩ ⟨by omega, by omega⟩ (fun c6 => ?_) (fun c6 => ?_)
        · have c6 : (3 : Int) ≠ 3 := c6
          exfalso; omega
        · have c6 : (3 : Int) = 3 := c6
          refine yG.load xak rfl (fun _ _ => rfl) (v := yR k0) rfl rfl ?_
          refine yG.load xik rfl (fun _ _ => rfl) (v := yI (p2)) rfl rfl ?_
          refine yG.load xik rfl (fun _ _ => rfl) (v := yI (1)) rfl rfl ?_
          refine yG.load xik rfl (fun _ _ => rfl) (v := yI (p4)) rfl rfl ?_
          refine yG.invV (rest := []) A_hp.1 (bOb (d_Net W) H_k0) rfl rfl rfl rfl (c_Net_agrees W d A_hp.1 H_k0 (p2) (1) (p4) (by omega) (by omega) (by omega) (by omega) (by omega) (by omega)) (fun rv hp9 q9 => ?_)
          obtain ⟨⟨z7, rfl, l_z7, u_z7, R_z7⟩, e9⟩ := q9
          rw [e9]
          show yG _ _ _ _ _ _ _ _ _ _ (yI z7 :: []) _
          refine yG.ifz rfl (t := 43) rfl ⟨by omega, by omega⟩ (fun c8 => ?_) (fun c8 => ?_)
          · have c8 : (z7 : Int) = 0 := c8
            exfalso; omega
          · have c8 : (z7 : Int) ≠ 0 := c8
            refine yG.num (c := 1) rfl (fun _ _ => rfl) (by decide) ?_
            refine yG.goto rfl (t := 44) rfl ?_
            refine yG.ret rfl (fun _ _ => rfl) ?_
            exact (yP.bool (by omega) ⟨⟨1, rfl, by omega, by omega, by omega⟩, rfl⟩)
theorem c_Net_allows_3_2 {hp : xH} (W : bW G) (d : Nat) (hT : zTy G hp) {k0 : Nat} (H_k0 : bRo G 18 k0) (p2 p4 : Int) (h2l : 0 ≤ p2) (h2u : p2 ≤ 5) (h4l : (-2147483648) ≤ p4) (h4u : p4 ≤ 2147483647) : yC (xcall 89 xfts xpools xms (d + 3)) 150 [yR k0, yI (3), yI (p2), yI (2), yI (p4)] hp (bQpi hp 0 1 (fun z => (z = 1 → 0 ≤ p4 - 1 ∧ 0 ≤ 0 - p4 + 99))) := by
  have A_hp : bAx G [] hp hp := bAx.rf hT
  refine yC.of (M := (xt_X5_allows, (5, (4, (6, []))))) rfl rfl (N := 78) (yfuel (by decide)) ?_
  show yG 89 xfts (xcall 89 xfts xpools xms (d + 2)) (xpool xp_RX5) [] xt_X5_allows (yP 4 (bQpi hp 0 1 (fun z => (z = 1 → 0 ≤ p4 - 1 ∧ 0 ≤ 0 - p4 + 99)))) 78 0 [(0, yR k0), (1, yI (3)), (2, yI (p2)), (3, yI (2)), (4, yI (p4))] [] hp
  refine yG.load xik rfl (fun _ _ => rfl) (v := yI (2)) rfl rfl ?_
  refine yG.ifz rfl (t := 43) rfl ⟨by omega, by omega⟩ (fun c1 => ?_) (fun c1 => ?_)
  · have c1 : (2 : Int) < 0 := c1
    exfalso; omega
  · have c1 : (2 : Int) ≥ 0 := c1
    refine yG.load xik rfl (fun _ _ => rfl) (v := yI (2)) rfl rfl ?_
    refine yG.getS (c := 9) rfl rfl ?_
    refine yG.load xik rfl (fun _ _ => rfl) (v := yI (3)) rfl rfl ?_
    refine yG.ialdF A_hp.1 (v_S_Net_SETTABLE W (s_S_Net_SETTABLE W)) rfl rfl (by omega) (by omega) (fun z2 e_z2 i_z2 l_z2 u_z2 => ?_)
    obtain rfl : z2 = 10 := by omega
    refine yG.icmp rfl (t := 43) rfl ⟨by omega, by omega⟩ ⟨by omega, by omega⟩ (fun c3 => ?_) (fun c3 => ?_)
    · have c3 : (2 : Int) ≥ 10 := c3
      exfalso; omega
    · have c3 : (2 : Int) < 10 := c3
      refine yG.load xik rfl (fun _ _ => rfl) (v := yI (3)) rfl rfl ?_
      refine yG.load xik rfl (fun _ _ => rfl) (v := yI (2)) rfl rfl ?_
      refine yG.load xik rfl (fun _ _ => rfl) (v := yI (p4)) rfl rfl ?_
      refine yG.invS (rest := []) rfl rfl rfl rfl (c_Net_isWithin_3_2 W (d + 1) A_hp.1 (p4) (by omega) (by omega)) (fun rv hp9 q9 => ?_)
      obtain ⟨⟨z4, rfl, l_z4, u_z4, R_z4⟩, e9⟩ := q9
      rw [e9]
      show yG _ _ _ _ _ _ _ _ _ _ (yI z4 :: []) _
      refine yG.ifz rfl (t := 43) rfl ⟨by omega, by omega⟩ (fun c5 => ?_) (fun c5 => ?_)
      · have c5 : (z4 : Int) = 0 := c5
        refine yG.num (c := 0) rfl (fun _ _ => rfl) (by decide) ?_
        refine yG.ret rfl (fun _ _ => rfl) ?_
        exact (yP.bool (by omega) ⟨⟨0, rfl, by omega, by omega, by omega⟩, rfl⟩)
      · have c5 : (z4 : Int) ≠ 0 := c5
        refine yG.load xik rfl (fun _ _ => rfl) (v := yI (3)) rfl rfl ?_
        refine yG.num (c := 3) rfl (fun _ _ => rfl) (by decide) ?_
        refine yG.icmp rfl (t := 39) rfl ⟨by omega, by omega⟩ ⟨by omega, by omega⟩ (fun c6 => ?_) (fun c6 => ?_)
        · have c6 : (3 : Int) ≠ 3 := c6
          exfalso; omega
        · have c6 : (3 : Int) = 3 := c6
          refine yG.load xak rfl (fun _ _ => rfl) (v := yR k0) rfl rfl ?_
          refine yG.load xik rfl (fun _ _ => rfl) (v := yI (p2)) rfl rfl ?_
          refine yG.load xik rfl (fun _ _ => rfl) (v := yI (2)) rfl rfl ?_
          refine yG.load xik rfl (fun _ _ => rfl) (v := yI (p4)) rfl rfl ?_
          refine yG.invV (rest := []) A_hp.1 (bOb (d_Net W) H_k0) rfl rfl rfl rfl (c_Net_agrees W d A_hp.1 H_k0 (p2) (2) (p4) (by omega) (by omega) (by omega) (by omega) (by omega) (by omega)) (fun rv hp9 q9 => ?_)
          obtain ⟨⟨z7, rfl, l_z7, u_z7, R_z7⟩, e9⟩ := q9
          rw [e9]
          show yG _ _ _ _ _ _ _ _ _ _ (yI z7 :: []) _
          refine yG.ifz rfl (t := 43) rfl ⟨by omega, by omega⟩ (fun c8 => ?_) (fun c8 => ?_)
          · have c8 : (z7 : Int) = 0 := c8
            exfalso; omega
          · have c8 : (z7 : Int) ≠ 0 := c8
            refine yG.num (c := 1) rfl (fun _ _ => rfl) (by decide) ?_
            refine yG.goto rfl (t := 44) rfl ?_
            refine yG.ret rfl (fun _ _ => rfl) ?_
            exact (yP.bool (by omega) ⟨⟨1, rfl, by omega, by omega, by omega⟩, rfl⟩)
theorem c_Net_allows_3_3 {hp : xH} (W : bW G) (d : Nat) (hT : zTy G hp) {k0 : Nat} (H_k0 : bRo G 18 k0) (p2 p4 : Int) (h2l : 0 ≤ p2) (h2u : p2 ≤ 5) (h4l : (-2147483648) ≤ p4) (h4u : p4 ≤ 2147483647) : yC (xcall 89 xfts xpools xms (d + 3)) 150 [yR k0, yI (3), yI (p2), yI (3), yI (p4)] hp (bQpi hp 0 1 (fun z => (z = 1 → 0 ≤ p4 ∧ 0 ≤ 0 - p4 + 299))) := by
  have A_hp : bAx G [] hp hp := bAx.rf hT
  refine yC.of (M := (xt_X5_allows, (5, (4, (6, []))))) rfl rfl (N := 78) (yfuel (by decide)) ?_
  show yG 89 xfts (xcall 89 xfts xpools xms (d + 2)) (xpool xp_RX5) [] xt_X5_allows (yP 4 (bQpi hp 0 1 (fun z => (z = 1 → 0 ≤ p4 ∧ 0 ≤ 0 - p4 + 299)))) 78 0 [(0, yR k0), (1, yI (3)), (2, yI (p2)), (3, yI (3)), (4, yI (p4))] [] hp
  refine yG.load xik rfl (fun _ _ => rfl) (v := yI (3)) rfl rfl ?_
  refine yG.ifz rfl (t := 43) rfl ⟨by omega, by omega⟩ (fun c1 => ?_) (fun c1 => ?_)
  · have c1 : (3 : Int) < 0 := c1
    exfalso; omega
  · have c1 : (3 : Int) ≥ 0 := c1
    refine yG.load xik rfl (fun _ _ => rfl) (v := yI (3)) rfl rfl ?_
    refine yG.getS (c := 9) rfl rfl ?_
    refine yG.load xik rfl (fun _ _ => rfl) (v := yI (3)) rfl rfl ?_
    refine yG.ialdF A_hp.1 (v_S_Net_SETTABLE W (s_S_Net_SETTABLE W)) rfl rfl (by omega) (by omega) (fun z2 e_z2 i_z2 l_z2 u_z2 => ?_)
    obtain rfl : z2 = 10 := by omega
    refine yG.icmp rfl (t := 43) rfl ⟨by omega, by omega⟩ ⟨by omega, by omega⟩ (fun c3 => ?_) (fun c3 => ?_)
    · have c3 : (3 : Int) ≥ 10 := c3
      exfalso; omega
    · have c3 : (3 : Int) < 10 := c3
      refine yG.load xik rfl (fun _ _ => rfl) (v := yI (3)) rfl rfl ?_
      refine yG.load xik rfl (fun _ _ => rfl) (v := yI (3)) rfl rfl ?_
      refine yG.load xik rfl (fun _ _ => rfl) (v := yI (p4)) rfl rfl ?_
      refine yG.invS (rest := []) rfl rfl rfl rfl (c_Net_isWithin_3_3 W (d + 1) A_hp.1 (p4) (by omega) (by omega)) (fun rv hp9 q9 => ?_)
      obtain ⟨⟨z4, rfl, l_z4, u_z4, R_z4⟩, e9⟩ := q9
      rw [e9]
      show yG _ _ _ _ _ _ _ _ _ _ (yI z4 :: []) _
      refine yG.ifz rfl (t := 43) rfl ⟨by omega, by omega⟩ (fun c5 => ?_) (fun c5 => ?_)
      · have c5 : (z4 : Int) = 0 := c5
        refine yG.num (c := 0) rfl (fun _ _ => rfl) (by decide) ?_
        refine yG.ret rfl (fun _ _ => rfl) ?_
        exact (yP.bool (by omega) ⟨⟨0, rfl, by omega, by omega, by omega⟩, rfl⟩)
      · have c5 : (z4 : Int) ≠ 0 := c5
        refine yG.load xik rfl (fun _ _ => rfl) (v := yI (3)) rfl rfl ?_
        refine yG.num (c := 3) rfl (fun _ _ => rfl) (by decide) ?_
        refine yG.icmp rfl (t := 39) rfl ⟨by omega, by omega⟩ ⟨by omega, by omega⟩ (fun c6 => ?_) (fun c6 => ?_)
        · have c6 : (3 : Int) ≠ 3 := c6
          exfalso; omega
        · have c6 : (3 : Int) = 3 := c6
          refine yG.load xak rfl (fun _ _ => rfl) (v := yR k0) rfl rfl ?_
          refine yG.load xik rfl (fun _ _ => rfl) (v := yI (p2)) rfl rfl ?_
          refine yG.load xik rfl (fun _ _ => rfl) (v := yI (3)) rfl rfl ?_
          refine yG.load xik rfl (fun _ _ => rfl) (v := yI (p4)) rfl rfl ?_
          refine yG.invV (rest := []) A_hp.1 (bOb (d_Net W) H_k0) rfl rfl rfl rfl (c_Net_agrees W d A_hp.1 H_k0 (p2) (3) (p4) (by omega) (by omega) (by omega) (by omega) (by omega) (by omega)) (fun rv hp9 q9 => ?_)
          obtain ⟨⟨z7, rfl, l_z7, u_z7, R_z7⟩, e9⟩ := q9
          rw [e9]
          show yG _ _ _ _ _ _ _ _ _ _ (yI z7 :: []) _
          refine yG.ifz rfl (t := 43) rfl ⟨by omega, by omega⟩ (fun c8 => ?_) (fun c8 => ?_)
          · have c8 : (z7 : Int) = 0 := c8
            exfalso; omega
          · have c8 : (z7 : Int) ≠ 0 := c8
            refine yG.num (c := 1) rfl (fun _ _ => rfl) (by decide) ?_
            refine yG.goto rfl (t := 44) rfl ?_
            refine yG.ret rfl (fun _ _ => rfl) ?_
            exact (yP.bool (by omega) ⟨⟨1, rfl, by omega, by omega, by omega⟩, rfl⟩)
theorem c_Net_allows_3_4 {hp : xH} (W : bW G) (d : Nat) (hT : zTy G hp) {k0 : Nat} (H_k0 : bRo G 18 k0) (p2 p4 : Int) (h2l : 0 ≤ p2) (h2u : p2 ≤ 5) (h4l : (-2147483648) ≤ p4) (h4u : p4 ≤ 2147483647) : yC (xcall 89 xfts xpools xms (d + 3)) 150 [yR k0, yI (3), yI (p2), yI (4), yI (p4)] hp (bQpi hp 0 1 (fun z => (z = 1 → 0 ≤ p4 ∧ 0 ≤ 0 - p4 + 9999))) := by
  have A_hp : bAx G [] hp hp := bAx.rf hT
  refine yC.of (M := (xt_X5_allows, (5, (4, (6, []))))) rfl rfl (N := 78) (yfuel (by decide)) ?_
  show yG 89 xfts (xcall 89 xfts xpools xms (d + 2)) (xpool xp_RX5) [] xt_X5_allows (yP 4 (bQpi hp 0 1 (fun z => (z = 1 → 0 ≤ p4 ∧ 0 ≤ 0 - p4 + 9999)))) 78 0 [(0, yR k0), (1, yI (3)), (2, yI (p2)), (3, yI (4)), (4, yI (p4))] [] hp
  refine yG.load xik rfl (fun _ _ => rfl) (v := yI (4)) rfl rfl ?_
  refine yG.ifz rfl (t := 43) rfl ⟨by omega, by omega⟩ (fun c1 => ?_) (fun c1 => ?_)
  · have c1 : (4 : Int) < 0 := c1
    exfalso; omega
  · have c1 : (4 : Int) ≥ 0 := c1
    refine yG.load xik rfl (fun _ _ => rfl) (v := yI (4)) rfl rfl ?_
    refine yG.getS (c := 9) rfl rfl ?_
    refine yG.load xik rfl (fun _ _ => rfl) (v := yI (3)) rfl rfl ?_
    refine yG.ialdF A_hp.1 (v_S_Net_SETTABLE W (s_S_Net_SETTABLE W)) rfl rfl (by omega) (by omega) (fun z2 e_z2 i_z2 l_z2 u_z2 => ?_)
    obtain rfl : z2 = 10 := by omega
    refine yG.icmp rfl (t := 43) rfl ⟨by omega, by omega⟩ ⟨by omega, by omega⟩ (fun c3 => ?_) (fun c3 => ?_)
    · have c3 : (4 : Int) ≥ 10 := c3
      exfalso; omega
    · have c3 : (4 : Int) < 10 := c3
      refine yG.load xik rfl (fun _ _ => rfl) (v := yI (3)) rfl rfl ?_
      refine yG.load xik rfl (fun _ _ => rfl) (v := yI (4)) rfl rfl ?_
      refine yG.load xik rfl (fun _ _ => rfl) (v := yI (p4)) rfl rfl ?_
      refine yG.invS (rest := []) rfl rfl rfl rfl (c_Net_isWithin_3_4 W (d + 1) A_hp.1 (p4) (by omega) (by omega)) (fun rv hp9 q9 => ?_)
      obtain ⟨⟨z4, rfl, l_z4, u_z4, R_z4⟩, e9⟩ := q9
      rw [e9]
      show yG _ _ _ _ _ _ _ _ _ _ (yI z4 :: []) _
      refine yG.ifz rfl (t := 43) rfl ⟨by omega, by omega⟩ (fun c5 => ?_) (fun c5 => ?_)
      · have c5 : (z4 : Int) = 0 := c5
        refine yG.num (c := 0) rfl (fun _ _ => rfl) (by decide) ?_
        refine yG.ret rfl (fun _ _ => rfl) ?_
        exact (yP.bool (by omega) ⟨⟨0, rfl, by omega, by omega, by omega⟩, rfl⟩)
      · have c5 : (z4 : Int) ≠ 0 := c5
        refine yG.load xik rfl (fun _ _ => rfl) (v := yI (3)) rfl rfl ?_
        refine yG.num (c := 3) rfl (fun _ _ => rfl) (by decide) ?_
        refine yG.icmp rfl (t := 39) rfl ⟨by omega, by omega⟩ ⟨by omega, by omega⟩ (fun c6 => ?_) (fun c6 => ?_)
        · have c6 : (3 : Int) ≠ 3 := c6
          exfalso; omega
        · have c6 : (3 : Int) = 3 := c6
          refine yG.load xak rfl (fun _ _ => rfl) (v := yR k0) rfl rfl ?_
          refine yG.load xik rfl (fun _ _ => rfl) (v := yI (p2)) rfl rfl ?_
          refine yG.load xik rfl (fun _ _ => rfl) (v := yI (4)) rfl rfl ?_
          refine yG.load xik rfl (fun _ _ => rfl) (v := yI (p4)) rfl rfl ?_
          refine yG.invV (rest := []) A_hp.1 (bOb (d_Net W) H_k0) rfl rfl rfl rfl (c_Net_agrees W d A_hp.1 H_k0 (p2) (4) (p4) (by omega) (by omega) (by omega) (by omega) (by omega) (by omega)) (fun rv hp9 q9 => ?_)
          obtain ⟨⟨z7, rfl, l_z7, u_z7, R_z7⟩, e9⟩ := q9
          rw [e9]
          show yG _ _ _ _ _ _ _ _ _ _ (yI z7 :: []) _
          refine yG.ifz rfl (t := 43) rfl ⟨by omega, by omega⟩ (fun c8 => ?_) (fun c8 => ?_)
          · have c8 : (z7 : Int) = 0 := c8
            refine yG.num (c := 0) rfl (fun _ _ => rfl) (by decide) ?_
            refine yG.ret rfl (fun _ _ => rfl) ?_
            exact (yP.bool (by omega) ⟨⟨0, rfl, by omega, by omega, by omega⟩, rfl⟩)
          · have c8 : (z7 : Int) ≠ 0 := c8
            refine yG.num (c := 1) rfl (fun _ _ => rfl) (by decide) ?_
            refine yG.goto rfl (t := 44) rfl ?_
            refine yG.ret rfl (fun _ _ => rfl) ?_
            exact (yP.bool (by omega) ⟨⟨1, rfl, by omega, by omega, by omega⟩, rfl⟩)
theorem c_Net_allows_3_5 {hp : xH} (W : bW G) (d : Nat) (hT : zTy G hp) {k0 : Nat} (H_k0 : bRo G 18 k0) (p2 p4 : Int) (h2l : 0 ≤ p2) (h2u : p2 ≤ 5) (h4l : (-2147483648) ≤ p4) (h4u : p4 ≤ 2147483647) : yC (xcall 89 xfts xpools xms (d + 3)) 150 [yR k0, yI (3), yI (p2), yI (5), yI (p4)] hp (bQpi hp 0 1 (fun z => (z = 1 → 0 ≤ p4 ∧ 0 ≤ 0 - p4 + 9999))) := by
  have A_hp : bAx G [] hp hp := bAx.rf hT
  refine yC.of (M := (xt_X5_allows, (5, (4, (6, []))))) rfl rfl (N := 78) (yfuel (by decide)) ?_
  show yG 89 xfts (xcall 89 xfts xpools xms (d + 2)) (xpool xp_RX5) [] xt_X5_allows (yP 4 (bQpi hp 0 1 (fun z => (z = 1 → 0 ≤ p4 ∧ 0 ≤ 0 - p4 + 9999)))) 78 0 [(0, yR k0), (1, yI (3)), (2, yI (p2)), (3, yI (5)), (4, yI (p4))] [] hp
  refine yG.load xik rfl (fun _ _ => rfl) (v := yI (5)) rfl rfl ?_
  refine yG.ifz rfl (t := 43) rfl ⟨by omega, by omega⟩ (fun c1 => ?_) (fun c1 => ?_)
  · have c1 : (5 : Int) < 0 := c1
    exfalso; omega
  · have c1 : (5 : Int) ≥ 0 := c1
    refine yG.load xik rfl (fun _ _ => rfl) (v := yI (5)) rfl rfl ?_
    refine yG.getS (c := 9) rfl rfl ?_
    refine yG.load xik rfl (fun _ _ => rfl) (v := yI (3)) rfl rfl ?_
    refine yG.ialdF A_hp.1 (v_S_Net_SETTABLE W (s_S_Net_SETTABLE W)) rfl rfl (by omega) (by omega) (fun z2 e_z2 i_z2 l_z2 u_z2 => ?_)
    obtain rfl : z2 = 10 := by omega
    refine yG.icmp rfl (t := 43) rfl ⟨by omega, by omega⟩ ⟨by omega, by omega⟩ (fun c3 => ?_) (fun c3 => ?_)
    · have c3 : (5 : Int) ≥ 10 := c3
      exfalso; omega
    · have c3 : (5 : Int) < 10 := c3
      refine yG.load xik rfl (fun _ _ => rfl) (v := yI (3)) rfl rfl ?_
      refine yG.load xik rfl (fun _ _ => rfl) (v := yI (5)) rfl rfl ?_
      refine yG.load xik rfl (fun _ _ => rfl) (v := yI (p4)) rfl rfl ?_
      refine yG.invS (rest := []) rfl rfl rfl rfl (c_Net_isWithin_3_5 W (d + 1) A_hp.1 (p4) (by omega) (by omega)) (fun rv hp9 q9 => ?_)
      obtain ⟨⟨z4, rfl, l_z4, u_z4, R_z4⟩, e9⟩ := q9
      rw [e9]
      show yG _ _ _ _ _ _ _ _ _ _ (yI z4 :: []) _
      refine yG.ifz rfl (t := 43) rfl ⟨by omega, by omega⟩ (fun c5 => ?_) (fun c5 => ?_)
      · have c5 : (z4 : Int) = 0 := c5
        refine yG.num (c := 0) rfl (fun _ _ => rfl) (by decide) ?_
        refine yG.ret rfl (fun _ _ => rfl) ?_
        exact (yP.bool (by omega) ⟨⟨0, rfl, by omega, by omega, by omega⟩, rfl⟩)
      · have c5 : (z4 : Int) ≠ 0 := c5
        refine yG.load xik rfl (fun _ _ => rfl) (v := yI (3)) rfl rfl ?_
        refine yG.num (c := 3) rfl (fun _ _ => rfl) (by decide) ?_
        refine yG.icmp rfl (t := 39) rfl ⟨by omega, by omega⟩ ⟨by omega, by omega⟩ (fun c6 => ?_) (fun c6 => ?_)
        · have c6 : (3 : Int) ≠ 3 := c6
          exfalso; omega
        · have c6 : (3 : Int) = 3 := c6
          refine yG.load xak rfl (fun _ _ => rfl) (v := yR k0) rfl rfl ?_
          refine yG.load xik rfl (fun _ _ => rfl) (v := yI (p2)) rfl rfl ?_
          refine yG.load xik rfl (fun _ _ => rfl) (v := yI (5)) rfl rfl ?_
          refine yG.load xik rfl (fun _ _ => rfl) (v := yI (p4)) rfl rfl ?_
          refine yG.invV (rest := []) A_hp.1 (bOb (d_Net W) H_k0) rfl rfl rfl rfl (c_Net_agrees W d A_hp.1 H_k0 (p2) (5) (p4) (by omega) (by omega) (by omega) (by omega) (by omega) (by omega)) (fun rv hp9 q9 => ?_)
          obtain ⟨⟨z7, rfl, l_z7, u_z7, R_z7⟩, e9⟩ := q9
          rw [e9]
          show yG _ _ _ _ _ _ _ _ _ _ (yI z7 :: []) _
          refine yG.ifz rfl (t := 43) rfl ⟨by omega, by omega⟩ (fun c8 => ?_) (fun c8 => ?_)
          · have c8 : (z7 : Int) = 0 := c8
            refine yG.num (c := 0) rfl (fun _ _ => rfl) (by decide) ?_
            refine yG.ret rfl (fun _ _ => rfl) ?_
            exact (yP.bool (by omega) ⟨⟨0, rfl, by omega, by omega, by omega⟩, rfl⟩)
          · have c8 : (z7 : Int) ≠ 0 := c8
            refine yG.num (c := 1) rfl (fun _ _ => rfl) (by decide) ?_
            refine yG.goto rfl (t := 44) rfl ?_
            refine yG.ret rfl (fun _ _ => rfl) ?_
            exact (yP.bool (by omega) ⟨⟨1, rfl, by omega, by omega, by omega⟩, rfl⟩)
theorem c_Net_allows_3_6 {hp : xH} (W : bW G) (d : Nat) (hT : zTy G hp) {k0 : Nat} (H_k0 : bRo G 18 k0) (p2 p4 : Int) (h2l : 0 ≤ p2) (h2u : p2 ≤ 5) (h4l : (-2147483648) ≤ p4) (h4u : p4 ≤ 2147483647) : yC (xcall 89 xfts xpools xms (d + 3)) 150 [yR k0, yI (3), yI (p2), yI (6), yI (p4)] hp (bQpi hp 0 1 (fun z => (z = 1 → 0 ≤ p4 ∧ 0 ≤ 0 - p4 + 999))) := by
  have A_hp : bAx G [] hp hp := bAx.rf hT
  refine yC.of (M := (xt_X5_allows, (5, (4, (6, []))))) rfl rfl (N := 78) (yfuel (by decide)) ?_
  show yG 89 xfts (xcall 89 xfts xpools xms (d + 2)) (xpool xp_RX5) [] xt_X5_allows (yP 4 (bQpi hp 0 1 (fun z => (z = 1 → 0 ≤ p4 ∧ 0 ≤ 0 - p4 + 999)))) 78 0 [(0, yR k0), (1, yI (3)), (2, yI (p2)), (3, yI (6)), (4, yI (p4))] [] hp
  refine yG.load xik rfl (fun _ _ => rfl) (v := yI (6)) rfl rfl ?_
  refine yG.ifz rfl (t := 43) rfl ⟨by omega, by omega⟩ (fun c1 => ?_) (fun c1 => ?_)
  · have c1 : (6 : Int) < 0 := c1
    exfalso; omega
  · have c1 : (6 : Int) ≥ 0 := c1
    refine yG.load xik rfl (fun _ _ => rfl) (v := yI (6)) rfl rfl ?_
    refine yG.getS (c := 9) rfl rfl ?_
    refine yG.load xik rfl (fun _ _ => rfl) (v := yI (3)) rfl rfl ?_
    refine yG.ialdF A_hp.1 (v_S_Net_SETTABLE W (s_S_Net_SETTABLE W)) rfl rfl (by omega) (by omega) (fun z2 e_z2 i_z2 l_z2 u_z2 => ?_)
    obtain rfl : z2 = 10 := by omega
    refine yG.icmp rfl (t := 43) rfl ⟨by omega, by omega⟩ ⟨by omega, by omega⟩ (fun c3 => ?_) (fun c3 => ?_)
    · have c3 : (6 : Int) ≥ 10 := c3
      exfalso; omega
    · have c3 : (6 : Int) < 10 := c3
      refine yG.load xik rfl (fun _ _ => rfl) (v := yI (3)) rfl rfl ?_
      refine yG.load xik rfl (fun _ _ => rfl) (v := yI (6)) rfl rfl ?_
      refine yG.load xik rfl (fun _ _ => rfl) (v := yI (p4)) rfl rfl ?_
      refine yG.invS (rest := []) rfl rfl rfl rfl (c_Net_isWithin_3_6 W (d + 1) A_hp.1 (p4) (by omega) (by omega)) (fun rv hp9 q9 => ?_)
      obtain ⟨⟨z4, rfl, l_z4, u_z4, R_z4⟩, e9⟩ := q9
      rw [e9]
      show yG _ _ _ _ _ _ _ _ _ _ (yI z4 :: []) _
      refine yG.ifz rfl (t := 43) rfl ⟨by omega, by omega⟩ (fun c5 => ?_) (fun c5 => ?_)
      · have c5 : (z4 : Int) = 0 := c5
        refine yG.num (c := 0) rfl (fun _ _ => rfl) (by decide) ?_
        refine yG.ret rfl (fun _ _ => rfl) ?_
        exact (yP.bool (by omega) ⟨⟨0, rfl, by omega, by omega, by omega⟩, rfl⟩)
      · have c5 : (z4 : Int) ≠ 0 := c5
        refine yG.load xik rfl (fun _ _ => rfl) (v := yI (3)) rfl rfl ?_
        refine yG.num (c := 3) rfl (fun _ _ => rfl) (by decide) ?_
        refine yG.icmp rfl (t := 39) rfl ⟨by omega, by omega⟩ ⟨by omega, by omega⟩ (fun c6 => ?_) (fun c6 => ?_)
        · have c6 : (3 : Int) ≠ 3 := c6
          exfalso; omega
        · have c6 : (3 : Int) = 3 := c6
          refine yG.load xak rfl (fun _ _ => rfl) (v := yR k0) rfl rfl ?_
          refine yG.load xik rfl (fun _ _ => rfl) (v := yI (p2)) rfl rfl ?_
          refine yG.load xik rfl (fun _ _ => rfl) (v := yI (6)) rfl rfl ?_
          refine yG.load xik rfl (fun _ _ => rfl) (v := yI (p4)) rfl rfl ?_
          refine yG.invV (rest := []) A_hp.1 (bOb (d_Net W) H_k0) rfl rfl rfl rfl (c_Net_agrees W d A_hp.1 H_k0 (p2) (6) (p4) (by omega) (by omega) (by omega) (by omega) (by omega) (by omega)) (fun rv hp9 q9 => ?_)
          obtain ⟨⟨z7, rfl, l_z7, u_z7, R_z7⟩, e9⟩ := q9
          rw [e9]
          show yG _ _ _ _ _ _ _ _ _ _ (yI z7 :: []) _
          refine yG.ifz rfl (t := 43) rfl ⟨by omega, by omega⟩ (fun c8 => ?_) (fun c8 => ?_)
          · have c8 : (z7 : Int) = 0 := c8
            refine yG.num (c := 0) rfl (fun _ _ => rfl) (by decide) ?_
            refine yG.ret rfl (fun _ _ => rfl) ?_
            exact (yP.bool (by omega) ⟨⟨0, rfl, by omega, by omega, by omega⟩, rfl⟩)
          · have c8 : (z7 : Int) ≠ 0 := c8
            refine yG.num (c := 1) rfl (fun _ _ => rfl) (by decide) ?_
            refine yG.goto rfl (t := 44) rfl ?_
            refine yG.ret rfl (fun _ _ => rfl) ?_
            exact (yP.bool (by omega) ⟨⟨1, rfl, by omega, by omega, by omega⟩, rfl⟩)
theorem c_Net_allows_3_7 {hp : xH} (W : bW G) (d : Nat) (hT : zTy G hp) {k0 : Nat} (H_k0 : bRo G 18 k0) (p2 p4 : Int) (h2l : 0 ≤ p2) (h2u : p2 ≤ 5) (h4l : (-2147483648) ≤ p4) (h4u : p4 ≤ 2147483647) : yC (xcall 89 xfts xpools xms (d + 3)) 150 [yR k0, yI (3), yI (p2), yI (7), yI (p4)] hp (bQpi hp 0 1 (fun z => (z = 1 → 0 ≤ p4 ∧ 0 ≤ 0 - p4 + 9999))) := by
  have A_hp : bAx G [] hp hp := bAx.rf hT
  refine yC.of (M := (xt_X5_allows, (5, (4, (6, []))))) rfl rfl (N := 78) (yfuel (by decide)) ?_
  show yG 89 xfts (xcall 89 xfts xpools xms (d + 2)) (xpool xp_RX5) [] xt_X5_allows (yP 4 (bQpi hp 0 1 (fun z => (z = 1 → 0 ≤ p4 ∧ 0 ≤ 0 - p4 + 9999)))) 78 0 [(0, yR k0), (1, yI (3)), (2, yI (p2)), (3, yI (7)), (4, yI (p4))] [] hp
  refine yG.load xik rfl (fun _ _ => rfl) (v := yI (7)) rfl rfl ?_
  refine yG.ifz rfl (t := 43) rfl ⟨by omega, by omega⟩ (fun c1 => ?_) (fun c1 => ?_)
  · have c1 : (7 : Int) < 0 := c1
    exfalso; omega
  · have c1 : (7 : Int) ≥ 0 := c1
    refine yG.load xik rfl (fun _ _ => rfl) (v := yI (7)) rfl rfl ?_
    refine yG.getS (c := 9) rfl rfl ?_
    refine yG.load xik rfl (fun _ _ => rfl) (v := yI (3)) rfl rfl ?_
    refine yG.ialdF A_hp.1 (v_S_Net_SETTABLE W (s_S_Net_SETTABLE W)) rfl rfl (by omega) (by omega) (fun z2 e_z2 i_z2 l_z2 u_z2 => ?_)
    obtain rfl : z2 = 10 := by omega
    refine yG.icmp rfl (t := 43) rfl ⟨by omega, by omega⟩ ⟨by omega, by omega⟩ (fun c3 => ?_) (fun c3 => ?_)
    · have c3 : (7 : Int) ≥ 10 := c3
      exfalso; omega
    · have c3 : (7 : Int) < 10 := c3
      refine yG.load xik rfl (fun _ _ => rfl) (v := yI (3)) rfl rfl ?_
      refine yG.load xik rfl (fun _ _ => rfl) (v := yI (7)) rfl rfl ?_
      refine yG.load xik rfl (fun _ _ => rfl) (v := yI (p4)) rfl rfl ?_
      refine yG.invS (rest := []) rfl rfl rfl rfl (c_Net_isWithin_3_7 W (d + 1) A_hp.1 (p4) (by omega) (by omega)) (fun rv hp9 q9 => ?_)
      obtain ⟨⟨z4, rfl, l_z4, u_z4, R_z4⟩, e9⟩ := q9
      rw [e9]
      show yG _ _ _ _ _ _ _ _ _ _ (yI z4 :: []) _
      refine yG.ifz rfl (t := 43) rfl ⟨by omega, by omega⟩ (fun c5 => ?_) (fun c5 => ?_)
      · have c5 : (z4 : Int) = 0 := c5
        refine yG.num (c := 0) rfl (fun _ _ => rfl) (by decide) ?_
        refine yG.ret rfl (fun _ _ => rfl) ?_
        exact (yP.bool (by omega) ⟨⟨0, rfl, by omega, by omega, by omega⟩, rfl⟩)
      · have c5 : (z4 : Int) ≠ 0 := c5
        refine yG.load xik rfl (fun _ _ => rfl) (v := yI (3)) rfl rfl ?_
        refine yG.num (c := 3) rfl (fun _ _ => rfl) (by decide) ?_
        refine yG.icmp rfl (t := 39) rfl ⟨by omega, by omega⟩ ⟨by omega, by omega⟩ (fun c6 => ?_) (fun c6 => ?_)
        · have c6 : (3 : Int) ≠ 3 := c6
          exfalso; omega
        · have c6 : (3 : Int) = 3 := c6
          refine yG.load xak rfl (fun _ _ => rfl) (v := yR k0) rfl rfl ?_
          refine yG.load xik rfl (fun _ _ => rfl) (v := yI (p2)) rfl rfl ?_
          refine yG.load xik rfl (fun _ _ => rfl) (v := yI (7)) rfl rfl ?_
          refine yG.load xik rfl (fun _ _ => rfl) (v := yI (p4)) rfl rfl ?_
          refine yG.invV (rest := []) A_hp.1 (bOb (d_Net W) H_k0) rfl rfl rfl rfl (c_Net_agrees W d A_hp.1 H_k0 (p2) (7) (p4) (by omega) (by omega) (by omega) (by omega) (by omega) (by omega)) (fun rv hp9 q9 => ?_)
          obtain ⟨⟨z7, rfl, l_z7, u_z7, R_z7⟩, e9⟩ := q9
          rw [e9]
          show yG _ _ _ _ _ _ _ _ _ _ (yI z7 :: []) _
          refine yG.ifz rfl (t := 43) rfl ⟨by omega, by omega⟩ (fun c8 => ?_) (fun c8 => ?_)
          · have c8 : (z7 : Int) = 0 := c8
            refine yG.num (c := 0) rfl (fun _ _ => rfl) (by decide) ?_
            refine yG.ret rfl (fun _ _ => rfl) ?_
            exact (yP.bool (by omega) ⟨⟨0, rfl, by omega, by omega, by omega⟩, rfl⟩)
          · have c8 : (z7 : Int) ≠ 0 := c8
            refine yG.num (c := 1) rfl (fun _ _ => rfl) (by decide) ?_
            refine yG.goto rfl (t := 44) rfl ?_
            refine yG.ret rfl (fun _ _ => rfl) ?_
            exact (yP.bool (by omega) ⟨⟨1, rfl, by omega, by omega, by omega⟩, rfl⟩)
theorem c_Net_allows_3_8 {hp : xH} (W : bW G) (d : Nat) (hT : zTy G hp) {k0 : Nat} (H_k0 : bRo G 18 k0) (p2 p4 : Int) (h2l : 0 ≤ p2) (h2u : p2 ≤ 5) (h4l : (-2147483648) ≤ p4) (h4u : p4 ≤ 2147483647) : yC (xcall 89 xfts xpools xms (d + 3)) 150 [yR k0, yI (3), yI (p2), yI (8), yI (p4)] hp (bQpi hp 0 1 (fun z => (z = 1 → 0 ≤ p4 ∧ 0 ≤ 0 - p4 + 999))) := by
  have A_hp : bAx G [] hp hp := bAx.rf hT
  refine yC.of (M := (xt_X5_allows, (5, (4, (6, []))))) rfl rfl (N := 78) (yfuel (by decide)) ?_
  show yG 89 xfts (xcall 89 xfts xpools xms (d + 2)) (xpool xp_RX5) [] xt_X5_allows (yP 4 (bQpi hp 0 1 (fun z => (z = 1 → 0 ≤ p4 ∧ 0 ≤ 0 - p4 + 999)))) 78 0 [(0, yR k0), (1, yI (3)), (2, yI (p2)), (3, yI (8)), (4, yI (p4))] [] hp
  refine yG.load xik rfl (fun _ _ => rfl) (v := yI (8)) rfl rfl ?_
  refine yG.ifz rfl (t := 43) rfl ⟨by omega, by omega⟩ (fun c1 => ?_) (fun c1 => ?_)
  · have c1 : (8 : Int) < 0 := c1
    exfalso; omega
  · have c1 : (8 : Int) ≥ 0 := c1
    refine yG.load xik rfl (fun _ _ => rfl) (v := yI (8)) rfl rfl ?_
    refine yG.getS (c := 9) rfl rfl ?_
    refine yG.load xik rfl (fun _ _ => rfl) (v := yI (3)) rfl rfl ?_
    refine yG.ialdF A_hp.1 (v_S_Net_SETTABLE W (s_S_Net_SETTABLE W)) rfl rfl (by omega) (by omega) (fun z2 e_z2 i_z2 l_z2 u_z2 => ?_)
    obtain rfl : z2 = 10 := by omega
    refine yG.icmp rfl (t := 43) rfl ⟨by omega, by omega⟩ ⟨by omega, by omega⟩ (fun c3 => ?_) (fun c3 => ?_)
    · have c3 : (8 : Int) ≥ 10 := c3
      exfalso; omega
    · have c3 : (8 : Int) < 10 := c3
      refine yG.load xik rfl (fun _ _ => rfl) (v := yI (3)) rfl rfl ?_
      refine yG.load xik rfl (fun _ _ => rfl) (v := yI (8)) rfl rfl ?_
      refine yG.load xik rfl (fun _ _ => rfl) (v := yI (p4)) rfl rfl ?_
      refine yG.invS (rest := []) rfl rfl rfl rfl (c_Net_isWithin_3_8 W (d + 1) A_hp.1 (p4) (by omega) (by omega)) (fun rv hp9 q9 => ?_)
      obtain ⟨⟨z4, rfl, l_z4, u_z4, R_z4⟩, e9⟩ := q9
      rw [e9]
      show yG _ _ _ _ _ _ _ _ _ _ (yI z4 :: []) _
      refine yG.ifz rfl (t := 43) rfl ⟨by omega, by omega⟩ (fun c5 => ?_) (fun c5 => ?_)
      · have c5 : (z4 : Int) = 0 := c5
        refine yG.num (c := 0) rfl (fun _ _ => rfl) (by decide) ?_
        refine yG.ret rfl (fun _ _ => rfl) ?_
        exact (yP.bool (by omega) ⟨⟨0, rfl, by omega, by omega, by omega⟩, rfl⟩)
      · have c5 : (z4 : Int) ≠ 0 := c5
        refine yG.load xik rfl (fun _ _ => rfl) (v := yI (3)) rfl rfl ?_
        refine yG.num (c := 3) rfl (fun _ _ => rfl) (by decide) ?_
        refine yG.icmp rfl (t := 39) rfl ⟨by omega, by omega⟩ ⟨by omega, by omega⟩ (fun c6 => ?_) (fun c6 => ?_)
        · have c6 : (3 : Int) ≠ 3 := c6
          exfalso; omega
        · have c6 : (3 : Int) = 3 := c6
          refine yG.load xak rfl (fun _ _ => rfl) (v := yR k0) rfl rfl ?_
          refine yG.load xik rfl (fun _ _ => rfl) (v := yI (p2)) rfl rfl ?_
          refine yG.load xik rfl (fun _ _ => rfl) (v := yI (8)) rfl rfl ?_
          refine yG.load xik rfl (fun _ _ => rfl) (v := yI (p4)) rfl rfl ?_
          refine yG.invV (rest := []) A_hp.1 (bOb (d_Net W) H_k0) rfl rfl rfl rfl (c_Net_agrees W d A_hp.1 H_k0 (p2) (8) (p4) (by omega) (by omega) (by omega) (by omega) (by omega) (by omega)) (fun rv hp9 q9 => ?_)
          obtain ⟨⟨z7, rfl, l_z7, u_z7, R_z7⟩, e9⟩ := q9
          rw [e9]
          show yG _ _ _ _ _ _ _ _ _ _ (yI z7 :: []) _
          refine yG.ifz rfl (t := 43) rfl ⟨by omega, by omega⟩ (fun c8 => ?_) (fun c8 => ?_)
          · have c8 : (z7 : Int) = 0 := c8
            refine yG.num (c := 0) rfl (fun _ _ => rfl) (by decide) ?_
            refine yG.ret rfl (fun _ _ => rfl) ?_
            exact (yP.bool (by omega) ⟨⟨0, rfl, by omega, by omega, by omega⟩, rfl⟩)
          · have c8 : (z7 : Int) ≠ 0 := c8
            refine yG.num (c := 1) rfl (fun _ _ => rfl) (by decide) ?_
            refine yG.goto rfl (t := 44) rfl ?_
            refine yG.ret rfl (fun _ _ => rfl) ?_
            exact (yP.bool (by omega) ⟨⟨1, rfl, by omega, by omega, by omega⟩, rfl⟩)
theorem c_Net_allows_3_9 {hp : xH} (W : bW G) (d : Nat) (hT : zTy G hp) {k0 : Nat} (H_k0 : bRo G 18 k0) (p2 p4 : Int) (h2l : 0 ≤ p2) (h2u : p2 ≤ 5) (h4l : (-2147483648) ≤ p4) (h4u : p4 ≤ 2147483647) : yC (xcall 89 xfts xpools xms (d + 3)) 150 [yR k0, yI (3), yI (p2), yI (9), yI (p4)] hp (bQpi hp 0 1 (fun z => (z = 1 → 0 ≤ p4 ∧ 0 ≤ 0 - p4 + 9))) := by
  have A_hp : bAx G [] hp hp := bAx.rf hT
  refine yC.of (M := (xt_X5_allows, (5, (4, (6, []))))) rfl rfl (N := 78) (yfuel (by decide)) ?_
  show yG 89 xfts (xcall 89 xfts xpools xms (d + 2)) (xpool xp_RX5) [] xt_X5_allows (yP 4 (bQpi hp 0 1 (fun z => (z = 1 → 0 ≤ p4 ∧ 0 ≤ 0 - p4 + 9)))) 78 0 [(0, yR k0), (1, yI (3)), (2, yI (p2)), (3, yI (9)), (4, yI (p4))] [] hp
  refine yG.load xik rfl (fun _ _ => rfl) (v := yI (9)) rfl rfl ?_
  refine yG.ifz rfl (t := 43) rfl ⟨by omega, by omega⟩ (fun c1 => ?_) (fun c1 => ?_)
  · have c1 : (9 : Int) < 0 := c1
    exfalso; omega
  · have c1 : (9 : Int) ≥ 0 := c1
    refine yG.load xik rfl (fun _ _ => rfl) (v := yI (9)) rfl rfl ?_
    refine yG.getS (c := 9) rfl rfl ?_
    refine yG.load xik rfl (fun _ _ => rfl) (v := yI (3)) rfl rfl ?_
    refine yG.ialdF A_hp.1 (v_S_Net_SETTABLE W (s_S_Net_SETTABLE W)) rfl rfl (by omega) (by omega) (fun z2 e_z2 i_z2 l_z2 u_z2 => ?_)
    obtain rfl : z2 = 10 := by omega
    refine yG.icmp rfl (t := 43) rfl ⟨by omega, by omega⟩ ⟨by omega, by omega⟩ (fun c3 => ?_) (fun c3 => ?_)
    · have c3 : (9 : Int) ≥ 10 := c3
      exfalso; omega
    · have c3 : (9 : Int) < 10 := c3
      refine yG.load xik rfl (fun _ _ => rfl) (v := yI (3)) rfl rfl ?_
      refine yG.load xik rfl (fun _ _ => rfl) (v := yI (9)) rfl rfl ?_
      refine yG.load xik rfl (fun _ _ => rfl) (v := yI (p4)) rfl rfl ?_
      refine yG.invS (rest := []) rfl rfl rfl rfl (c_Net_isWithin_3_9 W (d + 1) A_hp.1 (p4) (by omega) (by omega)) (fun rv hp9 q9 => ?_)
      obtain ⟨⟨z4, rfl, l_z4, u_z4, R_z4⟩, e9⟩ := q9
      rw [e9]
      show yG _ _ _ _ _ _ _ _ _ _ (yI z4 :: []) _
      refine yG.ifz rfl (t := 43) rfl ⟨by omega, by omega⟩ (fun c5 => ?_) (fun c5 => ?_)
      · have c5 : (z4 : Int) = 0 := c5
        refine yG.num (c := 0) rfl (fun _ _ => rfl) (by decide) ?_
        refine yG.ret rfl (fun _ _ => rfl) ?_
        exact (yP.bool (by omega) ⟨⟨0, rfl, by omega, by omega, by omega⟩, rfl⟩)
      · have c5 : (z4 : Int) ≠ 0 := c5
        refine yG.load xik rfl (fun _ _ => rfl) (v := yI (3)) rfl rfl ?_
        refine yG.num (c := 3) rfl (fun _ _ => rfl) (by decide) ?_
        refine yG.icmp rfl (t := 39) rfl ⟨by omega, by omega⟩ ⟨by omega, by omega⟩ (fun c6 => ?_) (fun c6 => ?_)
        · have c6 : (3 : Int) ≠ 3 := c6
          exfalso; omega
        · have c6 : (3 : Int) = 3 := c6
          refine yG.load xak rfl (fun _ _ => rfl) (v := yR k0) rfl rfl ?_
          refine yG.load xik rfl (fun _ _ => rfl) (v := yI (p2)) rfl rfl ?_
          refine yG.load xik rfl (fun _ _ => rfl) (v := yI (9)) rfl rfl ?_
          refine yG.load xik rfl (fun _ _ => rfl) (v := yI (p4)) rfl rfl ?_
          refine yG.invV (rest := []) A_hp.1 (bOb (d_Net W) H_k0) rfl rfl rfl rfl (c_Net_agrees W d A_hp.1 H_k0 (p2) (9) (p4) (by omega) (by omega) (by omega) (by omega) (by omega) (by omega)) (fun rv hp9 q9 => ?_)
          obtain ⟨⟨z7, rfl, l_z7, u_z7, R_z7⟩, e9⟩ := q9
          rw [e9]
          show yG _ _ _ _ _ _ _ _ _ _ (yI z7 :: []) _
          refine yG.ifz rfl (t := 43) rfl ⟨by omega, by omega⟩ (fun c8 => ?_) (fun c8 => ?_)
          · have c8 : (z7 : Int) = 0 := c8
            exfalso; omega
          · have c8 : (z7 : Int) ≠ 0 := c8
            refine yG.num (c := 1) rfl (fun _ _ => rfl) (by decide) ?_
            refine yG.goto rfl (t := 44) rfl ?_
            refine yG.ret rfl (fun _ _ => rfl) ?_
            exact (yP.bool (by omega) ⟨⟨1, rfl, by omega, by omega, by omega⟩, rfl⟩)
theorem c_Net_allows_3_10 {hp : xH} (W : bW G) (d : Nat) (hT : zTy G hp) {k0 : Nat} (H_k0 : bRo G 18 k0) (p2 p4 : Int) (h2l : 0 ≤ p2) (h2u : p2 ≤ 5) (h4l : (-2147483648) ≤ p4) (h4u : p4 ≤ 2147483647) : yC (xcall 89 xfts xpools xms (d + 1)) 150 [yR k0, yI (3), yI (p2), yI (10), yI (p4)] hp (bQpi hp 0 0 (fun _ => True)) := by
  have A_hp : bAx G [] hp hp := bAx.rf hT
  refine yC.of (M := (xt_X5_allows, (5, (4, (6, []))))) rfl rfl (N := 33) (yfuel (by decide)) ?_
  show yG 89 xfts (xcall 89 xfts xpools xms d) (xpool xp_RX5) [] xt_X5_allows (yP 4 (bQpi hp 0 0 (fun _ => True))) 33 0 [(0, yR k0), (1, yI (3)), (2, yI (p2)), (3, yI (10)), (4, yI (p4))] [] hp
  refine yG.load xik rfl (fun _ _ => rfl) (v := yI (10)) rfl rfl ?_
  refine yG.ifz rfl (t := 43) rfl ⟨by omega, by omega⟩ (fun c1 => ?_) (fun c1 => ?_)
  · have c1 : (10 : Int) < 0 := c1
    exfalso; omega
  · have c1 : (10 : Int) ≥ 0 := c1
    refine yG.load xik rfl (fun _ _ => rfl) (v := yI (10)) rfl rfl ?_
    refine yG.getS (c := 9) rfl rfl ?_
    refine yG.load xik rfl (fun _ _ => rfl) (v := yI (3)) rfl rfl ?_
    refine yG.ialdF A_hp.1 (v_S_Net_SETTABLE W (s_S_Net_SETTABLE W)) rfl rfl (by omega) (by omega) (fun z2 e_z2 i_z2 l_z2 u_z2 => ?_)
    obtain rfl : z2 = 10 := by omega
    refine yG.icmp rfl (t := 43) rfl ⟨by omega, by omega⟩ ⟨by omega, by omega⟩ (fun c3 => ?_) (fun c3 => ?_)
    · have c3 : (10 : Int) ≥ 10 := c3
      refine yG.num (c := 0) rfl (fun _ _ => rfl) (by decide) ?_
      refine yG.ret rfl (fun _ _ => rfl) ?_
      exact (yP.bool (by omega) ⟨⟨0, rfl, by omega, by omega, trivial⟩, rfl⟩)
    · have c3 : (10 : Int) < 10 := c3
      exfalso; omega
theorem c_Net_allows_3_l {hp : xH} (W : bW G) (d : Nat) (hT : zTy G hp) {k0 : Nat} (H_k0 : bRo G 18 k0) (p2 p3 p4 : Int) (h2l : 0 ≤ p2) (h2u : p2 ≤ 5) (h3l : (-2147483648) ≤ p3) (h3u : p3 ≤ (-1)) (h4l : (-2147483648) ≤ p4) (h4u : p4 ≤ 2147483647) : yC (xcall 89 xfts xpools xms (d + 1)) 150 [yR k0, yI (3), yI (p2), yI (p3), yI (p4)] hp (bQpi hp 0 0 (fun _ => True)) := by
  have A_hp : bAx G [] hp hp := bAx.rf hT
  refine yC.of (M := (xt_X5_allows, (5, (4, (6, []))))) rfl rfl (N := 18) (yfuel (by decide)) ?_
  show yG 89 xfts (xcall 89 xfts xpools xms d) (xpool xp_RX5) [] xt_X5_allows (yP 4 (bQpi hp 0 0 (fun _ => True))) 18 0 [(0, yR k0), (1, yI (3)), (2, yI (p2)), (3, yI (p3)), (4, yI (p4))] [] hp
  refine yG.load xik rfl (fun _ _ => rfl) (v := yI (p3)) rfl rfl ?_
  refine yG.ifz rfl (t := 43) rfl ⟨by omega, by omega⟩ (fun c1 => ?_) (fun c1 => ?_)
  · have c1 : (p3 : Int) < 0 := c1
    refine yG.num (c := 0) rfl (fun _ _ => rfl) (by decide) ?_
    refine yG.ret rfl (fun _ _ => rfl) ?_
    exact (yP.bool (by omega) ⟨⟨0, rfl, by omega, by omega, trivial⟩, rfl⟩)
  · have c1 : (p3 : Int) ≥ 0 := c1
    exfalso; omega
theorem c_Net_allows_3_h {hp : xH} (W : bW G) (d : Nat) (hT : zTy G hp) {k0 : Nat} (H_k0 : bRo G 18 k0) (p2 p3 p4 : Int) (h2l : 0 ≤ p2) (h2u : p2 ≤ 5) (h3l : 11 ≤ p3) (h3u : p3 ≤ 2147483647) (h4l : (-2147483648) ≤ p4) (h4u : p4 ≤ 2147483647) : yC (xcall 89 xfts xpools xms (d + 1)) 150 [yR k0, yI (3), yI (p2), yI (p3), yI (p4)] hp (bQpi hp 0 0 (fun _ => True)) := by
  have A_hp : bAx G [] hp hp := bAx.rf hT
  refine yC.of (M := (xt_X5_allows, (5, (4, (6, []))))) rfl rfl (N := 33) (yfuel (by decide)) ?_
  show yG 89 xfts (xcall 89 xfts xpools xms d) (xpool xp_RX5) [] xt_X5_allows (yP 4 (bQpi hp 0 0 (fun _ => True))) 33 0 [(0, yR k0), (1, yI (3)), (2, yI (p2)), (3, yI (p3)), (4, yI (p4))] [] hp
  refine yG.load xik rfl (fun _ _ => rfl) (v := yI (p3)) rfl rfl ?_
  refine yG.ifz rfl (t := 43) rfl ⟨by omega, by omega⟩ (fun c1 => ?_) (fun c1 => ?_)
  · have c1 : (p3 : Int) < 0 := c1
    exfalso; omega
  · have c1 : (p3 : Int) ≥ 0 := c1
    refine yG.load xik rfl (fun _ _ => rfl) (v := yI (p3)) rfl rfl ?_
    refine yG.getS (c := 9) rfl rfl ?_
    refine yG.load xik rfl (fun _ _ => rfl) (v := yI (3)) rfl rfl ?_
    refine yG.ialdF A_hp.1 (v_S_Net_SETTABLE W (s_S_Net_SETTABLE W)) rfl rfl (by omega) (by omega) (fun z2 e_z2 i_z2 l_z2 u_z2 => ?_)
    obtain rfl : z2 = 10 := by omega
    refine yG.icmp rfl (t := 43) rfl ⟨by omega, by omega⟩ ⟨by omega, by omega⟩ (fun c3 => ?_) (fun c3 => ?_)
    · have c3 : (p3 : Int) ≥ 10 := c3
      refine yG.num (c := 0) rfl (fun _ _ => rfl) (by decide) ?_
      refine yG.ret rfl (fun _ _ => rfl) ?_
      exact (yP.bool (by omega) ⟨⟨0, rfl, by omega, by omega, trivial⟩, rfl⟩)
    · have c3 : (p3 : Int) < 10 := c3
      exfalso; omega
theorem c_Net_allows_4_0 {hp : xH} (W : bW G) (d : Nat) (hT : zTy G hp) {k0 : Nat} (H_k0 : bRo G 18 k0) (p2 p4 : Int) (h2l : 0 ≤ p2) (h2u : p2 ≤ 11) (h4l : (-2147483648) ≤ p4) (h4u : p4 ≤ 2147483647) : yC (xcall 89 xfts xpools xms (d + 2)) 150 [yR k0, yI (4), yI (p2), yI (0), yI (p4)] hp (bQpi hp 0 1 (fun z => (z = 1 → 0 ≤ p4 ∧ 0 ≤ 0 - p4 + 9999))) := by
  have A_hp : bAx G [] hp hp := bAx.rf hT
  refine yC.of (M := (xt_X5_allows, (5, (4, (6, []))))) rfl rfl (N := 60) (yfuel (by decide)) ?_
  show yG 89 xfts (xcall 89 xfts xpools xms (d + 1)) (xpool xp_RX5) [] xt_X5_allows (yP 4 (bQpi hp 0 1 (fun z => (z = 1 → 0 ≤ p4 ∧ 0 ≤ 0 - p4 + 9999)))) 60 0 [(0, yR k0), (1, yI (4)), (2, yI (p2)), (3, yI (0)), (4, yI (p4))] [] hp
  refine yG.load xik rfl (fun _ _ => rfl) (v := yI (0)) rfl rfl ?_
  refine yG.ifz rfl (t := 43) rfl ⟨by omega, by omega⟩ (fun c1 => ?_) (fun c1 => ?_)
  · have c1 : (0 : Int) < 0 := c1
    exfalso; omega
  · have c1 : (0 : Int) ≥ 0 := c1
    refine yG.load xik rfl (fun _ _ => rfl) (v := yI (0)) rfl rfl ?_
    refine yG.getS (c := 9) rfl rfl ?_
    refine yG.load xik rfl (fun _ _ => rfl) (v := yI (4)) rfl rfl ?_
    refine yG.ialdF A_hp.1 (v_S_Net_SETTABLE W (s_S_Net_SETTABLE W)) rfl rfl (by omega) (by omega) (fun z2 e_z2 i_z2 l_z2 u_z2 => ?_)
    obtain rfl : z2 = 1 := by omega
    refine yG.icmp rfl (t := 43) rfl ⟨by omega, by omega⟩ ⟨by omega, by omega⟩ (fun c3 => ?_) (fun c3 => ?_)
    · have c3 : (0 : Int) ≥ 1 := c3
      exfalso; omega
    · have c3 : (0 : Int) < 1 := c3
      refine yG.load xik rfl (fun _ _ => rfl) (v := yI (4)) rfl rfl ?_
      refine yG.load xik rfl (fun _ _ => rfl) (v := yI (0)) rfl rfl ?_
      refine yG.load xik rfl (fun _ _ => rfl) (v := yI (p4)) rfl rfl ?_
      refine yG.invS (rest := []) rfl rfl rfl rfl (c_Net_isWithin_4_0 W d A_hp.1 (p4) (by omega) (by omega)) (fun rv hp9 q9 => ?_)
      obtain ⟨⟨z4, rfl, l_z4, u_z4, R_z4⟩, e9⟩ := q9
      rw [e9]
      show yG _ _ _ _ _ _ _ _ _ _ (yI z4 :: []) _
      refine yG.ifz rfl (t := 43) rfl ⟨by omega, by omega⟩ (fun c5 => ?_) (fun c5 => ?_)
      · have c5 : (z4 : Int) = 0 := c5
        refine yG.num (c := 0) rfl (fun _ _ => rfl) (by decide) ?_
        refine yG.ret rfl (fun _ _ => rfl) ?_
        exact (yP.bool (by omega) ⟨⟨0, rfl, by omega, by omega, by omega⟩, rfl⟩)
      · have c5 : (z4 : Int) ≠ 0 := c5
        refine yG.load xik rfl (fun _ _ => rfl) (v := yI (4)) rfl rfl ?_
        refine yG.num (c := 3) rfl (fun _ _ => rfl) (by decide) ?_
        refine yG.icmp rfl (t := 39) rfl ⟨by omega, by omega⟩ ⟨by omega, by omega⟩ (fun c6 => ?_) (fun c6 => ?_)
        · have c6 : (4 : Int) ≠ 3 := c6
          refine yG.num (c := 1) rfl (fun _ _ => rfl) (by decide) ?_
          refine yG.goto rfl (t := 44) rfl ?_
          refine yG.ret rfl (fun _ _ => rfl) ?_
          exact (yP.bool (by omega) ⟨⟨1, rfl, by omega, by omega, by omega⟩, rfl⟩)
        · have c6 : (4 : Int) = 3 := c6
          exfalso; omega
theorem c_Net_allows_4_1 {hp : xH} (W : bW G) (d : Nat) (hT : zTy G hp) {k0 : Nat} (H_k0 : bRo G 18 k0) (p2 p4 : Int) (h2l : 0 ≤ p2) (h2u : p2 ≤ 11) (h4l : (-2147483648) ≤ p4) (h4u : p4 ≤ 2147483647) : yC (xcall 89 xfts xpools xms (d + 1)) 150 [yR k0, yI (4), yI (p2), yI (1), yI (p4)] hp (bQpi hp 0 0 (fun _ => True)) := by
  have A_hp : bAx G [] hp hp := bAx.rf hT
  refine yC.of (M := (xt_X5_allows, (5, (4, (6, []))))) rfl rfl (N := 33) (yfuel (by decide)) ?_
  show yG 89 xfts (xcall 89 xfts xpools xms d) (xpool xp_RX5) [] xt_X5_allows (yP 4 (bQpi hp 0 0 (fun _ => True))) 33 0 [(0, yR k0), (1, yI (4)), (2, yI (p2)), (3, yI (1)), (4, yI (p4))] [] hp
  refine yG.load xik rfl (fun _ _ => rfl) (v := yI (1)) rfl rfl ?_
  refine yG.ifz rfl (t := 43) rfl ⟨by omega, by omega⟩ (fun c1 => ?_) (fun c1 => ?_)
  · have c1 : (1 : Int) < 0 := c1
    exfalso; omega
  · have c1 : (1 : Int) ≥ 0 := c1
    refine yG.load xik rfl (fun _ _ => rfl) (v := yI (1)) rfl rfl ?_
    refine yG.getS (c := 9) rfl rfl ?_
    refine yG.load xik rfl (fun _ _ => rfl) (v := yI (4)) rfl rfl ?_
    refine yG.ialdF A_hp.1 (v_S_Net_SETTABLE W (s_S_Net_SETTABLE W)) rfl rfl (by omega) (by omega) (fun z2 e_z2 i_z2 l_z2 u_z2 => ?_)
    obtain rfl : z2 = 1 := by omega
    refine yG.icmp rfl (t := 43) rfl ⟨by omega, by omega⟩ ⟨by omega, by omega⟩ (fun c3 => ?_) (fun c3 => ?_)
    · have c3 : (1 : Int) ≥ 1 := c3
      refine yG.num (c := 0) rfl (fun _ _ => rfl) (by decide) ?_
      refine yG.ret rfl (fun _ _ => rfl) ?_
      exact (yP.bool (by omega) ⟨⟨0, rfl, by omega, by omega, trivial⟩, rfl⟩)
    · have c3 : (1 : Int) < 1 := c3
      exfalso; omega
theorem c_Net_allows_4_2 {hp : xH} (W : bW G) (d : Nat) (hT : zTy G hp) {k0 : Nat} (H_k0 : bRo G 18 k0) (p2 p4 : Int) (h2l : 0 ≤ p2) (h2u : p2 ≤ 11) (h4l : (-2147483648) ≤ p4) (h4u : p4 ≤ 2147483647) : yC (xcall 89 xfts xpools xms (d + 1)) 150 [yR k0, yI (4), yI (p2), yI (2), yI (p4)] hp (bQpi hp 0 0 (fun _ => True)) := by
  have A_hp : bAx G [] hp hp := bAx.rf hT
  refine yC.of (M := (xt_X5_allows, (5, (4, (6, []))))) rfl rfl (N := 33) (yfuel (by decide)) ?_
  show yG 89 xfts (xcall 89 xfts xpools xms d) (xpool xp_RX5) [] xt_X5_allows (yP 4 (bQpi hp 0 0 (fun _ => True))) 33 0 [(0, yR k0), (1, yI (4)), (2, yI (p2)), (3, yI (2)), (4, yI (p4))] [] hp
  refine yG.load xik rfl (fun _ _ => rfl) (v := yI (2)) rfl rfl ?_
  refine yG.ifz rfl (t := 43) rfl ⟨by omega, by omega⟩ (fun c1 => ?_) (fun c1 => ?_)
  · have c1 : (2 : Int) < 0 := c1
    exfalso; omega
  · have c1 : (2 : Int) ≥ 0 := c1
    refine yG.load xik rfl (fun _ _ => rfl) (v := yI (2)) rfl rfl ?_
    refine yG.getS (c := 9) rfl rfl ?_
    refine yG.load xik rfl (fun _ _ => rfl) (v := yI (4)) rfl rfl ?_
    refine yG.ialdF A_hp.1 (v_S_Net_SETTABLE W (s_S_Net_SETTABLE W)) rfl rfl (by omega) (by omega) (fun z2 e_z2 i_z2 l_z2 u_z2 => ?_)
    obtain rfl : z2 = 1 := by omega
    refine yG.icmp rfl (t := 43) rfl ⟨by omega, by omega⟩ ⟨by omega, by omega⟩ (fun c3 => ?_) (fun c3 => ?_)
    · have c3 : (2 : Int) ≥ 1 := c3
      refine yG.num (c := 0) rfl (fun _ _ => rfl) (by decide) ?_
      refine yG.ret rfl (fun _ _ => rfl) ?_
      exact (yP.bool (by omega) ⟨⟨0, rfl, by omega, by omega, trivial⟩, rfl⟩)
    · have c3 : (2 : Int) < 1 := c3
      exfalso; omega
theorem c_Net_allows_4_3 {hp : xH} (W : bW G) (d : Nat) (hT : zTy G hp) {k0 : Nat} (H_k0 : bRo G 18 k0) (p2 p4 : Int) (h2l : 0 ≤ p2) (h2u : p2 ≤ 11) (h4l : (-2147483648) ≤ p4) (h4u : p4 ≤ 2147483647) : yC (xcall 89 xfts xpools xms (d + 1)) 150 [yR k0, yI (4), yI (p2), yI (3), yI (p4)] hp (bQpi hp 0 0 (fun _ => True)) := by
  have A_hp : bAx G [] hp hp := bAx.rf hT
  refine yC.of (M := (xt_X5_allows, (5, (4, (6, []))))) rfl rfl (N := 33) (yfuel (by decide)) ?_
  show yG 89 xfts (xcall 89 xfts xpools xms d) (xpool xp_RX5) [] xt_X5_allows (yP 4 (bQpi hp 0 0 (fun _ => True))) 33 0 [(0, yR k0), (1, yI (4)), (2, yI (p2)), (3, yI (3)), (4, yI (p4))] [] hp
  refine yG.load xik rfl (fun _ _ => rfl) (v := yI (3)) rfl rfl ?_
  refine yG.ifz rfl (t := 43) rfl ⟨by omega, by omega⟩ (fun c1 => ?_) (fun c1 => ?_)
  · have c1 : (3 : Int) < 0 := c1
    exfalso; omega
  · have c1 : (3 : Int) ≥ 0 := c1
    refine yG.load xik rfl (fun _ _ => rfl) (v := yI (3)) rfl rfl ?_
    refine yG.getS (c := 9) rfl rfl ?_
    refine yG.load xik rfl (fun _ _ => rfl) (v := yI (4)) rfl rfl ?_
    refine yG.ialdF A_hp.1 (v_S_Net_SETTABLE W (s_S_Net_SETTABLE W)) rfl rfl (by omega) (by omega) (fun z2 e_z2 i_z2 l_z2 u_z2 => ?_)
    obtain rfl : z2 = 1 := by omega
    refine yG.icmp rfl (t := 43) rfl ⟨by omega, by omega⟩ ⟨by omega, by omega⟩ (fun c3 => ?_) (fun c3 => ?_)
    · have c3 : (3 : Int) ≥ 1 := c3
      refine yG.num (c := 0) rfl (fun _ _ => rfl) (by decide) ?_
      refine yG.ret rfl (fun _ _ => rfl) ?_
      exact (yP.bool (by omega) ⟨⟨0, rfl, by omega, by omega, trivial⟩, rfl⟩)
    · have c3 : (3 : Int) < 1 := c3
      exfalso; omega
theorem c_Net_allows_4_4 {hp : xH} (W : bW G) (d : Nat) (hT : zTy G hp) {k0 : Nat} (H_k0 : bRo G 18 k0) (p2 p4 : Int) (h2l : 0 ≤ p2) (h2u : p2 ≤ 11) (h4l : (-2147483648) ≤ p4) (h4u : p4 ≤ 2147483647) : yC (xcall 89 xfts xpools xms (d + 1)) 150 [yR k0, yI (4), yI (p2), yI (4), yI (p4)] hp (bQpi hp 0 0 (fun _ => True)) := by
  have A_hp : bAx G [] hp hp := bAx.rf hT
  refine yC.of (M := (xt_X5_allows, (5, (4, (6, []))))) rfl rfl (N := 33) (yfuel (by decide)) ?_
  show yG 89 xfts (xcall 89 xfts xpools xms d) (xpool xp_RX5) [] xt_X5_allows (yP 4 (bQpi hp 0 0 (fun _ => True))) 33 0 [(0, yR k0), (1, yI (4)), (2, yI (p2)), (3, yI (4)), (4, yI (p4))] [] hp
  refine yG.load xik rfl (fun _ _ => rfl) (v := yI (4)) rfl rfl ?_
  refine yG.ifz rfl (t := 43) rfl ⟨by omega, by omega⟩ (fun c1 => ?_) (fun c1 => ?_)
  · have c1 : (4 : Int) < 0 := c1
    exfalso; omega
  · have c1 : (4 : Int) ≥ 0 := c1
    refine yG.load xik rfl (fun _ _ => rfl) (v := yI (4)) rfl rfl ?_
    refine yG.getS (c := 9) rfl rfl ?_
    refine yG.load xik rfl (fun _ _ => rfl) (v := yI (4)) rfl rfl ?_
    refine yG.ialdF A_hp.1 (v_S_Net_SETTABLE W (s_S_Net_SETTABLE W)) rfl rfl (by omega) (by omega) (fun z2 e_z2 i_z2 l_z2 u_z2 => ?_)
    obtain rfl : z2 = 1 := by omega
    refine yG.icmp rfl (t := 43) rfl ⟨by omega, by omega⟩ ⟨by omega, by omega⟩ (fun c3 => ?_) (fun c3 => ?_)
    · have c3 : (4 : Int) ≥ 1 := c3
      refine yG.num (c := 0) rfl (fun _ _ => rfl) (by decide) ?_
      refine yG.ret rfl (fun _ _ => rfl) ?_
      exact (yP.bool (by omega) ⟨⟨0, rfl, by omega, by omega, trivial⟩, rfl⟩)
    · have c3 : (4 : Int) < 1 := c3
      exfalso; omega
theorem c_Net_allows_4_5 {hp : xH} (W : bW G) (d : Nat) (hT : zTy G hp) {k0 : Nat} (H_k0 : bRo G 18 k0) (p2 p4 : Int) (h2l : 0 ≤ p2) (h2u : p2 ≤ 11) (h4l : (-2147483648) ≤ p4) (h4u : p4 ≤ 2147483647) : yC (xcall 89 xfts xpools xms (d + 1)) 150 [yR k0, yI (4), yI (p2), yI (5), yI (p4)] hp (bQpi hp 0 0 (fun _ => True)) := by
  have A_hp : bAx G [] hp hp := bAx.rf hT
  refine yC.of (M := (xt_X5_allows, (5, (4, (6, []))))) rfl rfl (N := 33) (yfuel (by decide)) ?_
  show yG 89 xfts (xcall 89 xfts xpools xms d) (xpool xp_RX5) [] xt_X5_allows (yP 4 (bQpi hp 0 0 (fun _ => True))) 33 0 [(0, yR k0), (1, yI (4)), (2, yI (p2)), (3, yI (5)), (4, yI (p4))] [] hp
  refine yG.load xik rfl (fun _ _ => rfl) (v := yI (5)) rfl rfl ?_
  refine yG.ifz rfl (t := 43) rfl ⟨by omega, by omega⟩ (fun c1 => ?_) (fun c1 => ?_)
  · have c1 : (5 : Int) < 0 := c1
    exfalso; omega
  · have c1 : (5 : Int) ≥ 0 := c1
    refine yG.load xik rfl (fun _ _ => rfl) (v := yI (5)) rfl rfl ?_
    refine yG.getS (c := 9) rfl rfl ?_
    refine yG.load xik rfl (fun _ _ => rfl) (v := yI (4)) rfl rfl ?_
    refine yG.ialdF A_hp.1 (v_S_Net_SETTABLE W (s_S_Net_SETTABLE W)) rfl rfl (by omega) (by omega) (fun z2 e_z2 i_z2 l_z2 u_z2 => ?_)
    obtain rfl : z2 = 1 := by omega
    refine yG.icmp rfl (t := 43) rfl ⟨by omega, by omega⟩ ⟨by omega, by omega⟩ (fun c3 => ?_) (fun c3 => ?_)
    · have c3 : (5 : Int) ≥ 1 := c3
      refine yG.num (c := 0) rfl (fun _ _ => rfl) (by decide) ?_
      refine yG.ret rfl (fun _ _ => rfl) ?_
      exact (yP.bool (by omega) ⟨⟨0, rfl, by omega, by omega, trivial⟩, rfl⟩)
    · have c3 : (5 : Int) < 1 := c3
      exfalso; omega
theorem c_Net_allows_4_6 {hp : xH} (W : bW G) (d : Nat) (hT : zTy G hp) {k0 : Nat} (H_k0 : bRo G 18 k0) (p2 p4 : Int) (h2l : 0 ≤ p2) (h2u : p2 ≤ 11) (h4l : (-2147483648) ≤ p4) (h4u : p4 ≤ 2147483647) : yC (xcall 89 xfts xpools xms (d + 1)) 150 [yR k0, yI (4), yI (p2), yI (6), yI (p4)] hp (bQpi hp 0 0 (fun _ => True)) := by
  have A_hp : bAx G [] hp hp := bAx.rf hT
  refine yC.of (M := (xt_X5_allows, (5, (4, (6, []))))) rfl rfl (N := 33) (yfuel (by decide)) ?_
  show yG 89 xfts (xcall 89 xfts xpools xms d) (xpool xp_RX5) [] xt_X5_allows (yP 4 (bQpi hp 0 0 (fun _ => True))) 33 0 [(0, yR k0), (1, yI (4)), (2, yI (p2)), (3, yI (6)), (4, yI (p4))] [] hp
  refine yG.load xik rfl (fun _ _ => rfl) (v := yI (6)) rfl rfl ?_
  refine yG.ifz rfl (t := 43) rfl ⟨by omega, by omega⟩ (fun c1 => ?_) (fun c1 => ?_)
  · have c1 : (6 : Int) < 0 := c1
    exfalso; omega
  · have c1 : (6 : Int) ≥ 0 := c1
    refine yG.load xik rfl (fun _ _ => rfl) (v := yI (6)) rfl rfl ?_
    refine yG.getS (c := 9) rfl rfl ?_
    refine yG.load xik rfl (fun _ _ => rfl) (v := yI (4)) rfl rfl ?_
    refine yG.ialdF A_hp.1 (v_S_Net_SETTABLE W (s_S_Net_SETTABLE W)) rfl rfl (by omega) (by omega) (fun z2 e_z2 i_z2 l_z2 u_z2 => ?_)
    obtain rfl : z2 = 1 := by omega
    refine yG.icmp rfl (t := 43) rfl ⟨by omega, by omega⟩ ⟨by omega, by omega⟩ (fun c3 => ?_) (fun c3 => ?_)
    · have c3 : (6 : Int) ≥ 1 := c3
      refine yG.num (c := 0) rfl (fun _ _ => rfl) (by decide) ?_
      refine yG.ret rfl (fun _ _ => rfl) ?_
      exact (yP.bool (by omega) ⟨⟨0, rfl, by omega, by omega, trivial⟩, rfl⟩)
    · have c3 : (6 : Int) < 1 := c3
      exfalso; omega
theorem c_Net_allows_4_7 {hp : xH} (W : bW G) (d : Nat) (hT : zTy G hp) {k0 : Nat} (H_k0 : bRo G 18 k0) (p2 p4 : Int) (h2l : 0 ≤ p2) (h2u : p2 ≤ 11) (h4l : (-2147483648) ≤ p4) (h4u : p4 ≤ 2147483647) : yC (xcall 89 xfts xpools xms (d + 1)) 150 [yR k0, yI (4), yI (p2), yI (7), yI (p4)] hp (bQpi hp 0 0 (fun _ => True)) := by
  have A_hp : bAx G [] hp hp := bAx.rf hT
  refine yC.of (M := (xt_X5_allows, (5, (4, (6, []))))) rfl rfl (N := 33) (yfuel (by decide)) ?_
  show yG 89 xfts (xcall 89 xfts xpools xms d) (xpool xp_RX5) [] xt_X5_allows (yP 4 (bQpi hp 0 0 (fun _ => True))) 33 0 [(0, yR k0), (1, yI (4)), (2, yI (p2)), (3, yI (7)), (4, yI (p4))] [] hp
  refine yG.load xik rfl (fun _ _ => rfl) (v := yI (7)) rfl rfl ?_
  refine yG.ifz rfl (t := 43) rfl ⟨by omega, by omega⟩ (fun c1 => ?_) (fun c1 => ?_)
  · have c1 : (7 : Int) < 0 := c1
    exfalso; omega
  · have c1 : (7 : Int) ≥ 0 := c1
    refine yG.load xik rfl (fun _ _ => rfl) (v := yI (7)) rfl rfl ?_
    refine yG.getS (c := 9) rfl rfl ?_
    refine yG.load xik rfl (fun _ _ => rfl) (v := yI (4)) rfl rfl ?_
    refine yG.ialdF A_hp.1 (v_S_Net_SETTABLE W (s_S_Net_SETTABLE W)) rfl rfl (by omega) (by omega) (fun z2 e_z2 i_z2 l_z2 u_z2 => ?_)
    obtain rfl : z2 = 1 := by omega
    refine yG.icmp rfl (t := 43) rfl ⟨by omega, by omega⟩ ⟨by omega, by omega⟩ (fun c3 => ?_) (fun c3 => ?_)
    · have c3 : (7 : Int) ≥ 1 := c3
      refine yG.num (c := 0) rfl (fun _ _ => rfl) (by decide) ?_
      refine yG.ret rfl (fun _ _ => rfl) ?_
      exact (yP.bool (by omega) ⟨⟨0, rfl, by omega, by omega, trivial⟩, rfl⟩)
    · have c3 : (7 : Int) < 1 := c3
      exfalso; omega
theorem c_Net_allows_4_8 {hp : xH} (W : bW G) (d : Nat) (hT : zTy G hp) {k0 : Nat} (H_k0 : bRo G 18 k0) (p2 p4 : Int) (h2l : 0 ≤ p2) (h2u : p2 ≤ 11) (h4l : (-2147483648) ≤ p4) (h4u : p4 ≤ 2147483647) : yC (xcall 89 xfts xpools xms (d + 1)) 150 [yR k0, yI (4), yI (p2), yI (8), yI (p4)] hp (bQpi hp 0 0 (fun _ => True)) := by
  have A_hp : bAx G [] hp hp := bAx.rf hT
  refine yC.of (M := (xt_X5_allows, (5, (4, (6, []))))) rfl rfl (N := 33) (yfuel (by decide)) ?_
  show yG 89 xfts (xcall 89 xfts xpools xms d) (xpool xp_RX5) [] xt_X5_allows (yP 4 (bQpi hp 0 0 (fun _ => True))) 33 0 [(0, yR k0), (1, yI (4)), (2, yI (p2)), (3, yI (8)), (4, yI (p4))] [] hp
  refine yG.load xik rfl (fun _ _ => rfl) (v := yI (8)) rfl rfl ?_
  refine yG.ifz rfl (t := 43) rfl ⟨by omega, by omega⟩ (fun c1 => ?_) (fun c1 => ?_)
  · have c1 : (8 : Int) < 0 := c1
    exfalso; omega
  · have c1 : (8 : Int) ≥ 0 := c1
    refine yG.load xik rfl (fun _ _ => rfl) (v := yI (8)) rfl rfl ?_
    refine yG.getS (c := 9) rfl rfl ?_
    refine yG.load xik rfl (fun _ _ => rfl) (v := yI (4)) rfl rfl ?_
    refine yG.ialdF A_hp.1 (v_S_Net_SETTABLE W (s_S_Net_SETTABLE W)) rfl rfl (by omega) (by omega) (fun z2 e_z2 i_z2 l_z2 u_z2 => ?_)
    obtain rfl : z2 = 1 := by omega
    refine yG.icmp rfl (t := 43) rfl ⟨by omega, by omega⟩ ⟨by omega, by omega⟩ (fun c3 => ?_) (fun c3 => ?_)
    · have c3 : (8 : Int) ≥ 1 := c3
      refine yG.num (c := 0) rfl (fun _ _ => rfl) (by decide) ?_
      refine yG.ret rfl (fun _ _ => rfl) ?_
      exact (yP.bool (by omega) ⟨⟨0, rfl, by omega, by omega, trivial⟩, rfl⟩)
    · have c3 : (8 : Int) < 1 := c3
      exfalso; omega
theorem c_Net_allows_4_9 {hp : xH} (W : bW G) (d : Nat) (hT : zTy G hp) {k0 : Nat} (H_k0 : bRo G 18 k0) (p2 p4 : Int) (h2l : 0 ≤ p2) (h2u : p2 ≤ 11) (h4l : (-2147483648) ≤ p4) (h4u : p4 ≤ 2147483647) : yC (xcall 89 xfts xpools xms (d + 1)) 150 [yR k0, yI (4), yI (p2), yI (9), yI (p4)] hp (bQpi hp 0 0 (fun _ => True)) := by
  have A_hp : bAx G [] hp hp := bAx.rf hT
  refine yC.of (M := (xt_X5_allows, (5, (4, (6, []))))) rfl rfl (N := 33) (yfuel (by decide)) ?_
  show yG 89 xfts (xcall 89 xfts xpools xms d) (xpool xp_RX5) [] xt_X5_allows (yP 4 (bQpi hp 0 0 (fun _ => True))) 33 0 [(0, yR k0), (1, yI (4)), (2, yI (p2)), (3, yI (9)), (4, yI (p4))] [] hp
  refine yG.load xik rfl (fun _ _ => rfl) (v := yI (9)) rfl rfl ?_
  refine yG.ifz rfl (t := 43) rfl ⟨by omega, by omega⟩ (fun c1 => ?_) (fun c1 => ?_)
  · have c1 : (9 : Int) < 0 := c1
    exfalso; omega
  · have c1 : (9 : Int) ≥ 0 := c1
    refine yG.load xik rfl (fun _ _ => rfl) (v := yI (9)) rfl rfl ?_
    refine yG.getS (c := 9) rfl rfl ?_
    refine yG.load xik rfl (fun _ _ => rfl) (v := yI (4)) rfl rfl ?_
    refine yG.ialdF A_hp.1 (v_S_Net_SETTABLE W (s_S_Net_SETTABLE W)) rfl rfl (by omega) (by omega) (fun z2 e_z2 i_z2 l_z2 u_z2 => ?_)
    obtain rfl : z2 = 1 := by omega
    refine yG.icmp rfl (t := 43) rfl ⟨by omega, by omega⟩ ⟨by omega, by omega⟩ (fun c3 => ?_) (fun c3 => ?_)
    · have c3 : (9 : Int) ≥ 1 := c3
      refine yG.num (c := 0) rfl (fun _ _ => rfl) (by decide) ?_
      refine yG.ret rfl (fun _ _ => rfl) ?_
      exact (yP.bool (by omega) ⟨⟨0, rfl, by omega, by omega, trivial⟩, rfl⟩)
    · have c3 : (9 : Int) < 1 := c3
      exfalso; omega
theorem c_Net_allows_4_10 {hp : xH} (W : bW G) (d : Nat) (hT : zTy G hp) {k0 : Nat} (H_k0 : bRo G 18 k0) (p2 p4 : Int) (h2l : 0 ≤ p2) (h2u : p2 ≤ 11) (h4l : (-2147483648) ≤ p4) (h4u : p4 ≤ 2147483647) : yC (xcall 89 xfts xpools xms (d + 1)) 150 [yR k0, yI (4), yI (p2), yI (10), yI (p4)] hp (bQpi hp 0 0 (fun _ => True)) := by
  have A_hp : bAx G [] hp hp := bAx.rf hT
  refine yC.of (M := (xt_X5_allows, (5, (4, (6, []))))) rfl rfl (N := 33) (yfuel (by decide)) ?_
  show yG 89 xfts (xcall 89 xfts xpools xms d) (xpool xp_RX5) [] xt_X5_allows (yP 4 (bQpi hp 0 0 (fun _ => True))) 33 0 [(0, yR k0), (1, yI (4)), (2, yI (p2)), (3, yI (10)), (4, yI (p4))] [] hp
  refine yG.load xik rfl (fun _ _ => rfl) (v := yI (10)) rfl rfl ?_
  refine yG.ifz rfl (t := 43) rfl ⟨by omega, by omega⟩ (fun c1 => ?_) (fun c1 => ?_)
  · have c1 : (10 : Int) < 0 := c1
    exfalso; omega
  · have c1 : (10 : Int) ≥ 0 := c1
    refine yG.load xik rfl (fun _ _ => rfl) (v := yI (10)) rfl rfl ?_
    refine yG.getS (c := 9) rfl rfl ?_
    refine yG.load xik rfl (fun _ _ => rfl) (v := yI (4)) rfl rfl ?_
    refine yG.ialdF A_hp.1 (v_S_Net_SETTABLE W (s_S_Net_SETTABLE W)) rfl rfl (by omega) (by omega) (fun z2 e_z2 i_z2 l_z2 u_z2 => ?_)
    obtain rfl : z2 = 1 := by omega
    refine yG.icmp rfl (t := 43) rfl ⟨by omega, by omega⟩ ⟨by omega, by omega⟩ (fun c3 => ?_) (fun c3 => ?_)
    · have c3 : (10 : Int) ≥ 1 := c3
      refine yG.num (c := 0) rfl (fun _ _ => rfl) (by decide) ?_
      refine yG.ret rfl (fun _ _ => rfl) ?_
      exact (yP.bool (by omega) ⟨⟨0, rfl, by omega, by omega, trivial⟩, rfl⟩)
    · have c3 : (10 : Int) < 1 := c3
      exfalso; omega
theorem c_Net_allows_4_l {hp : xH} (W : bW G) (d : Nat) (hT : zTy G hp) {k0 : Nat} (H_k0 : bRo G 18 k0) (p2 p3 p4 : Int) (h2l : 0 ≤ p2) (h2u : p2 ≤ 11) (h3l : (-2147483648) ≤ p3) (h3u : p3 ≤ (-1)) (h4l : (-2147483648) ≤ p4) (h4u : p4 ≤ 2147483647) : yC (xcall 89 xfts xpools xms (d + 1)) 150 [yR k0, yI (4), yI (p2), yI (p3), yI (p4)] hp (bQpi hp 0 0 (fun _ => True)) := by
  have A_hp : bAx G [] hp hp := bAx.rf hT
  refine yC.of (M := (xt_X5_allows, (5, (4, (6, []))))) rfl rfl (N := 18) (yfuel (by decide)) ?_
  show yG 89 xfts (xcall 89 xfts xpools xms d) (xpool xp_RX5) [] xt_X5_allows (yP 4 (bQpi hp 0 0 (fun _ => True))) 18 0 [(0, yR k0), (1, yI (4)), (2, yI (p2)), (3, yI (p3)), (4, yI (p4))] [] hp
  refine yG.load xik rfl (fun _ _ => rfl) (v := yI (p3)) rfl rfl ?_
  refine yG.ifz rfl (t := 43) rfl ⟨by omega, by omega⟩ (fun c1 => ?_) (fun c1 => ?_)
  · have c1 : (p3 : Int) < 0 := c1
    refine yG.num (c := 0) rfl (fun _ _ => rfl) (by decide) ?_
    refine yG.ret rfl (fun _ _ => rfl) ?_
    exact (yP.bool (by omega) ⟨⟨0, rfl, by omega, by omega, trivial⟩, rfl⟩)
  · have c1 : (p3 : Int) ≥ 0 := c1
    exfalso; omega
theorem c_Net_allows_4_h {hp : xH} (W : bW G) (d : Nat) (hT : zTy G hp) {k0 : Nat} (H_k0 : bRo G 18 k0) (p2 p3 p4 : Int) (h2l : 0 ≤ p2) (h2u : p2 ≤ 11) (h3l : 11 ≤ p3) (h3u : p3 ≤ 2147483647) (h4l : (-2147483648) ≤ p4) (h4u : p4 ≤ 2147483647) : yC (xcall 89 xfts xpools xms (d + 1)) 150 [yR k0, yI (4), yI (p2), yI (p3), yI (p4)] hp (bQpi hp 0 0 (fun _ => True)) := by
  have A_hp : bAx G [] hp hp := bAx.rf hT
  refine yC.of (M := (xt_X5_allows, (5, (4, (6, []))))) rfl rfl (N := 33) (yfuel (by decide)) ?_
  show yG 89 xfts (xcall 89 xfts xpools xms d) (xpool xp_RX5) [] xt_X5_allows (yP 4 (bQpi hp 0 0 (fun _ => True))) 33 0 [(0, yR k0), (1, yI (4)), (2, yI (p2)), (3, yI (p3)), (4, yI (p4))] [] hp
  refine yG.load xik rfl (fun _ _ => rfl) (v := yI (p3)) rfl rfl ?_
  refine yG.ifz rfl (t := 43) rfl ⟨by omega, by omega⟩ (fun c1 => ?_) (fun c1 => ?_)
  · have c1 : (p3 : Int) < 0 := c1
    exfalso; omega
  · have c1 : (p3 : Int) ≥ 0 := c1
    refine yG.load xik rfl (fun _ _ => rfl) (v := yI (p3)) rfl rfl ?_
    refine yG.getS (c := 9) rfl rfl ?_
    refine yG.load xik rfl (fun _ _ => rfl) (v := yI (4)) rfl rfl ?_
    refine yG.ialdF A_hp.1 (v_S_Net_SETTABLE W (s_S_Net_SETTABLE W)) rfl rfl (by omega) (by omega) (fun z2 e_z2 i_z2 l_z2 u_z2 => ?_)
    obtain rfl : z2 = 1 := by omega
    refine yG.icmp rfl (t := 43) rfl ⟨by omega, by omega⟩ ⟨by omega, by omega⟩ (fun c3 => ?_) (fun c3 => ?_)
    · have c3 : (p3 : Int) ≥ 1 := c3
      refine yG.num (c := 0) rfl (fun _ _ => rfl) (by decide) ?_
      refine yG.ret rfl (fun _ _ => rfl) ?_
      exact (yP.bool (by omega) ⟨⟨0, rfl, by omega, by omega, trivial⟩, rfl⟩)
    · have c3 : (p3 : Int) < 1 := c3
      exfalso; omega
theorem c_Net_hasShort {hp : xH} (W : bW G) (d : Nat) (hT : zTy G hp) {k0 : Nat} (H_k0 : bRo G 18 k0) : yC (xcall 89 xfts xpools xms (d + 1)) 156 [yR k0] hp (bQpi hp 0 1 (fun z => (z = 1 → 0 ≤ ys hp k0 3) ∧ (z = 0 → 0 ≤ 0 - ys hp k0 3 - 1))) := by
  have A_hp : bAx G [] hp hp := bAx.rf hT
  refine yC.of (M := (xt_X5_hasShort, (1, (4, (6, []))))) rfl rfl (N := 27) (yfuel (by decide)) ?_
  show yG 89 xfts (xcall 89 xfts xpools xms d) (xpool xp_RX5) [] xt_X5_hasShort (yP 4 (bQpi hp 0 1 (fun z => (z = 1 → 0 ≤ ys hp k0 3) ∧ (z = 0 → 0 ≤ 0 - ys hp k0 3 - 1)))) 27 0 [(0, yR k0)] [] hp
  obtain ⟨gg0, E_0⟩ : ∃ z : Int, ys hp k0 3 = z := ⟨_, rfl⟩
  obtain ⟨-, -, g_0l, g_0u⟩ := (w_Net_shortKind W H_k0).int hT
  refine yG.load xak rfl (fun _ _ => rfl) (v := yR k0) rfl rfl ?_
  refine yG.getI A_hp.1 (w_Net_shortKind W H_k0) rfl rfl (fun z1 e_z1 i_z1 l_z1 u_z1 => ?_)
  refine yG.num (c := -1) rfl (fun _ _ => rfl) (by decide) ?_
  refine yG.icmp rfl (t := 12) rfl ⟨by omega, by omega⟩ ⟨by omega, by omega⟩ (fun c2 => ?_) (fun c2 => ?_)
  · have c2 : (z1 : Int) = (-1) := c2
    refine yG.num (c := 0) rfl (fun _ _ => rfl) (by decide) ?_
    refine yG.ret rfl (fun _ _ => rfl) ?_
    exact (yP.bool (by omega) ⟨⟨0, rfl, by omega, by omega, by omega⟩, rfl⟩)
  · have c2 : (z1 : Int) ≠ (-1) := c2
    refine yG.num (c := 1) rfl (fun _ _ => rfl) (by decide) ?_
    refine yG.goto rfl (t := 13) rfl ?_
    refine yG.ret rfl (fun _ _ => rfl) ?_
    exact (yP.bool (by omega) ⟨⟨1, rfl, by omega, by omega, by omega⟩, rfl⟩)
theorem c_Net_putShort {hp : xH} (W : bW G) (d : Nat) (hT : zTy G hp) (M_bSh : bSh G hp) {k0 : Nat} (H_k0 : bRo G 18 k0) (p1 p2 p3 p4 p5 : Int) (h1l : (-1) ≤ p1) (h1u : p1 ≤ 3) (h2l : (-1) ≤ p2) (h2u : p2 ≤ 15) (h3l : (-1) ≤ p3) (h3u : p3 ≤ 19) (h4l : 0 ≤ p4) (h4u : p4 ≤ 15) (h5l : 0 ≤ p5) (h5u : p5 ≤ 99) (g90 : p1 = -1 ∨ 0 ≤ p2 ∨ 0 ≤ p3) : yC (xcall 89 xfts xpools xms (d + 1)) 163 [yR k0, yI (p1), yI (p2), yI (p3), yI (p4), yI (p5)] hp (fun rv hp' => (fun rv hp' => (rv = none ∧ True) ∧ bAx G [(262144, 3), (262144, 4), (262144, 5), (262144, 6), (262144, 7)] hp hp') rv hp' ∧ bSh G hp') := by
  have A_hp : bAx G [(262144, 3), (262144, 4), (262144, 5), (262144, 6), (262144, 7)] hp hp := bAx.rf hT
  have M_bSh_hp := M_bSh
  refine yC.of (M := (xt_X5_putShort, (6, (0, (6, []))))) rfl rfl (N := 54) (yfuel (by decide)) ?_
  show yG 89 xfts (xcall 89 xfts xpools xms d) (xpool xp_RX5) [] xt_X5_putShort (yP 0 (fun rv hp' => (fun rv hp' => (rv = none ∧ True) ∧ bAx G [(262144, 3), (262144, 4), (262144, 5), (262144, 6), (262144, 7)] hp hp') rv hp' ∧ bSh G hp')) 54 0 [(0, yR k0), (1, yI (p1)), (2, yI (p2)), (3, yI (p3)), (4, yI (p4)), (5, yI (p5))] [] hp
  refine yG.load xak rfl (fun _ _ => rfl) (v := yR k0) rfl rfl ?_
  refine yG.load xik rfl (fun _ _ => rfl) (v := yI (p1)) rfl rfl ?_
  refine yG.putI A_hp.1 (w_Net_shortKind W H_k0) (W.2.1 _ _ H_k0 (by decide) (by decide)) rfl rfl (.inl rfl) ⟨by omega, by omega⟩ (by omega) (by omega) (fun h1 T_h1 b_h1 f_h1 y_h1 => ?_)
  have A_h1 := A_hp.put T_h1 b_h1 f_h1 H_k0 (by decide)
  have : ys h1 k0 3 = p1 := (y_h1 k0 3).trans (if_pos ⟨rfl, rfl⟩)
  refine yG.load xak rfl (fun _ _ => rfl) (v := yR k0) rfl rfl ?_
  refine yG.load xik rfl (fun _ _ => rfl) (v := yI (p2)) rfl rfl ?_
  refine yG.putI A_h1.1 (w_Net_shortBar W H_k0) (W.2.1 _ _ H_k0 (by decide) (by decide)) rfl rfl (.inl rfl) ⟨by omega, by omega⟩ (by omega) (by omega) (fun h2 T_h2 b_h2 f_h2 y_h2 => ?_)
  have A_h2 := A_h1.put T_h2 b_h2 f_h2 H_k0 (by decide)
  have : ys h2 k0 3 = ys h1 k0 3 := (y_h2 k0 3).trans (if_neg (fun e => absurd e.2 (by decide)))
  have : ys h2 k0 4 = p2 := (y_h2 k0 4).trans (if_pos ⟨rfl, rfl⟩)
  refine yG.load xak rfl (fun _ _ => rfl) (v := yR k0) rfl rfl ?_
  refine yG.load xik rfl (fun _ _ => rfl) (v := yI (p3)) rfl rfl ?_
  refine yG.putI A_h2.1 (w_Net_shortLine W H_k0) (W.2.1 _ _ H_k0 (by decide) (by decide)) rfl rfl (.inl rfl) ⟨by omega, by omega⟩ (by omega) (by omega) (fun h3 T_h3 b_h3 f_h3 y_h3 => ?_)
  have A_h3 := A_h2.put T_h3 b_h3 f_h3 H_k0 (by decide)
  have : ys h3 k0 3 = ys h2 k0 3 := (y_h3 k0 3).trans (if_neg (fun e => absurd e.2 (by decide)))
  have : ys h3 k0 4 = ys h2 k0 4 := (y_h3 k0 4).trans (if_neg (fun e => absurd e.2 (by decide)))
  have : ys h3 k0 5 = p3 := (y_h3 k0 5).trans (if_pos ⟨rfl, rfl⟩)
  refine yG.load xak rfl (fun _ _ => rfl) (v := yR k0) rfl rfl ?_
  refine yG.load xik rfl (fun _ _ => rfl) (v := yI (p4)) rfl rfl ?_
  refine yG.putI A_h3.1 (w_Net_shortPart W H_k0) (W.2.1 _ _ H_k0 (by decide) (by decide)) rfl rfl (.inl rfl) ⟨by omega, by omega⟩ (by omega) (by omega) (fun h4 T_h4 b_h4 f_h4 y_h4 => ?_)
  have A_h4 := A_h3.put T_h4 b_h4 f_h4 H_k0 (by decide)
  have : ys h4 k0 3 = ys h3 k0 3 := (y_h4 k0 3).trans (if_neg (fun e => absurd e.2 (by decide)))
  have : ys h4 k0 4 = ys h3 k0 4 := (y_h4 k0 4).trans (if_neg (fun e => absurd e.2 (by decide)))
  have : ys h4 k0 5 = ys h3 k0 5 := (y_h4 k0 5).trans (if_neg (fun e => absurd e.2 (by decide)))
  refine yG.load xak rfl (fun _ _ => rfl) (v := yR k0) rfl rfl ?_
  refine yG.load xik rfl (fun _ _ => rfl) (v := yI (p5)) rfl rfl ?_
  refine yG.putI A_h4.1 (w_Net_shortZ W H_k0) (W.2.1 _ _ H_k0 (by decide) (by decide)) rfl rfl (.inl rfl) ⟨by omega, by omega⟩ (by omega) (by omega) (fun h5 T_h5 b_h5 f_h5 y_h5 => ?_)
  have A_h5 := A_h4.put T_h5 b_h5 f_h5 H_k0 (by decide)
  have : ys h5 k0 3 = ys h4 k0 3 := (y_h5 k0 3).trans (if_neg (fun e => absurd e.2 (by decide)))
  have : ys h5 k0 4 = ys h4 k0 4 := (y_h5 k0 4).trans (if_neg (fun e => absurd e.2 (by decide)))
  have : ys h5 k0 5 = ys h4 k0 5 := (y_h5 k0 5).trans (if_neg (fun e => absurd e.2 (by decide)))
  refine yG.ret rfl (fun _ _ => rfl) ?_
  have M_bSh_h5 : bSh G h5 := fun q Hq => by
    by_cases e : q = k0
    · subst e; omega
    · have e3 : ys h5 q 3 = ys hp q 3 := by rw [y_h5, if_neg (fun z => e z.1), y_h4, if_neg (fun z => e z.1), y_h3, if_neg (fun z => e z.1), y_h2, if_neg (fun z => e z.1), y_h1, if_neg (fun z => e z.1)]
      have e4 : ys h5 q 4 = ys hp q 4 := by rw [y_h5, if_neg (fun z => e z.1), y_h4, if_neg (fun z => e z.1), y_h3, if_neg (fun z => e z.1), y_h2, if_neg (fun z => e z.1), y_h1, if_neg (fun z => e z.1)]
      have e5 : ys h5 q 5 = ys hp q 5 := by rw [y_h5, if_neg (fun z => e z.1), y_h4, if_neg (fun z => e z.1), y_h3, if_neg (fun z => e z.1), y_h2, if_neg (fun z => e z.1), y_h1, if_neg (fun z => e z.1)]
      have := M_bSh_hp q Hq
      omega
  exact (yP.void ⟨⟨⟨rfl, trivial⟩, A_h5⟩, M_bSh_h5⟩)
theorem c_Net_copyValues {hp : xH} (W : bW G) (d : Nat) (hT : zTy G hp) {k0 : Nat} (H_k0 : bRo G 18 k0) {k1 : Nat} (H_k1 : bRo G 18 k1) : yC (xcall 89 xfts xpools xms (d + 1)) 154 [yR k0, yR k1] hp (fun rv hp' => (rv = none ∧ True) ∧ bAx G [(1430257664, 256)] hp hp') := by
  have A_hp : bAx G [(1430257664, 256)] hp hp := bAx.rf hT
  have H : ∀ m : Nat, (∀ a2 : Int, ∀ hq, bAx G [(1430257664, 256)] hp hq → 0 ≤ a2 → (-5) ≤ 0 - a2 → 0 - 2 * a2 + 11 < (m : Int) → yG 89 xfts (xcall 89 xfts xpools xms d) (xpool xp_RX5) [] xt_X5_copyValues (yP 0 (fun rv hp' => (rv = none ∧ True) ∧ bAx G [(1430257664, 256)] hp hp')) (23 * m) 2 [(0, yR k0), (1, yR k1), (2, yI (a2))] [] hq) := by
    intro m
    induction m with
    | zero =>
      intros; exfalso; omega
    | succ m ih =>
      have i_2 := ih
      clear ih
      intro a2 hq A_hq f0 f1 hm
      refine yG.mono (N := 23 * m + 23) ?_ (by omega)
      rcases (show a2 = 0 ∨ a2 = 1 ∨ a2 = 2 ∨ a2 = 3 ∨ a2 = 4 ∨ a2 = 5 by omega) with c1 | c1 | c1 | c1 | c1 | c1
      · subst c1
        refine yG.load xik rfl (fun _ _ => rfl) (v := yI (0)) rfl rfl ?_
        refine yG.num (c := 5) rfl (fun _ _ => rfl) (by decide) ?_
        refine yG.icmp rfl (t := 37) rfl ⟨by omega, by omega⟩ ⟨by omega, by omega⟩ (fun c2 => ?_) (fun c2 => ?_)
        · have c2 : (0 : Int) ≥ 5 := c2
          exfalso; omega
        · have c2 : (0 : Int) < 5 := c2
          refine yG.load xak rfl (fun _ _ => rfl) (v := yR k1) rfl rfl ?_
          refine yG.getO A_hq.1 (w_Net_value W H_k1) rfl rfl (fun r3 H_r3 O_r3 q_r3 => ?_)
          refine yG.load xik rfl (fun _ _ => rfl) (v := yI (0)) rfl rfl ?_
          refine yG.aaldO (r := 22) A_hq.1 (v_Net_value W H_r3) rfl rfl rfl (by omega) (by omega) (fun r4 H_r4 q_r4 => ?_)
          refine yG.num (c := 0) rfl (fun _ _ => rfl) (by decide) ?_
          refine yG.load xak rfl (fun _ _ => rfl) (v := yR k0) rfl rfl ?_
          refine yG.getO A_hq.1 (w_Net_value W H_k0) rfl rfl (fun r5 H_r5 O_r5 q_r5 => ?_)
          refine yG.load xik rfl (fun _ _ => rfl) (v := yI (0)) rfl rfl ?_
          refine yG.aaldO (r := 22) A_hq.1 (v_Net_value W H_r5) rfl rfl rfl (by omega) (by omega) (fun r6 H_r6 q_r6 => ?_)
          refine yG.num (c := 0) rfl (fun _ _ => rfl) (by decide) ?_
          refine yG.load xak rfl (fun _ _ => rfl) (v := yR k0) rfl rfl ?_
          refine yG.getS9 A_hq.1 (w_Net_value W H_k0) q_r5 rfl rfl ?_
          refine yG.load xik rfl (fun _ _ => rfl) (v := yI (0)) rfl rfl ?_
          refine yG.aaldO (r := 22) A_hq.1 (v_Net_value W H_r5) rfl rfl rfl (by omega) (by omega) (fun r7 H_r7 q_r7 => ?_)
          have s_r7 : r7 = r6 := by have e9 := q_r7.symm.trans q_r6; cases e9; rfl
          rw [s_r7]
          refine yG.alenF A_hq.1 (v_Net_value0 W H_r6).yIF rfl ?_
          obtain ⟨z8, e_z8⟩ : ∃ z : Int, z = ((16 : Nat) : Int) := ⟨_, rfl⟩
          rw [← e_z8]
          refine yG.acopy (kt := 0) A_hq.1 (v_Net_value0 W H_r4).yIF (v_Net_value0 W H_r6).yIF (by decide) (fun _ => rfl) (W.2.1 _ _ H_r6 (by decide) (by decide)) rfl rfl (by omega) (by omega) (by omega) rfl (fun h9 T_h9 b_h9 f_h9 => ?_)
          have A_h9 := A_hq.putW T_h9 b_h9 f_h9 H_r6 (by decide)
          have qq1 : zsl h9 k0 1 = yR r5 := (f_h9 k0 1 (bRo.ne H_k0 H_r6 (by decide))).trans q_r5
          have qq2 : zsl h9 r5 (0 : Int).toNat = yR r6 := (f_h9 r5 (0 : Int).toNat (bRo.ne H_r5 H_r6 (by decide))).trans q_r6
          refine yG.iinc rfl (a := 0) rfl (L' := [(2, yI (0 + 1)), (0, yR k0), (1, yR k1)]) rfl ?_
          refine yG.goto rfl (t := 2) rfl ?_
          exact yG.mono (yG.sub (i_2 (0 + 1)  h9 A_h9   (by omega) (by omega) (by omega)) (ySub.cons rfl (ySub.cons rfl (ySub.cons rfl (ySub.nil))))) (by omega)
      · subst c1
        refine yG.load xik rfl (fun _ _ => rfl) (v := yI (1)) rfl rfl ?_
        refine yG.num (c := 5) rfl (fun _ _ => rfl) (by decide) ?_
        refine yG.icmp rfl (t := 37) rfl ⟨by omega, by omega⟩ ⟨by omega, by omega⟩ (fun c10 => ?_) (fun c10 => ?_)
        · have c10 : (1 : Int) ≥ 5 := c10
          exfalso; omega
        · have c10 : (1 : Int) < 5 := c10
          refine yG.load xak rfl (fun _ _ => rfl) (v := yR k1) rfl rfl ?_
          refine yG.getO A_hq.1 (w_Net_value W H_k1) rfl rfl (fun r11 H_r11 O_r11 q_r11 => ?_)
          refine yG.load xik rfl (fun _ _ => rfl) (v := yI (1)) rfl rfl ?_
          refine yG.aaldO (r := 24) A_hq.1 (v_Net_value W H_r11) rfl rfl rfl (by omega) (by omega) (fun r12 H_r12 q_r12 => ?_)
          refine yG.num (c := 0) rfl (fun _ _ => rfl) (by decide) ?_
          refine yG.load xak rfl (fun _ _ => rfl) (v := yR k0) rfl rfl ?_
          refine yG.getO A_hq.1 (w_Net_value W H_k0) rfl rfl (fun r13 H_r13 O_r13 q_r13 => ?_)
          refine yG.load xik rfl (fun _ _ => rfl) (v := yI (1)) rfl rfl ?_
          refine yG.aaldO (r := 24) A_hq.1 (v_Net_value W H_r13) rfl rfl rfl (by omega) (by omega) (fun r14 H_r14 q_r14 => ?_)
          refine yG.num (c := 0) rfl (fun _ _ => rfl) (by decide) ?_
          refine yG.load xak rfl (fun _ _ => rfl) (v := yR k0) rfl rfl ?_
          refine yG.getS9 A_hq.1 (w_Net_value W H_k0) q_r13 rfl rfl ?_
          refine yG.load xik rfl (fun _ _ => rfl) (v := yI (1)) rfl rfl ?_
          refine yG.aaldO (r := 24) A_hq.1 (v_Net_value W H_r13) rfl rfl rfl (by omega) (by omega) (fun r15 H_r15 q_r15 => ?_)
          have s_r15 : r15 = r14 := by have e9 := q_r15.symm.trans q_r14; cases e9; rfl
          rw [s_r15]
          refine yG.alenF A_hq.1 (v_Net_value1 W H_r14) rfl ?_
          obtain ⟨z16, e_z16⟩ : ∃ z : Int, z = ((120 : Nat) : Int) := ⟨_, rfl⟩
          rw [← e_z16]
          refine yG.acopy (kt := 0) A_hq.1 (v_Net_value1 W H_r12) (v_Net_value1 W H_r14) (by decide) (bTf_k (by decide) (by decide)) (W.2.1 _ _ H_r14 (by decide) (by decide)) rfl rfl (by omega) (by omega) (by omega) rfl (fun h17 T_h17 b_h17 f_h17 => ?_)
          have A_h17 := A_hq.putW T_h17 b_h17 f_h17 H_r14 (by decide)
          have qq3 : zsl h17 k0 1 = yR r13 := (f_h17 k0 1 (bRo.ne H_k0 H_r14 (by decide))).trans q_r13
          have qq4 : zsl h17 r13 (1 : Int).toNat = yR r14 := (f_h17 r13 (1 : Int).toNat (bRo.ne H_r13 H_r14 (by decide))).trans q_r14
          refine yG.iinc rfl (a := 1) rfl (L' := [(2, yI (1 + 1)), (0, yR k0), (1, yR k1)]) rfl ?_
          refine yG.goto rfl (t := 2) rfl ?_
          exact yG.mono (yG.sub (i_2 (1 + 1)  h17 A_h17   (by omega) (by omega) (by omega)) (ySub.cons rfl (ySub.cons rfl (ySub.cons rfl (ySub.nil))))) (by omega)
      · subst c1
        refine yG.load xik rfl (fun _ _ => rfl) (v := yI (2)) rfl rfl ?_
        refine yG.num (c := 5) rfl (fun _ _ => rfl) (by decide) ?_
        refine yG.icmp rfl (t := 37) rfl ⟨by omega, by omega⟩ ⟨by omega, by omega⟩ (fun c18 => ?_) (fun c18 => ?_)
        · have c18 : (2 : Int) ≥ 5 := c18
          exfalso; omega
        · have c18 : (2 : Int) < 5 := c18
          refine yG.load xak rfl (fun _ _ => rfl) (v := yR k1) rfl rfl ?_
          refine yG.getO A_hq.1 (w_Net_value W H_k1) rfl rfl (fun r19 H_r19 O_r19 q_r19 => ?_)
          refine yG.load xik rfl (fun _ _ => rfl) (v := yI (2)) rfl rfl ?_
          refine yG.aaldO (r := 26) A_hq.1 (v_Net_value W H_r19) rfl rfl rfl (by omega) (by omega) (fun r20 H_r20 q_r20 => ?_)
          refine yG.num (c := 0) rfl (fun _ _ => rfl) (by decide) ?_
          refine yG.load xak rfl (fun _ _ => rfl) (v := yR k0) rfl rfl ?_
          refine yG.getO A_hq.1 (w_Net_value W H_k0) rfl rfl (fun r21 H_r21 O_r21 q_r21 => ?_)
          refine yG.load xik rfl (fun _ _ => rfl) (v := yI (2)) rfl rfl ?_
          refine yG.aaldO (r := 26) A_hq.1 (v_Net_value W H_r21) rfl rfl rfl (by omega) (by omega) (fun r22 H_r22 q_r22 => ?_)
          refine yG.num (c := 0) rfl (fun _ _ => rfl) (by decide) ?_
          refine yG.load xak rfl (fun _ _ => rfl) (v := yR k0) rfl rfl ?_
          refine yG.getS9 A_hq.1 (w_Net_value W H_k0) q_r21 rfl rfl ?_
          refine yG.load xik rfl (fun _ _ => rfl) (v := yI (2)) rfl rfl ?_
          refine yG.aaldO (r := 26) A_hq.1 (v_Net_value W H_r21) rfl rfl rfl (by omega) (by omega) (fun r23 H_r23 q_r23 => ?_)
          have s_r23 : r23 = r22 := by have e9 := q_r23.symm.trans q_r22; cases e9; rfl
          rw [s_r23]
          refine yG.alenF A_hq.1 (v_Net_value2 W H_r22) rfl ?_
          obtain ⟨z24, e_z24⟩ : ∃ z : Int, z = ((120 : Nat) : Int) := ⟨_, rfl⟩
          rw [← e_z24]
          refine yG.acopy (kt := 0) A_hq.1 (v_Net_value2 W H_r20) (v_Net_value2 W H_r22) (by decide) (bTf_k (by decide) (by decide)) (W.2.1 _ _ H_r22 (by decide) (by decide)) rfl rfl (by omega) (by omega) (by omega) rfl (fun h25 T_h25 b_h25 f_h25 => ?_)
          have A_h25 := A_hq.putW T_h25 b_h25 f_h25 H_r22 (by decide)
          have qq5 : zsl h25 k0 1 = yR r21 := (f_h25 k0 1 (bRo.ne H_k0 H_r22 (by decide))).trans q_r21
          have qq6 : zsl h25 r21 (2 : Int).toNat = yR r22 := (f_h25 r21 (2 : Int).toNat (bRo.ne H_r21 H_r22 (by decide))).trans q_r22
          refine yG.iinc rfl (a := 2) rfl (L' := [(2, yI (2 + 1)), (0, yR k0), (1, yR k1)]) rfl ?_
          refine yG.goto rfl (t := 2) rfl ?_
          exact yG.mono (yG.sub (i_2 (2 + 1)  h25 A_h25   (by omega) (by omega) (by omega)) (ySub.cons rfl (ySub.cons rfl (ySub.cons rfl (ySub.nil))))) (by omega)
      · subst c1
        refine yG.load xik rfl (fun _ _ => rfl) (v := yI (3)) rfl rfl ?_
        refine yG.num (c := 5) rfl (fun _ _ => rfl) (by decide) ?_
        refine yG.icmp rfl (t := 37) rfl ⟨by omega, by omega⟩ ⟨by omega, by omega⟩ (fun c26 => ?_) (fun c26 => ?_)
        · have c26 : (3 : Int) ≥ 5 := c26
          exfalso; omega
        · have c26 : (3 : Int) < 5 := c26
          refine yG.load xak rfl (fun _ _ => rfl) (v := yR k1) rfl rfl ?_
          refine yG.getO A_hq.1 (w_Net_value W H_k1) rfl rfl (fun r27 H_r27 O_r27 q_r27 => ?_)
          refine yG.load xik rfl (fun _ _ => rfl) (v := yI (3)) rfl rfl ?_
          refine yG.aaldO (r := 28) A_hq.1 (v_Net_value W H_r27) rfl rfl rfl (by omega) (by omega) (fun r28 H_r28 q_r28 => ?_)
          refine yG.num (c := 0) rfl (fun _ _ => rfl) (by decide) ?_
          refine yG.load xak rfl (fun _ _ => rfl) (v := yR k0) rfl rfl ?_
          refine yG.getO A_hq.1 (w_Net_value W H_k0) rfl rfl (fun r29 H_r29 O_r29 q_r29 => ?_)
          refine yG.load xik rfl (fun _ _ => rfl) (v := yI (3)) rfl rfl ?_
          refine yG.aaldO (r := 28) A_hq.1 (v_Net_value W H_r29) rfl rfl rfl (by omega) (by omega) (fun r30 H_r30 q_r30 => ?_)
          refine yG.num (c := 0) rfl (fun _ _ => rfl) (by decide) ?_
          refine yG.load xak rfl (fun _ _ => rfl) (v := yR k0) rfl rfl ?_
          refine yG.getS9 A_hq.1 (w_Net_value W H_k0) q_r29 rfl rfl ?_
          refine yG.load xik rfl (fun _ _ => rfl) (v := yI (3)) rfl rfl ?_
          refine yG.aaldO (r := 28) A_hq.1 (v_Net_value W H_r29) rfl rfl rfl (by omega) (by omega) (fun r31 H_r31 q_r31 => ?_)
          have s_r31 : r31 = r30 := by have e9 := q_r31.symm.trans q_r30; cases e9; rfl
          rw [s_r31]
          refine yG.alenF A_hq.1 (v_Net_value3 W H_r30) rfl ?_
          obtain ⟨z32, e_z32⟩ : ∃ z : Int, z = ((66 : Nat) : Int) := ⟨_, rfl⟩
          rw [← e_z32]
          refine yG.acopy (kt := 0) A_hq.1 (v_Net_value3 W H_r28) (v_Net_value3 W H_r30) (by decide) (bTf_k (by decide) (by decide)) (W.2.1 _ _ H_r30 (by decide) (by decide)) rfl rfl (by omega) (by omega) (by omega) rfl (fun h33 T_h33 b_h33 f_h33 => ?_)
          have A_h33 := A_hq.putW T_h33 b_h33 f_h33 H_r30 (by decide)
          have qq7 : zsl h33 k0 1 = yR r29 := (f_h33 k0 1 (bRo.ne H_k0 H_r30 (by decide))).trans q_r29
          have qq8 : zsl h33 r29 (3 : Int).toNat = yR r30 := (f_h33 r29 (3 : Int).toNat (bRo.ne H_r29 H_r30 (by decide))).trans q_r30
          refine yG.iinc rfl (a := 3) rfl (L' := [(2, yI (3 + 1)), (0, yR k0), (1, yR k1)]) rfl ?_
          refine yG.goto rfl (t := 2) rfl ?_
          exact yG.mono (yG.sub (i_2 (3 + 1)  h33 A_h33   (by omega) (by omega) (by omega)) (ySub.cons rfl (ySub.cons rfl (ySub.cons rfl (ySub.nil))))) (by omega)
      · subst c1
        refine yG.load xik rfl (fun _ _ => rfl) (v := yI (4)) rfl rfl ?_
        refine yG.num (c := 5) rfl (fun _ _ => rfl) (by decide) ?_
        refine yG.icmp rfl (t := 37) rfl ⟨by omega, by omega⟩ ⟨by omega, by omega⟩ (fun c34 => ?_) (fun c34 => ?_)
        · have c34 : (4 : Int) ≥ 5 := c34
          exfalso; omega
        · have c34 : (4 : Int) < 5 := c34
          refine yG.load xak rfl (fun _ _ => rfl) (v := yR k1) rfl rfl ?_
          refine yG.getO A_hq.1 (w_Net_value W H_k1) rfl rfl (fun r35 H_r35 O_r35 q_r35 => ?_)
          refine yG.load xik rfl (fun _ _ => rfl) (v := yI (4)) rfl rfl ?_
          refine yG.aaldO (r := 30) A_hq.1 (v_Net_value W H_r35) rfl rfl rfl (by omega) (by omega) (fun r36 H_r36 q_r36 => ?_)
          refine yG.num (c := 0) rfl (fun _ _ => rfl) (by decide) ?_
          refine yG.load xak rfl (fun _ _ => rfl) (v := yR k0) rfl rfl ?_
          refine yG.getO A_hq.1 (w_Net_value W H_k0) rfl rfl (fun r37 H_r37 O_r37 q_r37 => ?_)
          refine yG.load xik rfl (fun _ _ => rfl) (v := yI (4)) rfl rfl ?_
          refine yG.aaldO (r := 30) A_hq.1 (v_Net_value W H_r37) rfl rfl rfl (by omega) (by omega) (fun r38 H_r38 q_r38 => ?_)
          refine yG.num (c := 0) rfl (fun _ _ => rfl) (by decide) ?_
          refine yG.load xak rfl (fun _ _ => rfl) (v := yR k0) rfl rfl ?_
          refine yG.getS9 A_hq.1 (w_Net_value W H_k0) q_r37 rfl rfl ?_
          refine yG.load xik rfl (fun _ _ => rfl) (v := yI (4)) rfl rfl ?_
          refine yG.aaldO (r := 30) A_hq.1 (v_Net_value W H_r37) rfl rfl rfl (by omega) (by omega) (fun r39 H_r39 q_r39 => ?_)
          have s_r39 : r39 = r38 := by have e9 := q_r39.symm.trans q_r38; cases e9; rfl
          rw [s_r39]
          refine yG.alenF A_hq.1 (v_Net_value4 W H_r38) rfl ?_
          obtain ⟨z40, e_z40⟩ : ∃ z : Int, z = ((24 : Nat) : Int) := ⟨_, rfl⟩
          rw [← e_z40]
          refine yG.acopy (kt := 0) A_hq.1 (v_Net_value4 W H_r36) (v_Net_value4 W H_r38) (by decide) (bTf_k (by decide) (by decide)) (W.2.1 _ _ H_r38 (by decide) (by decide)) rfl rfl (by omega) (by omega) (by omega) rfl (fun h41 T_h41 b_h41 f_h41 => ?_)
          have A_h41 := A_hq.putW T_h41 b_h41 f_h41 H_r38 (by decide)
          have qq9 : zsl h41 k0 1 = yR r37 := (f_h41 k0 1 (bRo.ne H_k0 H_r38 (by decide))).trans q_r37
          have qq10 : zsl h41 r37 (4 : Int).toNat = yR r38 := (f_h41 r37 (4 : Int).toNat (bRo.ne H_r37 H_r38 (by decide))).trans q_r38
          refine yG.iinc rfl (a := 4) rfl (L' := [(2, yI (4 + 1)), (0, yR k0), (1, yR k1)]) rfl ?_
          refine yG.goto rfl (t := 2) rfl ?_
          exact yG.mono (yG.sub (i_2 (4 + 1)  h41 A_h41   (by omega) (by omega) (by omega)) (ySub.cons rfl (ySub.cons rfl (ySub.cons rfl (ySub.nil))))) (by omega)
      · subst c1
        refine yG.load xik rfl (fun _ _ => rfl) (v := yI (5)) rfl rfl ?_
        refine yG.num (c := 5) rfl (fun _ _ => rfl) (by decide) ?_
        refine yG.icmp rfl (t := 37) rfl ⟨by omega, by omega⟩ ⟨by omega, by omega⟩ (fun c42 => ?_) (fun c42 => ?_)
        · have c42 : (5 : Int) ≥ 5 := c42
          refine yG.ret rfl (fun _ _ => rfl) ?_
          exact (yP.void ⟨⟨rfl, trivial⟩, A_hq⟩)
        · have c42 : (5 : Int) < 5 := c42
          exfalso; omega
  refine yC.of (M := (xt_X5_copyValues, (3, (0, (6, []))))) rfl rfl (N := 322) (yfuel (by decide)) ?_
  show yG 89 xfts (xcall 89 xfts xpools xms d) (xpool xp_RX5) [] xt_X5_copyValues (yP 0 (fun rv hp' => (rv = none ∧ True) ∧ bAx G [(1430257664, 256)] hp hp')) 322 0 [(0, yR k0), (1, yR k1)] [] hp
  have i_2 := H 13
  refine yG.num (c := 0) rfl (fun _ _ => rfl) (by decide) ?_
  refine yG.store1 xik (L' := [(2, yI (0)), (0, yR k0), (1, yR k1)]) rfl (fun _ _ => rfl) rfl rfl ?_
  exact yG.mono (yG.sub (i_2 (0)  hp A_hp   (by omega) (by omega) (by omega)) (ySub.cons rfl (ySub.cons rfl (ySub.cons rfl (ySub.nil))))) (by omega)
theorem c_Net_copy {hp : xH} (W : bW G) (d : Nat) (hT : zTy G hp) (M_bSh : bSh G hp) {k0 : Nat} (H_k0 : bRo G 18 k0) {k1 : Nat} (H_k1 : bRo G 18 k1) : yC (xcall 89 xfts xpools xms (d + 2)) 153 [yR k0, yR k1] hp (fun rv hp' => (fun rv hp' => (rv = none ∧ True) ∧ bAx G [(262144, 3), (262144, 4), (262144, 5), (262144, 6), (262144, 7), (4291297280, 256)] hp hp') rv hp' ∧ bSh G hp') := by
  have A_hp : bAx G [(262144, 3), (262144, 4), (262144, 5), (262144, 6), (262144, 7), (4291297280, 256)] hp hp := bAx.rf hT
  have M_bSh_hp := M_bSh
  have H : ∀ m : Nat, (∀ a2 : Int, ∀ hq, bAx G [(262144, 3), (262144, 4), (262144, 5), (262144, 6), (262144, 7), (4291297280, 256)] hp hq → bSh G hq → 0 ≤ a2 → (-5) ≤ 0 - a2 → 0 - 2 * a2 + 11 < (m : Int) → yG 89 xfts (xcall 89 xfts xpools xms (d + 1)) (xpool xp_RX5) [] xt_X5_copy (yP 0 (fun rv hp' => (fun rv hp' => (rv = none ∧ True) ∧ bAx G [(262144, 3), (262144, 4), (262144, 5), (262144, 6), (262144, 7), (4291297280, 256)] hp hp') rv hp' ∧ bSh G hp')) (22 * m) 21 [(0, yR k0), (1, yR k1), (2, yI (a2))] [] hq) := by
    intro m
    induction m with
    | zero =>
      intros; exfalso; omega
    | succ m ih =>
      have i_21 := ih
      clear ih
      intro a2 hq A_hq M_bSh_hq f0 f1 hm
      refine yG.mono (N := 22 * m + 22) ?_ (by omega)
      rcases (show a2 = 0 ∨ a2 = 1 ∨ a2 = 2 ∨ a2 = 3 ∨ a2 = 4 ∨ a2 = 5 by omega) with c1 | c1 | c1 | c1 | c1 | c1
      · subst c1
        refine yG.load xik rfl (fun _ _ => rfl) (v := yI (0)) rfl rfl ?_
        refine yG.num (c := 5) rfl (fun _ _ => rfl) (by decide) ?_
        refine yG.icmp rfl (t := 55) rfl ⟨by omega, by omega⟩ ⟨by omega, by omega⟩ (fun c2 => ?_) (fun c2 => ?_)
        · have c2 : (0 : Int) ≥ 5 := c2
          exfalso; omega
        · have c2 : (0 : Int) < 5 := c2
          refine yG.load xak rfl (fun _ _ => rfl) (v := yR k1) rfl rfl ?_
          refine yG.getO A_hq.1 (w_Net_names W H_k1) rfl rfl (fun r3 H_r3 O_r3 q_r3 => ?_)
          refine yG.load xik rfl (fun _ _ => rfl) (v := yI (0)) rfl rfl ?_
          refine yG.aaldO (r := 23) A_hq.1 (v_Net_names W H_r3) rfl rfl rfl (by omega) (by omega) (fun r4 H_r4 q_r4 => ?_)
          refine yG.num (c := 0) rfl (fun _ _ => rfl) (by decide) ?_
          refine yG.load xak rfl (fun _ _ => rfl) (v := yR k0) rfl rfl ?_
          refine yG.getO A_hq.1 (w_Net_names W H_k0) rfl rfl (fun r5 H_r5 O_r5 q_r5 => ?_)
          refine yG.load xik rfl (fun _ _ => rfl) (v := yI (0)) rfl rfl ?_
          refine yG.aaldO (r := 23) A_hq.1 (v_Net_names W H_r5) rfl rfl rfl (by omega) (by omega) (fun r6 H_r6 q_r6 => ?_)
          refine yG.num (c := 0) rfl (fun _ _ => rfl) (by decide) ?_
          refine yG.load xak rfl (fun _ _ => rfl) (v := yR k0) rfl rfl ?_
          refine yG.getO A_hq.1 (w_Net_count W H_k0) rfl rfl (fun r7 H_r7 O_r7 q_r7 => ?_)
          refine yG.load xik rfl (fun _ _ => rfl) (v := yI (0)) rfl rfl ?_
          refine yG.ialdF A_hq.1 (v_Net_count W H_r7) rfl rfl (by omega) (by omega) (fun z8 e_z8 i_z8 l_z8 u_z8 => ?_)
          refine yG.acopy (kt := 1) A_hq.1 (v_Net_names0 W H_r4).yIF (v_Net_names0 W H_r6).yIF (by decide) (fun _ => rfl) (W.2.1 _ _ H_r6 (by decide) (by decide)) rfl rfl (by omega) (by omega) (by omega) rfl (fun h9 T_h9 b_h9 f_h9 => ?_)
          have A_h9 := A_hq.putW T_h9 b_h9 f_h9 H_r6 (by decide)
          have M_bSh_h9 := M_bSh_hq.fr (bAx.putW (Wl := [(8388608, 256)]) (bAx.rf A_hq.1) T_h9 b_h9 f_h9 H_r6 (by decide)) (by decide)
          refine yG.iinc rfl (a := 0) rfl (L' := [(2, yI (0 + 1)), (0, yR k0), (1, yR k1)]) rfl ?_
          refine yG.goto rfl (t := 21) rfl ?_
          exact yG.mono (yG.sub (i_21 (0 + 1)  h9 A_h9 M_bSh_h9   (by omega) (by omega) (by omega)) (ySub.cons rfl (ySub.cons rfl (ySub.cons rfl (ySub.nil))))) (by omega)
      · subst c1
        refine yG.load xik rfl (fun _ _ => rfl) (v := yI (1)) rfl rfl ?_
        refine yG.num (c := 5) rfl (fun _ _ => rfl) (by decide) ?_
        refine yG.icmp rfl (t := 55) rfl ⟨by omega, by omega⟩ ⟨by omega, by omega⟩ (fun c10 => ?_) (fun c10 => ?_)
        · have c10 : (1 : Int) ≥ 5 := c10
          exfalso; omega
        · have c10 : (1 : Int) < 5 := c10
          refine yG.load xak rfl (fun _ _ => rfl) (v := yR k1) rfl rfl ?_
          refine yG.getO A_hq.1 (w_Net_names W H_k1) rfl rfl (fun r11 H_r11 O_r11 q_r11 => ?_)
          refine yG.load xik rfl (fun _ _ => rfl) (v := yI (1)) rfl rfl ?_
          refine yG.aaldO (r := 25) A_hq.1 (v_Net_names W H_r11) rfl rfl rfl (by omega) (by omega) (fun r12 H_r12 q_r12 => ?_)
          refine yG.num (c := 0) rfl (fun _ _ => rfl) (by decide) ?_
          refine yG.load xak rfl (fun _ _ => rfl) (v := yR k0) rfl rfl ?_
          refine yG.getO A_hq.1 (w_Net_names W H_k0) rfl rfl (fun r13 H_r13 O_r13 q_r13 => ?_)
          refine yG.load xik rfl (fun _ _ => rfl) (v := yI (1)) rfl rfl ?_
          refine yG.aaldO (r := 25) A_hq.1 (v_Net_names W H_r13) rfl rfl rfl (by omega) (by omega) (fun r14 H_r14 q_r14 => ?_)
          refine yG.num (c := 0) rfl (fun _ _ => rfl) (by decide) ?_
          refine yG.load xak rfl (fun _ _ => rfl) (v := yR k0) rfl rfl ?_
          refine yG.getO A_hq.1 (w_Net_count W H_k0) rfl rfl (fun r15 H_r15 O_r15 q_r15 => ?_)
          refine yG.load xik rfl (fun _ _ => rfl) (v := yI (1)) rfl rfl ?_
          refine yG.ialdF A_hq.1 (v_Net_count W H_r15) rfl rfl (by omega) (by omega) (fun z16 e_z16 i_z16 l_z16 u_z16 => ?_)
          refine yG.acopy (kt := 1) A_hq.1 (v_Net_names1 W H_r12).yIF (v_Net_names1 W H_r14).yIF (by decide) (fun _ => rfl) (W.2.1 _ _ H_r14 (by decide) (by decide)) rfl rfl (by omega) (by omega) (by omega) rfl (fun h17 T_h17 b_h17 f_h17 => ?_)
          have A_h17 := A_hq.putW T_h17 b_h17 f_h17 H_r14 (by decide)
          have M_bSh_h17 := M_bSh_hq.fr (bAx.putW (Wl := [(33554432, 256)]) (bAx.rf A_hq.1) T_h17 b_h17 f_h17 H_r14 (by decide)) (by decide)
          refine yG.iinc rfl (a := 1) rfl (L' := [(2, yI (1 + 1)), (0, yR k0), (1, yR k1)]) rfl ?_
          refine yG.goto rfl (t := 21) rfl ?_
          exact yG.mono (yG.sub (i_21 (1 + 1)  h17 A_h17 M_bSh_h17   (by omega) (by omega) (by omega)) (ySub.cons rfl (ySub.cons rfl (ySub.cons rfl (ySub.nil))))) (by omega)
      · subst c1
        refine yG.load xik rfl (fun _ _ => rfl) (v := yI (2)) rfl rfl ?_
        refine yG.num (c := 5) rfl (fun _ _ => rfl) (by decide) ?_
        refine yG.icmp rfl (t := 55) rfl ⟨by omega, by omega⟩ ⟨by omega, by omega⟩ (fun c18 => ?_) (fun c18 => ?_)
        · have c18 : (2 : Int) ≥ 5 := c18
          exfalso; omega
        · have c18 : (2 : Int) < 5 := c18
          refine yG.load xak rfl (fun _ _ => rfl) (v := yR k1) rfl rfl ?_
          refine yG.getO A_hq.1 (w_Net_names W H_k1) rfl rfl (fun r19 H_r19 O_r19 q_r19 => ?_)
          refine yG.load xik rfl (fun _ _ => rfl) (v := yI (2)) rfl rfl ?_
          refine yG.aaldO (r := 27) A_hq.1 (v_Net_names W H_r19) rfl rfl rfl (by omega) (by omega) (fun r20 H_r20 q_r20 => ?_)
          refine yG.num (c := 0) rfl (fun _ _ => rfl) (by decide) ?_
          refine yG.load xak rfl (fun _ _ => rfl) (v := yR k0) rfl rfl ?_
          refine yG.getO A_hq.1 (w_Net_names W H_k0) rfl rfl (fun r21 H_r21 O_r21 q_r21 => ?_)
          refine yG.load xik rfl (fun _ _ => rfl) (v := yI (2)) rfl rfl ?_
          refine yG.aaldO (r := 27) A_hq.1 (v_Net_names W H_r21) rfl rfl rfl (by omega) (by omega) (fun r22 H_r22 q_r22 => ?_)
          refine yG.num (c := 0) rfl (fun _ _ => rfl) (by decide) ?_
          refine yG.load xak rfl (fun _ _ => rfl) (v := yR k0) rfl rfl ?_
          refine yG.getO A_hq.1 (w_Net_count W H_k0) rfl rfl (fun r23 H_r23 O_r23 q_r23 => ?_)
          refine yG.load xik rfl (fun _ _ => rfl) (v := yI (2)) rfl rfl ?_
          refine yG.ialdF A_hq.1 (v_Net_count W H_r23) rfl rfl (by omega) (by omega) (fun z24 e_z24 i_z24 l_z24 u_z24 => ?_)
          refine yG.acopy (kt := 1) A_hq.1 (v_Net_names2 W H_r20).yIF (v_Net_names2 W H_r22).yIF (by decide) (fun _ => rfl) (W.2.1 _ _ H_r22 (by decide) (by decide)) rfl rfl (by omega) (by omega) (by omega) rfl (fun h25 T_h25 b_h25 f_h25 => ?_)
          have A_h25 := A_hq.putW T_h25 b_h25 f_h25 H_r22 (by decide)
          have M_bSh_h25 := M_bSh_hq.fr (bAx.putW (Wl := [(134217728, 256)]) (bAx.rf A_hq.1) T_h25 b_h25 f_h25 H_r22 (by decide)) (by decide)
          refine yG.iinc rfl (a := 2) rfl (L' := [(2, yI (2 + 1)), (0, yR k0), (1, yR k1)]) rfl ?_
          refine yG.goto rfl (t := 21) rfl ?_
          exact yG.mono (yG.sub (i_21 (2 + 1)  h25 A_h25 M_bSh_h25   (by omega) (by omega) (by omega)) (ySub.cons rfl (ySub.cons rfl (ySub.cons rfl (ySub.nil))))) (by omega)
      · subst c1
        refine yG.load xik rfl (fun _ _ => rfl) (v := yI (3)) rfl rfl ?_
        refine yG.num (c := 5) rfl (fun _ _ => rfl) (by decide) ?_
        refine yG.icmp rfl (t := 55) rfl ⟨by omega, by omega⟩ ⟨by omega, by omega⟩ (fun c26 => ?_) (fun c26 => ?_)
        · have c26 : (3 : Int) ≥ 5 := c26
          exfalso; omega
        · have c26 : (3 : Int) < 5 := c26
          refine yG.load xak rfl (fun _ _ => rfl) (v := yR k1) rfl rfl ?_
          refine yG.getO A_hq.1 (w_Net_names W H_k1) rfl rfl (fun r27 H_r27 O_r27 q_r27 => ?_)
          refine yG.load xik rfl (fun _ _ => rfl) (v := yI (3)) rfl rfl ?_
          refine yG.aaldO (r := 29) A_hq.1 (v_Net_names W H_r27) rfl rfl rfl (by omega) (by omega) (fun r28 H_r28 q_r28 => ?_)
          refine yG.num (c := 0) rfl (fun _ _ => rfl) (by decide) ?_
          refine yG.load xak rfl (fun _ _ => rfl) (v := yR k0) rfl rfl ?_
          refine yG.getO A_hq.1 (w_Net_names W H_k0) rfl rfl (fun r29 H_r29 O_r29 q_r29 => ?_)
          refine yG.load xik rfl (fun _ _ => rfl) (v := yI (3)) rfl rfl ?_
          refine yG.aaldO (r := 29) A_hq.1 (v_Net_names W H_r29) rfl rfl rfl (by omega) (by omega) (fun r30 H_r30 q_r30 => ?_)
          refine yG.num (c := 0) rfl (fun _ _ => rfl) (by decide) ?_
          refine yG.load xak rfl (fun _ _ => rfl) (v := yR k0) rfl rfl ?_
          refine yG.getO A_hq.1 (w_Net_count W H_k0) rfl rfl (fun r31 H_r31 O_r31 q_r31 => ?_)
          refine yG.load xik rfl (fun _ _ => rfl) (v := yI (3)) rfl rfl ?_
          refine yG.ialdF A_hq.1 (v_Net_count W H_r31) rfl rfl (by omega) (by omega) (fun z32 e_z32 i_z32 l_z32 u_z32 => ?_)
          refine yG.acopy (kt := 1) A_hq.1 (v_Net_names3 W H_r28).yIF (v_Net_names3 W H_r30).yIF (by decide) (fun _ => rfl) (W.2.1 _ _ H_r30 (by decide) (by decide)) rfl rfl (by omega) (by omega) (by omega) rfl (fun h33 T_h33 b_h33 f_h33 => ?_)
          have A_h33 := A_hq.putW T_h33 b_h33 f_h33 H_r30 (by decide)
          have M_bSh_h33 := M_bSh_hq.fr (bAx.putW (Wl := [(536870912, 256)]) (bAx.rf A_hq.1) T_h33 b_h33 f_h33 H_r30 (by decide)) (by decide)
          refine yG.iinc rfl (a := 3) rfl (L' := [(2, yI (3 + 1)), (0, yR k0), (1, yR k1)]) rfl ?_
          refine yG.goto rfl (t := 21) rfl ?_
          exact yG.mono (yG.sub (i_21 (3 + 1)  h33 A_h33 M_bSh_h33   (by omega) (by omega) (by omega)) (ySub.cons rfl (ySub.cons rfl (ySub.cons rfl (ySub.nil))))) (by omega)
      · subst c1
        refine yG.load xik rfl (fun _ _ => rfl) (v := yI (4)) rfl rfl ?_
        refine yG.num (c := 5) rfl (fun _ _ => rfl) (by decide) ?_
        refine yG.icmp rfl (t := 55) rfl ⟨by omega, by omega⟩ ⟨by omega, by omega⟩ (fun c34 => ?_) (fun c34 => ?_)
        · have c34 : (4 : Int) ≥ 5 := c34
          exfalso; omega
        · have c34 : (4 : Int) < 5 := c34
          refine yG.load xak rfl (fun _ _ => rfl) (v := yR k1) rfl rfl ?_
          refine yG.getO A_hq.1 (w_Net_names W H_k1) rfl rfl (fun r35 H_r35 O_r35 q_r35 => ?_)
          refine yG.load xik rfl (fun _ _ => rfl) (v := yI (4)) rfl rfl ?_
          refine yG.aaldO (r := 31) A_hq.1 (v_Net_names W H_r35) rfl rfl rfl (by omega) (by omega) (fun r36 H_r36 q_r36 => ?_)
          refine yG.num (c := 0) rfl (fun _ _ => rfl) (by decide) ?_
          refine yG.load xak rfl (fun _ _ => rfl) (v := yR k0) rfl rfl ?_
          refine yG.getO A_hq.1 (w_Net_names W H_k0) rfl rfl (fun r37 H_r37 O_r37 q_r37 => ?_)
          refine yG.load xik rfl (fun _ _ => rfl) (v := yI (4)) rfl rfl ?_
          refine yG.aaldO (r := 31) A_hq.1 (v_Net_names W H_r37) rfl rfl rfl (by omega) (by omega) (fun r38 H_r38 q_r38 => ?_)
          refine yG.num (c := 0) rfl (fun _ _ => rfl) (by decide) ?_
          refine yG.load xak rfl (fun _ _ => rfl) (v := yR k0) rfl rfl ?_
          refine yG.getO A_hq.1 (w_Net_count W H_k0) rfl rfl (fun r39 H_r39 O_r39 q_r39 => ?_)
          refine yG.load xik rfl (fun _ _ => rfl) (v := yI (4)) rfl rfl ?_
          refine yG.ialdF A_hq.1 (v_Net_count W H_r39) rfl rfl (by omega) (by omega) (fun z40 e_z40 i_z40 l_z40 u_z40 => ?_)
          refine yG.acopy (kt := 1) A_hq.1 (v_Net_names4 W H_r36).yIF (v_Net_names4 W H_r38).yIF (by decide) (fun _ => rfl) (W.2.1 _ _ H_r38 (by decide) (by decide)) rfl rfl (by omega) (by omega) (by omega) rfl (fun h41 T_h41 b_h41 f_h41 => ?_)
          have A_h41 := A_hq.putW T_h41 b_h41 f_h41 H_r38 (by decide)
          have M_bSh_h41 := M_bSh_hq.fr (bAx.putW (Wl := [(2147483648, 256)]) (bAx.rf A_hq.1) T_h41 b_h41 f_h41 H_r38 (by decide)) (by decide)
          refine yG.iinc rfl (a := 4) rfl (L' := [(2, yI (4 + 1)), (0, yR k0), (1, yR k1)]) rfl ?_
          refine yG.goto rfl (t := 21) rfl ?_
          exact yG.mono (yG.sub (i_21 (4 + 1)  h41 A_h41 M_bSh_h41   (by omega) (by omega) (by omega)) (ySub.cons rfl (ySub.cons rfl (ySub.cons rfl (ySub.nil))))) (by omega)
      · subst c1
        refine yG.load xik rfl (fun _ _ => rfl) (v := yI (5)) rfl rfl ?_
        refine yG.num (c := 5) rfl (fun _ _ => rfl) (by decide) ?_
        refine yG.icmp rfl (t := 55) rfl ⟨by omega, by omega⟩ ⟨by omega, by omega⟩ (fun c42 => ?_) (fun c42 => ?_)
        · have c42 : (5 : Int) ≥ 5 := c42
          refine yG.load xak rfl (fun _ _ => rfl) (v := yR k0) rfl rfl ?_
          refine yG.load xak rfl (fun _ _ => rfl) (v := yR k1) rfl rfl ?_
          refine yG.getI A_hq.1 (w_Net_shortKind W H_k1) rfl rfl (fun z43 e_z43 i_z43 l_z43 u_z43 => ?_)
          refine yG.load xak rfl (fun _ _ => rfl) (v := yR k1) rfl rfl ?_
          refine yG.getI A_hq.1 (w_Net_shortBar W H_k1) rfl rfl (fun z44 e_z44 i_z44 l_z44 u_z44 => ?_)
          refine yG.load xak rfl (fun _ _ => rfl) (v := yR k1) rfl rfl ?_
          refine yG.getI A_hq.1 (w_Net_shortLine W H_k1) rfl rfl (fun z45 e_z45 i_z45 l_z45 u_z45 => ?_)
          refine yG.load xak rfl (fun _ _ => rfl) (v := yR k1) rfl rfl ?_
          refine yG.getI A_hq.1 (w_Net_shortPart W H_k1) rfl rfl (fun z46 e_z46 i_z46 l_z46 u_z46 => ?_)
          refine yG.load xak rfl (fun _ _ => rfl) (v := yR k1) rfl rfl ?_
          refine yG.getI A_hq.1 (w_Net_shortZ W H_k1) rfl rfl (fun z47 e_z47 i_z47 l_z47 u_z47 => ?_)
          have v9 := M_bSh_hq k1 H_k1
          refine yG.invV (rest := []) A_hq.1 (bOb (d_Net W) H_k0) rfl rfl rfl rfl (c_Net_putShort W d A_hq.1 M_bSh_hq H_k0 (z43) (z44) (z45) (z46) (z47) (by omega) (by omega) (by omega) (by omega) (by omega) (by omega) (by omega) (by omega) (by omega) (by omega) (by omega)) (fun rv h48 q9 => ?_)
          obtain ⟨q9, M_bSh_h48⟩ := q9
          obtain ⟨⟨rfl, R_z49⟩, B_h48⟩ := q9
          have A_h48 := A_hq.tr B_h48 (by decide)
          show yG _ _ _ _ _ _ _ _ _ _ [] _
          refine yG.ret rfl (fun _ _ => rfl) ?_
          exact (yP.void ⟨⟨⟨rfl, trivial⟩, A_h48⟩, M_bSh_h48⟩)
        · have c42 : (5 : Int) < 5 := c42
          exfalso; omega
  refine yC.of (M := (xt_X5_copy, (3, (0, (6, []))))) rfl rfl (N := 308) (yfuel (by decide)) ?_
  show yG 89 xfts (xcall 89 xfts xpools xms (d + 1)) (xpool xp_RX5) [] xt_X5_copy (yP 0 (fun rv hp' => (fun rv hp' => (rv = none ∧ True) ∧ bAx G [(262144, 3), (262144, 4), (262144, 5), (262144, 6), (262144, 7), (4291297280, 256)] hp hp') rv hp' ∧ bSh G hp')) 308 0 [(0, yR k0), (1, yR k1)] [] hp
  have i_21 := H 13
  refine yG.load xak rfl (fun _ _ => rfl) (v := yR k0) rfl rfl ?_
  refine yG.load xak rfl (fun _ _ => rfl) (v := yR k1) rfl rfl ?_
  refine yG.invV (rest := []) A_hp.1 (bOb (d_Net W) H_k0) rfl rfl rfl rfl (c_Net_copyValues W d A_hp.1 H_k0 H_k1) (fun rv h1 q9 => ?_)
  obtain ⟨⟨rfl, R_z2⟩, B_h1⟩ := q9
  have A_h1 := A_hp.tr B_h1 (by decide)
  have M_bSh_h1 := M_bSh_hp.fr B_h1 (by decide)
  show yG _ _ _ _ _ _ _ _ _ _ [] _
  refine yG.load xak rfl (fun _ _ => rfl) (v := yR k1) rfl rfl ?_
  refine yG.getO A_h1.1 (w_Net_count W H_k1) rfl rfl (fun r3 H_r3 O_r3 q_r3 => ?_)
  refine yG.num (c := 0) rfl (fun _ _ => rfl) (by decide) ?_
  refine yG.load xak rfl (fun _ _ => rfl) (v := yR k0) rfl rfl ?_
  refine yG.getO A_h1.1 (w_Net_count W H_k0) rfl rfl (fun r4 H_r4 O_r4 q_r4 => ?_)
  refine yG.num (c := 0) rfl (fun _ _ => rfl) (by decide) ?_
  refine yG.num (c := 5) rfl (fun _ _ => rfl) (by decide) ?_
  refine yG.acopy (kt := 0) A_h1.1 (v_Net_count W H_r3) (v_Net_count W H_r4) (by decide) (bTf_k (by decide) (by decide)) (W.2.1 _ _ H_r4 (by decide) (by decide)) rfl rfl (by omega) (by omega) (by omega) rfl (fun h5 T_h5 b_h5 f_h5 => ?_)
  have A_h5 := A_h1.putW T_h5 b_h5 f_h5 H_r4 (by decide)
  have M_bSh_h5 := M_bSh_h1.fr (bAx.putW (Wl := [(524288, 256)]) (bAx.rf A_h1.1) T_h5 b_h5 f_h5 H_r4 (by decide)) (by decide)
  refine yG.num (c := 0) rfl (fun _ _ => rfl) (by decide) ?_
  refine yG.store1 xik (L' := [(2, yI (0)), (0, yR k0), (1, yR k1)]) rfl (fun _ _ => rfl) rfl rfl ?_
  exact yG.mono (yG.sub (i_21 (0)  h5 A_h5 M_bSh_h5   (by omega) (by omega) (by omega)) (ySub.cons rfl (ySub.cons rfl (ySub.cons rfl (ySub.nil))))) (by omega)
theorem c_Net_named {hp : xH} (W : bW G) (d : Nat) (hT : zTy G hp) {k0 : Nat} (H_k0 : bRo G 18 k0) (p1 : Int) (h1l : (-9223372036854775808) ≤ p1) (h1u : p1 ≤ 9223372036854775807) : yC (xcall 89 xfts xpools xms (d + 1)) 160 [yR k0, yJ (p1)] hp (bQpi hp (-1) 411 (fun _ => True)) := by
  have A_hp : bAx G [] hp hp := bAx.rf hT
  have H : ∀ m : Nat, (∀ a3 : Int, 0 ≤ a3 → (-5) ≤ 0 - a3 → (-9223372036854775808) ≤ p1 → (-9223372036854775807) ≤ 0 - p1 → 0 - 51 * a3 + 305 < (m : Int) → yG 89 xfts (xcall 89 xfts xpools xms d) (xpool xp_RX5) [] xt_X5_named (yP 1 (bQpi hp (-1) 411 (fun _ => True))) (23 * m) 2 [(0, yR k0), (1, yJ (p1)), (3, yI (a3))] [] hp) ∧ (∀ a3 : Int, ∀ a4 : Int, 0 ≤ a3 → (-4) ≤ 0 - a3 → 0 ≤ a4 → (-24) ≤ 0 - a4 → (-9223372036854775808) ≤ p1 → (-9223372036854775807) ≤ 0 - p1 → (-23) ≤ a3 - a4 → 0 - 51 * a3 - 2 * a4 + 304 < (m : Int) → yG 89 xfts (xcall 89 xfts xpools xms d) (xpool xp_RX5) [] xt_X5_named (yP 1 (bQpi hp (-1) 411 (fun _ => True))) (23 * m) 10 [(0, yR k0), (1, yJ (p1)), (3, yI (a3)), (4, yI (a4))] [] hp) := by
    intro m
    induction m with
    | zero =>
      refine ⟨?_, ?_⟩ <;> (intros; exfalso; omega)
    | succ m ih =>
      obtain ⟨i_2, i_10⟩ := ih
      refine ⟨?_, ?_⟩
      · intro a3 f0 f1 f2 f3 hm
        refine yG.mono (N := 23 * m + 23) ?_ (by omega)
        refine yG.load xik rfl (fun _ _ => rfl) (v := yI (a3)) rfl rfl ?_
        refine yG.num (c := 5) rfl (fun _ _ => rfl) (by decide) ?_
        refine yG.icmp rfl (t := 55) rfl ⟨by omega, by omega⟩ ⟨by omega, by omega⟩ (fun c1 => ?_) (fun c1 => ?_)
        · have c1 : (a3 : Int) ≥ 5 := c1
          refine yG.num (c := -1) rfl (fun _ _ => rfl) (by decide) ?_
          refine yG.ret rfl (fun _ _ => rfl) ?_
          exact (yP.int ⟨by omega, by omega⟩ ⟨⟨(-1), rfl, by omega, by omega, trivial⟩, rfl⟩)
        · have c1 : (a3 : Int) < 5 := c1
          refine yG.num (c := 0) rfl (fun _ _ => rfl) (by decide) ?_
          refine yG.store1 xik (L' := [(4, yI (0)), (0, yR k0), (1, yJ (p1)), (3, yI (a3))]) rfl (fun _ _ => rfl) rfl rfl ?_
          exact yG.mono (yG.sub (i_10 (a3) (0)     (by omega) (by omega) (by omega) (by omega) (by omega) (by omega) (by omega) (by omega)) (ySub.cons rfl (ySub.cons rfl (ySub.cons rfl (ySub.cons rfl (ySub.nil)))))) (by omega)
      · intro a3 a4 f0 f1 f2 f3 f4 f5 f6 hm
        refine yG.mono (N := 23 * m + 23) ?_ (by omega)
        rcases (show a3 = 0 ∨ a3 = 1 ∨ a3 = 2 ∨ a3 = 3 ∨ a3 = 4 by omega) with c1 | c1 | c1 | c1 | c1
        · subst c1
          refine yG.load xik rfl (fun _ _ => rfl) (v := yI (a4)) rfl rfl ?_
          refine yG.load xak rfl (fun _ _ => rfl) (v := yR k0) rfl rfl ?_
          refine yG.getO A_hp.1 (w_Net_count W H_k0) rfl rfl (fun r2 H_r2 O_r2 q_r2 => ?_)
          refine yG.load xik rfl (fun _ _ => rfl) (v := yI (0)) rfl rfl ?_
          refine yG.ialdF A_hp.1 (v_Net_count W H_r2) rfl rfl (by omega) (by omega) (fun z3 e_z3 i_z3 l_z3 u_z3 => ?_)
          refine yG.icmp rfl (t := 49) rfl ⟨by omega, by omega⟩ ⟨by omega, by omega⟩ (fun c4 => ?_) (fun c4 => ?_)
          · have c4 : (a4 : Int) ≥ z3 := c4
            refine yG.iinc rfl (a := 0) rfl (L' := [(3, yI (0 + 1)), (0, yR k0), (1, yJ (p1)), (4, yI (a4))]) rfl ?_
            refine yG.goto rfl (t := 2) rfl ?_
            exact yG.mono (yG.sub (i_2 (0 + 1)     (by omega) (by omega) (by omega) (by omega) (by omega)) (ySub.cons rfl (ySub.cons rfl (ySub.cons rfl (ySub.nil))))) (by omega)
          · have c4 : (a4 : Int) < z3 := c4
            refine yG.load xak rfl (fun _ _ => rfl) (v := yR k0) rfl rfl ?_
            refine yG.getO A_hp.1 (w_Net_names W H_k0) rfl rfl (fun r5 H_r5 O_r5 q_r5 => ?_)
            refine yG.load xik rfl (fun _ _ => rfl) (v := yI (0)) rfl rfl ?_
            refine yG.aaldO (r := 23) A_hp.1 (v_Net_names W H_r5) rfl rfl rfl (by omega) (by omega) (fun r6 H_r6 q_r6 => ?_)
            refine yG.load xik rfl (fun _ _ => rfl) (v := yI (a4)) rfl rfl ?_
            refine yG.lald A_hp.1 (v_Net_names0 W H_r6) rfl (by omega) (by omega) (fun z7 e_z7 i_z7 l_z7 u_z7 => ?_)
            refine yG.load xlk2 rfl (fun _ _ => rfl) (v := yJ (p1)) rfl rfl ?_
            refine yG.lcmp rfl ⟨by omega, by omega⟩ ⟨by omega, by omega⟩ (fun z8 e_z8 => ?_)
            refine yG.ifz rfl (t := 43) rfl ⟨by omega, by omega⟩ (fun c9 => ?_) (fun c9 => ?_)
            · have c9 : (z8 : Int) ≠ 0 := c9
              refine yG.iinc rfl (a := a4) rfl (L' := [(4, yI (a4 + 1)), (0, yR k0), (1, yJ (p1)), (3, yI (0))]) rfl ?_
              refine yG.goto rfl (t := 10) rfl ?_
              exact yG.mono (yG.sub (i_10 (0) (a4 + 1)     (by omega) (by omega) (by omega) (by omega) (by omega) (by omega) (by omega) (by omega)) (ySub.cons rfl (ySub.cons rfl (ySub.cons rfl (ySub.cons rfl (ySub.nil)))))) (by omega)
            · have c9 : (z8 : Int) = 0 := c9
              refine yG.num (c := 100) rfl (fun _ _ => rfl) (by decide) ?_
              refine yG.load xik rfl (fun _ _ => rfl) (v := yI (0)) rfl rfl ?_
              refine yG.imul rfl ?_
              refine yG.load xik rfl (fun _ _ => rfl) (v := yI (a4)) rfl rfl ?_
              refine yG.iadd rfl ?_
              refine yG.ret rfl (fun _ _ => rfl) ?_
              exact (yP.int ⟨by omega, by omega⟩ ⟨⟨(100 * 0) + a4, rfl, by omega, by omega, trivial⟩, rfl⟩)
        · subst c1
          refine yG.load xik rfl (fun _ _ => rfl) (v := yI (a4)) rfl rfl ?_
          refine yG.load xak rfl (fun _ _ => rfl) (v := yR k0) rfl rfl ?_
          refine yG.getO A_hp.1 (w_Net_count W H_k0) rfl rfl (fun r10 H_r10 O_r10 q_r10 => ?_)
          refine yG.load xik rfl (fun _ _ => rfl) (v := yI (1)) rfl rfl ?_
          refine yG.ialdF A_hp.1 (v_Net_count W H_r10) rfl rfl (by omega) (by omega) (fun z11 e_z11 i_z11 l_z11 u_z11 => ?_)
          refine yG.icmp rfl (t := 49) rfl ⟨by omega, by omega⟩ ⟨by omega, by omega⟩ (fun c12 => ?_) (fun c12 => ?_)
          · have c12 : (a4 : Int) ≥ z11 := c12
            refine yG.iinc rfl (a := 1) rfl (L' := [(3, yI (1 + 1)), (0, yR k0), (1, yJ (p1)), (4, yI (a4))]) rfl ?_
            refine yG.goto rfl (t := 2) rfl ?_
            exact yG.mono (yG.sub (i_2 (1 + 1)     (by omega) (by omega) (by omega) (by omega) (by omega)) (ySub.cons rfl (ySub.cons rfl (ySub.cons rfl (ySub.nil))))) (by omega)
          · have c12 : (a4 : Int) < z11 := c12
            refine yG.load xak rfl (fun _ _ => rfl) (v := yR k0) rfl rfl ?_
            refine yG.getO A_hp.1 (w_Net_names W H_k0) rfl rfl (fun r13 H_r13 O_r13 q_r13 => ?_)
            refine yG.load xik rfl (fun _ _ => rfl) (v := yI (1)) rfl rfl ?_
            refine yG.aaldO (r := 25) A_hp.1 (v_Net_names W H_r13) rfl rfl rfl (by omega) (by omega) (fun r14 H_r14 q_r14 => ?_)
            refine yG.load xik rfl (fun _ _ => rfl) (v := yI (a4)) rfl rfl ?_
            refine yG.lald A_hp.1 (v_Net_names1 W H_r14) rfl (by omega) (by omega) (fun z15 e_z15 i_z15 l_z15 u_z15 => ?_)
            refine yG.load xlk2 rfl (fun _ _ => rfl) (v := yJ (p1)) rfl rfl ?_
            refine yG.lcmp rfl ⟨by omega, by omega⟩ ⟨by omega, by omega⟩ (fun z16 e_z16 => ?_)
            refine yG.ifz rfl (t := 43) rfl ⟨by omega, by omega⟩ (fun c17 => ?_) (fun c17 => ?_)
            · have c17 : (z16 : Int) ≠ 0 := c17
              refine yG.iinc rfl (a := a4) rfl (L' := [(4, yI (a4 + 1)), (0, yR k0), (1, yJ (p1)), (3, yI (1))]) rfl ?_
              refine yG.goto rfl (t := 10) rfl ?_
              exact yG.mono (yG.sub (i_10 (1) (a4 + 1)     (by omega) (by omega) (by omega) (by omega) (by omega) (by omega) (by omega) (by omega)) (ySub.cons rfl (ySub.cons rfl (ySub.cons rfl (ySub.cons rfl (ySub.nil)))))) (by omega)
            · have c17 : (z16 : Int) = 0 := c17
              refine yG.num (c := 100) rfl (fun _ _ => rfl) (by decide) ?_
              refine yG.load xik rfl (fun _ _ => rfl) (v := yI (1)) rfl rfl ?_
              refine yG.imul rfl ?_
              refine yG.load xik rfl (fun _ _ => rfl) (v := yI (a4)) rfl rfl ?_
              refine yG.iadd rfl ?_
              refine yG.ret rfl (fun _ _ => rfl) ?_
              exact (yP.int ⟨by omega, by omega⟩ ⟨⟨(100 * 1) + a4, rfl, by omega, by omega, trivial⟩, rfl⟩)
        · subst c1
          refine yG.load xik rfl (fun _ _ => rfl) (v := yI (a4)) rfl rfl ?_
          refine yG.load xak rfl (fun _ _ => rfl) (v := yR k0) rfl rfl ?_
          refine yG.getO A_hp.1 (w_Net_count W H_k0) rfl rfl (fun r18 H_r18 O_r18 q_r18 => ?_)
          refine yG.load xik rfl (fun _ _ => rfl) (v := yI (2)) rfl rfl ?_
          refine yG.ialdF A_hp.1 (v_Net_count W H_r18) rfl rfl (by omega) (by omega) (fun z19 e_z19 i_z19 l_z19 u_z19 => ?_)
          refine yG.icmp rfl (t := 49) rfl ⟨by omega, by omega⟩ ⟨by omega, by omega⟩ (fun c20 => ?_) (fun c20 => ?_)
          · have c20 : (a4 : Int) ≥ z19 := c20
            refine yG.iinc rfl (a := 2) rfl (L' := [(3, yI (2 + 1)), (0, yR k0), (1, yJ (p1)), (4, yI (a4))]) rfl ?_
            refine yG.goto rfl (t := 2) rfl ?_
            exact yG.mono (yG.sub (i_2 (2 + 1)     (by omega) (by omega) (by omega) (by omega) (by omega)) (ySub.cons rfl (ySub.cons rfl (ySub.cons rfl (ySub.nil))))) (by omega)
          · have c20 : (a4 : Int) < z19 := c20
            refine yG.load xak rfl (fun _ _ => rfl) (v := yR k0) rfl rfl ?_
            refine yG.getO A_hp.1 (w_Net_names W H_k0) rfl rfl (fun r21 H_r21 O_r21 q_r21 => ?_)
            refine yG.load xik rfl (fun _ _ => rfl) (v := yI (2)) rfl rfl ?_
            refine yG.aaldO (r := 27) A_hp.1 (v_Net_names W H_r21) rfl rfl rfl (by omega) (by omega) (fun r22 H_r22 q_r22 => ?_)
            refine yG.load xik rfl (fun _ _ => rfl) (v := yI (a4)) rfl rfl ?_
            refine yG.lald A_hp.1 (v_Net_names2 W H_r22) rfl (by omega) (by omega) (fun z23 e_z23 i_z23 l_z23 u_z23 => ?_)
            refine yG.load xlk2 rfl (fun _ _ => rfl) (v := yJ (p1)) rfl rfl ?_
            refine yG.lcmp rfl ⟨by omega, by omega⟩ ⟨by omega, by omega⟩ (fun z24 e_z24 => ?_)
            refine yG.ifz rfl (t := 43) rfl ⟨by omega, by omega⟩ (fun c25 => ?_) (fun c25 => ?_)
            · have c25 : (z24 : Int) ≠ 0 := c25
              refine yG.iinc rfl (a := a4) rfl (L' := [(4, yI (a4 + 1)), (0, yR k0), (1, yJ (p1)), (3, yI (2))]) rfl ?_
              refine yG.goto rfl (t := 10) rfl ?_
              exact yG.mono (yG.sub (i_10 (2) (a4 + 1)     (by omega) (by omega) (by omega) (by omega) (by omega) (by omega) (by omega) (by omega)) (ySub.cons rfl (ySub.cons rfl (ySub.cons rfl (ySub.cons rfl (ySub.nil)))))) (by omega)
            · have c25 : (z24 : Int) = 0 := c25
              refine yG.num (c := 100) rfl (fun _ _ => rfl) (by decide) ?_
              refine yG.load xik rfl (fun _ _ => rfl) (v := yI (2)) rfl rfl ?_
              refine yG.imul rfl ?_
              refine yG.load xik rfl (fun _ _ => rfl) (v := yI (a4)) rfl rfl ?_
              refine yG.iadd rfl ?_
              refine yG.ret rfl (fun _ _ => rfl) ?_
              exact (yP.int ⟨by omega, by omega⟩ ⟨⟨(100 * 2) + a4, rfl, by omega, by omega, trivial⟩, rfl⟩)
        · subst c1
          refine yG.load xik rfl (fun _ _ => rfl) (v := yI (a4)) rfl rfl ?_
          refine yG.load xak rfl (fun _ _ => rfl) (v := yR k0) rfl rfl ?_
          refine yG.getO A_hp.1 (w_Net_count W H_k0) rfl rfl (fun r26 H_r26 O_r26 q_r26 => ?_)
          refine yG.load xik rfl (fun _ _ => rfl) (v := yI (3)) rfl rfl ?_
          refine yG.ialdF A_hp.1 (v_Net_count W H_r26) rfl rfl (by omega) (by omega) (fun z27 e_z27 i_z27 l_z27 u_z27 => ?_)
          refine yG.icmp rfl (t := 49) rfl ⟨by omega, by omega⟩ ⟨by omega, by omega⟩ (fun c28 => ?_) (fun c28 => ?_)
          · have c28 : (a4 : Int) ≥ z27 := c28
            refine yG.iinc rfl (a := 3) rfl (L' := [(3, yI (3 + 1)), (0, yR k0), (1, yJ (p1)), (4, yI (a4))]) rfl ?_
            refine yG.goto rfl (t := 2) rfl ?_
            exact yG.mono (yG.sub (i_2 (3 + 1)     (by omega) (by omega) (by omega) (by omega) (by omega)) (ySub.cons rfl (ySub.cons rfl (ySub.cons rfl (ySub.nil))))) (by omega)
          · have c28 : (a4 : Int) < z27 := c28
            refine yG.load xak rfl (fun _ _ => rfl) (v := yR k0) rfl rfl ?_
            refine yG.getO A_hp.1 (w_Net_names W H_k0) rfl rfl (fun r29 H_r29 O_r29 q_r29 => ?_)
            refine yG.load xik rfl (fun _ _ => rfl) (v := yI (3)) rfl rfl ?_
            refine yG.aaldO (r := 29) A_hp.1 (v_Net_names W H_r29) rfl rfl rfl (by omega) (by omega) (fun r30 H_r30 q_r30 => ?_)
            refine yG.load xik rfl (fun _ _ => rfl) (v := yI (a4)) rfl rfl ?_
            refine yG.lald A_hp.1 (v_Net_names3 W H_r30) rfl (by omega) (by omega) (fun z31 e_z31 i_z31 l_z31 u_z31 => ?_)
            refine yG.load xlk2 rfl (fun _ _ => rfl) (v := yJ (p1)) rfl rfl ?_
            refine yG.lcmp rfl ⟨by omega, by omega⟩ ⟨by omega, by omega⟩ (fun z32 e_z32 => ?_)
            refine yG.ifz rfl (t := 43) rfl ⟨by omega, by omega⟩ (fun c33 => ?_) (fun c33 => ?_)
            · have c33 : (z32 : Int) ≠ 0 := c33
              refine yG.iinc rfl (a := a4) rfl (L' := [(4, yI (a4 + 1)), (0, yR k0), (1, yJ (p1)), (3, yI (3))]) rfl ?_
              refine yG.goto rfl (t := 10) rfl ?_
              exact yG.mono (yG.sub (i_10 (3) (a4 + 1)     (by omega) (by omega) (by omega) (by omega) (by omega) (by omega) (by omega) (by omega)) (ySub.cons rfl (ySub.cons rfl (ySub.cons rfl (ySub.cons rfl (ySub.nil)))))) (by omega)
            · have c33 : (z32 : Int) = 0 := c33
              refine yG.num (c := 100) rfl (fun _ _ => rfl) (by decide) ?_
              refine yG.load xik rfl (fun _ _ => rfl) (v := yI (3)) rfl rfl ?_
              refine yG.imul rfl ?_
              refine yG.load xik rfl (fun _ _ => rfl) (v := yI (a4)) rfl rfl ?_
              refine yG.iadd rfl ?_
              refine yG.ret rfl (fun _ _ => rfl) ?_
              exact (yP.int ⟨by omega, by omega⟩ ⟨⟨(100 * 3) + a4, rfl, by omega, by omega, trivial⟩, rfl⟩)
        · subst c1
          refine yG.load xik rfl (fun _ _ => rfl) (v := yI (a4)) rfl rfl ?_
          refine yG.load xak rfl (fun _ _ => rfl) (v := yR k0) rfl rfl ?_
          refine yG.getO A_hp.1 (w_Net_count W H_k0) rfl rfl (fun r34 H_r34 O_r34 q_r34 => ?_)
          refine yG.load xik rfl (fun _ _ => rfl) (v := yI (4)) rfl rfl ?_
          refine yG.ialdF A_hp.1 (v_Net_count W H_r34) rfl rfl (by omega) (by omega) (fun z35 e_z35 i_z35 l_z35 u_z35 => ?_)
          refine yG.icmp rfl (t := 49) rfl ⟨by omega, by omega⟩ ⟨by omega, by omega⟩ (fun c36 => ?_) (fun c36 => ?_)
          · have c36 : (a4 : Int) ≥ z35 := c36
            refine yG.iinc rfl (a := 4) rfl (L' := [(3, yI (4 + 1)), (0, yR k0), (1, yJ (p1)), (4, yI (a4))]) rfl ?_
            refine yG.goto rfl (t := 2) rfl ?_
            exact yG.mono (yG.sub (i_2 (4 + 1)     (by omega) (by omega) (by omega) (by omega) (by omega)) (ySub.cons rfl (ySub.cons rfl (ySub.cons rfl (ySub.nil))))) (by omega)
          · have c36 : (a4 : Int) < z35 := c36
            refine yG.load xak rfl (fun _ _ => rfl) (v := yR k0) rfl rfl ?_
            refine yG.getO A_hp.1 (w_Net_names W H_k0) rfl rfl (fun r37 H_r37 O_r37 q_r37 => ?_)
            refine yG.load xik rfl (fun _ _ => rfl) (v := yI (4)) rfl rfl ?_
            refine yG.aaldO (r := 31) A_hp.1 (v_Net_names W H_r37) rfl rfl rfl (by omega) (by omega) (fun r38 H_r38 q_r38 => ?_)
            refine yG.load xik rfl (fun _ _ => rfl) (v := yI (a4)) rfl rfl ?_
            refine yG.lald A_hp.1 (v_Net_names4 W H_r38) rfl (by omega) (by omega) (fun z39 e_z39 i_z39 l_z39 u_z39 => ?_)
            refine yG.load xlk2 rfl (fun _ _ => rfl) (v := yJ (p1)) rfl rfl ?_
            refine yG.lcmp rfl ⟨by omega, by omega⟩ ⟨by omega, by omega⟩ (fun z40 e_z40 => ?_)
            refine yG.ifz rfl (t := 43) rfl ⟨by omega, by omega⟩ (fun c41 => ?_) (fun c41 => ?_)
            · have c41 : (z40 : Int) ≠ 0 := c41
              refine yG.iinc rfl (a := a4) rfl (L' := [(4, yI (a4 + 1)), (0, yR k0), (1, yJ (p1)), (3, yI (4))]) rfl ?_
              refine yG.goto rfl (t := 10) rfl ?_
              exact yG.mono (yG.sub (i_10 (4) (a4 + 1)     (by omega) (by omega) (by omega) (by omega) (by omega) (by omega) (by omega) (by omega)) (ySub.cons rfl (ySub.cons rfl (ySub.cons rfl (ySub.cons rfl (ySub.nil)))))) (by omega)
            · have c41 : (z40 : Int) = 0 := c41
              refine yG.num (c := 100) rfl (fun _ _ => rfl) (by decide) ?_
              refine yG.load xik rfl (fun _ _ => rfl) (v := yI (4)) rfl rfl ?_
              refine yG.imul rfl ?_
              refine yG.load xik rfl (fun _ _ => rfl) (v := yI (a4)) rfl rfl ?_
              refine yG.iadd rfl ?_
              refine yG.ret rfl (fun _ _ => rfl) ?_
              exact (yP.int ⟨by omega, by omega⟩ ⟨⟨(100 * 4) + a4, rfl, by omega, by omega, trivial⟩, rfl⟩)
  refine yC.of (M := (xt_X5_named, (5, (1, (6, []))))) rfl rfl (N := 7084) (yfuel (by decide)) ?_
  show yG 89 xfts (xcall 89 xfts xpools xms d) (xpool xp_RX5) [] xt_X5_named (yP 1 (bQpi hp (-1) 411 (fun _ => True))) 7084 0 [(0, yR k0), (1, yJ (p1))] [] hp
  obtain ⟨i_2, i_10⟩ := H 307
  refine yG.num (c := 0) rfl (fun _ _ => rfl) (by decide) ?_
  refine yG.store1 xik (L' := [(3, yI (0)), (0, yR k0), (1, yJ (p1))]) rfl (fun _ _ => rfl) rfl rfl ?_
  exact yG.mono (yG.sub (i_2 (0)     (by omega) (by omega) (by omega) (by omega) (by omega)) (ySub.cons rfl (ySub.cons rfl (ySub.cons rfl (ySub.nil))))) (by omega)
theorem c_Net_named__0 {hp : xH} (W : bW G) (d : Nat) (hT : zTy G hp) {k0 : Nat} (H_k0 : bRo G 18 k0) {k1 : Nat} (H_k1 : bRo G 15 k1) : yC (xcall 89 xfts xpools xms (d + 1)) 161 [yR k0, yR k1, yI (0)] hp (bQpi hp (-1) 15 (fun _ => True)) := by
  have A_hp : bAx G [] hp hp := bAx.rf hT
  have H : ∀ m : Nat, (∀ a3 : Int, 0 ≤ a3 → (-16) ≤ 0 - a3 → 0 - 2 * a3 + 33 < (m : Int) → yG 89 xfts (xcall 89 xfts xpools xms d) (xpool xp_RX5) [] xt_X5_named_ (yP 1 (bQpi hp (-1) 15 (fun _ => True))) (20 * m) 2 [(0, yR k0), (1, yR k1), (2, yI (0)), (3, yI (a3))] [] hp) := by
    intro m
    induction m with
    | zero =>
      intros; exfalso; omega
    | succ m ih =>
      have i_2 := ih
      clear ih
      intro a3 f0 f1 hm
      refine yG.mono (N := 20 * m + 20) ?_ (by omega)
      refine yG.load xik rfl (fun _ _ => rfl) (v := yI (a3)) rfl rfl ?_
      refine yG.load xak rfl (fun _ _ => rfl) (v := yR k0) rfl rfl ?_
      refine yG.getO A_hp.1 (w_Net_count W H_k0) rfl rfl (fun r1 H_r1 O_r1 q_r1 => ?_)
      refine yG.load xik rfl (fun _ _ => rfl) (v := yI (0)) rfl rfl ?_
      refine yG.ialdF A_hp.1 (v_Net_count W H_r1) rfl rfl (by omega) (by omega) (fun z2 e_z2 i_z2 l_z2 u_z2 => ?_)
      refine yG.icmp rfl (t := 36) rfl ⟨by omega, by omega⟩ ⟨by omega, by omega⟩ (fun c3 => ?_) (fun c3 => ?_)
      · have c3 : (a3 : Int) ≥ z2 := c3
        refine yG.num (c := -1) rfl (fun _ _ => rfl) (by decide) ?_
        refine yG.ret rfl (fun _ _ => rfl) ?_
        exact (yP.int ⟨by omega, by omega⟩ ⟨⟨(-1), rfl, by omega, by omega, trivial⟩, rfl⟩)
      · have c3 : (a3 : Int) < z2 := c3
        refine yG.load xak rfl (fun _ _ => rfl) (v := yR k0) rfl rfl ?_
        refine yG.getO A_hp.1 (w_Net_names W H_k0) rfl rfl (fun r4 H_r4 O_r4 q_r4 => ?_)
        refine yG.load xik rfl (fun _ _ => rfl) (v := yI (0)) rfl rfl ?_
        refine yG.aaldO (r := 23) A_hp.1 (v_Net_names W H_r4) rfl rfl rfl (by omega) (by omega) (fun r5 H_r5 q_r5 => ?_)
        refine yG.load xik rfl (fun _ _ => rfl) (v := yI (a3)) rfl rfl ?_
        refine yG.lald A_hp.1 (v_Net_names0 W H_r5) rfl (by omega) (by omega) (fun z6 e_z6 i_z6 l_z6 u_z6 => ?_)
        refine yG.load xak rfl (fun _ _ => rfl) (v := yR k1) rfl rfl ?_
        refine yG.getJ A_hp.1 (w_Tape_word W H_k1) rfl rfl (fun z7 e_z7 i_z7 l_z7 u_z7 => ?_)
        refine yG.lcmp rfl ⟨by omega, by omega⟩ ⟨by omega, by omega⟩ (fun z8 e_z8 => ?_)
        refine yG.ifz rfl (t := 30) rfl ⟨by omega, by omega⟩ (fun c9 => ?_) (fun c9 => ?_)
        · have c9 : (z8 : Int) ≠ 0 := c9
          refine yG.iinc rfl (a := a3) rfl (L' := [(3, yI (a3 + 1)), (0, yR k0), (1, yR k1), (2, yI (0))]) rfl ?_
          refine yG.goto rfl (t := 2) rfl ?_
          exact yG.mono (yG.sub (i_2 (a3 + 1)     (by omega) (by omega) (by omega)) (ySub.cons rfl (ySub.cons rfl (ySub.cons rfl (ySub.cons rfl (ySub.nil)))))) (by omega)
        · have c9 : (z8 : Int) = 0 := c9
          refine yG.load xik rfl (fun _ _ => rfl) (v := yI (a3)) rfl rfl ?_
          refine yG.ret rfl (fun _ _ => rfl) ?_
          exact (yP.int ⟨by omega, by omega⟩ ⟨⟨a3, rfl, by omega, by omega, trivial⟩, rfl⟩)
  refine yC.of (M := (xt_X5_named_, (4, (1, (6, []))))) rfl rfl (N := 720) (yfuel (by decide)) ?_
  show yG 89 xfts (xcall 89 xfts xpools xms d) (xpool xp_RX5) [] xt_X5_named_ (yP 1 (bQpi hp (-1) 15 (fun _ => True))) 720 0 [(0, yR k0), (1, yR k1), (2, yI (0))] [] hp
  have i_2 := H 35
  refine yG.num (c := 0) rfl (fun _ _ => rfl) (by decide) ?_
  refine yG.store1 xik (L' := [(3, yI (0)), (0, yR k0), (1, yR k1), (2, yI (0))]) rfl (fun _ _ => rfl) rfl rfl ?_
  exact yG.mono (yG.sub (i_2 (0)     (by omega) (by omega) (by omega)) (ySub.cons rfl (ySub.cons rfl (ySub.cons rfl (ySub.cons rfl (ySub.nil)))))) (by omega)
theorem c_Net_named__1 {hp : xH} (W : bW G) (d : Nat) (hT : zTy G hp) {k0 : Nat} (H_k0 : bRo G 18 k0) {k1 : Nat} (H_k1 : bRo G 15 k1) : yC (xcall 89 xfts xpools xms (d + 1)) 161 [yR k0, yR k1, yI (1)] hp (bQpi hp (-1) 23 (fun _ => True)) := by
  have A_hp : bAx G [] hp hp := bAx.rf hT
  have H : ∀ m : Nat, (∀ a3 : Int, 0 ≤ a3 → (-24) ≤ 0 - a3 → 0 - 2 * a3 + 49 < (m : Int) → yG 89 xfts (xcall 89 xfts xpools xms d) (xpool xp_RX5) [] xt_X5_named_ (yP 1 (bQpi hp (-1) 23 (fun _ => True))) (20 * m) 2 [(0, yR k0), (1, yR k1), (2, yI (1)), (3, yI (a3))] [] hp) := by
    intro m
    induction m with
    | zero =>
      intros; exfalso; omega
    | succ m ih =>
      have i_2 := ih
      clear ih
      intro a3 f0 f1 hm
      refine yG.mono (N := 20 * m + 20) ?_ (by omega)
      refine yG.load xik rfl (fun _ _ => rfl) (v := yI (a3)) rfl rfl ?_
      refine yG.load xak rfl (fun _ _ => rfl) (v := yR k0) rfl rfl ?_
      refine yG.getO A_hp.1 (w_Net_count W H_k0) rfl rfl (fun r1 H_r1 O_r1 q_r1 => ?_)
      refine yG.load xik rfl (fun _ _ => rfl) (v := yI (1)) rfl rfl ?_
      refine yG.ialdF A_hp.1 (v_Net_count W H_r1) rfl rfl (by omega) (by omega) (fun z2 e_z2 i_z2 l_z2 u_z2 => ?_)
      refine yG.icmp rfl (t := 36) rfl ⟨by omega, by omega⟩ ⟨by omega, by omega⟩ (fun c3 => ?_) (fun c3 => ?_)
      · have c3 : (a3 : Int) ≥ z2 := c3
        refine yG.num (c := -1) rfl (fun _ _ => rfl) (by decide) ?_
        refine yG.ret rfl (fun _ _ => rfl) ?_
        exact (yP.int ⟨by omega, by omega⟩ ⟨⟨(-1), rfl, by omega, by omega, trivial⟩, rfl⟩)
      · have c3 : (a3 : Int) < z2 := c3
        refine yG.load xak rfl (fun _ _ => rfl) (v := yR k0) rfl rfl ?_
        refine yG.getO A_hp.1 (w_Net_names W H_k0) rfl rfl (fun r4 H_r4 O_r4 q_r4 => ?_)
        refine yG.load xik rfl (fun _ _ => rfl) (v := yI (1)) rfl rfl ?_
        refine yG.aaldO (r := 25) A_hp.1 (v_Net_names W H_r4) rfl rfl rfl (by omega) (by omega) (fun r5 H_r5 q_r5 => ?_)
        refine yG.load xik rfl (fun _ _ => rfl) (v := yI (a3)) rfl rfl ?_
        refine yG.lald A_hp.1 (v_Net_names1 W H_r5) rfl (by omega) (by omega) (fun z6 e_z6 i_z6 l_z6 u_z6 => ?_)
        refine yG.load xak rfl (fun _ _ => rfl) (v := yR k1) rfl rfl ?_
        refine yG.getJ A_hp.1 (w_Tape_word W H_k1) rfl rfl (fun z7 e_z7 i_z7 l_z7 u_z7 => ?_)
        refine yG.lcmp rfl ⟨by omega, by omega⟩ ⟨by omega, by omega⟩ (fun z8 e_z8 => ?_)
        refine yG.ifz rfl (t := 30) rfl ⟨by omega, by omega⟩ (fun c9 => ?_) (fun c9 => ?_)
        · have c9 : (z8 : Int) ≠ 0 := c9
          refine yG.iinc rfl (a := a3) rfl (L' := [(3, yI (a3 + 1)), (0, yR k0), (1, yR k1), (2, yI (1))]) rfl ?_
          refine yG.goto rfl (t := 2) rfl ?_
          exact yG.mono (yG.sub (i_2 (a3 + 1)     (by omega) (by omega) (by omega)) (ySub.cons rfl (ySub.cons rfl (ySub.cons rfl (ySub.cons rfl (ySub.nil)))))) (by omega)
        · have c9 : (z8 : Int) = 0 := c9
          refine yG.load xik rfl (fun _ _ => rfl) (v := yI (a3)) rfl rfl ?_
          refine yG.ret rfl (fun _ _ => rfl) ?_
          exact (yP.int ⟨by omega, by omega⟩ ⟨⟨a3, rfl, by omega, by omega, trivial⟩, rfl⟩)
  refine yC.of (M := (xt_X5_named_, (4, (1, (6, []))))) rfl rfl (N := 1040) (yfuel (by decide)) ?_
  show yG 89 xfts (xcall 89 xfts xpools xms d) (xpool xp_RX5) [] xt_X5_named_ (yP 1 (bQpi hp (-1) 23 (fun _ => True))) 1040 0 [(0, yR k0), (1, yR k1), (2, yI (1))] [] hp
  have i_2 := H 51
  refine yG.num (c := 0) rfl (fun _ _ => rfl) (by decide) ?_
  refine yG.store1 xik (L' := [(3, yI (0)), (0, yR k0), (1, yR k1), (2, yI (1))]) rfl (fun _ _ => rfl) rfl rfl ?_
  exact yG.mono (yG.sub (i_2 (0)     (by omega) (by omega) (by omega)) (ySub.cons rfl (ySub.cons rfl (ySub.cons rfl (ySub.cons rfl (ySub.nil)))))) (by omega)
theorem c_Net_named__2 {hp : xH} (W : bW G) (d : Nat) (hT : zTy G hp) {k0 : Nat} (H_k0 : bRo G 18 k0) {k1 : Nat} (H_k1 : bRo G 15 k1) : yC (xcall 89 xfts xpools xms (d + 1)) 161 [yR k0, yR k1, yI (2)] hp (bQpi hp (-1) 19 (fun _ => True)) := by
  have A_hp : bAx G [] hp hp := bAx.rf hT
  have H : ∀ m : Nat, (∀ a3 : Int, 0 ≤ a3 → (-20) ≤ 0 - a3 → 0 - 2 * a3 + 41 < (m : Int) → yG 89 xfts (xcall 89 xfts xpools xms d) (xpool xp_RX5) [] xt_X5_named_ (yP 1 (bQpi hp (-1) 19 (fun _ => True))) (20 * m) 2 [(0, yR k0), (1, yR k1), (2, yI (2)), (3, yI (a3))] [] hp) := by
    intro m
    induction m with
    | zero =>
      intros; exfalso; omega
    | succ m ih =>
      have i_2 := ih
      clear ih
      intro a3 f0 f1 hm
      refine yG.mono (N := 20 * m + 20) ?_ (by omega)
      refine yG.load xik rfl (fun _ _ => rfl) (v := yI (a3)) rfl rfl ?_
      refine yG.load xak rfl (fun _ _ => rfl) (v := yR k0) rfl rfl ?_
      refine yG.getO A_hp.1 (w_Net_count W H_k0) rfl rfl (fun r1 H_r1 O_r1 q_r1 => ?_)
      refine yG.load xik rfl (fun _ _ => rfl) (v := yI (2)) rfl rfl ?_
      refine yG.ialdF A_hp.1 (v_Net_count W H_r1) rfl rfl (by omega) (by omega) (fun z2 e_z2 i_z2 l_z2 u_z2 => ?_)
      refine yG.icmp rfl (t := 36) rfl ⟨by omega, by omega⟩ ⟨by omega, by omega⟩ (fun c3 => ?_) (fun c3 => ?_)
      · have c3 : (a3 : Int) ≥ z2 := c3
        refine yG.num (c := -1) rfl (fun _ _ => rfl) (by decide) ?_
        refine yG.ret rfl (fun _ _ => rfl) ?_
        exact (yP.int ⟨by omega, by omega⟩ ⟨⟨(-1), rfl, by omega, by omega, trivial⟩, rfl⟩)
      · have c3 : (a3 : Int) < z2 := c3
        refine yG.load xak rfl (fun _ _ => rfl) (v := yR k0) rfl rfl ?_
        refine yG.getO A_hp.1 (w_Net_names W H_k0) rfl rfl (fun r4 H_r4 O_r4 q_r4 => ?_)
        refine yG.load xik rfl (fun _ _ => rfl) (v := yI (2)) rfl rfl ?_
        refine yG.aaldO (r := 27) A_hp.1 (v_Net_names W H_r4) rfl rfl rfl (by omega) (by omega) (fun r5 H_r5 q_r5 => ?_)
        refine yG.load xik rfl (fun _ _ => rfl) (v := yI (a3)) rfl rfl ?_
        refine yG.lald A_hp.1 (v_Net_names2 W H_r5) rfl (by omega) (by omega) (fun z6 e_z6 i_z6 l_z6 u_z6 => ?_)
        refine yG.load xak rfl (fun _ _ => rfl) (v := yR k1) rfl rfl ?_
        refine yG.getJ A_hp.1 (w_Tape_word W H_k1) rfl rfl (fun z7 e_z7 i_z7 l_z7 u_z7 => ?_)
        refine yG.lcmp rfl ⟨by omega, by omega⟩ ⟨by omega, by omega⟩ (fun z8 e_z8 => ?_)
        refine yG.ifz rfl (t := 30) rfl ⟨by omega, by omega⟩ (fun c9 => ?_) (fun c9 => ?_)
        · have c9 : (z8 : Int) ≠ 0 := c9
          refine yG.iinc rfl (a := a3) rfl (L' := [(3, yI (a3 + 1)), (0, yR k0), (1, yR k1), (2, yI (2))]) rfl ?_
          refine yG.goto rfl (t := 2) rfl ?_
          exact yG.mono (yG.sub (i_2 (a3 + 1)     (by omega) (by omega) (by omega)) (ySub.cons rfl (ySub.cons rfl (ySub.cons rfl (ySub.cons rfl (ySub.nil)))))) (by omega)
        · have c9 : (z8 : Int) = 0 := c9
          refine yG.load xik rfl (fun _ _ => rfl) (v := yI (a3)) rfl rfl ?_
          refine yG.ret rfl (fun _ _ => rfl) ?_
          exact (yP.int ⟨by omega, by omega⟩ ⟨⟨a3, rfl, by omega, by omega, trivial⟩, rfl⟩)
  refine yC.of (M := (xt_X5_named_, (4, (1, (6, []))))) rfl rfl (N := 880) (yfuel (by decide)) ?_
  show yG 89 xfts (xcall 89 xfts xpools xms d) (xpool xp_RX5) [] xt_X5_named_ (yP 1 (bQpi hp (-1) 19 (fun _ => True))) 880 0 [(0, yR k0), (1, yR k1), (2, yI (2))] [] hp
  have i_2 := H 43
  refine yG.num (c := 0) rfl (fun _ _ => rfl) (by decide) ?_
  refine yG.store1 xik (L' := [(3, yI (0)), (0, yR k0), (1, yR k1), (2, yI (2))]) rfl (fun _ _ => rfl) rfl rfl ?_
  exact yG.mono (yG.sub (i_2 (0)     (by omega) (by omega) (by omega)) (ySub.cons rfl (ySub.cons rfl (ySub.cons rfl (ySub.cons rfl (ySub.nil)))))) (by omega)
theorem c_Net_named__3 {hp : xH} (W : bW G) (d : Nat) (hT : zTy G hp) {k0 : Nat} (H_k0 : bRo G 18 k0) {k1 : Nat} (H_k1 : bRo G 15 k1) : yC (xcall 89 xfts xpools xms (d + 1)) 161 [yR k0, yR k1, yI (3)] hp (bQpi hp (-1) 5 (fun _ => True)) := by
  have A_hp : bAx G [] hp hp := bAx.rf hT
  have H : ∀ m : Nat, (∀ a3 : Int, 0 ≤ a3 → (-6) ≤ 0 - a3 → 0 - 2 * a3 + 13 < (m : Int) → yG 89 xfts (xcall 89 xfts xpools xms d) (xpool xp_RX5) [] xt_X5_named_ (yP 1 (bQpi hp (-1) 5 (fun _ => True))) (20 * m) 2 [(0, yR k0), (1, yR k1), (2, yI (3)), (3, yI (a3))] [] hp) := by
    intro m
    induction m with
    | zero =>
      intros; exfalso; omega
    | succ m ih =>
      have i_2 := ih
      clear ih
      intro a3 f0 f1 hm
      refine yG.mono (N := 20 * m + 20) ?_ (by omega)
      refine yG.load xik rfl (fun _ _ => rfl) (v := yI (a3)) rfl rfl ?_
      refine yG.load xak rfl (fun _ _ => rfl) (v := yR k0) rfl rfl ?_
      refine yG.getO A_hp.1 (w_Net_count W H_k0) rfl rfl (fun r1 H_r1 O_r1 q_r1 => ?_)
      refine yG.load xik rfl (fun _ _ => rfl) (v := yI (3)) rfl rfl ?_
      refine yG.ialdF A_hp.1 (v_Net_count W H_r1) rfl rfl (by omega) (by omega) (fun z2 e_z2 i_z2 l_z2 u_z2 => ?_)
      refine yG.icmp rfl (t := 36) rfl ⟨by omega, by omega⟩ ⟨by omega, by omega⟩ (fun c3 => ?_) (fun c3 => ?_)
      · have c3 : (a3 : Int) ≥ z2 := c3
        refine yG.num (c := -1) rfl (fun _ _ => rfl) (by decide) ?_
        refine yG.ret rfl (fun _ _ => rfl) ?_
        exact (yP.int ⟨by omega, by omega⟩ ⟨⟨(-1), rfl, by omega, by omega, trivial⟩, rfl⟩)
      · have c3 : (a3 : Int) < z2 := c3
        refine yG.load xak rfl (fun _ _ => rfl) (v := yR k0) rfl rfl ?_
        refine yG.getO A_hp.1 (w_Net_names W H_k0) rfl rfl (fun r4 H_r4 O_r4 q_r4 => ?_)
        refine yG.load xik rfl (fun _ _ => rfl) (v := yI (3)) rfl rfl ?_
        refine yG.aaldO (r := 29) A_hp.1 (v_Net_names W H_r4) rfl rfl rfl (by omega) (by omega) (fun r5 H_r5 q_r5 => ?_)
        refine yG.load xik rfl (fun _ _ => rfl) (v := yI (a3)) rfl rfl ?_
        refine yG.lald A_hp.1 (v_Net_names3 W H_r5) rfl (by omega) (by omega) (fun z6 e_z6 i_z6 l_z6 u_z6 => ?_)
        refine yG.load xak rfl (fun _ _ => rfl) (v := yR k1) rfl rfl ?_
        refine yG.getJ A_hp.1 (w_Tape_word W H_k1) rfl rfl (fun z7 e_z7 i_z7 l_z7 u_z7 => ?_)
        refine yG.lcmp rfl ⟨by omega, by omega⟩ ⟨by omega, by omega⟩ (fun z8 e_z8 => ?_)
        refine yG.ifz rfl (t := 30) rfl ⟨by omega, by omega⟩ (fun c9 => ?_) (fun c9 => ?_)
        · have c9 : (z8 : Int) ≠ 0 := c9
          refine yG.iinc rfl (a := a3) rfl (L' := [(3, yI (a3 + 1)), (0, yR k0), (1, yR k1), (2, yI (3))]) rfl ?_
          refine yG.goto rfl (t := 2) rfl ?_
          exact yG.mono (yG.sub (i_2 (a3 + 1)     (by omega) (by omega) (by omega)) (ySub.cons rfl (ySub.cons rfl (ySub.cons rfl (ySub.cons rfl (ySub.nil)))))) (by omega)
        · have c9 : (z8 : Int) = 0 := c9
          refine yG.load xik rfl (fun _ _ => rfl) (v := yI (a3)) rfl rfl ?_
          refine yG.ret rfl (fun _ _ => rfl) ?_
          exact (yP.int ⟨by omega, by omega⟩ ⟨⟨a3, rfl, by omega, by omega, trivial⟩, rfl⟩)
  refine yC.of (M := (xt_X5_named_, (4, (1, (6, []))))) rfl rfl (N := 320) (yfuel (by decide)) ?_
  show yG 89 xfts (xcall 89 xfts xpools xms d) (xpool xp_RX5) [] xt_X5_named_ (yP 1 (bQpi hp (-1) 5 (fun _ => True))) 320 0 [(0, yR k0), (1, yR k1), (2, yI (3))] [] hp
  have i_2 := H 15
  refine yG.num (c := 0) rfl (fun _ _ => rfl) (by decide) ?_
  refine yG.store1 xik (L' := [(3, yI (0)), (0, yR k0), (1, yR k1), (2, yI (3))]) rfl (fun _ _ => rfl) rfl rfl ?_
  exact yG.mono (yG.sub (i_2 (0)     (by omega) (by omega) (by omega)) (ySub.cons rfl (ySub.cons rfl (ySub.cons rfl (ySub.cons rfl (ySub.nil)))))) (by omega)
theorem c_Net_named__4 {hp : xH} (W : bW G) (d : Nat) (hT : zTy G hp) {k0 : Nat} (H_k0 : bRo G 18 k0) {k1 : Nat} (H_k1 : bRo G 15 k1) : yC (xcall 89 xfts xpools xms (d + 1)) 161 [yR k0, yR k1, yI (4)] hp (bQpi hp (-1) 11 (fun _ => True)) := by
  have A_hp : bAx G [] hp hp := bAx.rf hT
  have H : ∀ m : Nat, (∀ a3 : Int, 0 ≤ a3 → (-12) ≤ 0 - a3 → 0 - 2 * a3 + 25 < (m : Int) → yG 89 xfts (xcall 89 xfts xpools xms d) (xpool xp_RX5) [] xt_X5_named_ (yP 1 (bQpi hp (-1) 11 (fun _ => True))) (20 * m) 2 [(0, yR k0), (1, yR k1), (2, yI (4)), (3, yI (a3))] [] hp) := by
    intro m
    induction m with
    | zero =>
      intros; exfalso; omega
    | succ m ih =>
      have i_2 := ih
      clear ih
      intro a3 f0 f1 hm
      refine yG.mono (N := 20 * m + 20) ?_ (by omega)
      refine yG.load xik rfl (fun _ _ => rfl) (v := yI (a3)) rfl rfl ?_
      refine yG.load xak rfl (fun _ _ => rfl) (v := yR k0) rfl rfl ?_
      refine yG.getO A_hp.1 (w_Net_count W H_k0) rfl rfl (fun r1 H_r1 O_r1 q_r1 => ?_)
      refine yG.load xik rfl (fun _ _ => rfl) (v := yI (4)) rfl rfl ?_
      refine yG.ialdF A_hp.1 (v_Net_count W H_r1) rfl rfl (by omega) (by omega) (fun z2 e_z2 i_z2 l_z2 u_z2 => ?_)
      refine yG.icmp rfl (t := 36) rfl ⟨by omega, by omega⟩ ⟨by omega, by omega⟩ (fun c3 => ?_) (fun c3 => ?_)
      · have c3 : (a3 : Int) ≥ z2 := c3
        refine yG.num (c := -1) rfl (fun _ _ => rfl) (by decide) ?_
        refine yG.ret rfl (fun _ _ => rfl) ?_
        exact (yP.int ⟨by omega, by omega⟩ ⟨⟨(-1), rfl, by omega, by omega, trivial⟩, rfl⟩)
      · have c3 : (a3 : Int) < z2 := c3
        refine yG.load xak rfl (fun _ _ => rfl) (v := yR k0) rfl rfl ?_
        refine yG.getO A_hp.1 (w_Net_names W H_k0) rfl rfl (fun r4 H_r4 O_r4 q_r4 => ?_)
        refine yG.load xik rfl (fun _ _ => rfl) (v := yI (4)) rfl rfl ?_
        refine yG.aaldO (r := 31) A_hp.1 (v_Net_names W H_r4) rfl rfl rfl (by omega) (by omega) (fun r5 H_r5 q_r5 => ?_)
        refine yG.load xik rfl (fun _ _ => rfl) (v := yI (a3)) rfl rfl ?_
        refine yG.lald A_hp.1 (v_Net_names4 W H_r5) rfl (by omega) (by omega) (fun z6 e_z6 i_z6 l_z6 u_z6 => ?_)
        refine yG.load xak rfl (fun _ _ => rfl) (v := yR k1) rfl rfl ?_
        refine yG.getJ A_hp.1 (w_Tape_word W H_k1) rfl rfl (fun z7 e_z7 i_z7 l_z7 u_z7 => ?_)
        refine yG.lcmp rfl ⟨by omega, by omega⟩ ⟨by omega, by omega⟩ (fun z8 e_z8 => ?_)
        refine yG.ifz rfl (t := 30) rfl ⟨by omega, by omega⟩ (fun c9 => ?_) (fun c9 => ?_)
        · have c9 : (z8 : Int) ≠ 0 := c9
          refine yG.iinc rfl (a := a3) rfl (L' := [(3, yI (a3 + 1)), (0, yR k0), (1, yR k1), (2, yI (4))]) rfl ?_
          refine yG.goto rfl (t := 2) rfl ?_
          exact yG.mono (yG.sub (i_2 (a3 + 1)     (by omega) (by omega) (by omega)) (ySub.cons rfl (ySub.cons rfl (ySub.cons rfl (ySub.cons rfl (ySub.nil)))))) (by omega)
        · have c9 : (z8 : Int) = 0 := c9
          refine yG.load xik rfl (fun _ _ => rfl) (v := yI (a3)) rfl rfl ?_
          refine yG.ret rfl (fun _ _ => rfl) ?_
          exact (yP.int ⟨by omega, by omega⟩ ⟨⟨a3, rfl, by omega, by omega, trivial⟩, rfl⟩)
  refine yC.of (M := (xt_X5_named_, (4, (1, (6, []))))) rfl rfl (N := 560) (yfuel (by decide)) ?_
  show yG 89 xfts (xcall 89 xfts xpools xms d) (xpool xp_RX5) [] xt_X5_named_ (yP 1 (bQpi hp (-1) 11 (fun _ => True))) 560 0 [(0, yR k0), (1, yR k1), (2, yI (4))] [] hp
  have i_2 := H 27
  refine yG.num (c := 0) rfl (fun _ _ => rfl) (by decide) ?_
  refine yG.store1 xik (L' := [(3, yI (0)), (0, yR k0), (1, yR k1), (2, yI (4))]) rfl (fun _ _ => rfl) rfl rfl ?_
  exact yG.mono (yG.sub (i_2 (0)     (by omega) (by omega) (by omega)) (ySub.cons rfl (ySub.cons rfl (ySub.cons rfl (ySub.cons rfl (ySub.nil)))))) (by omega)
theorem c_Net_blank_0 {hp : xH} (W : bW G) (d : Nat) (hT : zTy G hp) {k0 : Nat} (H_k0 : bRo G 18 k0) (p2 : Int) (h2l : 0 ≤ p2) (h2u : p2 ≤ 15) : yC (xcall 89 xfts xpools xms (d + 2)) 152 [yR k0, yI (0), yI (p2)] hp (fun rv hp' => (rv = none ∧ True) ∧ bAx G [(4194304, 256)] hp hp') := by
  have A_hp : bAx G [(4194304, 256)] hp hp := bAx.rf hT
  have H : ∀ m : Nat, (∀ a3 : Int, ∀ hq, bAx G [(4194304, 256)] hp hq → 0 ≤ a3 → (-1) ≤ 0 - a3 → 0 ≤ p2 → (-15) ≤ 0 - p2 → 0 - 2 * a3 + 3 < (m : Int) → yG 89 xfts (xcall 89 xfts xpools xms (d + 1)) (xpool xp_RX5) [] xt_X5_blank (yP 0 (fun rv hp' => (rv = none ∧ True) ∧ bAx G [(4194304, 256)] hp hp')) (15 * m) 2 [(0, yR k0), (1, yI (0)), (2, yI (p2)), (3, yI (a3))] [] hq) := by
    intro m
    induction m with
    | zero =>
      intros; exfalso; omega
    | succ m ih =>
      have i_2 := ih
      clear ih
      intro a3 hq A_hq f0 f1 f2 f3 hm
      refine yG.mono (N := 15 * m + 15) ?_ (by omega)
      rcases (show a3 = 0 ∨ a3 = 1 by omega) with c1 | c1
      · subst c1
        refine yG.load xik rfl (fun _ _ => rfl) (v := yI (0)) rfl rfl ?_
        refine yG.getS (c := 2) rfl rfl ?_
        refine yG.load xik rfl (fun _ _ => rfl) (v := yI (0)) rfl rfl ?_
        refine yG.ialdF A_hq.1 (v_S_Net_WIDTH W (s_S_Net_WIDTH W)) rfl rfl (by omega) (by omega) (fun z2 e_z2 i_z2 l_z2 u_z2 => ?_)
        obtain rfl : z2 = 1 := by omega
        refine yG.icmp rfl (t := 25) rfl ⟨by omega, by omega⟩ ⟨by omega, by omega⟩ (fun c3 => ?_) (fun c3 => ?_)
        · have c3 : (0 : Int) ≥ 1 := c3
          exfalso; omega
        · have c3 : (0 : Int) < 1 := c3
          refine yG.load xak rfl (fun _ _ => rfl) (v := yR k0) rfl rfl ?_
          refine yG.load xik rfl (fun _ _ => rfl) (v := yI (0)) rfl rfl ?_
          refine yG.load xik rfl (fun _ _ => rfl) (v := yI (p2)) rfl rfl ?_
          refine yG.load xik rfl (fun _ _ => rfl) (v := yI (0)) rfl rfl ?_
          refine yG.num (c := 0) rfl (fun _ _ => rfl) (by decide) ?_
          refine yG.invV (rest := []) A_hq.1 (bOb (d_Net W) H_k0) rfl rfl rfl rfl (c_Net_put_0_0 W d A_hq.1 H_k0 (p2) (0) (by omega) (by omega) (by omega) (by omega)) (fun rv h4 q9 => ?_)
          obtain ⟨⟨rfl, R_z5⟩, B_h4⟩ := q9
          have A_h4 := A_hq.tr B_h4 (by decide)
          show yG _ _ _ _ _ _ _ _ _ _ [] _
          refine yG.iinc rfl (a := 0) rfl (L' := [(3, yI (0 + 1)), (0, yR k0), (1, yI (0)), (2, yI (p2))]) rfl ?_
          refine yG.goto rfl (t := 2) rfl ?_
          exact yG.mono (yG.sub (i_2 (0 + 1)  h4 A_h4   (by omega) (by omega) (by omega) (by omega) (by omega)) (ySub.cons rfl (ySub.cons rfl (ySub.cons rfl (ySub.cons rfl (ySub.nil)))))) (by omega)
      · subst c1
        refine yG.load xik rfl (fun _ _ => rfl) (v := yI (1)) rfl rfl ?_
        refine yG.getS (c := 2) rfl rfl ?_
        refine yG.load xik rfl (fun _ _ => rfl) (v := yI (0)) rfl rfl ?_
        refine yG.ialdF A_hq.1 (v_S_Net_WIDTH W (s_S_Net_WIDTH W)) rfl rfl (by omega) (by omega) (fun z6 e_z6 i_z6 l_z6 u_z6 => ?_)
        obtain rfl : z6 = 1 := by omega
        refine yG.icmp rfl (t := 25) rfl ⟨by omega, by omega⟩ ⟨by omega, by omega⟩ (fun c7 => ?_) (fun c7 => ?_)
        · have c7 : (1 : Int) ≥ 1 := c7
          refine yG.load xik rfl (fun _ _ => rfl) (v := yI (0)) rfl rfl ?_
          refine yG.num (c := 2) rfl (fun _ _ => rfl) (by decide) ?_
          refine yG.icmp rfl (t := 41) rfl ⟨by omega, by omega⟩ ⟨by omega, by omega⟩ (fun c8 => ?_) (fun c8 => ?_)
          · have c8 : (0 : Int) ≠ 2 := c8
            refine yG.load xik rfl (fun _ _ => rfl) (v := yI (0)) rfl rfl ?_
            refine yG.num (c := 3) rfl (fun _ _ => rfl) (by decide) ?_
            refine yG.icmp rfl (t := 92) rfl ⟨by omega, by omega⟩ ⟨by omega, by omega⟩ (fun c9 => ?_) (fun c9 => ?_)
            · have c9 : (0 : Int) ≠ 3 := c9
              refine yG.ret rfl (fun _ _ => rfl) ?_
              exact (yP.void ⟨⟨rfl, trivial⟩, A_hq⟩)
            · have c9 : (0 : Int) = 3 := c9
              exfalso; omega
          · have c8 : (0 : Int) = 2 := c8
            exfalso; omega
        · have c7 : (1 : Int) < 1 := c7
          exfalso; omega
  refine yC.of (M := (xt_X5_blank, (4, (0, (6, []))))) rfl rfl (N := 90) (yfuel (by decide)) ?_
  show yG 89 xfts (xcall 89 xfts xpools xms (d + 1)) (xpool xp_RX5) [] xt_X5_blank (yP 0 (fun rv hp' => (rv = none ∧ True) ∧ bAx G [(4194304, 256)] hp hp')) 90 0 [(0, yR k0), (1, yI (0)), (2, yI (p2))] [] hp
  have i_2 := H 5
  refine yG.num (c := 0) rfl (fun _ _ => rfl) (by decide) ?_
  refine yG.store1 xik (L' := [(3, yI (0)), (0, yR k0), (1, yI (0)), (2, yI (p2))]) rfl (fun _ _ => rfl) rfl rfl ?_
  exact yG.mono (yG.sub (i_2 (0)  hp A_hp   (by omega) (by omega) (by omega) (by omega) (by omega)) (ySub.cons rfl (ySub.cons rfl (ySub.cons rfl (ySub.cons rfl (ySub.nil)))))) (by omega)
theorem c_Net_readEnds_0 {hp : xH} (W : bW G) (d : Nat) (hT : zTy G hp) {k0 : Nat} (H_k0 : bRo G 18 k0) {k1 : Nat} (H_k1 : bRo G 15 k1) (p3 : Int) (h3l : 0 ≤ p3) (h3u : p3 ≤ 15) : yC (xcall 89 xfts xpools xms (d + 1)) 165 [yR k0, yR k1, yI (0), yI (p3)] hp (bQpi hp 1 1 (fun _ => True)) := by
  have A_hp : bAx G [] hp hp := bAx.rf hT
  have H : ∀ m : Nat, (∀ a4 : Int, ∀ a5 : Int, (-1) ≤ a4 → 1 ≤ 0 - a4 → 0 ≤ a5 → 0 ≤ 0 - a5 → 0 ≤ p3 → (-15) ≤ 0 - p3 → 0 - 2 * a4 - 1 < (m : Int) → yG 89 xfts (xcall 89 xfts xpools xms d) (xpool xp_RX5) [] xt_X5_readEnds (yP 4 (bQpi hp 1 1 (fun _ => True))) (9 * m) 6 [(0, yR k0), (1, yR k1), (2, yI (0)), (3, yI (p3)), (4, yI (a4)), (5, yI (a5))] [] hp) := by
    intro m
    induction m with
    | zero =>
      intros; exfalso; omega
    | succ m ih =>
      have i_6 := ih
      clear ih
      intro a4 a5 f0 f1 f2 f3 f4 f5 hm
      refine yG.mono (N := 9 * m + 9) ?_ (by omega)
      rcases (show a5 = 0 by omega) with c1
      · subst c1
        refine yG.load xik rfl (fun _ _ => rfl) (v := yI (0)) rfl rfl ?_
        refine yG.getS (c := 6) rfl rfl ?_
        refine yG.load xik rfl (fun _ _ => rfl) (v := yI (0)) rfl rfl ?_
        refine yG.ialdF A_hp.1 (v_S_Net_ENDS W (s_S_Net_ENDS W)) rfl rfl (by omega) (by omega) (fun z2 e_z2 i_z2 l_z2 u_z2 => ?_)
        obtain rfl : z2 = 0 := by omega
        refine yG.icmp rfl (t := 70) rfl ⟨by omega, by omega⟩ ⟨by omega, by omega⟩ (fun c3 => ?_) (fun c3 => ?_)
        · have c3 : (0 : Int) ≥ 0 := c3
          refine yG.num (c := 1) rfl (fun _ _ => rfl) (by decide) ?_
          refine yG.ret rfl (fun _ _ => rfl) ?_
          exact (yP.bool (by omega) ⟨⟨1, rfl, by omega, by omega, trivial⟩, rfl⟩)
        · have c3 : (0 : Int) < 0 := c3
          exfalso; omega
  refine yC.of (M := (xt_X5_readEnds, (7, (4, (6, []))))) rfl rfl (N := 36) (yfuel (by decide)) ?_
  show yG 89 xfts (xcall 89 xfts xpools xms d) (xpool xp_RX5) [] xt_X5_readEnds (yP 4 (bQpi hp 1 1 (fun _ => True))) 36 0 [(0, yR k0), (1, yR k1), (2, yI (0)), (3, yI (p3))] [] hp
  have i_6 := H 3
  refine yG.num (c := -1) rfl (fun _ _ => rfl) (by decide) ?_
  refine yG.store1 xik (L' := [(4, yI ((-1))), (0, yR k0), (1, yR k1), (2, yI (0)), (3, yI (p3))]) rfl (fun _ _ => rfl) rfl rfl ?_
  refine yG.num (c := 0) rfl (fun _ _ => rfl) (by decide) ?_
  refine yG.store1 xik (L' := [(5, yI (0)), (4, yI ((-1))), (0, yR k0), (1, yR k1), (2, yI (0)), (3, yI (p3))]) rfl (fun _ _ => rfl) rfl rfl ?_
  exact yG.mono (yG.sub (i_6 ((-1)) (0)     (by omega) (by omega) (by omega) (by omega) (by omega) (by omega) (by omega)) (ySub.cons rfl (ySub.cons rfl (ySub.cons rfl (ySub.cons rfl (ySub.cons rfl (ySub.cons rfl (ySub.nil)))))))) (by omega)
theorem c_Net_readNumbers_0 {hp : xH} (W : bW G) (d : Nat) (hT : zTy G hp) {k0 : Nat} (H_k0 : bRo G 18 k0) {k1 : Nat} (H_k1 : bRo G 15 k1) (p3 : Int) (h3l : 0 ≤ p3) (h3u : p3 ≤ 15) : yC (xcall 89 xfts xpools xms (d + 1)) 166 [yR k0, yR k1, yI (0), yI (p3)] hp (bQpi hp 1 1 (fun _ => True)) := by
  have A_hp : bAx G [] hp hp := bAx.rf hT
  have H : ∀ m : Nat, (∀ a4 : Int, 0 ≤ a4 → 0 ≤ 0 - a4 → 0 ≤ p3 → (-15) ≤ 0 - p3 → 0 - 2 * a4 + 1 < (m : Int) → yG 89 xfts (xcall 89 xfts xpools xms d) (xpool xp_RX5) [] xt_X5_readNumbers (yP 4 (bQpi hp 1 1 (fun _ => True))) (9 * m) 7 [(0, yR k0), (1, yR k1), (2, yI (0)), (3, yI (p3)), (4, yI (a4))] [] hp) := by
    intro m
    induction m with
    | zero =>
      intros; exfalso; omega
    | succ m ih =>
      have i_7 := ih
      clear ih
      intro a4 f0 f1 f2 f3 hm
      refine yG.mono (N := 9 * m + 9) ?_ (by omega)
      rcases (show a4 = 0 by omega) with c1
      · subst c1
        refine yG.load xik rfl (fun _ _ => rfl) (v := yI (0)) rfl rfl ?_
        refine yG.getS (c := 9) rfl rfl ?_
        refine yG.load xik rfl (fun _ _ => rfl) (v := yI (0)) rfl rfl ?_
        refine yG.ialdF A_hp.1 (v_S_Net_SETTABLE W (s_S_Net_SETTABLE W)) rfl rfl (by omega) (by omega) (fun z2 e_z2 i_z2 l_z2 u_z2 => ?_)
        obtain rfl : z2 = 0 := by omega
        refine yG.icmp rfl (t := 57) rfl ⟨by omega, by omega⟩ ⟨by omega, by omega⟩ (fun c3 => ?_) (fun c3 => ?_)
        · have c3 : (0 : Int) ≥ 0 := c3
          refine yG.num (c := 1) rfl (fun _ _ => rfl) (by decide) ?_
          refine yG.ret rfl (fun _ _ => rfl) ?_
          exact (yP.bool (by omega) ⟨⟨1, rfl, by omega, by omega, trivial⟩, rfl⟩)
        · have c3 : (0 : Int) < 0 := c3
          exfalso; omega
  refine yC.of (M := (xt_X5_readNumbers, (5, (4, (6, []))))) rfl rfl (N := 36) (yfuel (by decide)) ?_
  show yG 89 xfts (xcall 89 xfts xpools xms d) (xpool xp_RX5) [] xt_X5_readNumbers (yP 4 (bQpi hp 1 1 (fun _ => True))) 36 0 [(0, yR k0), (1, yR k1), (2, yI (0)), (3, yI (p3))] [] hp
  have i_7 := H 3
  refine yG.getS (c := 8) rfl rfl ?_
  refine yG.load xik rfl (fun _ _ => rfl) (v := yI (0)) rfl rfl ?_
  refine yG.ialdF A_hp.1 (v_S_Net_FIRST_NUMBER W (s_S_Net_FIRST_NUMBER W)) rfl rfl (by omega) (by omega) (fun z1 e_z1 i_z1 l_z1 u_z1 => ?_)
  obtain rfl : z1 = 0 := by omega
  refine yG.store1 xik (L' := [(4, yI (0)), (0, yR k0), (1, yR k1), (2, yI (0)), (3, yI (p3))]) rfl (fun _ _ => rfl) rfl rfl ?_
  exact yG.mono (yG.sub (i_7 (0)     (by omega) (by omega) (by omega) (by omega) (by omega)) (ySub.cons rfl (ySub.cons rfl (ySub.cons rfl (ySub.cons rfl (ySub.cons rfl (ySub.nil))))))) (by omega)
theorem c_Net_blank_1 {hp : xH} (W : bW G) (d : Nat) (hT : zTy G hp) {k0 : Nat} (H_k0 : bRo G 18 k0) (p2 : Int) (h2l : 0 ≤ p2) (h2u : p2 ≤ 23) : yC (xcall 89 xfts xpools xms (d + 2)) 152 [yR k0, yI (1), yI (p2)] hp (fun rv hp' => (rv = none ∧ True) ∧ bAx G [(16777216, 256)] hp hp') := by
  have A_hp : bAx G [(16777216, 256)] hp hp := bAx.rf hT
  have H : ∀ m : Nat, (∀ a3 : Int, ∀ hq, bAx G [(16777216, 256)] hp hq → 0 ≤ a3 → (-5) ≤ 0 - a3 → 0 ≤ p2 → (-23) ≤ 0 - p2 → 0 - 2 * a3 + 11 < (m : Int) → yG 89 xfts (xcall 89 xfts xpools xms (d + 1)) (xpool xp_RX5) [] xt_X5_blank (yP 0 (fun rv hp' => (rv = none ∧ True) ∧ bAx G [(16777216, 256)] hp hp')) (15 * m) 2 [(0, yR k0), (1, yI (1)), (2, yI (p2)), (3, yI (a3))] [] hq) := by
    intro m
    induction m with
    | zero =>
      intros; exfalso; omega
    | succ m ih =>
      have i_2 := ih
      clear ih
      intro a3 hq A_hq f0 f1 f2 f3 hm
      refine yG.mono (N := 15 * m + 15) ?_ (by omega)
      rcases (show a3 = 0 ∨ a3 = 1 ∨ a3 = 2 ∨ a3 = 3 ∨ a3 = 4 ∨ a3 = 5 by omega) with c1 | c1 | c1 | c1 | c1 | c1
      · subst c1
        refine yG.load xik rfl (fun _ _ => rfl) (v := yI (0)) rfl rfl ?_
        refine yG.getS (c := 2) rfl rfl ?_
        refine yG.load xik rfl (fun _ _ => rfl) (v := yI (1)) rfl rfl ?_
        refine yG.ialdF A_hq.1 (v_S_Net_WIDTH W (s_S_Net_WIDTH W)) rfl rfl (by omega) (by omega) (fun z2 e_z2 i_z2 l_z2 u_z2 => ?_)
        obtain rfl : z2 = 5 := by omega
        refine yG.icmp rfl (t := 25) rfl ⟨by omega, by omega⟩ ⟨by omega, by omega⟩ (fun c3 => ?_) (fun c3 => ?_)
        · have c3 : (0 : Int) ≥ 5 := c3
          exfalso; omega
        · have c3 : (0 : Int) < 5 := c3
          refine yG.load xak rfl (fun _ _ => rfl) (v := yR k0) rfl rfl ?_
          refine yG.load xik rfl (fun _ _ => rfl) (v := yI (1)) rfl rfl ?_
          refine yG.load xik rfl (fun _ _ => rfl) (v := yI (p2)) rfl rfl ?_
          refine yG.load xik rfl (fun _ _ => rfl) (v := yI (0)) rfl rfl ?_
          refine yG.num (c := 0) rfl (fun _ _ => rfl) (by decide) ?_
          refine yG.invV (rest := []) A_hq.1 (bOb (d_Net W) H_k0) rfl rfl rfl rfl (c_Net_put_1_0 W d A_hq.1 H_k0 (p2) (0) (by omega) (by omega) (by omega) (by omega)) (fun rv h4 q9 => ?_)
          obtain ⟨⟨rfl, R_z5⟩, B_h4⟩ := q9
          have A_h4 := A_hq.tr B_h4 (by decide)
          show yG _ _ _ _ _ _ _ _ _ _ [] _
          refine yG.iinc rfl (a := 0) rfl (L' := [(3, yI (0 + 1)), (0, yR k0), (1, yI (1)), (2, yI (p2))]) rfl ?_
          refine yG.goto rfl (t := 2) rfl ?_
          exact yG.mono (yG.sub (i_2 (0 + 1)  h4 A_h4   (by omega) (by omega) (by omega) (by omega) (by omega)) (ySub.cons rfl (ySub.cons rfl (ySub.cons rfl (ySub.cons rfl (ySub.nil)))))) (by omega)
      · subst c1
        refine yG.load xik rfl (fun _ _ => rfl) (v := yI (1)) rfl rfl ?_
        refine yG.getS (c := 2) rfl rfl ?_
        refine yG.load xik rfl (fun _ _ => rfl) (v := yI (1)) rfl rfl ?_
        refine yG.ialdF A_hq.1 (v_S_Net_WIDTH W (s_S_Net_WIDTH W)) rfl rfl (by omega) (by omega) (fun z6 e_z6 i_z6 l_z6 u_z6 => ?_)
        obtain rfl : z6 = 5 := by omega
        refine yG.icmp rfl (t := 25) rfl ⟨by omega, by omega⟩ ⟨by omega, by omega⟩ (fun c7 => ?_) (fun c7 => ?_)
        · have c7 : (1 : Int) ≥ 5 := c7
          exfalso; omega
        · have c7 : (1 : Int) < 5 := c7
          refine yG.load xak rfl (fun _ _ => rfl) (v := yR k0) rfl rfl ?_
          refine yG.load xik rfl (fun _ _ => rfl) (v := yI (1)) rfl rfl ?_
          refine yG.load xik rfl (fun _ _ => rfl) (v := yI (p2)) rfl rfl ?_
          refine yG.load xik rfl (fun _ _ => rfl) (v := yI (1)) rfl rfl ?_
          refine yG.num (c := 0) rfl (fun _ _ => rfl) (by decide) ?_
          refine yG.invV (rest := []) A_hq.1 (bOb (d_Net W) H_k0) rfl rfl rfl rfl (c_Net_put_1_1 W d A_hq.1 H_k0 (p2) (0) (by omega) (by omega) (by omega) (by omega)) (fun rv h8 q9 => ?_)
          obtain ⟨⟨rfl, R_z9⟩, B_h8⟩ := q9
          have A_h8 := A_hq.tr B_h8 (by decide)
          show yG _ _ _ _ _ _ _ _ _ _ [] _
          refine yG.iinc rfl (a := 1) rfl (L' := [(3, yI (1 + 1)), (0, yR k0), (1, yI (1)), (2, yI (p2))]) rfl ?_
          refine yG.goto rfl (t := 2) rfl ?_
          exact yG.mono (yG.sub (i_2 (1 + 1)  h8 A_h8   (by omega) (by omega) (by omega) (by omega) (by omega)) (ySub.cons rfl (ySub.cons rfl (ySub.cons rfl (ySub.cons rfl (ySub.nil)))))) (by omega)
      · subst c1
        refine yG.load xik rfl (fun _ _ => rfl) (v := yI (2)) rfl rfl ?_
        refine yG.getS (c := 2) rfl rfl ?_
        refine yG.load xik rfl (fun _ _ => rfl) (v := yI (1)) rfl rfl ?_
        refine yG.ialdF A_hq.1 (v_S_Net_WIDTH W (s_S_Net_WIDTH W)) rfl rfl (by omega) (by omega) (fun z10 e_z10 i_z10 l_z10 u_z10 => ?_)
        obtain rfl : z10 = 5 := by omega
        refine yG.icmp rfl (t := 25) rfl ⟨by omega, by omega⟩ ⟨by omega, by omega⟩ (fun c11 => ?_) (fun c11 => ?_)
        · have c11 : (2 : Int) ≥ 5 := c11
          exfalso; omega
        · have c11 : (2 : Int) < 5 := c11
          refine yG.load xak rfl (fun _ _ => rfl) (v := yR k0) rfl rfl ?_
          refine yG.load xik rfl (fun _ _ => rfl) (v := yI (1)) rfl rfl ?_
          refine yG.load xik rfl (fun _ _ => rfl) (v := yI (p2)) rfl rfl ?_
          refine yG.load xik rfl (fun _ _ => rfl) (v := yI (2)) rfl rfl ?_
          refine yG.num (c := 0) rfl (fun _ _ => rfl) (by decide) ?_
          refine yG.invV (rest := []) A_hq.1 (bOb (d_Net W) H_k0) rfl rfl rfl rfl (c_Net_put_1_2 W d A_hq.1 H_k0 (p2) (0) (by omega) (by omega) (by omega) (by omega)) (fun rv h12 q9 => ?_)
          obtain ⟨⟨rfl, R_z13⟩, B_h12⟩ := q9
          have A_h12 := A_hq.tr B_h12 (by decide)
          show yG _ _ _ _ _ _ _ _ _ _ [] _
          refine yG.iinc rfl (a := 2) rfl (L' := [(3, yI (2 + 1)), (0, yR k0), (1, yI (1)), (2, yI (p2))]) rfl ?_
          refine yG.goto rfl (t := 2) rfl ?_
          exact yG.mono (yG.sub (i_2 (2 + 1)  h12 A_h12   (by omega) (by omega) (by omega) (by omega) (by omega)) (ySub.cons rfl (ySub.cons rfl (ySub.cons rfl (ySub.cons rfl (ySub.nil)))))) (by omega)
      · subst c1
        refine yG.load xik rfl (fun _ _ => rfl) (v := yI (3)) rfl rfl ?_
        refine yG.getS (c := 2) rfl rfl ?_
        refine yG.load xik rfl (fun _ _ => rfl) (v := yI (1)) rfl rfl ?_
        refine yG.ialdF A_hq.1 (v_S_Net_WIDTH W (s_S_Net_WIDTH W)) rfl rfl (by omega) (by omega) (fun z14 e_z14 i_z14 l_z14 u_z14 => ?_)
        obtain rfl : z14 = 5 := by omega
        refine yG.icmp rfl (t := 25) rfl ⟨by omega, by omega⟩ ⟨by omega, by omega⟩ (fun c15 => ?_) (fun c15 => ?_)
        · have c15 : (3 : Int) ≥ 5 := c15
          exfalso; omega
        · have c15 : (3 : Int) < 5 := c15
          refine yG.load xak rfl (fun _ _ => rfl) (v := yR k0) rfl rfl ?_
          refine yG.load xik rfl (fun _ _ => rfl) (v := yI (1)) rfl rfl ?_
          refine yG.load xik rfl (fun _ _ => rfl) (v := yI (p2)) rfl rfl ?_
          refine yG.load xik rfl (fun _ _ => rfl) (v := yI (3)) rfl rfl ?_
          refine yG.num (c := 0) rfl (fun _ _ => rfl) (by decide) ?_
          refine yG.invV (rest := []) A_hq.1 (bOb (d_Net W) H_k0) rfl rfl rfl rfl (c_Net_put_1_3 W d A_hq.1 H_k0 (p2) (0) (by omega) (by omega) (by omega) (by omega)) (fun rv h16 q9 => ?_)
          obtain ⟨⟨rfl, R_z17⟩, B_h16⟩ := q9
          have A_h16 := A_hq.tr B_h16 (by decide)
          show yG _ _ _ _ _ _ _ _ _ _ [] _
          refine yG.iinc rfl (a := 3) rfl (L' := [(3, yI (3 + 1)), (0, yR k0), (1, yI (1)), (2, yI (p2))]) rfl ?_
          refine yG.goto rfl (t := 2) rfl ?_
          exact yG.mono (yG.sub (i_2 (3 + 1)  h16 A_h16   (by omega) (by omega) (by omega) (by omega) (by omega)) (ySub.cons rfl (ySub.cons rfl (ySub.cons rfl (ySub.cons rfl (ySub.nil)))))) (by omega)
      · subst c1
        refine yG.load xik rfl (fun _ _ => rfl) (v := yI (4)) rfl rfl ?_
        refine yG.getS (c := 2) rfl rfl ?_
        refine yG.load xik rfl (fun _ _ => rfl) (v := yI (1)) rfl rfl ?_
        refine yG.ialdF A_hq.1 (v_S_Net_WIDTH W (s_S_Net_WIDTH W)) rfl rfl (by omega) (by omega) (fun z18 e_z18 i_z18 l_z18 u_z18 => ?_)
        obtain rfl : z18 = 5 := by omega
        refine yG.icmp rfl (t := 25) rfl ⟨by omega, by omega⟩ ⟨by omega, by omega⟩ (fun c19 => ?_) (fun c19 => ?_)
        · have c19 : (4 : Int) ≥ 5 := c19
          exfalso; omega
        · have c19 : (4 : Int) < 5 := c19
          refine yG.load xak rfl (fun _ _ => rfl) (v := yR k0) rfl rfl ?_
          refine yG.load xik rfl (fun _ _ => rfl) (v := yI (1)) rfl rfl ?_
          refine yG.load xik rfl (fun _ _ => rfl) (v := yI (p2)) rfl rfl ?_
          refine yG.load xik rfl (fun _ _ => rfl) (v := yI (4)) rfl rfl ?_
          refine yG.num (c := 0) rfl (fun _ _ => rfl) (by decide) ?_
          refine yG.invV (rest := []) A_hq.1 (bOb (d_Net W) H_k0) rfl rfl rfl rfl (c_Net_put_1_4 W d A_hq.1 H_k0 (p2) (0) (by omega) (by omega) (by omega) (by omega)) (fun rv h20 q9 => ?_)
          obtain ⟨⟨rfl, R_z21⟩, B_h20⟩ := q9
          have A_h20 := A_hq.tr B_h20 (by decide)
          show yG _ _ _ _ _ _ _ _ _ _ [] _
          refine yG.iinc rfl (a := 4) rfl (L' := [(3, yI (4 + 1)), (0, yR k0), (1, yI (1)), (2, yI (p2))]) rfl ?_
          refine yG.goto rfl (t := 2) rfl ?_
          exact yG.mono (yG.sub (i_2 (4 + 1)  h20 A_h20   (by omega) (by omega) (by omega) (by omega) (by omega)) (ySub.cons rfl (ySub.cons rfl (ySub.cons rfl (ySub.cons rfl (ySub.nil)))))) (by omega)
      · subst c1
        refine yG.load xik rfl (fun _ _ => rfl) (v := yI (5)) rfl rfl ?_
        refine yG.getS (c := 2) rfl rfl ?_
        refine yG.load xik rfl (fun _ _ => rfl) (v := yI (1)) rfl rfl ?_
        refine yG.ialdF A_hq.1 (v_S_Net_WIDTH W (s_S_Net_WIDTH W)) rfl rfl (by omega) (by omega) (fun z22 e_z22 i_z22 l_z22 u_z22 => ?_)
        obtain rfl : z22 = 5 := by omega
        refine yG.icmp rfl (t := 25) rfl ⟨by omega, by omega⟩ ⟨by omega, by omega⟩ (fun c23 => ?_) (fun c23 => ?_)
        · have c23 : (5 : Int) ≥ 5 := c23
          refine yG.load xik rfl (fun _ _ => rfl) (v := yI (1)) rfl rfl ?_
          refine yG.num (c := 2) rfl (fun _ _ => rfl) (by decide) ?_
          refine yG.icmp rfl (t := 41) rfl ⟨by omega, by omega⟩ ⟨by omega, by omega⟩ (fun c24 => ?_) (fun c24 => ?_)
          · have c24 : (1 : Int) ≠ 2 := c24
            refine yG.load xik rfl (fun _ _ => rfl) (v := yI (1)) rfl rfl ?_
            refine yG.num (c := 3) rfl (fun _ _ => rfl) (by decide) ?_
            refine yG.icmp rfl (t := 92) rfl ⟨by omega, by omega⟩ ⟨by omega, by omega⟩ (fun c25 => ?_) (fun c25 => ?_)
            · have c25 : (1 : Int) ≠ 3 := c25
              refine yG.ret rfl (fun _ _ => rfl) ?_
              exact (yP.void ⟨⟨rfl, trivial⟩, A_hq⟩)
            · have c25 : (1 : Int) = 3 := c25
              exfalso; omega
          · have c24 : (1 : Int) = 2 := c24
            exfalso; omega
        · have c23 : (5 : Int) < 5 := c23
          exfalso; omega
  refine yC.of (M := (xt_X5_blank, (4, (0, (6, []))))) rfl rfl (N := 210) (yfuel (by decide)) ?_
  show yG 89 xfts (xcall 89 xfts xpools xms (d + 1)) (xpool xp_RX5) [] xt_X5_blank (yP 0 (fun rv hp' => (rv = none ∧ True) ∧ bAx G [(16777216, 256)] hp hp')) 210 0 [(0, yR k0), (1, yI (1)), (2, yI (p2))] [] hp
  have i_2 := H 13
  refine yG.num (c := 0) rfl (fun _ _ => rfl) (by decide) ?_
  refine yG.store1 xik (L' := [(3, yI (0)), (0, yR k0), (1, yI (1)), (2, yI (p2))]) rfl (fun _ _ => rfl) rfl rfl ?_
  exact yG.mono (yG.sub (i_2 (0)  hp A_hp   (by omega) (by omega) (by omega) (by omega) (by omega)) (ySub.cons rfl (ySub.cons rfl (ySub.cons rfl (ySub.cons rfl (ySub.nil)))))) (by omega)
theorem c_Net_readEnds_1 {hp : xH} (W : bW G) (d : Nat) (hT : zTy G hp) {k0 : Nat} (H_k0 : bRo G 18 k0) {k1 : Nat} (H_k1 : bRo G 15 k1) (p3 : Int) (h3l : 0 ≤ p3) (h3u : p3 ≤ 23) : yC (xcall 89 xfts xpools xms (d + 4)) 165 [yR k0, yR k1, yI (1), yI (p3)] hp (bQi G [(32768, 2), (32768, 3), (32768, 5), (32768, 6), (32768, 7), (16777216, 256)] hp 0 1 (fun _ => True)) := by
  have A_hp : bAx G [(32768, 2), (32768, 3), (32768, 5), (32768, 6), (32768, 7), (16777216, 256)] hp hp := bAx.rf hT
  have H : ∀ m : Nat, (∀ a4 : Int, ∀ a5 : Int, ∀ hq, bAx G [(32768, 2), (32768, 3), (32768, 5), (32768, 6), (32768, 7), (16777216, 256)] hp hq → (-1) ≤ a4 → (-15) ≤ 0 - a4 → 0 ≤ a5 → (-2) ≤ 0 - a5 → 0 ≤ p3 → (-23) ≤ 0 - p3 → (-2) ≤ a4 - a5 → (-14) ≤ 0 - a4 + a5 → 0 - 2 * a5 + 5 < (m : Int) → yG 89 xfts (xcall 89 xfts xpools xms (d + 3)) (xpool xp_RX5) [] xt_X5_readEnds (yP 4 (bQi G [(32768, 2), (32768, 3), (32768, 5), (32768, 6), (32768, 7), (16777216, 256)] hp 0 1 (fun _ => True))) (35 * m) 6 [(0, yR k0), (1, yR k1), (2, yI (1)), (3, yI (p3)), (4, yI (a4)), (5, yI (a5))] [] hq) := by
    intro m
    induction m with
    | zero =>
      intros; exfalso; omega
    | succ m ih =>
      have i_6 := ih
      clear ih
      intro a4 a5 hq A_hq f0 f1 f2 f3 f4 f5 f6 f7 hm
      refine yG.mono (N := 35 * m + 35) ?_ (by omega)
      rcases (show a5 = 0 ∨ a5 = 1 ∨ a5 = 2 by omega) with c1 | c1 | c1
      · subst c1
        refine yG.load xik rfl (fun _ _ => rfl) (v := yI (0)) rfl rfl ?_
        refine yG.getS (c := 6) rfl rfl ?_
        refine yG.load xik rfl (fun _ _ => rfl) (v := yI (1)) rfl rfl ?_
        refine yG.ialdF A_hq.1 (v_S_Net_ENDS W (s_S_Net_ENDS W)) rfl rfl (by omega) (by omega) (fun z2 e_z2 i_z2 l_z2 u_z2 => ?_)
        obtain rfl : z2 = 2 := by omega
        refine yG.icmp rfl (t := 70) rfl ⟨by omega, by omega⟩ ⟨by omega, by omega⟩ (fun c3 => ?_) (fun c3 => ?_)
        · have c3 : (0 : Int) ≥ 2 := c3
          exfalso; omega
        · have c3 : (0 : Int) < 2 := c3
          refine yG.load xak rfl (fun _ _ => rfl) (v := yR k1) rfl rfl ?_
          refine yG.invV (rest := []) A_hq.1 (bOb (d_Tape W) H_k1) rfl rfl rfl rfl (c_Tape_next W d A_hq.1 H_k1) (fun rv h4 q9 => ?_)
          obtain ⟨⟨z5, rfl, l_z5, u_z5, R_z5⟩, B_h4⟩ := q9
          have A_h4 := A_hq.tr B_h4 (by decide)
          show yG _ _ _ _ _ _ _ _ _ _ (yI z5 :: []) _
          refine yG.step (pc' := 21) (stk' := []) rfl (fun _ _ => rfl) ?_
          refine yG.load xak rfl (fun _ _ => rfl) (v := yR k0) rfl rfl ?_
          refine yG.load xak rfl (fun _ _ => rfl) (v := yR k1) rfl rfl ?_
          refine yG.num (c := 0) rfl (fun _ _ => rfl) (by decide) ?_
          refine yG.invV (rest := []) A_h4.1 (bOb (d_Net W) H_k0) rfl rfl rfl rfl (c_Net_named__0 W (d + 2) A_h4.1 H_k0 H_k1) (fun rv hp9 q9 => ?_)
          obtain ⟨⟨z6, rfl, l_z6, u_z6, R_z6⟩, e9⟩ := q9
          rw [e9]
          show yG _ _ _ _ _ _ _ _ _ _ (yI z6 :: []) _
          refine yG.store1 xik (L' := [(6, yI (z6)), (0, yR k0), (1, yR k1), (2, yI (1)), (3, yI (p3)), (4, yI (a4)), (5, yI (0))]) rfl (fun _ _ => rfl) rfl rfl ?_
          refine yG.load xik rfl (fun _ _ => rfl) (v := yI (z6)) rfl rfl ?_
          refine yG.num (c := -1) rfl (fun _ _ => rfl) (by decide) ?_
          refine yG.icmp rfl (t := 42) rfl ⟨by omega, by omega⟩ ⟨by omega, by omega⟩ (fun c7 => ?_) (fun c7 => ?_)
          · have c7 : (z6 : Int) = (-1) := c7
            refine yG.num (c := 0) rfl (fun _ _ => rfl) (by decide) ?_
            refine yG.ret rfl (fun _ _ => rfl) ?_
            exact (yP.bool (by omega) ⟨⟨0, rfl, by omega, by omega, trivial⟩, A_h4⟩)
          · have c7 : (z6 : Int) ≠ (-1) := c7
            refine yG.load xik rfl (fun _ _ => rfl) (v := yI (z6)) rfl rfl ?_
            refine yG.load xik rfl (fun _ _ => rfl) (v := yI (a4)) rfl rfl ?_
            refine yG.icmp rfl (t := 44) rfl ⟨by omega, by omega⟩ ⟨by omega, by omega⟩ (fun c8 => ?_) (fun c8 => ?_)
            · have c8 : (z6 : Int) ≠ a4 := c8
              refine yG.load xak rfl (fun _ _ => rfl) (v := yR k0) rfl rfl ?_
              refine yG.load xik rfl (fun _ _ => rfl) (v := yI (1)) rfl rfl ?_
              refine yG.load xik rfl (fun _ _ => rfl) (v := yI (p3)) rfl rfl ?_
              refine yG.getS (c := 7) rfl rfl ?_
              refine yG.load xik rfl (fun _ _ => rfl) (v := yI (1)) rfl rfl ?_
              refine yG.ialdF A_h4.1 (v_S_Net_FIRST_END W (s_S_Net_FIRST_END W)) rfl rfl (by omega) (by omega) (fun z9 e_z9 i_z9 l_z9 u_z9 => ?_)
              obtain rfl : z9 = 3 := by omega
              refine yG.load xik rfl (fun _ _ => rfl) (v := yI (0)) rfl rfl ?_
              refine yG.iadd rfl ?_
              refine yG.load xik rfl (fun _ _ => rfl) (v := yI (z6)) rfl rfl ?_
              rw [show (3 + 0 : Int) = 3 by omega]
              refine yG.invV (rest := []) A_h4.1 (bOb (d_Net W) H_k0) rfl rfl rfl rfl (c_Net_put_1_3 W (d + 2) A_h4.1 H_k0 (p3) (z6) (by omega) (by omega) (by omega) (by omega)) (fun rv h10 q9 => ?_)
              obtain ⟨⟨rfl, R_z11⟩, B_h10⟩ := q9
              have A_h10 := A_h4.tr B_h10 (by decide)
              show yG _ _ _ _ _ _ _ _ _ _ [] _
              refine yG.load xik rfl (fun _ _ => rfl) (v := yI (z6)) rfl rfl ?_
              refine yG.store1 xik (L' := [(4, yI (z6)), (6, yI (z6)), (0, yR k0), (1, yR k1), (2, yI (1)), (3, yI (p3)), (5, yI (0))]) rfl (fun _ _ => rfl) rfl rfl ?_
              refine yG.iinc rfl (a := 0) rfl (L' := [(5, yI (0 + 1)), (4, yI (z6)), (6, yI (z6)), (0, yR k0), (1, yR k1), (2, yI (1)), (3, yI (p3))]) rfl ?_
              refine yG.goto rfl (t := 6) rfl ?_
              exact yG.mono (yG.sub (i_6 (z6) (0 + 1)  h10 A_h10   (by omega) (by omega) (by omega) (by omega) (by omega) (by omega) (by omega) (by omega) (by omega)) (ySub.cons rfl (ySub.cons rfl (ySub.cons rfl (ySub.cons rfl (ySub.cons rfl (ySub.cons rfl (ySub.nil)))))))) (by omega)
            · have c8 : (z6 : Int) = a4 := c8
              refine yG.num (c := 0) rfl (fun _ _ => rfl) (by decide) ?_
              refine yG.ret rfl (fun _ _ => rfl) ?_
              exact (yP.bool (by omega) ⟨⟨0, rfl, by omega, by omega, trivial⟩, A_h4⟩)
      · subst c1
        refine yG.load xik rfl (fun _ _ => rfl) (v := yI (1)) rfl rfl ?_
        refine yG.getS (c := 6) rfl rfl ?_
        refine yG.load xik rfl (fun _ _ => rfl) (v := yI (1)) rfl rfl ?_
        refine yG.ialdF A_hq.1 (v_S_Net_ENDS W (s_S_Net_ENDS W)) rfl rfl (by omega) (by omega) (fun z12 e_z12 i_z12 l_z12 u_z12 => ?_)
        obtain rfl : z12 = 2 := by omega
        refine yG.icmp rfl (t := 70) rfl ⟨by omega, by omega⟩ ⟨by omega, by omega⟩ (fun c13 => ?_) (fun c13 => ?_)
        · have c13 : (1 : Int) ≥ 2 := c13
          exfalso; omega
        · have c13 : (1 : Int) < 2 := c13
          refine yG.load xak rfl (fun _ _ => rfl) (v := yR k1) rfl rfl ?_
          refine yG.invV (rest := []) A_hq.1 (bOb (d_Tape W) H_k1) rfl rfl rfl rfl (c_Tape_next W d A_hq.1 H_k1) (fun rv h14 q9 => ?_)
          obtain ⟨⟨z15, rfl, l_z15, u_z15, R_z15⟩, B_h14⟩ := q9
          have A_h14 := A_hq.tr B_h14 (by decide)
          show yG _ _ _ _ _ _ _ _ _ _ (yI z15 :: []) _
          refine yG.step (pc' := 21) (stk' := []) rfl (fun _ _ => rfl) ?_
          refine yG.load xak rfl (fun _ _ => rfl) (v := yR k0) rfl rfl ?_
          refine yG.load xak rfl (fun _ _ => rfl) (v := yR k1) rfl rfl ?_
          refine yG.num (c := 0) rfl (fun _ _ => rfl) (by decide) ?_
          refine yG.invV (rest := []) A_h14.1 (bOb (d_Net W) H_k0) rfl rfl rfl rfl (c_Net_named__0 W (d + 2) A_h14.1 H_k0 H_k1) (fun rv hp9 q9 => ?_)
          obtain ⟨⟨z16, rfl, l_z16, u_z16, R_z16⟩, e9⟩ := q9
          rw [e9]
          show yG _ _ _ _ _ _ _ _ _ _ (yI z16 :: []) _
          refine yG.store1 xik (L' := [(6, yI (z16)), (0, yR k0), (1, yR k1), (2, yI (1)), (3, yI (p3)), (4, yI (a4)), (5, yI (1))]) rfl (fun _ _ => rfl) rfl rfl ?_
          refine yG.load xik rfl (fun _ _ => rfl) (v := yI (z16)) rfl rfl ?_
          refine yG.num (c := -1) rfl (fun _ _ => rfl) (by decide) ?_
          refine yG.icmp rfl (t := 42) rfl ⟨by omega, by omega⟩ ⟨by omega, by omega⟩ (fun c17 => ?_) (fun c17 => ?_)
          · have c17 : (z16 : Int) = (-1) := c17
            refine yG.num (c := 0) rfl (fun _ _ => rfl) (by decide) ?_
            refine yG.ret rfl (fun _ _ => rfl) ?_
            exact (yP.bool (by omega) ⟨⟨0, rfl, by omega, by omega, trivial⟩, A_h14⟩)
          · have c17 : (z16 : Int) ≠ (-1) := c17
            refine yG.load xik rfl (fun _ _ => rfl) (v := yI (z16)) rfl rfl ?_
            refine yG.load xik rfl (fun _ _ => rfl) (v := yI (a4)) rfl rfl ?_
            refine yG.icmp rfl (t := 44) rfl ⟨by omega, by omega⟩ ⟨by omega, by omega⟩ (fun c18 => ?_) (fun c18 => ?_)
            · have c18 : (z16 : Int) ≠ a4 := c18
              refine yG.load xak rfl (fun _ _ => rfl) (v := yR k0) rfl rfl ?_
              refine yG.load xik rfl (fun _ _ => rfl) (v := yI (1)) rfl rfl ?_
              refine yG.load xik rfl (fun _ _ => rfl) (v := yI (p3)) rfl rfl ?_
              refine yG.getS (c := 7) rfl rfl ?_
              refine yG.load xik rfl (fun _ _ => rfl) (v := yI (1)) rfl rfl ?_
              refine yG.ialdF A_h14.1 (v_S_Net_FIRST_END W (s_S_Net_FIRST_END W)) rfl rfl (by omega) (by omega) (fun z19 e_z19 i_z19 l_z19 u_z19 => ?_)
              obtain rfl : z19 = 3 := by omega
              refine yG.load xik rfl (fun _ _ => rfl) (v := yI (1)) rfl rfl ?_
              refine yG.iadd rfl ?_
              refine yG.load xik rfl (fun _ _ => rfl) (v := yI (z16)) rfl rfl ?_
              rw [show (3 + 1 : Int) = 4 by omega]
              refine yG.invV (rest := []) A_h14.1 (bOb (d_Net W) H_k0) rfl rfl rfl rfl (c_Net_put_1_4 W (d + 2) A_h14.1 H_k0 (p3) (z16) (by omega) (by omega) (by omega) (by omega)) (fun rv h20 q9 => ?_)
              obtain ⟨⟨rfl, R_z21⟩, B_h20⟩ := q9
              have A_h20 := A_h14.tr B_h20 (by decide)
              show yG _ _ _ _ _ _ _ _ _ _ [] _
              refine yG.load xik rfl (fun _ _ => rfl) (v := yI (z16)) rfl rfl ?_
              refine yG.store1 xik (L' := [(4, yI (z16)), (6, yI (z16)), (0, yR k0), (1, yR k1), (2, yI (1)), (3, yI (p3)), (5, yI (1))]) rfl (fun _ _ => rfl) rfl rfl ?_
              refine yG.iinc rfl (a := 1) rfl (L' := [(5, yI (1 + 1)), (4, yI (z16)), (6, yI (z16)), (0, yR k0), (1, yR k1), (2, yI (1)), (3, yI (p3))]) rfl ?_
              refine yG.goto rfl (t := 6) rfl ?_
              exact yG.mono (yG.sub (i_6 (z16) (1 + 1)  h20 A_h20   (by omega) (by omega) (by omega) (by omega) (by omega) (by omega) (by omega) (by omega) (by omega)) (ySub.cons rfl (ySub.cons rfl (ySub.cons rfl (ySub.cons rfl (ySub.cons rfl (ySub.cons rfl (ySub.nil)))))))) (by omega)
            · have c18 : (z16 : Int) = a4 := c18
              refine yG.num (c := 0) rfl (fun _ _ => rfl) (by decide) ?_
              refine yG.ret rfl (fun _ _ => rfl) ?_
              exact (yP.bool (by omega) ⟨⟨0, rfl, by omega, by omega, trivial⟩, A_h14⟩)
      · subst c1
        refine yG.load xik rfl (fun _ _ => rfl) (v := yI (2)) rfl rfl ?_
        refine yG.getS (c := 6) rfl rfl ?_
        refine yG.load xik rfl (fun _ _ => rfl) (v := yI (1)) rfl rfl ?_
        refine yG.ialdF A_hq.1 (v_S_Net_ENDS W (s_S_Net_ENDS W)) rfl rfl (by omega) (by omega) (fun z22 e_z22 i_z22 l_z22 u_z22 => ?_)
        obtain rfl : z22 = 2 := by omega
        refine yG.icmp rfl (t := 70) rfl ⟨by omega, by omega⟩ ⟨by omega, by omega⟩ (fun c23 => ?_) (fun c23 => ?_)
        · have c23 : (2 : Int) ≥ 2 := c23
          refine yG.num (c := 1) rfl (fun _ _ => rfl) (by decide) ?_
          refine yG.ret rfl (fun _ _ => rfl) ?_
          exact (yP.bool (by omega) ⟨⟨1, rfl, by omega, by omega, trivial⟩, A_hq⟩)
        · have c23 : (2 : Int) < 2 := c23
          exfalso; omega
  refine yC.of (M := (xt_X5_readEnds, (7, (4, (6, []))))) rfl rfl (N := 280) (yfuel (by decide)) ?_
  show yG 89 xfts (xcall 89 xfts xpools xms (d + 3)) (xpool xp_RX5) [] xt_X5_readEnds (yP 4 (bQi G [(32768, 2), (32768, 3), (32768, 5), (32768, 6), (32768, 7), (16777216, 256)] hp 0 1 (fun _ => True))) 280 0 [(0, yR k0), (1, yR k1), (2, yI (1)), (3, yI (p3))] [] hp
  have i_6 := H 7
  refine yG.num (c := -1) rfl (fun _ _ => rfl) (by decide) ?_
  refine yG.store1 xik (L' := [(4, yI ((-1))), (0, yR k0), (1, yR k1), (2, yI (1)), (3, yI (p3))]) rfl (fun _ _ => rfl) rfl rfl ?_
  refine yG.num (c := 0) rfl (fun _ _ => rfl) (by decide) ?_
  refine yG.store1 xik (L' := [(5, yI (0)), (4, yI ((-1))), (0, yR k0), (1, yR k1), (2, yI (1)), (3, yI (p3))]) rfl (fun _ _ => rfl) rfl rfl ?_
  exact yG.mono (yG.sub (i_6 ((-1)) (0)  hp A_hp   (by omega) (by omega) (by omega) (by omega) (by omega) (by omega) (by omega) (by omega) (by omega)) (ySub.cons rfl (ySub.cons rfl (ySub.cons rfl (ySub.cons rfl (ySub.cons rfl (ySub.cons rfl (ySub.nil)))))))) (by omega)
theorem c_Net_readNumbers_1 {hp : xH} (W : bW G) (d : Nat) (hT : zTy G hp) {k0 : Nat} (H_k0 : bRo G 18 k0) {k1 : Nat} (H_k1 : bRo G 15 k1) (p3 : Int) (h3l : 0 ≤ p3) (h3u : p3 ≤ 23) : yC (xcall 89 xfts xpools xms (d + 4)) 166 [yR k0, yR k1, yI (1), yI (p3)] hp (bQi G [(32768, 2), (32768, 3), (32768, 5), (32768, 6), (32768, 7), (16777216, 256)] hp 0 1 (fun _ => True)) := by
  have A_hp : bAx G [(32768, 2), (32768, 3), (32768, 5), (32768, 6), (32768, 7), (16777216, 256)] hp hp := bAx.rf hT
  have H : ∀ m : Nat, (∀ a4 : Int, ∀ hq, bAx G [(32768, 2), (32768, 3), (32768, 5), (32768, 6), (32768, 7), (16777216, 256)] hp hq → 1 ≤ a4 → (-2) ≤ 0 - a4 → 0 ≤ p3 → (-23) ≤ 0 - p3 → 0 - 2 * a4 + 5 < (m : Int) → yG 89 xfts (xcall 89 xfts xpools xms (d + 3)) (xpool xp_RX5) [] xt_X5_readNumbers (yP 4 (bQi G [(32768, 2), (32768, 3), (32768, 5), (32768, 6), (32768, 7), (16777216, 256)] hp 0 1 (fun _ => True))) (27 * m) 7 [(0, yR k0), (1, yR k1), (2, yI (1)), (3, yI (p3)), (4, yI (a4))] [] hq) := by
    intro m
    induction m with
    | zero =>
      intros; exfalso; omega
    | succ m ih =>
      have i_7 := ih
      clear ih
      intro a4 hq A_hq f0 f1 f2 f3 hm
      refine yG.mono (N := 27 * m + 27) ?_ (by omega)
      rcases (show a4 = 1 ∨ a4 = 2 by omega) with c1 | c1
      · subst c1
        refine yG.load xik rfl (fun _ _ => rfl) (v := yI (1)) rfl rfl ?_
        refine yG.getS (c := 9) rfl rfl ?_
        refine yG.load xik rfl (fun _ _ => rfl) (v := yI (1)) rfl rfl ?_
        refine yG.ialdF A_hq.1 (v_S_Net_SETTABLE W (s_S_Net_SETTABLE W)) rfl rfl (by omega) (by omega) (fun z2 e_z2 i_z2 l_z2 u_z2 => ?_)
        obtain rfl : z2 = 2 := by omega
        refine yG.icmp rfl (t := 57) rfl ⟨by omega, by omega⟩ ⟨by omega, by omega⟩ (fun c3 => ?_) (fun c3 => ?_)
        · have c3 : (1 : Int) ≥ 2 := c3
          exfalso; omega
        · have c3 : (1 : Int) < 2 := c3
          refine yG.load xak rfl (fun _ _ => rfl) (v := yR k1) rfl rfl ?_
          refine yG.invV (rest := []) A_hq.1 (bOb (d_Tape W) H_k1) rfl rfl rfl rfl (c_Tape_next W d A_hq.1 H_k1) (fun rv h4 q9 => ?_)
          obtain ⟨⟨z5, rfl, l_z5, u_z5, R_z5⟩, B_h4⟩ := q9
          have A_h4 := A_hq.tr B_h4 (by decide)
          show yG _ _ _ _ _ _ _ _ _ _ (yI z5 :: []) _
          refine yG.step (pc' := 22) (stk' := []) rfl (fun _ _ => rfl) ?_
          refine yG.load xak rfl (fun _ _ => rfl) (v := yR k0) rfl rfl ?_
          refine yG.load xik rfl (fun _ _ => rfl) (v := yI (1)) rfl rfl ?_
          refine yG.load xik rfl (fun _ _ => rfl) (v := yI (p3)) rfl rfl ?_
          refine yG.load xik rfl (fun _ _ => rfl) (v := yI (1)) rfl rfl ?_
          refine yG.load xak rfl (fun _ _ => rfl) (v := yR k1) rfl rfl ?_
          refine yG.getI A_h4.1 (w_Tape_number W H_k1) rfl rfl (fun z6 e_z6 i_z6 l_z6 u_z6 => ?_)
          refine yG.invV (rest := []) A_h4.1 (bOb (d_Net W) H_k0) rfl rfl rfl rfl (c_Net_allows_1_1 W (d + 1) A_h4.1 H_k0 (p3) (z6) (by omega) (by omega) (by omega) (by omega)) (fun rv hp9 q9 => ?_)
          obtain ⟨⟨z7, rfl, l_z7, u_z7, R_z7⟩, e9⟩ := q9
          rw [e9]
          show yG _ _ _ _ _ _ _ _ _ _ (yI z7 :: []) _
          refine yG.ifz rfl (t := 39) rfl ⟨by omega, by omega⟩ (fun c8 => ?_) (fun c8 => ?_)
          · have c8 : (z7 : Int) ≠ 0 := c8
            refine yG.load xak rfl (fun _ _ => rfl) (v := yR k0) rfl rfl ?_
            refine yG.load xik rfl (fun _ _ => rfl) (v := yI (1)) rfl rfl ?_
            refine yG.load xik rfl (fun _ _ => rfl) (v := yI (p3)) rfl rfl ?_
            refine yG.load xik rfl (fun _ _ => rfl) (v := yI (1)) rfl rfl ?_
            refine yG.load xak rfl (fun _ _ => rfl) (v := yR k1) rfl rfl ?_
            refine yG.getI A_h4.1 (w_Tape_number W H_k1) rfl rfl (fun z9 e_z9 i_z9 l_z9 u_z9 => ?_)
            refine yG.invV (rest := []) A_h4.1 (bOb (d_Net W) H_k0) rfl rfl rfl rfl (c_Net_put_1_1 W (d + 2) A_h4.1 H_k0 (p3) (z9) (by omega) (by omega) (by omega) (by omega)) (fun rv h10 q9 => ?_)
            obtain ⟨⟨rfl, R_z11⟩, B_h10⟩ := q9
            have A_h10 := A_h4.tr B_h10 (by decide)
            have : ys h10 k1 7 = ys h4 k1 7 := B_h10.ys H_k1 (by decide)
            show yG _ _ _ _ _ _ _ _ _ _ [] _
            refine yG.iinc rfl (a := 1) rfl (L' := [(4, yI (1 + 1)), (0, yR k0), (1, yR k1), (2, yI (1)), (3, yI (p3))]) rfl ?_
            refine yG.goto rfl (t := 7) rfl ?_
            exact yG.mono (yG.sub (i_7 (1 + 1)  h10 A_h10   (by omega) (by omega) (by omega) (by omega) (by omega)) (ySub.cons rfl (ySub.cons rfl (ySub.cons rfl (ySub.cons rfl (ySub.cons rfl (ySub.nil))))))) (by omega)
          · have c8 : (z7 : Int) = 0 := c8
            refine yG.num (c := 0) rfl (fun _ _ => rfl) (by decide) ?_
            refine yG.ret rfl (fun _ _ => rfl) ?_
            exact (yP.bool (by omega) ⟨⟨0, rfl, by omega, by omega, trivial⟩, A_h4⟩)
      · subst c1
        refine yG.load xik rfl (fun _ _ => rfl) (v := yI (2)) rfl rfl ?_
        refine yG.getS (c := 9) rfl rfl ?_
        refine yG.load xik rfl (fun _ _ => rfl) (v := yI (1)) rfl rfl ?_
        refine yG.ialdF A_hq.1 (v_S_Net_SETTABLE W (s_S_Net_SETTABLE W)) rfl rfl (by omega) (by omega) (fun z12 e_z12 i_z12 l_z12 u_z12 => ?_)
        obtain rfl : z12 = 2 := by omega
        refine yG.icmp rfl (t := 57) rfl ⟨by omega, by omega⟩ ⟨by omega, by omega⟩ (fun c13 => ?_) (fun c13 => ?_)
        · have c13 : (2 : Int) ≥ 2 := c13
          refine yG.num (c := 1) rfl (fun _ _ => rfl) (by decide) ?_
          refine yG.ret rfl (fun _ _ => rfl) ?_
          exact (yP.bool (by omega) ⟨⟨1, rfl, by omega, by omega, trivial⟩, A_hq⟩)
        · have c13 : (2 : Int) < 2 := c13
          exfalso; omega
  refine yC.of (M := (xt_X5_readNumbers, (5, (4, (6, []))))) rfl rfl (N := 162) (yfuel (by decide)) ?_
  show yG 89 xfts (xcall 89 xfts xpools xms (d + 3)) (xpool xp_RX5) [] xt_X5_readNumbers (yP 4 (bQi G [(32768, 2), (32768, 3), (32768, 5), (32768, 6), (32768, 7), (16777216, 256)] hp 0 1 (fun _ => True))) 162 0 [(0, yR k0), (1, yR k1), (2, yI (1)), (3, yI (p3))] [] hp
  have i_7 := H 5
  refine yG.getS (c := 8) rfl rfl ?_
  refine yG.load xik rfl (fun _ _ => rfl) (v := yI (1)) rfl rfl ?_
  refine yG.ialdF A_hp.1 (v_S_Net_FIRST_NUMBER W (s_S_Net_FIRST_NUMBER W)) rfl rfl (by omega) (by omega) (fun z1 e_z1 i_z1 l_z1 u_z1 => ?_)
  obtain rfl : z1 = 1 := by omega
  refine yG.store1 xik (L' := [(4, yI (1)), (0, yR k0), (1, yR k1), (2, yI (1)), (3, yI (p3))]) rfl (fun _ _ => rfl) rfl rfl ?_
  exact yG.mono (yG.sub (i_7 (1)  hp A_hp   (by omega) (by omega) (by omega) (by omega) (by omega)) (ySub.cons rfl (ySub.cons rfl (ySub.cons rfl (ySub.cons rfl (ySub.cons rfl (ySub.nil))))))) (by omega)
theorem c_Net_blank_2 {hp : xH} (W : bW G) (d : Nat) (hT : zTy G hp) {k0 : Nat} (H_k0 : bRo G 18 k0) (p2 : Int) (h2l : 0 ≤ p2) (h2u : p2 ≤ 19) : yC (xcall 89 xfts xpools xms (d + 2)) 152 [yR k0, yI (2), yI (p2)] hp (fun rv hp' => (rv = none ∧ True) ∧ bAx G [(67108864, 256)] hp hp') := by
  have A_hp : bAx G [(67108864, 256)] hp hp := bAx.rf hT
  have H : ∀ m : Nat, (∀ a3 : Int, ∀ hq, bAx G [(67108864, 256)] hp hq → 0 ≤ a3 → (-6) ≤ 0 - a3 → 0 ≤ p2 → (-19) ≤ 0 - p2 → 0 - 2 * a3 + 13 < (m : Int) → yG 89 xfts (xcall 89 xfts xpools xms (d + 1)) (xpool xp_RX5) [] xt_X5_blank (yP 0 (fun rv hp' => (rv = none ∧ True) ∧ bAx G [(67108864, 256)] hp hp')) (18 * m) 2 [(0, yR k0), (1, yI (2)), (2, yI (p2)), (3, yI (a3))] [] hq) := by
    intro m
    induction m with
    | zero =>
      intros; exfalso; omega
    | succ m ih =>
      have i_2 := ih
      clear ih
      intro a3 hq A_hq f0 f1 f2 f3 hm
      refine yG.mono (N := 18 * m + 18) ?_ (by omega)
      rcases (show a3 = 0 ∨ a3 = 1 ∨ a3 = 2 ∨ a3 = 3 ∨ a3 = 4 ∨ a3 = 5 ∨ a3 = 6 by omega) with c1 | c1 | c1 | c1 | c1 | c1 | c1
      · subst c1
        refine yG.load xik rfl (fun _ _ => rfl) (v := yI (0)) rfl rfl ?_
        refine yG.getS (c := 2) rfl rfl ?_
        refine yG.load xik rfl (fun _ _ => rfl) (v := yI (2)) rfl rfl ?_
        refine yG.ialdF A_hq.1 (v_S_Net_WIDTH W (s_S_Net_WIDTH W)) rfl rfl (by omega) (by omega) (fun z2 e_z2 i_z2 l_z2 u_z2 => ?_)
        obtain rfl : z2 = 6 := by omega
        refine yG.icmp rfl (t := 25) rfl ⟨by omega, by omega⟩ ⟨by omega, by omega⟩ (fun c3 => ?_) (fun c3 => ?_)
        · have c3 : (0 : Int) ≥ 6 := c3
          exfalso; omega
        · have c3 : (0 : Int) < 6 := c3
          refine yG.load xak rfl (fun _ _ => rfl) (v := yR k0) rfl rfl ?_
          refine yG.load xik rfl (fun _ _ => rfl) (v := yI (2)) rfl rfl ?_
          refine yG.load xik rfl (fun _ _ => rfl) (v := yI (p2)) rfl rfl ?_
          refine yG.load xik rfl (fun _ _ => rfl) (v := yI (0)) rfl rfl ?_
          refine yG.num (c := 0) rfl (fun _ _ => rfl) (by decide) ?_
          refine yG.invV (rest := []) A_hq.1 (bOb (d_Net W) H_k0) rfl rfl rfl rfl (c_Net_put_2_0 W d A_hq.1 H_k0 (p2) (0) (by omega) (by omega) (by omega) (by omega)) (fun rv h4 q9 => ?_)
          obtain ⟨⟨rfl, R_z5⟩, B_h4⟩ := q9
          have A_h4 := A_hq.tr B_h4 (by decide)
          show yG _ _ _ _ _ _ _ _ _ _ [] _
          refine yG.iinc rfl (a := 0) rfl (L' := [(3, yI (0 + 1)), (0, yR k0), (1, yI (2)), (2, yI (p2))]) rfl ?_
          refine yG.goto rfl (t := 2) rfl ?_
          exact yG.mono (yG.sub (i_2 (0 + 1)  h4 A_h4   (by omega) (by omega) (by omega) (by omega) (by omega)) (ySub.cons rfl (ySub.cons rfl (ySub.cons rfl (ySub.cons rfl (ySub.nil)))))) (by omega)
      · subst c1
        refine yG.load xik rfl (fun _ _ => rfl) (v := yI (1)) rfl rfl ?_
        refine yG.getS (c := 2) rfl rfl ?_
        refine yG.load xik rfl (fun _ _ => rfl) (v := yI (2)) rfl rfl ?_
        refine yG.ialdF A_hq.1 (v_S_Net_WIDTH W (s_S_Net_WIDTH W)) rfl rfl (by omega) (by omega) (fun z6 e_z6 i_z6 l_z6 u_z6 => ?_)
        obtain rfl : z6 = 6 := by omega
        refine yG.icmp rfl (t := 25) rfl ⟨by omega, by omega⟩ ⟨by omega, by omega⟩ (fun c7 => ?_) (fun c7 => ?_)
        · have c7 : (1 : Int) ≥ 6 := c7
          exfalso; omega
        · have c7 : (1 : Int) < 6 := c7
          refine yG.load xak rfl (fun _ _ => rfl) (v := yR k0) rfl rfl ?_
          refine yG.load xik rfl (fun _ _ => rfl) (v := yI (2)) rfl rfl ?_
          refine yG.load xik rfl (fun _ _ => rfl) (v := yI (p2)) rfl rfl ?_
          refine yG.load xik rfl (fun _ _ => rfl) (v := yI (1)) rfl rfl ?_
          refine yG.num (c := 0) rfl (fun _ _ => rfl) (by decide) ?_
          refine yG.invV (rest := []) A_hq.1 (bOb (d_Net W) H_k0) rfl rfl rfl rfl (c_Net_put_2_1 W d A_hq.1 H_k0 (p2) (0) (by omega) (by omega) (by omega) (by omega)) (fun rv h8 q9 => ?_)
          obtain ⟨⟨rfl, R_z9⟩, B_h8⟩ := q9
          have A_h8 := A_hq.tr B_h8 (by decide)
          show yG _ _ _ _ _ _ _ _ _ _ [] _
          refine yG.iinc rfl (a := 1) rfl (L' := [(3, yI (1 + 1)), (0, yR k0), (1, yI (2)), (2, yI (p2))]) rfl ?_
          refine yG.goto rfl (t := 2) rfl ?_
          exact yG.mono (yG.sub (i_2 (1 + 1)  h8 A_h8   (by omega) (by omega) (by omega) (by omega) (by omega)) (ySub.cons rfl (ySub.cons rfl (ySub.cons rfl (ySub.cons rfl (ySub.nil)))))) (by omega)
      · subst c1
        refine yG.load xik rfl (fun _ _ => rfl) (v := yI (2)) rfl rfl ?_
        refine yG.getS (c := 2) rfl rfl ?_
        refine yG.load xik rfl (fun _ _ => rfl) (v := yI (2)) rfl rfl ?_
        refine yG.ialdF A_hq.1 (v_S_Net_WIDTH W (s_S_Net_WIDTH W)) rfl rfl (by omega) (by omega) (fun z10 e_z10 i_z10 l_z10 u_z10 => ?_)
        obtain rfl : z10 = 6 := by omega
        refine yG.icmp rfl (t := 25) rfl ⟨by omega, by omega⟩ ⟨by omega, by omega⟩ (fun c11 => ?_) (fun c11 => ?_)
        · have c11 : (2 : Int) ≥ 6 := c11
          exfalso; omega
        · have c11 : (2 : Int) < 6 := c11
          refine yG.load xak rfl (fun _ _ => rfl) (v := yR k0) rfl rfl ?_
          refine yG.load xik rfl (fun _ _ => rfl) (v := yI (2)) rfl rfl ?_
          refine yG.load xik rfl (fun _ _ => rfl) (v := yI (p2)) rfl rfl ?_
          refine yG.load xik rfl (fun _ _ => rfl) (v := yI (2)) rfl rfl ?_
          refine yG.num (c := 0) rfl (fun _ _ => rfl) (by decide) ?_
          refine yG.invV (rest := []) A_hq.1 (bOb (d_Net W) H_k0) rfl rfl rfl rfl (c_Net_put_2_2 W d A_hq.1 H_k0 (p2) (0) (by omega) (by omega) (by omega) (by omega)) (fun rv h12 q9 => ?_)
          obtain ⟨⟨rfl, R_z13⟩, B_h12⟩ := q9
          have A_h12 := A_hq.tr B_h12 (by decide)
          show yG _ _ _ _ _ _ _ _ _ _ [] _
          refine yG.iinc rfl (a := 2) rfl (L' := [(3, yI (2 + 1)), (0, yR k0), (1, yI (2)), (2, yI (p2))]) rfl ?_
          refine yG.goto rfl (t := 2) rfl ?_
          exact yG.mono (yG.sub (i_2 (2 + 1)  h12 A_h12   (by omega) (by omega) (by omega) (by omega) (by omega)) (ySub.cons rfl (ySub.cons rfl (ySub.cons rfl (ySub.cons rfl (ySub.nil)))))) (by omega)
      · subst c1
        refine yG.load xik rfl (fun _ _ => rfl) (v := yI (3)) rfl rfl ?_
        refine yG.getS (c := 2) rfl rfl ?_
        refine yG.load xik rfl (fun _ _ => rfl) (v := yI (2)) rfl rfl ?_
        refine yG.ialdF A_hq.1 (v_S_Net_WIDTH W (s_S_Net_WIDTH W)) rfl rfl (by omega) (by omega) (fun z14 e_z14 i_z14 l_z14 u_z14 => ?_)
        obtain rfl : z14 = 6 := by omega
        refine yG.icmp rfl (t := 25) rfl ⟨by omega, by omega⟩ ⟨by omega, by omega⟩ (fun c15 => ?_) (fun c15 => ?_)
        · have c15 : (3 : Int) ≥ 6 := c15
          exfalso; omega
        · have c15 : (3 : Int) < 6 := c15
          refine yG.load xak rfl (fun _ _ => rfl) (v := yR k0) rfl rfl ?_
          refine yG.load xik rfl (fun _ _ => rfl) (v := yI (2)) rfl rfl ?_
          refine yG.load xik rfl (fun _ _ => rfl) (v := yI (p2)) rfl rfl ?_
          refine yG.load xik rfl (fun _ _ => rfl) (v := yI (3)) rfl rfl ?_
          refine yG.num (c := 0) rfl (fun _ _ => rfl) (by decide) ?_
          refine yG.invV (rest := []) A_hq.1 (bOb (d_Net W) H_k0) rfl rfl rfl rfl (c_Net_put_2_3 W d A_hq.1 H_k0 (p2) (0) (by omega) (by omega) (by omega) (by omega)) (fun rv h16 q9 => ?_)
          obtain ⟨⟨rfl, R_z17⟩, B_h16⟩ := q9
          have A_h16 := A_hq.tr B_h16 (by decide)
          show yG _ _ _ _ _ _ _ _ _ _ [] _
          refine yG.iinc rfl (a := 3) rfl (L' := [(3, yI (3 + 1)), (0, yR k0), (1, yI (2)), (2, yI (p2))]) rfl ?_
          refine yG.goto rfl (t := 2) rfl ?_
          exact yG.mono (yG.sub (i_2 (3 + 1)  h16 A_h16   (by omega) (by omega) (by omega) (by omega) (by omega)) (ySub.cons rfl (ySub.cons rfl (ySub.cons rfl (ySub.cons rfl (ySub.nil)))))) (by omega)
      · subst c1
        refine yG.load xik rfl (fun _ _ => rfl) (v := yI (4)) rfl rfl ?_
        refine yG.getS (c := 2) rfl rfl ?_
        refine yG.load xik rfl (fun _ _ => rfl) (v := yI (2)) rfl rfl ?_
        refine yG.ialdF A_hq.1 (v_S_Net_WIDTH W (s_S_Net_WIDTH W)) rfl rfl (by omega) (by omega) (fun z18 e_z18 i_z18 l_z18 u_z18 => ?_)
        obtain rfl : z18 = 6 := by omega
        refine yG.icmp rfl (t := 25) rfl ⟨by omega, by omega⟩ ⟨by omega, by omega⟩ (fun c19 => ?_) (fun c19 => ?_)
        · have c19 : (4 : Int) ≥ 6 := c19
          exfalso; omega
        · have c19 : (4 : Int) < 6 := c19
          refine yG.load xak rfl (fun _ _ => rfl) (v := yR k0) rfl rfl ?_
          refine yG.load xik rfl (fun _ _ => rfl) (v := yI (2)) rfl rfl ?_
          refine yG.load xik rfl (fun _ _ => rfl) (v := yI (p2)) rfl rfl ?_
          refine yG.load xik rfl (fun _ _ => rfl) (v := yI (4)) rfl rfl ?_
          refine yG.num (c := 0) rfl (fun _ _ => rfl) (by decide) ?_
          refine yG.invV (rest := []) A_hq.1 (bOb (d_Net W) H_k0) rfl rfl rfl rfl (c_Net_put_2_4 W d A_hq.1 H_k0 (p2) (0) (by omega) (by omega) (by omega) (by omega)) (fun rv h20 q9 => ?_)
          obtain ⟨⟨rfl, R_z21⟩, B_h20⟩ := q9
          have A_h20 := A_hq.tr B_h20 (by decide)
          show yG _ _ _ _ _ _ _ _ _ _ [] _
          refine yG.iinc rfl (a := 4) rfl (L' := [(3, yI (4 + 1)), (0, yR k0), (1, yI (2)), (2, yI (p2))]) rfl ?_
          refine yG.goto rfl (t := 2) rfl ?_
          exact yG.mono (yG.sub (i_2 (4 + 1)  h20 A_h20   (by omega) (by omega) (by omega) (by omega) (by omega)) (ySub.cons rfl (ySub.cons rfl (ySub.cons rfl (ySub.cons rfl (ySub.nil)))))) (by omega)
      · subst c1
        refine yG.load xik rfl (fun _ _ => rfl) (v := yI (5)) rfl rfl ?_
        refine yG.getS (c := 2) rfl rfl ?_
        refine yG.load xik rfl (fun _ _ => rfl) (v := yI (2)) rfl rfl ?_
        refine yG.ialdF A_hq.1 (v_S_Net_WIDTH W (s_S_Net_WIDTH W)) rfl rfl (by omega) (by omega) (fun z22 e_z22 i_z22 l_z22 u_z22 => ?_)
        obtain rfl : z22 = 6 := by omega
        refine yG.icmp rfl (t := 25) rfl ⟨by omega, by omega⟩ ⟨by omega, by omega⟩ (fun c23 => ?_) (fun c23 => ?_)
        · have c23 : (5 : Int) ≥ 6 := c23
          exfalso; omega
        · have c23 : (5 : Int) < 6 := c23
          refine yG.load xak rfl (fun _ _ => rfl) (v := yR k0) rfl rfl ?_
          refine yG.load xik rfl (fun _ _ => rfl) (v := yI (2)) rfl rfl ?_
          refine yG.load xik rfl (fun _ _ => rfl) (v := yI (p2)) rfl rfl ?_
          refine yG.load xik rfl (fun _ _ => rfl) (v := yI (5)) rfl rfl ?_
          refine yG.num (c := 0) rfl (fun _ _ => rfl) (by decide) ?_
          refine yG.invV (rest := []) A_hq.1 (bOb (d_Net W) H_k0) rfl rfl rfl rfl (c_Net_put_2_5 W d A_hq.1 H_k0 (p2) (0) (by omega) (by omega) (by omega) (by omega)) (fun rv h24 q9 => ?_)
          obtain ⟨⟨rfl, R_z25⟩, B_h24⟩ := q9
          have A_h24 := A_hq.tr B_h24 (by decide)
          show yG _ _ _ _ _ _ _ _ _ _ [] _
          refine yG.iinc rfl (a := 5) rfl (L' := [(3, yI (5 + 1)), (0, yR k0), (1, yI (2)), (2, yI (p2))]) rfl ?_
          refine yG.goto rfl (t := 2) rfl ?_
          exact yG.mono (yG.sub (i_2 (5 + 1)  h24 A_h24   (by omega) (by omega) (by omega) (by omega) (by omega)) (ySub.cons rfl (ySub.cons rfl (ySub.cons rfl (ySub.cons rfl (ySub.nil)))))) (by omega)
      · subst c1
        refine yG.load xik rfl (fun _ _ => rfl) (v := yI (6)) rfl rfl ?_
        refine yG.getS (c := 2) rfl rfl ?_
        refine yG.load xik rfl (fun _ _ => rfl) (v := yI (2)) rfl rfl ?_
        refine yG.ialdF A_hq.1 (v_S_Net_WIDTH W (s_S_Net_WIDTH W)) rfl rfl (by omega) (by omega) (fun z26 e_z26 i_z26 l_z26 u_z26 => ?_)
        obtain rfl : z26 = 6 := by omega
        refine yG.icmp rfl (t := 25) rfl ⟨by omega, by omega⟩ ⟨by omega, by omega⟩ (fun c27 => ?_) (fun c27 => ?_)
        · have c27 : (6 : Int) ≥ 6 := c27
          refine yG.load xik rfl (fun _ _ => rfl) (v := yI (2)) rfl rfl ?_
          refine yG.num (c := 2) rfl (fun _ _ => rfl) (by decide) ?_
          refine yG.icmp rfl (t := 41) rfl ⟨by omega, by omega⟩ ⟨by omega, by omega⟩ (fun c28 => ?_) (fun c28 => ?_)
          · have c28 : (2 : Int) ≠ 2 := c28
            exfalso; omega
          · have c28 : (2 : Int) = 2 := c28
            refine yG.load xak rfl (fun _ _ => rfl) (v := yR k0) rfl rfl ?_
            refine yG.num (c := 2) rfl (fun _ _ => rfl) (by decide) ?_
            refine yG.load xik rfl (fun _ _ => rfl) (v := yI (p2)) rfl rfl ?_
            refine yG.num (c := 0) rfl (fun _ _ => rfl) (by decide) ?_
            refine yG.num (c := 1) rfl (fun _ _ => rfl) (by decide) ?_
            refine yG.invV (rest := []) A_hq.1 (bOb (d_Net W) H_k0) rfl rfl rfl rfl (c_Net_put_2_0 W d A_hq.1 H_k0 (p2) (1) (by omega) (by omega) (by omega) (by omega)) (fun rv h29 q9 => ?_)
            obtain ⟨⟨rfl, R_z30⟩, B_h29⟩ := q9
            have A_h29 := A_hq.tr B_h29 (by decide)
            show yG _ _ _ _ _ _ _ _ _ _ [] _
            refine yG.goto rfl (t := 92) rfl ?_
            refine yG.ret rfl (fun _ _ => rfl) ?_
            exact (yP.void ⟨⟨rfl, trivial⟩, A_h29⟩)
        · have c27 : (6 : Int) < 6 := c27
          exfalso; omega
  refine yC.of (M := (xt_X5_blank, (4, (0, (6, []))))) rfl rfl (N := 288) (yfuel (by decide)) ?_
  show yG 89 xfts (xcall 89 xfts xpools xms (d + 1)) (xpool xp_RX5) [] xt_X5_blank (yP 0 (fun rv hp' => (rv = none ∧ True) ∧ bAx G [(67108864, 256)] hp hp')) 288 0 [(0, yR k0), (1, yI (2)), (2, yI (p2))] [] hp
  have i_2 := H 15
  refine yG.num (c := 0) rfl (fun _ _ => rfl) (by decide) ?_
  refine yG.store1 xik (L' := [(3, yI (0)), (0, yR k0), (1, yI (2)), (2, yI (p2))]) rfl (fun _ _ => rfl) rfl rfl ?_
  exact yG.mono (yG.sub (i_2 (0)  hp A_hp   (by omega) (by omega) (by omega) (by omega) (by omega)) (ySub.cons rfl (ySub.cons rfl (ySub.cons rfl (ySub.cons rfl (ySub.nil)))))) (by omega)
theorem c_Net_readEnds_2 {hp : xH} (W : bW G) (d : Nat) (hT : zTy G hp) {k0 : Nat} (H_k0 : bRo G 18 k0) {k1 : Nat} (H_k1 : bRo G 15 k1) (p3 : Int) (h3l : 0 ≤ p3) (h3u : p3 ≤ 19) : yC (xcall 89 xfts xpools xms (d + 4)) 165 [yR k0, yR k1, yI (2), yI (p3)] hp (bQi G [(32768, 2), (32768, 3), (32768, 5), (32768, 6), (32768, 7), (67108864, 256)] hp 0 1 (fun _ => True)) := by
  have A_hp : bAx G [(32768, 2), (32768, 3), (32768, 5), (32768, 6), (32768, 7), (67108864, 256)] hp hp := bAx.rf hT
  have H : ∀ m : Nat, (∀ a4 : Int, ∀ a5 : Int, ∀ hq, bAx G [(32768, 2), (32768, 3), (32768, 5), (32768, 6), (32768, 7), (67108864, 256)] hp hq → (-1) ≤ a4 → (-15) ≤ 0 - a4 → 0 ≤ a5 → (-2) ≤ 0 - a5 → 0 ≤ p3 → (-19) ≤ 0 - p3 → (-2) ≤ a4 - a5 → (-14) ≤ 0 - a4 + a5 → 0 - 2 * a5 + 5 < (m : Int) → yG 89 xfts (xcall 89 xfts xpools xms (d + 3)) (xpool xp_RX5) [] xt_X5_readEnds (yP 4 (bQi G [(32768, 2), (32768, 3), (32768, 5), (32768, 6), (32768, 7), (67108864, 256)] hp 0 1 (fun _ => True))) (35 * m) 6 [(0, yR k0), (1, yR k1), (2, yI (2)), (3, yI (p3)), (4, yI (a4)), (5, yI (a5))] [] hq) := by
    intro m
    induction m with
    | zero =>
      intros; exfalso; omega
    | succ m ih =>
      have i_6 := ih
      clear ih
      intro a4 a5 hq A_hq f0 f1 f2 f3 f4 f5 f6 f7 hm
      refine yG.mono (N := 35 * m + 35) ?_ (by omega)
      rcases (show a5 = 0 ∨ a5 = 1 ∨ a5 = 2 by omega) with c1 | c1 | c1
      · subst c1
        refine yG.load xik rfl (fun _ _ => rfl) (v := yI (0)) rfl rfl ?_
        refine yG.getS (c := 6) rfl rfl ?_
        refine yG.load xik rfl (fun _ _ => rfl) (v := yI (2)) rfl rfl ?_
        refine yG.ialdF A_hq.1 (v_S_Net_ENDS W (s_S_Net_ENDS W)) rfl rfl (by omega) (by omega) (fun z2 e_z2 i_z2 l_z2 u_z2 => ?_)
        obtain rfl : z2 = 2 := by omega
        refine yG.icmp rfl (t := 70) rfl ⟨by omega, by omega⟩ ⟨by omega, by omega⟩ (fun c3 => ?_) (fun c3 => ?_)
        · have c3 : (0 : Int) ≥ 2 := c3
          exfalso; omega
        · have c3 : (0 : Int) < 2 := c3
          refine yG.load xak rfl (fun _ _ => rfl) (v := yR k1) rfl rfl ?_
          refine yG.invV (rest := []) A_hq.1 (bOb (d_Tape W) H_k1) rfl rfl rfl rfl (c_Tape_next W d A_hq.1 H_k1) (fun rv h4 q9 => ?_)
          obtain ⟨⟨z5, rfl, l_z5, u_z5, R_z5⟩, B_h4⟩ := q9
          have A_h4 := A_hq.tr B_h4 (by decide)
          show yG _ _ _ _ _ _ _ _ _ _ (yI z5 :: []) _
          refine yG.step (pc' := 21) (stk' := []) rfl (fun _ _ => rfl) ?_
          refine yG.load xak rfl (fun _ _ => rfl) (v := yR k0) rfl rfl ?_
          refine yG.load xak rfl (fun _ _ => rfl) (v := yR k1) rfl rfl ?_
          refine yG.num (c := 0) rfl (fun _ _ => rfl) (by decide) ?_
          refine yG.invV (rest := []) A_h4.1 (bOb (d_Net W) H_k0) rfl rfl rfl rfl (c_Net_named__0 W (d + 2) A_h4.1 H_k0 H_k1) (fun rv hp9 q9 => ?_)
          obtain ⟨⟨z6, rfl, l_z6, u_z6, R_z6⟩, e9⟩ := q9
          rw [e9]
          show yG _ _ _ _ _ _ _ _ _ _ (yI z6 :: []) _
          refine yG.store1 xik (L' := [(6, yI (z6)), (0, yR k0), (1, yR k1), (2, yI (2)), (3, yI (p3)), (4, yI (a4)), (5, yI (0))]) rfl (fun _ _ => rfl) rfl rfl ?_
          refine yG.load xik rfl (fun _ _ => rfl) (v := yI (z6)) rfl rfl ?_
          refine yG.num (c := -1) rfl (fun _ _ => rfl) (by decide) ?_
          refine yG.icmp rfl (t := 42) rfl ⟨by omega, by omega⟩ ⟨by omega, by omega⟩ (fun c7 => ?_) (fun c7 => ?_)
          · have c7 : (z6 : Int) = (-1) := c7
            refine yG.num (c := 0) rfl (fun _ _ => rfl) (by decide) ?_
            refine yG.ret rfl (fun _ _ => rfl) ?_
            exact (yP.bool (by omega) ⟨⟨0, rfl, by omega, by omega, trivial⟩, A_h4⟩)
          · have c7 : (z6 : Int) ≠ (-1) := c7
            refine yG.load xik rfl (fun _ _ => rfl) (v := yI (z6)) rfl rfl ?_
            refine yG.load xik rfl (fun _ _ => rfl) (v := yI (a4)) rfl rfl ?_
            refine yG.icmp rfl (t := 44) rfl ⟨by omega, by omega⟩ ⟨by omega, by omega⟩ (fun c8 => ?_) (fun c8 => ?_)
            · have c8 : (z6 : Int) ≠ a4 := c8
              refine yG.load xak rfl (fun _ _ => rfl) (v := yR k0) rfl rfl ?_
              refine yG.load xik rfl (fun _ _ => rfl) (v := yI (2)) rfl rfl ?_
              refine yG.load xik rfl (fun _ _ => rfl) (v := yI (p3)) rfl rfl ?_
              refine yG.getS (c := 7) rfl rfl ?_
              refine yG.load xik rfl (fun _ _ => rfl) (v := yI (2)) rfl rfl ?_
              refine yG.ialdF A_h4.1 (v_S_Net_FIRST_END W (s_S_Net_FIRST_END W)) rfl rfl (by omega) (by omega) (fun z9 e_z9 i_z9 l_z9 u_z9 => ?_)
              obtain rfl : z9 = 4 := by omega
              refine yG.load xik rfl (fun _ _ => rfl) (v := yI (0)) rfl rfl ?_
              refine yG.iadd rfl ?_
              refine yG.load xik rfl (fun _ _ => rfl) (v := yI (z6)) rfl rfl ?_
              rw [show (4 + 0 : Int) = 4 by omega]
              refine yG.invV (rest := []) A_h4.1 (bOb (d_Net W) H_k0) rfl rfl rfl rfl (c_Net_put_2_4 W (d + 2) A_h4.1 H_k0 (p3) (z6) (by omega) (by omega) (by omega) (by omega)) (fun rv h10 q9 => ?_)
              obtain ⟨⟨rfl, R_z11⟩, B_h10⟩ := q9
              have A_h10 := A_h4.tr B_h10 (by decide)
              show yG _ _ _ _ _ _ _ _ _ _ [] _
              refine yG.load xik rfl (fun _ _ => rfl) (v := yI (z6)) rfl rfl ?_
              refine yG.store1 xik (L' := [(4, yI (z6)), (6, yI (z6)), (0, yR k0), (1, yR k1), (2, yI (2)), (3, yI (p3)), (5, yI (0))]) rfl (fun _ _ => rfl) rfl rfl ?_
              refine yG.iinc rfl (a := 0) rfl (L' := [(5, yI (0 + 1)), (4, yI (z6)), (6, yI (z6)), (0, yR k0), (1, yR k1), (2, yI (2)), (3, yI (p3))]) rfl ?_
              refine yG.goto rfl (t := 6) rfl ?_
              exact yG.mono (yG.sub (i_6 (z6) (0 + 1)  h10 A_h10   (by omega) (by omega) (by omega) (by omega) (by omega) (by omega) (by omega) (by omega) (by omega)) (ySub.cons rfl (ySub.cons rfl (ySub.cons rfl (ySub.cons rfl (ySub.cons rfl (ySub.cons rfl (ySub.nil)))))))) (by omega)
            · have c8 : (z6 : Int) = a4 := c8
              refine yG.num (c := 0) rfl (fun _ _ => rfl) (by decide) ?_
              refine yG.ret rfl (fun _ _ => rfl) ?_
              exact (yP.bool (by omega) ⟨⟨0, rfl, by omega, by omega, trivial⟩, A_h4⟩)
      · subst c1
        refine yG.load xik rfl (fun _ _ => rfl) (v := yI (1)) rfl rfl ?_
        refine yG.getS (c := 6) rfl rfl ?_
        refine yG.load xik rfl (fun _ _ => rfl) (v := yI (2)) rfl rfl ?_
        refine yG.ialdF A_hq.1 (v_S_Net_ENDS W (s_S_Net_ENDS W)) rfl rfl (by omega) (by omega) (fun z12 e_z12 i_z12 l_z12 u_z12 => ?_)
        obtain rfl : z12 = 2 := by omega
        refine yG.icmp rfl (t := 70) rfl ⟨by omega, by omega⟩ ⟨by omega, by omega⟩ (fun c13 => ?_) (fun c13 => ?_)
        · have c13 : (1 : Int) ≥ 2 := c13
          exfalso; omega
        · have c13 : (1 : Int) < 2 := c13
          refine yG.load xak rfl (fun _ _ => rfl) (v := yR k1) rfl rfl ?_
          refine yG.invV (rest := []) A_hq.1 (bOb (d_Tape W) H_k1) rfl rfl rfl rfl (c_Tape_next W d A_hq.1 H_k1) (fun rv h14 q9 => ?_)
          obtain ⟨⟨z15, rfl, l_z15, u_z15, R_z15⟩, B_h14⟩ := q9
          have A_h14 := A_hq.tr B_h14 (by decide)
          show yG _ _ _ _ _ _ _ _ _ _ (yI z15 :: []) _
          refine yG.step (pc' := 21) (stk' := []) rfl (fun _ _ => rfl) ?_
          refine yG.load xak rfl (fun _ _ => rfl) (v := yR k0) rfl rfl ?_
          refine yG.load xak rfl (fun _ _ => rfl) (v := yR k1) rfl rfl ?_
          refine yG.num (c := 0) rfl (fun _ _ => rfl) (by decide) ?_
          refine yG.invV (rest := []) A_h14.1 (bOb (d_Net W) H_k0) rfl rfl rfl rfl (c_Net_named__0 W (d + 2) A_h14.1 H_k0 H_k1) (fun rv hp9 q9 => ?_)
          obtain ⟨⟨z16, rfl, l_z16, u_z16, R_z16⟩, e9⟩ := q9
          rw [e9]
          show yG _ _ _ _ _ _ _ _ _ _ (yI z16 :: []) _
          refine yG.store1 xik (L' := [(6, yI (z16)), (0, yR k0), (1, yR k1), (2, yI (2)), (3, yI (p3)), (4, yI (a4)), (5, yI (1))]) rfl (fun _ _ => rfl) rfl rfl ?_
          refine yG.load xik rfl (fun _ _ => rfl) (v := yI (z16)) rfl rfl ?_
          refine yG.num (c := -1) rfl (fun _ _ => rfl) (by decide) ?_
          refine yG.icmp rfl (t := 42) rfl ⟨by omega, by omega⟩ ⟨by omega, by omega⟩ (fun c17 => ?_) (fun c17 => ?_)
          · have c17 : (z16 : Int) = (-1) := c17
            refine yG.num (c := 0) rfl (fun _ _ => rfl) (by decide) ?_
            refine yG.ret rfl (fun _ _ => rfl) ?_
            exact (yP.bool (by omega) ⟨⟨0, rfl, by omega, by omega, trivial⟩, A_h14⟩)
          · have c17 : (z16 : Int) ≠ (-1) := c17
            refine yG.load xik rfl (fun _ _ => rfl) (v := yI (z16)) rfl rfl ?_
            refine yG.load xik rfl (fun _ _ => rfl) (v := yI (a4)) rfl rfl ?_
            refine yG.icmp rfl (t := 44) rfl ⟨by omega, by omega⟩ ⟨by omega, by omega⟩ (fun c18 => ?_) (fun c18 => ?_)
            · have c18 : (z16 : Int) ≠ a4 := c18
              refine yG.load xak rfl (fun _ _ => rfl) (v := yR k0) rfl rfl ?_
              refine yG.load xik rfl (fun _ _ => rfl) (v := yI (2)) rfl rfl ?_
              refine yG.load xik rfl (fun _ _ => rfl) (v := yI (p3)) rfl rfl ?_
              refine yG.getS (c := 7) rfl rfl ?_
              refine yG.load xik rfl (fun _ _ => rfl) (v := yI (2)) rfl rfl ?_
              refine yG.ialdF A_h14.1 (v_S_Net_FIRST_END W (s_S_Net_FIRST_END W)) rfl rfl (by omega) (by omega) (fun z19 e_z19 i_z19 l_z19 u_z19 => ?_)
              obtain rfl : z19 = 4 := by omega
              refine yG.load xik rfl (fun _ _ => rfl) (v := yI (1)) rfl rfl ?_
              refine yG.iadd rfl ?_
              refine yG.load xik rfl (fun _ _ => rfl) (v := yI (z16)) rfl rfl ?_
              rw [show (4 + 1 : Int) = 5 by omega]
              refine yG.invV (rest := []) A_h14.1 (bOb (d_Net W) H_k0) rfl rfl rfl rfl (c_Net_put_2_5 W (d + 2) A_h14.1 H_k0 (p3) (z16) (by omega) (by omega) (by omega) (by omega)) (fun rv h20 q9 => ?_)
              obtain ⟨⟨rfl, R_z21⟩, B_h20⟩ := q9
              have A_h20 := A_h14.tr B_h20 (by decide)
              show yG _ _ _ _ _ _ _ _ _ _ [] _
              refine yG.load xik rfl (fun _ _ => rfl) (v := yI (z16)) rfl rfl ?_
              refine yG.store1 xik (L' := [(4, yI (z16)), (6, yI (z16)), (0, yR k0), (1, yR k1), (2, yI (2)), (3, yI (p3)), (5, yI (1))]) rfl (fun _ _ => rfl) rfl rfl ?_
              refine yG.iinc rfl (a := 1) rfl (L' := [(5, yI (1 + 1)), (4, yI (z16)), (6, yI (z16)), (0, yR k0), (1, yR k1), (2, yI (2)), (3, yI (p3))]) rfl ?_
              refine yG.goto rfl (t := 6) rfl ?_
              exact yG.mono (yG.sub (i_6 (z16) (1 + 1)  h20 A_h20   (by omega) (by omega) (by omega) (by omega) (by omega) (by omega) (by omega) (by omega) (by omega)) (ySub.cons rfl (ySub.cons rfl (ySub.cons rfl (ySub.cons rfl (ySub.cons rfl (ySub.cons rfl (ySub.nil)))))))) (by omega)
            · have c18 : (z16 : Int) = a4 := c18
              refine yG.num (c := 0) rfl (fun _ _ => rfl) (by decide) ?_
              refine yG.ret rfl (fun _ _ => rfl) ?_
              exact (yP.bool (by omega) ⟨⟨0, rfl, by omega, by omega, trivial⟩, A_h14⟩)
      · subst c1
        refine yG.load xik rfl (fun _ _ => rfl) (v := yI (2)) rfl rfl ?_
        refine yG.getS (c := 6) rfl rfl ?_
        refine yG.load xik rfl (fun _ _ => rfl) (v := yI (2)) rfl rfl ?_
        refine yG.ialdF A_hq.1 (v_S_Net_ENDS W (s_S_Net_ENDS W)) rfl rfl (by omega) (by omega) (fun z22 e_z22 i_z22 l_z22 u_z22 => ?_)
        obtain rfl : z22 = 2 := by omega
        refine yG.icmp rfl (t := 70) rfl ⟨by omega, by omega⟩ ⟨by omega, by omega⟩ (fun c23 => ?_) (fun c23 => ?_)
        · have c23 : (2 : Int) ≥ 2 := c23
          refine yG.num (c := 1) rfl (fun _ _ => rfl) (by decide) ?_
          refine yG.ret rfl (fun _ _ => rfl) ?_
          exact (yP.bool (by omega) ⟨⟨1, rfl, by omega, by omega, trivial⟩, A_hq⟩)
        · have c23 : (2 : Int) < 2 := c23
          exfalso; omega
  refine yC.of (M := (xt_X5_readEnds, (7, (4, (6, []))))) rfl rfl (N := 280) (yfuel (by decide)) ?_
  show yG 89 xfts (xcall 89 xfts xpools xms (d + 3)) (xpool xp_RX5) [] xt_X5_readEnds (yP 4 (bQi G [(32768, 2), (32768, 3), (32768, 5), (32768, 6), (32768, 7), (67108864, 256)] hp 0 1 (fun _ => True))) 280 0 [(0, yR k0), (1, yR k1), (2, yI (2)), (3, yI (p3))] [] hp
  have i_6 := H 7
  refine yG.num (c := -1) rfl (fun _ _ => rfl) (by decide) ?_
  refine yG.store1 xik (L' := [(4, yI ((-1))), (0, yR k0), (1, yR k1), (2, yI (2)), (3, yI (p3))]) rfl (fun _ _ => rfl) rfl rfl ?_
  refine yG.num (c := 0) rfl (fun _ _ => rfl) (by decide) ?_
  refine yG.store1 xik (L' := [(5, yI (0)), (4, yI ((-1))), (0, yR k0), (1, yR k1), (2, yI (2)), (3, yI (p3))]) rfl (fun _ _ => rfl) rfl rfl ?_
  exact yG.mono (yG.sub (i_6 ((-1)) (0)  hp A_hp   (by omega) (by omega) (by omega) (by omega) (by omega) (by omega) (by omega) (by omega) (by omega)) (ySub.cons rfl (ySub.cons rfl (ySub.cons rfl (ySub.cons rfl (ySub.cons rfl (ySub.cons rfl (ySub.nil)))))))) (by omega)
theorem c_Net_readNumbers_2 {hp : xH} (W : bW G) (d : Nat) (hT : zTy G hp) {k0 : Nat} (H_k0 : bRo G 18 k0) {k1 : Nat} (H_k1 : bRo G 15 k1) (p3 : Int) (h3l : 0 ≤ p3) (h3u : p3 ≤ 19) : yC (xcall 89 xfts xpools xms (d + 4)) 166 [yR k0, yR k1, yI (2), yI (p3)] hp (bQi G [(32768, 2), (32768, 3), (32768, 5), (32768, 6), (32768, 7), (67108864, 256)] hp 0 1 (fun _ => True)) := by
  have A_hp : bAx G [(32768, 2), (32768, 3), (32768, 5), (32768, 6), (32768, 7), (67108864, 256)] hp hp := bAx.rf hT
  have H : ∀ m : Nat, (∀ a4 : Int, ∀ hq, bAx G [(32768, 2), (32768, 3), (32768, 5), (32768, 6), (32768, 7), (67108864, 256)] hp hq → 1 ≤ a4 → (-4) ≤ 0 - a4 → 0 ≤ p3 → (-19) ≤ 0 - p3 → 0 - 2 * a4 + 9 < (m : Int) → yG 89 xfts (xcall 89 xfts xpools xms (d + 3)) (xpool xp_RX5) [] xt_X5_readNumbers (yP 4 (bQi G [(32768, 2), (32768, 3), (32768, 5), (32768, 6), (32768, 7), (67108864, 256)] hp 0 1 (fun _ => True))) (27 * m) 7 [(0, yR k0), (1, yR k1), (2, yI (2)), (3, yI (p3)), (4, yI (a4))] [] hq) := by
    intro m
    induction m with
    | zero =>
      intros; exfalso; omega
    | succ m ih =>
      have i_7 := ih
      clear ih
      intro a4 hq A_hq f0 f1 f2 f3 hm
      refine yG.mono (N := 27 * m + 27) ?_ (by omega)
      rcases (show a4 = 1 ∨ a4 = 2 ∨ a4 = 3 ∨ a4 = 4 by omega) with c1 | c1 | c1 | c1
      · subst c1
        refine yG.load xik rfl (fun _ _ => rfl) (v := yI (1)) rfl rfl ?_
        refine yG.getS (c := 9) rfl rfl ?_
        refine yG.load xik rfl (fun _ _ => rfl) (v := yI (2)) rfl rfl ?_
        refine yG.ialdF A_hq.1 (v_S_Net_SETTABLE W (s_S_Net_SETTABLE W)) rfl rfl (by omega) (by omega) (fun z2 e_z2 i_z2 l_z2 u_z2 => ?_)
        obtain rfl : z2 = 4 := by omega
        refine yG.icmp rfl (t := 57) rfl ⟨by omega, by omega⟩ ⟨by omega, by omega⟩ (fun c3 => ?_) (fun c3 => ?_)
        · have c3 : (1 : Int) ≥ 4 := c3
          exfalso; omega
        · have c3 : (1 : Int) < 4 := c3
          refine yG.load xak rfl (fun _ _ => rfl) (v := yR k1) rfl rfl ?_
          refine yG.invV (rest := []) A_hq.1 (bOb (d_Tape W) H_k1) rfl rfl rfl rfl (c_Tape_next W d A_hq.1 H_k1) (fun rv h4 q9 => ?_)
          obtain ⟨⟨z5, rfl, l_z5, u_z5, R_z5⟩, B_h4⟩ := q9
          have A_h4 := A_hq.tr B_h4 (by decide)
          show yG _ _ _ _ _ _ _ _ _ _ (yI z5 :: []) _
          refine yG.step (pc' := 22) (stk' := []) rfl (fun _ _ => rfl) ?_
          refine yG.load xak rfl (fun _ _ => rfl) (v := yR k0) rfl rfl ?_
          refine yG.load xik rfl (fun _ _ => rfl) (v := yI (2)) rfl rfl ?_
          refine yG.load xik rfl (fun _ _ => rfl) (v := yI (p3)) rfl rfl ?_
          refine yG.load xik rfl (fun _ _ => rfl) (v := yI (1)) rfl rfl ?_
          refine yG.load xak rfl (fun _ _ => rfl) (v := yR k1) rfl rfl ?_
          refine yG.getI A_h4.1 (w_Tape_number W H_k1) rfl rfl (fun z6 e_z6 i_z6 l_z6 u_z6 => ?_)
          refine yG.invV (rest := []) A_h4.1 (bOb (d_Net W) H_k0) rfl rfl rfl rfl (c_Net_allows_2_1 W (d + 1) A_h4.1 H_k0 (p3) (z6) (by omega) (by omega) (by omega) (by omega)) (fun rv hp9 q9 => ?_)
          obtain ⟨⟨z7, rfl, l_z7, u_z7, R_z7⟩, e9⟩ := q9
          rw [e9]
          show yG _ _ _ _ _ _ _ _ _ _ (yI z7 :: []) _
          refine yG.ifz rfl (t := 39) rfl ⟨by omega, by omega⟩ (fun c8 => ?_) (fun c8 => ?_)
          · have c8 : (z7 : Int) ≠ 0 := c8
            refine yG.load xak rfl (fun _ _ => rfl) (v := yR k0) rfl rfl ?_
            refine yG.load xik rfl (fun _ _ => rfl) (v := yI (2)) rfl rfl ?_
            refine yG.load xik rfl (fun _ _ => rfl) (v := yI (p3)) rfl rfl ?_
            refine yG.load xik rfl (fun _ _ => rfl) (v := yI (1)) rfl rfl ?_
            refine yG.load xak rfl (fun _ _ => rfl) (v := yR k1) rfl rfl ?_
            refine yG.getI A_h4.1 (w_Tape_number W H_k1) rfl rfl (fun z9 e_z9 i_z9 l_z9 u_z9 => ?_)
            refine yG.invV (rest := []) A_h4.1 (bOb (d_Net W) H_k0) rfl rfl rfl rfl (c_Net_put_2_1 W (d + 2) A_h4.1 H_k0 (p3) (z9) (by omega) (by omega) (by omega) (by omega)) (fun rv h10 q9 => ?_)
            obtain ⟨⟨rfl, R_z11⟩, B_h10⟩ := q9
            have A_h10 := A_h4.tr B_h10 (by decide)
            have : ys h10 k1 7 = ys h4 k1 7 := B_h10.ys H_k1 (by decide)
            show yG _ _ _ _ _ _ _ _ _ _ [] _
            refine yG.iinc rfl (a := 1) rfl (L' := [(4, yI (1 + 1)), (0, yR k0), (1, yR k1), (2, yI (2)), (3, yI (p3))]) rfl ?_
            refine yG.goto rfl (t := 7) rfl ?_
            exact yG.mono (yG.sub (i_7 (1 + 1)  h10 A_h10   (by omega) (by omega) (by omega) (by omega) (by omega)) (ySub.cons rfl (ySub.cons rfl (ySub.cons rfl (ySub.cons rfl (ySub.cons rfl (ySub.nil))))))) (by omega)
          · have c8 : (z7 : Int) = 0 := c8
            refine yG.num (c := 0) rfl (fun _ _ => rfl) (by decide) ?_
            refine yG.ret rfl (fun _ _ => rfl) ?_
            exact (yP.bool (by omega) ⟨⟨0, rfl, by omega, by omega, trivial⟩, A_h4⟩)
      · subst c1
        refine yG.load xik rfl (fun _ _ => rfl) (v := yI (2)) rfl rfl ?_
        refine yG.getS (c := 9) rfl rfl ?_
        refine yG.load xik rfl (fun _ _ => rfl) (v := yI (2)) rfl rfl ?_
        refine yG.ialdF A_hq.1 (v_S_Net_SETTABLE W (s_S_Net_SETTABLE W)) rfl rfl (by omega) (by omega) (fun z12 e_z12 i_z12 l_z12 u_z12 => ?_)
        obtain rfl : z12 = 4 := by omega
        refine yG.icmp rfl (t := 57) rfl ⟨by omega, by omega⟩ ⟨by omega, by omega⟩ (fun c13 => ?_) (fun c13 => ?_)
        · have c13 : (2 : Int) ≥ 4 := c13
          exfalso; omega
        · have c13 : (2 : Int) < 4 := c13
          refine yG.load xak rfl (fun _ _ => rfl) (v := yR k1) rfl rfl ?_
          refine yG.invV (rest := []) A_hq.1 (bOb (d_Tape W) H_k1) rfl rfl rfl rfl (c_Tape_next W d A_hq.1 H_k1) (fun rv h14 q9 => ?_)
          obtain ⟨⟨z15, rfl, l_z15, u_z15, R_z15⟩, B_h14⟩ := q9
          have A_h14 := A_hq.tr B_h14 (by decide)
          show yG _ _ _ _ _ _ _ _ _ _ (yI z15 :: []) _
          refine yG.step (pc' := 22) (stk' := []) rfl (fun _ _ => rfl) ?_
          refine yG.load xak rfl (fun _ _ => rfl) (v := yR k0) rfl rfl ?_
          refine yG.load xik rfl (fun _ _ => rfl) (v := yI (2)) rfl rfl ?_
          refine yG.load xik rfl (fun _ _ => rfl) (v := yI (p3)) rfl rfl ?_
          refine yG.load xik rfl (fun _ _ => rfl) (v := yI (2)) rfl rfl ?_
          refine yG.load xak rfl (fun _ _ => rfl) (v := yR k1) rfl rfl ?_
          refine yG.getI A_h14.1 (w_Tape_number W H_k1) rfl rfl (fun z16 e_z16 i_z16 l_z16 u_z16 => ?_)
          refine yG.invV (rest := []) A_h14.1 (bOb (d_Net W) H_k0) rfl rfl rfl rfl (c_Net_allows_2_2 W (d + 1) A_h14.1 H_k0 (p3) (z16) (by omega) (by omega) (by omega) (by omega)) (fun rv hp9 q9 => ?_)
          obtain ⟨⟨z17, rfl, l_z17, u_z17, R_z17⟩, e9⟩ := q9
          rw [e9]
          show yG _ _ _ _ _ _ _ _ _ _ (yI z17 :: []) _
          refine yG.ifz rfl (t := 39) rfl ⟨by omega, by omega⟩ (fun c18 => ?_) (fun c18 => ?_)
          · have c18 : (z17 : Int) ≠ 0 := c18
            refine yG.load xak rfl (fun _ _ => rfl) (v := yR k0) rfl rfl ?_
            refine yG.load xik rfl (fun _ _ => rfl) (v := yI (2)) rfl rfl ?_
            refine yG.load xik rfl (fun _ _ => rfl) (v := yI (p3)) rfl rfl ?_
            refine yG.load xik rfl (fun _ _ => rfl) (v := yI (2)) rfl rfl ?_
            refine yG.load xak rfl (fun _ _ => rfl) (v := yR k1) rfl rfl ?_
            refine yG.getI A_h14.1 (w_Tape_number W H_k1) rfl rfl (fun z19 e_z19 i_z19 l_z19 u_z19 => ?_)
            refine yG.invV (rest := []) A_h14.1 (bOb (d_Net W) H_k0) rfl rfl rfl rfl (c_Net_put_2_2 W (d + 2) A_h14.1 H_k0 (p3) (z19) (by omega) (by omega) (by omega) (by omega)) (fun rv h20 q9 => ?_)
            obtain ⟨⟨rfl, R_z21⟩, B_h20⟩ := q9
            have A_h20 := A_h14.tr B_h20 (by decide)
            have : ys h20 k1 7 = ys h14 k1 7 := B_h20.ys H_k1 (by decide)
            show yG _ _ _ _ _ _ _ _ _ _ [] _
            refine yG.iinc rfl (a := 2) rfl (L' := [(4, yI (2 + 1)), (0, yR k0), (1, yR k1), (2, yI (2)), (3, yI (p3))]) rfl ?_
            refine yG.goto rfl (t := 7) rfl ?_
            exact yG.mono (yG.sub (i_7 (2 + 1)  h20 A_h20   (by omega) (by omega) (by omega) (by omega) (by omega)) (ySub.cons rfl (ySub.cons rfl (ySub.cons rfl (ySub.cons rfl (ySub.cons rfl (ySub.nil))))))) (by omega)
          · have c18 : (z17 : Int) = 0 := c18
            refine yG.num (c := 0) rfl (fun _ _ => rfl) (by decide) ?_
            refine yG.ret rfl (fun _ _ => rfl) ?_
            exact (yP.bool (by omega) ⟨⟨0, rfl, by omega, by omega, trivial⟩, A_h14⟩)
      · subst c1
        refine yG.load xik rfl (fun _ _ => rfl) (v := yI (3)) rfl rfl ?_
        refine yG.getS (c := 9) rfl rfl ?_
        refine yG.load xik rfl (fun _ _ => rfl) (v := yI (2)) rfl rfl ?_
        refine yG.ialdF A_hq.1 (v_S_Net_SETTABLE W (s_S_Net_SETTABLE W)) rfl rfl (by omega) (by omega) (fun z22 e_z22 i_z22 l_z22 u_z22 => ?_)
        obtain rfl : z22 = 4 := by omega
        refine yG.icmp rfl (t := 57) rfl ⟨by omega, by omega⟩ ⟨by omega, by omega⟩ (fun c23 => ?_) (fun c23 => ?_)
        · have c23 : (3 : Int) ≥ 4 := c23
          exfalso; omega
        · have c23 : (3 : Int) < 4 := c23
          refine yG.load xak rfl (fun _ _ => rfl) (v := yR k1) rfl rfl ?_
          refine yG.invV (rest := []) A_hq.1 (bOb (d_Tape W) H_k1) rfl rfl rfl rfl (c_Tape_next W d A_hq.1 H_k1) (fun rv h24 q9 => ?_)
          obtain ⟨⟨z25, rfl, l_z25, u_z25, R_z25⟩, B_h24⟩ := q9
          have A_h24 := A_hq.tr B_h24 (by decide)
          show yG _ _ _ _ _ _ _ _ _ _ (yI z25 :: []) _
          refine yG.step (pc' := 22) (stk' := []) rfl (fun _ _ => rfl) ?_
          refine yG.load xak rfl (fun _ _ => rfl) (v := yR k0) rfl rfl ?_
          refine yG.load xik rfl (fun _ _ => rfl) (v := yI (2)) rfl rfl ?_
          refine yG.load xik rfl (fun _ _ => rfl) (v := yI (p3)) rfl rfl ?_
          refine yG.load xik rfl (fun _ _ => rfl) (v := yI (3)) rfl rfl ?_
          refine yG.load xak rfl (fun _ _ => rfl) (v := yR k1) rfl rfl ?_
          refine yG.getI A_h24.1 (w_Tape_number W H_k1) rfl rfl (fun z26 e_z26 i_z26 l_z26 u_z26 => ?_)
          refine yG.invV (rest := []) A_h24.1 (bOb (d_Net W) H_k0) rfl rfl rfl rfl (c_Net_allows_2_3 W (d + 1) A_h24.1 H_k0 (p3) (z26) (by omega) (by omega) (by omega) (by omega)) (fun rv hp9 q9 => ?_)
          obtain ⟨⟨z27, rfl, l_z27, u_z27, R_z27⟩, e9⟩ := q9
          rw [e9]
          show yG _ _ _ _ _ _ _ _ _ _ (yI z27 :: []) _
          refine yG.ifz rfl (t := 39) rfl ⟨by omega, by omega⟩ (fun c28 => ?_) (fun c28 => ?_)
          · have c28 : (z27 : Int) ≠ 0 := c28
            refine yG.load xak rfl (fun _ _ => rfl) (v := yR k0) rfl rfl ?_
            refine yG.load xik rfl (fun _ _ => rfl) (v := yI (2)) rfl rfl ?_
            refine yG.load xik rfl (fun _ _ => rfl) (v := yI (p3)) rfl rfl ?_
            refine yG.load xik rfl (fun _ _ => rfl) (v := yI (3)) rfl rfl ?_
            refine yG.load xak rfl (fun _ _ => rfl) (v := yR k1) rfl rfl ?_
            refine yG.getI A_h24.1 (w_Tape_number W H_k1) rfl rfl (fun z29 e_z29 i_z29 l_z29 u_z29 => ?_)
            refine yG.invV (rest := []) A_h24.1 (bOb (d_Net W) H_k0) rfl rfl rfl rfl (c_Net_put_2_3 W (d + 2) A_h24.1 H_k0 (p3) (z29) (by omega) (by omega) (by omega) (by omega)) (fun rv h30 q9 => ?_)
            obtain ⟨⟨rfl, R_z31⟩, B_h30⟩ := q9
            have A_h30 := A_h24.tr B_h30 (by decide)
            have : ys h30 k1 7 = ys h24 k1 7 := B_h30.ys H_k1 (by decide)
            show yG _ _ _ _ _ _ _ _ _ _ [] _
            refine yG.iinc rfl (a := 3) rfl (L' := [(4, yI (3 + 1)), (0, yR k0), (1, yR k1), (2, yI (2)), (3, yI (p3))]) rfl ?_
            refine yG.goto rfl (t := 7) rfl ?_
            exact yG.mono (yG.sub (i_7 (3 + 1)  h30 A_h30   (by omega) (by omega) (by omega) (by omega) (by omega)) (ySub.cons rfl (ySub.cons rfl (ySub.cons rfl (ySub.cons rfl (ySub.cons rfl (ySub.nil))))))) (by omega)
          · have c28 : (z27 : Int) = 0 := c28
            refine yG.num (c := 0) rfl (fun _ _ => rfl) (by decide) ?_
            refine yG.ret rfl (fun _ _ => rfl) ?_
            exact (yP.bool (by omega) ⟨⟨0, rfl, by omega, by omega, trivial⟩, A_h24⟩)
      · subst c1
        refine yG.load xik rfl (fun _ _ => rfl) (v := yI (4)) rfl rfl ?_
        refine yG.getS (c := 9) rfl rfl ?_
        refine yG.load xik rfl (fun _ _ => rfl) (v := yI (2)) rfl rfl ?_
        refine yG.ialdF A_hq.1 (v_S_Net_SETTABLE W (s_S_Net_SETTABLE W)) rfl rfl (by omega) (by omega) (fun z32 e_z32 i_z32 l_z32 u_z32 => ?_)
        obtain rfl : z32 = 4 := by omega
        refine yG.icmp rfl (t := 57) rfl ⟨by omega, by omega⟩ ⟨by omega, by omega⟩ (fun c33 => ?_) (fun c33 => ?_)
        · have c33 : (4 : Int) ≥ 4 := c33
          refine yG.num (c := 1) rfl (fun _ _ => rfl) (by decide) ?_
          refine yG.ret rfl (fun _ _ => rfl) ?_
          exact (yP.bool (by omega) ⟨⟨1, rfl, by omega, by omega, trivial⟩, A_hq⟩)
        · have c33 : (4 : Int) < 4 := c33
          exfalso; omega
  refine yC.of (M := (xt_X5_readNumbers, (5, (4, (6, []))))) rfl rfl (N := 270) (yfuel (by decide)) ?_
  show yG 89 xfts (xcall 89 xfts xpools xms (d + 3)) (xpool xp_RX5) [] xt_X5_readNumbers (yP 4 (bQi G [(32768, 2), (32768, 3), (32768, 5), (32768, 6), (32768, 7), (67108864, 256)] hp 0 1 (fun _ => True))) 270 0 [(0, yR k0), (1, yR k1), (2, yI (2)), (3, yI (p3))] [] hp
  have i_7 := H 9
  refine yG.getS (c := 8) rfl rfl ?_
  refine yG.load xik rfl (fun _ _ => rfl) (v := yI (2)) rfl rfl ?_
  refine yG.ialdF A_hp.1 (v_S_Net_FIRST_NUMBER W (s_S_Net_FIRST_NUMBER W)) rfl rfl (by omega) (by omega) (fun z1 e_z1 i_z1 l_z1 u_z1 => ?_)
  obtain rfl : z1 = 1 := by omega
  refine yG.store1 xik (L' := [(4, yI (1)), (0, yR k0), (1, yR k1), (2, yI (2)), (3, yI (p3))]) rfl (fun _ _ => rfl) rfl rfl ?_
  exact yG.mono (yG.sub (i_7 (1)  hp A_hp   (by omega) (by omega) (by omega) (by omega) (by omega)) (ySub.cons rfl (ySub.cons rfl (ySub.cons rfl (ySub.cons rfl (ySub.cons rfl (ySub.nil))))))) (by omega)
theorem c_Net_blank_3 {hp : xH} (W : bW G) (d : Nat) (hT : zTy G hp) {k0 : Nat} (H_k0 : bRo G 18 k0) (p2 : Int) (h2l : 0 ≤ p2) (h2u : p2 ≤ 5) : yC (xcall 89 xfts xpools xms (d + 2)) 152 [yR k0, yI (3), yI (p2)] hp (fun rv hp' => (rv = none ∧ True) ∧ bAx G [(268435456, 256)] hp hp') := by
  have A_hp : bAx G [(268435456, 256)] hp hp := bAx.rf hT
  have H : ∀ m : Nat, (∀ a3 : Int, ∀ hq, bAx G [(268435456, 256)] hp hq → 0 ≤ a3 → (-11) ≤ 0 - a3 → 0 ≤ p2 → (-5) ≤ 0 - p2 → 0 - 2 * a3 + 23 < (m : Int) → yG 89 xfts (xcall 89 xfts xpools xms (d + 1)) (xpool xp_RX5) [] xt_X5_blank (yP 0 (fun rv hp' => (rv = none ∧ True) ∧ bAx G [(268435456, 256)] hp hp')) (44 * m) 2 [(0, yR k0), (1, yI (3)), (2, yI (p2)), (3, yI (a3))] [] hq) := by
    intro m
    induction m with
    | zero =>
      intros; exfalso; omega
    | succ m ih =>
      have i_2 := ih
      clear ih
      intro a3 hq A_hq f0 f1 f2 f3 hm
      refine yG.mono (N := 44 * m + 44) ?_ (by omega)
      rcases (show a3 = 0 ∨ a3 = 1 ∨ a3 = 2 ∨ a3 = 3 ∨ a3 = 4 ∨ a3 = 5 ∨ a3 = 6 ∨ a3 = 7 ∨ a3 = 8 ∨ a3 = 9 ∨ a3 = 10 ∨ a3 = 11 by omega) with c1 | c1 | c1 | c1 | c1 | c1 | c1 | c1 | c1 | c1 | c1 | c1
      · subst c1
        refine yG.load xik rfl (fun _ _ => rfl) (v := yI (0)) rfl rfl ?_
        refine yG.getS (c := 2) rfl rfl ?_
        refine yG.load xik rfl (fun _ _ => rfl) (v := yI (3)) rfl rfl ?_
        refine yG.ialdF A_hq.1 (v_S_Net_WIDTH W (s_S_Net_WIDTH W)) rfl rfl (by omega) (by omega) (fun z2 e_z2 i_z2 l_z2 u_z2 => ?_)
        obtain rfl : z2 = 11 := by omega
        refine yG.icmp rfl (t := 25) rfl ⟨by omega, by omega⟩ ⟨by omega, by omega⟩ (fun c3 => ?_) (fun c3 => ?_)
        · have c3 : (0 : Int) ≥ 11 := c3
          exfalso; omega
        · have c3 : (0 : Int) < 11 := c3
          refine yG.load xak rfl (fun _ _ => rfl) (v := yR k0) rfl rfl ?_
          refine yG.load xik rfl (fun _ _ => rfl) (v := yI (3)) rfl rfl ?_
          refine yG.load xik rfl (fun _ _ => rfl) (v := yI (p2)) rfl rfl ?_
          refine yG.load xik rfl (fun _ _ => rfl) (v := yI (0)) rfl rfl ?_
          refine yG.num (c := 0) rfl (fun _ _ => rfl) (by decide) ?_
          refine yG.invV (rest := []) A_hq.1 (bOb (d_Net W) H_k0) rfl rfl rfl rfl (c_Net_put_3_0 W d A_hq.1 H_k0 (p2) (0) (by omega) (by omega) (by omega) (by omega)) (fun rv h4 q9 => ?_)
          obtain ⟨⟨rfl, R_z5⟩, B_h4⟩ := q9
          have A_h4 := A_hq.tr B_h4 (by decide)
          show yG _ _ _ _ _ _ _ _ _ _ [] _
          refine yG.iinc rfl (a := 0) rfl (L' := [(3, yI (0 + 1)), (0, yR k0), (1, yI (3)), (2, yI (p2))]) rfl ?_
          refine yG.goto rfl (t := 2) rfl ?_
          exact yG.mono (yG.sub (i_2 (0 + 1)  h4 A_h4   (by omega) (by omega) (by omega) (by omega) (by omega)) (ySub.cons rfl (ySub.cons rfl (ySub.cons rfl (ySub.cons rfl (ySub.nil)))))) (by omega)
      · subst c1
        refine yG.load xik rfl (fun _ _ => rfl) (v := yI (1)) rfl rfl ?_
        refine yG.getS (c := 2) rfl rfl ?_
        refine yG.load xik rfl (fun _ _ => rfl) (v := yI (3)) rfl rfl ?_
        refine yG.ialdF A_hq.1 (v_S_Net_WIDTH W (s_S_Net_WIDTH W)) rfl rfl (by omega) (by omega) (fun z6 e_z6 i_z6 l_z6 u_z6 => ?_)
        obtain rfl : z6 = 11 := by omega
        refine yG.icmp rfl (t := 25) rfl ⟨by omega, by omega⟩ ⟨by omega, by omega⟩ (fun c7 => ?_) (fun c7 => ?_)
        · have c7 : (1 : Int) ≥ 11 := c7
          exfalso; omega
        · have c7 : (1 : Int) < 11 := c7
          refine yG.load xak rfl (fun _ _ => rfl) (v := yR k0) rfl rfl ?_
          refine yG.load xik rfl (fun _ _ => rfl) (v := yI (3)) rfl rfl ?_
          refine yG.load xik rfl (fun _ _ => rfl) (v := yI (p2)) rfl rfl ?_
          refine yG.load xik rfl (fun _ _ => rfl) (v := yI (1)) rfl rfl ?_
          refine yG.num (c := 0) rfl (fun _ _ => rfl) (by decide) ?_
          refine yG.invV (rest := []) A_hq.1 (bOb (d_Net W) H_k0) rfl rfl rfl rfl (c_Net_put_3_1 W d A_hq.1 H_k0 (p2) (0) (by omega) (by omega) (by omega) (by omega)) (fun rv h8 q9 => ?_)
          obtain ⟨⟨rfl, R_z9⟩, B_h8⟩ := q9
          have A_h8 := A_hq.tr B_h8 (by decide)
          show yG _ _ _ _ _ _ _ _ _ _ [] _
          refine yG.iinc rfl (a := 1) rfl (L' := [(3, yI (1 + 1)), (0, yR k0), (1, yI (3)), (2, yI (p2))]) rfl ?_
          refine yG.goto rfl (t := 2) rfl ?_
          exact yG.mono (yG.sub (i_2 (1 + 1)  h8 A_h8   (by omega) (by omega) (by omega) (by omega) (by omega)) (ySub.cons rfl (ySub.cons rfl (ySub.cons rfl (ySub.cons rfl (ySub.nil)))))) (by omega)
      · subst c1
        refine yG.load xik rfl (fun _ _ => rfl) (v := yI (2)) rfl rfl ?_
        refine yG.getS (c := 2) rfl rfl ?_
        refine yG.load xik rfl (fun _ _ => rfl) (v := yI (3)) rfl rfl ?_
        refine yG.ialdF A_hq.1 (v_S_Net_WIDTH W (s_S_Net_WIDTH W)) rfl rfl (by omega) (by omega) (fun z10 e_z10 i_z10 l_z10 u_z10 => ?_)
        obtain rfl : z10 = 11 := by omega
        refine yG.icmp rfl (t := 25) rfl ⟨by omega, by omega⟩ ⟨by omega, by omega⟩ (fun c11 => ?_) (fun c11 => ?_)
        · have c11 : (2 : Int) ≥ 11 := c11
          exfalso; omega
        · have c11 : (2 : Int) < 11 := c11
          refine yG.load xak rfl (fun _ _ => rfl) (v := yR k0) rfl rfl ?_
          refine yG.load xik rfl (fun _ _ => rfl) (v := yI (3)) rfl rfl ?_
          refine yG.load xik rfl (fun _ _ => rfl) (v := yI (p2)) rfl rfl ?_
          refine yG.load xik rfl (fun _ _ => rfl) (v := yI (2)) rfl rfl ?_
          refine yG.num (c := 0) rfl (fun _ _ => rfl) (by decide) ?_
          refine yG.invV (rest := []) A_hq.1 (bOb (d_Net W) H_k0) rfl rfl rfl rfl (c_Net_put_3_2 W d A_hq.1 H_k0 (p2) (0) (by omega) (by omega) (by omega) (by omega)) (fun rv h12 q9 => ?_)
          obtain ⟨⟨rfl, R_z13⟩, B_h12⟩ := q9
          have A_h12 := A_hq.tr B_h12 (by decide)
          show yG _ _ _ _ _ _ _ _ _ _ [] _
          refine yG.iinc rfl (a := 2) rfl (L' := [(3, yI (2 + 1)), (0, yR k0), (1, yI (3)), (2, yI (p2))]) rfl ?_
          refine yG.goto rfl (t := 2) rfl ?_
          exact yG.mono (yG.sub (i_2 (2 + 1)  h12 A_h12   (by omega) (by omega) (by omega) (by omega) (by omega)) (ySub.cons rfl (ySub.cons rfl (ySub.cons rfl (ySub.cons rfl (ySub.nil)))))) (by omega)
      · subst c1
        refine yG.load xik rfl (fun _ _ => rfl) (v := yI (3)) rfl rfl ?_
        refine yG.getS (c := 2) rfl rfl ?_
        refine yG.load xik rfl (fun _ _ => rfl) (v := yI (3)) rfl rfl ?_
        refine yG.ialdF A_hq.1 (v_S_Net_WIDTH W (s_S_Net_WIDTH W)) rfl rfl (by omega) (by omega) (fun z14 e_z14 i_z14 l_z14 u_z14 => ?_)
        obtain rfl : z14 = 11 := by omega
        refine yG.icmp rfl (t := 25) rfl ⟨by omega, by omega⟩ ⟨by omega, by omega⟩ (fun c15 => ?_) (fun c15 => ?_)
        · have c15 : (3 : Int) ≥ 11 := c15
          exfalso; omega
        · have c15 : (3 : Int) < 11 := c15
          refine yG.load xak rfl (fun _ _ => rfl) (v := yR k0) rfl rfl ?_
          refine yG.load xik rfl (fun _ _ => rfl) (v := yI (3)) rfl rfl ?_
          refine yG.load xik rfl (fun _ _ => rfl) (v := yI (p2)) rfl rfl ?_
          refine yG.load xik rfl (fun _ _ => rfl) (v := yI (3)) rfl rfl ?_
          refine yG.num (c := 0) rfl (fun _ _ => rfl) (by decide) ?_
          refine yG.invV (rest := []) A_hq.1 (bOb (d_Net W) H_k0) rfl rfl rfl rfl (c_Net_put_3_3 W d A_hq.1 H_k0 (p2) (0) (by omega) (by omega) (by omega) (by omega)) (fun rv h16 q9 => ?_)
          obtain ⟨⟨rfl, R_z17⟩, B_h16⟩ := q9
          have A_h16 := A_hq.tr B_h16 (by decide)
          show yG _ _ _ _ _ _ _ _ _ _ [] _
          refine yG.iinc rfl (a := 3) rfl (L' := [(3, yI (3 + 1)), (0, yR k0), (1, yI (3)), (2, yI (p2))]) rfl ?_
          refine yG.goto rfl (t := 2) rfl ?_
          exact yG.mono (yG.sub (i_2 (3 + 1)  h16 A_h16   (by omega) (by omega) (by omega) (by omega) (by omega)) (ySub.cons rfl (ySub.cons rfl (ySub.cons rfl (ySub.cons rfl (ySub.nil)))))) (by omega)
      · subst c1
        refine yG.load xik rfl (fun _ _ => rfl) (v := yI (4)) rfl rfl ?_
        refine yG.getS (c := 2) rfl rfl ?_
        refine yG.load xik rfl (fun _ _ => rfl) (v := yI (3)) rfl rfl ?_
        refine yG.ialdF A_hq.1 (v_S_Net_WIDTH W (s_S_Net_WIDTH W)) rfl rfl (by omega) (by omega) (fun z18 e_z18 i_z18 l_z18 u_z18 => ?_)
        obtain rfl : z18 = 11 := by omega
        refine yG.icmp rfl (t := 25) rfl ⟨by omega, by omega⟩ ⟨by omega, by omega⟩ (fun c19 => ?_) (fun c19 => ?_)
        · have c19 : (4 : Int) ≥ 11 := c19
          exfalso; omega
        · have c19 : (4 : Int) < 11 := c19
          refine yG.load xak rfl (fun _ _ => rfl) (v := yR k0) rfl rfl ?_
          refine yG.load xik rfl (fun _ _ => rfl) (v := yI (3)) rfl rfl ?_
          refine yG.load xik rfl (fun _ _ => rfl) (v := yI (p2)) rfl rfl ?_
          refine yG.load xik rfl (fun _ _ => rfl) (v := yI (4)) rfl rfl ?_
          refine yG.num (c := 0) rfl (fun _ _ => rfl) (by decide) ?_
          refine yG.invV (rest := []) A_hq.1 (bOb (d_Net W) H_k0) rfl rfl rfl rfl (c_Net_put_3_4 W d A_hq.1 H_k0 (p2) (0) (by omega) (by omega) (by omega) (by omega)) (fun rv h20 q9 => ?_)
          obtain ⟨⟨rfl, R_z21⟩, B_h20⟩ := q9
          have A_h20 := A_hq.tr B_h20 (by decide)
          show yG _ _ _ _ _ _ _ _ _ _ [] _
          refine yG.iinc rfl (a := 4) rfl (L' := [(3, yI (4 + 1)), (0, yR k0), (1, yI (3)), (2, yI (p2))]) rfl ?_
          refine yG.goto rfl (t := 2) rfl ?_
          exact yG.mono (yG.sub (i_2 (4 + 1)  h20 A_h20   (by omega) (by omega) (by omega) (by omega) (by omega)) (ySub.cons rfl (ySub.cons rfl (ySub.cons rfl (ySub.cons rfl (ySub.nil)))))) (by omega)
      · subst c1
        refine yG.load xik rfl (fun _ _ => rfl) (v := yI (5)) rfl rfl ?_
        refine yG.getS (c := 2) rfl rfl ?_
        refine yG.load xik rfl (fun _ _ => rfl) (v := yI (3)) rfl rfl ?_
        refine yG.ialdF A_hq.1 (v_S_Net_WIDTH W (s_S_Net_WIDTH W)) rfl rfl (by omega) (by omega) (fun z22 e_z22 i_z22 l_z22 u_z22 => ?_)
        obtain rfl : z22 = 11 := by omega
        refine yG.icmp rfl (t := 25) rfl ⟨by omega, by omega⟩ ⟨by omega, by omega⟩ (fun c23 => ?_) (fun c23 => ?_)
        · have c23 : (5 : Int) ≥ 11 := c23
          exfalso; omega
        · have c23 : (5 : Int) < 11 := c23
          refine yG.load xak rfl (fun _ _ => rfl) (v := yR k0) rfl rfl ?_
          refine yG.load xik rfl (fun _ _ => rfl) (v := yI (3)) rfl rfl ?_
          refine yG.load xik rfl (fun _ _ => rfl) (v := yI (p2)) rfl rfl ?_
          refine yG.load xik rfl (fun _ _ => rfl) (v := yI (5)) rfl rfl ?_
          refine yG.num (c := 0) rfl (fun _ _ => rfl) (by decide) ?_
          refine yG.invV (rest := []) A_hq.1 (bOb (d_Net W) H_k0) rfl rfl rfl rfl (c_Net_put_3_5 W d A_hq.1 H_k0 (p2) (0) (by omega) (by omega) (by omega) (by omega)) (fun rv h24 q9 => ?_)
          obtain ⟨⟨rfl, R_z25⟩, B_h24⟩ := q9
          have A_h24 := A_hq.tr B_h24 (by decide)
          show yG _ _ _ _ _ _ _ _ _ _ [] _
          refine yG.iinc rfl (a := 5) rfl (L' := [(3, yI (5 + 1)), (0, yR k0), (1, yI (3)), (2, yI (p2))]) rfl ?_
          refine yG.goto rfl (t := 2) rfl ?_
          exact yG.mono (yG.sub (i_2 (5 + 1)  h24 A_h24   (by omega) (by omega) (by omega) (by omega) (by omega)) (ySub.cons rfl (ySub.cons rfl (ySub.cons rfl (ySub.cons rfl (ySub.nil)))))) (by omega)
      · subst c1
        refine yG.load xik rfl (fun _ _ => rfl) (v := yI (6)) rfl rfl ?_
        refine yG.getS (c := 2) rfl rfl ?_
        refine yG.load xik rfl (fun _ _ => rfl) (v := yI (3)) rfl rfl ?_
        refine yG.ialdF A_hq.1 (v_S_Net_WIDTH W (s_S_Net_WIDTH W)) rfl rfl (by omega) (by omega) (fun z26 e_z26 i_z26 l_z26 u_z26 => ?_)
        obtain rfl : z26 = 11 := by omega
        refine yG.icmp rfl (t := 25) rfl ⟨by omega, by omega⟩ ⟨by omega, by omega⟩ (fun c27 => ?_) (fun c27 => ?_)
        · have c27 : (6 : Int) ≥ 11 := c27
          exfalso; omega
        · have c27 : (6 : Int) < 11 := c27
          refine yG.load xak rfl (fun _ _ => rfl) (v := yR k0) rfl rfl ?_
          refine yG.load xik rfl (fun _ _ => rfl) (v := yI (3)) rfl rfl ?_
          refine yG.load xik rfl (fun _ _ => rfl) (v := yI (p2)) rfl rfl ?_
          refine yG.load xik rfl (fun _ _ => rfl) (v := yI (6)) rfl rfl ?_
          refine yG.num (c := 0) rfl (fun _ _ => rfl) (by decide) ?_
          refine yG.invV (rest := []) A_hq.1 (bOb (d_Net W) H_k0) rfl rfl rfl rfl (c_Net_put_3_6 W d A_hq.1 H_k0 (p2) (0) (by omega) (by omega) (by omega) (by omega)) (fun rv h28 q9 => ?_)
          obtain ⟨⟨rfl, R_z29⟩, B_h28⟩ := q9
          have A_h28 := A_hq.tr B_h28 (by decide)
          show yG _ _ _ _ _ _ _ _ _ _ [] _
          refine yG.iinc rfl (a := 6) rfl (L' := [(3, yI (6 + 1)), (0, yR k0), (1, yI (3)), (2, yI (p2))]) rfl ?_
          refine yG.goto rfl (t := 2) rfl ?_
          exact yG.mono (yG.sub (i_2 (6 + 1)  h28 A_h28   (by omega) (by omega) (by omega) (by omega) (by omega)) (ySub.cons rfl (ySub.cons rfl (ySub.cons rfl (ySub.cons rfl (ySub.nil)))))) (by omega)
      · subst c1
        refine yG.load xik rfl (fun _ _ => rfl) (v := yI (7)) rfl rfl ?_
        refine yG.getS (c := 2) rfl rfl ?_
        refine yG.load xik rfl (fun _ _ => rfl) (v := yI (3)) rfl rfl ?_
        refine yG.ialdF A_hq.1 (v_S_Net_WIDTH W (s_S_Net_WIDTH W)) rfl rfl (by omega) (by omega) (fun z30 e_z30 i_z30 l_z30 u_z30 => ?_)
        obtain rfl : z30 = 11 := by omega
        refine yG.icmp rfl (t := 25) rfl ⟨by omega, by omega⟩ ⟨by omega, by omega⟩ (fun c31 => ?_) (fun c31 => ?_)
        · have c31 : (7 : Int) ≥ 11 := c31
          exfalso; omega
        · have c31 : (7 : Int) < 11 := c31
          refine yG.load xak rfl (fun _ _ => rfl) (v := yR k0) rfl rfl ?_
          refine yG.load xik rfl (fun _ _ => rfl) (v := yI (3)) rfl rfl ?_
          refine yG.load xik rfl (fun _ _ => rfl) (v := yI (p2)) rfl rfl ?_
          refine yG.load xik rfl (fun _ _ => rfl) (v := yI (7)) rfl rfl ?_
          refine yG.num (c := 0) rfl (fun _ _ => rfl) (by decide) ?_
          refine yG.invV (rest := []) A_hq.1 (bOb (d_Net W) H_k0) rfl rfl rfl rfl (c_Net_put_3_7 W d A_hq.1 H_k0 (p2) (0) (by omega) (by omega) (by omega) (by omega)) (fun rv h32 q9 => ?_)
          obtain ⟨⟨rfl, R_z33⟩, B_h32⟩ := q9
          have A_h32 := A_hq.tr B_h32 (by decide)
          show yG _ _ _ _ _ _ _ _ _ _ [] _
          refine yG.iinc rfl (a := 7) rfl (L' := [(3, yI (7 + 1)), (0, yR k0), (1, yI (3)), (2, yI (p2))]) rfl ?_
          refine yG.goto rfl (t := 2) rfl ?_
          exact yG.mono (yG.sub (i_2 (7 + 1)  h32 A_h32   (by omega) (by omega) (by omega) (by omega) (by omega)) (ySub.cons rfl (ySub.cons rfl (ySub.cons rfl (ySub.cons rfl (ySub.nil)))))) (by omega)
      · subst c1
        refine yG.load xik rfl (fun _ _ => rfl) (v := yI (8)) rfl rfl ?_
        refine yG.getS (c := 2) rfl rfl ?_
        refine yG.load xik rfl (fun _ _ => rfl) (v := yI (3)) rfl rfl ?_
        refine yG.ialdF A_hq.1 (v_S_Net_WIDTH W (s_S_Net_WIDTH W)) rfl rfl (by omega) (by omega) (fun z34 e_z34 i_z34 l_z34 u_z34 => ?_)
        obtain rfl : z34 = 11 := by omega
        refine yG.icmp rfl (t := 25) rfl ⟨by omega, by omega⟩ ⟨by omega, by omega⟩ (fun c35 => ?_) (fun c35 => ?_)
        · have c35 : (8 : Int) ≥ 11 := c35
          exfalso; omega
        · have c35 : (8 : Int) < 11 := c35
          refine yG.load xak rfl (fun _ _ => rfl) (v := yR k0) rfl rfl ?_
          refine yG.load xik rfl (fun _ _ => rfl) (v := yI (3)) rfl rfl ?_
          refine yG.load xik rfl (fun _ _ => rfl) (v := yI (p2)) rfl rfl ?_
          refine yG.load xik rfl (fun _ _ => rfl) (v := yI (8)) rfl rfl ?_
          refine yG.num (c := 0) rfl (fun _ _ => rfl) (by decide) ?_
          refine yG.invV (rest := []) A_hq.1 (bOb (d_Net W) H_k0) rfl rfl rfl rfl (c_Net_put_3_8 W d A_hq.1 H_k0 (p2) (0) (by omega) (by omega) (by omega) (by omega)) (fun rv h36 q9 => ?_)
          obtain ⟨⟨rfl, R_z37⟩, B_h36⟩ := q9
          have A_h36 := A_hq.tr B_h36 (by decide)
          show yG _ _ _ _ _ _ _ _ _ _ [] _
          refine yG.iinc rfl (a := 8) rfl (L' := [(3, yI (8 + 1)), (0, yR k0), (1, yI (3)), (2, yI (p2))]) rfl ?_
          refine yG.goto rfl (t := 2) rfl ?_
          exact yG.mono (yG.sub (i_2 (8 + 1)  h36 A_h36   (by omega) (by omega) (by omega) (by omega) (by omega)) (ySub.cons rfl (ySub.cons rfl (ySub.cons rfl (ySub.cons rfl (ySub.nil)))))) (by omega)
      · subst c1
        refine yG.load xik rfl (fun _ _ => rfl) (v := yI (9)) rfl rfl ?_
        refine yG.getS (c := 2) rfl rfl ?_
        refine yG.load xik rfl (fun _ _ => rfl) (v := yI (3)) rfl rfl ?_
        refine yG.ialdF A_hq.1 (v_S_Net_WIDTH W (s_S_Net_WIDTH W)) rfl rfl (by omega) (by omega) (fun z38 e_z38 i_z38 l_z38 u_z38 => ?_)
        obtain rfl : z38 = 11 := by omega
        refine yG.icmp rfl (t := 25) rfl ⟨by omega, by omega⟩ ⟨by omega, by omega⟩ (fun c39 => ?_) (fun c39 => ?_)
        · have c39 : (9 : Int) ≥ 11 := c39
          exfalso; omega
        · have c39 : (9 : Int) < 11 := c39
          refine yG.load xak rfl (fun _ _ => rfl) (v := yR k0) rfl rfl ?_
          refine yG.load xik rfl (fun _ _ => rfl) (v := yI (3)) rfl rfl ?_
          refine yG.load xik rfl (fun _ _ => rfl) (v := yI (p2)) rfl rfl ?_
          refine yG.load xik rfl (fun _ _ => rfl) (v := yI (9)) rfl rfl ?_
          refine yG.num (c := 0) rfl (fun _ _ => rfl) (by decide) ?_
          refine yG.invV (rest := []) A_hq.1 (bOb (d_Net W) H_k0) rfl rfl rfl rfl (c_Net_put_3_9 W d A_hq.1 H_k0 (p2) (0) (by omega) (by omega) (by omega) (by omega)) (fun rv h40 q9 => ?_)
          obtain ⟨⟨rfl, R_z41⟩, B_h40⟩ := q9
          have A_h40 := A_hq.tr B_h40 (by decide)
          show yG _ _ _ _ _ _ _ _ _ _ [] _
          refine yG.iinc rfl (a := 9) rfl (L' := [(3, yI (9 + 1)), (0, yR k0), (1, yI (3)), (2, yI (p2))]) rfl ?_
          refine yG.goto rfl (t := 2) rfl ?_
          exact yG.mono (yG.sub (i_2 (9 + 1)  h40 A_h40   (by omega) (by omega) (by omega) (by omega) (by omega)) (ySub.cons rfl (ySub.cons rfl (ySub.cons rfl (ySub.cons rfl (ySub.nil)))))) (by omega)
      · subst c1
        refine yG.load xik rfl (fun _ _ => rfl) (v := yI (10)) rfl rfl ?_
        refine yG.getS (c := 2) rfl rfl ?_
        refine yG.load xik rfl (fun _ _ => rfl) (v := yI (3)) rfl rfl ?_
        refine yG.ialdF A_hq.1 (v_S_Net_WIDTH W (s_S_Net_WIDTH W)) rfl rfl (by omega) (by omega) (fun z42 e_z42 i_z42 l_z42 u_z42 => ?_)
        obtain rfl : z42 = 11 := by omega
        refine yG.icmp rfl (t := 25) rfl ⟨by omega, by omega⟩ ⟨by omega, by omega⟩ (fun c43 => ?_) (fun c43 => ?_)
        · have c43 : (10 : Int) ≥ 11 := c43
          exfalso; omega
        · have c43 : (10 : Int) < 11 := c43
          refine yG.load xak rfl (fun _ _ => rfl) (v := yR k0) rfl rfl ?_
          refine yG.load xik rfl (fun _ _ => rfl) (v := yI (3)) rfl rfl ?_
          refine yG.load xik rfl (fun _ _ => rfl) (v := yI (p2)) rfl rfl ?_
          refine yG.load xik rfl (fun _ _ => rfl) (v := yI (10)) rfl rfl ?_
          refine yG.num (c := 0) rfl (fun _ _ => rfl) (by decide) ?_
          refine yG.invV (rest := []) A_hq.1 (bOb (d_Net W) H_k0) rfl rfl rfl rfl (c_Net_put_3_10 W d A_hq.1 H_k0 (p2) (0) (by omega) (by omega) (by omega) (by omega)) (fun rv h44 q9 => ?_)
          obtain ⟨⟨rfl, R_z45⟩, B_h44⟩ := q9
          have A_h44 := A_hq.tr B_h44 (by decide)
          show yG _ _ _ _ _ _ _ _ _ _ [] _
          refine yG.iinc rfl (a := 10) rfl (L' := [(3, yI (10 + 1)), (0, yR k0), (1, yI (3)), (2, yI (p2))]) rfl ?_
          refine yG.goto rfl (t := 2) rfl ?_
          exact yG.mono (yG.sub (i_2 (10 + 1)  h44 A_h44   (by omega) (by omega) (by omega) (by omega) (by omega)) (ySub.cons rfl (ySub.cons rfl (ySub.cons rfl (ySub.cons rfl (ySub.nil)))))) (by omega)
      · subst c1
        refine yG.load xik rfl (fun _ _ => rfl) (v := yI (11)) rfl rfl ?_
        refine yG.getS (c := 2) rfl rfl ?_
        refine yG.load xik rfl (fun _ _ => rfl) (v := yI (3)) rfl rfl ?_
        refine yG.ialdF A_hq.1 (v_S_Net_WIDTH W (s_S_Net_WIDTH W)) rfl rfl (by omega) (by omega) (fun z46 e_z46 i_z46 l_z46 u_z46 => ?_)
        obtain rfl : z46 = 11 := by omega
        refine yG.icmp rfl (t := 25) rfl ⟨by omega, by omega⟩ ⟨by omega, by omega⟩ (fun c47 => ?_) (fun c47 => ?_)
        · have c47 : (11 : Int) ≥ 11 := c47
          refine yG.load xik rfl (fun _ _ => rfl) (v := yI (3)) rfl rfl ?_
          refine yG.num (c := 2) rfl (fun _ _ => rfl) (by decide) ?_
          refine yG.icmp rfl (t := 41) rfl ⟨by omega, by omega⟩ ⟨by omega, by omega⟩ (fun c48 => ?_) (fun c48 => ?_)
          · have c48 : (3 : Int) ≠ 2 := c48
            refine yG.load xik rfl (fun _ _ => rfl) (v := yI (3)) rfl rfl ?_
            refine yG.num (c := 3) rfl (fun _ _ => rfl) (by decide) ?_
            refine yG.icmp rfl (t := 92) rfl ⟨by omega, by omega⟩ ⟨by omega, by omega⟩ (fun c49 => ?_) (fun c49 => ?_)
            · have c49 : (3 : Int) ≠ 3 := c49
              exfalso; omega
            · have c49 : (3 : Int) = 3 := c49
              refine yG.load xak rfl (fun _ _ => rfl) (v := yR k0) rfl rfl ?_
              refine yG.num (c := 3) rfl (fun _ _ => rfl) (by decide) ?_
              refine yG.load xik rfl (fun _ _ => rfl) (v := yI (p2)) rfl rfl ?_
              refine yG.num (c := 0) rfl (fun _ _ => rfl) (by decide) ?_
              refine yG.num (c := 1) rfl (fun _ _ => rfl) (by decide) ?_
              refine yG.invV (rest := []) A_hq.1 (bOb (d_Net W) H_k0) rfl rfl rfl rfl (c_Net_put_3_0 W d A_hq.1 H_k0 (p2) (1) (by omega) (by omega) (by omega) (by omega)) (fun rv h50 q9 => ?_)
              obtain ⟨⟨rfl, R_z51⟩, B_h50⟩ := q9
              have A_h50 := A_hq.tr B_h50 (by decide)
              show yG _ _ _ _ _ _ _ _ _ _ [] _
              refine yG.load xak rfl (fun _ _ => rfl) (v := yR k0) rfl rfl ?_
              refine yG.num (c := 3) rfl (fun _ _ => rfl) (by decide) ?_
              refine yG.load xik rfl (fun _ _ => rfl) (v := yI (p2)) rfl rfl ?_
              refine yG.num (c := 5) rfl (fun _ _ => rfl) (by decide) ?_
              refine yG.getS (c := 4) rfl rfl ?_
              refine yG.getS (c := 5) rfl rfl ?_
              refine yG.num (c := 3) rfl (fun _ _ => rfl) (by decide) ?_
              refine yG.ialdF A_h50.1 (v_S_Net_BOUNDS W (s_S_Net_BOUNDS W)) rfl rfl (by omega) (by omega) (fun z52 e_z52 i_z52 l_z52 u_z52 => ?_)
              obtain rfl : z52 = 6 := by omega
              refine yG.num (c := 5) rfl (fun _ _ => rfl) (by decide) ?_
              refine yG.iadd rfl ?_
              refine yG.ialdF A_h50.1 (v_S_Net_GREATEST W (s_S_Net_GREATEST W)) rfl rfl (by omega) (by omega) (fun z53 e_z53 i_z53 l_z53 u_z53 => ?_)
              obtain rfl : z53 = 9999 := by omega
              refine yG.invV (rest := []) A_h50.1 (bOb (d_Net W) H_k0) rfl rfl rfl rfl (c_Net_put_3_5 W d A_h50.1 H_k0 (p2) (9999) (by omega) (by omega) (by omega) (by omega)) (fun rv h54 q9 => ?_)
              obtain ⟨⟨rfl, R_z55⟩, B_h54⟩ := q9
              have A_h54 := A_h50.tr B_h54 (by decide)
              show yG _ _ _ _ _ _ _ _ _ _ [] _
              refine yG.load xak rfl (fun _ _ => rfl) (v := yR k0) rfl rfl ?_
              refine yG.num (c := 3) rfl (fun _ _ => rfl) (by decide) ?_
              refine yG.load xik rfl (fun _ _ => rfl) (v := yI (p2)) rfl rfl ?_
              refine yG.num (c := 8) rfl (fun _ _ => rfl) (by decide) ?_
              refine yG.getS (c := 4) rfl rfl ?_
              refine yG.getS (c := 5) rfl rfl ?_
              refine yG.num (c := 3) rfl (fun _ _ => rfl) (by decide) ?_
              refine yG.ialdF A_h54.1 (v_S_Net_BOUNDS W (s_S_Net_BOUNDS W)) rfl rfl (by omega) (by omega) (fun z56 e_z56 i_z56 l_z56 u_z56 => ?_)
              obtain rfl : z56 = 6 := by omega
              refine yG.num (c := 8) rfl (fun _ _ => rfl) (by decide) ?_
              refine yG.iadd rfl ?_
              refine yG.ialdF A_h54.1 (v_S_Net_GREATEST W (s_S_Net_GREATEST W)) rfl rfl (by omega) (by omega) (fun z57 e_z57 i_z57 l_z57 u_z57 => ?_)
              obtain rfl : z57 = 999 := by omega
              refine yG.invV (rest := []) A_h54.1 (bOb (d_Net W) H_k0) rfl rfl rfl rfl (c_Net_put_3_8 W d A_h54.1 H_k0 (p2) (999) (by omega) (by omega) (by omega) (by omega)) (fun rv h58 q9 => ?_)
              obtain ⟨⟨rfl, R_z59⟩, B_h58⟩ := q9
              have A_h58 := A_h54.tr B_h58 (by decide)
              show yG _ _ _ _ _ _ _ _ _ _ [] _
              refine yG.ret rfl (fun _ _ => rfl) ?_
              exact (yP.void ⟨⟨rfl, trivial⟩, A_h58⟩)
          · have c48 : (3 : Int) = 2 := c48
            exfalso; omega
        · have c47 : (11 : Int) < 11 := c47
          exfalso; omega
  refine yC.of (M := (xt_X5_blank, (4, (0, (6, []))))) rfl rfl (N := 1144) (yfuel (by decide)) ?_
  show yG 89 xfts (xcall 89 xfts xpools xms (d + 1)) (xpool xp_RX5) [] xt_X5_blank (yP 0 (fun rv hp' => (rv = none ∧ True) ∧ bAx G [(268435456, 256)] hp hp')) 1144 0 [(0, yR k0), (1, yI (3)), (2, yI (p2))] [] hp
  have i_2 := H 25
  refine yG.num (c := 0) rfl (fun _ _ => rfl) (by decide) ?_
  refine yG.store1 xik (L' := [(3, yI (0)), (0, yR k0), (1, yI (3)), (2, yI (p2))]) rfl (fun _ _ => rfl) rfl rfl ?_
  exact yG.mono (yG.sub (i_2 (0)  hp A_hp   (by omega) (by omega) (by omega) (by omega) (by omega)) (ySub.cons rfl (ySub.cons rfl (ySub.cons rfl (ySub.cons rfl (ySub.nil)))))) (by omega)
theorem c_Net_readEnds_3 {hp : xH} (W : bW G) (d : Nat) (hT : zTy G hp) {k0 : Nat} (H_k0 : bRo G 18 k0) {k1 : Nat} (H_k1 : bRo G 15 k1) (p3 : Int) (h3l : 0 ≤ p3) (h3u : p3 ≤ 5) : yC (xcall 89 xfts xpools xms (d + 4)) 165 [yR k0, yR k1, yI (3), yI (p3)] hp (bQi G [(32768, 2), (32768, 3), (32768, 5), (32768, 6), (32768, 7), (268435456, 256)] hp 0 1 (fun _ => True)) := by
  have A_hp : bAx G [(32768, 2), (32768, 3), (32768, 5), (32768, 6), (32768, 7), (268435456, 256)] hp hp := bAx.rf hT
  have H : ∀ m : Nat, (∀ a4 : Int, ∀ a5 : Int, ∀ hq, bAx G [(32768, 2), (32768, 3), (32768, 5), (32768, 6), (32768, 7), (268435456, 256)] hp hq → (-1) ≤ a4 → (-15) ≤ 0 - a4 → 0 ≤ a5 → (-1) ≤ 0 - a5 → 0 ≤ p3 → (-5) ≤ 0 - p3 → (-1) ≤ a4 - a5 → (-14) ≤ 0 - a4 + a5 → 0 - 2 * a5 + 3 < (m : Int) → yG 89 xfts (xcall 89 xfts xpools xms (d + 3)) (xpool xp_RX5) [] xt_X5_readEnds (yP 4 (bQi G [(32768, 2), (32768, 3), (32768, 5), (32768, 6), (32768, 7), (268435456, 256)] hp 0 1 (fun _ => True))) (35 * m) 6 [(0, yR k0), (1, yR k1), (2, yI (3)), (3, yI (p3)), (4, yI (a4)), (5, yI (a5))] [] hq) := by
    intro m
    induction m with
    | zero =>
      intros; exfalso; omega
    | succ m ih =>
      have i_6 := ih
      clear ih
      intro a4 a5 hq A_hq f0 f1 f2 f3 f4 f5 f6 f7 hm
      refine yG.mono (N := 35 * m + 35) ?_ (by omega)
      rcases (show a5 = 0 ∨ a5 = 1 by omega) with c1 | c1
      · subst c1
        refine yG.load xik rfl (fun _ _ => rfl) (v := yI (0)) rfl rfl ?_
        refine yG.getS (c := 6) rfl rfl ?_
        refine yG.load xik rfl (fun _ _ => rfl) (v := yI (3)) rfl rfl ?_
        refine yG.ialdF A_hq.1 (v_S_Net_ENDS W (s_S_Net_ENDS W)) rfl rfl (by omega) (by omega) (fun z2 e_z2 i_z2 l_z2 u_z2 => ?_)
        obtain rfl : z2 = 1 := by omega
        refine yG.icmp rfl (t := 70) rfl ⟨by omega, by omega⟩ ⟨by omega, by omega⟩ (fun c3 => ?_) (fun c3 => ?_)
        · have c3 : (0 : Int) ≥ 1 := c3
          exfalso; omega
        · have c3 : (0 : Int) < 1 := c3
          refine yG.load xak rfl (fun _ _ => rfl) (v := yR k1) rfl rfl ?_
          refine yG.invV (rest := []) A_hq.1 (bOb (d_Tape W) H_k1) rfl rfl rfl rfl (c_Tape_next W d A_hq.1 H_k1) (fun rv h4 q9 => ?_)
          obtain ⟨⟨z5, rfl, l_z5, u_z5, R_z5⟩, B_h4⟩ := q9
          have A_h4 := A_hq.tr B_h4 (by decide)
          show yG _ _ _ _ _ _ _ _ _ _ (yI z5 :: []) _
          refine yG.step (pc' := 21) (stk' := []) rfl (fun _ _ => rfl) ?_
          refine yG.load xak rfl (fun _ _ => rfl) (v := yR k0) rfl rfl ?_
          refine yG.load xak rfl (fun _ _ => rfl) (v := yR k1) rfl rfl ?_
          refine yG.num (c := 0) rfl (fun _ _ => rfl) (by decide) ?_
          refine yG.invV (rest := []) A_h4.1 (bOb (d_Net W) H_k0) rfl rfl rfl rfl (c_Net_named__0 W (d + 2) A_h4.1 H_k0 H_k1) (fun rv hp9 q9 => ?_)
          obtain ⟨⟨z6, rfl, l_z6, u_z6, R_z6⟩, e9⟩ := q9
          rw [e9]
          show yG _ _ _ _ _ _ _ _ _ _ (yI z6 :: []) _
          refine yG.store1 xik (L' := [(6, yI (z6)), (0, yR k0), (1, yR k1), (2, yI (3)), (3, yI (p3)), (4, yI (a4)), (5, yI (0))]) rfl (fun _ _ => rfl) rfl rfl ?_
          refine yG.load xik rfl (fun _ _ => rfl) (v := yI (z6)) rfl rfl ?_
          refine yG.num (c := -1) rfl (fun _ _ => rfl) (by decide) ?_
          refine yG.icmp rfl (t := 42) rfl ⟨by omega, by omega⟩ ⟨by omega, by omega⟩ (fun c7 => ?_) (fun c7 => ?_)
          · have c7 : (z6 : Int) = (-1) := c7
            refine yG.num (c := 0) rfl (fun _ _ => rfl) (by decide) ?_
            refine yG.ret rfl (fun _ _ => rfl) ?_
            exact (yP.bool (by omega) ⟨⟨0, rfl, by omega, by omega, trivial⟩, A_h4⟩)
          · have c7 : (z6 : Int) ≠ (-1) := c7
            refine yG.load xik rfl (fun _ _ => rfl) (v := yI (z6)) rfl rfl ?_
            refine yG.load xik rfl (fun _ _ => rfl) (v := yI (a4)) rfl rfl ?_
            refine yG.icmp rfl (t := 44) rfl ⟨by omega, by omega⟩ ⟨by omega, by omega⟩ (fun c8 => ?_) (fun c8 => ?_)
            · have c8 : (z6 : Int) ≠ a4 := c8
              refine yG.load xak rfl (fun _ _ => rfl) (v := yR k0) rfl rfl ?_
              refine yG.load xik rfl (fun _ _ => rfl) (v := yI (3)) rfl rfl ?_
              refine yG.load xik rfl (fun _ _ => rfl) (v := yI (p3)) rfl rfl ?_
              refine yG.getS (c := 7) rfl rfl ?_
              refine yG.load xik rfl (fun _ _ => rfl) (v := yI (3)) rfl rfl ?_
              refine yG.ialdF A_h4.1 (v_S_Net_FIRST_END W (s_S_Net_FIRST_END W)) rfl rfl (by omega) (by omega) (fun z9 e_z9 i_z9 l_z9 u_z9 => ?_)
              obtain rfl : z9 = 10 := by omega
              refine yG.load xik rfl (fun _ _ => rfl) (v := yI (0)) rfl rfl ?_
              refine yG.iadd rfl ?_
              refine yG.load xik rfl (fun _ _ => rfl) (v := yI (z6)) rfl rfl ?_
              rw [show (10 + 0 : Int) = 10 by omega]
              refine yG.invV (rest := []) A_h4.1 (bOb (d_Net W) H_k0) rfl rfl rfl rfl (c_Net_put_3_10 W (d + 2) A_h4.1 H_k0 (p3) (z6) (by omega) (by omega) (by omega) (by omega)) (fun rv h10 q9 => ?_)
              obtain ⟨⟨rfl, R_z11⟩, B_h10⟩ := q9
              have A_h10 := A_h4.tr B_h10 (by decide)
              show yG _ _ _ _ _ _ _ _ _ _ [] _
              refine yG.load xik rfl (fun _ _ => rfl) (v := yI (z6)) rfl rfl ?_
              refine yG.store1 xik (L' := [(4, yI (z6)), (6, yI (z6)), (0, yR k0), (1, yR k1), (2, yI (3)), (3, yI (p3)), (5, yI (0))]) rfl (fun _ _ => rfl) rfl rfl ?_
              refine yG.iinc rfl (a := 0) rfl (L' := [(5, yI (0 + 1)), (4, yI (z6)), (6, yI (z6)), (0, yR k0), (1, yR k1), (2, yI (3)), (3, yI (p3))]) rfl ?_
              refine yG.goto rfl (t := 6) rfl ?_
              exact yG.mono (yG.sub (i_6 (z6) (0 + 1)  h10 A_h10   (by omega) (by omega) (by omega) (by omega) (by omega) (by omega) (by omega) (by omega) (by omega)) (ySub.cons rfl (ySub.cons rfl (ySub.cons rfl (ySub.cons rfl (ySub.cons rfl (ySub.cons rfl (ySub.nil)))))))) (by omega)
            · have c8 : (z6 : Int) = a4 := c8
              refine yG.num (c := 0) rfl (fun _ _ => rfl) (by decide) ?_
              refine yG.ret rfl (fun _ _ => rfl) ?_
              exact (yP.bool (by omega) ⟨⟨0, rfl, by omega, by omega, trivial⟩, A_h4⟩)
      · subst c1
        refine yG.load xik rfl (fun _ _ => rfl) (v := yI (1)) rfl rfl ?_
        refine yG.getS (c := 6) rfl rfl ?_
        refine yG.load xik rfl (fun _ _ => rfl) (v := yI (3)) rfl rfl ?_
        refine yG.ialdF A_hq.1 (v_S_Net_ENDS W (s_S_Net_ENDS W)) rfl rfl (by omega) (by omega) (fun z12 e_z12 i_z12 l_z12 u_z12 => ?_)
        obtain rfl : z12 = 1 := by omega
        refine yG.icmp rfl (t := 70) rfl ⟨by omega, by omega⟩ ⟨by omega, by omega⟩ (fun c13 => ?_) (fun c13 => ?_)
        · have c13 : (1 : Int) ≥ 1 := c13
          refine yG.num (c := 1) rfl (fun _ _ => rfl) (by decide) ?_
          refine yG.ret rfl (fun _ _ => rfl) ?_
          exact (yP.bool (by omega) ⟨⟨1, rfl, by omega, by omega, trivial⟩, A_hq⟩)
        · have c13 : (1 : Int) < 1 := c13
          exfalso; omega
  refine yC.of (M := (xt_X5_readEnds, (7, (4, (6, []))))) rfl rfl (N := 210) (yfuel (by decide)) ?_
  show yG 89 xfts (xcall 89 xfts xpools xms (d + 3)) (xpool xp_RX5) [] xt_X5_readEnds (yP 4 (bQi G [(32768, 2), (32768, 3), (32768, 5), (32768, 6), (32768, 7), (268435456, 256)] hp 0 1 (fun _ => True))) 210 0 [(0, yR k0), (1, yR k1), (2, yI (3)), (3, yI (p3))] [] hp
  have i_6 := H 5
  refine yG.num (c := -1) rfl (fun _ _ => rfl) (by decide) ?_
  refine yG.store1 xik (L' := [(4, yI ((-1))), (0, yR k0), (1, yR k1), (2, yI (3)), (3, yI (p3))]) rfl (fun _ _ => rfl) rfl rfl ?_
  refine yG.num (c := 0) rfl (fun _ _ => rfl) (by decide) ?_
  refine yG.store1 xik (L' := [(5, yI (0)), (4, yI ((-1))), (0, yR k0), (1, yR k1), (2, yI (3)), (3, yI (p3))]) rfl (fun _ _ => rfl) rfl rfl ?_
  exact yG.mono (yG.sub (i_6 ((-1)) (0)  hp A_hp   (by omega) (by omega) (by omega) (by omega) (by omega) (by omega) (by omega) (by omega) (by omega)) (ySub.cons rfl (ySub.cons rfl (ySub.cons rfl (ySub.cons rfl (ySub.cons rfl (ySub.cons rfl (ySub.nil)))))))) (by omega)
theorem c_Net_readNumbers_3 {hp : xH} (W : bW G) (d : Nat) (hT : zTy G hp) {k0 : Nat} (H_k0 : bRo G 18 k0) {k1 : Nat} (H_k1 : bRo G 15 k1) (p3 : Int) (h3l : 0 ≤ p3) (h3u : p3 ≤ 5) : yC (xcall 89 xfts xpools xms (d + 4)) 166 [yR k0, yR k1, yI (3), yI (p3)] hp (bQi G [(32768, 2), (32768, 3), (32768, 5), (32768, 6), (32768, 7), (268435456, 256)] hp 0 1 (fun _ => True)) := by
  have A_hp : bAx G [(32768, 2), (32768, 3), (32768, 5), (32768, 6), (32768, 7), (268435456, 256)] hp hp := bAx.rf hT
  have H : ∀ m : Nat, (∀ a4 : Int, ∀ hq, bAx G [(32768, 2), (32768, 3), (32768, 5), (32768, 6), (32768, 7), (268435456, 256)] hp hq → 2 ≤ a4 → (-10) ≤ 0 - a4 → 0 ≤ p3 → (-5) ≤ 0 - p3 → 0 - 2 * a4 + 21 < (m : Int) → yG 89 xfts (xcall 89 xfts xpools xms (d + 3)) (xpool xp_RX5) [] xt_X5_readNumbers (yP 4 (bQi G [(32768, 2), (32768, 3), (32768, 5), (32768, 6), (32768, 7), (268435456, 256)] hp 0 1 (fun _ => True))) (27 * m) 7 [(0, yR k0), (1, yR k1), (2, yI (3)), (3, yI (p3)), (4, yI (a4))] [] hq) := by
    intro m
    induction m with
    | zero =>
      intros; exfalso; omega
    | succ m ih =>
      have i_7 := ih
      clear ih
      intro a4 hq A_hq f0 f1 f2 f3 hm
      refine yG.mono (N := 27 * m + 27) ?_ (by omega)
      rcases (show a4 = 2 ∨ a4 = 3 ∨ a4 = 4 ∨ a4 = 5 ∨ a4 = 6 ∨ a4 = 7 ∨ a4 = 8 ∨ a4 = 9 ∨ a4 = 10 by omega) with c1 | c1 | c1 | c1 | c1 | c1 | c1 | c1 | c1
      · subst c1
        refine yG.load xik rfl (fun _ _ => rfl) (v := yI (2)) rfl rfl ?_
        refine yG.getS (c := 9) rfl rfl ?_
        refine yG.load xik rfl (fun _ _ => rfl) (v := yI (3)) rfl rfl ?_
        refine yG.ialdF A_hq.1 (v_S_Net_SETTABLE W (s_S_Net_SETTABLE W)) rfl rfl (by omega) (by omega) (fun z2 e_z2 i_z2 l_z2 u_z2 => ?_)
        obtain rfl : z2 = 10 := by omega
        refine yG.icmp rfl (t := 57) rfl ⟨by omega, by omega⟩ ⟨by omega, by omega⟩ (fun c3 => ?_) (fun c3 => ?_)
        · have c3 : (2 : Int) ≥ 10 := c3
          exfalso; omega
        · have c3 : (2 : Int) < 10 := c3
          refine yG.load xak rfl (fun _ _ => rfl) (v := yR k1) rfl rfl ?_
          refine yG.invV (rest := []) A_hq.1 (bOb (d_Tape W) H_k1) rfl rfl rfl rfl (c_Tape_next W d A_hq.1 H_k1) (fun rv h4 q9 => ?_)
          obtain ⟨⟨z5, rfl, l_z5, u_z5, R_z5⟩, B_h4⟩ := q9
          have A_h4 := A_hq.tr B_h4 (by decide)
          show yG _ _ _ _ _ _ _ _ _ _ (yI z5 :: []) _
          refine yG.step (pc' := 22) (stk' := []) rfl (fun _ _ => rfl) ?_
          refine yG.load xak rfl (fun _ _ => rfl) (v := yR k0) rfl rfl ?_
          refine yG.load xik rfl (fun _ _ => rfl) (v := yI (3)) rfl rfl ?_
          refine yG.load xik rfl (fun _ _ => rfl) (v := yI (p3)) rfl rfl ?_
          refine yG.load xik rfl (fun _ _ => rfl) (v := yI (2)) rfl rfl ?_
          refine yG.load xak rfl (fun _ _ => rfl) (v := yR k1) rfl rfl ?_
          refine yG.getI A_h4.1 (w_Tape_number W H_k1) rfl rfl (fun z6 e_z6 i_z6 l_z6 u_z6 => ?_)
          refine yG.invV (rest := []) A_h4.1 (bOb (d_Net W) H_k0) rfl rfl rfl rfl (c_Net_allows_3_2 W d A_h4.1 H_k0 (p3) (z6) (by omega) (by omega) (by omega) (by omega)) (fun rv hp9 q9 => ?_)
          obtain ⟨⟨z7, rfl, l_z7, u_z7, R_z7⟩, e9⟩ := q9
          rw [e9]
          show yG _ _ _ _ _ _ _ _ _ _ (yI z7 :: []) _
          refine yG.ifz rfl (t := 39) rfl ⟨by omega, by omega⟩ (fun c8 => ?_) (fun c8 => ?_)
          · have c8 : (z7 : Int) ≠ 0 := c8
            refine yG.load xak rfl (fun _ _ => rfl) (v := yR k0) rfl rfl ?_
            refine yG.load xik rfl (fun _ _ => rfl) (v := yI (3)) rfl rfl ?_
            refine yG.load xik rfl (fun _ _ => rfl) (v := yI (p3)) rfl rfl ?_
            refine yG.load xik rfl (fun _ _ => rfl) (v := yI (2)) rfl rfl ?_
            refine yG.load xak rfl (fun _ _ => rfl) (v := yR k1) rfl rfl ?_
            refine yG.getI A_h4.1 (w_Tape_number W H_k1) rfl rfl (fun z9 e_z9 i_z9 l_z9 u_z9 => ?_)
            refine yG.invV (rest := []) A_h4.1 (bOb (d_Net W) H_k0) rfl rfl rfl rfl (c_Net_put_3_2 W (d + 2) A_h4.1 H_k0 (p3) (z9) (by omega) (by omega) (by omega) (by omega)) (fun rv h10 q9 => ?_)
            obtain ⟨⟨rfl, R_z11⟩, B_h10⟩ := q9
            have A_h10 := A_h4.tr B_h10 (by decide)
            have : ys h10 k1 7 = ys h4 k1 7 := B_h10.ys H_k1 (by decide)
            show yG _ _ _ _ _ _ _ _ _ _ [] _
            refine yG.iinc rfl (a := 2) rfl (L' := [(4, yI (2 + 1)), (0, yR k0), (1, yR k1), (2, yI (3)), (3, yI (p3))]) rfl ?_
            refine yG.goto rfl (t := 7) rfl ?_
            exact yG.mono (yG.sub (i_7 (2 + 1)  h10 A_h10   (by omega) (by omega) (by omega) (by omega) (by omega)) (ySub.cons rfl (ySub.cons rfl (ySub.cons rfl (ySub.cons rfl (ySub.cons rfl (ySub.nil))))))) (by omega)
          · have c8 : (z7 : Int) = 0 := c8
            refine yG.num (c := 0) rfl (fun _ _ => rfl) (by decide) ?_
            refine yG.ret rfl (fun _ _ => rfl) ?_
            exact (yP.bool (by omega) ⟨⟨0, rfl, by omega, by omega, trivial⟩, A_h4⟩)
      · subst c1
        refine yG.load xik rfl (fun _ _ => rfl) (v := yI (3)) rfl rfl ?_
        refine yG.getS (c := 9) rfl rfl ?_
        refine yG.load xik rfl (fun _ _ => rfl) (v := yI (3)) rfl rfl ?_
        refine yG.ialdF A_hq.1 (v_S_Net_SETTABLE W (s_S_Net_SETTABLE W)) rfl rfl (by omega) (by omega) (fun z12 e_z12 i_z12 l_z12 u_z12 => ?_)
        obtain rfl : z12 = 10 := by omega
        refine yG.icmp rfl (t := 57) rfl ⟨by omega, by omega⟩ ⟨by omega, by omega⟩ (fun c13 => ?_) (fun c13 => ?_)
        · have c13 : (3 : Int) ≥ 10 := c13
          exfalso; omega
        · have c13 : (3 : Int) < 10 := c13
          refine yG.load xak rfl (fun _ _ => rfl) (v := yR k1) rfl rfl ?_
          refine yG.invV (rest := []) A_hq.1 (bOb (d_Tape W) H_k1) rfl rfl rfl rfl (c_Tape_next W d A_hq.1 H_k1) (fun rv h14 q9 => ?_)
          obtain ⟨⟨z15, rfl, l_z15, u_z15, R_z15⟩, B_h14⟩ := q9
          have A_h14 := A_hq.tr B_h14 (by decide)
          show yG _ _ _ _ _ _ _ _ _ _ (yI z15 :: []) _
          refine yG.step (pc' := 22) (stk' := []) rfl (fun _ _ => rfl) ?_
          refine yG.load xak rfl (fun _ _ => rfl) (v := yR k0) rfl rfl ?_
          refine yG.load xik rfl (fun _ _ => rfl) (v := yI (3)) rfl rfl ?_
          refine yG.load xik rfl (fun _ _ => rfl) (v := yI (p3)) rfl rfl ?_
          refine yG.load xik rfl (fun _ _ => rfl) (v := yI (3)) rfl rfl ?_
          refine yG.load xak rfl (fun _ _ => rfl) (v := yR k1) rfl rfl ?_
          refine yG.getI A_h14.1 (w_Tape_number W H_k1) rfl rfl (fun z16 e_z16 i_z16 l_z16 u_z16 => ?_)
          refine yG.invV (rest := []) A_h14.1 (bOb (d_Net W) H_k0) rfl rfl rfl rfl (c_Net_allows_3_3 W d A_h14.1 H_k0 (p3) (z16) (by omega) (by omega) (by omega) (by omega)) (fun rv hp9 q9 => ?_)
          obtain ⟨⟨z17, rfl, l_z17, u_z17, R_z17⟩, e9⟩ := q9
          rw [e9]
          show yG _ _ _ _ _ _ _ _ _ _ (yI z17 :: []) _
          refine yG.ifz rfl (t := 39) rfl ⟨by omega, by omega⟩ (fun c18 => ?_) (fun c18 => ?_)
          · have c18 : (z17 : Int) ≠ 0 := c18
            refine yG.load xak rfl (fun _ _ => rfl) (v := yR k0) rfl rfl ?_
            refine yG.load xik rfl (fun _ _ => rfl) (v := yI (3)) rfl rfl ?_
            refine yG.load xik rfl (fun _ _ => rfl) (v := yI (p3)) rfl rfl ?_
            refine yG.load xik rfl (fun _ _ => rfl) (v := yI (3)) rfl rfl ?_
            refine yG.load xak rfl (fun _ _ => rfl) (v := yR k1) rfl rfl ?_
            refine yG.getI A_h14.1 (w_Tape_number W H_k1) rfl rfl (fun z19 e_z19 i_z19 l_z19 u_z19 => ?_)
            refine yG.invV (rest := []) A_h14.1 (bOb (d_Net W) H_k0) rfl rfl rfl rfl (c_Net_put_3_3 W (d + 2) A_h14.1 H_k0 (p3) (z19) (by omega) (by omega) (by omega) (by omega)) (fun rv h20 q9 => ?_)
            obtain ⟨⟨rfl, R_z21⟩, B_h20⟩ := q9
            have A_h20 := A_h14.tr B_h20 (by decide)
            have : ys h20 k1 7 = ys h14 k1 7 := B_h20.ys H_k1 (by decide)
            show yG _ _ _ _ _ _ _ _ _ _ [] _
            refine yG.iinc rfl (a := 3) rfl (L' := [(4, yI (3 + 1)), (0, yR k0), (1, yR k1), (2, yI (3)), (3, yI (p3))]) rfl ?_
            refine yG.goto rfl (t := 7) rfl ?_
            exact yG.mono (yG.sub (i_7 (3 + 1)  h20 A_h20   (by omega) (by omega) (by omega) (by omega) (by omega)) (ySub.cons rfl (ySub.cons rfl (ySub.cons rfl (ySub.cons rfl (ySub.cons rfl (ySub.nil))))))) (by omega)
          · have c18 : (z17 : Int) = 0 := c18
            refine yG.num (c := 0) rfl (fun _ _ => rfl) (by decide) ?_
            refine yG.ret rfl (fun _ _ => rfl) ?_
            exact (yP.bool (by omega) ⟨⟨0, rfl, by omega, by omega, trivial⟩, A_h14⟩)
      · subst c1
        refine yG.load xik rfl (fun _ _ => rfl) (v := yI (4)) rfl rfl ?_
        refine yG.getS (c := 9) rfl rfl ?_
        refine yG.load xik rfl (fun _ _ => rfl) (v := yI (3)) rfl rfl ?_
        refine yG.ialdF A_hq.1 (v_S_Net_SETTABLE W (s_S_Net_SETTABLE W)) rfl rfl (by omega) (by omega) (fun z22 e_z22 i_z22 l_z22 u_z22 => ?_)
        obtain rfl : z22 = 10 := by omega
        refine yG.icmp rfl (t := 57) rfl ⟨by omega, by omega⟩ ⟨by omega, by omega⟩ (fun c23 => ?_) (fun c23 => ?_)
        · have c23 : (4 : Int) ≥ 10 := c23
          exfalso; omega
        · have c23 : (4 : Int) < 10 := c23
          refine yG.load xak rfl (fun _ _ => rfl) (v := yR k1) rfl rfl ?_
          refine yG.invV (rest := []) A_hq.1 (bOb (d_Tape W) H_k1) rfl rfl rfl rfl (c_Tape_next W d A_hq.1 H_k1) (fun rv h24 q9 => ?_)
          obtain ⟨⟨z25, rfl, l_z25, u_z25, R_z25⟩, B_h24⟩ := q9
          have A_h24 := A_hq.tr B_h24 (by decide)
          show yG _ _ _ _ _ _ _ _ _ _ (yI z25 :: []) _
          refine yG.step (pc' := 22) (stk' := []) rfl (fun _ _ => rfl) ?_
          refine yG.load xak rfl (fun _ _ => rfl) (v := yR k0) rfl rfl ?_
          refine yG.load xik rfl (fun _ _ => rfl) (v := yI (3)) rfl rfl ?_
          refine yG.load xik rfl (fun _ _ => rfl) (v := yI (p3)) rfl rfl ?_
          refine yG.load xik rfl (fun _ _ => rfl) (v := yI (4)) rfl rfl ?_
          refine yG.load xak rfl (fun _ _ => rfl) (v := yR k1) rfl rfl ?_
          refine yG.getI A_h24.1 (w_Tape_number W H_k1) rfl rfl (fun z26 e_z26 i_z26 l_z26 u_z26 => ?_)
          refine yG.invV (rest := []) A_h24.1 (bOb (d_Net W) H_k0) rfl rfl rfl rfl (c_Net_allows_3_4 W d A_h24.1 H_k0 (p3) (z26) (by omega) (by omega) (by omega) (by omega)) (fun rv hp9 q9 => ?_)
          obtain ⟨⟨z27, rfl, l_z27, u_z27, R_z27⟩, e9⟩ := q9
          rw [e9]
          show yG _ _ _ _ _ _ _ _ _ _ (yI z27 :: []) _
          refine yG.ifz rfl (t := 39) rfl ⟨by omega, by omega⟩ (fun c28 => ?_) (fun c28 => ?_)
          · have c28 : (z27 : Int) ≠ 0 := c28
            refine yG.load xak rfl (fun _ _ => rfl) (v := yR k0) rfl rfl ?_
            refine yG.load xik rfl (fun _ _ => rfl) (v := yI (3)) rfl rfl ?_
            refine yG.load xik rfl (fun _ _ => rfl) (v := yI (p3)) rfl rfl ?_
            refine yG.load xik rfl (fun _ _ => rfl) (v := yI (4)) rfl rfl ?_
            refine yG.load xak rfl (fun _ _ => rfl) (v := yR k1) rfl rfl ?_
            refine yG.getI A_h24.1 (w_Tape_number W H_k1) rfl rfl (fun z29 e_z29 i_z29 l_z29 u_z29 => ?_)
            refine yG.invV (rest := []) A_h24.1 (bOb (d_Net W) H_k0) rfl rfl rfl rfl (c_Net_put_3_4 W (d + 2) A_h24.1 H_k0 (p3) (z29) (by omega) (by omega) (by omega) (by omega)) (fun rv h30 q9 => ?_)
            obtain ⟨⟨rfl, R_z31⟩, B_h30⟩ := q9
            have A_h30 := A_h24.tr B_h30 (by decide)
            have : ys h30 k1 7 = ys h24 k1 7 := B_h30.ys H_k1 (by decide)
            show yG _ _ _ _ _ _ _ _ _ _ [] _
            refine yG.iinc rfl (a := 4) rfl (L' := [(4, yI (4 + 1)), (0, yR k0), (1, yR k1), (2, yI (3)), (3, yI (p3))]) rfl ?_
            refine yG.goto rfl (t := 7) rfl ?_
            exact yG.mono (yG.sub (i_7 (4 + 1)  h30 A_h30   (by omega) (by omega) (by omega) (by omega) (by omega)) (ySub.cons rfl (ySub.cons rfl (ySub.cons rfl (ySub.cons rfl (ySub.cons rfl (ySub.nil))))))) (by omega)
          · have c28 : (z27 : Int) = 0 := c28
            refine yG.num (c := 0) rfl (fun _ _ => rfl) (by decide) ?_
            refine yG.ret rfl (fun _ _ => rfl) ?_
            exact (yP.bool (by omega) ⟨⟨0, rfl, by omega, by omega, trivial⟩, A_h24⟩)
      · subst c1
        refine yG.load xik rfl (fun _ _ => rfl) (v := yI (5)) rfl rfl ?_
        refine yG.getS (c := 9) rfl rfl ?_
        refine yG.load xik rfl (fun _ _ => rfl) (v := yI (3)) rfl rfl ?_
        refine yG.ialdF A_hq.1 (v_S_Net_SETTABLE W (s_S_Net_SETTABLE W)) rfl rfl (by omega) (by omega) (fun z32 e_z32 i_z32 l_z32 u_z32 => ?_)
        obtain rfl : z32 = 10 := by omega
        refine yG.icmp rfl (t := 57) rfl ⟨by omega, by omega⟩ ⟨by omega, by omega⟩ (fun c33 => ?_) (fun c33 => ?_)
        · have c33 : (5 : Int) ≥ 10 := c33
          exfalso; omega
        · have c33 : (5 : Int) < 10 := c33
          refine yG.load xak rfl (fun _ _ => rfl) (v := yR k1) rfl rfl ?_
          refine yG.invV (rest := []) A_hq.1 (bOb (d_Tape W) H_k1) rfl rfl rfl rfl (c_Tape_next W d A_hq.1 H_k1) (fun rv h34 q9 => ?_)
          obtain ⟨⟨z35, rfl, l_z35, u_z35, R_z35⟩, B_h34⟩ := q9
          have A_h34 := A_hq.tr B_h34 (by decide)
          show yG _ _ _ _ _ _ _ _ _ _ (yI z35 :: []) _
          refine yG.step (pc' := 22) (stk' := []) rfl (fun _ _ => rfl) ?_
          refine yG.load xak rfl (fun _ _ => rfl) (v := yR k0) rfl rfl ?_
          refine yG.load xik rfl (fun _ _ => rfl) (v := yI (3)) rfl rfl ?_
          refine yG.load xik rfl (fun _ _ => rfl) (v := yI (p3)) rfl rfl ?_
          refine yG.load xik rfl (fun _ _ => rfl) (v := yI (5)) rfl rfl ?_
          refine yG.load xak rfl (fun _ _ => rfl) (v := yR k1) rfl rfl ?_
          refine yG.getI A_h34.1 (w_Tape_number W H_k1) rfl rfl (fun z36 e_z36 i_z36 l_z36 u_z36 => ?_)
          refine yG.invV (rest := []) A_h34.1 (bOb (d_Net W) H_k0) rfl rfl rfl rfl (c_Net_allows_3_5 W d A_h34.1 H_k0 (p3) (z36) (by omega) (by omega) (by omega) (by omega)) (fun rv hp9 q9 => ?_)
          obtain ⟨⟨z37, rfl, l_z37, u_z37, R_z37⟩, e9⟩ := q9
          rw [e9]
          show yG _ _ _ _ _ _ _ _ _ _ (yI z37 :: []) _
          refine yG.ifz rfl (t := 39) rfl ⟨by omega, by omega⟩ (fun c38 => ?_) (fun c38 => ?_)
          · have c38 : (z37 : Int) ≠ 0 := c38
            refine yG.load xak rfl (fun _ _ => rfl) (v := yR k0) rfl rfl ?_
            refine yG.load xik rfl (fun _ _ => rfl) (v := yI (3)) rfl rfl ?_
            refine yG.load xik rfl (fun _ _ => rfl) (v := yI (p3)) rfl rfl ?_
            refine yG.load xik rfl (fun _ _ => rfl) (v := yI (5)) rfl rfl ?_
            refine yG.load xak rfl (fun _ _ => rfl) (v := yR k1) rfl rfl ?_
            refine yG.getI A_h34.1 (w_Tape_number W H_k1) rfl rfl (fun z39 e_z39 i_z39 l_z39 u_z39 => ?_)
            refine yG.invV (rest := []) A_h34.1 (bOb (d_Net W) H_k0) rfl rfl rfl rfl (c_Net_put_3_5 W (d + 2) A_h34.1 H_k0 (p3) (z39) (by omega) (by omega) (by omega) (by omega)) (fun rv h40 q9 => ?_)
            obtain ⟨⟨rfl, R_z41⟩, B_h40⟩ := q9
            have A_h40 := A_h34.tr B_h40 (by decide)
            have : ys h40 k1 7 = ys h34 k1 7 := B_h40.ys H_k1 (by decide)
            show yG _ _ _ _ _ _ _ _ _ _ [] _
            refine yG.iinc rfl (a := 5) rfl (L' := [(4, yI (5 + 1)), (0, yR k0), (1, yR k1), (2, yI (3)), (3, yI (p3))]) rfl ?_
            refine yG.goto rfl (t := 7) rfl ?_
            exact yG.mono (yG.sub (i_7 (5 + 1)  h40 A_h40   (by omega) (by omega) (by omega) (by omega) (by omega)) (ySub.cons rfl (ySub.cons rfl (ySub.cons rfl (ySub.cons rfl (ySub.cons rfl (ySub.nil))))))) (by omega)
          · have c38 : (z37 : Int) = 0 := c38
            refine yG.num (c := 0) rfl (fun _ _ => rfl) (by decide) ?_
            refine yG.ret rfl (fun _ _ => rfl) ?_
            exact (yP.bool (by omega) ⟨⟨0, rfl, by omega, by omega, trivial⟩, A_h34⟩)
      · subst c1
        refine yG.load xik rfl (fun _ _ => rfl) (v := yI (6)) rfl rfl ?_
        refine yG.getS (c := 9) rfl rfl ?_
        refine yG.load xik rfl (fun _ _ => rfl) (v := yI (3)) rfl rfl ?_
        refine yG.ialdF A_hq.1 (v_S_Net_SETTABLE W (s_S_Net_SETTABLE W)) rfl rfl (by omega) (by omega) (fun z42 e_z42 i_z42 l_z42 u_z42 => ?_)
        obtain rfl : z42 = 10 := by omega
        refine yG.icmp rfl (t := 57) rfl ⟨by omega, by omega⟩ ⟨by omega, by omega⟩ (fun c43 => ?_) (fun c43 => ?_)
        · have c43 : (6 : Int) ≥ 10 := c43
          exfalso; omega
        · have c43 : (6 : Int) < 10 := c43
          refine yG.load xak rfl (fun _ _ => rfl) (v := yR k1) rfl rfl ?_
          refine yG.invV (rest := []) A_hq.1 (bOb (d_Tape W) H_k1) rfl rfl rfl rfl (c_Tape_next W d A_hq.1 H_k1) (fun rv h44 q9 => ?_)
          obtain ⟨⟨z45, rfl, l_z45, u_z45, R_z45⟩, B_h44⟩ := q9
          have A_h44 := A_hq.tr B_h44 (by decide)
          show yG _ _ _ _ _ _ _ _ _ _ (yI z45 :: []) _
          refine yG.step (pc' := 22) (stk' := []) rfl (fun _ _ => rfl) ?_
          refine yG.load xak rfl (fun _ _ => rfl) (v := yR k0) rfl rfl ?_
          refine yG.load xik rfl (fun _ _ => rfl) (v := yI (3)) rfl rfl ?_
          refine yG.load xik rfl (fun _ _ => rfl) (v := yI (p3)) rfl rfl ?_
          refine yG.load xik rfl (fun _ _ => rfl) (v := yI (6)) rfl rfl ?_
          refine yG.load xak rfl (fun _ _ => rfl) (v := yR k1) rfl rfl ?_
          refine yG.getI A_h44.1 (w_Tape_number W H_k1) rfl rfl (fun z46 e_z46 i_z46 l_z46 u_z46 => ?_)
          refine yG.invV (rest := []) A_h44.1 (bOb (d_Net W) H_k0) rfl rfl rfl rfl (c_Net_allows_3_6 W d A_h44.1 H_k0 (p3) (z46) (by omega) (by omega) (by omega) (by omega)) (fun rv hp9 q9 => ?_)
          obtain ⟨⟨z47, rfl, l_z47, u_z47, R_z47⟩, e9⟩ := q9
          rw [e9]
          show yG _ _ _ _ _ _ _ _ _ _ (yI z47 :: []) _
          refine yG.ifz rfl (t := 39) rfl ⟨by omega, by omega⟩ (fun c48 => ?_) (fun c48 => ?_)
          · have c48 : (z47 : Int) ≠ 0 := c48
            refine yG.load xak rfl (fun _ _ => rfl) (v := yR k0) rfl rfl ?_
            refine yG.load xik rfl (fun _ _ => rfl) (v := yI (3)) rfl rfl ?_
            refine yG.load xik rfl (fun _ _ => rfl) (v := yI (p3)) rfl rfl ?_
            refine yG.load xik rfl (fun _ _ => rfl) (v := yI (6)) rfl rfl ?_
            refine yG.load xak rfl (fun _ _ => rfl) (v := yR k1) rfl rfl ?_
            refine yG.getI A_h44.1 (w_Tape_number W H_k1) rfl rfl (fun z49 e_z49 i_z49 l_z49 u_z49 => ?_)
            refine yG.invV (rest := []) A_h44.1 (bOb (d_Net W) H_k0) rfl rfl rfl rfl (c_Net_put_3_6 W (d + 2) A_h44.1 H_k0 (p3) (z49) (by omega) (by omega) (by omega) (by omega)) (fun rv h50 q9 => ?_)
            obtain ⟨⟨rfl, R_z51⟩, B_h50⟩ := q9
            have A_h50 := A_h44.tr B_h50 (by decide)
            have : ys h50 k1 7 = ys h44 k1 7 := B_h50.ys H_k1 (by decide)
            show yG _ _ _ _ _ _ _ _ _ _ [] _
            refine yG.iinc rfl (a := 6) rfl (L' := [(4, yI (6 + 1)), (0, yR k0), (1, yR k1), (2, yI (3)), (3, yI (p3))]) rfl ?_
            refine yG.goto rfl (t := 7) rfl ?_
            exact yG.mono (yG.sub (i_7 (6 + 1)  h50 A_h50   (by omega) (by omega) (by omega) (by omega) (by omega)) (ySub.cons rfl (ySub.cons rfl (ySub.cons rfl (ySub.cons rfl (ySub.cons rfl (ySub.nil))))))) (by omega)
          · have c48 : (z47 : Int) = 0 := c48
            refine yG.num (c := 0) rfl (fun _ _ => rfl) (by decide) ?_
            refine yG.ret rfl (fun _ _ => rfl) ?_
            exact (yP.bool (by omega) ⟨⟨0, rfl, by omega, by omega, trivial⟩, A_h44⟩)
      · subst c1
        refine yG.load xik rfl (fun _ _ => rfl) (v := yI (7)) rfl rfl ?_
        refine yG.getS (c := 9) rfl rfl ?_
        refine yG.load xik rfl (fun _ _ => rfl) (v := yI (3)) rfl rfl ?_
        refine yG.ialdF A_hq.1 (v_S_Net_SETTABLE W (s_S_Net_SETTABLE W)) rfl rfl (by omega) (by omega) (fun z52 e_z52 i_z52 l_z52 u_z52 => ?_)
        obtain rfl : z52 = 10 := by omega
        refine yG.icmp rfl (t := 57) rfl ⟨by omega, by omega⟩ ⟨by omega, by omega⟩ (fun c53 => ?_) (fun c53 => ?_)
        · have c53 : (7 : Int) ≥ 10 := c53
          exfalso; omega
        · have c53 : (7 : Int) < 10 := c53
          refine yG.load xak rfl (fun _ _ => rfl) (v := yR k1) rfl rfl ?_
          refine yG.invV (rest := []) A_hq.1 (bOb (d_Tape W) H_k1) rfl rfl rfl rfl (c_Tape_next W d A_hq.1 H_k1) (fun rv h54 q9 => ?_)
          obtain ⟨⟨z55, rfl, l_z55, u_z55, R_z55⟩, B_h54⟩ := q9
          have A_h54 := A_hq.tr B_h54 (by decide)
          show yG _ _ _ _ _ _ _ _ _ _ (yI z55 :: []) _
          refine yG.step (pc' := 22) (stk' := []) rfl (fun _ _ => rfl) ?_
          refine yG.load xak rfl (fun _ _ => rfl) (v := yR k0) rfl rfl ?_
          refine yG.load xik rfl (fun _ _ => rfl) (v := yI (3)) rfl rfl ?_
          refine yG.load xik rfl (fun _ _ => rfl) (v := yI (p3)) rfl rfl ?_
          refine yG.load xik rfl (fun _ _ => rfl) (v := yI (7)) rfl rfl ?_
          refine yG.load xak rfl (fun _ _ => rfl) (v := yR k1) rfl rfl ?_
          refine yG.getI A_h54.1 (w_Tape_number W H_k1) rfl rfl (fun z56 e_z56 i_z56 l_z56 u_z56 => ?_)
          refine yG.invV (rest := []) A_h54.1 (bOb (d_Net W) H_k0) rfl rfl rfl rfl (c_Net_allows_3_7 W d A_h54.1 H_k0 (p3) (z56) (by omega) (by omega) (by omega) (by omega)) (fun rv hp9 q9 => ?_)
          obtain ⟨⟨z57, rfl, l_z57, u_z57, R_z57⟩, e9⟩ := q9
          rw [e9]
          show yG _ _ _ _ _ _ _ _ _ _ (yI z57 :: []) _
          refine yG.ifz rfl (t := 39) rfl ⟨by omega, by omega⟩ (fun c58 => ?_) (fun c58 => ?_)
          · have c58 : (z57 : Int) ≠ 0 := c58
            refine yG.load xak rfl (fun _ _ => rfl) (v := yR k0) rfl rfl ?_
            refine yG.load xik rfl (fun _ _ => rfl) (v := yI (3)) rfl rfl ?_
            refine yG.load xik rfl (fun _ _ => rfl) (v := yI (p3)) rfl rfl ?_
            refine yG.load xik rfl (fun _ _ => rfl) (v := yI (7)) rfl rfl ?_
            refine yG.load xak rfl (fun _ _ => rfl) (v := yR k1) rfl rfl ?_
            refine yG.getI A_h54.1 (w_Tape_number W H_k1) rfl rfl (fun z59 e_z59 i_z59 l_z59 u_z59 => ?_)
            refine yG.invV (rest := []) A_h54.1 (bOb (d_Net W) H_k0) rfl rfl rfl rfl (c_Net_put_3_7 W (d + 2) A_h54.1 H_k0 (p3) (z59) (by omega) (by omega) (by omega) (by omega)) (fun rv h60 q9 => ?_)
            obtain ⟨⟨rfl, R_z61⟩, B_h60⟩ := q9
            have A_h60 := A_h54.tr B_h60 (by decide)
            have : ys h60 k1 7 = ys h54 k1 7 := B_h60.ys H_k1 (by decide)
            show yG _ _ _ _ _ _ _ _ _ _ [] _
            refine yG.iinc rfl (a := 7) rfl (L' := [(4, yI (7 + 1)), (0, yR k0), (1, yR k1), (2, yI (3)), (3, yI (p3))]) rfl ?_
            refine yG.goto rfl (t := 7) rfl ?_
            exact yG.mono (yG.sub (i_7 (7 + 1)  h60 A_h60   (by omega) (by omega) (by omega) (by omega) (by omega)) (ySub.cons rfl (ySub.cons rfl (ySub.cons rfl (ySub.cons rfl (ySub.cons rfl (ySub.nil))))))) (by omega)
          · have c58 : (z57 : Int) = 0 := c58
            refine yG.num (c := 0) rfl (fun _ _ => rfl) (by decide) ?_
            refine yG.ret rfl (fun _ _ => rfl) ?_
            exact (yP.bool (by omega) ⟨⟨0, rfl, by omega, by omega, trivial⟩, A_h54⟩)
      · subst c1
        refine yG.load xik rfl (fun _ _ => rfl) (v := yI (8)) rfl rfl ?_
        refine yG.getS (c := 9) rfl rfl ?_
        refine yG.load xik rfl (fun _ _ => rfl) (v := yI (3)) rfl rfl ?_
        refine yG.ialdF A_hq.1 (v_S_Net_SETTABLE W (s_S_Net_SETTABLE W)) rfl rfl (by omega) (by omega) (fun z62 e_z62 i_z62 l_z62 u_z62 => ?_)
        obtain rfl : z62 = 10 := by omega
        refine yG.icmp rfl (t := 57) rfl ⟨by omega, by omega⟩ ⟨by omega, by omega⟩ (fun c63 => ?_) (fun c63 => ?_)
        · have c63 : (8 : Int) ≥ 10 := c63
          exfalso; omega
        · have c63 : (8 : Int) < 10 := c63
          refine yG.load xak rfl (fun _ _ => rfl) (v := yR k1) rfl rfl ?_
          refine yG.invV (rest := []) A_hq.1 (bOb (d_Tape W) H_k1) rfl rfl rfl rfl (c_Tape_next W d A_hq.1 H_k1) (fun rv h64 q9 => ?_)
          obtain ⟨⟨z65, rfl, l_z65, u_z65, R_z65⟩, B_h64⟩ := q9
          have A_h64 := A_hq.tr B_h64 (by decide)
          show yG _ _ _ _ _ _ _ _ _ _ (yI z65 :: []) _
          refine yG.step (pc' := 22) (stk' := []) rfl (fun _ _ => rfl) ?_
          refine yG.load xak rfl (fun _ _ => rfl) (v := yR k0) rfl rfl ?_
          refine yG.load xik rfl (fun _ _ => rfl) (v := yI (3)) rfl rfl ?_
          refine yG.load xik rfl (fun _ _ => rfl) (v := yI (p3)) rfl rfl ?_
          refine yG.load xik rfl (fun _ _ => rfl) (v := yI (8)) rfl rfl ?_
          refine yG.load xak rfl (fun _ _ => rfl) (v := yR k1) rfl rfl ?_
          refine yG.getI A_h64.1 (w_Tape_number W H_k1) rfl rfl (fun z66 e_z66 i_z66 l_z66 u_z66 => ?_)
          refine yG.invV (rest := []) A_h64.1 (bOb (d_Net W) H_k0) rfl rfl rfl rfl (c_Net_allows_3_8 W d A_h64.1 H_k0 (p3) (z66) (by omega) (by omega) (by omega) (by omega)) (fun rv hp9 q9 => ?_)
          obtain ⟨⟨z67, rfl, l_z67, u_z67, R_z67⟩, e9⟩ := q9
          rw [e9]
          show yG _ _ _ _ _ _ _ _ _ _ (yI z67 :: []) _
          refine yG.ifz rfl (t := 39) rfl ⟨by omega, by omega⟩ (fun c68 => ?_) (fun c68 => ?_)
          · have c68 : (z67 : Int) ≠ 0 := c68
            refine yG.load xak rfl (fun _ _ => rfl) (v := yR k0) rfl rfl ?_
            refine yG.load xik rfl (fun _ _ => rfl) (v := yI (3)) rfl rfl ?_
            refine yG.load xik rfl (fun _ _ => rfl) (v := yI (p3)) rfl rfl ?_
            refine yG.load xik rfl (fun _ _ => rfl) (v := yI (8)) rfl rfl ?_
            refine yG.load xak rfl (fun _ _ => rfl) (v := yR k1) rfl rfl ?_
            refine yG.getI A_h64.1 (w_Tape_number W H_k1) rfl rfl (fun z69 e_z69 i_z69 l_z69 u_z69 => ?_)
            refine yG.invV (rest := []) A_h64.1 (bOb (d_Net W) H_k0) rfl rfl rfl rfl (c_Net_put_3_8 W (d + 2) A_h64.1 H_k0 (p3) (z69) (by omega) (by omega) (by omega) (by omega)) (fun rv h70 q9 => ?_)
            obtain ⟨⟨rfl, R_z71⟩, B_h70⟩ := q9
            have A_h70 := A_h64.tr B_h70 (by decide)
            have : ys h70 k1 7 = ys h64 k1 7 := B_h70.ys H_k1 (by decide)
            show yG _ _ _ _ _ _ _ _ _ _ [] _
            refine yG.iinc rfl (a := 8) rfl (L' := [(4, yI (8 + 1)), (0, yR k0), (1, yR k1), (2, yI (3)), (3, yI (p3))]) rfl ?_
            refine yG.goto rfl (t := 7) rfl ?_
            exact yG.mono (yG.sub (i_7 (8 + 1)  h70 A_h70   (by omega) (by omega) (by omega) (by omega) (by omega)) (ySub.cons rfl (ySub.cons rfl (ySub.cons rfl (ySub.cons rfl (ySub.cons rfl (ySub.nil))))))) (by omega)
          · have c68 : (z67 : Int) = 0 := c68
            refine yG.num (c := 0) rfl (fun _ _ => rfl) (by decide) ?_
            refine yG.ret rfl (fun _ _ => rfl) ?_
            exact (yP.bool (by omega) ⟨⟨0, rfl, by omega, by omega, trivial⟩, A_h64⟩)
      · subst c1
        refine yG.load xik rfl (fun _ _ => rfl) (v := yI (9)) rfl rfl ?_
        refine yG.getS (c := 9) rfl rfl ?_
        refine yG.load xik rfl (fun _ _ => rfl) (v := yI (3)) rfl rfl ?_
        refine yG.ialdF A_hq.1 (v_S_Net_SETTABLE W (s_S_Net_SETTABLE W)) rfl rfl (by omega) (by omega) (fun z72 e_z72 i_z72 l_z72 u_z72 => ?_)
        obtain rfl : z72 = 10 := by omega
        refine yG.icmp rfl (t := 57) rfl ⟨by omega, by omega⟩ ⟨by omega, by omega⟩ (fun c73 => ?_) (fun c73 => ?_)
        · have c73 : (9 : Int) ≥ 10 := c73
          exfalso; omega
        · have c73 : (9 : Int) < 10 := c73
          refine yG.load xak rfl (fun _ _ => rfl) (v := yR k1) rfl rfl ?_
          refine yG.invV (rest := []) A_hq.1 (bOb (d_Tape W) H_k1) rfl rfl rfl rfl (c_Tape_next W d A_hq.1 H_k1) (fun rv h74 q9 => ?_)
          obtain ⟨⟨z75, rfl, l_z75, u_z75, R_z75⟩, B_h74⟩ := q9
          have A_h74 := A_hq.tr B_h74 (by decide)
          show yG _ _ _ _ _ _ _ _ _ _ (yI z75 :: []) _
          refine yG.step (pc' := 22) (stk' := []) rfl (fun _ _ => rfl) ?_
          refine yG.load xak rfl (fun _ _ => rfl) (v := yR k0) rfl rfl ?_
          refine yG.load xik rfl (fun _ _ => rfl) (v := yI (3)) rfl rfl ?_
          refine yG.load xik rfl (fun _ _ => rfl) (v := yI (p3)) rfl rfl ?_
          refine yG.load xik rfl (fun _ _ => rfl) (v := yI (9)) rfl rfl ?_
          refine yG.load xak rfl (fun _ _ => rfl) (v := yR k1) rfl rfl ?_
          refine yG.getI A_h74.1 (w_Tape_number W H_k1) rfl rfl (fun z76 e_z76 i_z76 l_z76 u_z76 => ?_)
          refine yG.invV (rest := []) A_h74.1 (bOb (d_Net W) H_k0) rfl rfl rfl rfl (c_Net_allows_3_9 W d A_h74.1 H_k0 (p3) (z76) (by omega) (by omega) (by omega) (by omega)) (fun rv hp9 q9 => ?_)
          obtain ⟨⟨z77, rfl, l_z77, u_z77, R_z77⟩, e9⟩ := q9
          rw [e9]
          show yG _ _ _ _ _ _ _ _ _ _ (yI z77 :: []) _
          refine yG.ifz rfl (t := 39) rfl ⟨by omega, by omega⟩ (fun c78 => ?_) (fun c78 => ?_)
          · have c78 : (z77 : Int) ≠ 0 := c78
            refine yG.load xak rfl (fun _ _ => rfl) (v := yR k0) rfl rfl ?_
            refine yG.load xik rfl (fun _ _ => rfl) (v := yI (3)) rfl rfl ?_
            refine yG.load xik rfl (fun _ _ => rfl) (v := yI (p3)) rfl rfl ?_
            refine yG.load xik rfl (fun _ _ => rfl) (v := yI (9)) rfl rfl ?_
            refine yG.load xak rfl (fun _ _ => rfl) (v := yR k1) rfl rfl ?_
            refine yG.getI A_h74.1 (w_Tape_number W H_k1) rfl rfl (fun z79 e_z79 i_z79 l_z79 u_z79 => ?_)
            refine yG.invV (rest := []) A_h74.1 (bOb (d_Net W) H_k0) rfl rfl rfl rfl (c_Net_put_3_9 W (d + 2) A_h74.1 H_k0 (p3) (z79) (by omega) (by omega) (by omega) (by omega)) (fun rv h80 q9 => ?_)
            obtain ⟨⟨rfl, R_z81⟩, B_h80⟩ := q9
            have A_h80 := A_h74.tr B_h80 (by decide)
            have : ys h80 k1 7 = ys h74 k1 7 := B_h80.ys H_k1 (by decide)
            show yG _ _ _ _ _ _ _ _ _ _ [] _
            refine yG.iinc rfl (a := 9) rfl (L' := [(4, yI (9 + 1)), (0, yR k0), (1, yR k1), (2, yI (3)), (3, yI (p3))]) rfl ?_
            refine yG.goto rfl (t := 7) rfl ?_
            exact yG.mono (yG.sub (i_7 (9 + 1)  h80 A_h80   (by omega) (by omega) (by omega) (by omega) (by omega)) (ySub.cons rfl (ySub.cons rfl (ySub.cons rfl (ySub.cons rfl (ySub.cons rfl (ySub.nil))))))) (by omega)
          · have c78 : (z77 : Int) = 0 := c78
            refine yG.num (c := 0) rfl (fun _ _ => rfl) (by decide) ?_
            refine yG.ret rfl (fun _ _ => rfl) ?_
            exact (yP.bool (by omega) ⟨⟨0, rfl, by omega, by omega, trivial⟩, A_h74⟩)
      · subst c1
        refine yG.load xik rfl (fun _ _ => rfl) (v := yI (10)) rfl rfl ?_
        refine yG.getS (c := 9) rfl rfl ?_
        refine yG.load xik rfl (fun _ _ => rfl) (v := yI (3)) rfl rfl ?_
        refine yG.ialdF A_hq.1 (v_S_Net_SETTABLE W (s_S_Net_SETTABLE W)) rfl rfl (by omega) (by omega) (fun z82 e_z82 i_z82 l_z82 u_z82 => ?_)
        obtain rfl : z82 = 10 := by omega
        refine yG.icmp rfl (t := 57) rfl ⟨by omega, by omega⟩ ⟨by omega, by omega⟩ (fun c83 => ?_) (fun c83 => ?_)
        · have c83 : (10 : Int) ≥ 10 := c83
          refine yG.num (c := 1) rfl (fun _ _ => rfl) (by decide) ?_
          refine yG.ret rfl (fun _ _ => rfl) ?_
          exact (yP.bool (by omega) ⟨⟨1, rfl, by omega, by omega, trivial⟩, A_hq⟩)
        · have c83 : (10 : Int) < 10 := c83
          exfalso; omega
  refine yC.of (M := (xt_X5_readNumbers, (5, (4, (6, []))))) rfl rfl (N := 540) (yfuel (by decide)) ?_
  show yG 89 xfts (xcall 89 xfts xpools xms (d + 3)) (xpool xp_RX5) [] xt_X5_readNumbers (yP 4 (bQi G [(32768, 2), (32768, 3), (32768, 5), (32768, 6), (32768, 7), (268435456, 256)] hp 0 1 (fun _ => True))) 540 0 [(0, yR k0), (1, yR k1), (2, yI (3)), (3, yI (p3))] [] hp
  have i_7 := H 19
  refine yG.getS (c := 8) rfl rfl ?_
  refine yG.load xik rfl (fun _ _ => rfl) (v := yI (3)) rfl rfl ?_
  refine yG.ialdF A_hp.1 (v_S_Net_FIRST_NUMBER W (s_S_Net_FIRST_NUMBER W)) rfl rfl (by omega) (by omega) (fun z1 e_z1 i_z1 l_z1 u_z1 => ?_)
  obtain rfl : z1 = 2 := by omega
  refine yG.store1 xik (L' := [(4, yI (2)), (0, yR k0), (1, yR k1), (2, yI (3)), (3, yI (p3))]) rfl (fun _ _ => rfl) rfl rfl ?_
  exact yG.mono (yG.sub (i_7 (2)  hp A_hp   (by omega) (by omega) (by omega) (by omega) (by omega)) (ySub.cons rfl (ySub.cons rfl (ySub.cons rfl (ySub.cons rfl (ySub.cons rfl (ySub.nil))))))) (by omega)
theorem c_Net_blank_4 {hp : xH} (W : bW G) (d : Nat) (hT : zTy G hp) {k0 : Nat} (H_k0 : bRo G 18 k0) (p2 : Int) (h2l : 0 ≤ p2) (h2u : p2 ≤ 11) : yC (xcall 89 xfts xpools xms (d + 2)) 152 [yR k0, yI (4), yI (p2)] hp (fun rv hp' => (rv = none ∧ True) ∧ bAx G [(1073741824, 256)] hp hp') := by
  have A_hp : bAx G [(1073741824, 256)] hp hp := bAx.rf hT
  have H : ∀ m : Nat, (∀ a3 : Int, ∀ hq, bAx G [(1073741824, 256)] hp hq → 0 ≤ a3 → (-2) ≤ 0 - a3 → 0 ≤ p2 → (-11) ≤ 0 - p2 → 0 - 2 * a3 + 5 < (m : Int) → yG 89 xfts (xcall 89 xfts xpools xms (d + 1)) (xpool xp_RX5) [] xt_X5_blank (yP 0 (fun rv hp' => (rv = none ∧ True) ∧ bAx G [(1073741824, 256)] hp hp')) (15 * m) 2 [(0, yR k0), (1, yI (4)), (2, yI (p2)), (3, yI (a3))] [] hq) := by
    intro m
    induction m with
    | zero =>
      intros; exfalso; omega
    | succ m ih =>
      have i_2 := ih
      clear ih
      intro a3 hq A_hq f0 f1 f2 f3 hm
      refine yG.mono (N := 15 * m + 15) ?_ (by omega)
      rcases (show a3 = 0 ∨ a3 = 1 ∨ a3 = 2 by omega) with c1 | c1 | c1
      · subst c1
        refine yG.load xik rfl (fun _ _ => rfl) (v := yI (0)) rfl rfl ?_
        refine yG.getS (c := 2) rfl rfl ?_
        refine yG.load xik rfl (fun _ _ => rfl) (v := yI (4)) rfl rfl ?_
        refine yG.ialdF A_hq.1 (v_S_Net_WIDTH W (s_S_Net_WIDTH W)) rfl rfl (by omega) (by omega) (fun z2 e_z2 i_z2 l_z2 u_z2 => ?_)
        obtain rfl : z2 = 2 := by omega
        refine yG.icmp rfl (t := 25) rfl ⟨by omega, by omega⟩ ⟨by omega, by omega⟩ (fun c3 => ?_) (fun c3 => ?_)
        · have c3 : (0 : Int) ≥ 2 := c3
          exfalso; omega
        · have c3 : (0 : Int) < 2 := c3
          refine yG.load xak rfl (fun _ _ => rfl) (v := yR k0) rfl rfl ?_
          refine yG.load xik rfl (fun _ _ => rfl) (v := yI (4)) rfl rfl ?_
          refine yG.load xik rfl (fun _ _ => rfl) (v := yI (p2)) rfl rfl ?_
          refine yG.load xik rfl (fun _ _ => rfl) (v := yI (0)) rfl rfl ?_
          refine yG.num (c := 0) rfl (fun _ _ => rfl) (by decide) ?_
          refine yG.invV (rest := []) A_hq.1 (bOb (d_Net W) H_k0) rfl rfl rfl rfl (c_Net_put_4_0 W d A_hq.1 H_k0 (p2) (0) (by omega) (by omega) (by omega) (by omega)) (fun rv h4 q9 => ?_)
          obtain ⟨⟨rfl, R_z5⟩, B_h4⟩ := q9
          have A_h4 := A_hq.tr B_h4 (by decide)
          show yG _ _ _ _ _ _ _ _ _ _ [] _
          refine yG.iinc rfl (a := 0) rfl (L' := [(3, yI (0 + 1)), (0, yR k0), (1, yI (4)), (2, yI (p2))]) rfl ?_
          refine yG.goto rfl (t := 2) rfl ?_
          exact yG.mono (yG.sub (i_2 (0 + 1)  h4 A_h4   (by omega) (by omega) (by omega) (by omega) (by omega)) (ySub.cons rfl (ySub.cons rfl (ySub.cons rfl (ySub.cons rfl (ySub.nil)))))) (by omega)
      · subst c1
        refine yG.load xik rfl (fun _ _ => rfl) (v := yI (1)) rfl rfl ?_
        refine yG.getS (c := 2) rfl rfl ?_
        refine yG.load xik rfl (fun _ _ => rfl) (v := yI (4)) rfl rfl ?_
        refine yG.ialdF A_hq.1 (v_S_Net_WIDTH W (s_S_Net_WIDTH W)) rfl rfl (by omega) (by omega) (fun z6 e_z6 i_z6 l_z6 u_z6 => ?_)
        obtain rfl : z6 = 2 := by omega
        refine yG.icmp rfl (t := 25) rfl ⟨by omega, by omega⟩ ⟨by omega, by omega⟩ (fun c7 => ?_) (fun c7 => ?_)
        · have c7 : (1 : Int) ≥ 2 := c7
          exfalso; omega
        · have c7 : (1 : Int) < 2 := c7
          refine yG.load xak rfl (fun _ _ => rfl) (v := yR k0) rfl rfl ?_
          refine yG.load xik rfl (fun _ _ => rfl) (v := yI (4)) rfl rfl ?_
          refine yG.load xik rfl (fun _ _ => rfl) (v := yI (p2)) rfl rfl ?_
          refine yG.load xik rfl (fun _ _ => rfl) (v := yI (1)) rfl rfl ?_
          refine yG.num (c := 0) rfl (fun _ _ => rfl) (by decide) ?_
          refine yG.invV (rest := []) A_hq.1 (bOb (d_Net W) H_k0) rfl rfl rfl rfl (c_Net_put_4_1 W d A_hq.1 H_k0 (p2) (0) (by omega) (by omega) (by omega) (by omega)) (fun rv h8 q9 => ?_)
          obtain ⟨⟨rfl, R_z9⟩, B_h8⟩ := q9
          have A_h8 := A_hq.tr B_h8 (by decide)
          show yG _ _ _ _ _ _ _ _ _ _ [] _
          refine yG.iinc rfl (a := 1) rfl (L' := [(3, yI (1 + 1)), (0, yR k0), (1, yI (4)), (2, yI (p2))]) rfl ?_
          refine yG.goto rfl (t := 2) rfl ?_
          exact yG.mono (yG.sub (i_2 (1 + 1)  h8 A_h8   (by omega) (by omega) (by omega) (by omega) (by omega)) (ySub.cons rfl (ySub.cons rfl (ySub.cons rfl (ySub.cons rfl (ySub.nil)))))) (by omega)
      · subst c1
        refine yG.load xik rfl (fun _ _ => rfl) (v := yI (2)) rfl rfl ?_
        refine yG.getS (c := 2) rfl rfl ?_
        refine yG.load xik rfl (fun _ _ => rfl) (v := yI (4)) rfl rfl ?_
        refine yG.ialdF A_hq.1 (v_S_Net_WIDTH W (s_S_Net_WIDTH W)) rfl rfl (by omega) (by omega) (fun z10 e_z10 i_z10 l_z10 u_z10 => ?_)
        obtain rfl : z10 = 2 := by omega
        refine yG.icmp rfl (t := 25) rfl ⟨by omega, by omega⟩ ⟨by omega, by omega⟩ (fun c11 => ?_) (fun c11 => ?_)
        · have c11 : (2 : Int) ≥ 2 := c11
          refine yG.load xik rfl (fun _ _ => rfl) (v := yI (4)) rfl rfl ?_
          refine yG.num (c := 2) rfl (fun _ _ => rfl) (by decide) ?_
          refine yG.icmp rfl (t := 41) rfl ⟨by omega, by omega⟩ ⟨by omega, by omega⟩ (fun c12 => ?_) (fun c12 => ?_)
          · have c12 : (4 : Int) ≠ 2 := c12
            refine yG.load xik rfl (fun _ _ => rfl) (v := yI (4)) rfl rfl ?_
            refine yG.num (c := 3) rfl (fun _ _ => rfl) (by decide) ?_
            refine yG.icmp rfl (t := 92) rfl ⟨by omega, by omega⟩ ⟨by omega, by omega⟩ (fun c13 => ?_) (fun c13 => ?_)
            · have c13 : (4 : Int) ≠ 3 := c13
              refine yG.ret rfl (fun _ _ => rfl) ?_
              exact (yP.void ⟨⟨rfl, trivial⟩, A_hq⟩)
            · have c13 : (4 : Int) = 3 := c13
              exfalso; omega
          · have c12 : (4 : Int) = 2 := c12
            exfalso; omega
        · have c11 : (2 : Int) < 2 := c11
          exfalso; omega
  refine yC.of (M := (xt_X5_blank, (4, (0, (6, []))))) rfl rfl (N := 120) (yfuel (by decide)) ?_
  show yG 89 xfts (xcall 89 xfts xpools xms (d + 1)) (xpool xp_RX5) [] xt_X5_blank (yP 0 (fun rv hp' => (rv = none ∧ True) ∧ bAx G [(1073741824, 256)] hp hp')) 120 0 [(0, yR k0), (1, yI (4)), (2, yI (p2))] [] hp
  have i_2 := H 7
  refine yG.num (c := 0) rfl (fun _ _ => rfl) (by decide) ?_
  refine yG.store1 xik (L' := [(3, yI (0)), (0, yR k0), (1, yI (4)), (2, yI (p2))]) rfl (fun _ _ => rfl) rfl rfl ?_
  exact yG.mono (yG.sub (i_2 (0)  hp A_hp   (by omega) (by omega) (by omega) (by omega) (by omega)) (ySub.cons rfl (ySub.cons rfl (ySub.cons rfl (ySub.cons rfl (ySub.nil)))))) (by omega)
theorem c_Net_readEnds_4 {hp : xH} (W : bW G) (d : Nat) (hT : zTy G hp) {k0 : Nat} (H_k0 : bRo G 18 k0) {k1 : Nat} (H_k1 : bRo G 15 k1) (p3 : Int) (h3l : 0 ≤ p3) (h3u : p3 ≤ 11) : yC (xcall 89 xfts xpools xms (d + 4)) 165 [yR k0, yR k1, yI (4), yI (p3)] hp (bQi G [(32768, 2), (32768, 3), (32768, 5), (32768, 6), (32768, 7), (1073741824, 256)] hp 0 1 (fun _ => True)) := by
  have A_hp : bAx G [(32768, 2), (32768, 3), (32768, 5), (32768, 6), (32768, 7), (1073741824, 256)] hp hp := bAx.rf hT
  have H : ∀ m : Nat, (∀ a4 : Int, ∀ a5 : Int, ∀ hq, bAx G [(32768, 2), (32768, 3), (32768, 5), (32768, 6), (32768, 7), (1073741824, 256)] hp hq → (-1) ≤ a4 → (-15) ≤ 0 - a4 → 0 ≤ a5 → (-1) ≤ 0 - a5 → 0 ≤ p3 → (-11) ≤ 0 - p3 → (-1) ≤ a4 - a5 → (-14) ≤ 0 - a4 + a5 → 0 - 2 * a5 + 3 < (m : Int) → yG 89 xfts (xcall 89 xfts xpools xms (d + 3)) (xpool xp_RX5) [] xt_X5_readEnds (yP 4 (bQi G [(32768, 2), (32768, 3), (32768, 5), (32768, 6), (32768, 7), (1073741824, 256)] hp 0 1 (fun _ => True))) (35 * m) 6 [(0, yR k0), (1, yR k1), (2, yI (4)), (3, yI (p3)), (4, yI (a4)), (5, yI (a5))] [] hq) := by
    intro m
    induction m with
    | zero =>
      intros; exfalso; omega
    | succ m ih =>
      have i_6 := ih
      clear ih
      intro a4 a5 hq A_hq f0 f1 f2 f3 f4 f5 f6 f7 hm
      refine yG.mono (N := 35 * m + 35) ?_ (by omega)
      rcases (show a5 = 0 ∨ a5 = 1 by omega) with c1 | c1
      · subst c1
        refine yG.load xik rfl (fun _ _ => rfl) (v := yI (0)) rfl rfl ?_
        refine yG.getS (c := 6) rfl rfl ?_
        refine yG.load xik rfl (fun _ _ => rfl) (v := yI (4)) rfl rfl ?_
        refine yG.ialdF A_hq.1 (v_S_Net_ENDS W (s_S_Net_ENDS W)) rfl rfl (by omega) (by omega) (fun z2 e_z2 i_z2 l_z2 u_z2 => ?_)
        obtain rfl : z2 = 1 := by omega
        refine yG.icmp rfl (t := 70) rfl ⟨by omega, by omega⟩ ⟨by omega, by omega⟩ (fun c3 => ?_) (fun c3 => ?_)
        · have c3 : (0 : Int) ≥ 1 := c3
          exfalso; omega
        · have c3 : (0 : Int) < 1 := c3
          refine yG.load xak rfl (fun _ _ => rfl) (v := yR k1) rfl rfl ?_
          refine yG.invV (rest := []) A_hq.1 (bOb (d_Tape W) H_k1) rfl rfl rfl rfl (c_Tape_next W d A_hq.1 H_k1) (fun rv h4 q9 => ?_)
          obtain ⟨⟨z5, rfl, l_z5, u_z5, R_z5⟩, B_h4⟩ := q9
          have A_h4 := A_hq.tr B_h4 (by decide)
          show yG _ _ _ _ _ _ _ _ _ _ (yI z5 :: []) _
          refine yG.step (pc' := 21) (stk' := []) rfl (fun _ _ => rfl) ?_
          refine yG.load xak rfl (fun _ _ => rfl) (v := yR k0) rfl rfl ?_
          refine yG.load xak rfl (fun _ _ => rfl) (v := yR k1) rfl rfl ?_
          refine yG.num (c := 0) rfl (fun _ _ => rfl) (by decide) ?_
          refine yG.invV (rest := []) A_h4.1 (bOb (d_Net W) H_k0) rfl rfl rfl rfl (c_Net_named__0 W (d + 2) A_h4.1 H_k0 H_k1) (fun rv hp9 q9 => ?_)
          obtain ⟨⟨z6, rfl, l_z6, u_z6, R_z6⟩, e9⟩ := q9
          rw [e9]
          show yG _ _ _ _ _ _ _ _ _ _ (yI z6 :: []) _
          refine yG.store1 xik (L' := [(6, yI (z6)), (0, yR k0), (1, yR k1), (2, yI (4)), (3, yI (p3)), (4, yI (a4)), (5, yI (0))]) rfl (fun _ _ => rfl) rfl rfl ?_
          refine yG.load xik rfl (fun _ _ => rfl) (v := yI (z6)) rfl rfl ?_
          refine yG.num (c := -1) rfl (fun _ _ => rfl) (by decide) ?_
          refine yG.icmp rfl (t := 42) rfl ⟨by omega, by omega⟩ ⟨by omega, by omega⟩ (fun c7 => ?_) (fun c7 => ?_)
          · have c7 : (z6 : Int) = (-1) := c7
            refine yG.num (c := 0) rfl (fun _ _ => rfl) (by decide) ?_
            refine yG.ret rfl (fun _ _ => rfl) ?_
            exact (yP.bool (by omega) ⟨⟨0, rfl, by omega, by omega, trivial⟩, A_h4⟩)
          · have c7 : (z6 : Int) ≠ (-1) := c7
            refine yG.load xik rfl (fun _ _ => rfl) (v := yI (z6)) rfl rfl ?_
            refine yG.load xik rfl (fun _ _ => rfl) (v := yI (a4)) rfl rfl ?_
            refine yG.icmp rfl (t := 44) rfl ⟨by omega, by omega⟩ ⟨by omega, by omega⟩ (fun c8 => ?_) (fun c8 => ?_)
            · have c8 : (z6 : Int) ≠ a4 := c8
              refine yG.load xak rfl (fun _ _ => rfl) (v := yR k0) rfl rfl ?_
              refine yG.load xik rfl (fun _ _ => rfl) (v := yI (4)) rfl rfl ?_
              refine yG.load xik rfl (fun _ _ => rfl) (v := yI (p3)) rfl rfl ?_
              refine yG.getS (c := 7) rfl rfl ?_
              refine yG.load xik rfl (fun _ _ => rfl) (v := yI (4)) rfl rfl ?_
              refine yG.ialdF A_h4.1 (v_S_Net_FIRST_END W (s_S_Net_FIRST_END W)) rfl rfl (by omega) (by omega) (fun z9 e_z9 i_z9 l_z9 u_z9 => ?_)
              obtain rfl : z9 = 1 := by omega
              refine yG.load xik rfl (fun _ _ => rfl) (v := yI (0)) rfl rfl ?_
              refine yG.iadd rfl ?_
              refine yG.load xik rfl (fun _ _ => rfl) (v := yI (z6)) rfl rfl ?_
              rw [show (1 + 0 : Int) = 1 by omega]
              refine yG.invV (rest := []) A_h4.1 (bOb (d_Net W) H_k0) rfl rfl rfl rfl (c_Net_put_4_1 W (d + 2) A_h4.1 H_k0 (p3) (z6) (by omega) (by omega) (by omega) (by omega)) (fun rv h10 q9 => ?_)
              obtain ⟨⟨rfl, R_z11⟩, B_h10⟩ := q9
              have A_h10 := A_h4.tr B_h10 (by decide)
              show yG _ _ _ _ _ _ _ _ _ _ [] _
              refine yG.load xik rfl (fun _ _ => rfl) (v := yI (z6)) rfl rfl ?_
              refine yG.store1 xik (L' := [(4, yI (z6)), (6, yI (z6)), (0, yR k0), (1, yR k1), (2, yI (4)), (3, yI (p3)), (5, yI (0))]) rfl (fun _ _ => rfl) rfl rfl ?_
              refine yG.iinc rfl (a := 0) rfl (L' := [(5, yI (0 + 1)), (4, yI (z6)), (6, yI (z6)), (0, yR k0), (1, yR k1), (2, yI (4)), (3, yI (p3))]) rfl ?_
              refine yG.goto rfl (t := 6) rfl ?_
              exact yG.mono (yG.sub (i_6 (z6) (0 + 1)  h10 A_h10   (by omega) (by omega) (by omega) (by omega) (by omega) (by omega) (by omega) (by omega) (by omega)) (ySub.cons rfl (ySub.cons rfl (ySub.cons rfl (ySub.cons rfl (ySub.cons rfl (ySub.cons rfl (ySub.nil)))))))) (by omega)
            · have c8 : (z6 : Int) = a4 := c8
              refine yG.num (c := 0) rfl (fun _ _ => rfl) (by decide) ?_
              refine yG.ret rfl (fun _ _ => rfl) ?_
              exact (yP.bool (by omega) ⟨⟨0, rfl, by omega, by omega, trivial⟩, A_h4⟩)
      · subst c1
        refine yG.load xik rfl (fun _ _ => rfl) (v := yI (1)) rfl rfl ?_
        refine yG.getS (c := 6) rfl rfl ?_
        refine yG.load xik rfl (fun _ _ => rfl) (v := yI (4)) rfl rfl ?_
        refine yG.ialdF A_hq.1 (v_S_Net_ENDS W (s_S_Net_ENDS W)) rfl rfl (by omega) (by omega) (fun z12 e_z12 i_z12 l_z12 u_z12 => ?_)
        obtain rfl : z12 = 1 := by omega
        refine yG.icmp rfl (t := 70) rfl ⟨by omega, by omega⟩ ⟨by omega, by omega⟩ (fun c13 => ?_) (fun c13 => ?_)
        · have c13 : (1 : Int) ≥ 1 := c13
          refine yG.num (c := 1) rfl (fun _ _ => rfl) (by decide) ?_
          refine yG.ret rfl (fun _ _ => rfl) ?_
          exact (yP.bool (by omega) ⟨⟨1, rfl, by omega, by omega, trivial⟩, A_hq⟩)
        · have c13 : (1 : Int) < 1 := c13
          exfalso; omega
  refine yC.of (M := (xt_X5_readEnds, (7, (4, (6, []))))) rfl rfl (N := 210) (yfuel (by decide)) ?_
  show yG 89 xfts (xcall 89 xfts xpools xms (d + 3)) (xpool xp_RX5) [] xt_X5_readEnds (yP 4 (bQi G [(32768, 2), (32768, 3), (32768, 5), (32768, 6), (32768, 7), (1073741824, 256)] hp 0 1 (fun _ => True))) 210 0 [(0, yR k0), (1, yR k1), (2, yI (4)), (3, yI (p3))] [] hp
  have i_6 := H 5
  refine yG.num (c := -1) rfl (fun _ _ => rfl) (by decide) ?_
  refine yG.store1 xik (L' := [(4, yI ((-1))), (0, yR k0), (1, yR k1), (2, yI (4)), (3, yI (p3))]) rfl (fun _ _ => rfl) rfl rfl ?_
  refine yG.num (c := 0) rfl (fun _ _ => rfl) (by decide) ?_
  refine yG.store1 xik (L' := [(5, yI (0)), (4, yI ((-1))), (0, yR k0), (1, yR k1), (2, yI (4)), (3, yI (p3))]) rfl (fun _ _ => rfl) rfl rfl ?_
  exact yG.mono (yG.sub (i_6 ((-1)) (0)  hp A_hp   (by omega) (by omega) (by omega) (by omega) (by omega) (by omega) (by omega) (by omega) (by omega)) (ySub.cons rfl (ySub.cons rfl (ySub.cons rfl (ySub.cons rfl (ySub.cons rfl (ySub.cons rfl (ySub.nil)))))))) (by omega)
theorem c_Net_readNumbers_4 {hp : xH} (W : bW G) (d : Nat) (hT : zTy G hp) {k0 : Nat} (H_k0 : bRo G 18 k0) {k1 : Nat} (H_k1 : bRo G 15 k1) (p3 : Int) (h3l : 0 ≤ p3) (h3u : p3 ≤ 11) : yC (xcall 89 xfts xpools xms (d + 4)) 166 [yR k0, yR k1, yI (4), yI (p3)] hp (bQi G [(32768, 2), (32768, 3), (32768, 5), (32768, 6), (32768, 7), (1073741824, 256)] hp 0 1 (fun _ => True)) := by
  have A_hp : bAx G [(32768, 2), (32768, 3), (32768, 5), (32768, 6), (32768, 7), (1073741824, 256)] hp hp := bAx.rf hT
  have H : ∀ m : Nat, (∀ a4 : Int, ∀ hq, bAx G [(32768, 2), (32768, 3), (32768, 5), (32768, 6), (32768, 7), (1073741824, 256)] hp hq → 0 ≤ a4 → (-1) ≤ 0 - a4 → 0 ≤ p3 → (-11) ≤ 0 - p3 → 0 - 2 * a4 + 3 < (m : Int) → yG 89 xfts (xcall 89 xfts xpools xms (d + 3)) (xpool xp_RX5) [] xt_X5_readNumbers (yP 4 (bQi G [(32768, 2), (32768, 3), (32768, 5), (32768, 6), (32768, 7), (1073741824, 256)] hp 0 1 (fun _ => True))) (27 * m) 7 [(0, yR k0), (1, yR k1), (2, yI (4)), (3, yI (p3)), (4, yI (a4))] [] hq) := by
    intro m
    induction m with
    | zero =>
      intros; exfalso; omega
    | succ m ih =>
      have i_7 := ih
      clear ih
      intro a4 hq A_hq f0 f1 f2 f3 hm
      refine yG.mono (N := 27 * m + 27) ?_ (by omega)
      rcases (show a4 = 0 ∨ a4 = 1 by omega) with c1 | c1
      · subst c1
        refine yG.load xik rfl (fun _ _ => rfl) (v := yI (0)) rfl rfl ?_
        refine yG.getS (c := 9) rfl rfl ?_
        refine yG.load xik rfl (fun _ _ => rfl) (v := yI (4)) rfl rfl ?_
        refine yG.ialdF A_hq.1 (v_S_Net_SETTABLE W (s_S_Net_SETTABLE W)) rfl rfl (by omega) (by omega) (fun z2 e_z2 i_z2 l_z2 u_z2 => ?_)
        obtain rfl : z2 = 1 := by omega
        refine yG.icmp rfl (t := 57) rfl ⟨by omega, by omega⟩ ⟨by omega, by omega⟩ (fun c3 => ?_) (fun c3 => ?_)
        · have c3 : (0 : Int) ≥ 1 := c3
          exfalso; omega
        · have c3 : (0 : Int) < 1 := c3
          refine yG.load xak rfl (fun _ _ => rfl) (v := yR k1) rfl rfl ?_
          refine yG.invV (rest := []) A_hq.1 (bOb (d_Tape W) H_k1) rfl rfl rfl rfl (c_Tape_next W d A_hq.1 H_k1) (fun rv h4 q9 => ?_)
          obtain ⟨⟨z5, rfl, l_z5, u_z5, R_z5⟩, B_h4⟩ := q9
          have A_h4 := A_hq.tr B_h4 (by decide)
          show yG _ _ _ _ _ _ _ _ _ _ (yI z5 :: []) _
          refine yG.step (pc' := 22) (stk' := []) rfl (fun _ _ => rfl) ?_
          refine yG.load xak rfl (fun _ _ => rfl) (v := yR k0) rfl rfl ?_
          refine yG.load xik rfl (fun _ _ => rfl) (v := yI (4)) rfl rfl ?_
          refine yG.load xik rfl (fun _ _ => rfl) (v := yI (p3)) rfl rfl ?_
          refine yG.load xik rfl (fun _ _ => rfl) (v := yI (0)) rfl rfl ?_
          refine yG.load xak rfl (fun _ _ => rfl) (v := yR k1) rfl rfl ?_
          refine yG.getI A_h4.1 (w_Tape_number W H_k1) rfl rfl (fun z6 e_z6 i_z6 l_z6 u_z6 => ?_)
          refine yG.invV (rest := []) A_h4.1 (bOb (d_Net W) H_k0) rfl rfl rfl rfl (c_Net_allows_4_0 W (d + 1) A_h4.1 H_k0 (p3) (z6) (by omega) (by omega) (by omega) (by omega)) (fun rv hp9 q9 => ?_)
          obtain ⟨⟨z7, rfl, l_z7, u_z7, R_z7⟩, e9⟩ := q9
          rw [e9]
          show yG _ _ _ _ _ _ _ _ _ _ (yI z7 :: []) _
          refine yG.ifz rfl (t := 39) rfl ⟨by omega, by omega⟩ (fun c8 => ?_) (fun c8 => ?_)
          · have c8 : (z7 : Int) ≠ 0 := c8
            refine yG.load xak rfl (fun _ _ => rfl) (v := yR k0) rfl rfl ?_
            refine yG.load xik rfl (fun _ _ => rfl) (v := yI (4)) rfl rfl ?_
            refine yG.load xik rfl (fun _ _ => rfl) (v := yI (p3)) rfl rfl ?_
            refine yG.load xik rfl (fun _ _ => rfl) (v := yI (0)) rfl rfl ?_
            refine yG.load xak rfl (fun _ _ => rfl) (v := yR k1) rfl rfl ?_
            refine yG.getI A_h4.1 (w_Tape_number W H_k1) rfl rfl (fun z9 e_z9 i_z9 l_z9 u_z9 => ?_)
            refine yG.invV (rest := []) A_h4.1 (bOb (d_Net W) H_k0) rfl rfl rfl rfl (c_Net_put_4_0 W (d + 2) A_h4.1 H_k0 (p3) (z9) (by omega) (by omega) (by omega) (by omega)) (fun rv h10 q9 => ?_)
            obtain ⟨⟨rfl, R_z11⟩, B_h10⟩ := q9
            have A_h10 := A_h4.tr B_h10 (by decide)
            have : ys h10 k1 7 = ys h4 k1 7 := B_h10.ys H_k1 (by decide)
            show yG _ _ _ _ _ _ _ _ _ _ [] _
            refine yG.iinc rfl (a := 0) rfl (L' := [(4, yI (0 + 1)), (0, yR k0), (1, yR k1), (2, yI (4)), (3, yI (p3))]) rfl ?_
            refine yG.goto rfl (t := 7) rfl ?_
            exact yG.mono (yG.sub (i_7 (0 + 1)  h10 A_h10   (by omega) (by omega) (by omega) (by omega) (by omega)) (ySub.cons rfl (ySub.cons rfl (ySub.cons rfl (ySub.cons rfl (ySub.cons rfl (ySub.nil))))))) (by omega)
          · have c8 : (z7 : Int) = 0 := c8
            refine yG.num (c := 0) rfl (fun _ _ => rfl) (by decide) ?_
            refine yG.ret rfl (fun _ _ => rfl) ?_
            exact (yP.bool (by omega) ⟨⟨0, rfl, by omega, by omega, trivial⟩, A_h4⟩)
      · subst c1
        refine yG.load xik rfl (fun _ _ => rfl) (v := yI (1)) rfl rfl ?_
        refine yG.getS (c := 9) rfl rfl ?_
        refine yG.load xik rfl (fun _ _ => rfl) (v := yI (4)) rfl rfl ?_
        refine yG.ialdF A_hq.1 (v_S_Net_SETTABLE W (s_S_Net_SETTABLE W)) rfl rfl (by omega) (by omega) (fun z12 e_z12 i_z12 l_z12 u_z12 => ?_)
        obtain rfl : z12 = 1 := by omega
        refine yG.icmp rfl (t := 57) rfl ⟨by omega, by omega⟩ ⟨by omega, by omega⟩ (fun c13 => ?_) (fun c13 => ?_)
        · have c13 : (1 : Int) ≥ 1 := c13
          refine yG.num (c := 1) rfl (fun _ _ => rfl) (by decide) ?_
          refine yG.ret rfl (fun _ _ => rfl) ?_
          exact (yP.bool (by omega) ⟨⟨1, rfl, by omega, by omega, trivial⟩, A_hq⟩)
        · have c13 : (1 : Int) < 1 := c13
          exfalso; omega
  refine yC.of (M := (xt_X5_readNumbers, (5, (4, (6, []))))) rfl rfl (N := 162) (yfuel (by decide)) ?_
  show yG 89 xfts (xcall 89 xfts xpools xms (d + 3)) (xpool xp_RX5) [] xt_X5_readNumbers (yP 4 (bQi G [(32768, 2), (32768, 3), (32768, 5), (32768, 6), (32768, 7), (1073741824, 256)] hp 0 1 (fun _ => True))) 162 0 [(0, yR k0), (1, yR k1), (2, yI (4)), (3, yI (p3))] [] hp
  have i_7 := H 5
  refine yG.getS (c := 8) rfl rfl ?_
  refine yG.load xik rfl (fun _ _ => rfl) (v := yI (4)) rfl rfl ?_
  refine yG.ialdF A_hp.1 (v_S_Net_FIRST_NUMBER W (s_S_Net_FIRST_NUMBER W)) rfl rfl (by omega) (by omega) (fun z1 e_z1 i_z1 l_z1 u_z1 => ?_)
  obtain rfl : z1 = 0 := by omega
  refine yG.store1 xik (L' := [(4, yI (0)), (0, yR k0), (1, yR k1), (2, yI (4)), (3, yI (p3))]) rfl (fun _ _ => rfl) rfl rfl ?_
  exact yG.mono (yG.sub (i_7 (0)  hp A_hp   (by omega) (by omega) (by omega) (by omega) (by omega)) (ySub.cons rfl (ySub.cons rfl (ySub.cons rfl (ySub.cons rfl (ySub.cons rfl (ySub.nil))))))) (by omega)
theorem c_Net_readState {hp : xH} (W : bW G) (d : Nat) (hT : zTy G hp) {k0 : Nat} (H_k0 : bRo G 18 k0) {k1 : Nat} (H_k1 : bRo G 15 k1) (p2 : Int) (h2l : 0 ≤ p2) (h2u : p2 ≤ 23) : yC (xcall 89 xfts xpools xms (d + 4)) 168 [yR k0, yR k1, yI (p2)] hp (bQi G [(32768, 2), (32768, 3), (32768, 5), (32768, 6), (32768, 7), (16777216, 256)] hp 0 1 (fun _ => True)) := by
  have A_hp : bAx G [(32768, 2), (32768, 3), (32768, 5), (32768, 6), (32768, 7), (16777216, 256)] hp hp := bAx.rf hT
  refine yC.of (M := (xt_X5_readState, (4, (4, (6, []))))) rfl rfl (N := 78) (yfuel (by decide)) ?_
  show yG 89 xfts (xcall 89 xfts xpools xms (d + 3)) (xpool xp_RX5) [] xt_X5_readState (yP 4 (bQi G [(32768, 2), (32768, 3), (32768, 5), (32768, 6), (32768, 7), (16777216, 256)] hp 0 1 (fun _ => True))) 78 0 [(0, yR k0), (1, yR k1), (2, yI (p2))] [] hp
  refine yG.load xak rfl (fun _ _ => rfl) (v := yR k1) rfl rfl ?_
  refine yG.invV (rest := []) A_hp.1 (bOb (d_Tape W) H_k1) rfl rfl rfl rfl (c_Tape_next W d A_hp.1 H_k1) (fun rv h1 q9 => ?_)
  obtain ⟨⟨z2, rfl, l_z2, u_z2, R_z2⟩, B_h1⟩ := q9
  have A_h1 := A_hp.tr B_h1 (by decide)
  show yG _ _ _ _ _ _ _ _ _ _ (yI z2 :: []) _
  refine yG.step (pc' := 5) (stk' := []) rfl (fun _ _ => rfl) ?_
  refine yG.load xak rfl (fun _ _ => rfl) (v := yR k1) rfl rfl ?_
  refine yG.invV (rest := []) A_h1.1 (bOb (d_Tape W) H_k1) rfl rfl rfl rfl (c_Tape_key W (d + 2) A_h1.1 H_k1) (fun rv hp9 q9 => ?_)
  obtain ⟨⟨z3, rfl, l_z3, u_z3, R_z3⟩, e9⟩ := q9
  rw [e9]
  show yG _ _ _ _ _ _ _ _ _ _ (yI z3 :: []) _
  refine yG.store1 xik (L' := [(3, yI (z3)), (0, yR k0), (1, yR k1), (2, yI (p2))]) rfl (fun _ _ => rfl) rfl rfl ?_
  refine yG.load xak rfl (fun _ _ => rfl) (v := yR k0) rfl rfl ?_
  refine yG.num (c := 1) rfl (fun _ _ => rfl) (by decide) ?_
  refine yG.load xik rfl (fun _ _ => rfl) (v := yI (p2)) rfl rfl ?_
  refine yG.num (c := 0) rfl (fun _ _ => rfl) (by decide) ?_
  refine yG.load xik rfl (fun _ _ => rfl) (v := yI (z3)) rfl rfl ?_
  refine yG.num (c := 6) rfl (fun _ _ => rfl) (by decide) ?_
  refine yG.icmp rfl (t := 24) rfl ⟨by omega, by omega⟩ ⟨by omega, by omega⟩ (fun c4 => ?_) (fun c4 => ?_)
  · have c4 : (z3 : Int) ≠ 6 := c4
    refine yG.num (c := 0) rfl (fun _ _ => rfl) (by decide) ?_
    refine yG.invV (rest := []) A_h1.1 (bOb (d_Net W) H_k0) rfl rfl rfl rfl (c_Net_put_1_0 W (d + 2) A_h1.1 H_k0 (p2) (0) (by omega) (by omega) (by omega) (by omega)) (fun rv h5 q9 => ?_)
    obtain ⟨⟨rfl, R_z6⟩, B_h5⟩ := q9
    have A_h5 := A_h1.tr B_h5 (by decide)
    show yG _ _ _ _ _ _ _ _ _ _ [] _
    refine yG.load xik rfl (fun _ _ => rfl) (v := yI (z3)) rfl rfl ?_
    refine yG.num (c := 6) rfl (fun _ _ => rfl) (by decide) ?_
    refine yG.icmp rfl (t := 39) rfl ⟨by omega, by omega⟩ ⟨by omega, by omega⟩ (fun c7 => ?_) (fun c7 => ?_)
    · have c7 : (z3 : Int) = 6 := c7
      refine yG.num (c := 1) rfl (fun _ _ => rfl) (by decide) ?_
      refine yG.goto rfl (t := 44) rfl ?_
      refine yG.ret rfl (fun _ _ => rfl) ?_
      exact (yP.bool (by omega) ⟨⟨1, rfl, by omega, by omega, trivial⟩, A_h5⟩)
    · have c7 : (z3 : Int) ≠ 6 := c7
      refine yG.load xik rfl (fun _ _ => rfl) (v := yI (z3)) rfl rfl ?_
      refine yG.num (c := 5) rfl (fun _ _ => rfl) (by decide) ?_
      refine yG.icmp rfl (t := 43) rfl ⟨by omega, by omega⟩ ⟨by omega, by omega⟩ (fun c8 => ?_) (fun c8 => ?_)
      · have c8 : (z3 : Int) ≠ 5 := c8
        refine yG.num (c := 0) rfl (fun _ _ => rfl) (by decide) ?_
        refine yG.ret rfl (fun _ _ => rfl) ?_
        exact (yP.bool (by omega) ⟨⟨0, rfl, by omega, by omega, trivial⟩, A_h5⟩)
      · have c8 : (z3 : Int) = 5 := c8
        refine yG.num (c := 1) rfl (fun _ _ => rfl) (by decide) ?_
        refine yG.goto rfl (t := 44) rfl ?_
        refine yG.ret rfl (fun _ _ => rfl) ?_
        exact (yP.bool (by omega) ⟨⟨1, rfl, by omega, by omega, trivial⟩, A_h5⟩)
  · have c4 : (z3 : Int) = 6 := c4
    refine yG.num (c := 1) rfl (fun _ _ => rfl) (by decide) ?_
    refine yG.goto rfl (t := 25) rfl ?_
    refine yG.invV (rest := []) A_h1.1 (bOb (d_Net W) H_k0) rfl rfl rfl rfl (c_Net_put_1_0 W (d + 2) A_h1.1 H_k0 (p2) (1) (by omega) (by omega) (by omega) (by omega)) (fun rv h9 q9 => ?_)
    obtain ⟨⟨rfl, R_z10⟩, B_h9⟩ := q9
    have A_h9 := A_h1.tr B_h9 (by decide)
    show yG _ _ _ _ _ _ _ _ _ _ [] _
    refine yG.load xik rfl (fun _ _ => rfl) (v := yI (z3)) rfl rfl ?_
    refine yG.num (c := 6) rfl (fun _ _ => rfl) (by decide) ?_
    refine yG.icmp rfl (t := 39) rfl ⟨by omega, by omega⟩ ⟨by omega, by omega⟩ (fun c11 => ?_) (fun c11 => ?_)
    · have c11 : (z3 : Int) = 6 := c11
      refine yG.num (c := 1) rfl (fun _ _ => rfl) (by decide) ?_
      refine yG.goto rfl (t := 44) rfl ?_
      refine yG.ret rfl (fun _ _ => rfl) ?_
      exact (yP.bool (by omega) ⟨⟨1, rfl, by omega, by omega, trivial⟩, A_h9⟩)
    · have c11 : (z3 : Int) ≠ 6 := c11
      exfalso; omega
theorem c_Net_readObject {hp : xH} (W : bW G) (d : Nat) (hT : zTy G hp) {k0 : Nat} (H_k0 : bRo G 18 k0) {k1 : Nat} (H_k1 : bRo G 15 k1) : yC (xcall 89 xfts xpools xms (d + 5)) 167 [yR k0, yR k1] hp (bQi G [(32768, 2), (32768, 3), (32768, 5), (32768, 6), (32768, 7), (4291297280, 256)] hp 0 1 (fun _ => True)) := by
  have A_hp : bAx G [(32768, 2), (32768, 3), (32768, 5), (32768, 6), (32768, 7), (4291297280, 256)] hp hp := bAx.rf hT
  refine yC.of (M := (xt_X5_readObject, (4, (4, (6, []))))) rfl rfl (N := 270) (yfuel (by decide)) ?_
  show yG 89 xfts (xcall 89 xfts xpools xms (d + 4)) (xpool xp_RX5) [] xt_X5_readObject (yP 4 (bQi G [(32768, 2), (32768, 3), (32768, 5), (32768, 6), (32768, 7), (4291297280, 256)] hp 0 1 (fun _ => True))) 270 0 [(0, yR k0), (1, yR k1)] [] hp
  refine yG.load xak rfl (fun _ _ => rfl) (v := yR k1) rfl rfl ?_
  refine yG.invV (rest := []) A_hp.1 (bOb (d_Tape W) H_k1) rfl rfl rfl rfl (c_Tape_key W (d + 3) A_hp.1 H_k1) (fun rv hp9 q9 => ?_)
  obtain ⟨⟨z1, rfl, l_z1, u_z1, R_z1⟩, e9⟩ := q9
  rw [e9]
  show yG _ _ _ _ _ _ _ _ _ _ (yI z1 :: []) _
  refine yG.store1 xik (L' := [(2, yI (z1)), (0, yR k0), (1, yR k1)]) rfl (fun _ _ => rfl) rfl rfl ?_
  refine yG.load xik rfl (fun _ _ => rfl) (v := yI (z1)) rfl rfl ?_
  refine yG.ifz rfl (t := 28) rfl ⟨by omega, by omega⟩ (fun c2 => ?_) (fun c2 => ?_)
  · have c2 : (z1 : Int) < 0 := c2
    refine yG.num (c := 0) rfl (fun _ _ => rfl) (by decide) ?_
    refine yG.ret rfl (fun _ _ => rfl) ?_
    exact (yP.bool (by omega) ⟨⟨0, rfl, by omega, by omega, trivial⟩, A_hp⟩)
  · have c2 : (z1 : Int) ≥ 0 := c2
    refine yG.load xik rfl (fun _ _ => rfl) (v := yI (z1)) rfl rfl ?_
    refine yG.num (c := 5) rfl (fun _ _ => rfl) (by decide) ?_
    refine yG.icmp rfl (t := 28) rfl ⟨by omega, by omega⟩ ⟨by omega, by omega⟩ (fun c3 => ?_) (fun c3 => ?_)
    · have c3 : (z1 : Int) ≥ 5 := c3
      refine yG.num (c := 0) rfl (fun _ _ => rfl) (by decide) ?_
      refine yG.ret rfl (fun _ _ => rfl) ?_
      exact (yP.bool (by omega) ⟨⟨0, rfl, by omega, by omega, trivial⟩, A_hp⟩)
    · have c3 : (z1 : Int) < 5 := c3
      rcases (show z1 = 0 ∨ z1 = 1 ∨ z1 = 2 ∨ z1 = 3 ∨ z1 = 4 by omega) with c4 | c4 | c4 | c4 | c4
      · subst c4
        refine yG.load xak rfl (fun _ _ => rfl) (v := yR k0) rfl rfl ?_
        refine yG.getO A_hp.1 (w_Net_count W H_k0) rfl rfl (fun r5 H_r5 O_r5 q_r5 => ?_)
        refine yG.load xik rfl (fun _ _ => rfl) (v := yI (0)) rfl rfl ?_
        refine yG.ialdF A_hp.1 (v_Net_count W H_r5) rfl rfl (by omega) (by omega) (fun z6 e_z6 i_z6 l_z6 u_z6 => ?_)
        refine yG.getS (c := 1) rfl rfl ?_
        refine yG.load xik rfl (fun _ _ => rfl) (v := yI (0)) rfl rfl ?_
        refine yG.ialdF A_hp.1 (v_S_Net_MOST W (s_S_Net_MOST W)) rfl rfl (by omega) (by omega) (fun z7 e_z7 i_z7 l_z7 u_z7 => ?_)
        obtain rfl : z7 = 16 := by omega
        refine yG.icmp rfl (t := 30) rfl ⟨by omega, by omega⟩ ⟨by omega, by omega⟩ (fun c8 => ?_) (fun c8 => ?_)
        · have c8 : (z6 : Int) < 16 := c8
          refine yG.load xak rfl (fun _ _ => rfl) (v := yR k0) rfl rfl ?_
          refine yG.getS9 A_hp.1 (w_Net_count W H_k0) q_r5 rfl rfl ?_
          refine yG.load xik rfl (fun _ _ => rfl) (v := yI (0)) rfl rfl ?_
          refine yG.ialdF A_hp.1 (v_Net_count W H_r5) rfl rfl (by omega) (by omega) (fun z9 e_z9 i_z9 l_z9 u_z9 => ?_)
          refine yG.store1 xik (L' := [(3, yI (z9)), (2, yI (0)), (0, yR k0), (1, yR k1)]) rfl (fun _ _ => rfl) rfl rfl ?_
          refine yG.load xak rfl (fun _ _ => rfl) (v := yR k1) rfl rfl ?_
          refine yG.invV (rest := []) A_hp.1 (bOb (d_Tape W) H_k1) rfl rfl rfl rfl (c_Tape_next W (d + 1) A_hp.1 H_k1) (fun rv h10 q9 => ?_)
          obtain ⟨⟨z11, rfl, l_z11, u_z11, R_z11⟩, B_h10⟩ := q9
          have A_h10 := A_hp.tr B_h10 (by decide)
          have qq1 : zsl h10 k0 0 = yR r5 := (B_h10.sl H_k0 (by decide)).trans q_r5
          have : ys h10 r5 (0 : Int).toNat = ys hp r5 (0 : Int).toNat := B_h10.ys H_r5 (bNo_ok (by decide) _)
          show yG _ _ _ _ _ _ _ _ _ _ (yI z11 :: []) _
          refine yG.step (pc' := 42) (stk' := []) rfl (fun _ _ => rfl) ?_
          refine yG.load xak rfl (fun _ _ => rfl) (v := yR k1) rfl rfl ?_
          refine yG.invV (rest := []) A_h10.1 (bOb (d_Tape W) H_k1) rfl rfl rfl rfl (c_Tape_isName W (d + 2) A_h10.1 H_k1) (fun rv hp9 q9 => ?_)
          obtain ⟨⟨z12, rfl, l_z12, u_z12, R_z12⟩, e9⟩ := q9
          rw [e9]
          show yG _ _ _ _ _ _ _ _ _ _ (yI z12 :: []) _
          refine yG.ifz rfl (t := 61) rfl ⟨by omega, by omega⟩ (fun c13 => ?_) (fun c13 => ?_)
          · have c13 : (z12 : Int) = 0 := c13
            refine yG.num (c := 0) rfl (fun _ _ => rfl) (by decide) ?_
            refine yG.ret rfl (fun _ _ => rfl) ?_
            exact (yP.bool (by omega) ⟨⟨0, rfl, by omega, by omega, trivial⟩, A_h10⟩)
          · have c13 : (z12 : Int) ≠ 0 := c13
            refine yG.load xak rfl (fun _ _ => rfl) (v := yR k0) rfl rfl ?_
            refine yG.load xak rfl (fun _ _ => rfl) (v := yR k1) rfl rfl ?_
            refine yG.getJ A_h10.1 (w_Tape_word W H_k1) rfl rfl (fun z14 e_z14 i_z14 l_z14 u_z14 => ?_)
            refine yG.invV (rest := []) A_h10.1 (bOb (d_Net W) H_k0) rfl rfl rfl rfl (c_Net_named W (d + 3) A_h10.1 H_k0 (z14) (by omega) (by omega)) (fun rv hp9 q9 => ?_)
            obtain ⟨⟨z15, rfl, l_z15, u_z15, R_z15⟩, e9⟩ := q9
            rw [e9]
            show yG _ _ _ _ _ _ _ _ _ _ (yI z15 :: []) _
            refine yG.num (c := -1) rfl (fun _ _ => rfl) (by decide) ?_
            refine yG.icmp rfl (t := 63) rfl ⟨by omega, by omega⟩ ⟨by omega, by omega⟩ (fun c16 => ?_) (fun c16 => ?_)
            · have c16 : (z15 : Int) = (-1) := c16
              refine yG.load xak rfl (fun _ _ => rfl) (v := yR k0) rfl rfl ?_
              refine yG.getO A_h10.1 (w_Net_names W H_k0) rfl rfl (fun r17 H_r17 O_r17 q_r17 => ?_)
              refine yG.load xik rfl (fun _ _ => rfl) (v := yI (0)) rfl rfl ?_
              refine yG.aaldO (r := 23) A_h10.1 (v_Net_names W H_r17) rfl rfl rfl (by omega) (by omega) (fun r18 H_r18 q_r18 => ?_)
              refine yG.load xik rfl (fun _ _ => rfl) (v := yI (z9)) rfl rfl ?_
              refine yG.load xak rfl (fun _ _ => rfl) (v := yR k1) rfl rfl ?_
              refine yG.getJ A_h10.1 (w_Tape_word W H_k1) rfl rfl (fun z19 e_z19 i_z19 l_z19 u_z19 => ?_)
              refine yG.last A_h10.1 (v_Net_names0 W H_r18) (W.2.1 _ _ H_r18 (by decide) (by decide)) rfl (by omega) (by omega) ⟨by omega, by omega⟩ (by omega) (by omega) (fun h20 T_h20 b_h20 f_h20 y_h20 => ?_)
              have A_h20 := A_h10.put T_h20 b_h20 f_h20 H_r18 (bAll_ok (by decide) _)
              have qq2 : zsl h20 k0 0 = yR r5 := ((f_h20 k0 0).trans (if_neg (fun e => (bRo.ne H_k0 H_r18 (by decide)) e.1))).trans qq1
              have : ys h20 r5 (0 : Int).toNat = ys h10 r5 (0 : Int).toNat := (y_h20 r5 (0 : Int).toNat).trans (if_neg (fun e => (bRo.ne H_r5 H_r18 (by decide)) e.1))
              have : ys h20 k1 6 = ys h10 k1 6 := (y_h20 k1 6).trans (if_neg (fun e => (bRo.ne H_k1 H_r18 (by decide)) e.1))
              refine yG.load xak rfl (fun _ _ => rfl) (v := yR k0) rfl rfl ?_
              refine yG.load xik rfl (fun _ _ => rfl) (v := yI (0)) rfl rfl ?_
              refine yG.load xik rfl (fun _ _ => rfl) (v := yI (z9)) rfl rfl ?_
              refine yG.invV (rest := []) A_h20.1 (bOb (d_Net W) H_k0) rfl rfl rfl rfl (c_Net_blank_0 W (d + 2) A_h20.1 H_k0 (z9) (by omega) (by omega)) (fun rv h21 q9 => ?_)
              obtain ⟨⟨rfl, R_z22⟩, B_h21⟩ := q9
              have A_h21 := A_h20.tr B_h21 (by decide)
              have qq3 : zsl h21 k0 0 = yR r5 := (B_h21.sl H_k0 (by decide)).trans qq2
              have : ys h21 r5 (0 : Int).toNat = ys h20 r5 (0 : Int).toNat := B_h21.ys H_r5 (bNo_ok (by decide) _)
              have : ys h21 k1 6 = ys h20 k1 6 := B_h21.ys H_k1 (by decide)
              show yG _ _ _ _ _ _ _ _ _ _ [] _
              refine yG.load xak rfl (fun _ _ => rfl) (v := yR k0) rfl rfl ?_
              refine yG.load xak rfl (fun _ _ => rfl) (v := yR k1) rfl rfl ?_
              refine yG.load xik rfl (fun _ _ => rfl) (v := yI (0)) rfl rfl ?_
              refine yG.load xik rfl (fun _ _ => rfl) (v := yI (z9)) rfl rfl ?_
              refine yG.invV (rest := []) A_h21.1 (bOb (d_Net W) H_k0) rfl rfl rfl rfl (c_Net_readEnds_0 W (d + 3) A_h21.1 H_k0 H_k1 (z9) (by omega) (by omega)) (fun rv hp9 q9 => ?_)
              obtain ⟨⟨z23, rfl, l_z23, u_z23, R_z23⟩, e9⟩ := q9
              rw [e9]
              show yG _ _ _ _ _ _ _ _ _ _ (yI z23 :: []) _
              refine yG.ifz rfl (t := 115) rfl ⟨by omega, by omega⟩ (fun c24 => ?_) (fun c24 => ?_)
              · have c24 : (z23 : Int) = 0 := c24
                exfalso; omega
              · have c24 : (z23 : Int) ≠ 0 := c24
                refine yG.load xik rfl (fun _ _ => rfl) (v := yI (0)) rfl rfl ?_
                refine yG.num (c := 1) rfl (fun _ _ => rfl) (by decide) ?_
                refine yG.icmp rfl (t := 105) rfl ⟨by omega, by omega⟩ ⟨by omega, by omega⟩ (fun c25 => ?_) (fun c25 => ?_)
                · have c25 : (0 : Int) ≠ 1 := c25
                  refine yG.load xak rfl (fun _ _ => rfl) (v := yR k0) rfl rfl ?_
                  refine yG.load xak rfl (fun _ _ => rfl) (v := yR k1) rfl rfl ?_
                  refine yG.load xik rfl (fun _ _ => rfl) (v := yI (0)) rfl rfl ?_
                  refine yG.load xik rfl (fun _ _ => rfl) (v := yI (z9)) rfl rfl ?_
                  refine yG.invV (rest := []) A_h21.1 (bOb (d_Net W) H_k0) rfl rfl rfl rfl (c_Net_readNumbers_0 W (d + 3) A_h21.1 H_k0 H_k1 (z9) (by omega) (by omega)) (fun rv hp9 q9 => ?_)
                  obtain ⟨⟨z26, rfl, l_z26, u_z26, R_z26⟩, e9⟩ := q9
                  rw [e9]
                  show yG _ _ _ _ _ _ _ _ _ _ (yI z26 :: []) _
                  refine yG.ifz rfl (t := 117) rfl ⟨by omega, by omega⟩ (fun c27 => ?_) (fun c27 => ?_)
                  · have c27 : (z26 : Int) ≠ 0 := c27
                    refine yG.load xik rfl (fun _ _ => rfl) (v := yI (0)) rfl rfl ?_
                    refine yG.num (c := 3) rfl (fun _ _ => rfl) (by decide) ?_
                    refine yG.icmp rfl (t := 136) rfl ⟨by omega, by omega⟩ ⟨by omega, by omega⟩ (fun c28 => ?_) (fun c28 => ?_)
                    · have c28 : (0 : Int) ≠ 3 := c28
                      refine yG.load xak rfl (fun _ _ => rfl) (v := yR k1) rfl rfl ?_
                      refine yG.invV (rest := []) A_h21.1 (bOb (d_Tape W) H_k1) rfl rfl rfl rfl (c_Tape_next W (d + 1) A_h21.1 H_k1) (fun rv h29 q9 => ?_)
                      obtain ⟨⟨z30, rfl, l_z30, u_z30, R_z30⟩, B_h29⟩ := q9
                      have A_h29 := A_h21.tr B_h29 (by decide)
                      have qq4 : zsl h29 k0 0 = yR r5 := (B_h29.sl H_k0 (by decide)).trans qq3
                      have : ys h29 r5 (0 : Int).toNat = ys h21 r5 (0 : Int).toNat := B_h29.ys H_r5 (bNo_ok (by decide) _)
                      show yG _ _ _ _ _ _ _ _ _ _ (yI z30 :: []) _
                      refine yG.step (pc' := 141) (stk' := []) rfl (fun _ _ => rfl) ?_
                      refine yG.load xak rfl (fun _ _ => rfl) (v := yR k0) rfl rfl ?_
                      refine yG.getS9 A_h29.1 (w_Net_count W H_k0) qq4 rfl rfl ?_
                      refine yG.load xik rfl (fun _ _ => rfl) (v := yI (0)) rfl rfl ?_
                      refine yG.step (pc' := 147) (stk' := [yI (0), yR r5, yI (0), yR r5]) rfl (fun _ _ => rfl) ?_
                      refine yG.ialdF A_h29.1 (v_Net_count W H_r5) rfl rfl (by omega) (by omega) (fun z31 e_z31 i_z31 l_z31 u_z31 => ?_)
                      refine yG.num (c := 1) rfl (fun _ _ => rfl) (by decide) ?_
                      refine yG.iadd rfl ?_
                      refine yG.iastF A_h29.1 (v_Net_count W H_r5) rfl (W.2.1 _ _ H_r5 (by decide) (by decide)) rfl (by omega) (by omega) ⟨by omega, by omega⟩ (by omega) (by omega) (fun h32 T_h32 b_h32 f_h32 y_h32 => ?_)
                      have A_h32 := A_h29.put T_h32 b_h32 f_h32 H_r5 (bAll_ok (by decide) _)
                      have qq5 : zsl h32 k0 0 = yR r5 := ((f_h32 k0 0).trans (if_neg (fun e => (bRo.ne H_k0 H_r5 (by decide)) e.1))).trans qq4
                      have : ys h32 r5 (0 : Int).toNat = z31 + 1 := (y_h32 r5 _).trans (if_pos ⟨rfl, rfl⟩)
                      refine yG.load xak rfl (fun _ _ => rfl) (v := yR k1) rfl rfl ?_
                      refine yG.num (c := 59) rfl (fun _ _ => rfl) (by decide) ?_
                      refine yG.invV (rest := []) A_h32.1 (bOb (d_Tape W) H_k1) rfl rfl rfl rfl (c_Tape_isSign W (d + 3) A_h32.1 H_k1 (59) (by omega) (by omega)) (fun rv hp9 q9 => ?_)
                      obtain ⟨⟨z33, rfl, l_z33, u_z33, R_z33⟩, e9⟩ := q9
                      rw [e9]
                      show yG _ _ _ _ _ _ _ _ _ _ (yI z33 :: []) _
                      refine yG.ret rfl (fun _ _ => rfl) ?_
                      exact (yP.bool (by omega) ⟨⟨z33, rfl, by omega, by omega, trivial⟩, A_h32⟩)
                    · have c28 : (0 : Int) = 3 := c28
                      exfalso; omega
                  · have c27 : (z26 : Int) = 0 := c27
                    exfalso; omega
                · have c25 : (0 : Int) = 1 := c25
                  exfalso; omega
            · have c16 : (z15 : Int) ≠ (-1) := c16
              refine yG.num (c := 0) rfl (fun _ _ => rfl) (by decide) ?_
              refine yG.ret rfl (fun _ _ => rfl) ?_
              exact (yP.bool (by omega) ⟨⟨0, rfl, by omega, by omega, trivial⟩, A_h10⟩)
        · have c8 : (z6 : Int) ≥ 16 := c8
          refine yG.num (c := 0) rfl (fun _ _ => rfl) (by decide) ?_
          refine yG.ret rfl (fun _ _ => rfl) ?_
          exact (yP.bool (by omega) ⟨⟨0, rfl, by omega, by omega, trivial⟩, A_hp⟩)
      · subst c4
        refine yG.load xak rfl (fun _ _ => rfl) (v := yR k0) rfl rfl ?_
        refine yG.getO A_hp.1 (w_Net_count W H_k0) rfl rfl (fun r34 H_r34 O_r34 q_r34 => ?_)
        refine yG.load xik rfl (fun _ _ => rfl) (v := yI (1)) rfl rfl ?_
        refine yG.ialdF A_hp.1 (v_Net_count W H_r34) rfl rfl (by omega) (by omega) (fun z35 e_z35 i_z35 l_z35 u_z35 => ?_)
        refine yG.getS (c := 1) rfl rfl ?_
        refine yG.load xik rfl (fun _ _ => rfl) (v := yI (1)) rfl rfl ?_
        refine yG.ialdF A_hp.1 (v_S_Net_MOST W (s_S_Net_MOST W)) rfl rfl (by omega) (by omega) (fun z36 e_z36 i_z36 l_z36 u_z36 => ?_)
        obtain rfl : z36 = 24 := by omega
        refine yG.icmp rfl (t := 30) rfl ⟨by omega, by omega⟩ ⟨by omega, by omega⟩ (fun c37 => ?_) (fun c37 => ?_)
        · have c37 : (z35 : Int) < 24 := c37
          refine yG.load xak rfl (fun _ _ => rfl) (v := yR k0) rfl rfl ?_
          refine yG.getS9 A_hp.1 (w_Net_count W H_k0) q_r34 rfl rfl ?_
          refine yG.load xik rfl (fun _ _ => rfl) (v := yI (1)) rfl rfl ?_
          refine yG.ialdF A_hp.1 (v_Net_count W H_r34) rfl rfl (by omega) (by omega) (fun z38 e_z38 i_z38 l_z38 u_z38 => ?_)
          refine yG.store1 xik (L' := [(3, yI (z38)), (2, yI (1)), (0, yR k0), (1, yR k1)]) rfl (fun _ _ => rfl) rfl rfl ?_
          refine yG.load xak rfl (fun _ _ => rfl) (v := yR k1) rfl rfl ?_
          refine yG.invV (rest := []) A_hp.1 (bOb (d_Tape W) H_k1) rfl rfl rfl rfl (c_Tape_next W (d + 1) A_hp.1 H_k1) (fun rv h39 q9 => ?_)
          obtain ⟨⟨z40, rfl, l_z40, u_z40, R_z40⟩, B_h39⟩ := q9
          have A_h39 := A_hp.tr B_h39 (by decide)
          have qq6 : zsl h39 k0 0 = yR r34 := (B_h39.sl H_k0 (by decide)).trans q_r34
          have : ys h39 r34 (1 : Int).toNat = ys hp r34 (1 : Int).toNat := B_h39.ys H_r34 (bNo_ok (by decide) _)
          show yG _ _ _ _ _ _ _ _ _ _ (yI z40 :: []) _
          refine yG.step (pc' := 42) (stk' := []) rfl (fun _ _ => rfl) ?_
          refine yG.load xak rfl (fun _ _ => rfl) (v := yR k1) rfl rfl ?_
          refine yG.invV (rest := []) A_h39.1 (bOb (d_Tape W) H_k1) rfl rfl rfl rfl (c_Tape_isName W (d + 2) A_h39.1 H_k1) (fun rv hp9 q9 => ?_)
          obtain ⟨⟨z41, rfl, l_z41, u_z41, R_z41⟩, e9⟩ := q9
          rw [e9]
          show yG _ _ _ _ _ _ _ _ _ _ (yI z41 :: []) _
          refine yG.ifz rfl (t := 61) rfl ⟨by omega, by omega⟩ (fun c42 => ?_) (fun c42 => ?_)
          · have c42 : (z41 : Int) = 0 := c42
            refine yG.num (c := 0) rfl (fun _ _ => rfl) (by decide) ?_
            refine yG.ret rfl (fun _ _ => rfl) ?_
            exact (yP.bool (by omega) ⟨⟨0, rfl, by omega, by omega, trivial⟩, A_h39⟩)
          · have c42 : (z41 : Int) ≠ 0 := c42
            refine yG.load xak rfl (fun _ _ => rfl) (v := yR k0) rfl rfl ?_
            refine yG.load xak rfl (fun _ _ => rfl) (v := yR k1) rfl rfl ?_
            refine yG.getJ A_h39.1 (w_Tape_word W H_k1) rfl rfl (fun z43 e_z43 i_z43 l_z43 u_z43 => ?_)
            refine yG.invV (rest := []) A_h39.1 (bOb (d_Net W) H_k0) rfl rfl rfl rfl (c_Net_named W (d + 3) A_h39.1 H_k0 (z43) (by omega) (by omega)) (fun rv hp9 q9 => ?_)
            obtain ⟨⟨z44, rfl, l_z44, u_z44, R_z44⟩, e9⟩ := q9
            rw [e9]
            show yG _ _ _ _ _ _ _ _ _ _ (yI z44 :: []) _
            refine yG.num (c := -1) rfl (fun _ _ => rfl) (by decide) ?_
            refine yG.icmp rfl (t := 63) rfl ⟨by omega, by omega⟩ ⟨by omega, by omega⟩ (fun c45 => ?_) (fun c45 => ?_)
            · have c45 : (z44 : Int) = (-1) := c45
              refine yG.load xak rfl (fun _ _ => rfl) (v := yR k0) rfl rfl ?_
              refine yG.getO A_h39.1 (w_Net_names W H_k0) rfl rfl (fun r46 H_r46 O_r46 q_r46 => ?_)
              refine yG.load xik rfl (fun _ _ => rfl) (v := yI (1)) rfl rfl ?_
              refine yG.aaldO (r := 25) A_h39.1 (v_Net_names W H_r46) rfl rfl rfl (by omega) (by omega) (fun r47 H_r47 q_r47 => ?_)
              refine yG.load xik rfl (fun _ _ => rfl) (v := yI (z38)) rfl rfl ?_
              refine yG.load xak rfl (fun _ _ => rfl) (v := yR k1) rfl rfl ?_
              refine yG.getJ A_h39.1 (w_Tape_word W H_k1) rfl rfl (fun z48 e_z48 i_z48 l_z48 u_z48 => ?_)
              refine yG.last A_h39.1 (v_Net_names1 W H_r47) (W.2.1 _ _ H_r47 (by decide) (by decide)) rfl (by omega) (by omega) ⟨by omega, by omega⟩ (by omega) (by omega) (fun h49 T_h49 b_h49 f_h49 y_h49 => ?_)
              have A_h49 := A_h39.put T_h49 b_h49 f_h49 H_r47 (bAll_ok (by decide) _)
              have qq7 : zsl h49 k0 0 = yR r34 := ((f_h49 k0 0).trans (if_neg (fun e => (bRo.ne H_k0 H_r47 (by decide)) e.1))).trans qq6
              have : ys h49 r34 (1 : Int).toNat = ys h39 r34 (1 : Int).toNat := (y_h49 r34 (1 : Int).toNat).trans (if_neg (fun e => (bRo.ne H_r34 H_r47 (by decide)) e.1))
              have : ys h49 k1 6 = ys h39 k1 6 := (y_h49 k1 6).trans (if_neg (fun e => (bRo.ne H_k1 H_r47 (by decide)) e.1))
              refine yG.load xak rfl (fun _ _ => rfl) (v := yR k0) rfl rfl ?_
              refine yG.load xik rfl (fun _ _ => rfl) (v := yI (1)) rfl rfl ?_
              refine yG.load xik rfl (fun _ _ => rfl) (v := yI (z38)) rfl rfl ?_
              refine yG.invV (rest := []) A_h49.1 (bOb (d_Net W) H_k0) rfl rfl rfl rfl (c_Net_blank_1 W (d + 2) A_h49.1 H_k0 (z38) (by omega) (by omega)) (fun rv h50 q9 => ?_)
              obtain ⟨⟨rfl, R_z51⟩, B_h50⟩ := q9
              have A_h50 := A_h49.tr B_h50 (by decide)
              have qq8 : zsl h50 k0 0 = yR r34 := (B_h50.sl H_k0 (by decide)).trans qq7
              have : ys h50 r34 (1 : Int).toNat = ys h49 r34 (1 : Int).toNat := B_h50.ys H_r34 (bNo_ok (by decide) _)
              have : ys h50 k1 6 = ys h49 k1 6 := B_h50.ys H_k1 (by decide)
              show yG _ _ _ _ _ _ _ _ _ _ [] _
              refine yG.load xak rfl (fun _ _ => rfl) (v := yR k0) rfl rfl ?_
              refine yG.load xak rfl (fun _ _ => rfl) (v := yR k1) rfl rfl ?_
              refine yG.load xik rfl (fun _ _ => rfl) (v := yI (1)) rfl rfl ?_
              refine yG.load xik rfl (fun _ _ => rfl) (v := yI (z38)) rfl rfl ?_
              refine yG.invV (rest := []) A_h50.1 (bOb (d_Net W) H_k0) rfl rfl rfl rfl (c_Net_readEnds_1 W d A_h50.1 H_k0 H_k1 (z38) (by omega) (by omega)) (fun rv h52 q9 => ?_)
              obtain ⟨⟨z53, rfl, l_z53, u_z53, R_z53⟩, B_h52⟩ := q9
              have A_h52 := A_h50.tr B_h52 (by decide)
              have qq9 : zsl h52 k0 0 = yR r34 := (B_h52.sl H_k0 (by decide)).trans qq8
              have : ys h52 r34 (1 : Int).toNat = ys h50 r34 (1 : Int).toNat := B_h52.ys H_r34 (bNo_ok (by decide) _)
              show yG _ _ _ _ _ _ _ _ _ _ (yI z53 :: []) _
              refine yG.ifz rfl (t := 115) rfl ⟨by omega, by omega⟩ (fun c54 => ?_) (fun c54 => ?_)
              · have c54 : (z53 : Int) = 0 := c54
                refine yG.num (c := 0) rfl (fun _ _ => rfl) (by decide) ?_
                refine yG.ret rfl (fun _ _ => rfl) ?_
                exact (yP.bool (by omega) ⟨⟨0, rfl, by omega, by omega, trivial⟩, A_h52⟩)
              · have c54 : (z53 : Int) ≠ 0 := c54
                refine yG.load xik rfl (fun _ _ => rfl) (v := yI (1)) rfl rfl ?_
                refine yG.num (c := 1) rfl (fun _ _ => rfl) (by decide) ?_
                refine yG.icmp rfl (t := 105) rfl ⟨by omega, by omega⟩ ⟨by omega, by omega⟩ (fun c55 => ?_) (fun c55 => ?_)
                · have c55 : (1 : Int) ≠ 1 := c55
                  exfalso; omega
                · have c55 : (1 : Int) = 1 := c55
                  refine yG.load xak rfl (fun _ _ => rfl) (v := yR k0) rfl rfl ?_
                  refine yG.load xak rfl (fun _ _ => rfl) (v := yR k1) rfl rfl ?_
                  refine yG.load xik rfl (fun _ _ => rfl) (v := yI (z38)) rfl rfl ?_
                  refine yG.invV (rest := []) A_h52.1 (bOb (d_Net W) H_k0) rfl rfl rfl rfl (c_Net_readState W d A_h52.1 H_k0 H_k1 (z38) (by omega) (by omega)) (fun rv h56 q9 => ?_)
                  obtain ⟨⟨z57, rfl, l_z57, u_z57, R_z57⟩, B_h56⟩ := q9
                  have A_h56 := A_h52.tr B_h56 (by decide)
                  have qq10 : zsl h56 k0 0 = yR r34 := (B_h56.sl H_k0 (by decide)).trans qq9
                  have : ys h56 r34 (1 : Int).toNat = ys h52 r34 (1 : Int).toNat := B_h56.ys H_r34 (bNo_ok (by decide) _)
                  show yG _ _ _ _ _ _ _ _ _ _ (yI z57 :: []) _
                  refine yG.ifz rfl (t := 115) rfl ⟨by omega, by omega⟩ (fun c58 => ?_) (fun c58 => ?_)
                  · have c58 : (z57 : Int) = 0 := c58
                    refine yG.num (c := 0) rfl (fun _ _ => rfl) (by decide) ?_
                    refine yG.ret rfl (fun _ _ => rfl) ?_
                    exact (yP.bool (by omega) ⟨⟨0, rfl, by omega, by omega, trivial⟩, A_h56⟩)
                  · have c58 : (z57 : Int) ≠ 0 := c58
                    refine yG.load xak rfl (fun _ _ => rfl) (v := yR k0) rfl rfl ?_
                    refine yG.load xak rfl (fun _ _ => rfl) (v := yR k1) rfl rfl ?_
                    refine yG.load xik rfl (fun _ _ => rfl) (v := yI (1)) rfl rfl ?_
                    refine yG.load xik rfl (fun _ _ => rfl) (v := yI (z38)) rfl rfl ?_
                    refine yG.invV (rest := []) A_h56.1 (bOb (d_Net W) H_k0) rfl rfl rfl rfl (c_Net_readNumbers_1 W d A_h56.1 H_k0 H_k1 (z38) (by omega) (by omega)) (fun rv h59 q9 => ?_)
                    obtain ⟨⟨z60, rfl, l_z60, u_z60, R_z60⟩, B_h59⟩ := q9
                    have A_h59 := A_h56.tr B_h59 (by decide)
                    have qq11 : zsl h59 k0 0 = yR r34 := (B_h59.sl H_k0 (by decide)).trans qq10
                    have : ys h59 r34 (1 : Int).toNat = ys h56 r34 (1 : Int).toNat := B_h59.ys H_r34 (bNo_ok (by decide) _)
                    show yG _ _ _ _ _ _ _ _ _ _ (yI z60 :: []) _
                    refine yG.ifz rfl (t := 117) rfl ⟨by omega, by omega⟩ (fun c61 => ?_) (fun c61 => ?_)
                    · have c61 : (z60 : Int) ≠ 0 := c61
                      refine yG.load xik rfl (fun _ _ => rfl) (v := yI (1)) rfl rfl ?_
                      refine yG.num (c := 3) rfl (fun _ _ => rfl) (by decide) ?_
                      refine yG.icmp rfl (t := 136) rfl ⟨by omega, by omega⟩ ⟨by omega, by omega⟩ (fun c62 => ?_) (fun c62 => ?_)
                      · have c62 : (1 : Int) ≠ 3 := c62
                        refine yG.load xak rfl (fun _ _ => rfl) (v := yR k1) rfl rfl ?_
                        refine yG.invV (rest := []) A_h59.1 (bOb (d_Tape W) H_k1) rfl rfl rfl rfl (c_Tape_next W (d + 1) A_h59.1 H_k1) (fun rv h63 q9 => ?_)
                        obtain ⟨⟨z64, rfl, l_z64, u_z64, R_z64⟩, B_h63⟩ := q9
                        have A_h63 := A_h59.tr B_h63 (by decide)
                        have qq12 : zsl h63 k0 0 = yR r34 := (B_h63.sl H_k0 (by decide)).trans qq11
                        have : ys h63 r34 (1 : Int).toNat = ys h59 r34 (1 : Int).toNat := B_h63.ys H_r34 (bNo_ok (by decide) _)
                        show yG _ _ _ _ _ _ _ _ _ _ (yI z64 :: []) _
                        refine yG.step (pc' := 141) (stk' := []) rfl (fun _ _ => rfl) ?_
                        refine yG.load xak rfl (fun _ _ => rfl) (v := yR k0) rfl rfl ?_
                        refine yG.getS9 A_h63.1 (w_Net_count W H_k0) qq12 rfl rfl ?_
                        refine yG.load xik rfl (fun _ _ => rfl) (v := yI (1)) rfl rfl ?_
                        refine yG.step (pc' := 147) (stk' := [yI (1), yR r34, yI (1), yR r34]) rfl (fun _ _ => rfl) ?_
                        refine yG.ialdF A_h63.1 (v_Net_count W H_r34) rfl rfl (by omega) (by omega) (fun z65 e_z65 i_z65 l_z65 u_z65 => ?_)
                        refine yG.num (c := 1) rfl (fun _ _ => rfl) (by decide) ?_
                        refine yG.iadd rfl ?_
                        refine yG.iastF A_h63.1 (v_Net_count W H_r34) rfl (W.2.1 _ _ H_r34 (by decide) (by decide)) rfl (by omega) (by omega) ⟨by omega, by omega⟩ (by omega) (by omega) (fun h66 T_h66 b_h66 f_h66 y_h66 => ?_)
                        have A_h66 := A_h63.put T_h66 b_h66 f_h66 H_r34 (bAll_ok (by decide) _)
                        have qq13 : zsl h66 k0 0 = yR r34 := ((f_h66 k0 0).trans (if_neg (fun e => (bRo.ne H_k0 H_r34 (by decide)) e.1))).trans qq12
                        have : ys h66 r34 (1 : Int).toNat = z65 + 1 := (y_h66 r34 _).trans (if_pos ⟨rfl, rfl⟩)
                        refine yG.load xak rfl (fun _ _ => rfl) (v := yR k1) rfl rfl ?_
                        refine yG.num (c := 59) rfl (fun _ _ => rfl) (by decide) ?_
                        refine yG.invV (rest := []) A_h66.1 (bOb (d_Tape W) H_k1) rfl rfl rfl rfl (c_Tape_isSign W (d + 3) A_h66.1 H_k1 (59) (by omega) (by omega)) (fun rv hp9 q9 => ?_)
                        obtain ⟨⟨z67, rfl, l_z67, u_z67, R_z67⟩, e9⟩ := q9
                        rw [e9]
                        show yG _ _ _ _ _ _ _ _ _ _ (yI z67 :: []) _
                        refine yG.ret rfl (fun _ _ => rfl) ?_
                        exact (yP.bool (by omega) ⟨⟨z67, rfl, by omega, by omega, trivial⟩, A_h66⟩)
                      · have c62 : (1 : Int) = 3 := c62
                        exfalso; omega
                    · have c61 : (z60 : Int) = 0 := c61
                      refine yG.num (c := 0) rfl (fun _ _ => rfl) (by decide) ?_
                      refine yG.ret rfl (fun _ _ => rfl) ?_
                      exact (yP.bool (by omega) ⟨⟨0, rfl, by omega, by omega, trivial⟩, A_h59⟩)
            · have c45 : (z44 : Int) ≠ (-1) := c45
              refine yG.num (c := 0) rfl (fun _ _ => rfl) (by decide) ?_
              refine yG.ret rfl (fun _ _ => rfl) ?_
              exact (yP.bool (by omega) ⟨⟨0, rfl, by omega, by omega, trivial⟩, A_h39⟩)
        · have c37 : (z35 : Int) ≥ 24 := c37
          refine yG.num (c := 0) rfl (fun _ _ => rfl) (by decide) ?_
          refine yG.ret rfl (fun _ _ => rfl) ?_
          exact (yP.bool (by omega) ⟨⟨0, rfl, by omega, by omega, trivial⟩, A_hp⟩)
      · subst c4
        refine yG.load xak rfl (fun _ _ => rfl) (v := yR k0) rfl rfl ?_
        refine yG.getO A_hp.1 (w_Net_count W H_k0) rfl rfl (fun r68 H_r68 O_r68 q_r68 => ?_)
        refine yG.load xik rfl (fun _ _ => rfl) (v := yI (2)) rfl rfl ?_
        refine yG.ialdF A_hp.1 (v_Net_count W H_r68) rfl rfl (by omega) (by omega) (fun z69 e_z69 i_z69 l_z69 u_z69 => ?_)
        refine yG.getS (c := 1) rfl rfl ?_
        refine yG.load xik rfl (fun _ _ => rfl) (v := yI (2)) rfl rfl ?_
        refine yG.ialdF A_hp.1 (v_S_Net_MOST W (s_S_Net_MOST W)) rfl rfl (by omega) (by omega) (fun z70 e_z70 i_z70 l_z70 u_z70 => ?_)
        obtain rfl : z70 = 20 := by omega
        refine yG.icmp rfl (t := 30) rfl ⟨by omega, by omega⟩ ⟨by omega, by omega⟩ (fun c71 => ?_) (fun c71 => ?_)
        · have c71 : (z69 : Int) < 20 := c71
          refine yG.load xak rfl (fun _ _ => rfl) (v := yR k0) rfl rfl ?_
          refine yG.getS9 A_hp.1 (w_Net_count W H_k0) q_r68 rfl rfl ?_
          refine yG.load xik rfl (fun _ _ => rfl) (v := yI (2)) rfl rfl ?_
          refine yG.ialdF A_hp.1 (v_Net_count W H_r68) rfl rfl (by omega) (by omega) (fun z72 e_z72 i_z72 l_z72 u_z72 => ?_)
          refine yG.store1 xik (L' := [(3, yI (z72)), (2, yI (2)), (0, yR k0), (1, yR k1)]) rfl (fun _ _ => rfl) rfl rfl ?_
          refine yG.load xak rfl (fun _ _ => rfl) (v := yR k1) rfl rfl ?_
          refine yG.invV (rest := []) A_hp.1 (bOb (d_Tape W) H_k1) rfl rfl rfl rfl (c_Tape_next W (d + 1) A_hp.1 H_k1) (fun rv h73 q9 => ?_)
          obtain ⟨⟨z74, rfl, l_z74, u_z74, R_z74⟩, B_h73⟩ := q9
          have A_h73 := A_hp.tr B_h73 (by decide)
          have qq14 : zsl h73 k0 0 = yR r68 := (B_h73.sl H_k0 (by decide)).trans q_r68
          have : ys h73 r68 (2 : Int).toNat = ys hp r68 (2 : Int).toNat := B_h73.ys H_r68 (bNo_ok (by decide) _)
          show yG _ _ _ _ _ _ _ _ _ _ (yI z74 :: []) _
          refine yG.step (pc' := 42) (stk' := []) rfl (fun _ _ => rfl) ?_
          refine yG.load xak rfl (fun _ _ => rfl) (v := yR k1) rfl rfl ?_
          refine yG.invV (rest := []) A_h73.1 (bOb (d_Tape W) H_k1) rfl rfl rfl rfl (c_Tape_isName W (d + 2) A_h73.1 H_k1) (fun rv hp9 q9 => ?_)
          obtain ⟨⟨z75, rfl, l_z75, u_z75, R_z75⟩, e9⟩ := q9
          rw [e9]
          show yG _ _ _ _ _ _ _ _ _ _ (yI z75 :: []) _
          refine yG.ifz rfl (t := 61) rfl ⟨by omega, by omega⟩ (fun c76 => ?_) (fun c76 => ?_)
          · have c76 : (z75 : Int) = 0 := c76
            refine yG.num (c := 0) rfl (fun _ _ => rfl) (by decide) ?_
            refine yG.ret rfl (fun _ _ => rfl) ?_
            exact (yP.bool (by omega) ⟨⟨0, rfl, by omega, by omega, trivial⟩, A_h73⟩)
          · have c76 : (z75 : Int) ≠ 0 := c76
            refine yG.load xak rfl (fun _ _ => rfl) (v := yR k0) rfl rfl ?_
            refine yG.load xak rfl (fun _ _ => rfl) (v := yR k1) rfl rfl ?_
            refine yG.getJ A_h73.1 (w_Tape_word W H_k1) rfl rfl (fun z77 e_z77 i_z77 l_z77 u_z77 => ?_)
            refine yG.invV (rest := []) A_h73.1 (bOb (d_Net W) H_k0) rfl rfl rfl rfl (c_Net_named W (d + 3) A_h73.1 H_k0 (z77) (by omega) (by omega)) (fun rv hp9 q9 => ?_)
            obtain ⟨⟨z78, rfl, l_z78, u_z78, R_z78⟩, e9⟩ := q9
            rw [e9]
            show yG _ _ _ _ _ _ _ _ _ _ (yI z78 :: []) _
            refine yG.num (c := -1) rfl (fun _ _ => rfl) (by decide) ?_
            refine yG.icmp rfl (t := 63) rfl ⟨by omega, by omega⟩ ⟨by omega, by omega⟩ (fun c79 => ?_) (fun c79 => ?_)
            · have c79 : (z78 : Int) = (-1) := c79
              refine yG.load xak rfl (fun _ _ => rfl) (v := yR k0) rfl rfl ?_
              refine yG.getO A_h73.1 (w_Net_names W H_k0) rfl rfl (fun r80 H_r80 O_r80 q_r80 => ?_)
              refine yG.load xik rfl (fun _ _ => rfl) (v := yI (2)) rfl rfl ?_
              refine yG.aaldO (r := 27) A_h73.1 (v_Net_names W H_r80) rfl rfl rfl (by omega) (by omega) (fun r81 H_r81 q_r81 => ?_)
              refine yG.load xik rfl (fun _ _ => rfl) (v := yI (z72)) rfl rfl ?_
              refine yG.load xak rfl (fun _ _ => rfl) (v := yR k1) rfl rfl ?_
              refine yG.getJ A_h73.1 (w_Tape_word W H_k1) rfl rfl (fun z82 e_z82 i_z82 l_z82 u_z82 => ?_)
              refine yG.last A_h73.1 (v_Net_names2 W H_r81) (W.2.1 _ _ H_r81 (by decide) (by decide)) rfl (by omega) (by omega) ⟨by omega, by omega⟩ (by omega) (by omega) (fun h83 T_h83 b_h83 f_h83 y_h83 => ?_)
              have A_h83 := A_h73.put T_h83 b_h83 f_h83 H_r81 (bAll_ok (by decide) _)
              have qq15 : zsl h83 k0 0 = yR r68 := ((f_h83 k0 0).trans (if_neg (fun e => (bRo.ne H_k0 H_r81 (by decide)) e.1))).trans qq14
              have : ys h83 r68 (2 : Int).toNat = ys h73 r68 (2 : Int).toNat := (y_h83 r68 (2 : Int).toNat).trans (if_neg (fun e => (bRo.ne H_r68 H_r81 (by decide)) e.1))
              have : ys h83 k1 6 = ys h73 k1 6 := (y_h83 k1 6).trans (if_neg (fun e => (bRo.ne H_k1 H_r81 (by decide)) e.1))
              refine yG.load xak rfl (fun _ _ => rfl) (v := yR k0) rfl rfl ?_
              refine yG.load xik rfl (fun _ _ => rfl) (v := yI (2)) rfl rfl ?_
              refine yG.load xik rfl (fun _ _ => rfl) (v := yI (z72)) rfl rfl ?_
              refine yG.invV (rest := []) A_h83.1 (bOb (d_Net W) H_k0) rfl rfl rfl rfl (c_Net_blank_2 W (d + 2) A_h83.1 H_k0 (z72) (by omega) (by omega)) (fun rv h84 q9 => ?_)
              obtain ⟨⟨rfl, R_z85⟩, B_h84⟩ := q9
              have A_h84 := A_h83.tr B_h84 (by decide)
              have qq16 : zsl h84 k0 0 = yR r68 := (B_h84.sl H_k0 (by decide)).trans qq15
              have : ys h84 r68 (2 : Int).toNat = ys h83 r68 (2 : Int).toNat := B_h84.ys H_r68 (bNo_ok (by decide) _)
              have : ys h84 k1 6 = ys h83 k1 6 := B_h84.ys H_k1 (by decide)
              show yG _ _ _ _ _ _ _ _ _ _ [] _
              refine yG.load xak rfl (fun _ _ => rfl) (v := yR k0) rfl rfl ?_
              refine yG.load xak rfl (fun _ _ => rfl) (v := yR k1) rfl rfl ?_
              refine yG.load xik rfl (fun _ _ => rfl) (v := yI (2)) rfl rfl ?_
              refine yG.load xik rfl (fun _ _ => rfl) (v := yI (z72)) rfl rfl ?_
              refine yG.invV (rest := []) A_h84.1 (bOb (d_Net W) H_k0) rfl rfl rfl rfl (c_Net_readEnds_2 W d A_h84.1 H_k0 H_k1 (z72) (by omega) (by omega)) (fun rv h86 q9 => ?_)
              obtain ⟨⟨z87, rfl, l_z87, u_z87, R_z87⟩, B_h86⟩ := q9
              have A_h86 := A_h84.tr B_h86 (by decide)
              have qq17 : zsl h86 k0 0 = yR r68 := (B_h86.sl H_k0 (by decide)).trans qq16
              have : ys h86 r68 (2 : Int).toNat = ys h84 r68 (2 : Int).toNat := B_h86.ys H_r68 (bNo_ok (by decide) _)
              show yG _ _ _ _ _ _ _ _ _ _ (yI z87 :: []) _
              refine yG.ifz rfl (t := 115) rfl ⟨by omega, by omega⟩ (fun c88 => ?_) (fun c88 => ?_)
              · have c88 : (z87 : Int) = 0 := c88
                refine yG.num (c := 0) rfl (fun _ _ => rfl) (by decide) ?_
                refine yG.ret rfl (fun _ _ => rfl) ?_
                exact (yP.bool (by omega) ⟨⟨0, rfl, by omega, by omega, trivial⟩, A_h86⟩)
              · have c88 : (z87 : Int) ≠ 0 := c88
                refine yG.load xik rfl (fun _ _ => rfl) (v := yI (2)) rfl rfl ?_
                refine yG.num (c := 1) rfl (fun _ _ => rfl) (by decide) ?_
                refine yG.icmp rfl (t := 105) rfl ⟨by omega, by omega⟩ ⟨by omega, by omega⟩ (fun c89 => ?_) (fun c89 => ?_)
                · have c89 : (2 : Int) ≠ 1 := c89
                  refine yG.load xak rfl (fun _ _ => rfl) (v := yR k0) rfl rfl ?_
                  refine yG.load xak rfl (fun _ _ => rfl) (v := yR k1) rfl rfl ?_
                  refine yG.load xik rfl (fun _ _ => rfl) (v := yI (2)) rfl rfl ?_
                  refine yG.load xik rfl (fun _ _ => rfl) (v := yI (z72)) rfl rfl ?_
                  refine yG.invV (rest := []) A_h86.1 (bOb (d_Net W) H_k0) rfl rfl rfl rfl (c_Net_readNumbers_2 W d A_h86.1 H_k0 H_k1 (z72) (by omega) (by omega)) (fun rv h90 q9 => ?_)
                  obtain ⟨⟨z91, rfl, l_z91, u_z91, R_z91⟩, B_h90⟩ := q9
                  have A_h90 := A_h86.tr B_h90 (by decide)
                  have qq18 : zsl h90 k0 0 = yR r68 := (B_h90.sl H_k0 (by decide)).trans qq17
                  have : ys h90 r68 (2 : Int).toNat = ys h86 r68 (2 : Int).toNat := B_h90.ys H_r68 (bNo_ok (by decide) _)
                  show yG _ _ _ _ _ _ _ _ _ _ (yI z91 :: []) _
                  refine yG.ifz rfl (t := 117) rfl ⟨by omega, by omega⟩ (fun c92 => ?_) (fun c92 => ?_)
                  · have c92 : (z91 : Int) ≠ 0 := c92
                    refine yG.load xik rfl (fun _ _ => rfl) (v := yI (2)) rfl rfl ?_
                    refine yG.num (c := 3) rfl (fun _ _ => rfl) (by decide) ?_
                    refine yG.icmp rfl (t := 136) rfl ⟨by omega, by omega⟩ ⟨by omega, by omega⟩ (fun c93 => ?_) (fun c93 => ?_)
                    · have c93 : (2 : Int) ≠ 3 := c93
                      refine yG.load xak rfl (fun _ _ => rfl) (v := yR k1) rfl rfl ?_
                      refine yG.invV (rest := []) A_h90.1 (bOb (d_Tape W) H_k1) rfl rfl rfl rfl (c_Tape_next W (d + 1) A_h90.1 H_k1) (fun rv h94 q9 => ?_)
                      obtain ⟨⟨z95, rfl, l_z95, u_z95, R_z95⟩, B_h94⟩ := q9
                      have A_h94 := A_h90.tr B_h94 (by decide)
                      have qq19 : zsl h94 k0 0 = yR r68 := (B_h94.sl H_k0 (by decide)).trans qq18
                      have : ys h94 r68 (2 : Int).toNat = ys h90 r68 (2 : Int).toNat := B_h94.ys H_r68 (bNo_ok (by decide) _)
                      show yG _ _ _ _ _ _ _ _ _ _ (yI z95 :: []) _
                      refine yG.step (pc' := 141) (stk' := []) rfl (fun _ _ => rfl) ?_
                      refine yG.load xak rfl (fun _ _ => rfl) (v := yR k0) rfl rfl ?_
                      refine yG.getS9 A_h94.1 (w_Net_count W H_k0) qq19 rfl rfl ?_
                      refine yG.load xik rfl (fun _ _ => rfl) (v := yI (2)) rfl rfl ?_
                      refine yG.step (pc' := 147) (stk' := [yI (2), yR r68, yI (2), yR r68]) rfl (fun _ _ => rfl) ?_
                      refine yG.ialdF A_h94.1 (v_Net_count W H_r68) rfl rfl (by omega) (by omega) (fun z96 e_z96 i_z96 l_z96 u_z96 => ?_)
                      refine yG.num (c := 1) rfl (fun _ _ => rfl) (by decide) ?_
                      refine yG.iadd rfl ?_
                      refine yG.iastF A_h94.1 (v_Net_count W H_r68) rfl (W.2.1 _ _ H_r68 (by decide) (by decide)) rfl (by omega) (by omega) ⟨by omega, by omega⟩ (by omega) (by omega) (fun h97 T_h97 b_h97 f_h97 y_h97 => ?_)
                      have A_h97 := A_h94.put T_h97 b_h97 f_h97 H_r68 (bAll_ok (by decide) _)
                      have qq20 : zsl h97 k0 0 = yR r68 := ((f_h97 k0 0).trans (if_neg (fun e => (bRo.ne H_k0 H_r68 (by decide)) e.1))).trans qq19
                      have : ys h97 r68 (2 : Int).toNat = z96 + 1 := (y_h97 r68 _).trans (if_pos ⟨rfl, rfl⟩)
                      refine yG.load xak rfl (fun _ _ => rfl) (v := yR k1) rfl rfl ?_
                      refine yG.num (c := 59) rfl (fun _ _ => rfl) (by decide) ?_
                      refine yG.invV (rest := []) A_h97.1 (bOb (d_Tape W) H_k1) rfl rfl rfl rfl (c_Tape_isSign W (d + 3) A_h97.1 H_k1 (59) (by omega) (by omega)) (fun rv hp9 q9 => ?_)
                      obtain ⟨⟨z98, rfl, l_z98, u_z98, R_z98⟩, e9⟩ := q9
                      rw [e9]
                      show yG _ _ _ _ _ _ _ _ _ _ (yI z98 :: []) _
                      refine yG.ret rfl (fun _ _ => rfl) ?_
                      exact (yP.bool (by omega) ⟨⟨z98, rfl, by omega, by omega, trivial⟩, A_h97⟩)
                    · have c93 : (2 : Int) = 3 := c93
                      exfalso; omega
                  · have c92 : (z91 : Int) = 0 := c92
                    refine yG.num (c := 0) rfl (fun _ _ => rfl) (by decide) ?_
                    refine yG.ret rfl (fun _ _ => rfl) ?_
                    exact (yP.bool (by omega) ⟨⟨0, rfl, by omega, by omega, trivial⟩, A_h90⟩)
                · have c89 : (2 : Int) = 1 := c89
                  exfalso; omega
            · have c79 : (z78 : Int) ≠ (-1) := c79
              refine yG.num (c := 0) rfl (fun _ _ => rfl) (by decide) ?_
              refine yG.ret rfl (fun _ _ => rfl) ?_
              exact (yP.bool (by omega) ⟨⟨0, rfl, by omega, by omega, trivial⟩, A_h73⟩)
        · have c71 : (z69 : Int) ≥ 20 := c71
          refine yG.num (c := 0) rfl (fun _ _ => rfl) (by decide) ?_
          refine yG.ret rfl (fun _ _ => rfl) ?_
          exact (yP.bool (by omega) ⟨⟨0, rfl, by omega, by omega, trivial⟩, A_hp⟩)
      · subst c4
        refine yG.load xak rfl (fun _ _ => rfl) (v := yR k0) rfl rfl ?_
        refine yG.getO A_hp.1 (w_Net_count W H_k0) rfl rfl (fun r99 H_r99 O_r99 q_r99 => ?_)
        refine yG.load xik rfl (fun _ _ => rfl) (v := yI (3)) rfl rfl ?_
        refine yG.ialdF A_hp.1 (v_Net_count W H_r99) rfl rfl (by omega) (by omega) (fun z100 e_z100 i_z100 l_z100 u_z100 => ?_)
        refine yG.getS (c := 1) rfl rfl ?_
        refine yG.load xik rfl (fun _ _ => rfl) (v := yI (3)) rfl rfl ?_
        refine yG.ialdF A_hp.1 (v_S_Net_MOST W (s_S_Net_MOST W)) rfl rfl (by omega) (by omega) (fun z101 e_z101 i_z101 l_z101 u_z101 => ?_)
        obtain rfl : z101 = 6 := by omega
        refine yG.icmp rfl (t := 30) rfl ⟨by omega, by omega⟩ ⟨by omega, by omega⟩ (fun c102 => ?_) (fun c102 => ?_)
        · have c102 : (z100 : Int) < 6 := c102
          refine yG.load xak rfl (fun _ _ => rfl) (v := yR k0) rfl rfl ?_
          refine yG.getS9 A_hp.1 (w_Net_count W H_k0) q_r99 rfl rfl ?_
          refine yG.load xik rfl (fun _ _ => rfl) (v := yI (3)) rfl rfl ?_
          refine yG.ialdF A_hp.1 (v_Net_count W H_r99) rfl rfl (by omega) (by omega) (fun z103 e_z103 i_z103 l_z103 u_z103 => ?_)
          refine yG.store1 xik (L' := [(3, yI (z103)), (2, yI (3)), (0, yR k0), (1, yR k1)]) rfl (fun _ _ => rfl) rfl rfl ?_
          refine yG.load xak rfl (fun _ _ => rfl) (v := yR k1) rfl rfl ?_
          refine yG.invV (rest := []) A_hp.1 (bOb (d_Tape W) H_k1) rfl rfl rfl rfl (c_Tape_next W (d + 1) A_hp.1 H_k1) (fun rv h104 q9 => ?_)
          obtain ⟨⟨z105, rfl, l_z105, u_z105, R_z105⟩, B_h104⟩ := q9
          have A_h104 := A_hp.tr B_h104 (by decide)
          have qq21 : zsl h104 k0 0 = yR r99 := (B_h104.sl H_k0 (by decide)).trans q_r99
          have : ys h104 r99 (3 : Int).toNat = ys hp r99 (3 : Int).toNat := B_h104.ys H_r99 (bNo_ok (by decide) _)
          show yG _ _ _ _ _ _ _ _ _ _ (yI z105 :: []) _
          refine yG.step (pc' := 42) (stk' := []) rfl (fun _ _ => rfl) ?_
          refine yG.load xak rfl (fun _ _ => rfl) (v := yR k1) rfl rfl ?_
          refine yG.invV (rest := []) A_h104.1 (bOb (d_Tape W) H_k1) rfl rfl rfl rfl (c_Tape_isName W (d + 2) A_h104.1 H_k1) (fun rv hp9 q9 => ?_)
          obtain ⟨⟨z106, rfl, l_z106, u_z106, R_z106⟩, e9⟩ := q9
          rw [e9]
          show yG _ _ _ _ _ _ _ _ _ _ (yI z106 :: []) _
          refine yG.ifz rfl (t := 61) rfl ⟨by omega, by omega⟩ (fun c107 => ?_) (fun c107 => ?_)
          · have c107 : (z106 : Int) = 0 := c107
            refine yG.num (c := 0) rfl (fun _ _ => rfl) (by decide) ?_
            refine yG.ret rfl (fun _ _ => rfl) ?_
            exact (yP.bool (by omega) ⟨⟨0, rfl, by omega, by omega, trivial⟩, A_h104⟩)
          · have c107 : (z106 : Int) ≠ 0 := c107
            refine yG.load xak rfl (fun _ _ => rfl) (v := yR k0) rfl rfl ?_
            refine yG.load xak rfl (fun _ _ => rfl) (v := yR k1) rfl rfl ?_
            refine yG.getJ A_h104.1 (w_Tape_word W H_k1) rfl rfl (fun z108 e_z108 i_z108 l_z108 u_z108 => ?_)
            refine yG.invV (rest := []) A_h104.1 (bOb (d_Net W) H_k0) rfl rfl rfl rfl (c_Net_named W (d + 3) A_h104.1 H_k0 (z108) (by omega) (by omega)) (fun rv hp9 q9 => ?_)
            obtain ⟨⟨z109, rfl, l_z109, u_z109, R_z109⟩, e9⟩ := q9
            rw [e9]
            show yG _ _ _ _ _ _ _ _ _ _ (yI z109 :: []) _
            refine yG.num (c := -1) rfl (fun _ _ => rfl) (by decide) ?_
            refine yG.icmp rfl (t := 63) rfl ⟨by omega, by omega⟩ ⟨by omega, by omega⟩ (fun c110 => ?_) (fun c110 => ?_)
            · have c110 : (z109 : Int) = (-1) := c110
              refine yG.load xak rfl (fun _ _ => rfl) (v := yR k0) rfl rfl ?_
              refine yG.getO A_h104.1 (w_Net_names W H_k0) rfl rfl (fun r111 H_r111 O_r111 q_r111 => ?_)
              refine yG.load xik rfl (fun _ _ => rfl) (v := yI (3)) rfl rfl ?_
              refine yG.aaldO (r := 29) A_h104.1 (v_Net_names W H_r111) rfl rfl rfl (by omega) (by omega) (fun r112 H_r112 q_r112 => ?_)
              refine yG.load xik rfl (fun _ _ => rfl) (v := yI (z103)) rfl rfl ?_
              refine yG.load xak rfl (fun _ _ => rfl) (v := yR k1) rfl rfl ?_
              refine yG.getJ A_h104.1 (w_Tape_word W H_k1) rfl rfl (fun z113 e_z113 i_z113 l_z113 u_z113 => ?_)
              refine yG.last A_h104.1 (v_Net_names3 W H_r112) (W.2.1 _ _ H_r112 (by decide) (by decide)) rfl (by omega) (by omega) ⟨by omega, by omega⟩ (by omega) (by omega) (fun h114 T_h114 b_h114 f_h114 y_h114 => ?_)
              have A_h114 := A_h104.put T_h114 b_h114 f_h114 H_r112 (bAll_ok (by decide) _)
              have qq22 : zsl h114 k0 0 = yR r99 := ((f_h114 k0 0).trans (if_neg (fun e => (bRo.ne H_k0 H_r112 (by decide)) e.1))).trans qq21
              have : ys h114 r99 (3 : Int).toNat = ys h104 r99 (3 : Int).toNat := (y_h114 r99 (3 : Int).toNat).trans (if_neg (fun e => (bRo.ne H_r99 H_r112 (by decide)) e.1))
              have : ys h114 k1 6 = ys h104 k1 6 := (y_h114 k1 6).trans (if_neg (fun e => (bRo.ne H_k1 H_r112 (by decide)) e.1))
              refine yG.load xak rfl (fun _ _ => rfl) (v := yR k0) rfl rfl ?_
              refine yG.load xik rfl (fun _ _ => rfl) (v := yI (3)) rfl rfl ?_
              refine yG.load xik rfl (fun _ _ => rfl) (v := yI (z103)) rfl rfl ?_
              refine yG.invV (rest := []) A_h114.1 (bOb (d_Net W) H_k0) rfl rfl rfl rfl (c_Net_blank_3 W (d + 2) A_h114.1 H_k0 (z103) (by omega) (by omega)) (fun rv h115 q9 => ?_)
              obtain ⟨⟨rfl, R_z116⟩, B_h115⟩ := q9
              have A_h115 := A_h114.tr B_h115 (by decide)
              have qq23 : zsl h115 k0 0 = yR r99 := (B_h115.sl H_k0 (by decide)).trans qq22
              have : ys h115 r99 (3 : Int).toNat = ys h114 r99 (3 : Int).toNat := B_h115.ys H_r99 (bNo_ok (by decide) _)
              have : ys h115 k1 6 = ys h114 k1 6 := B_h115.ys H_k1 (by decide)
              show yG _ _ _ _ _ _ _ _ _ _ [] _
              refine yG.load xak rfl (fun _ _ => rfl) (v := yR k0) rfl rfl ?_
              refine yG.load xak rfl (fun _ _ => rfl) (v := yR k1) rfl rfl ?_
              refine yG.load xik rfl (fun _ _ => rfl) (v := yI (3)) rfl rfl ?_
              refine yG.load xik rfl (fun _ _ => rfl) (v := yI (z103)) rfl rfl ?_
              refine yG.invV (rest := []) A_h115.1 (bOb (d_Net W) H_k0) rfl rfl rfl rfl (c_Net_readEnds_3 W d A_h115.1 H_k0 H_k1 (z103) (by omega) (by omega)) (fun rv h117 q9 => ?_)
              obtain ⟨⟨z118, rfl, l_z118, u_z118, R_z118⟩, B_h117⟩ := q9
              have A_h117 := A_h115.tr B_h117 (by decide)
              have qq24 : zsl h117 k0 0 = yR r99 := (B_h117.sl H_k0 (by decide)).trans qq23
              have : ys h117 r99 (3 : Int).toNat = ys h115 r99 (3 : Int).toNat := B_h117.ys H_r99 (bNo_ok (by decide) _)
              show yG _ _ _ _ _ _ _ _ _ _ (yI z118 :: []) _
              refine yG.ifz rfl (t := 115) rfl ⟨by omega, by omega⟩ (fun c119 => ?_) (fun c119 => ?_)
              · have c119 : (z118 : Int) = 0 := c119
                refine yG.num (c := 0) rfl (fun _ _ => rfl) (by decide) ?_
                refine yG.ret rfl (fun _ _ => rfl) ?_
                exact (yP.bool (by omega) ⟨⟨0, rfl, by omega, by omega, trivial⟩, A_h117⟩)
              · have c119 : (z118 : Int) ≠ 0 := c119
                refine yG.load xik rfl (fun _ _ => rfl) (v := yI (3)) rfl rfl ?_
                refine yG.num (c := 1) rfl (fun _ _ => rfl) (by decide) ?_
                refine yG.icmp rfl (t := 105) rfl ⟨by omega, by omega⟩ ⟨by omega, by omega⟩ (fun c120 => ?_) (fun c120 => ?_)
                · have c120 : (3 : Int) ≠ 1 := c120
                  refine yG.load xak rfl (fun _ _ => rfl) (v := yR k0) rfl rfl ?_
                  refine yG.load xak rfl (fun _ _ => rfl) (v := yR k1) rfl rfl ?_
                  refine yG.load xik rfl (fun _ _ => rfl) (v := yI (3)) rfl rfl ?_
                  refine yG.load xik rfl (fun _ _ => rfl) (v := yI (z103)) rfl rfl ?_
                  refine yG.invV (rest := []) A_h117.1 (bOb (d_Net W) H_k0) rfl rfl rfl rfl (c_Net_readNumbers_3 W d A_h117.1 H_k0 H_k1 (z103) (by omega) (by omega)) (fun rv h121 q9 => ?_)
                  obtain ⟨⟨z122, rfl, l_z122, u_z122, R_z122⟩, B_h121⟩ := q9
                  have A_h121 := A_h117.tr B_h121 (by decide)
                  have qq25 : zsl h121 k0 0 = yR r99 := (B_h121.sl H_k0 (by decide)).trans qq24
                  have : ys h121 r99 (3 : Int).toNat = ys h117 r99 (3 : Int).toNat := B_h121.ys H_r99 (bNo_ok (by decide) _)
                  show yG _ _ _ _ _ _ _ _ _ _ (yI z122 :: []) _
                  refine yG.ifz rfl (t := 117) rfl ⟨by omega, by omega⟩ (fun c123 => ?_) (fun c123 => ?_)
                  · have c123 : (z122 : Int) ≠ 0 := c123
                    refine yG.load xik rfl (fun _ _ => rfl) (v := yI (3)) rfl rfl ?_
                    refine yG.num (c := 3) rfl (fun _ _ => rfl) (by decide) ?_
                    refine yG.icmp rfl (t := 136) rfl ⟨by omega, by omega⟩ ⟨by omega, by omega⟩ (fun c124 => ?_) (fun c124 => ?_)
                    · have c124 : (3 : Int) ≠ 3 := c124
                      exfalso; omega
                    · have c124 : (3 : Int) = 3 := c124
                      refine yG.load xak rfl (fun _ _ => rfl) (v := yR k0) rfl rfl ?_
                      refine yG.num (c := 3) rfl (fun _ _ => rfl) (by decide) ?_
                      refine yG.load xik rfl (fun _ _ => rfl) (v := yI (z103)) rfl rfl ?_
                      refine yG.num (c := 1) rfl (fun _ _ => rfl) (by decide) ?_
                      refine yG.load xak rfl (fun _ _ => rfl) (v := yR k0) rfl rfl ?_
                      refine yG.num (c := 3) rfl (fun _ _ => rfl) (by decide) ?_
                      refine yG.load xik rfl (fun _ _ => rfl) (v := yI (z103)) rfl rfl ?_
                      refine yG.num (c := 4) rfl (fun _ _ => rfl) (by decide) ?_
                      refine yG.invV (rest := [yI (1), yI (z103), yI (3), yR k0]) A_h121.1 (bOb (d_Net W) H_k0) rfl rfl rfl rfl (c_Net_at_3_4 W (d + 3) A_h121.1 H_k0 (z103) (by omega) (by omega)) (fun rv hp9 q9 => ?_)
                      obtain ⟨⟨z125, rfl, l_z125, u_z125, R_z125⟩, e9⟩ := q9
                      rw [e9]
                      show yG _ _ _ _ _ _ _ _ _ _ (yI z125 :: [yI (1), yI (z103), yI (3), yR k0]) _
                      refine yG.invV (rest := []) A_h121.1 (bOb (d_Net W) H_k0) rfl rfl rfl rfl (c_Net_put_3_1 W (d + 3) A_h121.1 H_k0 (z103) (z125) (by omega) (by omega) (by omega) (by omega)) (fun rv h126 q9 => ?_)
                      obtain ⟨⟨rfl, R_z127⟩, B_h126⟩ := q9
                      have A_h126 := A_h121.tr B_h126 (by decide)
                      have qq26 : zsl h126 k0 0 = yR r99 := (B_h126.sl H_k0 (by decide)).trans qq25
                      have : ys h126 r99 (3 : Int).toNat = ys h121 r99 (3 : Int).toNat := B_h126.ys H_r99 (bNo_ok (by decide) _)
                      show yG _ _ _ _ _ _ _ _ _ _ [] _
                      refine yG.load xak rfl (fun _ _ => rfl) (v := yR k1) rfl rfl ?_
                      refine yG.invV (rest := []) A_h126.1 (bOb (d_Tape W) H_k1) rfl rfl rfl rfl (c_Tape_next W (d + 1) A_h126.1 H_k1) (fun rv h128 q9 => ?_)
                      obtain ⟨⟨z129, rfl, l_z129, u_z129, R_z129⟩, B_h128⟩ := q9
                      have A_h128 := A_h126.tr B_h128 (by decide)
                      have qq27 : zsl h128 k0 0 = yR r99 := (B_h128.sl H_k0 (by decide)).trans qq26
                      have : ys h128 r99 (3 : Int).toNat = ys h126 r99 (3 : Int).toNat := B_h128.ys H_r99 (bNo_ok (by decide) _)
                      show yG _ _ _ _ _ _ _ _ _ _ (yI z129 :: []) _
                      refine yG.step (pc' := 141) (stk' := []) rfl (fun _ _ => rfl) ?_
                      refine yG.load xak rfl (fun _ _ => rfl) (v := yR k0) rfl rfl ?_
                      refine yG.getS9 A_h128.1 (w_Net_count W H_k0) qq27 rfl rfl ?_
                      refine yG.load xik rfl (fun _ _ => rfl) (v := yI (3)) rfl rfl ?_
                      refine yG.step (pc' := 147) (stk' := [yI (3), yR r99, yI (3), yR r99]) rfl (fun _ _ => rfl) ?_
                      refine yG.ialdF A_h128.1 (v_Net_count W H_r99) rfl rfl (by omega) (by omega) (fun z130 e_z130 i_z130 l_z130 u_z130 => ?_)
                      refine yG.num (c := 1) rfl (fun _ _ => rfl) (by decide) ?_
                      refine yG.iadd rfl ?_
                      refine yG.iastF A_h128.1 (v_Net_count W H_r99) rfl (W.2.1 _ _ H_r99 (by decide) (by decide)) rfl (by omega) (by omega) ⟨by omega, by omega⟩ (by omega) (by omega) (fun h131 T_h131 b_h131 f_h131 y_h131 => ?_)
                      have A_h131 := A_h128.put T_h131 b_h131 f_h131 H_r99 (bAll_ok (by decide) _)
                      have qq28 : zsl h131 k0 0 = yR r99 := ((f_h131 k0 0).trans (if_neg (fun e => (bRo.ne H_k0 H_r99 (by decide)) e.1))).trans qq27
                      have : ys h131 r99 (3 : Int).toNat = z130 + 1 := (y_h131 r99 _).trans (if_pos ⟨rfl, rfl⟩)
                      refine yG.load xak rfl (fun _ _ => rfl) (v := yR k1) rfl rfl ?_
                      refine yG.num (c := 59) rfl (fun _ _ => rfl) (by decide) ?_
                      refine yG.invV (rest := []) A_h131.1 (bOb (d_Tape W) H_k1) rfl rfl rfl rfl (c_Tape_isSign W (d + 3) A_h131.1 H_k1 (59) (by omega) (by omega)) (fun rv hp9 q9 => ?_)
                      obtain ⟨⟨z132, rfl, l_z132, u_z132, R_z132⟩, e9⟩ := q9
                      rw [e9]
                      show yG _ _ _ _ _ _ _ _ _ _ (yI z132 :: []) _
                      refine yG.ret rfl (fun _ _ => rfl) ?_
                      exact (yP.bool (by omega) ⟨⟨z132, rfl, by omega, by omega, trivial⟩, A_h131⟩)
                  · have c123 : (z122 : Int) = 0 := c123
                    refine yG.num (c := 0) rfl (fun _ _ => rfl) (by decide) ?_
                    refine yG.ret rfl (fun _ _ => rfl) ?_
                    exact (yP.bool (by omega) ⟨⟨0, rfl, by omega, by omega, trivial⟩, A_h121⟩)
                · have c120 : (3 : Int) = 1 := c120
                  exfalso; omega
            · have c110 : (z109 : Int) ≠ (-1) := c110
              refine yG.num (c := 0) rfl (fun _ _ => rfl) (by decide) ?_
              refine yG.ret rfl (fun _ _ => rfl) ?_
              exact (yP.bool (by omega) ⟨⟨0, rfl, by omega, by omega, trivial⟩, A_h104⟩)
        · have c102 : (z100 : Int) ≥ 6 := c102
          refine yG.num (c := 0) rfl (fun _ _ => rfl) (by decide) ?_
          refine yG.ret rfl (fun _ _ => rfl) ?_
          exact (yP.bool (by omega) ⟨⟨0, rfl, by omega, by omega, trivial⟩, A_hp⟩)
      · subst c4
        refine yG.load xak rfl (fun _ _ => rfl) (v := yR k0) rfl rfl ?_
        refine yG.getO A_hp.1 (w_Net_count W H_k0) rfl rfl (fun r133 H_r133 O_r133 q_r133 => ?_)
        refine yG.load xik rfl (fun _ _ => rfl) (v := yI (4)) rfl rfl ?_
        refine yG.ialdF A_hp.1 (v_Net_count W H_r133) rfl rfl (by omega) (by omega) (fun z134 e_z134 i_z134 l_z134 u_z134 => ?_)
        refine yG.getS (c := 1) rfl rfl ?_
        refine yG.load xik rfl (fun _ _ => rfl) (v := yI (4)) rfl rfl ?_
        refine yG.ialdF A_hp.1 (v_S_Net_MOST W (s_S_Net_MOST W)) rfl rfl (by omega) (by omega) (fun z135 e_z135 i_z135 l_z135 u_z135 => ?_)
        obtain rfl : z135 = 12 := by omega
        refine yG.icmp rfl (t := 30) rfl ⟨by omega, by omega⟩ ⟨by omega, by omega⟩ (fun c136 => ?_) (fun c136 => ?_)
        · have c136 : (z134 : Int) < 12 := c136
          refine yG.load xak rfl (fun _ _ => rfl) (v := yR k0) rfl rfl ?_
          refine yG.getS9 A_hp.1 (w_Net_count W H_k0) q_r133 rfl rfl ?_
          refine yG.load xik rfl (fun _ _ => rfl) (v := yI (4)) rfl rfl ?_
          refine yG.ialdF A_hp.1 (v_Net_count W H_r133) rfl rfl (by omega) (by omega) (fun z137 e_z137 i_z137 l_z137 u_z137 => ?_)
          refine yG.store1 xik (L' := [(3, yI (z137)), (2, yI (4)), (0, yR k0), (1, yR k1)]) rfl (fun _ _ => rfl) rfl rfl ?_
          refine yG.load xak rfl (fun _ _ => rfl) (v := yR k1) rfl rfl ?_
          refine yG.invV (rest := []) A_hp.1 (bOb (d_Tape W) H_k1) rfl rfl rfl rfl (c_Tape_next W (d + 1) A_hp.1 H_k1) (fun rv h138 q9 => ?_)
          obtain ⟨⟨z139, rfl, l_z139, u_z139, R_z139⟩, B_h138⟩ := q9
          have A_h138 := A_hp.tr B_h138 (by decide)
          have qq29 : zsl h138 k0 0 = yR r133 := (B_h138.sl H_k0 (by decide)).trans q_r133
          have : ys h138 r133 (4 : Int).toNat = ys hp r133 (4 : Int).toNat := B_h138.ys H_r133 (bNo_ok (by decide) _)
          show yG _ _ _ _ _ _ _ _ _ _ (yI z139 :: []) _
          refine yG.step (pc' := 42) (stk' := []) rfl (fun _ _ => rfl) ?_
          refine yG.load xak rfl (fun _ _ => rfl) (v := yR k1) rfl rfl ?_
          refine yG.invV (rest := []) A_h138.1 (bOb (d_Tape W) H_k1) rfl rfl rfl rfl (c_Tape_isName W (d + 2) A_h138.1 H_k1) (fun rv hp9 q9 => ?_)
          obtain ⟨⟨z140, rfl, l_z140, u_z140, R_z140⟩, e9⟩ := q9
          rw [e9]
          show yG _ _ _ _ _ _ _ _ _ _ (yI z140 :: []) _
          refine yG.ifz rfl (t := 61) rfl ⟨by omega, by omega⟩ (fun c141 => ?_) (fun c141 => ?_)
          · have c141 : (z140 : Int) = 0 := c141
            refine yG.num (c := 0) rfl (fun _ _ => rfl) (by decide) ?_
            refine yG.ret rfl (fun _ _ => rfl) ?_
            exact (yP.bool (by omega) ⟨⟨0, rfl, by omega, by omega, trivial⟩, A_h138⟩)
          · have c141 : (z140 : Int) ≠ 0 := c141
            refine yG.load xak rfl (fun _ _ => rfl) (v := yR k0) rfl rfl ?_
            refine yG.load xak rfl (fun _ _ => rfl) (v := yR k1) rfl rfl ?_
            refine yG.getJ A_h138.1 (w_Tape_word W H_k1) rfl rfl (fun z142 e_z142 i_z142 l_z142 u_z142 => ?_)
            refine yG.invV (rest := []) A_h138.1 (bOb (d_Net W) H_k0) rfl rfl rfl rfl (c_Net_named W (d + 3) A_h138.1 H_k0 (z142) (by omega) (by omega)) (fun rv hp9 q9 => ?_)
            obtain ⟨⟨z143, rfl, l_z143, u_z143, R_z143⟩, e9⟩ := q9
            rw [e9]
            show yG _ _ _ _ _ _ _ _ _ _ (yI z143 :: []) _
            refine yG.num (c := -1) rfl (fun _ _ => rfl) (by decide) ?_
            refine yG.icmp rfl (t := 63) rfl ⟨by omega, by omega⟩ ⟨by omega, by omega⟩ (fun c144 => ?_) (fun c144 => ?_)
            · have c144 : (z143 : Int) = (-1) := c144
              refine yG.load xak rfl (fun _ _ => rfl) (v := yR k0) rfl rfl ?_
              refine yG.getO A_h138.1 (w_Net_names W H_k0) rfl rfl (fun r145 H_r145 O_r145 q_r145 => ?_)
              refine yG.load xik rfl (fun _ _ => rfl) (v := yI (4)) rfl rfl ?_
              refine yG.aaldO (r := 31) A_h138.1 (v_Net_names W H_r145) rfl rfl rfl (by omega) (by omega) (fun r146 H_r146 q_r146 => ?_)
              refine yG.load xik rfl (fun _ _ => rfl) (v := yI (z137)) rfl rfl ?_
              refine yG.load xak rfl (fun _ _ => rfl) (v := yR k1) rfl rfl ?_
              refine yG.getJ A_h138.1 (w_Tape_word W H_k1) rfl rfl (fun z147 e_z147 i_z147 l_z147 u_z147 => ?_)
              refine yG.last A_h138.1 (v_Net_names4 W H_r146) (W.2.1 _ _ H_r146 (by decide) (by decide)) rfl (by omega) (by omega) ⟨by omega, by omega⟩ (by omega) (by omega) (fun h148 T_h148 b_h148 f_h148 y_h148 => ?_)
              have A_h148 := A_h138.put T_h148 b_h148 f_h148 H_r146 (bAll_ok (by decide) _)
              have qq30 : zsl h148 k0 0 = yR r133 := ((f_h148 k0 0).trans (if_neg (fun e => (bRo.ne H_k0 H_r146 (by decide)) e.1))).trans qq29
              have : ys h148 r133 (4 : Int).toNat = ys h138 r133 (4 : Int).toNat := (y_h148 r133 (4 : Int).toNat).trans (if_neg (fun e => (bRo.ne H_r133 H_r146 (by decide)) e.1))
              have : ys h148 k1 6 = ys h138 k1 6 := (y_h148 k1 6).trans (if_neg (fun e => (bRo.ne H_k1 H_r146 (by decide)) e.1))
              refine yG.load xak rfl (fun _ _ => rfl) (v := yR k0) rfl rfl ?_
              refine yG.load xik rfl (fun _ _ => rfl) (v := yI (4)) rfl rfl ?_
              refine yG.load xik rfl (fun _ _ => rfl) (v := yI (z137)) rfl rfl ?_
              refine yG.invV (rest := []) A_h148.1 (bOb (d_Net W) H_k0) rfl rfl rfl rfl (c_Net_blank_4 W (d + 2) A_h148.1 H_k0 (z137) (by omega) (by omega)) (fun rv h149 q9 => ?_)
              obtain ⟨⟨rfl, R_z150⟩, B_h149⟩ := q9
              have A_h149 := A_h148.tr B_h149 (by decide)
              have qq31 : zsl h149 k0 0 = yR r133 := (B_h149.sl H_k0 (by decide)).trans qq30
              have : ys h149 r133 (4 : Int).toNat = ys h148 r133 (4 : Int).toNat := B_h149.ys H_r133 (bNo_ok (by decide) _)
              have : ys h149 k1 6 = ys h148 k1 6 := B_h149.ys H_k1 (by decide)
              show yG _ _ _ _ _ _ _ _ _ _ [] _
              refine yG.load xak rfl (fun _ _ => rfl) (v := yR k0) rfl rfl ?_
              refine yG.load xak rfl (fun _ _ => rfl) (v := yR k1) rfl rfl ?_
              refine yG.load xik rfl (fun _ _ => rfl) (v := yI (4)) rfl rfl ?_
              refine yG.load xik rfl (fun _ _ => rfl) (v := yI (z137)) rfl rfl ?_
              refine yG.invV (rest := []) A_h149.1 (bOb (d_Net W) H_k0) rfl rfl rfl rfl (c_Net_readEnds_4 W d A_h149.1 H_k0 H_k1 (z137) (by omega) (by omega)) (fun rv h151 q9 => ?_)
              obtain ⟨⟨z152, rfl, l_z152, u_z152, R_z152⟩, B_h151⟩ := q9
              have A_h151 := A_h149.tr B_h151 (by decide)
              have qq32 : zsl h151 k0 0 = yR r133 := (B_h151.sl H_k0 (by decide)).trans qq31
              have : ys h151 r133 (4 : Int).toNat = ys h149 r133 (4 : Int).toNat := B_h151.ys H_r133 (bNo_ok (by decide) _)
              show yG _ _ _ _ _ _ _ _ _ _ (yI z152 :: []) _
              refine yG.ifz rfl (t := 115) rfl ⟨by omega, by omega⟩ (fun c153 => ?_) (fun c153 => ?_)
              · have c153 : (z152 : Int) = 0 := c153
                refine yG.num (c := 0) rfl (fun _ _ => rfl) (by decide) ?_
                refine yG.ret rfl (fun _ _ => rfl) ?_
                exact (yP.bool (by omega) ⟨⟨0, rfl, by omega, by omega, trivial⟩, A_h151⟩)
              · have c153 : (z152 : Int) ≠ 0 := c153
                refine yG.load xik rfl (fun _ _ => rfl) (v := yI (4)) rfl rfl ?_
                refine yG.num (c := 1) rfl (fun _ _ => rfl) (by decide) ?_
                refine yG.icmp rfl (t := 105) rfl ⟨by omega, by omega⟩ ⟨by omega, by omega⟩ (fun c154 => ?_) (fun c154 => ?_)
                · have c154 : (4 : Int) ≠ 1 := c154
                  refine yG.load xak rfl (fun _ _ => rfl) (v := yR k0) rfl rfl ?_
                  refine yG.load xak rfl (fun _ _ => rfl) (v := yR k1) rfl rfl ?_
                  refine yG.load xik rfl (fun _ _ => rfl) (v := yI (4)) rfl rfl ?_
                  refine yG.load xik rfl (fun _ _ => rfl) (v := yI (z137)) rfl rfl ?_
                  refine yG.invV (rest := []) A_h151.1 (bOb (d_Net W) H_k0) rfl rfl rfl rfl (c_Net_readNumbers_4 W d A_h151.1 H_k0 H_k1 (z137) (by omega) (by omega)) (fun rv h155 q9 => ?_)
                  obtain ⟨⟨z156, rfl, l_z156, u_z156, R_z156⟩, B_h155⟩ := q9
                  have A_h155 := A_h151.tr B_h155 (by decide)
                  have qq33 : zsl h155 k0 0 = yR r133 := (B_h155.sl H_k0 (by decide)).trans qq32
                  have : ys h155 r133 (4 : Int).toNat = ys h151 r133 (4 : Int).toNat := B_h155.ys H_r133 (bNo_ok (by decide) _)
                  show yG _ _ _ _ _ _ _ _ _ _ (yI z156 :: []) _
                  refine yG.ifz rfl (t := 117) rfl ⟨by omega, by omega⟩ (fun c157 => ?_) (fun c157 => ?_)
                  · have c157 : (z156 : Int) ≠ 0 := c157
                    refine yG.load xik rfl (fun _ _ => rfl) (v := yI (4)) rfl rfl ?_
                    refine yG.num (c := 3) rfl (fun _ _ => rfl) (by decide) ?_
                    refine yG.icmp rfl (t := 136) rfl ⟨by omega, by omega⟩ ⟨by omega, by omega⟩ (fun c158 => ?_) (fun c158 => ?_)
                    · have c158 : (4 : Int) ≠ 3 := c158
                      refine yG.load xak rfl (fun _ _ => rfl) (v := yR k1) rfl rfl ?_
                      refine yG.invV (rest := []) A_h155.1 (bOb (d_Tape W) H_k1) rfl rfl rfl rfl (c_Tape_next W (d + 1) A_h155.1 H_k1) (fun rv h159 q9 => ?_)
                      obtain ⟨⟨z160, rfl, l_z160, u_z160, R_z160⟩, B_h159⟩ := q9
                      have A_h159 := A_h155.tr B_h159 (by decide)
                      have qq34 : zsl h159 k0 0 = yR r133 := (B_h159.sl H_k0 (by decide)).trans qq33
                      have : ys h159 r133 (4 : Int).toNat = ys h155 r133 (4 : Int).toNat := B_h159.ys H_r133 (bNo_ok (by decide) _)
                      show yG _ _ _ _ _ _ _ _ _ _ (yI z160 :: []) _
                      refine yG.step (pc' := 141) (stk' := []) rfl (fun _ _ => rfl) ?_
                      refine yG.load xak rfl (fun _ _ => rfl) (v := yR k0) rfl rfl ?_
                      refine yG.getS9 A_h159.1 (w_Net_count W H_k0) qq34 rfl rfl ?_
                      refine yG.load xik rfl (fun _ _ => rfl) (v := yI (4)) rfl rfl ?_
                      refine yG.step (pc' := 147) (stk' := [yI (4), yR r133, yI (4), yR r133]) rfl (fun _ _ => rfl) ?_
                      refine yG.ialdF A_h159.1 (v_Net_count W H_r133) rfl rfl (by omega) (by omega) (fun z161 e_z161 i_z161 l_z161 u_z161 => ?_)
                      refine yG.num (c := 1) rfl (fun _ _ => rfl) (by decide) ?_
                      refine yG.iadd rfl ?_
                      refine yG.iastF A_h159.1 (v_Net_count W H_r133) rfl (W.2.1 _ _ H_r133 (by decide) (by decide)) rfl (by omega) (by omega) ⟨by omega, by omega⟩ (by omega) (by omega) (fun h162 T_h162 b_h162 f_h162 y_h162 => ?_)
                      have A_h162 := A_h159.put T_h162 b_h162 f_h162 H_r133 (bAll_ok (by decide) _)
                      have qq35 : zsl h162 k0 0 = yR r133 := ((f_h162 k0 0).trans (if_neg (fun e => (bRo.ne H_k0 H_r133 (by decide)) e.1))).trans qq34
                      have : ys h162 r133 (4 : Int).toNat = z161 + 1 := (y_h162 r133 _).trans (if_pos ⟨rfl, rfl⟩)
                      refine yG.load xak rfl (fun _ _ => rfl) (v := yR k1) rfl rfl ?_
                      refine yG.num (c := 59) rfl (fun _ _ => rfl) (by decide) ?_
                      refine yG.invV (rest := []) A_h162.1 (bOb (d_Tape W) H_k1) rfl rfl rfl rfl (c_Tape_isSign W (d + 3) A_h162.1 H_k1 (59) (by omega) (by omega)) (fun rv hp9 q9 => ?_)
                      obtain ⟨⟨z163, rfl, l_z163, u_z163, R_z163⟩, e9⟩ := q9
                      rw [e9]
                      show yG _ _ _ _ _ _ _ _ _ _ (yI z163 :: []) _
                      refine yG.ret rfl (fun _ _ => rfl) ?_
                      exact (yP.bool (by omega) ⟨⟨z163, rfl, by omega, by omega, trivial⟩, A_h162⟩)
                    · have c158 : (4 : Int) = 3 := c158
                      exfalso; omega
                  · have c157 : (z156 : Int) = 0 := c157
                    refine yG.num (c := 0) rfl (fun _ _ => rfl) (by decide) ?_
                    refine yG.ret rfl (fun _ _ => rfl) ?_
                    exact (yP.bool (by omega) ⟨⟨0, rfl, by omega, by omega, trivial⟩, A_h155⟩)
                · have c154 : (4 : Int) = 1 := c154
                  exfalso; omega
            · have c144 : (z143 : Int) ≠ (-1) := c144
              refine yG.num (c := 0) rfl (fun _ _ => rfl) (by decide) ?_
              refine yG.ret rfl (fun _ _ => rfl) ?_
              exact (yP.bool (by omega) ⟨⟨0, rfl, by omega, by omega, trivial⟩, A_h138⟩)
        · have c136 : (z134 : Int) ≥ 12 := c136
          refine yG.num (c := 0) rfl (fun _ _ => rfl) (by decide) ?_
          refine yG.ret rfl (fun _ _ => rfl) ?_
          exact (yP.bool (by omega) ⟨⟨0, rfl, by omega, by omega, trivial⟩, A_hp⟩)
theorem c_Net_read {hp : xH} (W : bW G) (d : Nat) (hT : zTy G hp) (M_bSh : bSh G hp) {k0 : Nat} (H_k0 : bRo G 18 k0) {k1 : Nat} (H_k1 : bRo G 15 k1) : yC (xcall 89 xfts xpools xms (d + 6)) 164 [yR k0, yR k1] hp (fun rv hp' => (bQi G [(32768, 2), (294912, 3), (262144, 4), (294912, 5), (294912, 6), (294912, 7), (4291297280, 256)] hp (-4001) 16 (fun _ => True)) rv hp' ∧ bSh G hp') := by
  have A_hp : bAx G [(32768, 2), (294912, 3), (262144, 4), (294912, 5), (294912, 6), (294912, 7), (4291297280, 256)] hp hp := bAx.rf hT
  have M_bSh_hp := M_bSh
  have H : ∀ m : Nat, (∀ a2 : Int, ∀ hq, bAx G [(32768, 2), (294912, 3), (262144, 4), (294912, 5), (294912, 6), (294912, 7), (4291297280, 256)] hp hq → bSh G hq → 0 ≤ a2 → (-5) ≤ 0 - a2 → 0 - 8003 * a2 + 48017 < (m : Int) → yG 89 xfts (xcall 89 xfts xpools xms (d + 5)) (xpool xp_RX5) [] xt_X5_read (yP 1 (fun rv hp' => (bQi G [(32768, 2), (294912, 3), (262144, 4), (294912, 5), (294912, 6), (294912, 7), (4291297280, 256)] hp (-4001) 16 (fun _ => True)) rv hp' ∧ bSh G hp')) (17 * m) 2 [(0, yR k0), (1, yR k1), (2, yI (a2))] [] hq) ∧ (∀ a2 : Int, ∀ hq, bAx G [(32768, 2), (294912, 3), (262144, 4), (294912, 5), (294912, 6), (294912, 7), (4291297280, 256)] hp hq → bSh G hq → 0 ≤ a2 → (-4000) ≤ 0 - a2 → 0 - 2 * a2 + 8001 < (m : Int) → yG 89 xfts (xcall 89 xfts xpools xms (d + 5)) (xpool xp_RX5) [] xt_X5_read (yP 1 (fun rv hp' => (bQi G [(32768, 2), (294912, 3), (262144, 4), (294912, 5), (294912, 6), (294912, 7), (4291297280, 256)] hp (-4001) 16 (fun _ => True)) rv hp' ∧ bSh G hp')) (17 * m) 35 [(0, yR k0), (1, yR k1), (2, yI (a2))] [] hq) := by
    intro m
    induction m with
    | zero =>
      refine ⟨?_, ?_⟩ <;> (intros; exfalso; omega)
    | succ m ih =>
      obtain ⟨i_2, i_35⟩ := ih
      refine ⟨?_, ?_⟩
      · intro a2 hq A_hq M_bSh_hq f0 f1 hm
        refine yG.mono (N := 17 * m + 17) ?_ (by omega)
        rcases (show a2 = 0 ∨ a2 = 1 ∨ a2 = 2 ∨ a2 = 3 ∨ a2 = 4 ∨ a2 = 5 by omega) with c1 | c1 | c1 | c1 | c1 | c1
        · subst c1
          refine yG.load xik rfl (fun _ _ => rfl) (v := yI (0)) rfl rfl ?_
          refine yG.num (c := 5) rfl (fun _ _ => rfl) (by decide) ?_
          refine yG.icmp rfl (t := 20) rfl ⟨by omega, by omega⟩ ⟨by omega, by omega⟩ (fun c2 => ?_) (fun c2 => ?_)
          · have c2 : (0 : Int) ≥ 5 := c2
            exfalso; omega
          · have c2 : (0 : Int) < 5 := c2
            refine yG.load xak rfl (fun _ _ => rfl) (v := yR k0) rfl rfl ?_
            refine yG.getO A_hq.1 (w_Net_count W H_k0) rfl rfl (fun r3 H_r3 O_r3 q_r3 => ?_)
            refine yG.load xik rfl (fun _ _ => rfl) (v := yI (0)) rfl rfl ?_
            refine yG.num (c := 0) rfl (fun _ _ => rfl) (by decide) ?_
            refine yG.iastF A_hq.1 (v_Net_count W H_r3) rfl (W.2.1 _ _ H_r3 (by decide) (by decide)) rfl (by omega) (by omega) ⟨by omega, by omega⟩ (by omega) (by omega) (fun h4 T_h4 b_h4 f_h4 y_h4 => ?_)
            have M_bSh_h4 := M_bSh_hq.fr (bAx.put (Wl := [(524288, 256)]) (bAx.rf A_hq.1) T_h4 b_h4 f_h4 H_r3 (bAll_ok (by decide) _)) (by decide)
            have A_h4 := A_hq.put T_h4 b_h4 f_h4 H_r3 (bAll_ok (by decide) _)
            refine yG.iinc rfl (a := 0) rfl (L' := [(2, yI (0 + 1)), (0, yR k0), (1, yR k1)]) rfl ?_
            refine yG.goto rfl (t := 2) rfl ?_
            exact yG.mono (yG.sub (i_2 (0 + 1)  h4 A_h4 M_bSh_h4   (by omega) (by omega) (by omega)) (ySub.cons rfl (ySub.cons rfl (ySub.cons rfl (ySub.nil))))) (by omega)
        · subst c1
          refine yG.load xik rfl (fun _ _ => rfl) (v := yI (1)) rfl rfl ?_
          refine yG.num (c := 5) rfl (fun _ _ => rfl) (by decide) ?_
          refine yG.icmp rfl (t := 20) rfl ⟨by omega, by omega⟩ ⟨by omega, by omega⟩ (fun c5 => ?_) (fun c5 => ?_)
          · have c5 : (1 : Int) ≥ 5 := c5
            exfalso; omega
          · have c5 : (1 : Int) < 5 := c5
            refine yG.load xak rfl (fun _ _ => rfl) (v := yR k0) rfl rfl ?_
            refine yG.getO A_hq.1 (w_Net_count W H_k0) rfl rfl (fun r6 H_r6 O_r6 q_r6 => ?_)
            refine yG.load xik rfl (fun _ _ => rfl) (v := yI (1)) rfl rfl ?_
            refine yG.num (c := 0) rfl (fun _ _ => rfl) (by decide) ?_
            refine yG.iastF A_hq.1 (v_Net_count W H_r6) rfl (W.2.1 _ _ H_r6 (by decide) (by decide)) rfl (by omega) (by omega) ⟨by omega, by omega⟩ (by omega) (by omega) (fun h7 T_h7 b_h7 f_h7 y_h7 => ?_)
            have M_bSh_h7 := M_bSh_hq.fr (bAx.put (Wl := [(524288, 256)]) (bAx.rf A_hq.1) T_h7 b_h7 f_h7 H_r6 (bAll_ok (by decide) _)) (by decide)
            have A_h7 := A_hq.put T_h7 b_h7 f_h7 H_r6 (bAll_ok (by decide) _)
            refine yG.iinc rfl (a := 1) rfl (L' := [(2, yI (1 + 1)), (0, yR k0), (1, yR k1)]) rfl ?_
            refine yG.goto rfl (t := 2) rfl ?_
            exact yG.mono (yG.sub (i_2 (1 + 1)  h7 A_h7 M_bSh_h7   (by omega) (by omega) (by omega)) (ySub.cons rfl (ySub.cons rfl (ySub.cons rfl (ySub.nil))))) (by omega)
        · subst c1
          refine yG.load xik rfl (fun _ _ => rfl) (v := yI (2)) rfl rfl ?_
          refine yG.num (c := 5) rfl (fun _ _ => rfl) (by decide) ?_
          refine yG.icmp rfl (t := 20) rfl ⟨by omega, by omega⟩ ⟨by omega, by omega⟩ (fun c8 => ?_) (fun c8 => ?_)
          · have c8 : (2 : Int) ≥ 5 := c8
            exfalso; omega
          · have c8 : (2 : Int) < 5 := c8
            refine yG.load xak rfl (fun _ _ => rfl) (v := yR k0) rfl rfl ?_
            refine yG.getO A_hq.1 (w_Net_count W H_k0) rfl rfl (fun r9 H_r9 O_r9 q_r9 => ?_)
            refine yG.load xik rfl (fun _ _ => rfl) (v := yI (2)) rfl rfl ?_
            refine yG.num (c := 0) rfl (fun _ _ => rfl) (by decide) ?_
            refine yG.iastF A_hq.1 (v_Net_count W H_r9) rfl (W.2.1 _ _ H_r9 (by decide) (by decide)) rfl (by omega) (by omega) ⟨by omega, by omega⟩ (by omega) (by omega) (fun h10 T_h10 b_h10 f_h10 y_h10 => ?_)
            have M_bSh_h10 := M_bSh_hq.fr (bAx.put (Wl := [(524288, 256)]) (bAx.rf A_hq.1) T_h10 b_h10 f_h10 H_r9 (bAll_ok (by decide) _)) (by decide)
            have A_h10 := A_hq.put T_h10 b_h10 f_h10 H_r9 (bAll_ok (by decide) _)
            refine yG.iinc rfl (a := 2) rfl (L' := [(2, yI (2 + 1)), (0, yR k0), (1, yR k1)]) rfl ?_
            refine yG.goto rfl (t := 2) rfl ?_
            exact yG.mono (yG.sub (i_2 (2 + 1)  h10 A_h10 M_bSh_h10   (by omega) (by omega) (by omega)) (ySub.cons rfl (ySub.cons rfl (ySub.cons rfl (ySub.nil))))) (by omega)
        · subst c1
          refine yG.load xik rfl (fun _ _ => rfl) (v := yI (3)) rfl rfl ?_
          refine yG.num (c := 5) rfl (fun _ _ => rfl) (by decide) ?_
          refine yG.icmp rfl (t := 20) rfl ⟨by omega, by omega⟩ ⟨by omega, by omega⟩ (fun c11 => ?_) (fun c11 => ?_)
          · have c11 : (3 : Int) ≥ 5 := c11
            exfalso; omega
          · have c11 : (3 : Int) < 5 := c11
            refine yG.load xak rfl (fun _ _ => rfl) (v := yR k0) rfl rfl ?_
            refine yG.getO A_hq.1 (w_Net_count W H_k0) rfl rfl (fun r12 H_r12 O_r12 q_r12 => ?_)
            refine yG.load xik rfl (fun _ _ => rfl) (v := yI (3)) rfl rfl ?_
            refine yG.num (c := 0) rfl (fun _ _ => rfl) (by decide) ?_
            refine yG.iastF A_hq.1 (v_Net_count W H_r12) rfl (W.2.1 _ _ H_r12 (by decide) (by decide)) rfl (by omega) (by omega) ⟨by omega, by omega⟩ (by omega) (by omega) (fun h13 T_h13 b_h13 f_h13 y_h13 => ?_)
            have M_bSh_h13 := M_bSh_hq.fr (bAx.put (Wl := [(524288, 256)]) (bAx.rf A_hq.1) T_h13 b_h13 f_h13 H_r12 (bAll_ok (by decide) _)) (by decide)
            have A_h13 := A_hq.put T_h13 b_h13 f_h13 H_r12 (bAll_ok (by decide) _)
            refine yG.iinc rfl (a := 3) rfl (L' := [(2, yI (3 + 1)), (0, yR k0), (1, yR k1)]) rfl ?_
            refine yG.goto rfl (t := 2) rfl ?_
            exact yG.mono (yG.sub (i_2 (3 + 1)  h13 A_h13 M_bSh_h13   (by omega) (by omega) (by omega)) (ySub.cons rfl (ySub.cons rfl (ySub.cons rfl (ySub.nil))))) (by omega)
        · subst c1
          refine yG.load xik rfl (fun _ _ => rfl) (v := yI (4)) rfl rfl ?_
          refine yG.num (c := 5) rfl (fun _ _ => rfl) (by decide) ?_
          refine yG.icmp rfl (t := 20) rfl ⟨by omega, by omega⟩ ⟨by omega, by omega⟩ (fun c14 => ?_) (fun c14 => ?_)
          · have c14 : (4 : Int) ≥ 5 := c14
            exfalso; omega
          · have c14 : (4 : Int) < 5 := c14
            refine yG.load xak rfl (fun _ _ => rfl) (v := yR k0) rfl rfl ?_
            refine yG.getO A_hq.1 (w_Net_count W H_k0) rfl rfl (fun r15 H_r15 O_r15 q_r15 => ?_)
            refine yG.load xik rfl (fun _ _ => rfl) (v := yI (4)) rfl rfl ?_
            refine yG.num (c := 0) rfl (fun _ _ => rfl) (by decide) ?_
            refine yG.iastF A_hq.1 (v_Net_count W H_r15) rfl (W.2.1 _ _ H_r15 (by decide) (by decide)) rfl (by omega) (by omega) ⟨by omega, by omega⟩ (by omega) (by omega) (fun h16 T_h16 b_h16 f_h16 y_h16 => ?_)
            have M_bSh_h16 := M_bSh_hq.fr (bAx.put (Wl := [(524288, 256)]) (bAx.rf A_hq.1) T_h16 b_h16 f_h16 H_r15 (bAll_ok (by decide) _)) (by decide)
            have A_h16 := A_hq.put T_h16 b_h16 f_h16 H_r15 (bAll_ok (by decide) _)
            refine yG.iinc rfl (a := 4) rfl (L' := [(2, yI (4 + 1)), (0, yR k0), (1, yR k1)]) rfl ?_
            refine yG.goto rfl (t := 2) rfl ?_
            exact yG.mono (yG.sub (i_2 (4 + 1)  h16 A_h16 M_bSh_h16   (by omega) (by omega) (by omega)) (ySub.cons rfl (ySub.cons rfl (ySub.cons rfl (ySub.nil))))) (by omega)
        · subst c1
          refine yG.load xik rfl (fun _ _ => rfl) (v := yI (5)) rfl rfl ?_
          refine yG.num (c := 5) rfl (fun _ _ => rfl) (by decide) ?_
          refine yG.icmp rfl (t := 20) rfl ⟨by omega, by omega⟩ ⟨by omega, by omega⟩ (fun c17 => ?_) (fun c17 => ?_)
          · have c17 : (5 : Int) ≥ 5 := c17
            refine yG.load xak rfl (fun _ _ => rfl) (v := yR k0) rfl rfl ?_
            refine yG.num (c := -1) rfl (fun _ _ => rfl) (by decide) ?_
            refine yG.num (c := -1) rfl (fun _ _ => rfl) (by decide) ?_
            refine yG.num (c := -1) rfl (fun _ _ => rfl) (by decide) ?_
            refine yG.num (c := 0) rfl (fun _ _ => rfl) (by decide) ?_
            refine yG.num (c := 0) rfl (fun _ _ => rfl) (by decide) ?_
            refine yG.invV (rest := []) A_hq.1 (bOb (d_Net W) H_k0) rfl rfl rfl rfl (c_Net_putShort W (d + 4) A_hq.1 M_bSh_hq H_k0 ((-1)) ((-1)) ((-1)) (0) (0) (by omega) (by omega) (by omega) (by omega) (by omega) (by omega) (by omega) (by omega) (by omega) (by omega) (by omega)) (fun rv h18 q9 => ?_)
            obtain ⟨q9, M_bSh_h18⟩ := q9
            obtain ⟨⟨rfl, R_z19⟩, B_h18⟩ := q9
            have A_h18 := A_hq.tr B_h18 (by decide)
            show yG _ _ _ _ _ _ _ _ _ _ [] _
            refine yG.load xak rfl (fun _ _ => rfl) (v := yR k1) rfl rfl ?_
            refine yG.invV (rest := []) A_h18.1 (bOb (d_Tape W) H_k1) rfl rfl rfl rfl (c_Tape_rewind W (d + 4) A_h18.1 H_k1) (fun rv h20 q9 => ?_)
            obtain ⟨⟨rfl, R_z21⟩, B_h20⟩ := q9
            have A_h20 := A_h18.tr B_h20 (by decide)
            have M_bSh_h20 := M_bSh_h18.fr B_h20 (by decide)
            show yG _ _ _ _ _ _ _ _ _ _ [] _
            refine yG.num (c := 0) rfl (fun _ _ => rfl) (by decide) ?_
            refine yG.store1 xik (L' := [(2, yI (0)), (0, yR k0), (1, yR k1)]) rfl (fun _ _ => rfl) rfl rfl ?_
            exact yG.mono (yG.sub (i_35 (0)  h20 A_h20 M_bSh_h20   (by omega) (by omega) (by omega)) (ySub.cons rfl (ySub.cons rfl (ySub.cons rfl (ySub.nil))))) (by omega)
          · have c17 : (5 : Int) < 5 := c17
            exfalso; omega
      · intro a2 hq A_hq M_bSh_hq f0 f1 hm
        refine yG.mono (N := 17 * m + 17) ?_ (by omega)
        refine yG.load xik rfl (fun _ _ => rfl) (v := yI (a2)) rfl rfl ?_
        refine yG.num (c := 4000) rfl (fun _ _ => rfl) (by decide) ?_
        refine yG.icmp rfl (t := 70) rfl ⟨by omega, by omega⟩ ⟨by omega, by omega⟩ (fun c1 => ?_) (fun c1 => ?_)
        · have c1 : (a2 : Int) ≥ 4000 := c1
          refine yG.load xak rfl (fun _ _ => rfl) (v := yR k0) rfl rfl ?_
          refine yG.getO A_hq.1 (w_Net_count W H_k0) rfl rfl (fun r2 H_r2 O_r2 q_r2 => ?_)
          refine yG.num (c := 0) rfl (fun _ _ => rfl) (by decide) ?_
          refine yG.ialdF A_hq.1 (v_Net_count W H_r2) rfl rfl (by omega) (by omega) (fun z3 e_z3 i_z3 l_z3 u_z3 => ?_)
          refine yG.ret rfl (fun _ _ => rfl) ?_
          exact (yP.int ⟨by omega, by omega⟩ ⟨⟨⟨z3, rfl, by omega, by omega, trivial⟩, A_hq⟩, M_bSh_hq⟩)
        · have c1 : (a2 : Int) < 4000 := c1
          refine yG.load xak rfl (fun _ _ => rfl) (v := yR k1) rfl rfl ?_
          refine yG.invV (rest := []) A_hq.1 (bOb (d_Tape W) H_k1) rfl rfl rfl rfl (c_Tape_next W (d + 2) A_hq.1 H_k1) (fun rv h4 q9 => ?_)
          obtain ⟨⟨z5, rfl, l_z5, u_z5, R_z5⟩, B_h4⟩ := q9
          have A_h4 := A_hq.tr B_h4 (by decide)
          have M_bSh_h4 := M_bSh_hq.fr B_h4 (by decide)
          show yG _ _ _ _ _ _ _ _ _ _ (yI z5 :: []) _
          refine yG.ifz rfl (t := 70) rfl ⟨by omega, by omega⟩ (fun c6 => ?_) (fun c6 => ?_)
          · have c6 : (z5 : Int) = 0 := c6
            refine yG.load xak rfl (fun _ _ => rfl) (v := yR k0) rfl rfl ?_
            refine yG.getO A_h4.1 (w_Net_count W H_k0) rfl rfl (fun r7 H_r7 O_r7 q_r7 => ?_)
            refine yG.num (c := 0) rfl (fun _ _ => rfl) (by decide) ?_
            refine yG.ialdF A_h4.1 (v_Net_count W H_r7) rfl rfl (by omega) (by omega) (fun z8 e_z8 i_z8 l_z8 u_z8 => ?_)
            refine yG.ret rfl (fun _ _ => rfl) ?_
            exact (yP.int ⟨by omega, by omega⟩ ⟨⟨⟨z8, rfl, by omega, by omega, trivial⟩, A_h4⟩, M_bSh_h4⟩)
          · have c6 : (z5 : Int) ≠ 0 := c6
            refine yG.load xak rfl (fun _ _ => rfl) (v := yR k0) rfl rfl ?_
            refine yG.load xak rfl (fun _ _ => rfl) (v := yR k1) rfl rfl ?_
            refine yG.invV (rest := []) A_h4.1 (bOb (d_Net W) H_k0) rfl rfl rfl rfl (c_Net_readObject W d A_h4.1 H_k0 H_k1) (fun rv h9 q9 => ?_)
            obtain ⟨⟨z10, rfl, l_z10, u_z10, R_z10⟩, B_h9⟩ := q9
            have A_h9 := A_h4.tr B_h9 (by decide)
            have M_bSh_h9 := M_bSh_h4.fr B_h9 (by decide)
            show yG _ _ _ _ _ _ _ _ _ _ (yI z10 :: []) _
            refine yG.ifz rfl (t := 64) rfl ⟨by omega, by omega⟩ (fun c11 => ?_) (fun c11 => ?_)
            · have c11 : (z10 : Int) ≠ 0 := c11
              refine yG.iinc rfl (a := a2) rfl (L' := [(2, yI (a2 + 1)), (0, yR k0), (1, yR k1)]) rfl ?_
              refine yG.goto rfl (t := 35) rfl ?_
              exact yG.mono (yG.sub (i_35 (a2 + 1)  h9 A_h9 M_bSh_h9   (by omega) (by omega) (by omega)) (ySub.cons rfl (ySub.cons rfl (ySub.cons rfl (ySub.nil))))) (by omega)
            · have c11 : (z10 : Int) = 0 := c11
              refine yG.num (c := -1) rfl (fun _ _ => rfl) (by decide) ?_
              refine yG.load xak rfl (fun _ _ => rfl) (v := yR k1) rfl rfl ?_
              refine yG.getI A_h9.1 (w_Tape_from W H_k1) rfl rfl (fun z12 e_z12 i_z12 l_z12 u_z12 => ?_)
              refine yG.isub rfl ?_
              refine yG.ret rfl (fun _ _ => rfl) ?_
              exact (yP.int ⟨by omega, by omega⟩ ⟨⟨⟨(-1) - z12, rfl, by omega, by omega, trivial⟩, A_h9⟩, M_bSh_h9⟩)
  refine yC.of (M := (xt_X5_read, (3, (1, (6, []))))) rfl rfl (N := 816340) (yfuel (by decide)) ?_
  show yG 89 xfts (xcall 89 xfts xpools xms (d + 5)) (xpool xp_RX5) [] xt_X5_read (yP 1 (fun rv hp' => (bQi G [(32768, 2), (294912, 3), (262144, 4), (294912, 5), (294912, 6), (294912, 7), (4291297280, 256)] hp (-4001) 16 (fun _ => True)) rv hp' ∧ bSh G hp')) 816340 0 [(0, yR k0), (1, yR k1)] [] hp
  obtain ⟨i_2, i_35⟩ := H 48019
  refine yG.num (c := 0) rfl (fun _ _ => rfl) (by decide) ?_
  refine yG.store1 xik (L' := [(2, yI (0)), (0, yR k0), (1, yR k1)]) rfl (fun _ _ => rfl) rfl rfl ?_
  exact yG.mono (yG.sub (i_2 (0)  hp A_hp M_bSh_hp   (by omega) (by omega) (by omega)) (ySub.cons rfl (ySub.cons rfl (ySub.cons rfl (ySub.nil))))) (by omega)
end BNet
