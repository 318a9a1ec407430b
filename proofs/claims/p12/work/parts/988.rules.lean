/-! ===== the class: rules, printed by a program ===== -/
section BRules
variable {G : zW}
theorem c_Rules_clear {hp : xH} (W : bW G) (d : Nat) (hT : zTy G hp) {k0 : Nat} (H_k0 : bRo G 107 k0) : yC (xcall 89 xfts xpools xms (d + 1)) 189 [yR k0] hp (fun rv hp' => (rv = none ∧ True) ∧ bAx G [(162259276829213363391578010288128, 6), (162259276829213363391578010288128, 9), (162259276829213363391578010288128, 19)] hp hp') := by
  have A_hp : bAx G [(162259276829213363391578010288128, 6), (162259276829213363391578010288128, 9), (162259276829213363391578010288128, 19)] hp hp := bAx.rf hT
  refine yC.of (M := (xt_X7_clear, (1, (0, (8, []))))) rfl rfl (N := 36) (yfuel (by decide)) ?_
  show yG 89 xfts (xcall 89 xfts xpools xms d) (xpool xp_RX7) [] xt_X7_clear (yP 0 (fun rv hp' => (rv = none ∧ True) ∧ bAx G [(162259276829213363391578010288128, 6), (162259276829213363391578010288128, 9), (162259276829213363391578010288128, 19)] hp hp')) 36 0 [(0, yR k0)] [] hp
  refine yG.load xak rfl (fun _ _ => rfl) (v := yR k0) rfl rfl ?_
  refine yG.num (c := 0) rfl (fun _ _ => rfl) (by decide) ?_
  refine yG.putI A_hp.1 (w_Rules_count W H_k0) (W.2.1 _ _ H_k0 (by decide) (by decide)) rfl rfl (.inl rfl) ⟨by omega, by omega⟩ (by omega) (by omega) (fun h1 T_h1 b_h1 f_h1 y_h1 => ?_)
  have A_h1 := A_hp.put T_h1 b_h1 f_h1 H_k0 (by decide)
  refine yG.load xak rfl (fun _ _ => rfl) (v := yR k0) rfl rfl ?_
  refine yG.num (c := 0) rfl (fun _ _ => rfl) (by decide) ?_
  refine yG.putI A_h1.1 (w_Rules_stepCount W H_k0) (W.2.1 _ _ H_k0 (by decide) (by decide)) rfl rfl (.inl rfl) ⟨by omega, by omega⟩ (by omega) (by omega) (fun h2 T_h2 b_h2 f_h2 y_h2 => ?_)
  have A_h2 := A_h1.put T_h2 b_h2 f_h2 H_k0 (by decide)
  refine yG.load xak rfl (fun _ _ => rfl) (v := yR k0) rfl rfl ?_
  refine yG.num (c := 0) rfl (fun _ _ => rfl) (by decide) ?_
  refine yG.putI A_h2.1 (w_Rules_foundCount W H_k0) (W.2.1 _ _ H_k0 (by decide) (by decide)) rfl rfl (.inl rfl) ⟨by omega, by omega⟩ (by omega) (by omega) (fun h3 T_h3 b_h3 f_h3 y_h3 => ?_)
  have A_h3 := A_h2.put T_h3 b_h3 f_h3 H_k0 (by decide)
  refine yG.ret rfl (fun _ _ => rfl) ?_
  exact (yP.void ⟨⟨rfl, trivial⟩, A_h3⟩)
theorem c_Rules_actOf {hp : xH} (W : bW G) (d : Nat) (hT : zTy G hp) (p0 : Int) (h0l : (-2147483648) ≤ p0) (h0u : p0 ≤ 2147483647) : yC (xcall 89 xfts xpools xms (d + 1)) 186 [yI (p0)] hp (bQpi hp (-1) 5 (fun z => 0 ≤ p0 - z + 2147483647)) := by
  have A_hp : bAx G [] hp hp := bAx.rf hT
  refine yC.of (M := (xt_X7_actOf, (1, (1, (8, []))))) rfl rfl (N := 18) (yfuel (by decide)) ?_
  show yG 89 xfts (xcall 89 xfts xpools xms d) (xpool xp_RX7) [] xt_X7_actOf (yP 1 (bQpi hp (-1) 5 (fun z => 0 ≤ p0 - z + 2147483647))) 18 0 [(0, yI (p0))] [] hp
  refine yG.load xik rfl (fun _ _ => rfl) (v := yI (p0)) rfl rfl ?_
  rcases (show (p0 < (5 : Int) ∨ (17 : Int) < p0) ∨ p0 = (5 : Int) ∨ p0 = (6 : Int) ∨ p0 = (7 : Int) ∨ p0 = (8 : Int) ∨ p0 = (9 : Int) ∨ p0 = (10 : Int) ∨ p0 = (11 : Int) ∨ p0 = (12 : Int) ∨ p0 = (13 : Int) ∨ p0 = (14 : Int) ∨ p0 = (15 : Int) ∨ p0 = (16 : Int) ∨ p0 = (17 : Int) by omega) with c1 | c1 | c1 | c1 | c1 | c1 | c1 | c1 | c1 | c1 | c1 | c1 | c1 | c1
  · skip
    refine yG.tswD (t := 80) rfl ⟨by omega, by omega⟩ c1 rfl ?_
    refine yG.num (c := -1) rfl (fun _ _ => rfl) (by decide) ?_
    refine yG.ret rfl (fun _ _ => rfl) ?_
    exact (yP.int ⟨by omega, by omega⟩ ⟨⟨(-1), rfl, by omega, by omega, by omega⟩, rfl⟩)
  · skip
    refine yG.tswC (i := 0) (t := 68) rfl ⟨by omega, by omega⟩ (by omega) (by omega) rfl rfl ?_
    refine yG.num (c := 0) rfl (fun _ _ => rfl) (by decide) ?_
    refine yG.ret rfl (fun _ _ => rfl) ?_
    exact (yP.int ⟨by omega, by omega⟩ ⟨⟨0, rfl, by omega, by omega, by omega⟩, rfl⟩)
  · skip
    refine yG.tswC (i := 1) (t := 80) rfl ⟨by omega, by omega⟩ (by omega) (by omega) rfl rfl ?_
    refine yG.num (c := -1) rfl (fun _ _ => rfl) (by decide) ?_
    refine yG.ret rfl (fun _ _ => rfl) ?_
    exact (yP.int ⟨by omega, by omega⟩ ⟨⟨(-1), rfl, by omega, by omega, by omega⟩, rfl⟩)
  · skip
    refine yG.tswC (i := 2) (t := 80) rfl ⟨by omega, by omega⟩ (by omega) (by omega) rfl rfl ?_
    refine yG.num (c := -1) rfl (fun _ _ => rfl) (by decide) ?_
    refine yG.ret rfl (fun _ _ => rfl) ?_
    exact (yP.int ⟨by omega, by omega⟩ ⟨⟨(-1), rfl, by omega, by omega, by omega⟩, rfl⟩)
  · skip
    refine yG.tswC (i := 3) (t := 80) rfl ⟨by omega, by omega⟩ (by omega) (by omega) rfl rfl ?_
    refine yG.num (c := -1) rfl (fun _ _ => rfl) (by decide) ?_
    refine yG.ret rfl (fun _ _ => rfl) ?_
    exact (yP.int ⟨by omega, by omega⟩ ⟨⟨(-1), rfl, by omega, by omega, by omega⟩, rfl⟩)
  · skip
    refine yG.tswC (i := 4) (t := 80) rfl ⟨by omega, by omega⟩ (by omega) (by omega) rfl rfl ?_
    refine yG.num (c := -1) rfl (fun _ _ => rfl) (by decide) ?_
    refine yG.ret rfl (fun _ _ => rfl) ?_
    exact (yP.int ⟨by omega, by omega⟩ ⟨⟨(-1), rfl, by omega, by omega, by omega⟩, rfl⟩)
  · skip
    refine yG.tswC (i := 5) (t := 80) rfl ⟨by omega, by omega⟩ (by omega) (by omega) rfl rfl ?_
    refine yG.num (c := -1) rfl (fun _ _ => rfl) (by decide) ?_
    refine yG.ret rfl (fun _ _ => rfl) ?_
    exact (yP.int ⟨by omega, by omega⟩ ⟨⟨(-1), rfl, by omega, by omega, by omega⟩, rfl⟩)
  · skip
    refine yG.tswC (i := 6) (t := 80) rfl ⟨by omega, by omega⟩ (by omega) (by omega) rfl rfl ?_
    refine yG.num (c := -1) rfl (fun _ _ => rfl) (by decide) ?_
    refine yG.ret rfl (fun _ _ => rfl) ?_
    exact (yP.int ⟨by omega, by omega⟩ ⟨⟨(-1), rfl, by omega, by omega, by omega⟩, rfl⟩)
  · skip
    refine yG.tswC (i := 7) (t := 80) rfl ⟨by omega, by omega⟩ (by omega) (by omega) rfl rfl ?_
    refine yG.num (c := -1) rfl (fun _ _ => rfl) (by decide) ?_
    refine yG.ret rfl (fun _ _ => rfl) ?_
    exact (yP.int ⟨by omega, by omega⟩ ⟨⟨(-1), rfl, by omega, by omega, by omega⟩, rfl⟩)
  · skip
    refine yG.tswC (i := 8) (t := 70) rfl ⟨by omega, by omega⟩ (by omega) (by omega) rfl rfl ?_
    refine yG.num (c := 1) rfl (fun _ _ => rfl) (by decide) ?_
    refine yG.ret rfl (fun _ _ => rfl) ?_
    exact (yP.int ⟨by omega, by omega⟩ ⟨⟨1, rfl, by omega, by omega, by omega⟩, rfl⟩)
  · skip
    refine yG.tswC (i := 9) (t := 72) rfl ⟨by omega, by omega⟩ (by omega) (by omega) rfl rfl ?_
    refine yG.num (c := 2) rfl (fun _ _ => rfl) (by decide) ?_
    refine yG.ret rfl (fun _ _ => rfl) ?_
    exact (yP.int ⟨by omega, by omega⟩ ⟨⟨2, rfl, by omega, by omega, by omega⟩, rfl⟩)
  · skip
    refine yG.tswC (i := 10) (t := 74) rfl ⟨by omega, by omega⟩ (by omega) (by omega) rfl rfl ?_
    refine yG.num (c := 3) rfl (fun _ _ => rfl) (by decide) ?_
    refine yG.ret rfl (fun _ _ => rfl) ?_
    exact (yP.int ⟨by omega, by omega⟩ ⟨⟨3, rfl, by omega, by omega, by omega⟩, rfl⟩)
  · skip
    refine yG.tswC (i := 11) (t := 76) rfl ⟨by omega, by omega⟩ (by omega) (by omega) rfl rfl ?_
    refine yG.num (c := 4) rfl (fun _ _ => rfl) (by decide) ?_
    refine yG.ret rfl (fun _ _ => rfl) ?_
    exact (yP.int ⟨by omega, by omega⟩ ⟨⟨4, rfl, by omega, by omega, by omega⟩, rfl⟩)
  · skip
    refine yG.tswC (i := 12) (t := 78) rfl ⟨by omega, by omega⟩ (by omega) (by omega) rfl rfl ?_
    refine yG.num (c := 5) rfl (fun _ _ => rfl) (by decide) ?_
    refine yG.ret rfl (fun _ _ => rfl) ?_
    exact (yP.int ⟨by omega, by omega⟩ ⟨⟨5, rfl, by omega, by omega, by omega⟩, rfl⟩)
theorem c_Rules_put {hp : xH} (W : bW G) (d : Nat) (hT : zTy G hp) {k0 : Nat} (H_k0 : bRo G 107 k0) (p1 : Int) (h1l : (-2147483648) ≤ p1) (h1u : p1 ≤ 2147483647) : yC (xcall 89 xfts xpools xms (d + 1)) 200 [yR k0, yI (p1)] hp (fun rv hp' => (rv = none ∧ True) ∧ bAx G [(162259276829213363391578010288128, 3), (324518553658426726783156020576256, 256)] hp hp') := by
  have A_hp : bAx G [(162259276829213363391578010288128, 3), (324518553658426726783156020576256, 256)] hp hp := bAx.rf hT
  refine yC.of (M := (xt_X7_put, (2, (0, (8, []))))) rfl rfl (N := 57) (yfuel (by decide)) ?_
  show yG 89 xfts (xcall 89 xfts xpools xms d) (xpool xp_RX7) [] xt_X7_put (yP 0 (fun rv hp' => (rv = none ∧ True) ∧ bAx G [(162259276829213363391578010288128, 3), (324518553658426726783156020576256, 256)] hp hp')) 57 0 [(0, yR k0), (1, yI (p1))] [] hp
  refine yG.load xak rfl (fun _ _ => rfl) (v := yR k0) rfl rfl ?_
  refine yG.getI A_hp.1 (w_Rules_drafted W H_k0) rfl rfl (fun z1 e_z1 i_z1 l_z1 u_z1 => ?_)
  refine yG.num (c := 2048) rfl (fun _ _ => rfl) (by decide) ?_
  refine yG.icmp rfl (t := 30) rfl ⟨by omega, by omega⟩ ⟨by omega, by omega⟩ (fun c2 => ?_) (fun c2 => ?_)
  · have c2 : (z1 : Int) ≥ 2048 := c2
    refine yG.ret rfl (fun _ _ => rfl) ?_
    exact (yP.void ⟨⟨rfl, trivial⟩, A_hp⟩)
  · have c2 : (z1 : Int) < 2048 := c2
    refine yG.load xak rfl (fun _ _ => rfl) (v := yR k0) rfl rfl ?_
    refine yG.getO A_hp.1 (w_Rules_draft W H_k0) rfl rfl (fun r3 H_r3 O_r3 q_r3 => ?_)
    refine yG.load xak rfl (fun _ _ => rfl) (v := yR k0) rfl rfl ?_
    refine yG.getI A_hp.1 (w_Rules_drafted W H_k0) rfl rfl (fun z4 e_z4 i_z4 l_z4 u_z4 => ?_)
    rw [show (z4 : Int) = z1 by omega]
    refine yG.load xik rfl (fun _ _ => rfl) (v := yI (p1)) rfl rfl ?_
    refine yG.iast A_hp.1 (v_Rules_code W H_r3) (W.2.1 _ _ H_r3 (by decide) (by decide)) rfl (by omega) (by omega) ⟨by omega, by omega⟩ (by omega) (by omega) (fun h5 T_h5 b_h5 f_h5 y_h5 => ?_)
    have A_h5 := A_hp.put T_h5 b_h5 f_h5 H_r3 (bAll_ok (by decide) _)
    have : ys h5 k0 3 = ys hp k0 3 := (y_h5 k0 3).trans (if_neg (fun e => (bRo.ne H_k0 H_r3 (by decide)) e.1))
    refine yG.load xak rfl (fun _ _ => rfl) (v := yR k0) rfl rfl ?_
    refine yG.step (pc' := 22) (stk' := [yR k0, yR k0]) rfl (fun _ _ => rfl) ?_
    refine yG.getI A_h5.1 (w_Rules_drafted W H_k0) rfl rfl (fun z6 e_z6 i_z6 l_z6 u_z6 => ?_)
    rw [show (z6 : Int) = z1 by omega]
    refine yG.num (c := 1) rfl (fun _ _ => rfl) (by decide) ?_
    refine yG.iadd rfl ?_
    refine yG.putI A_h5.1 (w_Rules_drafted W H_k0) (W.2.1 _ _ H_k0 (by decide) (by decide)) rfl rfl (.inl rfl) ⟨by omega, by omega⟩ (by omega) (by omega) (fun h7 T_h7 b_h7 f_h7 y_h7 => ?_)
    have A_h7 := A_h5.put T_h7 b_h7 f_h7 H_k0 (by decide)
    have : ys h7 k0 3 = z1 + 1 := (y_h7 k0 3).trans (if_pos ⟨rfl, rfl⟩)
    refine yG.ret rfl (fun _ _ => rfl) ?_
    exact (yP.void ⟨⟨rfl, trivial⟩, A_h7⟩)
theorem c_Rules_push {hp : xH} (W : bW G) (d : Nat) (hT : zTy G hp) {k0 : Nat} (H_k0 : bRo G 107 k0) (p1 : Int) (h1l : (-2147483648) ≤ p1) (h1u : p1 ≤ 2147483647) : yC (xcall 89 xfts xpools xms (d + 1)) 199 [yR k0, yI (p1)] hp (fun rv hp' => (rv = none ∧ True) ∧ bAx G [(162259276829213363391578010288128, 5), (649037107316853453566312041152512, 256)] hp hp') := by
  have A_hp : bAx G [(162259276829213363391578010288128, 5), (649037107316853453566312041152512, 256)] hp hp := bAx.rf hT
  refine yC.of (M := (xt_X7_push, (2, (0, (8, []))))) rfl rfl (N := 63) (yfuel (by decide)) ?_
  show yG 89 xfts (xcall 89 xfts xpools xms d) (xpool xp_RX7) [] xt_X7_push (yP 0 (fun rv hp' => (rv = none ∧ True) ∧ bAx G [(162259276829213363391578010288128, 5), (649037107316853453566312041152512, 256)] hp hp')) 63 0 [(0, yR k0), (1, yI (p1))] [] hp
  refine yG.load xak rfl (fun _ _ => rfl) (v := yR k0) rfl rfl ?_
  refine yG.getI A_hp.1 (w_Rules_waitCount W H_k0) rfl rfl (fun z1 e_z1 i_z1 l_z1 u_z1 => ?_)
  refine yG.load xak rfl (fun _ _ => rfl) (v := yR k0) rfl rfl ?_
  refine yG.getO A_hp.1 (w_Rules_waiting W H_k0) rfl rfl (fun r2 H_r2 O_r2 q_r2 => ?_)
  refine yG.alenF A_hp.1 (v_Rules_waiting W H_r2).yIF rfl ?_
  obtain ⟨z3, e_z3⟩ : ∃ z : Int, z = ((64 : Nat) : Int) := ⟨_, rfl⟩
  rw [← e_z3]
  refine yG.icmp rfl (t := 32) rfl ⟨by omega, by omega⟩ ⟨by omega, by omega⟩ (fun c4 => ?_) (fun c4 => ?_)
  · have c4 : (z1 : Int) ≥ z3 := c4
    refine yG.ret rfl (fun _ _ => rfl) ?_
    exact (yP.void ⟨⟨rfl, trivial⟩, A_hp⟩)
  · have c4 : (z1 : Int) < z3 := c4
    refine yG.load xak rfl (fun _ _ => rfl) (v := yR k0) rfl rfl ?_
    refine yG.getS9 A_hp.1 (w_Rules_waiting W H_k0) q_r2 rfl rfl ?_
    refine yG.load xak rfl (fun _ _ => rfl) (v := yR k0) rfl rfl ?_
    refine yG.getI A_hp.1 (w_Rules_waitCount W H_k0) rfl rfl (fun z5 e_z5 i_z5 l_z5 u_z5 => ?_)
    rw [show (z5 : Int) = z1 by omega]
    refine yG.load xik rfl (fun _ _ => rfl) (v := yI (p1)) rfl rfl ?_
    refine yG.iast A_hp.1 (v_Rules_waiting W H_r2) (W.2.1 _ _ H_r2 (by decide) (by decide)) rfl (by omega) (by omega) ⟨by omega, by omega⟩ (by omega) (by omega) (fun h6 T_h6 b_h6 f_h6 y_h6 => ?_)
    have A_h6 := A_hp.put T_h6 b_h6 f_h6 H_r2 (bAll_ok (by decide) _)
    have : ys h6 k0 5 = ys hp k0 5 := (y_h6 k0 5).trans (if_neg (fun e => (bRo.ne H_k0 H_r2 (by decide)) e.1))
    have qq1 : zsl h6 k0 4 = yR r2 := ((f_h6 k0 4).trans (if_neg (fun e => (bRo.ne H_k0 H_r2 (by decide)) e.1))).trans q_r2
    refine yG.load xak rfl (fun _ _ => rfl) (v := yR k0) rfl rfl ?_
    refine yG.step (pc' := 24) (stk' := [yR k0, yR k0]) rfl (fun _ _ => rfl) ?_
    refine yG.getI A_h6.1 (w_Rules_waitCount W H_k0) rfl rfl (fun z7 e_z7 i_z7 l_z7 u_z7 => ?_)
    rw [show (z7 : Int) = z1 by omega]
    refine yG.num (c := 1) rfl (fun _ _ => rfl) (by decide) ?_
    refine yG.iadd rfl ?_
    refine yG.putI A_h6.1 (w_Rules_waitCount W H_k0) (W.2.1 _ _ H_k0 (by decide) (by decide)) rfl rfl (.inl rfl) ⟨by omega, by omega⟩ (by omega) (by omega) (fun h8 T_h8 b_h8 f_h8 y_h8 => ?_)
    have A_h8 := A_h6.put T_h8 b_h8 f_h8 H_k0 (by decide)
    have qq2 : zsl h8 k0 4 = yR r2 := ((f_h8 k0 4).trans (if_neg (fun e => absurd e.2 (by decide)))).trans qq1
    have : ys h8 k0 5 = z1 + 1 := (y_h8 k0 5).trans (if_pos ⟨rfl, rfl⟩)
    refine yG.ret rfl (fun _ _ => rfl) ?_
    exact (yP.void ⟨⟨rfl, trivial⟩, A_h8⟩)
theorem c_Rules_release {hp : xH} (W : bW G) (d : Nat) (hT : zTy G hp) {k0 : Nat} (H_k0 : bRo G 107 k0) (p1 : Int) (h1l : (-2147483648) ≤ p1) (h1u : p1 ≤ 2147483647) : yC (xcall 89 xfts xpools xms (d + 2)) 208 [yR k0, yI (p1)] hp (fun rv hp' => (rv = none ∧ True) ∧ bAx G [(162259276829213363391578010288128, 3), (162259276829213363391578010288128, 5), (324518553658426726783156020576256, 256)] hp hp') := by
  have A_hp : bAx G [(162259276829213363391578010288128, 3), (162259276829213363391578010288128, 5), (324518553658426726783156020576256, 256)] hp hp := bAx.rf hT
  have H : ∀ m : Nat, (∀ gg0 : Int, ∀ hq, bAx G [(162259276829213363391578010288128, 3), (162259276829213363391578010288128, 5), (324518553658426726783156020576256, 256)] hp hq → ys hq k0 5 = gg0 → 0 ≤ gg0 → (-63) ≤ 0 - gg0 → (-2147483648) ≤ p1 → (-2147483647) ≤ 0 - p1 → 2 * gg0 + 1 < (m : Int) → yG 89 xfts (xcall 89 xfts xpools xms (d + 1)) (xpool xp_RX7) [] xt_X7_release (yP 0 (fun rv hp' => (rv = none ∧ True) ∧ bAx G [(162259276829213363391578010288128, 3), (162259276829213363391578010288128, 5), (324518553658426726783156020576256, 256)] hp hp')) (28 * m) 0 [(0, yR k0), (1, yI (p1))] [] hq) := by
    intro m
    induction m with
    | zero =>
      intros; exfalso; omega
    | succ m ih =>
      have i_0 := ih
      clear ih
      intro gg0 hq A_hq E_0 f0 f1 f2 f3 hm
      refine yG.mono (N := 28 * m + 28) ?_ (by omega)
      obtain ⟨-, -, g_0l, g_0u⟩ := (w_Rules_waitCount W H_k0).int A_hq.1
      refine yG.load xak rfl (fun _ _ => rfl) (v := yR k0) rfl rfl ?_
      refine yG.getI A_hq.1 (w_Rules_waitCount W H_k0) rfl rfl (fun z1 e_z1 i_z1 l_z1 u_z1 => ?_)
      rw [show (z1 : Int) = gg0 by omega]
      refine yG.ifz rfl (t := 48) rfl ⟨by omega, by omega⟩ (fun c2 => ?_) (fun c2 => ?_)
      · have c2 : (gg0 : Int) ≤ 0 := c2
        refine yG.ret rfl (fun _ _ => rfl) ?_
        exact (yP.void ⟨⟨rfl, trivial⟩, A_hq⟩)
      · have c2 : (gg0 : Int) > 0 := c2
        refine yG.load xak rfl (fun _ _ => rfl) (v := yR k0) rfl rfl ?_
        refine yG.getO A_hq.1 (w_Rules_waiting W H_k0) rfl rfl (fun r3 H_r3 O_r3 q_r3 => ?_)
        refine yG.load xak rfl (fun _ _ => rfl) (v := yR k0) rfl rfl ?_
        refine yG.getI A_hq.1 (w_Rules_waitCount W H_k0) rfl rfl (fun z4 e_z4 i_z4 l_z4 u_z4 => ?_)
        rw [show (z4 : Int) = gg0 by omega]
        refine yG.num (c := 1) rfl (fun _ _ => rfl) (by decide) ?_
        refine yG.isub rfl ?_
        refine yG.iald A_hq.1 (v_Rules_waiting W H_r3) rfl (by omega) (by omega) (fun z5 e_z5 i_z5 l_z5 u_z5 => ?_)
        refine yG.load xik rfl (fun _ _ => rfl) (v := yI (p1)) rfl rfl ?_
        refine yG.icmp rfl (t := 48) rfl ⟨by omega, by omega⟩ ⟨by omega, by omega⟩ (fun c6 => ?_) (fun c6 => ?_)
        · have c6 : (z5 : Int) > p1 := c6
          refine yG.ret rfl (fun _ _ => rfl) ?_
          exact (yP.void ⟨⟨rfl, trivial⟩, A_hq⟩)
        · have c6 : (z5 : Int) ≤ p1 := c6
          refine yG.load xak rfl (fun _ _ => rfl) (v := yR k0) rfl rfl ?_
          refine yG.step (pc' := 24) (stk' := [yR k0, yR k0]) rfl (fun _ _ => rfl) ?_
          refine yG.getI A_hq.1 (w_Rules_waitCount W H_k0) rfl rfl (fun z7 e_z7 i_z7 l_z7 u_z7 => ?_)
          rw [show (z7 : Int) = gg0 by omega]
          refine yG.num (c := 1) rfl (fun _ _ => rfl) (by decide) ?_
          refine yG.isub rfl ?_
          refine yG.putI A_hq.1 (w_Rules_waitCount W H_k0) (W.2.1 _ _ H_k0 (by decide) (by decide)) rfl rfl (.inl rfl) ⟨by omega, by omega⟩ (by omega) (by omega) (fun h8 T_h8 b_h8 f_h8 y_h8 => ?_)
          have A_h8 := A_hq.put T_h8 b_h8 f_h8 H_k0 (by decide)
          have qq1 : zsl h8 k0 4 = yR r3 := ((f_h8 k0 4).trans (if_neg (fun e => absurd e.2 (by decide)))).trans q_r3
          have : ys h8 k0 5 = gg0 - 1 := (y_h8 k0 5).trans (if_pos ⟨rfl, rfl⟩)
          refine yG.load xak rfl (fun _ _ => rfl) (v := yR k0) rfl rfl ?_
          refine yG.load xak rfl (fun _ _ => rfl) (v := yR k0) rfl rfl ?_
          refine yG.getS9 A_h8.1 (w_Rules_waiting W H_k0) qq1 rfl rfl ?_
          refine yG.load xak rfl (fun _ _ => rfl) (v := yR k0) rfl rfl ?_
          refine yG.getI A_h8.1 (w_Rules_waitCount W H_k0) rfl rfl (fun z9 e_z9 i_z9 l_z9 u_z9 => ?_)
          refine yG.iald A_h8.1 (v_Rules_waiting W H_r3) rfl (by omega) (by omega) (fun z10 e_z10 i_z10 l_z10 u_z10 => ?_)
          refine yG.invV (rest := []) A_h8.1 (bOb (d_Rules W) H_k0) rfl rfl rfl rfl (c_Rules_put W d A_h8.1 H_k0 (z10) (by omega) (by omega)) (fun rv h11 q9 => ?_)
          obtain ⟨⟨rfl, R_z12⟩, B_h11⟩ := q9
          have A_h11 := A_h8.tr B_h11 (by decide)
          have qq2 : zsl h11 k0 4 = yR r3 := (B_h11.sl H_k0 (by decide)).trans qq1
          have : ys h11 k0 5 = ys h8 k0 5 := B_h11.ys H_k0 (by decide)
          show yG _ _ _ _ _ _ _ _ _ _ [] _
          refine yG.goto rfl (t := 0) rfl ?_
          exact yG.mono (yG.sub (i_0  (ys h11 k0 5) h11 A_h11  rfl (by omega) (by omega) (by omega) (by omega) (by omega)) (ySub.cons rfl (ySub.cons rfl (ySub.nil)))) (by omega)
  refine yC.of (M := (xt_X7_release, (2, (0, (8, []))))) rfl rfl (N := 3640) (yfuel (by decide)) ?_
  show yG 89 xfts (xcall 89 xfts xpools xms (d + 1)) (xpool xp_RX7) [] xt_X7_release (yP 0 (fun rv hp' => (rv = none ∧ True) ∧ bAx G [(162259276829213363391578010288128, 3), (162259276829213363391578010288128, 5), (324518553658426726783156020576256, 256)] hp hp')) 3640 0 [(0, yR k0), (1, yI (p1))] [] hp
  have i_0 := H 129
  obtain ⟨gg0, E_0⟩ : ∃ z : Int, ys hp k0 5 = z := ⟨_, rfl⟩
  obtain ⟨-, -, g_0l, g_0u⟩ := (w_Rules_waitCount W H_k0).int hT
  refine yG.load xak rfl (fun _ _ => rfl) (v := yR k0) rfl rfl ?_
  refine yG.getI A_hp.1 (w_Rules_waitCount W H_k0) rfl rfl (fun z1 e_z1 i_z1 l_z1 u_z1 => ?_)
  rw [show (z1 : Int) = gg0 by omega]
  refine yG.ifz rfl (t := 48) rfl ⟨by omega, by omega⟩ (fun c2 => ?_) (fun c2 => ?_)
  · have c2 : (gg0 : Int) ≤ 0 := c2
    refine yG.ret rfl (fun _ _ => rfl) ?_
    exact (yP.void ⟨⟨rfl, trivial⟩, A_hp⟩)
  · have c2 : (gg0 : Int) > 0 := c2
    refine yG.load xak rfl (fun _ _ => rfl) (v := yR k0) rfl rfl ?_
    refine yG.getO A_hp.1 (w_Rules_waiting W H_k0) rfl rfl (fun r3 H_r3 O_r3 q_r3 => ?_)
    refine yG.load xak rfl (fun _ _ => rfl) (v := yR k0) rfl rfl ?_
    refine yG.getI A_hp.1 (w_Rules_waitCount W H_k0) rfl rfl (fun z4 e_z4 i_z4 l_z4 u_z4 => ?_)
    rw [show (z4 : Int) = gg0 by omega]
    refine yG.num (c := 1) rfl (fun _ _ => rfl) (by decide) ?_
    refine yG.isub rfl ?_
    refine yG.iald A_hp.1 (v_Rules_waiting W H_r3) rfl (by omega) (by omega) (fun z5 e_z5 i_z5 l_z5 u_z5 => ?_)
    refine yG.load xik rfl (fun _ _ => rfl) (v := yI (p1)) rfl rfl ?_
    refine yG.icmp rfl (t := 48) rfl ⟨by omega, by omega⟩ ⟨by omega, by omega⟩ (fun c6 => ?_) (fun c6 => ?_)
    · have c6 : (z5 : Int) > p1 := c6
      refine yG.ret rfl (fun _ _ => rfl) ?_
      exact (yP.void ⟨⟨rfl, trivial⟩, A_hp⟩)
    · have c6 : (z5 : Int) ≤ p1 := c6
      refine yG.load xak rfl (fun _ _ => rfl) (v := yR k0) rfl rfl ?_
      refine yG.step (pc' := 24) (stk' := [yR k0, yR k0]) rfl (fun _ _ => rfl) ?_
      refine yG.getI A_hp.1 (w_Rules_waitCount W H_k0) rfl rfl (fun z7 e_z7 i_z7 l_z7 u_z7 => ?_)
      rw [show (z7 : Int) = gg0 by omega]
      refine yG.num (c := 1) rfl (fun _ _ => rfl) (by decide) ?_
      refine yG.isub rfl ?_
      refine yG.putI A_hp.1 (w_Rules_waitCount W H_k0) (W.2.1 _ _ H_k0 (by decide) (by decide)) rfl rfl (.inl rfl) ⟨by omega, by omega⟩ (by omega) (by omega) (fun h8 T_h8 b_h8 f_h8 y_h8 => ?_)
      have A_h8 := A_hp.put T_h8 b_h8 f_h8 H_k0 (by decide)
      have qq1 : zsl h8 k0 4 = yR r3 := ((f_h8 k0 4).trans (if_neg (fun e => absurd e.2 (by decide)))).trans q_r3
      have : ys h8 k0 5 = gg0 - 1 := (y_h8 k0 5).trans (if_pos ⟨rfl, rfl⟩)
      refine yG.load xak rfl (fun _ _ => rfl) (v := yR k0) rfl rfl ?_
      refine yG.load xak rfl (fun _ _ => rfl) (v := yR k0) rfl rfl ?_
      refine yG.getS9 A_h8.1 (w_Rules_waiting W H_k0) qq1 rfl rfl ?_
      refine yG.load xak rfl (fun _ _ => rfl) (v := yR k0) rfl rfl ?_
      refine yG.getI A_h8.1 (w_Rules_waitCount W H_k0) rfl rfl (fun z9 e_z9 i_z9 l_z9 u_z9 => ?_)
      refine yG.iald A_h8.1 (v_Rules_waiting W H_r3) rfl (by omega) (by omega) (fun z10 e_z10 i_z10 l_z10 u_z10 => ?_)
      refine yG.invV (rest := []) A_h8.1 (bOb (d_Rules W) H_k0) rfl rfl rfl rfl (c_Rules_put W d A_h8.1 H_k0 (z10) (by omega) (by omega)) (fun rv h11 q9 => ?_)
      obtain ⟨⟨rfl, R_z12⟩, B_h11⟩ := q9
      have A_h11 := A_h8.tr B_h11 (by decide)
      have qq2 : zsl h11 k0 4 = yR r3 := (B_h11.sl H_k0 (by decide)).trans qq1
      have : ys h11 k0 5 = ys h8 k0 5 := B_h11.ys H_k0 (by decide)
      show yG _ _ _ _ _ _ _ _ _ _ [] _
      refine yG.goto rfl (t := 0) rfl ?_
      exact yG.mono (yG.sub (i_0  (ys h11 k0 5) h11 A_h11  rfl (by omega) (by omega) (by omega) (by omega) (by omega)) (ySub.cons rfl (ySub.cons rfl (ySub.nil)))) (by omega)
theorem c_Rules_askedOf {hp : xH} (W : bW G) (d : Nat) (hT : zTy G hp) (p0 : Int) (h0l : (-2147483648) ≤ p0) (h0u : p0 ≤ 2147483647) : yC (xcall 89 xfts xpools xms (d + 1)) 187 [yI (p0)] hp (bQpi hp (-1) 7 (fun z => 0 ≤ p0 - z + 2147483647)) := by
  have A_hp : bAx G [] hp hp := bAx.rf hT
  refine yC.of (M := (xt_X7_askedOf, (1, (1, (8, []))))) rfl rfl (N := 18) (yfuel (by decide)) ?_
  show yG 89 xfts (xcall 89 xfts xpools xms d) (xpool xp_RX7) [] xt_X7_askedOf (yP 1 (bQpi hp (-1) 7 (fun z => 0 ≤ p0 - z + 2147483647))) 18 0 [(0, yI (p0))] [] hp
  refine yG.load xik rfl (fun _ _ => rfl) (v := yI (p0)) rfl rfl ?_
  rcases (show (p0 < (6 : Int) ∨ (27 : Int) < p0) ∨ p0 = (6 : Int) ∨ p0 = (7 : Int) ∨ p0 = (8 : Int) ∨ p0 = (9 : Int) ∨ p0 = (10 : Int) ∨ p0 = (11 : Int) ∨ p0 = (12 : Int) ∨ p0 = (13 : Int) ∨ p0 = (14 : Int) ∨ p0 = (15 : Int) ∨ p0 = (16 : Int) ∨ p0 = (17 : Int) ∨ p0 = (18 : Int) ∨ p0 = (19 : Int) ∨ p0 = (20 : Int) ∨ p0 = (21 : Int) ∨ p0 = (22 : Int) ∨ p0 = (23 : Int) ∨ p0 = (24 : Int) ∨ p0 = (25 : Int) ∨ p0 = (26 : Int) ∨ p0 = (27 : Int) by omega) with c1 | c1 | c1 | c1 | c1 | c1 | c1 | c1 | c1 | c1 | c1 | c1 | c1 | c1 | c1 | c1 | c1 | c1 | c1 | c1 | c1 | c1 | c1
  · skip
    refine yG.tswD (t := 122) rfl ⟨by omega, by omega⟩ c1 rfl ?_
    refine yG.num (c := -1) rfl (fun _ _ => rfl) (by decide) ?_
    refine yG.ret rfl (fun _ _ => rfl) ?_
    exact (yP.int ⟨by omega, by omega⟩ ⟨⟨(-1), rfl, by omega, by omega, by omega⟩, rfl⟩)
  · skip
    refine yG.tswC (i := 0) (t := 104) rfl ⟨by omega, by omega⟩ (by omega) (by omega) rfl rfl ?_
    refine yG.num (c := 0) rfl (fun _ _ => rfl) (by decide) ?_
    refine yG.ret rfl (fun _ _ => rfl) ?_
    exact (yP.int ⟨by omega, by omega⟩ ⟨⟨0, rfl, by omega, by omega, by omega⟩, rfl⟩)
  · skip
    refine yG.tswC (i := 1) (t := 122) rfl ⟨by omega, by omega⟩ (by omega) (by omega) rfl rfl ?_
    refine yG.num (c := -1) rfl (fun _ _ => rfl) (by decide) ?_
    refine yG.ret rfl (fun _ _ => rfl) ?_
    exact (yP.int ⟨by omega, by omega⟩ ⟨⟨(-1), rfl, by omega, by omega, by omega⟩, rfl⟩)
  · skip
    refine yG.tswC (i := 2) (t := 122) rfl ⟨by omega, by omega⟩ (by omega) (by omega) rfl rfl ?_
    refine yG.num (c := -1) rfl (fun _ _ => rfl) (by decide) ?_
    refine yG.ret rfl (fun _ _ => rfl) ?_
    exact (yP.int ⟨by omega, by omega⟩ ⟨⟨(-1), rfl, by omega, by omega, by omega⟩, rfl⟩)
  · skip
    refine yG.tswC (i := 3) (t := 122) rfl ⟨by omega, by omega⟩ (by omega) (by omega) rfl rfl ?_
    refine yG.num (c := -1) rfl (fun _ _ => rfl) (by decide) ?_
    refine yG.ret rfl (fun _ _ => rfl) ?_
    exact (yP.int ⟨by omega, by omega⟩ ⟨⟨(-1), rfl, by omega, by omega, by omega⟩, rfl⟩)
  · skip
    refine yG.tswC (i := 4) (t := 122) rfl ⟨by omega, by omega⟩ (by omega) (by omega) rfl rfl ?_
    refine yG.num (c := -1) rfl (fun _ _ => rfl) (by decide) ?_
    refine yG.ret rfl (fun _ _ => rfl) ?_
    exact (yP.int ⟨by omega, by omega⟩ ⟨⟨(-1), rfl, by omega, by omega, by omega⟩, rfl⟩)
  · skip
    refine yG.tswC (i := 5) (t := 122) rfl ⟨by omega, by omega⟩ (by omega) (by omega) rfl rfl ?_
    refine yG.num (c := -1) rfl (fun _ _ => rfl) (by decide) ?_
    refine yG.ret rfl (fun _ _ => rfl) ?_
    exact (yP.int ⟨by omega, by omega⟩ ⟨⟨(-1), rfl, by omega, by omega, by omega⟩, rfl⟩)
  · skip
    refine yG.tswC (i := 6) (t := 122) rfl ⟨by omega, by omega⟩ (by omega) (by omega) rfl rfl ?_
    refine yG.num (c := -1) rfl (fun _ _ => rfl) (by decide) ?_
    refine yG.ret rfl (fun _ _ => rfl) ?_
    exact (yP.int ⟨by omega, by omega⟩ ⟨⟨(-1), rfl, by omega, by omega, by omega⟩, rfl⟩)
  · skip
    refine yG.tswC (i := 7) (t := 122) rfl ⟨by omega, by omega⟩ (by omega) (by omega) rfl rfl ?_
    refine yG.num (c := -1) rfl (fun _ _ => rfl) (by decide) ?_
    refine yG.ret rfl (fun _ _ => rfl) ?_
    exact (yP.int ⟨by omega, by omega⟩ ⟨⟨(-1), rfl, by omega, by omega, by omega⟩, rfl⟩)
  · skip
    refine yG.tswC (i := 8) (t := 122) rfl ⟨by omega, by omega⟩ (by omega) (by omega) rfl rfl ?_
    refine yG.num (c := -1) rfl (fun _ _ => rfl) (by decide) ?_
    refine yG.ret rfl (fun _ _ => rfl) ?_
    exact (yP.int ⟨by omega, by omega⟩ ⟨⟨(-1), rfl, by omega, by omega, by omega⟩, rfl⟩)
  · skip
    refine yG.tswC (i := 9) (t := 122) rfl ⟨by omega, by omega⟩ (by omega) (by omega) rfl rfl ?_
    refine yG.num (c := -1) rfl (fun _ _ => rfl) (by decide) ?_
    refine yG.ret rfl (fun _ _ => rfl) ?_
    exact (yP.int ⟨by omega, by omega⟩ ⟨⟨(-1), rfl, by omega, by omega, by omega⟩, rfl⟩)
  · skip
    refine yG.tswC (i := 10) (t := 122) rfl ⟨by omega, by omega⟩ (by omega) (by omega) rfl rfl ?_
    refine yG.num (c := -1) rfl (fun _ _ => rfl) (by decide) ?_
    refine yG.ret rfl (fun _ _ => rfl) ?_
    exact (yP.int ⟨by omega, by omega⟩ ⟨⟨(-1), rfl, by omega, by omega, by omega⟩, rfl⟩)
  · skip
    refine yG.tswC (i := 11) (t := 122) rfl ⟨by omega, by omega⟩ (by omega) (by omega) rfl rfl ?_
    refine yG.num (c := -1) rfl (fun _ _ => rfl) (by decide) ?_
    refine yG.ret rfl (fun _ _ => rfl) ?_
    exact (yP.int ⟨by omega, by omega⟩ ⟨⟨(-1), rfl, by omega, by omega, by omega⟩, rfl⟩)
  · skip
    refine yG.tswC (i := 12) (t := 122) rfl ⟨by omega, by omega⟩ (by omega) (by omega) rfl rfl ?_
    refine yG.num (c := -1) rfl (fun _ _ => rfl) (by decide) ?_
    refine yG.ret rfl (fun _ _ => rfl) ?_
    exact (yP.int ⟨by omega, by omega⟩ ⟨⟨(-1), rfl, by omega, by omega, by omega⟩, rfl⟩)
  · skip
    refine yG.tswC (i := 13) (t := 122) rfl ⟨by omega, by omega⟩ (by omega) (by omega) rfl rfl ?_
    refine yG.num (c := -1) rfl (fun _ _ => rfl) (by decide) ?_
    refine yG.ret rfl (fun _ _ => rfl) ?_
    exact (yP.int ⟨by omega, by omega⟩ ⟨⟨(-1), rfl, by omega, by omega, by omega⟩, rfl⟩)
  · skip
    refine yG.tswC (i := 14) (t := 122) rfl ⟨by omega, by omega⟩ (by omega) (by omega) rfl rfl ?_
    refine yG.num (c := -1) rfl (fun _ _ => rfl) (by decide) ?_
    refine yG.ret rfl (fun _ _ => rfl) ?_
    exact (yP.int ⟨by omega, by omega⟩ ⟨⟨(-1), rfl, by omega, by omega, by omega⟩, rfl⟩)
  · skip
    refine yG.tswC (i := 15) (t := 106) rfl ⟨by omega, by omega⟩ (by omega) (by omega) rfl rfl ?_
    refine yG.num (c := 1) rfl (fun _ _ => rfl) (by decide) ?_
    refine yG.ret rfl (fun _ _ => rfl) ?_
    exact (yP.int ⟨by omega, by omega⟩ ⟨⟨1, rfl, by omega, by omega, by omega⟩, rfl⟩)
  · skip
    refine yG.tswC (i := 16) (t := 108) rfl ⟨by omega, by omega⟩ (by omega) (by omega) rfl rfl ?_
    refine yG.num (c := 2) rfl (fun _ _ => rfl) (by decide) ?_
    refine yG.ret rfl (fun _ _ => rfl) ?_
    exact (yP.int ⟨by omega, by omega⟩ ⟨⟨2, rfl, by omega, by omega, by omega⟩, rfl⟩)
  · skip
    refine yG.tswC (i := 17) (t := 110) rfl ⟨by omega, by omega⟩ (by omega) (by omega) rfl rfl ?_
    refine yG.num (c := 3) rfl (fun _ _ => rfl) (by decide) ?_
    refine yG.ret rfl (fun _ _ => rfl) ?_
    exact (yP.int ⟨by omega, by omega⟩ ⟨⟨3, rfl, by omega, by omega, by omega⟩, rfl⟩)
  · skip
    refine yG.tswC (i := 18) (t := 112) rfl ⟨by omega, by omega⟩ (by omega) (by omega) rfl rfl ?_
    refine yG.num (c := 4) rfl (fun _ _ => rfl) (by decide) ?_
    refine yG.ret rfl (fun _ _ => rfl) ?_
    exact (yP.int ⟨by omega, by omega⟩ ⟨⟨4, rfl, by omega, by omega, by omega⟩, rfl⟩)
  · skip
    refine yG.tswC (i := 19) (t := 114) rfl ⟨by omega, by omega⟩ (by omega) (by omega) rfl rfl ?_
    refine yG.num (c := 5) rfl (fun _ _ => rfl) (by decide) ?_
    refine yG.ret rfl (fun _ _ => rfl) ?_
    exact (yP.int ⟨by omega, by omega⟩ ⟨⟨5, rfl, by omega, by omega, by omega⟩, rfl⟩)
  · skip
    refine yG.tswC (i := 20) (t := 116) rfl ⟨by omega, by omega⟩ (by omega) (by omega) rfl rfl ?_
    refine yG.num (c := 6) rfl (fun _ _ => rfl) (by decide) ?_
    refine yG.ret rfl (fun _ _ => rfl) ?_
    exact (yP.int ⟨by omega, by omega⟩ ⟨⟨6, rfl, by omega, by omega, by omega⟩, rfl⟩)
  · skip
    refine yG.tswC (i := 21) (t := 119) rfl ⟨by omega, by omega⟩ (by omega) (by omega) rfl rfl ?_
    refine yG.num (c := 7) rfl (fun _ _ => rfl) (by decide) ?_
    refine yG.ret rfl (fun _ _ => rfl) ?_
    exact (yP.int ⟨by omega, by omega⟩ ⟨⟨7, rfl, by omega, by omega, by omega⟩, rfl⟩)
theorem c_Rules_closeBrackets {hp : xH} (W : bW G) (d : Nat) (hT : zTy G hp) {k0 : Nat} (H_k0 : bRo G 107 k0) {k1 : Nat} (H_k1 : bRo G 15 k1) (p2 : Int) (h2l : (-2147483648) ≤ p2) (h2u : p2 ≤ 2147483647) : yC (xcall 89 xfts xpools xms (d + 4)) 190 [yR k0, yR k1, yI (p2)] hp (bQi G [(32768, 2), (162259276829213363391578010320896, 3), (162259276829213363391578010320896, 5), (32768, 6), (32768, 7), (324518553658426726783156020576256, 256)] hp (-2147483648) 2147483647 (fun z => 0 ≤ p2 - z + 2147483646)) := by
  have A_hp : bAx G [(32768, 2), (162259276829213363391578010320896, 3), (162259276829213363391578010320896, 5), (32768, 6), (32768, 7), (324518553658426726783156020576256, 256)] hp hp := bAx.rf hT
  have H : ∀ m : Nat, (∀ a3 : Int, ∀ a4 : Int, ∀ hq, bAx G [(32768, 2), (162259276829213363391578010320896, 3), (162259276829213363391578010320896, 5), (32768, 6), (32768, 7), (324518553658426726783156020576256, 256)] hp hq → (-2147483648) ≤ a3 → (-2147483647) ≤ 0 - a3 → 0 ≤ a4 → (-2147483647) ≤ 0 - a4 → (-2147483648) ≤ p2 → (-2147483647) ≤ 0 - p2 → (-2147483646) ≤ 0 - a3 + p2 → (-2147483648) ≤ 0 - a4 + p2 → 0 - 2 * a4 + 4294967295 < (m : Int) → yG 89 xfts (xcall 89 xfts xpools xms (d + 3)) (xpool xp_RX7) [] xt_X7_closeBrackets (yP 1 (bQi G [(32768, 2), (162259276829213363391578010320896, 3), (162259276829213363391578010320896, 5), (32768, 6), (32768, 7), (324518553658426726783156020576256, 256)] hp (-2147483648) 2147483647 (fun z => 0 ≤ p2 - z + 2147483646))) (29 * m) 5 [(0, yR k0), (1, yR k1), (2, yI (p2)), (3, yI (a3)), (4, yI (a4))] [] hq) := by
    intro m
    induction m with
    | zero =>
      intros; exfalso; omega
    | succ m ih =>
      have i_5 := ih
      clear ih
      intro a3 a4 hq A_hq f0 f1 f2 f3 f4 f5 f6 f7 hm
      refine yG.mono (N := 29 * m + 29) ?_ (by omega)
      refine yG.load xik rfl (fun _ _ => rfl) (v := yI (a4)) rfl rfl ?_
      refine yG.load xik rfl (fun _ _ => rfl) (v := yI (p2)) rfl rfl ?_
      refine yG.icmp rfl (t := 60) rfl ⟨by omega, by omega⟩ ⟨by omega, by omega⟩ (fun c1 => ?_) (fun c1 => ?_)
      · have c1 : (a4 : Int) ≥ p2 := c1
        refine yG.load xik rfl (fun _ _ => rfl) (v := yI (a3)) rfl rfl ?_
        refine yG.ret rfl (fun _ _ => rfl) ?_
        exact (yP.int ⟨by omega, by omega⟩ ⟨⟨a3, rfl, by omega, by omega, by omega⟩, A_hq⟩)
      · have c1 : (a4 : Int) < p2 := c1
        refine yG.load xak rfl (fun _ _ => rfl) (v := yR k1) rfl rfl ?_
        refine yG.num (c := 41) rfl (fun _ _ => rfl) (by decide) ?_
        refine yG.invV (rest := []) A_hq.1 (bOb (d_Tape W) H_k1) rfl rfl rfl rfl (c_Tape_isSign W (d + 2) A_hq.1 H_k1 (41) (by omega) (by omega)) (fun rv hp9 q9 => ?_)
        obtain ⟨⟨z2, rfl, l_z2, u_z2, R_z2⟩, e9⟩ := q9
        rw [e9]
        show yG _ _ _ _ _ _ _ _ _ _ (yI z2 :: []) _
        refine yG.ifz rfl (t := 60) rfl ⟨by omega, by omega⟩ (fun c3 => ?_) (fun c3 => ?_)
        · have c3 : (z2 : Int) = 0 := c3
          refine yG.load xik rfl (fun _ _ => rfl) (v := yI (a3)) rfl rfl ?_
          refine yG.ret rfl (fun _ _ => rfl) ?_
          exact (yP.int ⟨by omega, by omega⟩ ⟨⟨a3, rfl, by omega, by omega, by omega⟩, A_hq⟩)
        · have c3 : (z2 : Int) ≠ 0 := c3
          refine yG.iinc rfl (a := a3) rfl (L' := [(3, yI (a3 + (-1))), (0, yR k0), (1, yR k1), (2, yI (p2)), (4, yI (a4))]) rfl ?_
          refine yG.load xak rfl (fun _ _ => rfl) (v := yR k0) rfl rfl ?_
          refine yG.num (c := 18) rfl (fun _ _ => rfl) (by decide) ?_
          refine yG.invV (rest := []) A_hq.1 (bOb (d_Rules W) H_k0) rfl rfl rfl rfl (c_Rules_release W (d + 1) A_hq.1 H_k0 (18) (by omega) (by omega)) (fun rv h4 q9 => ?_)
          obtain ⟨⟨rfl, R_z5⟩, B_h4⟩ := q9
          have A_h4 := A_hq.tr B_h4 (by decide)
          show yG _ _ _ _ _ _ _ _ _ _ [] _
          refine yG.load xak rfl (fun _ _ => rfl) (v := yR k0) rfl rfl ?_
          refine yG.num (c := 0) rfl (fun _ _ => rfl) (by decide) ?_
          refine yG.load xak rfl (fun _ _ => rfl) (v := yR k0) rfl rfl ?_
          refine yG.getI A_h4.1 (w_Rules_waitCount W H_k0) rfl rfl (fun z6 e_z6 i_z6 l_z6 u_z6 => ?_)
          refine yG.num (c := 1) rfl (fun _ _ => rfl) (by decide) ?_
          refine yG.isub rfl ?_
          refine yG.invS (rest := [yR k0]) rfl rfl rfl rfl (c_J9_maxI W (d + 2) A_h4.1 (0) (z6 - 1) (by omega) (by omega) (by omega) (by omega)) (fun rv hp9 q9 => ?_)
          obtain ⟨⟨z7, rfl, l_z7, u_z7, R_z7⟩, e9⟩ := q9
          rw [e9]
          show yG _ _ _ _ _ _ _ _ _ _ (yI z7 :: [yR k0]) _
          refine yG.putI A_h4.1 (w_Rules_waitCount W H_k0) (W.2.1 _ _ H_k0 (by decide) (by decide)) rfl rfl (.inl rfl) ⟨by omega, by omega⟩ (by omega) (by omega) (fun h8 T_h8 b_h8 f_h8 y_h8 => ?_)
          have A_h8 := A_h4.put T_h8 b_h8 f_h8 H_k0 (by decide)
          refine yG.load xak rfl (fun _ _ => rfl) (v := yR k0) rfl rfl ?_
          refine yG.num (c := 16) rfl (fun _ _ => rfl) (by decide) ?_
          refine yG.invV (rest := []) A_h8.1 (bOb (d_Rules W) H_k0) rfl rfl rfl rfl (c_Rules_release W (d + 1) A_h8.1 H_k0 (16) (by omega) (by omega)) (fun rv h9 q9 => ?_)
          obtain ⟨⟨rfl, R_z10⟩, B_h9⟩ := q9
          have A_h9 := A_h8.tr B_h9 (by decide)
          show yG _ _ _ _ _ _ _ _ _ _ [] _
          refine yG.load xak rfl (fun _ _ => rfl) (v := yR k1) rfl rfl ?_
          refine yG.invV (rest := []) A_h9.1 (bOb (d_Tape W) H_k1) rfl rfl rfl rfl (c_Tape_next W d A_h9.1 H_k1) (fun rv h11 q9 => ?_)
          obtain ⟨⟨z12, rfl, l_z12, u_z12, R_z12⟩, B_h11⟩ := q9
          have A_h11 := A_h9.tr B_h11 (by decide)
          show yG _ _ _ _ _ _ _ _ _ _ (yI z12 :: []) _
          refine yG.step (pc' := 54) (stk' := []) rfl (fun _ _ => rfl) ?_
          refine yG.iinc rfl (a := a4) rfl (L' := [(4, yI (a4 + 1)), (3, yI (a3 + (-1))), (0, yR k0), (1, yR k1), (2, yI (p2))]) rfl ?_
          refine yG.goto rfl (t := 5) rfl ?_
          obtain ⟨z13, e_z13, l_z13, u_z13⟩ := ywI (a3 + (-1))
          rw [e_z13]
          exact yG.mono (yG.sub (i_5 (z13) (a4 + 1)  h11 A_h11   (by omega) (by omega) (by omega) (by omega) (by omega) (by omega) (by omega) (by omega) (by omega)) (ySub.cons rfl (ySub.cons rfl (ySub.cons rfl (ySub.cons rfl (ySub.cons rfl (ySub.nil))))))) (by omega)
  refine yC.of (M := (xt_X7_closeBrackets, (5, (1, (8, []))))) rfl rfl (N := 124554051642) (yfuel (by decide)) ?_
  show yG 89 xfts (xcall 89 xfts xpools xms (d + 3)) (xpool xp_RX7) [] xt_X7_closeBrackets (yP 1 (bQi G [(32768, 2), (162259276829213363391578010320896, 3), (162259276829213363391578010320896, 5), (32768, 6), (32768, 7), (324518553658426726783156020576256, 256)] hp (-2147483648) 2147483647 (fun z => 0 ≤ p2 - z + 2147483646))) 124554051642 0 [(0, yR k0), (1, yR k1), (2, yI (p2))] [] hp
  have i_5 := H 4294967297
  refine yG.load xik rfl (fun _ _ => rfl) (v := yI (p2)) rfl rfl ?_
  refine yG.store1 xik (L' := [(3, yI (p2)), (0, yR k0), (1, yR k1), (2, yI (p2))]) rfl (fun _ _ => rfl) rfl rfl ?_
  refine yG.num (c := 0) rfl (fun _ _ => rfl) (by decide) ?_
  refine yG.store1 xik (L' := [(4, yI (0)), (3, yI (p2)), (0, yR k0), (1, yR k1), (2, yI (p2))]) rfl (fun _ _ => rfl) rfl rfl ?_
  exact yG.mono (yG.sub (i_5 (p2) (0)  hp A_hp   (by omega) (by omega) (by omega) (by omega) (by omega) (by omega) (by omega) (by omega) (by omega)) (ySub.cons rfl (ySub.cons rfl (ySub.cons rfl (ySub.cons rfl (ySub.cons rfl (ySub.nil))))))) (by omega)
theorem c_Rules_readAsked {hp : xH} (W : bW G) (d : Nat) (hT : zTy G hp) {k0 : Nat} (H_k0 : bRo G 107 k0) {k1 : Nat} (H_k1 : bRo G 15 k1) : yC (xcall 89 xfts xpools xms (d + 4)) 201 [yR k0, yR k1] hp (bQi G [(32768, 2), (162259276829213363391578010320896, 3), (32768, 5), (32768, 6), (32768, 7), (324518553658426726783156020576256, 256)] hp (-1) 7 (fun _ => True)) := by
  have A_hp : bAx G [(32768, 2), (162259276829213363391578010320896, 3), (32768, 5), (32768, 6), (32768, 7), (324518553658426726783156020576256, 256)] hp hp := bAx.rf hT
  have H : ∀ m : Nat, (∀ a2 : Int, ∀ hq, bAx G [(32768, 2), (162259276829213363391578010320896, 3), (32768, 5), (32768, 6), (32768, 7), (324518553658426726783156020576256, 256)] hp hq → 0 ≤ a2 → (-1) ≤ 0 - a2 → 1 < (m : Int) → yG 89 xfts (xcall 89 xfts xpools xms (d + 3)) (xpool xp_RX7) [] xt_X7_readAsked (yP 1 (bQi G [(32768, 2), (162259276829213363391578010320896, 3), (32768, 5), (32768, 6), (32768, 7), (324518553658426726783156020576256, 256)] hp (-1) 7 (fun _ => True))) (22 * m) 24 [(0, yR k0), (1, yR k1), (2, yI (a2))] [] hq) := by
    intro m
    induction m with
    | zero =>
      intros; exfalso; omega
    | succ m ih =>
      have i_24 := ih
      clear ih
      intro a2 hq A_hq f0 f1 hm
      refine yG.mono (N := 22 * m + 22) ?_ (by omega)
      refine yG.load xak rfl (fun _ _ => rfl) (v := yR k1) rfl rfl ?_
      refine yG.invV (rest := []) A_hq.1 (bOb (d_Tape W) H_k1) rfl rfl rfl rfl (c_Tape_key W (d + 2) A_hq.1 H_k1) (fun rv hp9 q9 => ?_)
      obtain ⟨⟨z1, rfl, l_z1, u_z1, R_z1⟩, e9⟩ := q9
      rw [e9]
      show yG _ _ _ _ _ _ _ _ _ _ (yI z1 :: []) _
      refine yG.invS (rest := []) rfl rfl rfl rfl (c_Rules_askedOf W (d + 2) A_hq.1 (z1) (by omega) (by omega)) (fun rv hp9 q9 => ?_)
      obtain ⟨⟨z2, rfl, l_z2, u_z2, R_z2⟩, e9⟩ := q9
      rw [e9]
      show yG _ _ _ _ _ _ _ _ _ _ (yI z2 :: []) _
      refine yG.store1 xik (L' := [(3, yI (z2)), (0, yR k0), (1, yR k1), (2, yI (a2))]) rfl (fun _ _ => rfl) rfl rfl ?_
      refine yG.load xik rfl (fun _ _ => rfl) (v := yI (z2)) rfl rfl ?_
      refine yG.num (c := -1) rfl (fun _ _ => rfl) (by decide) ?_
      refine yG.icmp rfl (t := 58) rfl ⟨by omega, by omega⟩ ⟨by omega, by omega⟩ (fun c3 => ?_) (fun c3 => ?_)
      · have c3 : (z2 : Int) = (-1) := c3
        refine yG.load xik rfl (fun _ _ => rfl) (v := yI (z2)) rfl rfl ?_
        refine yG.ret rfl (fun _ _ => rfl) ?_
        exact (yP.int ⟨by omega, by omega⟩ ⟨⟨z2, rfl, by omega, by omega, trivial⟩, A_hq⟩)
      · have c3 : (z2 : Int) ≠ (-1) := c3
        refine yG.load xak rfl (fun _ _ => rfl) (v := yR k0) rfl rfl ?_
        refine yG.load xik rfl (fun _ _ => rfl) (v := yI (a2)) rfl rfl ?_
        refine yG.ifz rfl (t := 49) rfl ⟨by omega, by omega⟩ (fun c4 => ?_) (fun c4 => ?_)
        · have c4 : (a2 : Int) = 0 := c4
          refine yG.load xik rfl (fun _ _ => rfl) (v := yI (z2)) rfl rfl ?_
          refine yG.invV (rest := []) A_hq.1 (bOb (d_Rules W) H_k0) rfl rfl rfl rfl (c_Rules_put W (d + 2) A_hq.1 H_k0 (z2) (by omega) (by omega)) (fun rv h5 q9 => ?_)
          obtain ⟨⟨rfl, R_z6⟩, B_h5⟩ := q9
          have A_h5 := A_hq.tr B_h5 (by decide)
          show yG _ _ _ _ _ _ _ _ _ _ [] _
          refine yG.load xak rfl (fun _ _ => rfl) (v := yR k1) rfl rfl ?_
          refine yG.invV (rest := []) A_h5.1 (bOb (d_Tape W) H_k1) rfl rfl rfl rfl (c_Tape_next W d A_h5.1 H_k1) (fun rv h7 q9 => ?_)
          obtain ⟨⟨z8, rfl, l_z8, u_z8, R_z8⟩, B_h7⟩ := q9
          have A_h7 := A_h5.tr B_h7 (by decide)
          show yG _ _ _ _ _ _ _ _ _ _ (yI z8 :: []) _
          refine yG.step (pc' := 58) (stk' := []) rfl (fun _ _ => rfl) ?_
          refine yG.load xik rfl (fun _ _ => rfl) (v := yI (z2)) rfl rfl ?_
          refine yG.ret rfl (fun _ _ => rfl) ?_
          exact (yP.int ⟨by omega, by omega⟩ ⟨⟨z2, rfl, by omega, by omega, trivial⟩, A_h7⟩)
        · have c4 : (a2 : Int) ≠ 0 := c4
          refine yG.load xik rfl (fun _ _ => rfl) (v := yI (z2)) rfl rfl ?_
          refine yG.num (c := 8) rfl (fun _ _ => rfl) (by decide) ?_
          refine yG.iadd rfl ?_
          refine yG.goto rfl (t := 50) rfl ?_
          refine yG.invV (rest := []) A_hq.1 (bOb (d_Rules W) H_k0) rfl rfl rfl rfl (c_Rules_put W (d + 2) A_hq.1 H_k0 (z2 + 8) (by omega) (by omega)) (fun rv h9 q9 => ?_)
          obtain ⟨⟨rfl, R_z10⟩, B_h9⟩ := q9
          have A_h9 := A_hq.tr B_h9 (by decide)
          show yG _ _ _ _ _ _ _ _ _ _ [] _
          refine yG.load xak rfl (fun _ _ => rfl) (v := yR k1) rfl rfl ?_
          refine yG.invV (rest := []) A_h9.1 (bOb (d_Tape W) H_k1) rfl rfl rfl rfl (c_Tape_next W d A_h9.1 H_k1) (fun rv h11 q9 => ?_)
          obtain ⟨⟨z12, rfl, l_z12, u_z12, R_z12⟩, B_h11⟩ := q9
          have A_h11 := A_h9.tr B_h11 (by decide)
          show yG _ _ _ _ _ _ _ _ _ _ (yI z12 :: []) _
          refine yG.step (pc' := 58) (stk' := []) rfl (fun _ _ => rfl) ?_
          refine yG.load xik rfl (fun _ _ => rfl) (v := yI (z2)) rfl rfl ?_
          refine yG.ret rfl (fun _ _ => rfl) ?_
          exact (yP.int ⟨by omega, by omega⟩ ⟨⟨z2, rfl, by omega, by omega, trivial⟩, A_h11⟩)
  refine yC.of (M := (xt_X7_readAsked, (4, (1, (8, []))))) rfl rfl (N := 88) (yfuel (by decide)) ?_
  show yG 89 xfts (xcall 89 xfts xpools xms (d + 3)) (xpool xp_RX7) [] xt_X7_readAsked (yP 1 (bQi G [(32768, 2), (162259276829213363391578010320896, 3), (32768, 5), (32768, 6), (32768, 7), (324518553658426726783156020576256, 256)] hp (-1) 7 (fun _ => True))) 88 0 [(0, yR k0), (1, yR k1)] [] hp
  have i_24 := H 3
  refine yG.load xak rfl (fun _ _ => rfl) (v := yR k1) rfl rfl ?_
  refine yG.invV (rest := []) A_hp.1 (bOb (d_Tape W) H_k1) rfl rfl rfl rfl (c_Tape_key W (d + 2) A_hp.1 H_k1) (fun rv hp9 q9 => ?_)
  obtain ⟨⟨z1, rfl, l_z1, u_z1, R_z1⟩, e9⟩ := q9
  rw [e9]
  show yG _ _ _ _ _ _ _ _ _ _ (yI z1 :: []) _
  refine yG.num (c := 12) rfl (fun _ _ => rfl) (by decide) ?_
  refine yG.icmp rfl (t := 13) rfl ⟨by omega, by omega⟩ ⟨by omega, by omega⟩ (fun c2 => ?_) (fun c2 => ?_)
  · have c2 : (z1 : Int) ≠ 12 := c2
    refine yG.num (c := 0) rfl (fun _ _ => rfl) (by decide) ?_
    refine yG.store1 xik (L' := [(2, yI (0)), (0, yR k0), (1, yR k1)]) rfl (fun _ _ => rfl) rfl rfl ?_
    refine yG.load xik rfl (fun _ _ => rfl) (v := yI (0)) rfl rfl ?_
    refine yG.ifz rfl (t := 24) rfl ⟨by omega, by omega⟩ (fun c3 => ?_) (fun c3 => ?_)
    · have c3 : (0 : Int) = 0 := c3
      exact yG.mono (yG.sub (i_24 (0)  hp A_hp   (by omega) (by omega) (by omega)) (ySub.cons rfl (ySub.cons rfl (ySub.cons rfl (ySub.nil))))) (by omega)
    · have c3 : (0 : Int) ≠ 0 := c3
      exfalso; omega
  · have c2 : (z1 : Int) = 12 := c2
    refine yG.num (c := 1) rfl (fun _ _ => rfl) (by decide) ?_
    refine yG.goto rfl (t := 14) rfl ?_
    refine yG.store1 xik (L' := [(2, yI (1)), (0, yR k0), (1, yR k1)]) rfl (fun _ _ => rfl) rfl rfl ?_
    refine yG.load xik rfl (fun _ _ => rfl) (v := yI (1)) rfl rfl ?_
    refine yG.ifz rfl (t := 24) rfl ⟨by omega, by omega⟩ (fun c4 => ?_) (fun c4 => ?_)
    · have c4 : (1 : Int) = 0 := c4
      exfalso; omega
    · have c4 : (1 : Int) ≠ 0 := c4
      refine yG.load xak rfl (fun _ _ => rfl) (v := yR k1) rfl rfl ?_
      refine yG.invV (rest := []) A_hp.1 (bOb (d_Tape W) H_k1) rfl rfl rfl rfl (c_Tape_next W d A_hp.1 H_k1) (fun rv h5 q9 => ?_)
      obtain ⟨⟨z6, rfl, l_z6, u_z6, R_z6⟩, B_h5⟩ := q9
      have A_h5 := A_hp.tr B_h5 (by decide)
      show yG _ _ _ _ _ _ _ _ _ _ (yI z6 :: []) _
      refine yG.step (pc' := 24) (stk' := []) rfl (fun _ _ => rfl) ?_
      exact yG.mono (yG.sub (i_24 (1)  h5 A_h5   (by omega) (by omega) (by omega)) (ySub.cons rfl (ySub.cons rfl (ySub.cons rfl (ySub.nil))))) (by omega)
theorem c_Rules_readBound {hp : xH} (W : bW G) (d : Nat) (hT : zTy G hp) {k0 : Nat} (H_k0 : bRo G 107 k0) {k1 : Nat} (H_k1 : bRo G 15 k1) : yC (xcall 89 xfts xpools xms (d + 4)) 202 [yR k0, yR k1] hp (bQi G [(32768, 2), (162259276829213363391578010320896, 3), (32768, 5), (32768, 6), (32768, 7), (324518553658426726783156020576256, 256)] hp 0 1 (fun _ => True)) := by
  have A_hp : bAx G [(32768, 2), (162259276829213363391578010320896, 3), (32768, 5), (32768, 6), (32768, 7), (324518553658426726783156020576256, 256)] hp hp := bAx.rf hT
  have H : ∀ m : Nat, (∀ a2 : Int, ∀ hq, bAx G [(32768, 2), (162259276829213363391578010320896, 3), (32768, 5), (32768, 6), (32768, 7), (324518553658426726783156020576256, 256)] hp hq → 28 ≤ a2 → (-30) ≤ 0 - a2 → 1 < (m : Int) → yG 89 xfts (xcall 89 xfts xpools xms (d + 3)) (xpool xp_RX7) [] xt_X7_readBound (yP 4 (bQi G [(32768, 2), (162259276829213363391578010320896, 3), (32768, 5), (32768, 6), (32768, 7), (324518553658426726783156020576256, 256)] hp 0 1 (fun _ => True))) (28 * m) 25 [(0, yR k0), (1, yR k1), (2, yI (a2))] [] hq) := by
    intro m
    induction m with
    | zero =>
      intros; exfalso; omega
    | succ m ih =>
      have i_25 := ih
      clear ih
      intro a2 hq A_hq f0 f1 hm
      refine yG.mono (N := 28 * m + 28) ?_ (by omega)
      refine yG.load xak rfl (fun _ _ => rfl) (v := yR k0) rfl rfl ?_
      refine yG.load xik rfl (fun _ _ => rfl) (v := yI (a2)) rfl rfl ?_
      refine yG.num (c := 28) rfl (fun _ _ => rfl) (by decide) ?_
      refine yG.icmp rfl (t := 36) rfl ⟨by omega, by omega⟩ ⟨by omega, by omega⟩ (fun c1 => ?_) (fun c1 => ?_)
      · have c1 : (a2 : Int) ≠ 28 := c1
        refine yG.load xik rfl (fun _ _ => rfl) (v := yI (a2)) rfl rfl ?_
        refine yG.num (c := 29) rfl (fun _ _ => rfl) (by decide) ?_
        refine yG.icmp rfl (t := 46) rfl ⟨by omega, by omega⟩ ⟨by omega, by omega⟩ (fun c2 => ?_) (fun c2 => ?_)
        · have c2 : (a2 : Int) ≠ 29 := c2
          refine yG.num (c := 0) rfl (fun _ _ => rfl) (by decide) ?_
          refine yG.invV (rest := []) A_hq.1 (bOb (d_Rules W) H_k0) rfl rfl rfl rfl (c_Rules_put W (d + 2) A_hq.1 H_k0 (0) (by omega) (by omega)) (fun rv h3 q9 => ?_)
          obtain ⟨⟨rfl, R_z4⟩, B_h3⟩ := q9
          have A_h3 := A_hq.tr B_h3 (by decide)
          show yG _ _ _ _ _ _ _ _ _ _ [] _
          refine yG.load xak rfl (fun _ _ => rfl) (v := yR k1) rfl rfl ?_
          refine yG.invV (rest := []) A_h3.1 (bOb (d_Tape W) H_k1) rfl rfl rfl rfl (c_Tape_next W d A_h3.1 H_k1) (fun rv h5 q9 => ?_)
          obtain ⟨⟨z6, rfl, l_z6, u_z6, R_z6⟩, B_h5⟩ := q9
          have A_h5 := A_h3.tr B_h5 (by decide)
          show yG _ _ _ _ _ _ _ _ _ _ (yI z6 :: []) _
          refine yG.step (pc' := 55) (stk' := []) rfl (fun _ _ => rfl) ?_
          refine yG.load xak rfl (fun _ _ => rfl) (v := yR k1) rfl rfl ?_
          refine yG.getI A_h5.1 (w_Tape_number W H_k1) rfl rfl (fun z7 e_z7 i_z7 l_z7 u_z7 => ?_)
          refine yG.num (c := -1) rfl (fun _ _ => rfl) (by decide) ?_
          refine yG.icmp rfl (t := 65) rfl ⟨by omega, by omega⟩ ⟨by omega, by omega⟩ (fun c8 => ?_) (fun c8 => ?_)
          · have c8 : (z7 : Int) ≠ (-1) := c8
            refine yG.load xak rfl (fun _ _ => rfl) (v := yR k0) rfl rfl ?_
            refine yG.load xak rfl (fun _ _ => rfl) (v := yR k1) rfl rfl ?_
            refine yG.getI A_h5.1 (w_Tape_number W H_k1) rfl rfl (fun z9 e_z9 i_z9 l_z9 u_z9 => ?_)
            rw [show (z9 : Int) = z7 by omega]
            refine yG.invV (rest := []) A_h5.1 (bOb (d_Rules W) H_k0) rfl rfl rfl rfl (c_Rules_put W (d + 2) A_h5.1 H_k0 (z7) (by omega) (by omega)) (fun rv h10 q9 => ?_)
            obtain ⟨⟨rfl, R_z11⟩, B_h10⟩ := q9
            have A_h10 := A_h5.tr B_h10 (by decide)
            have : ys h10 k1 7 = ys h5 k1 7 := B_h10.ys H_k1 (by decide)
            show yG _ _ _ _ _ _ _ _ _ _ [] _
            refine yG.load xak rfl (fun _ _ => rfl) (v := yR k1) rfl rfl ?_
            refine yG.invV (rest := []) A_h10.1 (bOb (d_Tape W) H_k1) rfl rfl rfl rfl (c_Tape_next W d A_h10.1 H_k1) (fun rv h12 q9 => ?_)
            obtain ⟨⟨z13, rfl, l_z13, u_z13, R_z13⟩, B_h12⟩ := q9
            have A_h12 := A_h10.tr B_h12 (by decide)
            show yG _ _ _ _ _ _ _ _ _ _ (yI z13 :: []) _
            refine yG.step (pc' := 78) (stk' := []) rfl (fun _ _ => rfl) ?_
            refine yG.num (c := 1) rfl (fun _ _ => rfl) (by decide) ?_
            refine yG.ret rfl (fun _ _ => rfl) ?_
            exact (yP.bool (by omega) ⟨⟨1, rfl, by omega, by omega, trivial⟩, A_h12⟩)
          · have c8 : (z7 : Int) = (-1) := c8
            refine yG.num (c := 0) rfl (fun _ _ => rfl) (by decide) ?_
            refine yG.ret rfl (fun _ _ => rfl) ?_
            exact (yP.bool (by omega) ⟨⟨0, rfl, by omega, by omega, trivial⟩, A_h5⟩)
        · have c2 : (a2 : Int) = 29 := c2
          refine yG.num (c := -1) rfl (fun _ _ => rfl) (by decide) ?_
          refine yG.goto rfl (t := 47) rfl ?_
          refine yG.invV (rest := []) A_hq.1 (bOb (d_Rules W) H_k0) rfl rfl rfl rfl (c_Rules_put W (d + 2) A_hq.1 H_k0 ((-1)) (by omega) (by omega)) (fun rv h14 q9 => ?_)
          obtain ⟨⟨rfl, R_z15⟩, B_h14⟩ := q9
          have A_h14 := A_hq.tr B_h14 (by decide)
          show yG _ _ _ _ _ _ _ _ _ _ [] _
          refine yG.load xak rfl (fun _ _ => rfl) (v := yR k1) rfl rfl ?_
          refine yG.invV (rest := []) A_h14.1 (bOb (d_Tape W) H_k1) rfl rfl rfl rfl (c_Tape_next W d A_h14.1 H_k1) (fun rv h16 q9 => ?_)
          obtain ⟨⟨z17, rfl, l_z17, u_z17, R_z17⟩, B_h16⟩ := q9
          have A_h16 := A_h14.tr B_h16 (by decide)
          show yG _ _ _ _ _ _ _ _ _ _ (yI z17 :: []) _
          refine yG.step (pc' := 55) (stk' := []) rfl (fun _ _ => rfl) ?_
          refine yG.load xak rfl (fun _ _ => rfl) (v := yR k1) rfl rfl ?_
          refine yG.getI A_h16.1 (w_Tape_number W H_k1) rfl rfl (fun z18 e_z18 i_z18 l_z18 u_z18 => ?_)
          refine yG.num (c := -1) rfl (fun _ _ => rfl) (by decide) ?_
          refine yG.icmp rfl (t := 65) rfl ⟨by omega, by omega⟩ ⟨by omega, by omega⟩ (fun c19 => ?_) (fun c19 => ?_)
          · have c19 : (z18 : Int) ≠ (-1) := c19
            refine yG.load xak rfl (fun _ _ => rfl) (v := yR k0) rfl rfl ?_
            refine yG.load xak rfl (fun _ _ => rfl) (v := yR k1) rfl rfl ?_
            refine yG.getI A_h16.1 (w_Tape_number W H_k1) rfl rfl (fun z20 e_z20 i_z20 l_z20 u_z20 => ?_)
            rw [show (z20 : Int) = z18 by omega]
            refine yG.invV (rest := []) A_h16.1 (bOb (d_Rules W) H_k0) rfl rfl rfl rfl (c_Rules_put W (d + 2) A_h16.1 H_k0 (z18) (by omega) (by omega)) (fun rv h21 q9 => ?_)
            obtain ⟨⟨rfl, R_z22⟩, B_h21⟩ := q9
            have A_h21 := A_h16.tr B_h21 (by decide)
            have : ys h21 k1 7 = ys h16 k1 7 := B_h21.ys H_k1 (by decide)
            show yG _ _ _ _ _ _ _ _ _ _ [] _
            refine yG.load xak rfl (fun _ _ => rfl) (v := yR k1) rfl rfl ?_
            refine yG.invV (rest := []) A_h21.1 (bOb (d_Tape W) H_k1) rfl rfl rfl rfl (c_Tape_next W d A_h21.1 H_k1) (fun rv h23 q9 => ?_)
            obtain ⟨⟨z24, rfl, l_z24, u_z24, R_z24⟩, B_h23⟩ := q9
            have A_h23 := A_h21.tr B_h23 (by decide)
            show yG _ _ _ _ _ _ _ _ _ _ (yI z24 :: []) _
            refine yG.step (pc' := 78) (stk' := []) rfl (fun _ _ => rfl) ?_
            refine yG.num (c := 1) rfl (fun _ _ => rfl) (by decide) ?_
            refine yG.ret rfl (fun _ _ => rfl) ?_
            exact (yP.bool (by omega) ⟨⟨1, rfl, by omega, by omega, trivial⟩, A_h23⟩)
          · have c19 : (z18 : Int) = (-1) := c19
            refine yG.num (c := 0) rfl (fun _ _ => rfl) (by decide) ?_
            refine yG.ret rfl (fun _ _ => rfl) ?_
            exact (yP.bool (by omega) ⟨⟨0, rfl, by omega, by omega, trivial⟩, A_h16⟩)
      · have c1 : (a2 : Int) = 28 := c1
        refine yG.num (c := 1) rfl (fun _ _ => rfl) (by decide) ?_
        refine yG.goto rfl (t := 47) rfl ?_
        refine yG.invV (rest := []) A_hq.1 (bOb (d_Rules W) H_k0) rfl rfl rfl rfl (c_Rules_put W (d + 2) A_hq.1 H_k0 (1) (by omega) (by omega)) (fun rv h25 q9 => ?_)
        obtain ⟨⟨rfl, R_z26⟩, B_h25⟩ := q9
        have A_h25 := A_hq.tr B_h25 (by decide)
        show yG _ _ _ _ _ _ _ _ _ _ [] _
        refine yG.load xak rfl (fun _ _ => rfl) (v := yR k1) rfl rfl ?_
        refine yG.invV (rest := []) A_h25.1 (bOb (d_Tape W) H_k1) rfl rfl rfl rfl (c_Tape_next W d A_h25.1 H_k1) (fun rv h27 q9 => ?_)
        obtain ⟨⟨z28, rfl, l_z28, u_z28, R_z28⟩, B_h27⟩ := q9
        have A_h27 := A_h25.tr B_h27 (by decide)
        show yG _ _ _ _ _ _ _ _ _ _ (yI z28 :: []) _
        refine yG.step (pc' := 55) (stk' := []) rfl (fun _ _ => rfl) ?_
        refine yG.load xak rfl (fun _ _ => rfl) (v := yR k1) rfl rfl ?_
        refine yG.getI A_h27.1 (w_Tape_number W H_k1) rfl rfl (fun z29 e_z29 i_z29 l_z29 u_z29 => ?_)
        refine yG.num (c := -1) rfl (fun _ _ => rfl) (by decide) ?_
        refine yG.icmp rfl (t := 65) rfl ⟨by omega, by omega⟩ ⟨by omega, by omega⟩ (fun c30 => ?_) (fun c30 => ?_)
        · have c30 : (z29 : Int) ≠ (-1) := c30
          refine yG.load xak rfl (fun _ _ => rfl) (v := yR k0) rfl rfl ?_
          refine yG.load xak rfl (fun _ _ => rfl) (v := yR k1) rfl rfl ?_
          refine yG.getI A_h27.1 (w_Tape_number W H_k1) rfl rfl (fun z31 e_z31 i_z31 l_z31 u_z31 => ?_)
          rw [show (z31 : Int) = z29 by omega]
          refine yG.invV (rest := []) A_h27.1 (bOb (d_Rules W) H_k0) rfl rfl rfl rfl (c_Rules_put W (d + 2) A_h27.1 H_k0 (z29) (by omega) (by omega)) (fun rv h32 q9 => ?_)
          obtain ⟨⟨rfl, R_z33⟩, B_h32⟩ := q9
          have A_h32 := A_h27.tr B_h32 (by decide)
          have : ys h32 k1 7 = ys h27 k1 7 := B_h32.ys H_k1 (by decide)
          show yG _ _ _ _ _ _ _ _ _ _ [] _
          refine yG.load xak rfl (fun _ _ => rfl) (v := yR k1) rfl rfl ?_
          refine yG.invV (rest := []) A_h32.1 (bOb (d_Tape W) H_k1) rfl rfl rfl rfl (c_Tape_next W d A_h32.1 H_k1) (fun rv h34 q9 => ?_)
          obtain ⟨⟨z35, rfl, l_z35, u_z35, R_z35⟩, B_h34⟩ := q9
          have A_h34 := A_h32.tr B_h34 (by decide)
          show yG _ _ _ _ _ _ _ _ _ _ (yI z35 :: []) _
          refine yG.step (pc' := 78) (stk' := []) rfl (fun _ _ => rfl) ?_
          refine yG.num (c := 1) rfl (fun _ _ => rfl) (by decide) ?_
          refine yG.ret rfl (fun _ _ => rfl) ?_
          exact (yP.bool (by omega) ⟨⟨1, rfl, by omega, by omega, trivial⟩, A_h34⟩)
        · have c30 : (z29 : Int) = (-1) := c30
          refine yG.num (c := 0) rfl (fun _ _ => rfl) (by decide) ?_
          refine yG.ret rfl (fun _ _ => rfl) ?_
          exact (yP.bool (by omega) ⟨⟨0, rfl, by omega, by omega, trivial⟩, A_h27⟩)
  refine yC.of (M := (xt_X7_readBound, (3, (4, (8, []))))) rfl rfl (N := 112) (yfuel (by decide)) ?_
  show yG 89 xfts (xcall 89 xfts xpools xms (d + 3)) (xpool xp_RX7) [] xt_X7_readBound (yP 4 (bQi G [(32768, 2), (162259276829213363391578010320896, 3), (32768, 5), (32768, 6), (32768, 7), (324518553658426726783156020576256, 256)] hp 0 1 (fun _ => True))) 112 0 [(0, yR k0), (1, yR k1)] [] hp
  have i_25 := H 3
  refine yG.load xak rfl (fun _ _ => rfl) (v := yR k1) rfl rfl ?_
  refine yG.invV (rest := []) A_hp.1 (bOb (d_Tape W) H_k1) rfl rfl rfl rfl (c_Tape_key W (d + 2) A_hp.1 H_k1) (fun rv hp9 q9 => ?_)
  obtain ⟨⟨z1, rfl, l_z1, u_z1, R_z1⟩, e9⟩ := q9
  rw [e9]
  show yG _ _ _ _ _ _ _ _ _ _ (yI z1 :: []) _
  refine yG.store1 xik (L' := [(2, yI (z1)), (0, yR k0), (1, yR k1)]) rfl (fun _ _ => rfl) rfl rfl ?_
  refine yG.load xik rfl (fun _ _ => rfl) (v := yI (z1)) rfl rfl ?_
  refine yG.num (c := 28) rfl (fun _ _ => rfl) (by decide) ?_
  refine yG.icmp rfl (t := 25) rfl ⟨by omega, by omega⟩ ⟨by omega, by omega⟩ (fun c2 => ?_) (fun c2 => ?_)
  · have c2 : (z1 : Int) = 28 := c2
    exact yG.mono (yG.sub (i_25 (z1)  hp A_hp   (by omega) (by omega) (by omega)) (ySub.cons rfl (ySub.cons rfl (ySub.cons rfl (ySub.nil))))) (by omega)
  · have c2 : (z1 : Int) ≠ 28 := c2
    refine yG.load xik rfl (fun _ _ => rfl) (v := yI (z1)) rfl rfl ?_
    refine yG.num (c := 29) rfl (fun _ _ => rfl) (by decide) ?_
    refine yG.icmp rfl (t := 25) rfl ⟨by omega, by omega⟩ ⟨by omega, by omega⟩ (fun c3 => ?_) (fun c3 => ?_)
    · have c3 : (z1 : Int) = 29 := c3
      exact yG.mono (yG.sub (i_25 (z1)  hp A_hp   (by omega) (by omega) (by omega)) (ySub.cons rfl (ySub.cons rfl (ySub.cons rfl (ySub.nil))))) (by omega)
    · have c3 : (z1 : Int) ≠ 29 := c3
      refine yG.load xik rfl (fun _ _ => rfl) (v := yI (z1)) rfl rfl ?_
      refine yG.num (c := 30) rfl (fun _ _ => rfl) (by decide) ?_
      refine yG.icmp rfl (t := 25) rfl ⟨by omega, by omega⟩ ⟨by omega, by omega⟩ (fun c4 => ?_) (fun c4 => ?_)
      · have c4 : (z1 : Int) = 30 := c4
        exact yG.mono (yG.sub (i_25 (z1)  hp A_hp   (by omega) (by omega) (by omega)) (ySub.cons rfl (ySub.cons rfl (ySub.cons rfl (ySub.nil))))) (by omega)
      · have c4 : (z1 : Int) ≠ 30 := c4
        refine yG.num (c := 0) rfl (fun _ _ => rfl) (by decide) ?_
        refine yG.ret rfl (fun _ _ => rfl) ?_
        exact (yP.bool (by omega) ⟨⟨0, rfl, by omega, by omega, trivial⟩, A_hp⟩)
theorem c_Rules_objectOf_0 {hp : xH} (W : bW G) (d : Nat) (hT : zTy G hp) {k0 : Nat} (H_k0 : bRo G 15 k0) {k1 : Nat} (H_k1 : bRo G 18 k1) (p2 : Int) (h2l : 0 ≤ p2) (h2u : p2 ≤ 5) : yC (xcall 89 xfts xpools xms (d + 2)) 198 [yR k0, yR k1, yI (p2), yI (0)] hp (bQpi hp (-4) 15 (fun _ => True)) := by
  have A_hp : bAx G [] hp hp := bAx.rf hT
  refine yC.of (M := (xt_X7_objectOf, (4, (1, (8, []))))) rfl rfl (N := 45) (yfuel (by decide)) ?_
  show yG 89 xfts (xcall 89 xfts xpools xms (d + 1)) (xpool xp_RX7) [] xt_X7_objectOf (yP 1 (bQpi hp (-4) 15 (fun _ => True))) 45 0 [(0, yR k0), (1, yR k1), (2, yI (p2)), (3, yI (0))] [] hp
  refine yG.load xak rfl (fun _ _ => rfl) (v := yR k0) rfl rfl ?_
  refine yG.invV (rest := []) A_hp.1 (bOb (d_Tape W) H_k0) rfl rfl rfl rfl (c_Tape_key W d A_hp.1 H_k0) (fun rv hp9 q9 => ?_)
  obtain ⟨⟨z1, rfl, l_z1, u_z1, R_z1⟩, e9⟩ := q9
  rw [e9]
  show yG _ _ _ _ _ _ _ _ _ _ (yI z1 :: []) _
  rcases (show (z1 < (18 : Int) ∨ (20 : Int) < z1) ∨ z1 = (18 : Int) ∨ z1 = (19 : Int) ∨ z1 = (20 : Int) by omega) with c2 | c2 | c2 | c2
  · skip
    refine yG.tswD (t := 88) rfl ⟨by omega, by omega⟩ c2 rfl ?_
    refine yG.load xak rfl (fun _ _ => rfl) (v := yR k1) rfl rfl ?_
    refine yG.load xak rfl (fun _ _ => rfl) (v := yR k0) rfl rfl ?_
    refine yG.load xik rfl (fun _ _ => rfl) (v := yI (0)) rfl rfl ?_
    refine yG.invV (rest := []) A_hp.1 (bOb (d_Net W) H_k1) rfl rfl rfl rfl (c_Net_named__0 W d A_hp.1 H_k1 H_k0) (fun rv hp9 q9 => ?_)
    obtain ⟨⟨z3, rfl, l_z3, u_z3, R_z3⟩, e9⟩ := q9
    rw [e9]
    show yG _ _ _ _ _ _ _ _ _ _ (yI z3 :: []) _
    refine yG.ret rfl (fun _ _ => rfl) ?_
    exact (yP.int ⟨by omega, by omega⟩ ⟨⟨z3, rfl, by omega, by omega, trivial⟩, rfl⟩)
  · skip
    refine yG.tswC (i := 0) (t := 32) rfl ⟨by omega, by omega⟩ (by omega) (by omega) rfl rfl ?_
    refine yG.getS (c := 11) rfl rfl ?_
    refine yG.load xik rfl (fun _ _ => rfl) (v := yI (p2)) rfl rfl ?_
    refine yG.ialdT A_hp.1 (v_S_Rules_ACT_SORT W (s_S_Rules_ACT_SORT W)) (yhull2 (tf := bTf 6 t_S_Rules_ACT_SORT) (bTf_h (A := 0) (B := 1) (by decide) (by decide) (by decide) _)) rfl (by omega) (by omega) (fun z4 lo_z4 hi_z4 e_z4 i_z4 T_z4 l_z4 u_z4 => ?_)
    obtain ⟨L_z4, U_z4⟩ := yhull (tf := bTf 6 t_S_Rules_ACT_SORT) (bTf_h (A := 0) (B := 1) (by decide) (by decide) (by decide) _) T_z4
    refine yG.load xik rfl (fun _ _ => rfl) (v := yI (0)) rfl rfl ?_
    refine yG.icmp rfl (t := 46) rfl ⟨by omega, by omega⟩ ⟨by omega, by omega⟩ (fun c5 => ?_) (fun c5 => ?_)
    · have c5 : (z4 : Int) ≠ 0 := c5
      refine yG.num (c := -1) rfl (fun _ _ => rfl) (by decide) ?_
      refine yG.ret rfl (fun _ _ => rfl) ?_
      exact (yP.int ⟨by omega, by omega⟩ ⟨⟨(-1), rfl, by omega, by omega, trivial⟩, rfl⟩)
    · have c5 : (z4 : Int) = 0 := c5
      refine yG.num (c := -2) rfl (fun _ _ => rfl) (by decide) ?_
      refine yG.goto rfl (t := 47) rfl ?_
      refine yG.ret rfl (fun _ _ => rfl) ?_
      exact (yP.int ⟨by omega, by omega⟩ ⟨⟨(-2), rfl, by omega, by omega, trivial⟩, rfl⟩)
  · skip
    refine yG.tswC (i := 1) (t := 48) rfl ⟨by omega, by omega⟩ (by omega) (by omega) rfl rfl ?_
    refine yG.getS (c := 11) rfl rfl ?_
    refine yG.load xik rfl (fun _ _ => rfl) (v := yI (p2)) rfl rfl ?_
    refine yG.ialdT A_hp.1 (v_S_Rules_ACT_SORT W (s_S_Rules_ACT_SORT W)) (yhull2 (tf := bTf 6 t_S_Rules_ACT_SORT) (bTf_h (A := 0) (B := 1) (by decide) (by decide) (by decide) _)) rfl (by omega) (by omega) (fun z6 lo_z6 hi_z6 e_z6 i_z6 T_z6 l_z6 u_z6 => ?_)
    obtain ⟨L_z6, U_z6⟩ := yhull (tf := bTf 6 t_S_Rules_ACT_SORT) (bTf_h (A := 0) (B := 1) (by decide) (by decide) (by decide) _) T_z6
    refine yG.num (c := 1) rfl (fun _ _ => rfl) (by decide) ?_
    refine yG.icmp rfl (t := 66) rfl ⟨by omega, by omega⟩ ⟨by omega, by omega⟩ (fun c7 => ?_) (fun c7 => ?_)
    · have c7 : (z6 : Int) ≠ 1 := c7
      refine yG.num (c := -1) rfl (fun _ _ => rfl) (by decide) ?_
      refine yG.ret rfl (fun _ _ => rfl) ?_
      exact (yP.int ⟨by omega, by omega⟩ ⟨⟨(-1), rfl, by omega, by omega, trivial⟩, rfl⟩)
    · have c7 : (z6 : Int) = 1 := c7
      refine yG.load xik rfl (fun _ _ => rfl) (v := yI (0)) rfl rfl ?_
      refine yG.ifz rfl (t := 66) rfl ⟨by omega, by omega⟩ (fun c8 => ?_) (fun c8 => ?_)
      · have c8 : (0 : Int) ≠ 0 := c8
        exfalso; omega
      · have c8 : (0 : Int) = 0 := c8
        refine yG.num (c := -3) rfl (fun _ _ => rfl) (by decide) ?_
        refine yG.goto rfl (t := 67) rfl ?_
        refine yG.ret rfl (fun _ _ => rfl) ?_
        exact (yP.int ⟨by omega, by omega⟩ ⟨⟨(-3), rfl, by omega, by omega, trivial⟩, rfl⟩)
  · skip
    refine yG.tswC (i := 2) (t := 68) rfl ⟨by omega, by omega⟩ (by omega) (by omega) rfl rfl ?_
    refine yG.getS (c := 11) rfl rfl ?_
    refine yG.load xik rfl (fun _ _ => rfl) (v := yI (p2)) rfl rfl ?_
    refine yG.ialdT A_hp.1 (v_S_Rules_ACT_SORT W (s_S_Rules_ACT_SORT W)) (yhull2 (tf := bTf 6 t_S_Rules_ACT_SORT) (bTf_h (A := 0) (B := 1) (by decide) (by decide) (by decide) _)) rfl (by omega) (by omega) (fun z9 lo_z9 hi_z9 e_z9 i_z9 T_z9 l_z9 u_z9 => ?_)
    obtain ⟨L_z9, U_z9⟩ := yhull (tf := bTf 6 t_S_Rules_ACT_SORT) (bTf_h (A := 0) (B := 1) (by decide) (by decide) (by decide) _) T_z9
    refine yG.num (c := 1) rfl (fun _ _ => rfl) (by decide) ?_
    refine yG.icmp rfl (t := 86) rfl ⟨by omega, by omega⟩ ⟨by omega, by omega⟩ (fun c10 => ?_) (fun c10 => ?_)
    · have c10 : (z9 : Int) ≠ 1 := c10
      refine yG.num (c := -1) rfl (fun _ _ => rfl) (by decide) ?_
      refine yG.ret rfl (fun _ _ => rfl) ?_
      exact (yP.int ⟨by omega, by omega⟩ ⟨⟨(-1), rfl, by omega, by omega, trivial⟩, rfl⟩)
    · have c10 : (z9 : Int) = 1 := c10
      refine yG.load xik rfl (fun _ _ => rfl) (v := yI (0)) rfl rfl ?_
      refine yG.ifz rfl (t := 86) rfl ⟨by omega, by omega⟩ (fun c11 => ?_) (fun c11 => ?_)
      · have c11 : (0 : Int) ≠ 0 := c11
        exfalso; omega
      · have c11 : (0 : Int) = 0 := c11
        refine yG.num (c := -4) rfl (fun _ _ => rfl) (by decide) ?_
        refine yG.goto rfl (t := 87) rfl ?_
        refine yG.ret rfl (fun _ _ => rfl) ?_
        exact (yP.int ⟨by omega, by omega⟩ ⟨⟨(-4), rfl, by omega, by omega, trivial⟩, rfl⟩)
theorem c_Rules_objectOf_1 {hp : xH} (W : bW G) (d : Nat) (hT : zTy G hp) {k0 : Nat} (H_k0 : bRo G 15 k0) {k1 : Nat} (H_k1 : bRo G 18 k1) (p2 : Int) (h2l : 0 ≤ p2) (h2u : p2 ≤ 5) : yC (xcall 89 xfts xpools xms (d + 2)) 198 [yR k0, yR k1, yI (p2), yI (1)] hp (bQpi hp (-2) 23 (fun _ => True)) := by
  have A_hp : bAx G [] hp hp := bAx.rf hT
  refine yC.of (M := (xt_X7_objectOf, (4, (1, (8, []))))) rfl rfl (N := 42) (yfuel (by decide)) ?_
  show yG 89 xfts (xcall 89 xfts xpools xms (d + 1)) (xpool xp_RX7) [] xt_X7_objectOf (yP 1 (bQpi hp (-2) 23 (fun _ => True))) 42 0 [(0, yR k0), (1, yR k1), (2, yI (p2)), (3, yI (1))] [] hp
  refine yG.load xak rfl (fun _ _ => rfl) (v := yR k0) rfl rfl ?_
  refine yG.invV (rest := []) A_hp.1 (bOb (d_Tape W) H_k0) rfl rfl rfl rfl (c_Tape_key W d A_hp.1 H_k0) (fun rv hp9 q9 => ?_)
  obtain ⟨⟨z1, rfl, l_z1, u_z1, R_z1⟩, e9⟩ := q9
  rw [e9]
  show yG _ _ _ _ _ _ _ _ _ _ (yI z1 :: []) _
  rcases (show (z1 < (18 : Int) ∨ (20 : Int) < z1) ∨ z1 = (18 : Int) ∨ z1 = (19 : Int) ∨ z1 = (20 : Int) by omega) with c2 | c2 | c2 | c2
  · skip
    refine yG.tswD (t := 88) rfl ⟨by omega, by omega⟩ c2 rfl ?_
    refine yG.load xak rfl (fun _ _ => rfl) (v := yR k1) rfl rfl ?_
    refine yG.load xak rfl (fun _ _ => rfl) (v := yR k0) rfl rfl ?_
    refine yG.load xik rfl (fun _ _ => rfl) (v := yI (1)) rfl rfl ?_
    refine yG.invV (rest := []) A_hp.1 (bOb (d_Net W) H_k1) rfl rfl rfl rfl (c_Net_named__1 W d A_hp.1 H_k1 H_k0) (fun rv hp9 q9 => ?_)
    obtain ⟨⟨z3, rfl, l_z3, u_z3, R_z3⟩, e9⟩ := q9
    rw [e9]
    show yG _ _ _ _ _ _ _ _ _ _ (yI z3 :: []) _
    refine yG.ret rfl (fun _ _ => rfl) ?_
    exact (yP.int ⟨by omega, by omega⟩ ⟨⟨z3, rfl, by omega, by omega, trivial⟩, rfl⟩)
  · skip
    refine yG.tswC (i := 0) (t := 32) rfl ⟨by omega, by omega⟩ (by omega) (by omega) rfl rfl ?_
    refine yG.getS (c := 11) rfl rfl ?_
    refine yG.load xik rfl (fun _ _ => rfl) (v := yI (p2)) rfl rfl ?_
    refine yG.ialdT A_hp.1 (v_S_Rules_ACT_SORT W (s_S_Rules_ACT_SORT W)) (yhull2 (tf := bTf 6 t_S_Rules_ACT_SORT) (bTf_h (A := 0) (B := 1) (by decide) (by decide) (by decide) _)) rfl (by omega) (by omega) (fun z4 lo_z4 hi_z4 e_z4 i_z4 T_z4 l_z4 u_z4 => ?_)
    obtain ⟨L_z4, U_z4⟩ := yhull (tf := bTf 6 t_S_Rules_ACT_SORT) (bTf_h (A := 0) (B := 1) (by decide) (by decide) (by decide) _) T_z4
    refine yG.load xik rfl (fun _ _ => rfl) (v := yI (1)) rfl rfl ?_
    refine yG.icmp rfl (t := 46) rfl ⟨by omega, by omega⟩ ⟨by omega, by omega⟩ (fun c5 => ?_) (fun c5 => ?_)
    · have c5 : (z4 : Int) ≠ 1 := c5
      refine yG.num (c := -1) rfl (fun _ _ => rfl) (by decide) ?_
      refine yG.ret rfl (fun _ _ => rfl) ?_
      exact (yP.int ⟨by omega, by omega⟩ ⟨⟨(-1), rfl, by omega, by omega, trivial⟩, rfl⟩)
    · have c5 : (z4 : Int) = 1 := c5
      refine yG.num (c := -2) rfl (fun _ _ => rfl) (by decide) ?_
      refine yG.goto rfl (t := 47) rfl ?_
      refine yG.ret rfl (fun _ _ => rfl) ?_
      exact (yP.int ⟨by omega, by omega⟩ ⟨⟨(-2), rfl, by omega, by omega, trivial⟩, rfl⟩)
  · skip
    refine yG.tswC (i := 1) (t := 48) rfl ⟨by omega, by omega⟩ (by omega) (by omega) rfl rfl ?_
    refine yG.getS (c := 11) rfl rfl ?_
    refine yG.load xik rfl (fun _ _ => rfl) (v := yI (p2)) rfl rfl ?_
    refine yG.ialdT A_hp.1 (v_S_Rules_ACT_SORT W (s_S_Rules_ACT_SORT W)) (yhull2 (tf := bTf 6 t_S_Rules_ACT_SORT) (bTf_h (A := 0) (B := 1) (by decide) (by decide) (by decide) _)) rfl (by omega) (by omega) (fun z6 lo_z6 hi_z6 e_z6 i_z6 T_z6 l_z6 u_z6 => ?_)
    obtain ⟨L_z6, U_z6⟩ := yhull (tf := bTf 6 t_S_Rules_ACT_SORT) (bTf_h (A := 0) (B := 1) (by decide) (by decide) (by decide) _) T_z6
    refine yG.num (c := 1) rfl (fun _ _ => rfl) (by decide) ?_
    refine yG.icmp rfl (t := 66) rfl ⟨by omega, by omega⟩ ⟨by omega, by omega⟩ (fun c7 => ?_) (fun c7 => ?_)
    · have c7 : (z6 : Int) ≠ 1 := c7
      refine yG.num (c := -1) rfl (fun _ _ => rfl) (by decide) ?_
      refine yG.ret rfl (fun _ _ => rfl) ?_
      exact (yP.int ⟨by omega, by omega⟩ ⟨⟨(-1), rfl, by omega, by omega, trivial⟩, rfl⟩)
    · have c7 : (z6 : Int) = 1 := c7
      refine yG.load xik rfl (fun _ _ => rfl) (v := yI (1)) rfl rfl ?_
      refine yG.ifz rfl (t := 66) rfl ⟨by omega, by omega⟩ (fun c8 => ?_) (fun c8 => ?_)
      · have c8 : (1 : Int) ≠ 0 := c8
        refine yG.num (c := -1) rfl (fun _ _ => rfl) (by decide) ?_
        refine yG.ret rfl (fun _ _ => rfl) ?_
        exact (yP.int ⟨by omega, by omega⟩ ⟨⟨(-1), rfl, by omega, by omega, trivial⟩, rfl⟩)
      · have c8 : (1 : Int) = 0 := c8
        exfalso; omega
  · skip
    refine yG.tswC (i := 2) (t := 68) rfl ⟨by omega, by omega⟩ (by omega) (by omega) rfl rfl ?_
    refine yG.getS (c := 11) rfl rfl ?_
    refine yG.load xik rfl (fun _ _ => rfl) (v := yI (p2)) rfl rfl ?_
    refine yG.ialdT A_hp.1 (v_S_Rules_ACT_SORT W (s_S_Rules_ACT_SORT W)) (yhull2 (tf := bTf 6 t_S_Rules_ACT_SORT) (bTf_h (A := 0) (B := 1) (by decide) (by decide) (by decide) _)) rfl (by omega) (by omega) (fun z9 lo_z9 hi_z9 e_z9 i_z9 T_z9 l_z9 u_z9 => ?_)
    obtain ⟨L_z9, U_z9⟩ := yhull (tf := bTf 6 t_S_Rules_ACT_SORT) (bTf_h (A := 0) (B := 1) (by decide) (by decide) (by decide) _) T_z9
    refine yG.num (c := 1) rfl (fun _ _ => rfl) (by decide) ?_
    refine yG.icmp rfl (t := 86) rfl ⟨by omega, by omega⟩ ⟨by omega, by omega⟩ (fun c10 => ?_) (fun c10 => ?_)
    · have c10 : (z9 : Int) ≠ 1 := c10
      refine yG.num (c := -1) rfl (fun _ _ => rfl) (by decide) ?_
      refine yG.ret rfl (fun _ _ => rfl) ?_
      exact (yP.int ⟨by omega, by omega⟩ ⟨⟨(-1), rfl, by omega, by omega, trivial⟩, rfl⟩)
    · have c10 : (z9 : Int) = 1 := c10
      refine yG.load xik rfl (fun _ _ => rfl) (v := yI (1)) rfl rfl ?_
      refine yG.ifz rfl (t := 86) rfl ⟨by omega, by omega⟩ (fun c11 => ?_) (fun c11 => ?_)
      · have c11 : (1 : Int) ≠ 0 := c11
        refine yG.num (c := -1) rfl (fun _ _ => rfl) (by decide) ?_
        refine yG.ret rfl (fun _ _ => rfl) ?_
        exact (yP.int ⟨by omega, by omega⟩ ⟨⟨(-1), rfl, by omega, by omega, trivial⟩, rfl⟩)
      · have c11 : (1 : Int) = 0 := c11
        exfalso; omega
theorem c_Rules_readObjects {hp : xH} (W : bW G) (d : Nat) (hT : zTy G hp) {k0 : Nat} (H_k0 : bRo G 107 k0) {k1 : Nat} (H_k1 : bRo G 15 k1) {k2 : Nat} (H_k2 : bRo G 18 k2) (p3 p4 : Int) (h3l : 0 ≤ p3) (h3u : p3 ≤ 5) (h4l : 0 ≤ p4) (h4u : p4 ≤ 7) : yC (xcall 89 xfts xpools xms (d + 4)) 204 [yR k0, yR k1, yR k2, yI (p3), yI (p4)] hp (bQi G [(32768, 2), (162259276829213363391578010320896, 3), (32768, 5), (32768, 6), (32768, 7), (324518553658426726783156020576256, 256)] hp 0 1 (fun _ => True)) := by
  have A_hp : bAx G [(32768, 2), (162259276829213363391578010320896, 3), (32768, 5), (32768, 6), (32768, 7), (324518553658426726783156020576256, 256)] hp hp := bAx.rf hT
  have H : ∀ m : Nat, (∀ hq, bAx G [(32768, 2), (162259276829213363391578010320896, 3), (32768, 5), (32768, 6), (32768, 7), (324518553658426726783156020576256, 256)] hp hq → 0 ≤ p3 → (-5) ≤ 0 - p3 → 0 ≤ p4 → (-1) ≤ 0 - p4 → 6 < (m : Int) → yG 89 xfts (xcall 89 xfts xpools xms (d + 3)) (xpool xp_RX7) [] xt_X7_readObjects (yP 4 (bQi G [(32768, 2), (162259276829213363391578010320896, 3), (32768, 5), (32768, 6), (32768, 7), (324518553658426726783156020576256, 256)] hp 0 1 (fun _ => True))) (22 * m) 11 [(0, yR k0), (1, yR k1), (2, yR k2), (3, yI (p3)), (4, yI (p4))] [] hq) ∧ (∀ a5 : Int, ∀ a6 : Int, ∀ a7 : Int, ∀ hq, bAx G [(32768, 2), (162259276829213363391578010320896, 3), (32768, 5), (32768, 6), (32768, 7), (324518553658426726783156020576256, 256)] hp hq → 0 ≤ a5 → (-1) ≤ 0 - a5 → 1 ≤ a6 → (-2) ≤ 0 - a6 → 0 ≤ a7 → (-2) ≤ 0 - a7 → 0 ≤ p3 → (-5) ≤ 0 - p3 → 0 ≤ p4 → (-7) ≤ 0 - p4 → 0 ≤ a6 - a7 → (-1) ≤ 0 - a6 + p4 → 0 - 2 * a7 + 5 < (m : Int) → yG 89 xfts (xcall 89 xfts xpools xms (d + 3)) (xpool xp_RX7) [] xt_X7_readObjects (yP 4 (bQi G [(32768, 2), (162259276829213363391578010320896, 3), (32768, 5), (32768, 6), (32768, 7), (324518553658426726783156020576256, 256)] hp 0 1 (fun _ => True))) (22 * m) 34 [(0, yR k0), (1, yR k1), (2, yR k2), (3, yI (p3)), (5, yI (a5)), (6, yI (a6)), (7, yI (a7))] [] hq) := by
    intro m
    induction m with
    | zero =>
      refine ⟨?_, ?_⟩ <;> (intros; exfalso; omega)
    | succ m ih =>
      obtain ⟨i_11, i_34⟩ := ih
      refine ⟨?_, ?_⟩
      · intro hq A_hq f0 f1 f2 f3 hm
        refine yG.mono (N := 22 * m + 22) ?_ (by omega)
        refine yG.num (c := 1) rfl (fun _ _ => rfl) (by decide) ?_
        refine yG.goto rfl (t := 16) rfl ?_
        refine yG.store1 xik (L' := [(5, yI (1)), (0, yR k0), (1, yR k1), (2, yR k2), (3, yI (p3)), (4, yI (p4))]) rfl (fun _ _ => rfl) rfl rfl ?_
        refine yG.load xik rfl (fun _ _ => rfl) (v := yI (p4)) rfl rfl ?_
        refine yG.num (c := 4) rfl (fun _ _ => rfl) (by decide) ?_
        refine yG.icmp rfl (t := 28) rfl ⟨by omega, by omega⟩ ⟨by omega, by omega⟩ (fun c1 => ?_) (fun c1 => ?_)
        · have c1 : (p4 : Int) ≠ 4 := c1
          refine yG.num (c := 1) rfl (fun _ _ => rfl) (by decide) ?_
          refine yG.store1 xik (L' := [(6, yI (1)), (5, yI (1)), (0, yR k0), (1, yR k1), (2, yR k2), (3, yI (p3)), (4, yI (p4))]) rfl (fun _ _ => rfl) rfl rfl ?_
          refine yG.num (c := 0) rfl (fun _ _ => rfl) (by decide) ?_
          refine yG.store1 xik (L' := [(7, yI (0)), (6, yI (1)), (5, yI (1)), (0, yR k0), (1, yR k1), (2, yR k2), (3, yI (p3)), (4, yI (p4))]) rfl (fun _ _ => rfl) rfl rfl ?_
          exact yG.mono (yG.sub (i_34 (1) (1) (0)  hq A_hq   (by omega) (by omega) (by omega) (by omega) (by omega) (by omega) (by omega) (by omega) (by omega) (by omega) (by omega) (by omega) (by omega)) (ySub.cons rfl (ySub.cons rfl (ySub.cons rfl (ySub.cons rfl (ySub.cons rfl (ySub.cons rfl (ySub.cons rfl (ySub.nil))))))))) (by omega)
        · have c1 : (p4 : Int) = 4 := c1
          exfalso; omega
      · intro a5 a6 a7 hq A_hq f0 f1 f2 f3 f4 f5 f6 f7 f8 f9 f10 f11 hm
        refine yG.mono (N := 22 * m + 22) ?_ (by omega)
        rcases (show a5 = 0 ∨ a5 = 1 by omega) with c1 | c1
        · subst c1
          refine yG.load xik rfl (fun _ _ => rfl) (v := yI (a7)) rfl rfl ?_
          refine yG.load xik rfl (fun _ _ => rfl) (v := yI (a6)) rfl rfl ?_
          refine yG.icmp rfl (t := 76) rfl ⟨by omega, by omega⟩ ⟨by omega, by omega⟩ (fun c2 => ?_) (fun c2 => ?_)
          · have c2 : (a7 : Int) ≥ a6 := c2
            refine yG.load xik rfl (fun _ _ => rfl) (v := yI (a6)) rfl rfl ?_
            refine yG.num (c := 1) rfl (fun _ _ => rfl) (by decide) ?_
            refine yG.icmp rfl (t := 87) rfl ⟨by omega, by omega⟩ ⟨by omega, by omega⟩ (fun c3 => ?_) (fun c3 => ?_)
            · have c3 : (a6 : Int) ≠ 1 := c3
              refine yG.num (c := 1) rfl (fun _ _ => rfl) (by decide) ?_
              refine yG.ret rfl (fun _ _ => rfl) ?_
              exact (yP.bool (by omega) ⟨⟨1, rfl, by omega, by omega, trivial⟩, A_hq⟩)
            · have c3 : (a6 : Int) = 1 := c3
              refine yG.load xak rfl (fun _ _ => rfl) (v := yR k0) rfl rfl ?_
              refine yG.num (c := 0) rfl (fun _ _ => rfl) (by decide) ?_
              refine yG.invV (rest := []) A_hq.1 (bOb (d_Rules W) H_k0) rfl rfl rfl rfl (c_Rules_put W (d + 2) A_hq.1 H_k0 (0) (by omega) (by omega)) (fun rv h4 q9 => ?_)
              obtain ⟨⟨rfl, R_z5⟩, B_h4⟩ := q9
              have A_h4 := A_hq.tr B_h4 (by decide)
              show yG _ _ _ _ _ _ _ _ _ _ [] _
              refine yG.num (c := 1) rfl (fun _ _ => rfl) (by decide) ?_
              refine yG.ret rfl (fun _ _ => rfl) ?_
              exact (yP.bool (by omega) ⟨⟨1, rfl, by omega, by omega, trivial⟩, A_h4⟩)
          · have c2 : (a7 : Int) < a6 := c2
            refine yG.load xak rfl (fun _ _ => rfl) (v := yR k1) rfl rfl ?_
            refine yG.load xak rfl (fun _ _ => rfl) (v := yR k2) rfl rfl ?_
            refine yG.load xik rfl (fun _ _ => rfl) (v := yI (p3)) rfl rfl ?_
            refine yG.load xik rfl (fun _ _ => rfl) (v := yI (0)) rfl rfl ?_
            refine yG.invS (rest := []) rfl rfl rfl rfl (c_Rules_objectOf_0 W (d + 1) A_hq.1 H_k1 H_k2 (p3) (by omega) (by omega)) (fun rv hp9 q9 => ?_)
            obtain ⟨⟨z6, rfl, l_z6, u_z6, R_z6⟩, e9⟩ := q9
            rw [e9]
            show yG _ _ _ _ _ _ _ _ _ _ (yI z6 :: []) _
            refine yG.store1 xik (L' := [(8, yI (z6)), (0, yR k0), (1, yR k1), (2, yR k2), (3, yI (p3)), (5, yI (0)), (6, yI (a6)), (7, yI (a7))]) rfl (fun _ _ => rfl) rfl rfl ?_
            refine yG.load xik rfl (fun _ _ => rfl) (v := yI (z6)) rfl rfl ?_
            refine yG.num (c := -1) rfl (fun _ _ => rfl) (by decide) ?_
            refine yG.icmp rfl (t := 59) rfl ⟨by omega, by omega⟩ ⟨by omega, by omega⟩ (fun c7 => ?_) (fun c7 => ?_)
            · have c7 : (z6 : Int) ≠ (-1) := c7
              refine yG.load xak rfl (fun _ _ => rfl) (v := yR k0) rfl rfl ?_
              refine yG.load xik rfl (fun _ _ => rfl) (v := yI (z6)) rfl rfl ?_
              refine yG.invV (rest := []) A_hq.1 (bOb (d_Rules W) H_k0) rfl rfl rfl rfl (c_Rules_put W (d + 2) A_hq.1 H_k0 (z6) (by omega) (by omega)) (fun rv h8 q9 => ?_)
              obtain ⟨⟨rfl, R_z9⟩, B_h8⟩ := q9
              have A_h8 := A_hq.tr B_h8 (by decide)
              show yG _ _ _ _ _ _ _ _ _ _ [] _
              refine yG.load xak rfl (fun _ _ => rfl) (v := yR k1) rfl rfl ?_
              refine yG.invV (rest := []) A_h8.1 (bOb (d_Tape W) H_k1) rfl rfl rfl rfl (c_Tape_next W d A_h8.1 H_k1) (fun rv h10 q9 => ?_)
              obtain ⟨⟨z11, rfl, l_z11, u_z11, R_z11⟩, B_h10⟩ := q9
              have A_h10 := A_h8.tr B_h10 (by decide)
              show yG _ _ _ _ _ _ _ _ _ _ (yI z11 :: []) _
              refine yG.step (pc' := 70) (stk' := []) rfl (fun _ _ => rfl) ?_
              refine yG.iinc rfl (a := a7) rfl (L' := [(7, yI (a7 + 1)), (8, yI (z6)), (0, yR k0), (1, yR k1), (2, yR k2), (3, yI (p3)), (5, yI (0)), (6, yI (a6))]) rfl ?_
              refine yG.goto rfl (t := 34) rfl ?_
              exact yG.mono (yG.sub (i_34 (0) (a6) (a7 + 1)  h10 A_h10   (by omega) (by omega) (by omega) (by omega) (by omega) (by omega) (by omega) (by omega) (by omega) (by omega) (by omega) (by omega) (by omega)) (ySub.cons rfl (ySub.cons rfl (ySub.cons rfl (ySub.cons rfl (ySub.cons rfl (ySub.cons rfl (ySub.cons rfl (ySub.nil))))))))) (by omega)
            · have c7 : (z6 : Int) = (-1) := c7
              refine yG.num (c := 0) rfl (fun _ _ => rfl) (by decide) ?_
              refine yG.ret rfl (fun _ _ => rfl) ?_
              exact (yP.bool (by omega) ⟨⟨0, rfl, by omega, by omega, trivial⟩, A_hq⟩)
        · subst c1
          refine yG.load xik rfl (fun _ _ => rfl) (v := yI (a7)) rfl rfl ?_
          refine yG.load xik rfl (fun _ _ => rfl) (v := yI (a6)) rfl rfl ?_
          refine yG.icmp rfl (t := 76) rfl ⟨by omega, by omega⟩ ⟨by omega, by omega⟩ (fun c12 => ?_) (fun c12 => ?_)
          · have c12 : (a7 : Int) ≥ a6 := c12
            refine yG.load xik rfl (fun _ _ => rfl) (v := yI (a6)) rfl rfl ?_
            refine yG.num (c := 1) rfl (fun _ _ => rfl) (by decide) ?_
            refine yG.icmp rfl (t := 87) rfl ⟨by omega, by omega⟩ ⟨by omega, by omega⟩ (fun c13 => ?_) (fun c13 => ?_)
            · have c13 : (a6 : Int) ≠ 1 := c13
              refine yG.num (c := 1) rfl (fun _ _ => rfl) (by decide) ?_
              refine yG.ret rfl (fun _ _ => rfl) ?_
              exact (yP.bool (by omega) ⟨⟨1, rfl, by omega, by omega, trivial⟩, A_hq⟩)
            · have c13 : (a6 : Int) = 1 := c13
              refine yG.load xak rfl (fun _ _ => rfl) (v := yR k0) rfl rfl ?_
              refine yG.num (c := 0) rfl (fun _ _ => rfl) (by decide) ?_
              refine yG.invV (rest := []) A_hq.1 (bOb (d_Rules W) H_k0) rfl rfl rfl rfl (c_Rules_put W (d + 2) A_hq.1 H_k0 (0) (by omega) (by omega)) (fun rv h14 q9 => ?_)
              obtain ⟨⟨rfl, R_z15⟩, B_h14⟩ := q9
              have A_h14 := A_hq.tr B_h14 (by decide)
              show yG _ _ _ _ _ _ _ _ _ _ [] _
              refine yG.num (c := 1) rfl (fun _ _ => rfl) (by decide) ?_
              refine yG.ret rfl (fun _ _ => rfl) ?_
              exact (yP.bool (by omega) ⟨⟨1, rfl, by omega, by omega, trivial⟩, A_h14⟩)
          · have c12 : (a7 : Int) < a6 := c12
            refine yG.load xak rfl (fun _ _ => rfl) (v := yR k1) rfl rfl ?_
            refine yG.load xak rfl (fun _ _ => rfl) (v := yR k2) rfl rfl ?_
            refine yG.load xik rfl (fun _ _ => rfl) (v := yI (p3)) rfl rfl ?_
            refine yG.load xik rfl (fun _ _ => rfl) (v := yI (1)) rfl rfl ?_
            refine yG.invS (rest := []) rfl rfl rfl rfl (c_Rules_objectOf_1 W (d + 1) A_hq.1 H_k1 H_k2 (p3) (by omega) (by omega)) (fun rv hp9 q9 => ?_)
            obtain ⟨⟨z16, rfl, l_z16, u_z16, R_z16⟩, e9⟩ := q9
            rw [e9]
            show yG _ _ _ _ _ _ _ _ _ _ (yI z16 :: []) _
            refine yG.store1 xik (L' := [(8, yI (z16)), (0, yR k0), (1, yR k1), (2, yR k2), (3, yI (p3)), (5, yI (1)), (6, yI (a6)), (7, yI (a7))]) rfl (fun _ _ => rfl) rfl rfl ?_
            refine yG.load xik rfl (fun _ _ => rfl) (v := yI (z16)) rfl rfl ?_
            refine yG.num (c := -1) rfl (fun _ _ => rfl) (by decide) ?_
            refine yG.icmp rfl (t := 59) rfl ⟨by omega, by omega⟩ ⟨by omega, by omega⟩ (fun c17 => ?_) (fun c17 => ?_)
            · have c17 : (z16 : Int) ≠ (-1) := c17
              refine yG.load xak rfl (fun _ _ => rfl) (v := yR k0) rfl rfl ?_
              refine yG.load xik rfl (fun _ _ => rfl) (v := yI (z16)) rfl rfl ?_
              refine yG.invV (rest := []) A_hq.1 (bOb (d_Rules W) H_k0) rfl rfl rfl rfl (c_Rules_put W (d + 2) A_hq.1 H_k0 (z16) (by omega) (by omega)) (fun rv h18 q9 => ?_)
              obtain ⟨⟨rfl, R_z19⟩, B_h18⟩ := q9
              have A_h18 := A_hq.tr B_h18 (by decide)
              show yG _ _ _ _ _ _ _ _ _ _ [] _
              refine yG.load xak rfl (fun _ _ => rfl) (v := yR k1) rfl rfl ?_
              refine yG.invV (rest := []) A_h18.1 (bOb (d_Tape W) H_k1) rfl rfl rfl rfl (c_Tape_next W d A_h18.1 H_k1) (fun rv h20 q9 => ?_)
              obtain ⟨⟨z21, rfl, l_z21, u_z21, R_z21⟩, B_h20⟩ := q9
              have A_h20 := A_h18.tr B_h20 (by decide)
              show yG _ _ _ _ _ _ _ _ _ _ (yI z21 :: []) _
              refine yG.step (pc' := 70) (stk' := []) rfl (fun _ _ => rfl) ?_
              refine yG.iinc rfl (a := a7) rfl (L' := [(7, yI (a7 + 1)), (8, yI (z16)), (0, yR k0), (1, yR k1), (2, yR k2), (3, yI (p3)), (5, yI (1)), (6, yI (a6))]) rfl ?_
              refine yG.goto rfl (t := 34) rfl ?_
              exact yG.mono (yG.sub (i_34 (1) (a6) (a7 + 1)  h20 A_h20   (by omega) (by omega) (by omega) (by omega) (by omega) (by omega) (by omega) (by omega) (by omega) (by omega) (by omega) (by omega) (by omega)) (ySub.cons rfl (ySub.cons rfl (ySub.cons rfl (ySub.cons rfl (ySub.cons rfl (ySub.cons rfl (ySub.cons rfl (ySub.nil))))))))) (by omega)
            · have c17 : (z16 : Int) = (-1) := c17
              refine yG.num (c := 0) rfl (fun _ _ => rfl) (by decide) ?_
              refine yG.ret rfl (fun _ _ => rfl) ?_
              exact (yP.bool (by omega) ⟨⟨0, rfl, by omega, by omega, trivial⟩, A_hq⟩)
  refine yC.of (M := (xt_X7_readObjects, (9, (4, (8, []))))) rfl rfl (N := 198) (yfuel (by decide)) ?_
  show yG 89 xfts (xcall 89 xfts xpools xms (d + 3)) (xpool xp_RX7) [] xt_X7_readObjects (yP 4 (bQi G [(32768, 2), (162259276829213363391578010320896, 3), (32768, 5), (32768, 6), (32768, 7), (324518553658426726783156020576256, 256)] hp 0 1 (fun _ => True))) 198 0 [(0, yR k0), (1, yR k1), (2, yR k2), (3, yI (p3)), (4, yI (p4))] [] hp
  obtain ⟨i_11, i_34⟩ := H 8
  refine yG.load xik rfl (fun _ _ => rfl) (v := yI (p4)) rfl rfl ?_
  refine yG.ifz rfl (t := 11) rfl ⟨by omega, by omega⟩ (fun c1 => ?_) (fun c1 => ?_)
  · have c1 : (p4 : Int) = 0 := c1
    exact yG.mono (yG.sub (i_11   hp A_hp   (by omega) (by omega) (by omega) (by omega) (by omega)) (ySub.cons rfl (ySub.cons rfl (ySub.cons rfl (ySub.cons rfl (ySub.cons rfl (ySub.nil))))))) (by omega)
  · have c1 : (p4 : Int) ≠ 0 := c1
    refine yG.load xik rfl (fun _ _ => rfl) (v := yI (p4)) rfl rfl ?_
    refine yG.num (c := 1) rfl (fun _ _ => rfl) (by decide) ?_
    refine yG.icmp rfl (t := 15) rfl ⟨by omega, by omega⟩ ⟨by omega, by omega⟩ (fun c2 => ?_) (fun c2 => ?_)
    · have c2 : (p4 : Int) ≠ 1 := c2
      refine yG.num (c := 0) rfl (fun _ _ => rfl) (by decide) ?_
      refine yG.store1 xik (L' := [(5, yI (0)), (0, yR k0), (1, yR k1), (2, yR k2), (3, yI (p3)), (4, yI (p4))]) rfl (fun _ _ => rfl) rfl rfl ?_
      refine yG.load xik rfl (fun _ _ => rfl) (v := yI (p4)) rfl rfl ?_
      refine yG.num (c := 4) rfl (fun _ _ => rfl) (by decide) ?_
      refine yG.icmp rfl (t := 28) rfl ⟨by omega, by omega⟩ ⟨by omega, by omega⟩ (fun c3 => ?_) (fun c3 => ?_)
      · have c3 : (p4 : Int) ≠ 4 := c3
        refine yG.num (c := 1) rfl (fun _ _ => rfl) (by decide) ?_
        refine yG.store1 xik (L' := [(6, yI (1)), (5, yI (0)), (0, yR k0), (1, yR k1), (2, yR k2), (3, yI (p3)), (4, yI (p4))]) rfl (fun _ _ => rfl) rfl rfl ?_
        refine yG.num (c := 0) rfl (fun _ _ => rfl) (by decide) ?_
        refine yG.store1 xik (L' := [(7, yI (0)), (6, yI (1)), (5, yI (0)), (0, yR k0), (1, yR k1), (2, yR k2), (3, yI (p3)), (4, yI (p4))]) rfl (fun _ _ => rfl) rfl rfl ?_
        exact yG.mono (yG.sub (i_34 (0) (1) (0)  hp A_hp   (by omega) (by omega) (by omega) (by omega) (by omega) (by omega) (by omega) (by omega) (by omega) (by omega) (by omega) (by omega) (by omega)) (ySub.cons rfl (ySub.cons rfl (ySub.cons rfl (ySub.cons rfl (ySub.cons rfl (ySub.cons rfl (ySub.cons rfl (ySub.nil))))))))) (by omega)
      · have c3 : (p4 : Int) = 4 := c3
        refine yG.num (c := 2) rfl (fun _ _ => rfl) (by decide) ?_
        refine yG.goto rfl (t := 29) rfl ?_
        refine yG.store1 xik (L' := [(6, yI (2)), (5, yI (0)), (0, yR k0), (1, yR k1), (2, yR k2), (3, yI (p3)), (4, yI (p4))]) rfl (fun _ _ => rfl) rfl rfl ?_
        refine yG.num (c := 0) rfl (fun _ _ => rfl) (by decide) ?_
        refine yG.store1 xik (L' := [(7, yI (0)), (6, yI (2)), (5, yI (0)), (0, yR k0), (1, yR k1), (2, yR k2), (3, yI (p3)), (4, yI (p4))]) rfl (fun _ _ => rfl) rfl rfl ?_
        exact yG.mono (yG.sub (i_34 (0) (2) (0)  hp A_hp   (by omega) (by omega) (by omega) (by omega) (by omega) (by omega) (by omega) (by omega) (by omega) (by omega) (by omega) (by omega) (by omega)) (ySub.cons rfl (ySub.cons rfl (ySub.cons rfl (ySub.cons rfl (ySub.cons rfl (ySub.cons rfl (ySub.cons rfl (ySub.nil))))))))) (by omega)
    · have c2 : (p4 : Int) = 1 := c2
      exact yG.mono (yG.sub (i_11   hp A_hp   (by omega) (by omega) (by omega) (by omega) (by omega)) (ySub.cons rfl (ySub.cons rfl (ySub.cons rfl (ySub.cons rfl (ySub.cons rfl (ySub.nil))))))) (by omega)
theorem c_Rules_readCondition {hp : xH} (W : bW G) (d : Nat) (hT : zTy G hp) {k0 : Nat} (H_k0 : bRo G 107 k0) {k1 : Nat} (H_k1 : bRo G 15 k1) {k2 : Nat} (H_k2 : bRo G 18 k2) (p3 : Int) (h3l : 0 ≤ p3) (h3u : p3 ≤ 5) : yC (xcall 89 xfts xpools xms (d + 5)) 203 [yR k0, yR k1, yR k2, yI (p3)] hp (bQi G [(32768, 2), (162259276829213363391578010320896, 3), (162259276829213363391578010320896, 5), (32768, 6), (32768, 7), (973555660975280180349468061728768, 256)] hp 0 1 (fun _ => True)) := by
  have A_hp : bAx G [(32768, 2), (162259276829213363391578010320896, 3), (162259276829213363391578010320896, 5), (32768, 6), (32768, 7), (973555660975280180349468061728768, 256)] hp hp := bAx.rf hT
  have H : ∀ m : Nat, (∀ a4 : Int, ∀ a5 : Int, ∀ hq, bAx G [(32768, 2), (162259276829213363391578010320896, 3), (162259276829213363391578010320896, 5), (32768, 6), (32768, 7), (973555660975280180349468061728768, 256)] hp hq → (-2147483648) ≤ a4 → (-2147483647) ≤ 0 - a4 → 0 ≤ a5 → (-4000) ≤ 0 - a5 → 0 ≤ p3 → (-5) ≤ 0 - p3 → (-2147483646) ≤ 0 - a4 + a5 → 0 - 5 * a5 + 20004 < (m : Int) → yG 89 xfts (xcall 89 xfts xpools xms (d + 4)) (xpool xp_RX7) [] xt_X7_readCondition (yP 4 (bQi G [(32768, 2), (162259276829213363391578010320896, 3), (162259276829213363391578010320896, 5), (32768, 6), (32768, 7), (973555660975280180349468061728768, 256)] hp 0 1 (fun _ => True))) (38 * m) 11 [(0, yR k0), (1, yR k1), (2, yR k2), (3, yI (p3)), (4, yI (a4)), (5, yI (a5))] [] hq) ∧ (∀ a4 : Int, ∀ a5 : Int, ∀ hq, bAx G [(32768, 2), (162259276829213363391578010320896, 3), (162259276829213363391578010320896, 5), (32768, 6), (32768, 7), (973555660975280180349468061728768, 256)] hp hq → (-2147483648) ≤ a4 → (-2147483647) ≤ 0 - a4 → 0 ≤ a5 → (-3999) ≤ 0 - a5 → 0 ≤ p3 → (-5) ≤ 0 - p3 → (-2147483646) ≤ 0 - a4 + a5 → 0 - 5 * a5 + 20003 < (m : Int) → yG 89 xfts (xcall 89 xfts xpools xms (d + 4)) (xpool xp_RX7) [] xt_X7_readCondition (yP 4 (bQi G [(32768, 2), (162259276829213363391578010320896, 3), (162259276829213363391578010320896, 5), (32768, 6), (32768, 7), (973555660975280180349468061728768, 256)] hp 0 1 (fun _ => True))) (38 * m) 39 [(0, yR k0), (1, yR k1), (2, yR k2), (3, yI (p3)), (4, yI (a4)), (5, yI (a5))] [] hq) ∧ (∀ a4 : Int, ∀ a5 : Int, ∀ hq, bAx G [(32768, 2), (162259276829213363391578010320896, 3), (162259276829213363391578010320896, 5), (32768, 6), (32768, 7), (973555660975280180349468061728768, 256)] hp hq → (-2147483648) ≤ a4 → (-2147483647) ≤ 0 - a4 → 0 ≤ a5 → (-3999) ≤ 0 - a5 → 0 ≤ p3 → (-5) ≤ 0 - p3 → 0 - 5 * a5 + 20002 < (m : Int) → yG 89 xfts (xcall 89 xfts xpools xms (d + 4)) (xpool xp_RX7) [] xt_X7_readCondition (yP 4 (bQi G [(32768, 2), (162259276829213363391578010320896, 3), (162259276829213363391578010320896, 5), (32768, 6), (32768, 7), (973555660975280180349468061728768, 256)] hp 0 1 (fun _ => True))) (38 * m) 72 [(0, yR k0), (1, yR k1), (2, yR k2), (3, yI (p3)), (4, yI (a4)), (5, yI (a5))] [] hq) ∧ (∀ a4 : Int, ∀ a5 : Int, ∀ hq, bAx G [(32768, 2), (162259276829213363391578010320896, 3), (162259276829213363391578010320896, 5), (32768, 6), (32768, 7), (973555660975280180349468061728768, 256)] hp hq → (-2147483648) ≤ a4 → (-2147483647) ≤ 0 - a4 → 0 ≤ a5 → (-3999) ≤ 0 - a5 → 0 ≤ p3 → (-5) ≤ 0 - p3 → 0 - 5 * a5 + 20001 < (m : Int) → yG 89 xfts (xcall 89 xfts xpools xms (d + 4)) (xpool xp_RX7) [] xt_X7_readCondition (yP 4 (bQi G [(32768, 2), (162259276829213363391578010320896, 3), (162259276829213363391578010320896, 5), (32768, 6), (32768, 7), (973555660975280180349468061728768, 256)] hp 0 1 (fun _ => True))) (38 * m) 116 [(0, yR k0), (1, yR k1), (2, yR k2), (3, yI (p3)), (4, yI (a4)), (5, yI (a5))] [] hq) := by
    intro m
    induction m with
    | zero =>
      refine ⟨?_, ?_, ?_, ?_⟩ <;> (intros; exfalso; omega)
    | succ m ih =>
      obtain ⟨i_11, i_39, i_72, i_116⟩ := ih
      refine ⟨?_, ?_, ?_, ?_⟩
      · intro a4 a5 hq A_hq f0 f1 f2 f3 f4 f5 f6 hm
        refine yG.mono (N := 38 * m + 38) ?_ (by omega)
        refine yG.load xik rfl (fun _ _ => rfl) (v := yI (a5)) rfl rfl ?_
        refine yG.num (c := 4000) rfl (fun _ _ => rfl) (by decide) ?_
        refine yG.icmp rfl (t := 214) rfl ⟨by omega, by omega⟩ ⟨by omega, by omega⟩ (fun c1 => ?_) (fun c1 => ?_)
        · have c1 : (a5 : Int) ≥ 4000 := c1
          refine yG.num (c := 0) rfl (fun _ _ => rfl) (by decide) ?_
          refine yG.ret rfl (fun _ _ => rfl) ?_
          exact (yP.bool (by omega) ⟨⟨0, rfl, by omega, by omega, trivial⟩, A_hq⟩)
        · have c1 : (a5 : Int) < 4000 := c1
          refine yG.load xak rfl (fun _ _ => rfl) (v := yR k1) rfl rfl ?_
          refine yG.invV (rest := []) A_hq.1 (bOb (d_Tape W) H_k1) rfl rfl rfl rfl (c_Tape_key W (d + 3) A_hq.1 H_k1) (fun rv hp9 q9 => ?_)
          obtain ⟨⟨z2, rfl, l_z2, u_z2, R_z2⟩, e9⟩ := q9
          rw [e9]
          show yG _ _ _ _ _ _ _ _ _ _ (yI z2 :: []) _
          refine yG.num (c := 11) rfl (fun _ _ => rfl) (by decide) ?_
          refine yG.icmp rfl (t := 39) rfl ⟨by omega, by omega⟩ ⟨by omega, by omega⟩ (fun c3 => ?_) (fun c3 => ?_)
          · have c3 : (z2 : Int) ≠ 11 := c3
            exact yG.mono (yG.sub (i_39 (a4) (a5)  hq A_hq   (by omega) (by omega) (by omega) (by omega) (by omega) (by omega) (by omega) (by omega)) (ySub.cons rfl (ySub.cons rfl (ySub.cons rfl (ySub.cons rfl (ySub.cons rfl (ySub.cons rfl (ySub.nil)))))))) (by omega)
          · have c3 : (z2 : Int) = 11 := c3
            refine yG.load xak rfl (fun _ _ => rfl) (v := yR k0) rfl rfl ?_
            refine yG.num (c := 16) rfl (fun _ _ => rfl) (by decide) ?_
            refine yG.invV (rest := []) A_hq.1 (bOb (d_Rules W) H_k0) rfl rfl rfl rfl (c_Rules_push W (d + 3) A_hq.1 H_k0 (16) (by omega) (by omega)) (fun rv h4 q9 => ?_)
            obtain ⟨⟨rfl, R_z5⟩, B_h4⟩ := q9
            have A_h4 := A_hq.tr B_h4 (by decide)
            show yG _ _ _ _ _ _ _ _ _ _ [] _
            refine yG.load xak rfl (fun _ _ => rfl) (v := yR k1) rfl rfl ?_
            refine yG.invV (rest := []) A_h4.1 (bOb (d_Tape W) H_k1) rfl rfl rfl rfl (c_Tape_next W (d + 1) A_h4.1 H_k1) (fun rv h6 q9 => ?_)
            obtain ⟨⟨z7, rfl, l_z7, u_z7, R_z7⟩, B_h6⟩ := q9
            have A_h6 := A_h4.tr B_h6 (by decide)
            show yG _ _ _ _ _ _ _ _ _ _ (yI z7 :: []) _
            refine yG.step (pc' := 39) (stk' := []) rfl (fun _ _ => rfl) ?_
            exact yG.mono (yG.sub (i_39 (a4) (a5)  h6 A_h6   (by omega) (by omega) (by omega) (by omega) (by omega) (by omega) (by omega) (by omega)) (ySub.cons rfl (ySub.cons rfl (ySub.cons rfl (ySub.cons rfl (ySub.cons rfl (ySub.cons rfl (ySub.nil)))))))) (by omega)
      · intro a4 a5 hq A_hq f0 f1 f2 f3 f4 f5 f6 hm
        refine yG.mono (N := 38 * m + 38) ?_ (by omega)
        refine yG.load xak rfl (fun _ _ => rfl) (v := yR k1) rfl rfl ?_
        refine yG.num (c := 40) rfl (fun _ _ => rfl) (by decide) ?_
        refine yG.invV (rest := []) A_hq.1 (bOb (d_Tape W) H_k1) rfl rfl rfl rfl (c_Tape_isSign W (d + 3) A_hq.1 H_k1 (40) (by omega) (by omega)) (fun rv hp9 q9 => ?_)
        obtain ⟨⟨z1, rfl, l_z1, u_z1, R_z1⟩, e9⟩ := q9
        rw [e9]
        show yG _ _ _ _ _ _ _ _ _ _ (yI z1 :: []) _
        refine yG.ifz rfl (t := 72) rfl ⟨by omega, by omega⟩ (fun c2 => ?_) (fun c2 => ?_)
        · have c2 : (z1 : Int) = 0 := c2
          exact yG.mono (yG.sub (i_72 (a4) (a5)  hq A_hq   (by omega) (by omega) (by omega) (by omega) (by omega) (by omega) (by omega)) (ySub.cons rfl (ySub.cons rfl (ySub.cons rfl (ySub.cons rfl (ySub.cons rfl (ySub.cons rfl (ySub.nil)))))))) (by omega)
        · have c2 : (z1 : Int) ≠ 0 := c2
          refine yG.load xik rfl (fun _ _ => rfl) (v := yI (a4)) rfl rfl ?_
          refine yG.num (c := 8) rfl (fun _ _ => rfl) (by decide) ?_
          refine yG.icmp rfl (t := 72) rfl ⟨by omega, by omega⟩ ⟨by omega, by omega⟩ (fun c3 => ?_) (fun c3 => ?_)
          · have c3 : (a4 : Int) ≥ 8 := c3
            exact yG.mono (yG.sub (i_72 (a4) (a5)  hq A_hq   (by omega) (by omega) (by omega) (by omega) (by omega) (by omega) (by omega)) (ySub.cons rfl (ySub.cons rfl (ySub.cons rfl (ySub.cons rfl (ySub.cons rfl (ySub.cons rfl (ySub.nil)))))))) (by omega)
          · have c3 : (a4 : Int) < 8 := c3
            refine yG.iinc rfl (a := a4) rfl (L' := [(4, yI (a4 + 1)), (0, yR k0), (1, yR k1), (2, yR k2), (3, yI (p3)), (5, yI (a5))]) rfl ?_
            refine yG.load xak rfl (fun _ _ => rfl) (v := yR k0) rfl rfl ?_
            refine yG.num (c := 19) rfl (fun _ _ => rfl) (by decide) ?_
            refine yG.invV (rest := []) A_hq.1 (bOb (d_Rules W) H_k0) rfl rfl rfl rfl (c_Rules_push W (d + 3) A_hq.1 H_k0 (19) (by omega) (by omega)) (fun rv h4 q9 => ?_)
            obtain ⟨⟨rfl, R_z5⟩, B_h4⟩ := q9
            have A_h4 := A_hq.tr B_h4 (by decide)
            show yG _ _ _ _ _ _ _ _ _ _ [] _
            refine yG.load xak rfl (fun _ _ => rfl) (v := yR k1) rfl rfl ?_
            refine yG.invV (rest := []) A_h4.1 (bOb (d_Tape W) H_k1) rfl rfl rfl rfl (c_Tape_next W (d + 1) A_h4.1 H_k1) (fun rv h6 q9 => ?_)
            obtain ⟨⟨z7, rfl, l_z7, u_z7, R_z7⟩, B_h6⟩ := q9
            have A_h6 := A_h4.tr B_h6 (by decide)
            show yG _ _ _ _ _ _ _ _ _ _ (yI z7 :: []) _
            refine yG.step (pc' := 69) (stk' := []) rfl (fun _ _ => rfl) ?_
            refine yG.goto rfl (t := 208) rfl ?_
            refine yG.iinc rfl (a := a5) rfl (L' := [(5, yI (a5 + 1)), (4, yI (a4 + 1)), (0, yR k0), (1, yR k1), (2, yR k2), (3, yI (p3))]) rfl ?_
            refine yG.goto rfl (t := 11) rfl ?_
            exact yG.mono (yG.sub (i_11 (a4 + 1) (a5 + 1)  h6 A_h6   (by omega) (by omega) (by omega) (by omega) (by omega) (by omega) (by omega) (by omega)) (ySub.cons rfl (ySub.cons rfl (ySub.cons rfl (ySub.cons rfl (ySub.cons rfl (ySub.cons rfl (ySub.nil)))))))) (by omega)
      · intro a4 a5 hq A_hq f0 f1 f2 f3 f4 f5 hm
        refine yG.mono (N := 38 * m + 38) ?_ (by omega)
        refine yG.load xak rfl (fun _ _ => rfl) (v := yR k0) rfl rfl ?_
        refine yG.load xak rfl (fun _ _ => rfl) (v := yR k1) rfl rfl ?_
        refine yG.invV (rest := []) A_hq.1 (bOb (d_Rules W) H_k0) rfl rfl rfl rfl (c_Rules_readAsked W d A_hq.1 H_k0 H_k1) (fun rv h1 q9 => ?_)
        obtain ⟨⟨z2, rfl, l_z2, u_z2, R_z2⟩, B_h1⟩ := q9
        have A_h1 := A_hq.tr B_h1 (by decide)
        show yG _ _ _ _ _ _ _ _ _ _ (yI z2 :: []) _
        refine yG.store1 xik (L' := [(6, yI (z2)), (0, yR k0), (1, yR k1), (2, yR k2), (3, yI (p3)), (4, yI (a4)), (5, yI (a5))]) rfl (fun _ _ => rfl) rfl rfl ?_
        refine yG.load xik rfl (fun _ _ => rfl) (v := yI (z2)) rfl rfl ?_
        refine yG.num (c := -1) rfl (fun _ _ => rfl) (by decide) ?_
        refine yG.icmp rfl (t := 114) rfl ⟨by omega, by omega⟩ ⟨by omega, by omega⟩ (fun c3 => ?_) (fun c3 => ?_)
        · have c3 : (z2 : Int) = (-1) := c3
          refine yG.num (c := 0) rfl (fun _ _ => rfl) (by decide) ?_
          refine yG.ret rfl (fun _ _ => rfl) ?_
          exact (yP.bool (by omega) ⟨⟨0, rfl, by omega, by omega, trivial⟩, A_h1⟩)
        · have c3 : (z2 : Int) ≠ (-1) := c3
          refine yG.load xik rfl (fun _ _ => rfl) (v := yI (z2)) rfl rfl ?_
          refine yG.num (c := 5) rfl (fun _ _ => rfl) (by decide) ?_
          refine yG.icmp rfl (t := 102) rfl ⟨by omega, by omega⟩ ⟨by omega, by omega⟩ (fun c4 => ?_) (fun c4 => ?_)
          · have c4 : (z2 : Int) < 5 := c4
            refine yG.load xak rfl (fun _ _ => rfl) (v := yR k0) rfl rfl ?_
            refine yG.load xak rfl (fun _ _ => rfl) (v := yR k1) rfl rfl ?_
            refine yG.load xak rfl (fun _ _ => rfl) (v := yR k2) rfl rfl ?_
            refine yG.load xik rfl (fun _ _ => rfl) (v := yI (p3)) rfl rfl ?_
            refine yG.load xik rfl (fun _ _ => rfl) (v := yI (z2)) rfl rfl ?_
            refine yG.invV (rest := []) A_h1.1 (bOb (d_Rules W) H_k0) rfl rfl rfl rfl (c_Rules_readObjects W d A_h1.1 H_k0 H_k1 H_k2 (p3) (z2) (by omega) (by omega) (by omega) (by omega)) (fun rv h5 q9 => ?_)
            obtain ⟨⟨z6, rfl, l_z6, u_z6, R_z6⟩, B_h5⟩ := q9
            have A_h5 := A_h1.tr B_h5 (by decide)
            show yG _ _ _ _ _ _ _ _ _ _ (yI z6 :: []) _
            refine yG.ifz rfl (t := 116) rfl ⟨by omega, by omega⟩ (fun c7 => ?_) (fun c7 => ?_)
            · have c7 : (z6 : Int) ≠ 0 := c7
              exact yG.mono (yG.sub (i_116 (a4) (a5)  h5 A_h5   (by omega) (by omega) (by omega) (by omega) (by omega) (by omega) (by omega)) (ySub.cons rfl (ySub.cons rfl (ySub.cons rfl (ySub.cons rfl (ySub.cons rfl (ySub.cons rfl (ySub.nil)))))))) (by omega)
            · have c7 : (z6 : Int) = 0 := c7
              refine yG.num (c := 0) rfl (fun _ _ => rfl) (by decide) ?_
              refine yG.ret rfl (fun _ _ => rfl) ?_
              exact (yP.bool (by omega) ⟨⟨0, rfl, by omega, by omega, trivial⟩, A_h5⟩)
          · have c4 : (z2 : Int) ≥ 5 := c4
            refine yG.load xak rfl (fun _ _ => rfl) (v := yR k0) rfl rfl ?_
            refine yG.load xak rfl (fun _ _ => rfl) (v := yR k1) rfl rfl ?_
            refine yG.invV (rest := []) A_h1.1 (bOb (d_Rules W) H_k0) rfl rfl rfl rfl (c_Rules_readBound W d A_h1.1 H_k0 H_k1) (fun rv h8 q9 => ?_)
            obtain ⟨⟨z9, rfl, l_z9, u_z9, R_z9⟩, B_h8⟩ := q9
            have A_h8 := A_h1.tr B_h8 (by decide)
            show yG _ _ _ _ _ _ _ _ _ _ (yI z9 :: []) _
            refine yG.ifz rfl (t := 114) rfl ⟨by omega, by omega⟩ (fun c10 => ?_) (fun c10 => ?_)
            · have c10 : (z9 : Int) = 0 := c10
              refine yG.num (c := 0) rfl (fun _ _ => rfl) (by decide) ?_
              refine yG.ret rfl (fun _ _ => rfl) ?_
              exact (yP.bool (by omega) ⟨⟨0, rfl, by omega, by omega, trivial⟩, A_h8⟩)
            · have c10 : (z9 : Int) ≠ 0 := c10
              refine yG.goto rfl (t := 116) rfl ?_
              exact yG.mono (yG.sub (i_116 (a4) (a5)  h8 A_h8   (by omega) (by omega) (by omega) (by omega) (by omega) (by omega) (by omega)) (ySub.cons rfl (ySub.cons rfl (ySub.cons rfl (ySub.cons rfl (ySub.cons rfl (ySub.cons rfl (ySub.nil)))))))) (by omega)
      · intro a4 a5 hq A_hq f0 f1 f2 f3 f4 f5 hm
        refine yG.mono (N := 38 * m + 38) ?_ (by omega)
        refine yG.load xak rfl (fun _ _ => rfl) (v := yR k0) rfl rfl ?_
        refine yG.num (c := 16) rfl (fun _ _ => rfl) (by decide) ?_
        refine yG.invV (rest := []) A_hq.1 (bOb (d_Rules W) H_k0) rfl rfl rfl rfl (c_Rules_release W (d + 2) A_hq.1 H_k0 (16) (by omega) (by omega)) (fun rv h1 q9 => ?_)
        obtain ⟨⟨rfl, R_z2⟩, B_h1⟩ := q9
        have A_h1 := A_hq.tr B_h1 (by decide)
        show yG _ _ _ _ _ _ _ _ _ _ [] _
        refine yG.load xak rfl (fun _ _ => rfl) (v := yR k0) rfl rfl ?_
        refine yG.load xak rfl (fun _ _ => rfl) (v := yR k1) rfl rfl ?_
        refine yG.load xik rfl (fun _ _ => rfl) (v := yI (a4)) rfl rfl ?_
        refine yG.invV (rest := []) A_h1.1 (bOb (d_Rules W) H_k0) rfl rfl rfl rfl (c_Rules_closeBrackets W d A_h1.1 H_k0 H_k1 (a4) (by omega) (by omega)) (fun rv h3 q9 => ?_)
        obtain ⟨⟨z4, rfl, l_z4, u_z4, R_z4⟩, B_h3⟩ := q9
        have A_h3 := A_h1.tr B_h3 (by decide)
        show yG _ _ _ _ _ _ _ _ _ _ (yI z4 :: []) _
        refine yG.store1 xik (L' := [(4, yI (z4)), (0, yR k0), (1, yR k1), (2, yR k2), (3, yI (p3)), (5, yI (a5))]) rfl (fun _ _ => rfl) rfl rfl ?_
        refine yG.load xak rfl (fun _ _ => rfl) (v := yR k1) rfl rfl ?_
        refine yG.invV (rest := []) A_h3.1 (bOb (d_Tape W) H_k1) rfl rfl rfl rfl (c_Tape_key W (d + 3) A_h3.1 H_k1) (fun rv hp9 q9 => ?_)
        obtain ⟨⟨z5, rfl, l_z5, u_z5, R_z5⟩, e9⟩ := q9
        rw [e9]
        show yG _ _ _ _ _ _ _ _ _ _ (yI z5 :: []) _
        refine yG.num (c := 9) rfl (fun _ _ => rfl) (by decide) ?_
        refine yG.icmp rfl (t := 145) rfl ⟨by omega, by omega⟩ ⟨by omega, by omega⟩ (fun c6 => ?_) (fun c6 => ?_)
        · have c6 : (z5 : Int) ≠ 9 := c6
          refine yG.load xak rfl (fun _ _ => rfl) (v := yR k1) rfl rfl ?_
          refine yG.invV (rest := []) A_h3.1 (bOb (d_Tape W) H_k1) rfl rfl rfl rfl (c_Tape_key W (d + 3) A_h3.1 H_k1) (fun rv hp9 q9 => ?_)
          obtain ⟨⟨z7, rfl, l_z7, u_z7, R_z7⟩, e9⟩ := q9
          rw [e9]
          show yG _ _ _ _ _ _ _ _ _ _ (yI z7 :: []) _
          refine yG.num (c := 10) rfl (fun _ _ => rfl) (by decide) ?_
          refine yG.icmp rfl (t := 159) rfl ⟨by omega, by omega⟩ ⟨by omega, by omega⟩ (fun c8 => ?_) (fun c8 => ?_)
          · have c8 : (z7 : Int) ≠ 10 := c8
            refine yG.num (c := -1) rfl (fun _ _ => rfl) (by decide) ?_
            refine yG.store1 xik (L' := [(7, yI ((-1))), (4, yI (z4)), (0, yR k0), (1, yR k1), (2, yR k2), (3, yI (p3)), (5, yI (a5))]) rfl (fun _ _ => rfl) rfl rfl ?_
            refine yG.load xak rfl (fun _ _ => rfl) (v := yR k0) rfl rfl ?_
            refine yG.load xik rfl (fun _ _ => rfl) (v := yI ((-1))) rfl rfl ?_
            refine yG.num (c := 17) rfl (fun _ _ => rfl) (by decide) ?_
            refine yG.icmp rfl (t := 175) rfl ⟨by omega, by omega⟩ ⟨by omega, by omega⟩ (fun c9 => ?_) (fun c9 => ?_)
            · have c9 : ((-1) : Int) ≠ 17 := c9
              refine yG.num (c := 18) rfl (fun _ _ => rfl) (by decide) ?_
              refine yG.invV (rest := []) A_h3.1 (bOb (d_Rules W) H_k0) rfl rfl rfl rfl (c_Rules_release W (d + 2) A_h3.1 H_k0 (18) (by omega) (by omega)) (fun rv h10 q9 => ?_)
              obtain ⟨⟨rfl, R_z11⟩, B_h10⟩ := q9
              have A_h10 := A_h3.tr B_h10 (by decide)
              show yG _ _ _ _ _ _ _ _ _ _ [] _
              refine yG.load xik rfl (fun _ _ => rfl) (v := yI ((-1))) rfl rfl ?_
              refine yG.num (c := -1) rfl (fun _ _ => rfl) (by decide) ?_
              refine yG.icmp rfl (t := 197) rfl ⟨by omega, by omega⟩ ⟨by omega, by omega⟩ (fun c12 => ?_) (fun c12 => ?_)
              · have c12 : ((-1) : Int) ≠ (-1) := c12
                exfalso; omega
              · have c12 : ((-1) : Int) = (-1) := c12
                refine yG.load xik rfl (fun _ _ => rfl) (v := yI (z4)) rfl rfl ?_
                refine yG.ifz rfl (t := 195) rfl ⟨by omega, by omega⟩ (fun c13 => ?_) (fun c13 => ?_)
                · have c13 : (z4 : Int) ≠ 0 := c13
                  refine yG.num (c := 0) rfl (fun _ _ => rfl) (by decide) ?_
                  refine yG.ret rfl (fun _ _ => rfl) ?_
                  exact (yP.bool (by omega) ⟨⟨0, rfl, by omega, by omega, trivial⟩, A_h10⟩)
                · have c13 : (z4 : Int) = 0 := c13
                  refine yG.num (c := 1) rfl (fun _ _ => rfl) (by decide) ?_
                  refine yG.goto rfl (t := 196) rfl ?_
                  refine yG.ret rfl (fun _ _ => rfl) ?_
                  exact (yP.bool (by omega) ⟨⟨1, rfl, by omega, by omega, trivial⟩, A_h10⟩)
            · have c9 : ((-1) : Int) = 17 := c9
              exfalso; omega
          · have c8 : (z7 : Int) = 10 := c8
            refine yG.num (c := 18) rfl (fun _ _ => rfl) (by decide) ?_
            refine yG.goto rfl (t := 160) rfl ?_
            refine yG.store1 xik (L' := [(7, yI (18)), (4, yI (z4)), (0, yR k0), (1, yR k1), (2, yR k2), (3, yI (p3)), (5, yI (a5))]) rfl (fun _ _ => rfl) rfl rfl ?_
            refine yG.load xak rfl (fun _ _ => rfl) (v := yR k0) rfl rfl ?_
            refine yG.load xik rfl (fun _ _ => rfl) (v := yI (18)) rfl rfl ?_
            refine yG.num (c := 17) rfl (fun _ _ => rfl) (by decide) ?_
            refine yG.icmp rfl (t := 175) rfl ⟨by omega, by omega⟩ ⟨by omega, by omega⟩ (fun c14 => ?_) (fun c14 => ?_)
            · have c14 : (18 : Int) ≠ 17 := c14
              refine yG.num (c := 18) rfl (fun _ _ => rfl) (by decide) ?_
              refine yG.invV (rest := []) A_h3.1 (bOb (d_Rules W) H_k0) rfl rfl rfl rfl (c_Rules_release W (d + 2) A_h3.1 H_k0 (18) (by omega) (by omega)) (fun rv h15 q9 => ?_)
              obtain ⟨⟨rfl, R_z16⟩, B_h15⟩ := q9
              have A_h15 := A_h3.tr B_h15 (by decide)
              show yG _ _ _ _ _ _ _ _ _ _ [] _
              refine yG.load xik rfl (fun _ _ => rfl) (v := yI (18)) rfl rfl ?_
              refine yG.num (c := -1) rfl (fun _ _ => rfl) (by decide) ?_
              refine yG.icmp rfl (t := 197) rfl ⟨by omega, by omega⟩ ⟨by omega, by omega⟩ (fun c17 => ?_) (fun c17 => ?_)
              · have c17 : (18 : Int) ≠ (-1) := c17
                refine yG.load xak rfl (fun _ _ => rfl) (v := yR k0) rfl rfl ?_
                refine yG.load xik rfl (fun _ _ => rfl) (v := yI (18)) rfl rfl ?_
                refine yG.invV (rest := []) A_h15.1 (bOb (d_Rules W) H_k0) rfl rfl rfl rfl (c_Rules_push W (d + 3) A_h15.1 H_k0 (18) (by omega) (by omega)) (fun rv h18 q9 => ?_)
                obtain ⟨⟨rfl, R_z19⟩, B_h18⟩ := q9
                have A_h18 := A_h15.tr B_h18 (by decide)
                show yG _ _ _ _ _ _ _ _ _ _ [] _
                refine yG.load xak rfl (fun _ _ => rfl) (v := yR k1) rfl rfl ?_
                refine yG.invV (rest := []) A_h18.1 (bOb (d_Tape W) H_k1) rfl rfl rfl rfl (c_Tape_next W (d + 1) A_h18.1 H_k1) (fun rv h20 q9 => ?_)
                obtain ⟨⟨z21, rfl, l_z21, u_z21, R_z21⟩, B_h20⟩ := q9
                have A_h20 := A_h18.tr B_h20 (by decide)
                show yG _ _ _ _ _ _ _ _ _ _ (yI z21 :: []) _
                refine yG.step (pc' := 208) (stk' := []) rfl (fun _ _ => rfl) ?_
                refine yG.iinc rfl (a := a5) rfl (L' := [(5, yI (a5 + 1)), (7, yI (18)), (4, yI (z4)), (0, yR k0), (1, yR k1), (2, yR k2), (3, yI (p3))]) rfl ?_
                refine yG.goto rfl (t := 11) rfl ?_
                exact yG.mono (yG.sub (i_11 (z4) (a5 + 1)  h20 A_h20   (by omega) (by omega) (by omega) (by omega) (by omega) (by omega) (by omega) (by omega)) (ySub.cons rfl (ySub.cons rfl (ySub.cons rfl (ySub.cons rfl (ySub.cons rfl (ySub.cons rfl (ySub.nil)))))))) (by omega)
              · have c17 : (18 : Int) = (-1) := c17
                exfalso; omega
            · have c14 : (18 : Int) = 17 := c14
              exfalso; omega
        · have c6 : (z5 : Int) = 9 := c6
          refine yG.num (c := 17) rfl (fun _ _ => rfl) (by decide) ?_
          refine yG.goto rfl (t := 160) rfl ?_
          refine yG.store1 xik (L' := [(7, yI (17)), (4, yI (z4)), (0, yR k0), (1, yR k1), (2, yR k2), (3, yI (p3)), (5, yI (a5))]) rfl (fun _ _ => rfl) rfl rfl ?_
          refine yG.load xak rfl (fun _ _ => rfl) (v := yR k0) rfl rfl ?_
          refine yG.load xik rfl (fun _ _ => rfl) (v := yI (17)) rfl rfl ?_
          refine yG.num (c := 17) rfl (fun _ _ => rfl) (by decide) ?_
          refine yG.icmp rfl (t := 175) rfl ⟨by omega, by omega⟩ ⟨by omega, by omega⟩ (fun c22 => ?_) (fun c22 => ?_)
          · have c22 : (17 : Int) ≠ 17 := c22
            exfalso; omega
          · have c22 : (17 : Int) = 17 := c22
            refine yG.num (c := 17) rfl (fun _ _ => rfl) (by decide) ?_
            refine yG.goto rfl (t := 177) rfl ?_
            refine yG.invV (rest := []) A_h3.1 (bOb (d_Rules W) H_k0) rfl rfl rfl rfl (c_Rules_release W (d + 2) A_h3.1 H_k0 (17) (by omega) (by omega)) (fun rv h23 q9 => ?_)
            obtain ⟨⟨rfl, R_z24⟩, B_h23⟩ := q9
            have A_h23 := A_h3.tr B_h23 (by decide)
            show yG _ _ _ _ _ _ _ _ _ _ [] _
            refine yG.load xik rfl (fun _ _ => rfl) (v := yI (17)) rfl rfl ?_
            refine yG.num (c := -1) rfl (fun _ _ => rfl) (by decide) ?_
            refine yG.icmp rfl (t := 197) rfl ⟨by omega, by omega⟩ ⟨by omega, by omega⟩ (fun c25 => ?_) (fun c25 => ?_)
            · have c25 : (17 : Int) ≠ (-1) := c25
              refine yG.load xak rfl (fun _ _ => rfl) (v := yR k0) rfl rfl ?_
              refine yG.load xik rfl (fun _ _ => rfl) (v := yI (17)) rfl rfl ?_
              refine yG.invV (rest := []) A_h23.1 (bOb (d_Rules W) H_k0) rfl rfl rfl rfl (c_Rules_push W (d + 3) A_h23.1 H_k0 (17) (by omega) (by omega)) (fun rv h26 q9 => ?_)
              obtain ⟨⟨rfl, R_z27⟩, B_h26⟩ := q9
              have A_h26 := A_h23.tr B_h26 (by decide)
              show yG _ _ _ _ _ _ _ _ _ _ [] _
              refine yG.load xak rfl (fun _ _ => rfl) (v := yR k1) rfl rfl ?_
              refine yG.invV (rest := []) A_h26.1 (bOb (d_Tape W) H_k1) rfl rfl rfl rfl (c_Tape_next W (d + 1) A_h26.1 H_k1) (fun rv h28 q9 => ?_)
              obtain ⟨⟨z29, rfl, l_z29, u_z29, R_z29⟩, B_h28⟩ := q9
              have A_h28 := A_h26.tr B_h28 (by decide)
              show yG _ _ _ _ _ _ _ _ _ _ (yI z29 :: []) _
              refine yG.step (pc' := 208) (stk' := []) rfl (fun _ _ => rfl) ?_
              refine yG.iinc rfl (a := a5) rfl (L' := [(5, yI (a5 + 1)), (7, yI (17)), (4, yI (z4)), (0, yR k0), (1, yR k1), (2, yR k2), (3, yI (p3))]) rfl ?_
              refine yG.goto rfl (t := 11) rfl ?_
              exact yG.mono (yG.sub (i_11 (z4) (a5 + 1)  h28 A_h28   (by omega) (by omega) (by omega) (by omega) (by omega) (by omega) (by omega) (by omega)) (ySub.cons rfl (ySub.cons rfl (ySub.cons rfl (ySub.cons rfl (ySub.cons rfl (ySub.cons rfl (ySub.nil)))))))) (by omega)
            · have c25 : (17 : Int) = (-1) := c25
              exfalso; omega
  refine yC.of (M := (xt_X7_readCondition, (8, (4, (8, []))))) rfl rfl (N := 760266) (yfuel (by decide)) ?_
  show yG 89 xfts (xcall 89 xfts xpools xms (d + 4)) (xpool xp_RX7) [] xt_X7_readCondition (yP 4 (bQi G [(32768, 2), (162259276829213363391578010320896, 3), (162259276829213363391578010320896, 5), (32768, 6), (32768, 7), (973555660975280180349468061728768, 256)] hp 0 1 (fun _ => True))) 760266 0 [(0, yR k0), (1, yR k1), (2, yR k2), (3, yI (p3))] [] hp
  obtain ⟨i_11, i_39, i_72, i_116⟩ := H 20006
  refine yG.load xak rfl (fun _ _ => rfl) (v := yR k0) rfl rfl ?_
  refine yG.num (c := 0) rfl (fun _ _ => rfl) (by decide) ?_
  refine yG.putI A_hp.1 (w_Rules_waitCount W H_k0) (W.2.1 _ _ H_k0 (by decide) (by decide)) rfl rfl (.inl rfl) ⟨by omega, by omega⟩ (by omega) (by omega) (fun h1 T_h1 b_h1 f_h1 y_h1 => ?_)
  have A_h1 := A_hp.put T_h1 b_h1 f_h1 H_k0 (by decide)
  refine yG.num (c := 0) rfl (fun _ _ => rfl) (by decide) ?_
  refine yG.store1 xik (L' := [(4, yI (0)), (0, yR k0), (1, yR k1), (2, yR k2), (3, yI (p3))]) rfl (fun _ _ => rfl) rfl rfl ?_
  refine yG.num (c := 0) rfl (fun _ _ => rfl) (by decide) ?_
  refine yG.store1 xik (L' := [(5, yI (0)), (4, yI (0)), (0, yR k0), (1, yR k1), (2, yR k2), (3, yI (p3))]) rfl (fun _ _ => rfl) rfl rfl ?_
  exact yG.mono (yG.sub (i_11 (0) (0)  h1 A_h1   (by omega) (by omega) (by omega) (by omega) (by omega) (by omega) (by omega) (by omega)) (ySub.cons rfl (ySub.cons rfl (ySub.cons rfl (ySub.cons rfl (ySub.cons rfl (ySub.cons rfl (ySub.nil)))))))) (by omega)
theorem c_Rules_readOrder {hp : xH} (W : bW G) (d : Nat) (hT : zTy G hp) (M_bSt : bSt G hp) {k0 : Nat} (H_k0 : bRo G 107 k0) {k1 : Nat} (H_k1 : bRo G 15 k1) {k2 : Nat} (H_k2 : bRo G 18 k2) : yC (xcall 89 xfts xpools xms (d + 4)) 205 [yR k0, yR k1, yR k2] hp (fun rv hp' => (bQi G [(32768, 2), (32768, 3), (32768, 5), (32768, 6), (162259276829213363391578010320896, 7), (162259276829213363391578010288128, 8), (162259276829213363391578010288128, 9), (1298074214633706907132624082305024, 256)] hp (-4001) 24 (fun _ => True)) rv hp' ∧ bSt G hp') := by
  have A_hp : bAx G [(32768, 2), (32768, 3), (32768, 5), (32768, 6), (162259276829213363391578010320896, 7), (162259276829213363391578010288128, 8), (162259276829213363391578010288128, 9), (1298074214633706907132624082305024, 256)] hp hp := bAx.rf hT
  have M_bSt_hp := M_bSt
  have H : ∀ m : Nat, (∀ a3 : Int, ∀ a4 : Int, ∀ hq, bAx G [(32768, 2), (32768, 3), (32768, 5), (32768, 6), (162259276829213363391578010320896, 7), (162259276829213363391578010288128, 8), (162259276829213363391578010288128, 9), (1298074214633706907132624082305024, 256)] hp hq → bSt G hq → 0 ≤ a3 → (-24) ≤ 0 - a3 → 0 ≤ a4 → (-24) ≤ 0 - a4 → 0 ≤ a3 - a4 → 0 ≤ 0 - a3 + a4 → 0 - 3 * a3 + 74 < (m : Int) → yG 89 xfts (xcall 89 xfts xpools xms (d + 3)) (xpool xp_RX7) [] xt_X7_readOrder (yP 1 (fun rv hp' => (bQi G [(32768, 2), (32768, 3), (32768, 5), (32768, 6), (162259276829213363391578010320896, 7), (162259276829213363391578010288128, 8), (162259276829213363391578010288128, 9), (1298074214633706907132624082305024, 256)] hp (-4001) 24 (fun _ => True)) rv hp' ∧ bSt G hp')) (50 * m) 9 [(0, yR k0), (1, yR k1), (2, yR k2), (3, yI (a3)), (4, yI (a4))] [] hq) ∧ (∀ a3 : Int, ∀ hq, bAx G [(32768, 2), (32768, 3), (32768, 5), (32768, 6), (162259276829213363391578010320896, 7), (162259276829213363391578010288128, 8), (162259276829213363391578010288128, 9), (1298074214633706907132624082305024, 256)] hp hq → bSt G hq → 0 ≤ a3 → (-24) ≤ 0 - a3 → 1 < (m : Int) → yG 89 xfts (xcall 89 xfts xpools xms (d + 3)) (xpool xp_RX7) [] xt_X7_readOrder (yP 1 (fun rv hp' => (bQi G [(32768, 2), (32768, 3), (32768, 5), (32768, 6), (162259276829213363391578010320896, 7), (162259276829213363391578010288128, 8), (162259276829213363391578010288128, 9), (1298074214633706907132624082305024, 256)] hp (-4001) 24 (fun _ => True)) rv hp' ∧ bSt G hp')) (50 * m) 127 [(0, yR k0), (3, yI (a3))] [] hq) := by
    intro m
    induction m with
    | zero =>
      refine ⟨?_, ?_⟩ <;> (intros; exfalso; omega)
    | succ m ih =>
      obtain ⟨i_9, i_127⟩ := ih
      refine ⟨?_, ?_⟩
      · intro a3 a4 hq A_hq M_bSt_hq f0 f1 f2 f3 f4 f5 hm
        refine yG.mono (N := 50 * m + 50) ?_ (by omega)
        refine yG.load xik rfl (fun _ _ => rfl) (v := yI (a4)) rfl rfl ?_
        refine yG.num (c := 4000) rfl (fun _ _ => rfl) (by decide) ?_
        refine yG.icmp rfl (t := 127) rfl ⟨by omega, by omega⟩ ⟨by omega, by omega⟩ (fun c1 => ?_) (fun c1 => ?_)
        · have c1 : (a4 : Int) ≥ 4000 := c1
          exfalso; omega
        · have c1 : (a4 : Int) < 4000 := c1
          refine yG.load xak rfl (fun _ _ => rfl) (v := yR k1) rfl rfl ?_
          refine yG.invV (rest := []) A_hq.1 (bOb (d_Tape W) H_k1) rfl rfl rfl rfl (c_Tape_next W d A_hq.1 H_k1) (fun rv h2 q9 => ?_)
          obtain ⟨⟨z3, rfl, l_z3, u_z3, R_z3⟩, B_h2⟩ := q9
          have A_h2 := A_hq.tr B_h2 (by decide)
          have M_bSt_h2 := M_bSt_hq.fr B_h2 (by decide)
          show yG _ _ _ _ _ _ _ _ _ _ (yI z3 :: []) _
          refine yG.ifz rfl (t := 127) rfl ⟨by omega, by omega⟩ (fun c4 => ?_) (fun c4 => ?_)
          · have c4 : (z3 : Int) = 0 := c4
            exact yG.mono (yG.sub (i_127 (a3)  h2 A_h2 M_bSt_h2   (by omega) (by omega) (by omega)) (ySub.cons rfl (ySub.cons rfl (ySub.nil)))) (by omega)
          · have c4 : (z3 : Int) ≠ 0 := c4
            refine yG.load xak rfl (fun _ _ => rfl) (v := yR k1) rfl rfl ?_
            refine yG.invV (rest := []) A_h2.1 (bOb (d_Tape W) H_k1) rfl rfl rfl rfl (c_Tape_key W (d + 2) A_h2.1 H_k1) (fun rv hp9 q9 => ?_)
            obtain ⟨⟨z5, rfl, l_z5, u_z5, R_z5⟩, e9⟩ := q9
            rw [e9]
            show yG _ _ _ _ _ _ _ _ _ _ (yI z5 :: []) _
            refine yG.invS (rest := []) rfl rfl rfl rfl (c_Rules_actOf W (d + 2) A_h2.1 (z5) (by omega) (by omega)) (fun rv hp9 q9 => ?_)
            obtain ⟨⟨z6, rfl, l_z6, u_z6, R_z6⟩, e9⟩ := q9
            rw [e9]
            show yG _ _ _ _ _ _ _ _ _ _ (yI z6 :: []) _
            refine yG.store1 xik (L' := [(5, yI (z6)), (0, yR k0), (1, yR k1), (2, yR k2), (3, yI (a3)), (4, yI (a4))]) rfl (fun _ _ => rfl) rfl rfl ?_
            refine yG.load xik rfl (fun _ _ => rfl) (v := yI (a3)) rfl rfl ?_
            refine yG.num (c := 24) rfl (fun _ _ => rfl) (by decide) ?_
            refine yG.icmp rfl (t := 45) rfl ⟨by omega, by omega⟩ ⟨by omega, by omega⟩ (fun c7 => ?_) (fun c7 => ?_)
            · have c7 : (a3 : Int) ≥ 24 := c7
              refine yG.num (c := -1) rfl (fun _ _ => rfl) (by decide) ?_
              refine yG.load xak rfl (fun _ _ => rfl) (v := yR k1) rfl rfl ?_
              refine yG.getI A_h2.1 (w_Tape_from W H_k1) rfl rfl (fun z8 e_z8 i_z8 l_z8 u_z8 => ?_)
              refine yG.isub rfl ?_
              refine yG.ret rfl (fun _ _ => rfl) ?_
              exact (yP.int ⟨by omega, by omega⟩ ⟨⟨⟨(-1) - z8, rfl, by omega, by omega, trivial⟩, A_h2⟩, M_bSt_h2⟩)
            · have c7 : (a3 : Int) < 24 := c7
              refine yG.load xik rfl (fun _ _ => rfl) (v := yI (z6)) rfl rfl ?_
              refine yG.num (c := -1) rfl (fun _ _ => rfl) (by decide) ?_
              refine yG.icmp rfl (t := 52) rfl ⟨by omega, by omega⟩ ⟨by omega, by omega⟩ (fun c9 => ?_) (fun c9 => ?_)
              · have c9 : (z6 : Int) ≠ (-1) := c9
                rcases (show z6 = 0 ∨ z6 = 1 ∨ z6 = 2 ∨ z6 = 3 ∨ z6 = 4 ∨ z6 = 5 by omega) with c10 | c10 | c10 | c10 | c10 | c10
                · subst c10
                  refine yG.load xak rfl (fun _ _ => rfl) (v := yR k1) rfl rfl ?_
                  refine yG.invV (rest := []) A_h2.1 (bOb (d_Tape W) H_k1) rfl rfl rfl rfl (c_Tape_next W d A_h2.1 H_k1) (fun rv h11 q9 => ?_)
                  obtain ⟨⟨z12, rfl, l_z12, u_z12, R_z12⟩, B_h11⟩ := q9
                  have A_h11 := A_h2.tr B_h11 (by decide)
                  have M_bSt_h11 := M_bSt_h2.fr B_h11 (by decide)
                  show yG _ _ _ _ _ _ _ _ _ _ (yI z12 :: []) _
                  refine yG.step (pc' := 57) (stk' := []) rfl (fun _ _ => rfl) ?_
                  refine yG.load xak rfl (fun _ _ => rfl) (v := yR k2) rfl rfl ?_
                  refine yG.load xak rfl (fun _ _ => rfl) (v := yR k1) rfl rfl ?_
                  refine yG.getS (c := 11) rfl rfl ?_
                  refine yG.load xik rfl (fun _ _ => rfl) (v := yI (0)) rfl rfl ?_
                  refine yG.ialdF A_h11.1 (v_S_Rules_ACT_SORT W (s_S_Rules_ACT_SORT W)) rfl rfl (by omega) (by omega) (fun z13 e_z13 i_z13 l_z13 u_z13 => ?_)
                  obtain rfl : z13 = 1 := by omega
                  refine yG.invV (rest := []) A_h11.1 (bOb (d_Net W) H_k2) rfl rfl rfl rfl (c_Net_named__1 W (d + 2) A_h11.1 H_k2 H_k1) (fun rv hp9 q9 => ?_)
                  obtain ⟨⟨z14, rfl, l_z14, u_z14, R_z14⟩, e9⟩ := q9
                  rw [e9]
                  show yG _ _ _ _ _ _ _ _ _ _ (yI z14 :: []) _
                  refine yG.store1 xik (L' := [(6, yI (z14)), (5, yI (0)), (0, yR k0), (1, yR k1), (2, yR k2), (3, yI (a3)), (4, yI (a4))]) rfl (fun _ _ => rfl) rfl rfl ?_
                  refine yG.load xik rfl (fun _ _ => rfl) (v := yI (z14)) rfl rfl ?_
                  refine yG.num (c := -1) rfl (fun _ _ => rfl) (by decide) ?_
                  refine yG.icmp rfl (t := 83) rfl ⟨by omega, by omega⟩ ⟨by omega, by omega⟩ (fun c15 => ?_) (fun c15 => ?_)
                  · have c15 : (z14 : Int) ≠ (-1) := c15
                    refine yG.load xak rfl (fun _ _ => rfl) (v := yR k1) rfl rfl ?_
                    refine yG.invV (rest := []) A_h11.1 (bOb (d_Tape W) H_k1) rfl rfl rfl rfl (c_Tape_next W d A_h11.1 H_k1) (fun rv h16 q9 => ?_)
                    obtain ⟨⟨z17, rfl, l_z17, u_z17, R_z17⟩, B_h16⟩ := q9
                    have A_h16 := A_h11.tr B_h16 (by decide)
                    have M_bSt_h16 := M_bSt_h11.fr B_h16 (by decide)
                    show yG _ _ _ _ _ _ _ _ _ _ (yI z17 :: []) _
                    refine yG.step (pc' := 88) (stk' := []) rfl (fun _ _ => rfl) ?_
                    refine yG.load xak rfl (fun _ _ => rfl) (v := yR k1) rfl rfl ?_
                    refine yG.num (c := 59) rfl (fun _ _ => rfl) (by decide) ?_
                    refine yG.invV (rest := []) A_h16.1 (bOb (d_Tape W) H_k1) rfl rfl rfl rfl (c_Tape_isSign W (d + 2) A_h16.1 H_k1 (59) (by omega) (by omega)) (fun rv hp9 q9 => ?_)
                    obtain ⟨⟨z18, rfl, l_z18, u_z18, R_z18⟩, e9⟩ := q9
                    rw [e9]
                    show yG _ _ _ _ _ _ _ _ _ _ (yI z18 :: []) _
                    refine yG.ifz rfl (t := 104) rfl ⟨by omega, by omega⟩ (fun c19 => ?_) (fun c19 => ?_)
                    · have c19 : (z18 : Int) ≠ 0 := c19
                      refine yG.load xak rfl (fun _ _ => rfl) (v := yR k0) rfl rfl ?_
                      refine yG.getO A_h16.1 (w_Rules_draftSteps W H_k0) rfl rfl (fun r20 H_r20 O_r20 q_r20 => ?_)
                      refine yG.load xik rfl (fun _ _ => rfl) (v := yI (a3)) rfl rfl ?_
                      refine yG.load xik rfl (fun _ _ => rfl) (v := yI (0)) rfl rfl ?_
                      refine yG.num (c := 100) rfl (fun _ _ => rfl) (by decide) ?_
                      refine yG.imul rfl ?_
                      refine yG.load xik rfl (fun _ _ => rfl) (v := yI (z14)) rfl rfl ?_
                      refine yG.iadd rfl ?_
                      refine yG.iast A_h16.1 (v_Rules_steps W H_r20) (W.2.1 _ _ H_r20 (by decide) (by decide)) rfl (by omega) (by omega) ⟨by omega, by omega⟩ (by omega) (by omega) (fun h21 T_h21 b_h21 f_h21 y_h21 => ?_)
                      have M_bSt_h21 : bSt G h21 := fun q Hq m hm => by
                        rw [y_h21 q m]
                        by_cases e : q = r20 ∧ m = (a3 : Int).toNat
                        · rw [if_pos e]; omega
                        · rw [if_neg e]; exact M_bSt_h16 q Hq m hm
                      have A_h21 := A_h16.put T_h21 b_h21 f_h21 H_r20 (bAll_ok (by decide) _)
                      refine yG.iinc rfl (a := a3) rfl (L' := [(3, yI (a3 + 1)), (6, yI (z14)), (5, yI (0)), (0, yR k0), (1, yR k1), (2, yR k2), (4, yI (a4))]) rfl ?_
                      refine yG.iinc rfl (a := a4) rfl (L' := [(4, yI (a4 + 1)), (3, yI (a3 + 1)), (6, yI (z14)), (5, yI (0)), (0, yR k0), (1, yR k1), (2, yR k2)]) rfl ?_
                      refine yG.goto rfl (t := 9) rfl ?_
                      exact yG.mono (yG.sub (i_9 (a3 + 1) (a4 + 1)  h21 A_h21 M_bSt_h21   (by omega) (by omega) (by omega) (by omega) (by omega) (by omega) (by omega)) (ySub.cons rfl (ySub.cons rfl (ySub.cons rfl (ySub.cons rfl (ySub.cons rfl (ySub.nil))))))) (by omega)
                    · have c19 : (z18 : Int) = 0 := c19
                      refine yG.num (c := -1) rfl (fun _ _ => rfl) (by decide) ?_
                      refine yG.load xak rfl (fun _ _ => rfl) (v := yR k1) rfl rfl ?_
                      refine yG.getI A_h16.1 (w_Tape_from W H_k1) rfl rfl (fun z22 e_z22 i_z22 l_z22 u_z22 => ?_)
                      refine yG.isub rfl ?_
                      refine yG.ret rfl (fun _ _ => rfl) ?_
                      exact (yP.int ⟨by omega, by omega⟩ ⟨⟨⟨(-1) - z22, rfl, by omega, by omega, trivial⟩, A_h16⟩, M_bSt_h16⟩)
                  · have c15 : (z14 : Int) = (-1) := c15
                    refine yG.num (c := -1) rfl (fun _ _ => rfl) (by decide) ?_
                    refine yG.load xak rfl (fun _ _ => rfl) (v := yR k1) rfl rfl ?_
                    refine yG.getI A_h11.1 (w_Tape_from W H_k1) rfl rfl (fun z23 e_z23 i_z23 l_z23 u_z23 => ?_)
                    refine yG.isub rfl ?_
                    refine yG.ret rfl (fun _ _ => rfl) ?_
                    exact (yP.int ⟨by omega, by omega⟩ ⟨⟨⟨(-1) - z23, rfl, by omega, by omega, trivial⟩, A_h11⟩, M_bSt_h11⟩)
                · subst c10
                  refine yG.load xak rfl (fun _ _ => rfl) (v := yR k1) rfl rfl ?_
                  refine yG.invV (rest := []) A_h2.1 (bOb (d_Tape W) H_k1) rfl rfl rfl rfl (c_Tape_next W d A_h2.1 H_k1) (fun rv h24 q9 => ?_)
                  obtain ⟨⟨z25, rfl, l_z25, u_z25, R_z25⟩, B_h24⟩ := q9
                  have A_h24 := A_h2.tr B_h24 (by decide)
                  have M_bSt_h24 := M_bSt_h2.fr B_h24 (by decide)
                  show yG _ _ _ _ _ _ _ _ _ _ (yI z25 :: []) _
                  refine yG.step (pc' := 57) (stk' := []) rfl (fun _ _ => rfl) ?_
                  refine yG.load xak rfl (fun _ _ => rfl) (v := yR k2) rfl rfl ?_
                  refine yG.load xak rfl (fun _ _ => rfl) (v := yR k1) rfl rfl ?_
                  refine yG.getS (c := 11) rfl rfl ?_
                  refine yG.load xik rfl (fun _ _ => rfl) (v := yI (1)) rfl rfl ?_
                  refine yG.ialdF A_h24.1 (v_S_Rules_ACT_SORT W (s_S_Rules_ACT_SORT W)) rfl rfl (by omega) (by omega) (fun z26 e_z26 i_z26 l_z26 u_z26 => ?_)
                  obtain rfl : z26 = 1 := by omega
                  refine yG.invV (rest := []) A_h24.1 (bOb (d_Net W) H_k2) rfl rfl rfl rfl (c_Net_named__1 W (d + 2) A_h24.1 H_k2 H_k1) (fun rv hp9 q9 => ?_)
                  obtain ⟨⟨z27, rfl, l_z27, u_z27, R_z27⟩, e9⟩ := q9
                  rw [e9]
                  show yG _ _ _ _ _ _ _ _ _ _ (yI z27 :: []) _
                  refine yG.store1 xik (L' := [(6, yI (z27)), (5, yI (1)), (0, yR k0), (1, yR k1), (2, yR k2), (3, yI (a3)), (4, yI (a4))]) rfl (fun _ _ => rfl) rfl rfl ?_
                  refine yG.load xik rfl (fun _ _ => rfl) (v := yI (z27)) rfl rfl ?_
                  refine yG.num (c := -1) rfl (fun _ _ => rfl) (by decide) ?_
                  refine yG.icmp rfl (t := 83) rfl ⟨by omega, by omega⟩ ⟨by omega, by omega⟩ (fun c28 => ?_) (fun c28 => ?_)
                  · have c28 : (z27 : Int) ≠ (-1) := c28
                    refine yG.load xak rfl (fun _ _ => rfl) (v := yR k1) rfl rfl ?_
                    refine yG.invV (rest := []) A_h24.1 (bOb (d_Tape W) H_k1) rfl rfl rfl rfl (c_Tape_next W d A_h24.1 H_k1) (fun rv h29 q9 => ?_)
                    obtain ⟨⟨z30, rfl, l_z30, u_z30, R_z30⟩, B_h29⟩ := q9
                    have A_h29 := A_h24.tr B_h29 (by decide)
                    have M_bSt_h29 := M_bSt_h24.fr B_h29 (by decide)
                    show yG _ _ _ _ _ _ _ _ _ _ (yI z30 :: []) _
                    refine yG.step (pc' := 88) (stk' := []) rfl (fun _ _ => rfl) ?_
                    refine yG.load xak rfl (fun _ _ => rfl) (v := yR k1) rfl rfl ?_
                    refine yG.num (c := 59) rfl (fun _ _ => rfl) (by decide) ?_
                    refine yG.invV (rest := []) A_h29.1 (bOb (d_Tape W) H_k1) rfl rfl rfl rfl (c_Tape_isSign W (d + 2) A_h29.1 H_k1 (59) (by omega) (by omega)) (fun rv hp9 q9 => ?_)
                    obtain ⟨⟨z31, rfl, l_z31, u_z31, R_z31⟩, e9⟩ := q9
                    rw [e9]
                    show yG _ _ _ _ _ _ _ _ _ _ (yI z31 :: []) _
                    refine yG.ifz rfl (t := 104) rfl ⟨by omega, by omega⟩ (fun c32 => ?_) (fun c32 => ?_)
                    · have c32 : (z31 : Int) ≠ 0 := c32
                      refine yG.load xak rfl (fun _ _ => rfl) (v := yR k0) rfl rfl ?_
                      refine yG.getO A_h29.1 (w_Rules_draftSteps W H_k0) rfl rfl (fun r33 H_r33 O_r33 q_r33 => ?_)
                      refine yG.load xik rfl (fun _ _ => rfl) (v := yI (a3)) rfl rfl ?_
                      refine yG.load xik rfl (fun _ _ => rfl) (v := yI (1)) rfl rfl ?_
                      refine yG.num (c := 100) rfl (fun _ _ => rfl) (by decide) ?_
                      refine yG.imul rfl ?_
                      refine yG.load xik rfl (fun _ _ => rfl) (v := yI (z27)) rfl rfl ?_
                      refine yG.iadd rfl ?_
                      refine yG.iast A_h29.1 (v_Rules_steps W H_r33) (W.2.1 _ _ H_r33 (by decide) (by decide)) rfl (by omega) (by omega) ⟨by omega, by omega⟩ (by omega) (by omega) (fun h34 T_h34 b_h34 f_h34 y_h34 => ?_)
                      have M_bSt_h34 : bSt G h34 := fun q Hq m hm => by
                        rw [y_h34 q m]
                        by_cases e : q = r33 ∧ m = (a3 : Int).toNat
                        · rw [if_pos e]; omega
                        · rw [if_neg e]; exact M_bSt_h29 q Hq m hm
                      have A_h34 := A_h29.put T_h34 b_h34 f_h34 H_r33 (bAll_ok (by decide) _)
                      refine yG.iinc rfl (a := a3) rfl (L' := [(3, yI (a3 + 1)), (6, yI (z27)), (5, yI (1)), (0, yR k0), (1, yR k1), (2, yR k2), (4, yI (a4))]) rfl ?_
                      refine yG.iinc rfl (a := a4) rfl (L' := [(4, yI (a4 + 1)), (3, yI (a3 + 1)), (6, yI (z27)), (5, yI (1)), (0, yR k0), (1, yR k1), (2, yR k2)]) rfl ?_
                      refine yG.goto rfl (t := 9) rfl ?_
                      exact yG.mono (yG.sub (i_9 (a3 + 1) (a4 + 1)  h34 A_h34 M_bSt_h34   (by omega) (by omega) (by omega) (by omega) (by omega) (by omega) (by omega)) (ySub.cons rfl (ySub.cons rfl (ySub.cons rfl (ySub.cons rfl (ySub.cons rfl (ySub.nil))))))) (by omega)
                    · have c32 : (z31 : Int) = 0 := c32
                      refine yG.num (c := -1) rfl (fun _ _ => rfl) (by decide) ?_
                      refine yG.load xak rfl (fun _ _ => rfl) (v := yR k1) rfl rfl ?_
                      refine yG.getI A_h29.1 (w_Tape_from W H_k1) rfl rfl (fun z35 e_z35 i_z35 l_z35 u_z35 => ?_)
                      refine yG.isub rfl ?_
                      refine yG.ret rfl (fun _ _ => rfl) ?_
                      exact (yP.int ⟨by omega, by omega⟩ ⟨⟨⟨(-1) - z35, rfl, by omega, by omega, trivial⟩, A_h29⟩, M_bSt_h29⟩)
                  · have c28 : (z27 : Int) = (-1) := c28
                    refine yG.num (c := -1) rfl (fun _ _ => rfl) (by decide) ?_
                    refine yG.load xak rfl (fun _ _ => rfl) (v := yR k1) rfl rfl ?_
                    refine yG.getI A_h24.1 (w_Tape_from W H_k1) rfl rfl (fun z36 e_z36 i_z36 l_z36 u_z36 => ?_)
                    refine yG.isub rfl ?_
                    refine yG.ret rfl (fun _ _ => rfl) ?_
                    exact (yP.int ⟨by omega, by omega⟩ ⟨⟨⟨(-1) - z36, rfl, by omega, by omega, trivial⟩, A_h24⟩, M_bSt_h24⟩)
                · subst c10
                  refine yG.load xak rfl (fun _ _ => rfl) (v := yR k1) rfl rfl ?_
                  refine yG.invV (rest := []) A_h2.1 (bOb (d_Tape W) H_k1) rfl rfl rfl rfl (c_Tape_next W d A_h2.1 H_k1) (fun rv h37 q9 => ?_)
                  obtain ⟨⟨z38, rfl, l_z38, u_z38, R_z38⟩, B_h37⟩ := q9
                  have A_h37 := A_h2.tr B_h37 (by decide)
                  have M_bSt_h37 := M_bSt_h2.fr B_h37 (by decide)
                  show yG _ _ _ _ _ _ _ _ _ _ (yI z38 :: []) _
                  refine yG.step (pc' := 57) (stk' := []) rfl (fun _ _ => rfl) ?_
                  refine yG.load xak rfl (fun _ _ => rfl) (v := yR k2) rfl rfl ?_
                  refine yG.load xak rfl (fun _ _ => rfl) (v := yR k1) rfl rfl ?_
                  refine yG.getS (c := 11) rfl rfl ?_
                  refine yG.load xik rfl (fun _ _ => rfl) (v := yI (2)) rfl rfl ?_
                  refine yG.ialdF A_h37.1 (v_S_Rules_ACT_SORT W (s_S_Rules_ACT_SORT W)) rfl rfl (by omega) (by omega) (fun z39 e_z39 i_z39 l_z39 u_z39 => ?_)
                  obtain rfl : z39 = 0 := by omega
                  refine yG.invV (rest := []) A_h37.1 (bOb (d_Net W) H_k2) rfl rfl rfl rfl (c_Net_named__0 W (d + 2) A_h37.1 H_k2 H_k1) (fun rv hp9 q9 => ?_)
                  obtain ⟨⟨z40, rfl, l_z40, u_z40, R_z40⟩, e9⟩ := q9
                  rw [e9]
                  show yG _ _ _ _ _ _ _ _ _ _ (yI z40 :: []) _
                  refine yG.store1 xik (L' := [(6, yI (z40)), (5, yI (2)), (0, yR k0), (1, yR k1), (2, yR k2), (3, yI (a3)), (4, yI (a4))]) rfl (fun _ _ => rfl) rfl rfl ?_
                  refine yG.load xik rfl (fun _ _ => rfl) (v := yI (z40)) rfl rfl ?_
                  refine yG.num (c := -1) rfl (fun _ _ => rfl) (by decide) ?_
                  refine yG.icmp rfl (t := 83) rfl ⟨by omega, by omega⟩ ⟨by omega, by omega⟩ (fun c41 => ?_) (fun c41 => ?_)
                  · have c41 : (z40 : Int) ≠ (-1) := c41
                    refine yG.load xak rfl (fun _ _ => rfl) (v := yR k1) rfl rfl ?_
                    refine yG.invV (rest := []) A_h37.1 (bOb (d_Tape W) H_k1) rfl rfl rfl rfl (c_Tape_next W d A_h37.1 H_k1) (fun rv h42 q9 => ?_)
                    obtain ⟨⟨z43, rfl, l_z43, u_z43, R_z43⟩, B_h42⟩ := q9
                    have A_h42 := A_h37.tr B_h42 (by decide)
                    have M_bSt_h42 := M_bSt_h37.fr B_h42 (by decide)
                    show yG _ _ _ _ _ _ _ _ _ _ (yI z43 :: []) _
                    refine yG.step (pc' := 88) (stk' := []) rfl (fun _ _ => rfl) ?_
                    refine yG.load xak rfl (fun _ _ => rfl) (v := yR k1) rfl rfl ?_
                    refine yG.num (c := 59) rfl (fun _ _ => rfl) (by decide) ?_
                    refine yG.invV (rest := []) A_h42.1 (bOb (d_Tape W) H_k1) rfl rfl rfl rfl (c_Tape_isSign W (d + 2) A_h42.1 H_k1 (59) (by omega) (by omega)) (fun rv hp9 q9 => ?_)
                    obtain ⟨⟨z44, rfl, l_z44, u_z44, R_z44⟩, e9⟩ := q9
                    rw [e9]
                    show yG _ _ _ _ _ _ _ _ _ _ (yI z44 :: []) _
                    refine yG.ifz rfl (t := 104) rfl ⟨by omega, by omega⟩ (fun c45 => ?_) (fun c45 => ?_)
                    · have c45 : (z44 : Int) ≠ 0 := c45
                      refine yG.load xak rfl (fun _ _ => rfl) (v := yR k0) rfl rfl ?_
                      refine yG.getO A_h42.1 (w_Rules_draftSteps W H_k0) rfl rfl (fun r46 H_r46 O_r46 q_r46 => ?_)
                      refine yG.load xik rfl (fun _ _ => rfl) (v := yI (a3)) rfl rfl ?_
                      refine yG.load xik rfl (fun _ _ => rfl) (v := yI (2)) rfl rfl ?_
                      refine yG.num (c := 100) rfl (fun _ _ => rfl) (by decide) ?_
                      refine yG.imul rfl ?_
                      refine yG.load xik rfl (fun _ _ => rfl) (v := yI (z40)) rfl rfl ?_
                      refine yG.iadd rfl ?_
                      refine yG.iast A_h42.1 (v_Rules_steps W H_r46) (W.2.1 _ _ H_r46 (by decide) (by decide)) rfl (by omega) (by omega) ⟨by omega, by omega⟩ (by omega) (by omega) (fun h47 T_h47 b_h47 f_h47 y_h47 => ?_)
                      have M_bSt_h47 : bSt G h47 := fun q Hq m hm => by
                        rw [y_h47 q m]
                        by_cases e : q = r46 ∧ m = (a3 : Int).toNat
                        · rw [if_pos e]; omega
                        · rw [if_neg e]; exact M_bSt_h42 q Hq m hm
                      have A_h47 := A_h42.put T_h47 b_h47 f_h47 H_r46 (bAll_ok (by decide) _)
                      refine yG.iinc rfl (a := a3) rfl (L' := [(3, yI (a3 + 1)), (6, yI (z40)), (5, yI (2)), (0, yR k0), (1, yR k1), (2, yR k2), (4, yI (a4))]) rfl ?_
                      refine yG.iinc rfl (a := a4) rfl (L' := [(4, yI (a4 + 1)), (3, yI (a3 + 1)), (6, yI (z40)), (5, yI (2)), (0, yR k0), (1, yR k1), (2, yR k2)]) rfl ?_
                      refine yG.goto rfl (t := 9) rfl ?_
                      exact yG.mono (yG.sub (i_9 (a3 + 1) (a4 + 1)  h47 A_h47 M_bSt_h47   (by omega) (by omega) (by omega) (by omega) (by omega) (by omega) (by omega)) (ySub.cons rfl (ySub.cons rfl (ySub.cons rfl (ySub.cons rfl (ySub.cons rfl (ySub.nil))))))) (by omega)
                    · have c45 : (z44 : Int) = 0 := c45
                      refine yG.num (c := -1) rfl (fun _ _ => rfl) (by decide) ?_
                      refine yG.load xak rfl (fun _ _ => rfl) (v := yR k1) rfl rfl ?_
                      refine yG.getI A_h42.1 (w_Tape_from W H_k1) rfl rfl (fun z48 e_z48 i_z48 l_z48 u_z48 => ?_)
                      refine yG.isub rfl ?_
                      refine yG.ret rfl (fun _ _ => rfl) ?_
                      exact (yP.int ⟨by omega, by omega⟩ ⟨⟨⟨(-1) - z48, rfl, by omega, by omega, trivial⟩, A_h42⟩, M_bSt_h42⟩)
                  · have c41 : (z40 : Int) = (-1) := c41
                    refine yG.num (c := -1) rfl (fun _ _ => rfl) (by decide) ?_
                    refine yG.load xak rfl (fun _ _ => rfl) (v := yR k1) rfl rfl ?_
                    refine yG.getI A_h37.1 (w_Tape_from W H_k1) rfl rfl (fun z49 e_z49 i_z49 l_z49 u_z49 => ?_)
                    refine yG.isub rfl ?_
                    refine yG.ret rfl (fun _ _ => rfl) ?_
                    exact (yP.int ⟨by omega, by omega⟩ ⟨⟨⟨(-1) - z49, rfl, by omega, by omega, trivial⟩, A_h37⟩, M_bSt_h37⟩)
                · subst c10
                  refine yG.load xak rfl (fun _ _ => rfl) (v := yR k1) rfl rfl ?_
                  refine yG.invV (rest := []) A_h2.1 (bOb (d_Tape W) H_k1) rfl rfl rfl rfl (c_Tape_next W d A_h2.1 H_k1) (fun rv h50 q9 => ?_)
                  obtain ⟨⟨z51, rfl, l_z51, u_z51, R_z51⟩, B_h50⟩ := q9
                  have A_h50 := A_h2.tr B_h50 (by decide)
                  have M_bSt_h50 := M_bSt_h2.fr B_h50 (by decide)
                  show yG _ _ _ _ _ _ _ _ _ _ (yI z51 :: []) _
                  refine yG.step (pc' := 57) (stk' := []) rfl (fun _ _ => rfl) ?_
                  refine yG.load xak rfl (fun _ _ => rfl) (v := yR k2) rfl rfl ?_
                  refine yG.load xak rfl (fun _ _ => rfl) (v := yR k1) rfl rfl ?_
                  refine yG.getS (c := 11) rfl rfl ?_
                  refine yG.load xik rfl (fun _ _ => rfl) (v := yI (3)) rfl rfl ?_
                  refine yG.ialdF A_h50.1 (v_S_Rules_ACT_SORT W (s_S_Rules_ACT_SORT W)) rfl rfl (by omega) (by omega) (fun z52 e_z52 i_z52 l_z52 u_z52 => ?_)
                  obtain rfl : z52 = 0 := by omega
                  refine yG.invV (rest := []) A_h50.1 (bOb (d_Net W) H_k2) rfl rfl rfl rfl (c_Net_named__0 W (d + 2) A_h50.1 H_k2 H_k1) (fun rv hp9 q9 => ?_)
                  obtain ⟨⟨z53, rfl, l_z53, u_z53, R_z53⟩, e9⟩ := q9
                  rw [e9]
                  show yG _ _ _ _ _ _ _ _ _ _ (yI z53 :: []) _
                  refine yG.store1 xik (L' := [(6, yI (z53)), (5, yI (3)), (0, yR k0), (1, yR k1), (2, yR k2), (3, yI (a3)), (4, yI (a4))]) rfl (fun _ _ => rfl) rfl rfl ?_
                  refine yG.load xik rfl (fun _ _ => rfl) (v := yI (z53)) rfl rfl ?_
                  refine yG.num (c := -1) rfl (fun _ _ => rfl) (by decide) ?_
                  refine yG.icmp rfl (t := 83) rfl ⟨by omega, by omega⟩ ⟨by omega, by omega⟩ (fun c54 => ?_) (fun c54 => ?_)
                  · have c54 : (z53 : Int) ≠ (-1) := c54
                    refine yG.load xak rfl (fun _ _ => rfl) (v := yR k1) rfl rfl ?_
                    refine yG.invV (rest := []) A_h50.1 (bOb (d_Tape W) H_k1) rfl rfl rfl rfl (c_Tape_next W d A_h50.1 H_k1) (fun rv h55 q9 => ?_)
                    obtain ⟨⟨z56, rfl, l_z56, u_z56, R_z56⟩, B_h55⟩ := q9
                    have A_h55 := A_h50.tr B_h55 (by decide)
                    have M_bSt_h55 := M_bSt_h50.fr B_h55 (by decide)
                    show yG _ _ _ _ _ _ _ _ _ _ (yI z56 :: []) _
                    refine yG.step (pc' := 88) (stk' := []) rfl (fun _ _ => rfl) ?_
                    refine yG.load xak rfl (fun _ _ => rfl) (v := yR k1) rfl rfl ?_
                    refine yG.num (c := 59) rfl (fun _ _ => rfl) (by decide) ?_
                    refine yG.invV (rest := []) A_h55.1 (bOb (d_Tape W) H_k1) rfl rfl rfl rfl (c_Tape_isSign W (d + 2) A_h55.1 H_k1 (59) (by omega) (by omega)) (fun rv hp9 q9 => ?_)
                    obtain ⟨⟨z57, rfl, l_z57, u_z57, R_z57⟩, e9⟩ := q9
                    rw [e9]
                    show yG _ _ _ _ _ _ _ _ _ _ (yI z57 :: []) _
                    refine yG.ifz rfl (t := 104) rfl ⟨by omega, by omega⟩ (fun c58 => ?_) (fun c58 => ?_)
                    · have c58 : (z57 : Int) ≠ 0 := c58
                      refine yG.load xak rfl (fun _ _ => rfl) (v := yR k0) rfl rfl ?_
                      refine yG.getO A_h55.1 (w_Rules_draftSteps W H_k0) rfl rfl (fun r59 H_r59 O_r59 q_r59 => ?_)
                      refine yG.load xik rfl (fun _ _ => rfl) (v := yI (a3)) rfl rfl ?_
                      refine yG.load xik rfl (fun _ _ => rfl) (v := yI (3)) rfl rfl ?_
                      refine yG.num (c := 100) rfl (fun _ _ => rfl) (by decide) ?_
                      refine yG.imul rfl ?_
                      refine yG.load xik rfl (fun _ _ => rfl) (v := yI (z53)) rfl rfl ?_
                      refine yG.iadd rfl ?_
                      refine yG.iast A_h55.1 (v_Rules_steps W H_r59) (W.2.1 _ _ H_r59 (by decide) (by decide)) rfl (by omega) (by omega) ⟨by omega, by omega⟩ (by omega) (by omega) (fun h60 T_h60 b_h60 f_h60 y_h60 => ?_)
                      have M_bSt_h60 : bSt G h60 := fun q Hq m hm => by
                        rw [y_h60 q m]
                        by_cases e : q = r59 ∧ m = (a3 : Int).toNat
                        · rw [if_pos e]; omega
                        · rw [if_neg e]; exact M_bSt_h55 q Hq m hm
                      have A_h60 := A_h55.put T_h60 b_h60 f_h60 H_r59 (bAll_ok (by decide) _)
                      refine yG.iinc rfl (a := a3) rfl (L' := [(3, yI (a3 + 1)), (6, yI (z53)), (5, yI (3)), (0, yR k0), (1, yR k1), (2, yR k2), (4, yI (a4))]) rfl ?_
                      refine yG.iinc rfl (a := a4) rfl (L' := [(4, yI (a4 + 1)), (3, yI (a3 + 1)), (6, yI (z53)), (5, yI (3)), (0, yR k0), (1, yR k1), (2, yR k2)]) rfl ?_
                      refine yG.goto rfl (t := 9) rfl ?_
                      exact yG.mono (yG.sub (i_9 (a3 + 1) (a4 + 1)  h60 A_h60 M_bSt_h60   (by omega) (by omega) (by omega) (by omega) (by omega) (by omega) (by omega)) (ySub.cons rfl (ySub.cons rfl (ySub.cons rfl (ySub.cons rfl (ySub.cons rfl (ySub.nil))))))) (by omega)
                    · have c58 : (z57 : Int) = 0 := c58
                      refine yG.num (c := -1) rfl (fun _ _ => rfl) (by decide) ?_
                      refine yG.load xak rfl (fun _ _ => rfl) (v := yR k1) rfl rfl ?_
                      refine yG.getI A_h55.1 (w_Tape_from W H_k1) rfl rfl (fun z61 e_z61 i_z61 l_z61 u_z61 => ?_)
                      refine yG.isub rfl ?_
                      refine yG.ret rfl (fun _ _ => rfl) ?_
                      exact (yP.int ⟨by omega, by omega⟩ ⟨⟨⟨(-1) - z61, rfl, by omega, by omega, trivial⟩, A_h55⟩, M_bSt_h55⟩)
                  · have c54 : (z53 : Int) = (-1) := c54
                    refine yG.num (c := -1) rfl (fun _ _ => rfl) (by decide) ?_
                    refine yG.load xak rfl (fun _ _ => rfl) (v := yR k1) rfl rfl ?_
                    refine yG.getI A_h50.1 (w_Tape_from W H_k1) rfl rfl (fun z62 e_z62 i_z62 l_z62 u_z62 => ?_)
                    refine yG.isub rfl ?_
                    refine yG.ret rfl (fun _ _ => rfl) ?_
                    exact (yP.int ⟨by omega, by omega⟩ ⟨⟨⟨(-1) - z62, rfl, by omega, by omega, trivial⟩, A_h50⟩, M_bSt_h50⟩)
                · subst c10
                  refine yG.load xak rfl (fun _ _ => rfl) (v := yR k1) rfl rfl ?_
                  refine yG.invV (rest := []) A_h2.1 (bOb (d_Tape W) H_k1) rfl rfl rfl rfl (c_Tape_next W d A_h2.1 H_k1) (fun rv h63 q9 => ?_)
                  obtain ⟨⟨z64, rfl, l_z64, u_z64, R_z64⟩, B_h63⟩ := q9
                  have A_h63 := A_h2.tr B_h63 (by decide)
                  have M_bSt_h63 := M_bSt_h2.fr B_h63 (by decide)
                  show yG _ _ _ _ _ _ _ _ _ _ (yI z64 :: []) _
                  refine yG.step (pc' := 57) (stk' := []) rfl (fun _ _ => rfl) ?_
                  refine yG.load xak rfl (fun _ _ => rfl) (v := yR k2) rfl rfl ?_
                  refine yG.load xak rfl (fun _ _ => rfl) (v := yR k1) rfl rfl ?_
                  refine yG.getS (c := 11) rfl rfl ?_
                  refine yG.load xik rfl (fun _ _ => rfl) (v := yI (4)) rfl rfl ?_
                  refine yG.ialdF A_h63.1 (v_S_Rules_ACT_SORT W (s_S_Rules_ACT_SORT W)) rfl rfl (by omega) (by omega) (fun z65 e_z65 i_z65 l_z65 u_z65 => ?_)
                  obtain rfl : z65 = 1 := by omega
                  refine yG.invV (rest := []) A_h63.1 (bOb (d_Net W) H_k2) rfl rfl rfl rfl (c_Net_named__1 W (d + 2) A_h63.1 H_k2 H_k1) (fun rv hp9 q9 => ?_)
                  obtain ⟨⟨z66, rfl, l_z66, u_z66, R_z66⟩, e9⟩ := q9
                  rw [e9]
                  show yG _ _ _ _ _ _ _ _ _ _ (yI z66 :: []) _
                  refine yG.store1 xik (L' := [(6, yI (z66)), (5, yI (4)), (0, yR k0), (1, yR k1), (2, yR k2), (3, yI (a3)), (4, yI (a4))]) rfl (fun _ _ => rfl) rfl rfl ?_
                  refine yG.load xik rfl (fun _ _ => rfl) (v := yI (z66)) rfl rfl ?_
                  refine yG.num (c := -1) rfl (fun _ _ => rfl) (by decide) ?_
                  refine yG.icmp rfl (t := 83) rfl ⟨by omega, by omega⟩ ⟨by omega, by omega⟩ (fun c67 => ?_) (fun c67 => ?_)
                  · have c67 : (z66 : Int) ≠ (-1) := c67
                    refine yG.load xak rfl (fun _ _ => rfl) (v := yR k1) rfl rfl ?_
                    refine yG.invV (rest := []) A_h63.1 (bOb (d_Tape W) H_k1) rfl rfl rfl rfl (c_Tape_next W d A_h63.1 H_k1) (fun rv h68 q9 => ?_)
                    obtain ⟨⟨z69, rfl, l_z69, u_z69, R_z69⟩, B_h68⟩ := q9
                    have A_h68 := A_h63.tr B_h68 (by decide)
                    have M_bSt_h68 := M_bSt_h63.fr B_h68 (by decide)
                    show yG _ _ _ _ _ _ _ _ _ _ (yI z69 :: []) _
                    refine yG.step (pc' := 88) (stk' := []) rfl (fun _ _ => rfl) ?_
                    refine yG.load xak rfl (fun _ _ => rfl) (v := yR k1) rfl rfl ?_
                    refine yG.num (c := 59) rfl (fun _ _ => rfl) (by decide) ?_
                    refine yG.invV (rest := []) A_h68.1 (bOb (d_Tape W) H_k1) rfl rfl rfl rfl (c_Tape_isSign W (d + 2) A_h68.1 H_k1 (59) (by omega) (by omega)) (fun rv hp9 q9 => ?_)
                    obtain ⟨⟨z70, rfl, l_z70, u_z70, R_z70⟩, e9⟩ := q9
                    rw [e9]
                    show yG _ _ _ _ _ _ _ _ _ _ (yI z70 :: []) _
                    refine yG.ifz rfl (t := 104) rfl ⟨by omega, by omega⟩ (fun c71 => ?_) (fun c71 => ?_)
                    · have c71 : (z70 : Int) ≠ 0 := c71
                      refine yG.load xak rfl (fun _ _ => rfl) (v := yR k0) rfl rfl ?_
                      refine yG.getO A_h68.1 (w_Rules_draftSteps W H_k0) rfl rfl (fun r72 H_r72 O_r72 q_r72 => ?_)
                      refine yG.load xik rfl (fun _ _ => rfl) (v := yI (a3)) rfl rfl ?_
                      refine yG.load xik rfl (fun _ _ => rfl) (v := yI (4)) rfl rfl ?_
                      refine yG.num (c := 100) rfl (fun _ _ => rfl) (by decide) ?_
                      refine yG.imul rfl ?_
                      refine yG.load xik rfl (fun _ _ => rfl) (v := yI (z66)) rfl rfl ?_
                      refine yG.iadd rfl ?_
                      refine yG.iast A_h68.1 (v_Rules_steps W H_r72) (W.2.1 _ _ H_r72 (by decide) (by decide)) rfl (by omega) (by omega) ⟨by omega, by omega⟩ (by omega) (by omega) (fun h73 T_h73 b_h73 f_h73 y_h73 => ?_)
                      have M_bSt_h73 : bSt G h73 := fun q Hq m hm => by
                        rw [y_h73 q m]
                        by_cases e : q = r72 ∧ m = (a3 : Int).toNat
                        · rw [if_pos e]; omega
                        · rw [if_neg e]; exact M_bSt_h68 q Hq m hm
                      have A_h73 := A_h68.put T_h73 b_h73 f_h73 H_r72 (bAll_ok (by decide) _)
                      refine yG.iinc rfl (a := a3) rfl (L' := [(3, yI (a3 + 1)), (6, yI (z66)), (5, yI (4)), (0, yR k0), (1, yR k1), (2, yR k2), (4, yI (a4))]) rfl ?_
                      refine yG.iinc rfl (a := a4) rfl (L' := [(4, yI (a4 + 1)), (3, yI (a3 + 1)), (6, yI (z66)), (5, yI (4)), (0, yR k0), (1, yR k1), (2, yR k2)]) rfl ?_
                      refine yG.goto rfl (t := 9) rfl ?_
                      exact yG.mono (yG.sub (i_9 (a3 + 1) (a4 + 1)  h73 A_h73 M_bSt_h73   (by omega) (by omega) (by omega) (by omega) (by omega) (by omega) (by omega)) (ySub.cons rfl (ySub.cons rfl (ySub.cons rfl (ySub.cons rfl (ySub.cons rfl (ySub.nil))))))) (by omega)
                    · have c71 : (z70 : Int) = 0 := c71
                      refine yG.num (c := -1) rfl (fun _ _ => rfl) (by decide) ?_
                      refine yG.load xak rfl (fun _ _ => rfl) (v := yR k1) rfl rfl ?_
                      refine yG.getI A_h68.1 (w_Tape_from W H_k1) rfl rfl (fun z74 e_z74 i_z74 l_z74 u_z74 => ?_)
                      refine yG.isub rfl ?_
                      refine yG.ret rfl (fun _ _ => rfl) ?_
                      exact (yP.int ⟨by omega, by omega⟩ ⟨⟨⟨(-1) - z74, rfl, by omega, by omega, trivial⟩, A_h68⟩, M_bSt_h68⟩)
                  · have c67 : (z66 : Int) = (-1) := c67
                    refine yG.num (c := -1) rfl (fun _ _ => rfl) (by decide) ?_
                    refine yG.load xak rfl (fun _ _ => rfl) (v := yR k1) rfl rfl ?_
                    refine yG.getI A_h63.1 (w_Tape_from W H_k1) rfl rfl (fun z75 e_z75 i_z75 l_z75 u_z75 => ?_)
                    refine yG.isub rfl ?_
                    refine yG.ret rfl (fun _ _ => rfl) ?_
                    exact (yP.int ⟨by omega, by omega⟩ ⟨⟨⟨(-1) - z75, rfl, by omega, by omega, trivial⟩, A_h63⟩, M_bSt_h63⟩)
                · subst c10
                  refine yG.load xak rfl (fun _ _ => rfl) (v := yR k1) rfl rfl ?_
                  refine yG.invV (rest := []) A_h2.1 (bOb (d_Tape W) H_k1) rfl rfl rfl rfl (c_Tape_next W d A_h2.1 H_k1) (fun rv h76 q9 => ?_)
                  obtain ⟨⟨z77, rfl, l_z77, u_z77, R_z77⟩, B_h76⟩ := q9
                  have A_h76 := A_h2.tr B_h76 (by decide)
                  have M_bSt_h76 := M_bSt_h2.fr B_h76 (by decide)
                  show yG _ _ _ _ _ _ _ _ _ _ (yI z77 :: []) _
                  refine yG.step (pc' := 57) (stk' := []) rfl (fun _ _ => rfl) ?_
                  refine yG.load xak rfl (fun _ _ => rfl) (v := yR k2) rfl rfl ?_
                  refine yG.load xak rfl (fun _ _ => rfl) (v := yR k1) rfl rfl ?_
                  refine yG.getS (c := 11) rfl rfl ?_
                  refine yG.load xik rfl (fun _ _ => rfl) (v := yI (5)) rfl rfl ?_
                  refine yG.ialdF A_h76.1 (v_S_Rules_ACT_SORT W (s_S_Rules_ACT_SORT W)) rfl rfl (by omega) (by omega) (fun z78 e_z78 i_z78 l_z78 u_z78 => ?_)
                  obtain rfl : z78 = 1 := by omega
                  refine yG.invV (rest := []) A_h76.1 (bOb (d_Net W) H_k2) rfl rfl rfl rfl (c_Net_named__1 W (d + 2) A_h76.1 H_k2 H_k1) (fun rv hp9 q9 => ?_)
                  obtain ⟨⟨z79, rfl, l_z79, u_z79, R_z79⟩, e9⟩ := q9
                  rw [e9]
                  show yG _ _ _ _ _ _ _ _ _ _ (yI z79 :: []) _
                  refine yG.store1 xik (L' := [(6, yI (z79)), (5, yI (5)), (0, yR k0), (1, yR k1), (2, yR k2), (3, yI (a3)), (4, yI (a4))]) rfl (fun _ _ => rfl) rfl rfl ?_
                  refine yG.load xik rfl (fun _ _ => rfl) (v := yI (z79)) rfl rfl ?_
                  refine yG.num (c := -1) rfl (fun _ _ => rfl) (by decide) ?_
                  refine yG.icmp rfl (t := 83) rfl ⟨by omega, by omega⟩ ⟨by omega, by omega⟩ (fun c80 => ?_) (fun c80 => ?_)
                  · have c80 : (z79 : Int) ≠ (-1) := c80
                    refine yG.load xak rfl (fun _ _ => rfl) (v := yR k1) rfl rfl ?_
                    refine yG.invV (rest := []) A_h76.1 (bOb (d_Tape W) H_k1) rfl rfl rfl rfl (c_Tape_next W d A_h76.1 H_k1) (fun rv h81 q9 => ?_)
                    obtain ⟨⟨z82, rfl, l_z82, u_z82, R_z82⟩, B_h81⟩ := q9
                    have A_h81 := A_h76.tr B_h81 (by decide)
                    have M_bSt_h81 := M_bSt_h76.fr B_h81 (by decide)
                    show yG _ _ _ _ _ _ _ _ _ _ (yI z82 :: []) _
                    refine yG.step (pc' := 88) (stk' := []) rfl (fun _ _ => rfl) ?_
                    refine yG.load xak rfl (fun _ _ => rfl) (v := yR k1) rfl rfl ?_
                    refine yG.num (c := 59) rfl (fun _ _ => rfl) (by decide) ?_
                    refine yG.invV (rest := []) A_h81.1 (bOb (d_Tape W) H_k1) rfl rfl rfl rfl (c_Tape_isSign W (d + 2) A_h81.1 H_k1 (59) (by omega) (by omega)) (fun rv hp9 q9 => ?_)
                    obtain ⟨⟨z83, rfl, l_z83, u_z83, R_z83⟩, e9⟩ := q9
                    rw [e9]
                    show yG _ _ _ _ _ _ _ _ _ _ (yI z83 :: []) _
                    refine yG.ifz rfl (t := 104) rfl ⟨by omega, by omega⟩ (fun c84 => ?_) (fun c84 => ?_)
                    · have c84 : (z83 : Int) ≠ 0 := c84
                      refine yG.load xak rfl (fun _ _ => rfl) (v := yR k0) rfl rfl ?_
                      refine yG.getO A_h81.1 (w_Rules_draftSteps W H_k0) rfl rfl (fun r85 H_r85 O_r85 q_r85 => ?_)
                      refine yG.load xik rfl (fun _ _ => rfl) (v := yI (a3)) rfl rfl ?_
                      refine yG.load xik rfl (fun _ _ => rfl) (v := yI (5)) rfl rfl ?_
                      refine yG.num (c := 100) rfl (fun _ _ => rfl) (by decide) ?_
                      refine yG.imul rfl ?_
                      refine yG.load xik rfl (fun _ _ => rfl) (v := yI (z79)) rfl rfl ?_
                      refine yG.iadd rfl ?_
                      refine yG.iast A_h81.1 (v_Rules_steps W H_r85) (W.2.1 _ _ H_r85 (by decide) (by decide)) rfl (by omega) (by omega) ⟨by omega, by omega⟩ (by omega) (by omega) (fun h86 T_h86 b_h86 f_h86 y_h86 => ?_)
                      have M_bSt_h86 : bSt G h86 := fun q Hq m hm => by
                        rw [y_h86 q m]
                        by_cases e : q = r85 ∧ m = (a3 : Int).toNat
                        · rw [if_pos e]; omega
                        · rw [if_neg e]; exact M_bSt_h81 q Hq m hm
                      have A_h86 := A_h81.put T_h86 b_h86 f_h86 H_r85 (bAll_ok (by decide) _)
                      refine yG.iinc rfl (a := a3) rfl (L' := [(3, yI (a3 + 1)), (6, yI (z79)), (5, yI (5)), (0, yR k0), (1, yR k1), (2, yR k2), (4, yI (a4))]) rfl ?_
                      refine yG.iinc rfl (a := a4) rfl (L' := [(4, yI (a4 + 1)), (3, yI (a3 + 1)), (6, yI (z79)), (5, yI (5)), (0, yR k0), (1, yR k1), (2, yR k2)]) rfl ?_
                      refine yG.goto rfl (t := 9) rfl ?_
                      exact yG.mono (yG.sub (i_9 (a3 + 1) (a4 + 1)  h86 A_h86 M_bSt_h86   (by omega) (by omega) (by omega) (by omega) (by omega) (by omega) (by omega)) (ySub.cons rfl (ySub.cons rfl (ySub.cons rfl (ySub.cons rfl (ySub.cons rfl (ySub.nil))))))) (by omega)
                    · have c84 : (z83 : Int) = 0 := c84
                      refine yG.num (c := -1) rfl (fun _ _ => rfl) (by decide) ?_
                      refine yG.load xak rfl (fun _ _ => rfl) (v := yR k1) rfl rfl ?_
                      refine yG.getI A_h81.1 (w_Tape_from W H_k1) rfl rfl (fun z87 e_z87 i_z87 l_z87 u_z87 => ?_)
                      refine yG.isub rfl ?_
                      refine yG.ret rfl (fun _ _ => rfl) ?_
                      exact (yP.int ⟨by omega, by omega⟩ ⟨⟨⟨(-1) - z87, rfl, by omega, by omega, trivial⟩, A_h81⟩, M_bSt_h81⟩)
                  · have c80 : (z79 : Int) = (-1) := c80
                    refine yG.num (c := -1) rfl (fun _ _ => rfl) (by decide) ?_
                    refine yG.load xak rfl (fun _ _ => rfl) (v := yR k1) rfl rfl ?_
                    refine yG.getI A_h76.1 (w_Tape_from W H_k1) rfl rfl (fun z88 e_z88 i_z88 l_z88 u_z88 => ?_)
                    refine yG.isub rfl ?_
                    refine yG.ret rfl (fun _ _ => rfl) ?_
                    exact (yP.int ⟨by omega, by omega⟩ ⟨⟨⟨(-1) - z88, rfl, by omega, by omega, trivial⟩, A_h76⟩, M_bSt_h76⟩)
              · have c9 : (z6 : Int) = (-1) := c9
                refine yG.num (c := -1) rfl (fun _ _ => rfl) (by decide) ?_
                refine yG.load xak rfl (fun _ _ => rfl) (v := yR k1) rfl rfl ?_
                refine yG.getI A_h2.1 (w_Tape_from W H_k1) rfl rfl (fun z89 e_z89 i_z89 l_z89 u_z89 => ?_)
                refine yG.isub rfl ?_
                refine yG.ret rfl (fun _ _ => rfl) ?_
                exact (yP.int ⟨by omega, by omega⟩ ⟨⟨⟨(-1) - z89, rfl, by omega, by omega, trivial⟩, A_h2⟩, M_bSt_h2⟩)
      · intro a3 hq A_hq M_bSt_hq f0 f1 hm
        refine yG.mono (N := 50 * m + 50) ?_ (by omega)
        refine yG.load xak rfl (fun _ _ => rfl) (v := yR k0) rfl rfl ?_
        refine yG.getO A_hq.1 (w_Rules_steps W H_k0) rfl rfl (fun r1 H_r1 O_r1 q_r1 => ?_)
        refine yG.store1 xak (L' := [(4, yR r1), (0, yR k0), (3, yI (a3))]) rfl (fun _ _ => rfl) rfl rfl ?_
        refine yG.load xak rfl (fun _ _ => rfl) (v := yR k0) rfl rfl ?_
        refine yG.load xak rfl (fun _ _ => rfl) (v := yR k0) rfl rfl ?_
        refine yG.getO A_hq.1 (w_Rules_draftSteps W H_k0) rfl rfl (fun r2 H_r2 O_r2 q_r2 => ?_)
        refine yG.putO A_hq.1 (w_Rules_steps W H_k0) (W.2.1 _ _ H_k0 (by decide) (by decide)) H_r2 rfl rfl rfl (fun h3 T_h3 b_h3 f_h3 => ?_)
        have y_h3 : ∀ x y, ys h3 x y = if x = k0 ∧ y = 7 then ydec (yR r2) else ys hq x y := fun x y => by unfold ys; rw [f_h3]; split <;> rfl
        have M_bSt_h3 := M_bSt_hq.fr (bAx.put (Wl := [(162259276829213363391578010288128, 7)]) (bAx.rf A_hq.1) T_h3 b_h3 f_h3 H_k0 (by decide)) (by decide)
        have A_h3 := A_hq.put T_h3 b_h3 f_h3 H_k0 (by decide)
        refine yG.load xak rfl (fun _ _ => rfl) (v := yR k0) rfl rfl ?_
        refine yG.load xak rfl (fun _ _ => rfl) (v := yR r1) rfl rfl ?_
        refine yG.putO A_h3.1 (w_Rules_draftSteps W H_k0) (W.2.1 _ _ H_k0 (by decide) (by decide)) H_r1 rfl rfl rfl (fun h4 T_h4 b_h4 f_h4 => ?_)
        have y_h4 : ∀ x y, ys h4 x y = if x = k0 ∧ y = 8 then ydec (yR r1) else ys h3 x y := fun x y => by unfold ys; rw [f_h4]; split <;> rfl
        have M_bSt_h4 := M_bSt_h3.fr (bAx.put (Wl := [(162259276829213363391578010288128, 8)]) (bAx.rf A_h3.1) T_h4 b_h4 f_h4 H_k0 (by decide)) (by decide)
        have A_h4 := A_h3.put T_h4 b_h4 f_h4 H_k0 (by decide)
        refine yG.load xak rfl (fun _ _ => rfl) (v := yR k0) rfl rfl ?_
        refine yG.load xik rfl (fun _ _ => rfl) (v := yI (a3)) rfl rfl ?_
        refine yG.putI A_h4.1 (w_Rules_stepCount W H_k0) (W.2.1 _ _ H_k0 (by decide) (by decide)) rfl rfl (.inl rfl) ⟨by omega, by omega⟩ (by omega) (by omega) (fun h5 T_h5 b_h5 f_h5 y_h5 => ?_)
        have M_bSt_h5 := M_bSt_h4.fr (bAx.put (Wl := [(162259276829213363391578010288128, 9)]) (bAx.rf A_h4.1) T_h5 b_h5 f_h5 H_k0 (by decide)) (by decide)
        have A_h5 := A_h4.put T_h5 b_h5 f_h5 H_k0 (by decide)
        refine yG.load xik rfl (fun _ _ => rfl) (v := yI (a3)) rfl rfl ?_
        refine yG.ret rfl (fun _ _ => rfl) ?_
        exact (yP.int ⟨by omega, by omega⟩ ⟨⟨⟨a3, rfl, by omega, by omega, trivial⟩, A_h5⟩, M_bSt_h5⟩)
  refine yC.of (M := (xt_X7_readOrder, (7, (1, (8, []))))) rfl rfl (N := 3850) (yfuel (by decide)) ?_
  show yG 89 xfts (xcall 89 xfts xpools xms (d + 3)) (xpool xp_RX7) [] xt_X7_readOrder (yP 1 (fun rv hp' => (bQi G [(32768, 2), (32768, 3), (32768, 5), (32768, 6), (162259276829213363391578010320896, 7), (162259276829213363391578010288128, 8), (162259276829213363391578010288128, 9), (1298074214633706907132624082305024, 256)] hp (-4001) 24 (fun _ => True)) rv hp' ∧ bSt G hp')) 3850 0 [(0, yR k0), (1, yR k1), (2, yR k2)] [] hp
  obtain ⟨i_9, i_127⟩ := H 76
  refine yG.num (c := 0) rfl (fun _ _ => rfl) (by decide) ?_
  refine yG.store1 xik (L' := [(3, yI (0)), (0, yR k0), (1, yR k1), (2, yR k2)]) rfl (fun _ _ => rfl) rfl rfl ?_
  refine yG.load xak rfl (fun _ _ => rfl) (v := yR k1) rfl rfl ?_
  refine yG.invV (rest := []) A_hp.1 (bOb (d_Tape W) H_k1) rfl rfl rfl rfl (c_Tape_rewind W (d + 2) A_hp.1 H_k1) (fun rv h1 q9 => ?_)
  obtain ⟨⟨rfl, R_z2⟩, B_h1⟩ := q9
  have A_h1 := A_hp.tr B_h1 (by decide)
  have M_bSt_h1 := M_bSt_hp.fr B_h1 (by decide)
  show yG _ _ _ _ _ _ _ _ _ _ [] _
  refine yG.num (c := 0) rfl (fun _ _ => rfl) (by decide) ?_
  refine yG.store1 xik (L' := [(4, yI (0)), (3, yI (0)), (0, yR k0), (1, yR k1), (2, yR k2)]) rfl (fun _ _ => rfl) rfl rfl ?_
  exact yG.mono (yG.sub (i_9 (0) (0)  h1 A_h1 M_bSt_h1   (by omega) (by omega) (by omega) (by omega) (by omega) (by omega) (by omega)) (ySub.cons rfl (ySub.cons rfl (ySub.cons rfl (ySub.cons rfl (ySub.cons rfl (ySub.nil))))))) (by omega)
theorem c_Rules_meant_n {hp : xH} (W : bW G) (d : Nat) (hT : zTy G hp) {k2 : Nat} (H_k2 : bRo G 18 k2) (p0 p1 : Int) (h0l : 0 ≤ p0) (h0u : p0 ≤ 23) (h1l : 0 ≤ p1) (h1u : p1 ≤ 23) : yC (xcall 89 xfts xpools xms (d + 1)) 197 [yI (p0), yI (p1), yR k2] hp (bQpi hp 0 23 (fun z => 0 ≤ 0 - p0 + z ∧ 0 ≤ p0 - z)) := by
  have A_hp : bAx G [] hp hp := bAx.rf hT
  refine yC.of (M := (xt_X7_meant, (3, (1, (8, []))))) rfl rfl (N := 18) (yfuel (by decide)) ?_
  show yG 89 xfts (xcall 89 xfts xpools xms d) (xpool xp_RX7) [] xt_X7_meant (yP 1 (bQpi hp 0 23 (fun z => 0 ≤ 0 - p0 + z ∧ 0 ≤ p0 - z))) 18 0 [(0, yI (p0)), (1, yI (p1)), (2, yR k2)] [] hp
  refine yG.load xik rfl (fun _ _ => rfl) (v := yI (p0)) rfl rfl ?_
  rcases (show (p0 < (-4 : Int) ∨ (-2 : Int) < p0) ∨ p0 = (-4 : Int) ∨ p0 = (-3 : Int) ∨ p0 = (-2 : Int) by omega) with c1 | c1 | c1 | c1
  · skip
    refine yG.tswD (t := 46) rfl ⟨by omega, by omega⟩ c1 rfl ?_
    refine yG.load xik rfl (fun _ _ => rfl) (v := yI (p0)) rfl rfl ?_
    refine yG.ret rfl (fun _ _ => rfl) ?_
    exact (yP.int ⟨by omega, by omega⟩ ⟨⟨p0, rfl, by omega, by omega, by omega⟩, rfl⟩)
  · skip
    exfalso; omega
  · skip
    exfalso; omega
  · skip
    exfalso; omega
theorem c_Rules_meant_i {hp : xH} (W : bW G) (d : Nat) (hT : zTy G hp) {k2 : Nat} (H_k2 : bRo G 18 k2) (p0 p1 : Int) (h0l : (-2) ≤ p0) (h0u : p0 ≤ (-2)) (h1l : 0 ≤ p1) (h1u : p1 ≤ 23) : yC (xcall 89 xfts xpools xms (d + 1)) 197 [yI (p0), yI (p1), yR k2] hp (bQpi hp 0 23 (fun z => 0 ≤ 0 - p1 + z ∧ 0 ≤ p1 - z)) := by
  have A_hp : bAx G [] hp hp := bAx.rf hT
  refine yC.of (M := (xt_X7_meant, (3, (1, (8, []))))) rfl rfl (N := 18) (yfuel (by decide)) ?_
  show yG 89 xfts (xcall 89 xfts xpools xms d) (xpool xp_RX7) [] xt_X7_meant (yP 1 (bQpi hp 0 23 (fun z => 0 ≤ 0 - p1 + z ∧ 0 ≤ p1 - z))) 18 0 [(0, yI (p0)), (1, yI (p1)), (2, yR k2)] [] hp
  refine yG.load xik rfl (fun _ _ => rfl) (v := yI (p0)) rfl rfl ?_
  rcases (show (p0 < (-4 : Int) ∨ (-2 : Int) < p0) ∨ p0 = (-4 : Int) ∨ p0 = (-3 : Int) ∨ p0 = (-2 : Int) by omega) with c1 | c1 | c1 | c1
  · skip
    exfalso; omega
  · skip
    exfalso; omega
  · skip
    exfalso; omega
  · skip
    refine yG.tswC (i := 2) (t := 28) rfl ⟨by omega, by omega⟩ (by omega) (by omega) rfl rfl ?_
    refine yG.load xik rfl (fun _ _ => rfl) (v := yI (p1)) rfl rfl ?_
    refine yG.ret rfl (fun _ _ => rfl) ?_
    exact (yP.int ⟨by omega, by omega⟩ ⟨⟨p1, rfl, by omega, by omega, by omega⟩, rfl⟩)
theorem c_Rules_meant_f {hp : xH} (W : bW G) (d : Nat) (hT : zTy G hp) {k2 : Nat} (H_k2 : bRo G 18 k2) (p0 p1 : Int) (h0l : (-4) ≤ p0) (h0u : p0 ≤ (-3)) (h1l : 0 ≤ p1) (h1u : p1 ≤ 23) : yC (xcall 89 xfts xpools xms (d + 2)) 197 [yI (p0), yI (p1), yR k2] hp (bQpi hp 0 15 (fun _ => True)) := by
  have A_hp : bAx G [] hp hp := bAx.rf hT
  refine yC.of (M := (xt_X7_meant, (3, (1, (8, []))))) rfl rfl (N := 30) (yfuel (by decide)) ?_
  show yG 89 xfts (xcall 89 xfts xpools xms (d + 1)) (xpool xp_RX7) [] xt_X7_meant (yP 1 (bQpi hp 0 15 (fun _ => True))) 30 0 [(0, yI (p0)), (1, yI (p1)), (2, yR k2)] [] hp
  refine yG.load xik rfl (fun _ _ => rfl) (v := yI (p0)) rfl rfl ?_
  rcases (show (p0 < (-4 : Int) ∨ (-2 : Int) < p0) ∨ p0 = (-4 : Int) ∨ p0 = (-3 : Int) ∨ p0 = (-2 : Int) by omega) with c1 | c1 | c1 | c1
  · skip
    exfalso; omega
  · skip
    refine yG.tswC (i := 0) (t := 38) rfl ⟨by omega, by omega⟩ (by omega) (by omega) rfl rfl ?_
    refine yG.load xak rfl (fun _ _ => rfl) (v := yR k2) rfl rfl ?_
    refine yG.num (c := 1) rfl (fun _ _ => rfl) (by decide) ?_
    refine yG.load xik rfl (fun _ _ => rfl) (v := yI (p1)) rfl rfl ?_
    refine yG.num (c := 4) rfl (fun _ _ => rfl) (by decide) ?_
    refine yG.invV (rest := []) A_hp.1 (bOb (d_Net W) H_k2) rfl rfl rfl rfl (c_Net_at_1_4 W d A_hp.1 H_k2 (p1) (by omega) (by omega)) (fun rv hp9 q9 => ?_)
    obtain ⟨⟨z2, rfl, l_z2, u_z2, R_z2⟩, e9⟩ := q9
    rw [e9]
    show yG _ _ _ _ _ _ _ _ _ _ (yI z2 :: []) _
    refine yG.ret rfl (fun _ _ => rfl) ?_
    exact (yP.int ⟨by omega, by omega⟩ ⟨⟨z2, rfl, by omega, by omega, trivial⟩, rfl⟩)
  · skip
    refine yG.tswC (i := 1) (t := 30) rfl ⟨by omega, by omega⟩ (by omega) (by omega) rfl rfl ?_
    refine yG.load xak rfl (fun _ _ => rfl) (v := yR k2) rfl rfl ?_
    refine yG.num (c := 1) rfl (fun _ _ => rfl) (by decide) ?_
    refine yG.load xik rfl (fun _ _ => rfl) (v := yI (p1)) rfl rfl ?_
    refine yG.num (c := 3) rfl (fun _ _ => rfl) (by decide) ?_
    refine yG.invV (rest := []) A_hp.1 (bOb (d_Net W) H_k2) rfl rfl rfl rfl (c_Net_at_1_3 W d A_hp.1 H_k2 (p1) (by omega) (by omega)) (fun rv hp9 q9 => ?_)
    obtain ⟨⟨z3, rfl, l_z3, u_z3, R_z3⟩, e9⟩ := q9
    rw [e9]
    show yG _ _ _ _ _ _ _ _ _ _ (yI z3 :: []) _
    refine yG.ret rfl (fun _ _ => rfl) ?_
    exact (yP.int ⟨by omega, by omega⟩ ⟨⟨z3, rfl, by omega, by omega, trivial⟩, rfl⟩)
  · skip
    exfalso; omega
theorem c_Rules_isSo_s {hp : xH} (W : bW G) (d : Nat) (hT : zTy G hp) {k0 : Nat} (H_k0 : bRo G 107 k0) {k4 : Nat} (H_k4 : bRo G 115 k4) {n1 : Nat} (H_n1 : bRo G 108 n1) (Q_n1 : zsl hp k0 1 = yR n1) (p1 p2 p3 : Int) (h1l : 0 ≤ p1) (h1u : p1 ≤ 2045) (h2l : 0 ≤ p2) (h2u : p2 ≤ 7) (h3l : 0 ≤ p3) (h3u : p3 ≤ 23) (g90 : bGd 0 p2 (ys hp n1 (p1 + 1 : Int).toNat) (ys hp n1 (p1 + 2 : Int).toNat)) : yC (xcall 89 xfts xpools xms (d + 3)) 196 [yR k0, yI (p1), yI (p2), yI (p3), yR k4] hp (bQpi hp 0 1 (fun _ => True)) := by
  have A_hp : bAx G [] hp hp := bAx.rf hT
  refine yC.of (M := (xt_X7_isSo, (8, (4, (8, []))))) rfl rfl (N := 123) (yfuel (by decide)) ?_
  show yG 89 xfts (xcall 89 xfts xpools xms (d + 2)) (xpool xp_RX7) [] xt_X7_isSo (yP 4 (bQpi hp 0 1 (fun _ => True))) 123 0 [(0, yR k0), (1, yI (p1)), (2, yI (p2)), (3, yI (p3)), (4, yR k4)] [] hp
  refine yG.load xak rfl (fun _ _ => rfl) (v := yR k0) rfl rfl ?_
  refine yG.getS9 A_hp.1 (w_Rules_code W H_k0) Q_n1 rfl rfl ?_
  refine yG.load xik rfl (fun _ _ => rfl) (v := yI (p1)) rfl rfl ?_
  refine yG.num (c := 1) rfl (fun _ _ => rfl) (by decide) ?_
  refine yG.iadd rfl ?_
  refine yG.iald A_hp.1 (v_Rules_code W H_n1) rfl (by omega) (by omega) (fun z1 e_z1 i_z1 l_z1 u_z1 => ?_)
  refine yG.store1 xik (L' := [(5, yI (z1)), (0, yR k0), (1, yI (p1)), (2, yI (p2)), (3, yI (p3)), (4, yR k4)]) rfl (fun _ _ => rfl) rfl rfl ?_
  refine yG.load xak rfl (fun _ _ => rfl) (v := yR k0) rfl rfl ?_
  refine yG.getS9 A_hp.1 (w_Rules_code W H_k0) Q_n1 rfl rfl ?_
  refine yG.load xik rfl (fun _ _ => rfl) (v := yI (p1)) rfl rfl ?_
  refine yG.num (c := 2) rfl (fun _ _ => rfl) (by decide) ?_
  refine yG.iadd rfl ?_
  refine yG.iald A_hp.1 (v_Rules_code W H_n1) rfl (by omega) (by omega) (fun z2 e_z2 i_z2 l_z2 u_z2 => ?_)
  refine yG.store1 xik (L' := [(6, yI (z2)), (5, yI (z1)), (0, yR k0), (1, yI (p1)), (2, yI (p2)), (3, yI (p3)), (4, yR k4)]) rfl (fun _ _ => rfl) rfl rfl ?_
  refine yG.load xak rfl (fun _ _ => rfl) (v := yR k4) rfl rfl ?_
  refine yG.getO A_hp.1 (w_FlowS_shape W H_k4) rfl rfl (fun r3 H_r3 O_r3 q_r3 => ?_)
  refine yG.store1 xak (L' := [(7, yR r3), (6, yI (z2)), (5, yI (z1)), (0, yR k0), (1, yI (p1)), (2, yI (p2)), (3, yI (p3)), (4, yR k4)]) rfl (fun _ _ => rfl) rfl rfl ?_
  obtain ⟨g1, g2, g3⟩ := g90
  unfold bOs9 at g1
  unfold bOb9 at g2 g3
  refine yG.load xik rfl (fun _ _ => rfl) (v := yI (p2)) rfl rfl ?_
  rcases (show (p2 < (0 : Int) ∨ (6 : Int) < p2) ∨ p2 = (0 : Int) ∨ p2 = (1 : Int) ∨ p2 = (2 : Int) ∨ p2 = (3 : Int) ∨ p2 = (4 : Int) ∨ p2 = (5 : Int) ∨ p2 = (6 : Int) by omega) with c4 | c4 | c4 | c4 | c4 | c4 | c4 | c4
  · skip
    refine yG.tswD (t := 260) rfl ⟨by omega, by omega⟩ c4 rfl ?_
    refine yG.load xak rfl (fun _ _ => rfl) (v := yR r3) rfl rfl ?_
    refine yG.invV (rest := []) A_hp.1 (bOb (d_Shape W) H_r3) rfl rfl rfl rfl (c_Shape_loops W d A_hp.1 H_r3) (fun rv hp9 q9 => ?_)
    obtain ⟨⟨z5, rfl, l_z5, u_z5, R_z5⟩, e9⟩ := q9
    rw [e9]
    show yG _ _ _ _ _ _ _ _ _ _ (yI z5 :: []) _
    refine yG.load xik rfl (fun _ _ => rfl) (v := yI (z2)) rfl rfl ?_
    refine yG.invS (rest := []) rfl rfl rfl rfl (c_J6_compareI W (d + 1) A_hp.1 (z5) (z2) (by omega) (by omega) (by omega) (by omega)) (fun rv hp9 q9 => ?_)
    obtain ⟨⟨z6, rfl, l_z6, u_z6, R_z6⟩, e9⟩ := q9
    rw [e9]
    show yG _ _ _ _ _ _ _ _ _ _ (yI z6 :: []) _
    refine yG.load xik rfl (fun _ _ => rfl) (v := yI (z1)) rfl rfl ?_
    refine yG.icmp rfl (t := 279) rfl ⟨by omega, by omega⟩ ⟨by omega, by omega⟩ (fun c7 => ?_) (fun c7 => ?_)
    · have c7 : (z6 : Int) ≠ z1 := c7
      refine yG.num (c := 0) rfl (fun _ _ => rfl) (by decide) ?_
      refine yG.ret rfl (fun _ _ => rfl) ?_
      exact (yP.bool (by omega) ⟨⟨0, rfl, by omega, by omega, trivial⟩, rfl⟩)
    · have c7 : (z6 : Int) = z1 := c7
      refine yG.num (c := 1) rfl (fun _ _ => rfl) (by decide) ?_
      refine yG.goto rfl (t := 280) rfl ?_
      refine yG.ret rfl (fun _ _ => rfl) ?_
      exact (yP.bool (by omega) ⟨⟨1, rfl, by omega, by omega, trivial⟩, rfl⟩)
  · skip
    refine yG.tswC (i := 0) (t := 72) rfl ⟨by omega, by omega⟩ (by omega) (by omega) rfl rfl ?_
    refine yG.load xak rfl (fun _ _ => rfl) (v := yR r3) rfl rfl ?_
    refine yG.getO A_hp.1 (w_Shape_net W H_r3) rfl rfl (fun r8 H_r8 O_r8 q_r8 => ?_)
    refine yG.num (c := 1) rfl (fun _ _ => rfl) (by decide) ?_
    refine yG.load xik rfl (fun _ _ => rfl) (v := yI (z1)) rfl rfl ?_
    refine yG.load xik rfl (fun _ _ => rfl) (v := yI (p3)) rfl rfl ?_
    refine yG.load xak rfl (fun _ _ => rfl) (v := yR r3) rfl rfl ?_
    refine yG.getS9 A_hp.1 (w_Shape_net W H_r3) q_r8 rfl rfl ?_
    rcases (show z1 ≤ (-1) ∨ 0 ≤ z1 by omega) with d9 | d9
    · skip
      refine yG.invS (rest := [yI (1), yR r8]) rfl rfl rfl rfl (c_Rules_meant_i W (d + 1) A_hp.1 H_r8 (z1) (p3) (by omega) (by omega) (by omega) (by omega)) (fun rv hp9 q9 => ?_)
      obtain ⟨⟨z10, rfl, l_z10, u_z10, R_z10⟩, e9⟩ := q9
      rw [e9]
      show yG _ _ _ _ _ _ _ _ _ _ (yI z10 :: [yI (1), yR r8]) _
      refine yG.num (c := 0) rfl (fun _ _ => rfl) (by decide) ?_
      refine yG.invV (rest := []) A_hp.1 (bOb (d_Net W) H_r8) rfl rfl rfl rfl (c_Net_is_1 W (d + 1) A_hp.1 H_r8 (z10) (0) (by omega) (by omega) (by omega) (by omega)) (fun rv hp9 q9 => ?_)
      obtain ⟨⟨z11, rfl, l_z11, u_z11, R_z11⟩, e9⟩ := q9
      rw [e9]
      show yG _ _ _ _ _ _ _ _ _ _ (yI z11 :: []) _
      refine yG.ret rfl (fun _ _ => rfl) ?_
      exact (yP.bool (by omega) ⟨⟨z11, rfl, by omega, by omega, trivial⟩, rfl⟩)
    · skip
      refine yG.invS (rest := [yI (1), yR r8]) rfl rfl rfl rfl (c_Rules_meant_n W (d + 1) A_hp.1 H_r8 (z1) (p3) (by omega) (by omega) (by omega) (by omega)) (fun rv hp9 q9 => ?_)
      obtain ⟨⟨z12, rfl, l_z12, u_z12, R_z12⟩, e9⟩ := q9
      rw [e9]
      show yG _ _ _ _ _ _ _ _ _ _ (yI z12 :: [yI (1), yR r8]) _
      refine yG.num (c := 0) rfl (fun _ _ => rfl) (by decide) ?_
      refine yG.invV (rest := []) A_hp.1 (bOb (d_Net W) H_r8) rfl rfl rfl rfl (c_Net_is_1 W (d + 1) A_hp.1 H_r8 (z12) (0) (by omega) (by omega) (by omega) (by omega)) (fun rv hp9 q9 => ?_)
      obtain ⟨⟨z13, rfl, l_z13, u_z13, R_z13⟩, e9⟩ := q9
      rw [e9]
      show yG _ _ _ _ _ _ _ _ _ _ (yI z13 :: []) _
      refine yG.ret rfl (fun _ _ => rfl) ?_
      exact (yP.bool (by omega) ⟨⟨z13, rfl, by omega, by omega, trivial⟩, rfl⟩)
  · skip
    refine yG.tswC (i := 1) (t := 94) rfl ⟨by omega, by omega⟩ (by omega) (by omega) rfl rfl ?_
    refine yG.load xak rfl (fun _ _ => rfl) (v := yR r3) rfl rfl ?_
    refine yG.getO A_hp.1 (w_Shape_net W H_r3) rfl rfl (fun r14 H_r14 O_r14 q_r14 => ?_)
    refine yG.num (c := 1) rfl (fun _ _ => rfl) (by decide) ?_
    refine yG.load xik rfl (fun _ _ => rfl) (v := yI (z1)) rfl rfl ?_
    refine yG.load xik rfl (fun _ _ => rfl) (v := yI (p3)) rfl rfl ?_
    refine yG.load xak rfl (fun _ _ => rfl) (v := yR r3) rfl rfl ?_
    refine yG.getS9 A_hp.1 (w_Shape_net W H_r3) q_r14 rfl rfl ?_
    rcases (show z1 ≤ (-1) ∨ 0 ≤ z1 by omega) with d15 | d15
    · skip
      refine yG.invS (rest := [yI (1), yR r14]) rfl rfl rfl rfl (c_Rules_meant_i W (d + 1) A_hp.1 H_r14 (z1) (p3) (by omega) (by omega) (by omega) (by omega)) (fun rv hp9 q9 => ?_)
      obtain ⟨⟨z16, rfl, l_z16, u_z16, R_z16⟩, e9⟩ := q9
      rw [e9]
      show yG _ _ _ _ _ _ _ _ _ _ (yI z16 :: [yI (1), yR r14]) _
      refine yG.num (c := 2) rfl (fun _ _ => rfl) (by decide) ?_
      refine yG.invV (rest := []) A_hp.1 (bOb (d_Net W) H_r14) rfl rfl rfl rfl (c_Net_is_1 W (d + 1) A_hp.1 H_r14 (z16) (2) (by omega) (by omega) (by omega) (by omega)) (fun rv hp9 q9 => ?_)
      obtain ⟨⟨z17, rfl, l_z17, u_z17, R_z17⟩, e9⟩ := q9
      rw [e9]
      show yG _ _ _ _ _ _ _ _ _ _ (yI z17 :: []) _
      refine yG.ret rfl (fun _ _ => rfl) ?_
      exact (yP.bool (by omega) ⟨⟨z17, rfl, by omega, by omega, trivial⟩, rfl⟩)
    · skip
      refine yG.invS (rest := [yI (1), yR r14]) rfl rfl rfl rfl (c_Rules_meant_n W (d + 1) A_hp.1 H_r14 (z1) (p3) (by omega) (by omega) (by omega) (by omega)) (fun rv hp9 q9 => ?_)
      obtain ⟨⟨z18, rfl, l_z18, u_z18, R_z18⟩, e9⟩ := q9
      rw [e9]
      show yG _ _ _ _ _ _ _ _ _ _ (yI z18 :: [yI (1), yR r14]) _
      refine yG.num (c := 2) rfl (fun _ _ => rfl) (by decide) ?_
      refine yG.invV (rest := []) A_hp.1 (bOb (d_Net W) H_r14) rfl rfl rfl rfl (c_Net_is_1 W (d + 1) A_hp.1 H_r14 (z18) (2) (by omega) (by omega) (by omega) (by omega)) (fun rv hp9 q9 => ?_)
      obtain ⟨⟨z19, rfl, l_z19, u_z19, R_z19⟩, e9⟩ := q9
      rw [e9]
      show yG _ _ _ _ _ _ _ _ _ _ (yI z19 :: []) _
      refine yG.ret rfl (fun _ _ => rfl) ?_
      exact (yP.bool (by omega) ⟨⟨z19, rfl, by omega, by omega, trivial⟩, rfl⟩)
  · skip
    refine yG.tswC (i := 2) (t := 116) rfl ⟨by omega, by omega⟩ (by omega) (by omega) rfl rfl ?_
    refine yG.load xak rfl (fun _ _ => rfl) (v := yR r3) rfl rfl ?_
    refine yG.getO A_hp.1 (w_Shape_live W H_r3) rfl rfl (fun r20 H_r20 O_r20 q_r20 => ?_)
    refine yG.load xak rfl (fun _ _ => rfl) (v := yR r3) rfl rfl ?_
    refine yG.getO A_hp.1 (w_Shape_island W H_r3) rfl rfl (fun r21 H_r21 O_r21 q_r21 => ?_)
    refine yG.load xik rfl (fun _ _ => rfl) (v := yI (z1)) rfl rfl ?_
    refine yG.load xik rfl (fun _ _ => rfl) (v := yI (p3)) rfl rfl ?_
    refine yG.load xak rfl (fun _ _ => rfl) (v := yR r3) rfl rfl ?_
    refine yG.getO A_hp.1 (w_Shape_net W H_r3) rfl rfl (fun r22 H_r22 O_r22 q_r22 => ?_)
    rcases (show z1 ≤ (-1) ∨ 0 ≤ z1 by omega) with d23 | d23
    · skip
      refine yG.invS (rest := [yR r21, yR r20]) rfl rfl rfl rfl (c_Rules_meant_f W d A_hp.1 H_r22 (z1) (p3) (by omega) (by omega) (by omega) (by omega)) (fun rv hp9 q9 => ?_)
      obtain ⟨⟨z24, rfl, l_z24, u_z24, R_z24⟩, e9⟩ := q9
      rw [e9]
      show yG _ _ _ _ _ _ _ _ _ _ (yI z24 :: [yR r21, yR r20]) _
      refine yG.ialdF A_hp.1 (v_Shape_island W H_r21) rfl rfl (by omega) (by omega) (fun z25 e_z25 i_z25 l_z25 u_z25 => ?_)
      refine yG.bald A_hp.1 (v_Shape_live W H_r20) rfl (by omega) (by omega) (fun z26 e_z26 i_z26 l_z26 u_z26 => ?_)
      refine yG.ret rfl (fun _ _ => rfl) ?_
      exact (yP.bool (by omega) ⟨⟨z26, rfl, by omega, by omega, trivial⟩, rfl⟩)
    · skip
      refine yG.invS (rest := [yR r21, yR r20]) rfl rfl rfl rfl (c_Rules_meant_n W (d + 1) A_hp.1 H_r22 (z1) (p3) (by omega) (by omega) (by omega) (by omega)) (fun rv hp9 q9 => ?_)
      obtain ⟨⟨z27, rfl, l_z27, u_z27, R_z27⟩, e9⟩ := q9
      rw [e9]
      show yG _ _ _ _ _ _ _ _ _ _ (yI z27 :: [yR r21, yR r20]) _
      refine yG.ialdF A_hp.1 (v_Shape_island W H_r21) rfl rfl (by omega) (by omega) (fun z28 e_z28 i_z28 l_z28 u_z28 => ?_)
      refine yG.bald A_hp.1 (v_Shape_live W H_r20) rfl (by omega) (by omega) (fun z29 e_z29 i_z29 l_z29 u_z29 => ?_)
      refine yG.ret rfl (fun _ _ => rfl) ?_
      exact (yP.bool (by omega) ⟨⟨z29, rfl, by omega, by omega, trivial⟩, rfl⟩)
  · skip
    refine yG.tswC (i := 3) (t := 140) rfl ⟨by omega, by omega⟩ (by omega) (by omega) rfl rfl ?_
    refine yG.load xak rfl (fun _ _ => rfl) (v := yR r3) rfl rfl ?_
    refine yG.getO A_hp.1 (w_Shape_net W H_r3) rfl rfl (fun r30 H_r30 O_r30 q_r30 => ?_)
    refine yG.num (c := 0) rfl (fun _ _ => rfl) (by decide) ?_
    refine yG.load xik rfl (fun _ _ => rfl) (v := yI (z1)) rfl rfl ?_
    refine yG.load xik rfl (fun _ _ => rfl) (v := yI (p3)) rfl rfl ?_
    refine yG.load xak rfl (fun _ _ => rfl) (v := yR r3) rfl rfl ?_
    refine yG.getS9 A_hp.1 (w_Shape_net W H_r3) q_r30 rfl rfl ?_
    rcases (show z1 ≤ (-1) ∨ 0 ≤ z1 by omega) with d31 | d31
    · skip
      refine yG.invS (rest := [yI (0), yR r30]) rfl rfl rfl rfl (c_Rules_meant_f W d A_hp.1 H_r30 (z1) (p3) (by omega) (by omega) (by omega) (by omega)) (fun rv hp9 q9 => ?_)
      obtain ⟨⟨z32, rfl, l_z32, u_z32, R_z32⟩, e9⟩ := q9
      rw [e9]
      show yG _ _ _ _ _ _ _ _ _ _ (yI z32 :: [yI (0), yR r30]) _
      refine yG.num (c := 0) rfl (fun _ _ => rfl) (by decide) ?_
      refine yG.invV (rest := []) A_hp.1 (bOb (d_Net W) H_r30) rfl rfl rfl rfl (c_Net_is_0 W (d + 1) A_hp.1 H_r30 (z32) (0) (by omega) (by omega) (by omega) (by omega)) (fun rv hp9 q9 => ?_)
      obtain ⟨⟨z33, rfl, l_z33, u_z33, R_z33⟩, e9⟩ := q9
      rw [e9]
      show yG _ _ _ _ _ _ _ _ _ _ (yI z33 :: []) _
      refine yG.ret rfl (fun _ _ => rfl) ?_
      exact (yP.bool (by omega) ⟨⟨z33, rfl, by omega, by omega, trivial⟩, rfl⟩)
    · skip
      refine yG.invS (rest := [yI (0), yR r30]) rfl rfl rfl rfl (c_Rules_meant_n W (d + 1) A_hp.1 H_r30 (z1) (p3) (by omega) (by omega) (by omega) (by omega)) (fun rv hp9 q9 => ?_)
      obtain ⟨⟨z34, rfl, l_z34, u_z34, R_z34⟩, e9⟩ := q9
      rw [e9]
      show yG _ _ _ _ _ _ _ _ _ _ (yI z34 :: [yI (0), yR r30]) _
      refine yG.num (c := 0) rfl (fun _ _ => rfl) (by decide) ?_
      refine yG.invV (rest := []) A_hp.1 (bOb (d_Net W) H_r30) rfl rfl rfl rfl (c_Net_is_0 W (d + 1) A_hp.1 H_r30 (z34) (0) (by omega) (by omega) (by omega) (by omega)) (fun rv hp9 q9 => ?_)
      obtain ⟨⟨z35, rfl, l_z35, u_z35, R_z35⟩, e9⟩ := q9
      rw [e9]
      show yG _ _ _ _ _ _ _ _ _ _ (yI z35 :: []) _
      refine yG.ret rfl (fun _ _ => rfl) ?_
      exact (yP.bool (by omega) ⟨⟨z35, rfl, by omega, by omega, trivial⟩, rfl⟩)
  · skip
    refine yG.tswC (i := 4) (t := 162) rfl ⟨by omega, by omega⟩ (by omega) (by omega) rfl rfl ?_
    refine yG.load xak rfl (fun _ _ => rfl) (v := yR r3) rfl rfl ?_
    refine yG.getO A_hp.1 (w_Shape_node W H_r3) rfl rfl (fun r36 H_r36 O_r36 q_r36 => ?_)
    refine yG.load xik rfl (fun _ _ => rfl) (v := yI (z1)) rfl rfl ?_
    refine yG.load xik rfl (fun _ _ => rfl) (v := yI (p3)) rfl rfl ?_
    refine yG.load xak rfl (fun _ _ => rfl) (v := yR r3) rfl rfl ?_
    refine yG.getO A_hp.1 (w_Shape_net W H_r3) rfl rfl (fun r37 H_r37 O_r37 q_r37 => ?_)
    rcases (show z1 ≤ (-1) ∨ 0 ≤ z1 by omega) with d38 | d38
    · skip
      refine yG.invS (rest := [yR r36]) rfl rfl rfl rfl (c_Rules_meant_f W d A_hp.1 H_r37 (z1) (p3) (by omega) (by omega) (by omega) (by omega)) (fun rv hp9 q9 => ?_)
      obtain ⟨⟨z39, rfl, l_z39, u_z39, R_z39⟩, e9⟩ := q9
      rw [e9]
      show yG _ _ _ _ _ _ _ _ _ _ (yI z39 :: [yR r36]) _
      refine yG.ialdF A_hp.1 (v_Shape_node W H_r36) rfl rfl (by omega) (by omega) (fun z40 e_z40 i_z40 l_z40 u_z40 => ?_)
      refine yG.load xak rfl (fun _ _ => rfl) (v := yR r3) rfl rfl ?_
      refine yG.getS9 A_hp.1 (w_Shape_node W H_r3) q_r36 rfl rfl ?_
      refine yG.load xik rfl (fun _ _ => rfl) (v := yI (z2)) rfl rfl ?_
      refine yG.load xik rfl (fun _ _ => rfl) (v := yI (p3)) rfl rfl ?_
      refine yG.load xak rfl (fun _ _ => rfl) (v := yR r3) rfl rfl ?_
      refine yG.getS9 A_hp.1 (w_Shape_net W H_r3) q_r37 rfl rfl ?_
      rcases (show z2 ≤ (-1) ∨ 0 ≤ z2 by omega) with d41 | d41
      · skip
        refine yG.invS (rest := [yR r36, yI (z40)]) rfl rfl rfl rfl (c_Rules_meant_f W d A_hp.1 H_r37 (z2) (p3) (by omega) (by omega) (by omega) (by omega)) (fun rv hp9 q9 => ?_)
        obtain ⟨⟨z42, rfl, l_z42, u_z42, R_z42⟩, e9⟩ := q9
        rw [e9]
        show yG _ _ _ _ _ _ _ _ _ _ (yI z42 :: [yR r36, yI (z40)]) _
        refine yG.ialdF A_hp.1 (v_Shape_node W H_r36) rfl rfl (by omega) (by omega) (fun z43 e_z43 i_z43 l_z43 u_z43 => ?_)
        refine yG.icmp rfl (t := 203) rfl ⟨by omega, by omega⟩ ⟨by omega, by omega⟩ (fun c44 => ?_) (fun c44 => ?_)
        · have c44 : (z40 : Int) ≠ z43 := c44
          refine yG.num (c := 0) rfl (fun _ _ => rfl) (by decide) ?_
          refine yG.ret rfl (fun _ _ => rfl) ?_
          exact (yP.bool (by omega) ⟨⟨0, rfl, by omega, by omega, trivial⟩, rfl⟩)
        · have c44 : (z40 : Int) = z43 := c44
          refine yG.num (c := 1) rfl (fun _ _ => rfl) (by decide) ?_
          refine yG.goto rfl (t := 204) rfl ?_
          refine yG.ret rfl (fun _ _ => rfl) ?_
          exact (yP.bool (by omega) ⟨⟨1, rfl, by omega, by omega, trivial⟩, rfl⟩)
      · skip
        refine yG.invS (rest := [yR r36, yI (z40)]) rfl rfl rfl rfl (c_Rules_meant_n W (d + 1) A_hp.1 H_r37 (z2) (p3) (by omega) (by omega) (by omega) (by omega)) (fun rv hp9 q9 => ?_)
        obtain ⟨⟨z45, rfl, l_z45, u_z45, R_z45⟩, e9⟩ := q9
        rw [e9]
        show yG _ _ _ _ _ _ _ _ _ _ (yI z45 :: [yR r36, yI (z40)]) _
        refine yG.ialdF A_hp.1 (v_Shape_node W H_r36) rfl rfl (by omega) (by omega) (fun z46 e_z46 i_z46 l_z46 u_z46 => ?_)
        refine yG.icmp rfl (t := 203) rfl ⟨by omega, by omega⟩ ⟨by omega, by omega⟩ (fun c47 => ?_) (fun c47 => ?_)
        · have c47 : (z40 : Int) ≠ z46 := c47
          refine yG.num (c := 0) rfl (fun _ _ => rfl) (by decide) ?_
          refine yG.ret rfl (fun _ _ => rfl) ?_
          exact (yP.bool (by omega) ⟨⟨0, rfl, by omega, by omega, trivial⟩, rfl⟩)
        · have c47 : (z40 : Int) = z46 := c47
          refine yG.num (c := 1) rfl (fun _ _ => rfl) (by decide) ?_
          refine yG.goto rfl (t := 204) rfl ?_
          refine yG.ret rfl (fun _ _ => rfl) ?_
          exact (yP.bool (by omega) ⟨⟨1, rfl, by omega, by omega, trivial⟩, rfl⟩)
    · skip
      refine yG.invS (rest := [yR r36]) rfl rfl rfl rfl (c_Rules_meant_n W (d + 1) A_hp.1 H_r37 (z1) (p3) (by omega) (by omega) (by omega) (by omega)) (fun rv hp9 q9 => ?_)
      obtain ⟨⟨z48, rfl, l_z48, u_z48, R_z48⟩, e9⟩ := q9
      rw [e9]
      show yG _ _ _ _ _ _ _ _ _ _ (yI z48 :: [yR r36]) _
      refine yG.ialdF A_hp.1 (v_Shape_node W H_r36) rfl rfl (by omega) (by omega) (fun z49 e_z49 i_z49 l_z49 u_z49 => ?_)
      refine yG.load xak rfl (fun _ _ => rfl) (v := yR r3) rfl rfl ?_
      refine yG.getS9 A_hp.1 (w_Shape_node W H_r3) q_r36 rfl rfl ?_
      refine yG.load xik rfl (fun _ _ => rfl) (v := yI (z2)) rfl rfl ?_
      refine yG.load xik rfl (fun _ _ => rfl) (v := yI (p3)) rfl rfl ?_
      refine yG.load xak rfl (fun _ _ => rfl) (v := yR r3) rfl rfl ?_
      refine yG.getS9 A_hp.1 (w_Shape_net W H_r3) q_r37 rfl rfl ?_
      rcases (show z2 ≤ (-1) ∨ 0 ≤ z2 by omega) with d50 | d50
      · skip
        refine yG.invS (rest := [yR r36, yI (z49)]) rfl rfl rfl rfl (c_Rules_meant_f W d A_hp.1 H_r37 (z2) (p3) (by omega) (by omega) (by omega) (by omega)) (fun rv hp9 q9 => ?_)
        obtain ⟨⟨z51, rfl, l_z51, u_z51, R_z51⟩, e9⟩ := q9
        rw [e9]
        show yG _ _ _ _ _ _ _ _ _ _ (yI z51 :: [yR r36, yI (z49)]) _
        refine yG.ialdF A_hp.1 (v_Shape_node W H_r36) rfl rfl (by omega) (by omega) (fun z52 e_z52 i_z52 l_z52 u_z52 => ?_)
        refine yG.icmp rfl (t := 203) rfl ⟨by omega, by omega⟩ ⟨by omega, by omega⟩ (fun c53 => ?_) (fun c53 => ?_)
        · have c53 : (z49 : Int) ≠ z52 := c53
          refine yG.num (c := 0) rfl (fun _ _ => rfl) (by decide) ?_
          refine yG.ret rfl (fun _ _ => rfl) ?_
          exact (yP.bool (by omega) ⟨⟨0, rfl, by omega, by omega, trivial⟩, rfl⟩)
        · have c53 : (z49 : Int) = z52 := c53
          refine yG.num (c := 1) rfl (fun _ _ => rfl) (by decide) ?_
          refine yG.goto rfl (t := 204) rfl ?_
          refine yG.ret rfl (fun _ _ => rfl) ?_
          exact (yP.bool (by omega) ⟨⟨1, rfl, by omega, by omega, trivial⟩, rfl⟩)
      · skip
        refine yG.invS (rest := [yR r36, yI (z49)]) rfl rfl rfl rfl (c_Rules_meant_n W (d + 1) A_hp.1 H_r37 (z2) (p3) (by omega) (by omega) (by omega) (by omega)) (fun rv hp9 q9 => ?_)
        obtain ⟨⟨z54, rfl, l_z54, u_z54, R_z54⟩, e9⟩ := q9
        rw [e9]
        show yG _ _ _ _ _ _ _ _ _ _ (yI z54 :: [yR r36, yI (z49)]) _
        refine yG.ialdF A_hp.1 (v_Shape_node W H_r36) rfl rfl (by omega) (by omega) (fun z55 e_z55 i_z55 l_z55 u_z55 => ?_)
        refine yG.icmp rfl (t := 203) rfl ⟨by omega, by omega⟩ ⟨by omega, by omega⟩ (fun c56 => ?_) (fun c56 => ?_)
        · have c56 : (z49 : Int) ≠ z55 := c56
          refine yG.num (c := 0) rfl (fun _ _ => rfl) (by decide) ?_
          refine yG.ret rfl (fun _ _ => rfl) ?_
          exact (yP.bool (by omega) ⟨⟨0, rfl, by omega, by omega, trivial⟩, rfl⟩)
        · have c56 : (z49 : Int) = z55 := c56
          refine yG.num (c := 1) rfl (fun _ _ => rfl) (by decide) ?_
          refine yG.goto rfl (t := 204) rfl ?_
          refine yG.ret rfl (fun _ _ => rfl) ?_
          exact (yP.bool (by omega) ⟨⟨1, rfl, by omega, by omega, trivial⟩, rfl⟩)
  · skip
    refine yG.tswC (i := 5) (t := 205) rfl ⟨by omega, by omega⟩ (by omega) (by omega) rfl rfl ?_
    refine yG.load xak rfl (fun _ _ => rfl) (v := yR k4) rfl rfl ?_
    refine yG.getI A_hp.1 (w_FlowS_lost W H_k4) rfl rfl (fun z57 e_z57 i_z57 l_z57 u_z57 => ?_)
    refine yG.load xik rfl (fun _ _ => rfl) (v := yI (z2)) rfl rfl ?_
    refine yG.invS (rest := []) rfl rfl rfl rfl (c_J6_compareI W (d + 1) A_hp.1 (z57) (z2) (by omega) (by omega) (by omega) (by omega)) (fun rv hp9 q9 => ?_)
    obtain ⟨⟨z58, rfl, l_z58, u_z58, R_z58⟩, e9⟩ := q9
    rw [e9]
    show yG _ _ _ _ _ _ _ _ _ _ (yI z58 :: []) _
    refine yG.load xik rfl (fun _ _ => rfl) (v := yI (z1)) rfl rfl ?_
    refine yG.icmp rfl (t := 224) rfl ⟨by omega, by omega⟩ ⟨by omega, by omega⟩ (fun c59 => ?_) (fun c59 => ?_)
    · have c59 : (z58 : Int) ≠ z1 := c59
      refine yG.num (c := 0) rfl (fun _ _ => rfl) (by decide) ?_
      refine yG.ret rfl (fun _ _ => rfl) ?_
      exact (yP.bool (by omega) ⟨⟨0, rfl, by omega, by omega, trivial⟩, rfl⟩)
    · have c59 : (z58 : Int) = z1 := c59
      refine yG.num (c := 1) rfl (fun _ _ => rfl) (by decide) ?_
      refine yG.goto rfl (t := 225) rfl ?_
      refine yG.ret rfl (fun _ _ => rfl) ?_
      exact (yP.bool (by omega) ⟨⟨1, rfl, by omega, by omega, trivial⟩, rfl⟩)
  · skip
    refine yG.tswC (i := 6) (t := 226) rfl ⟨by omega, by omega⟩ (by omega) (by omega) rfl rfl ?_
    refine yG.load xak rfl (fun _ _ => rfl) (v := yR k4) rfl rfl ?_
    refine yG.getI A_hp.1 (w_FlowS_stuckCount W H_k4) rfl rfl (fun z60 e_z60 i_z60 l_z60 u_z60 => ?_)
    refine yG.ifz rfl (t := 239) rfl ⟨by omega, by omega⟩ (fun c61 => ?_) (fun c61 => ?_)
    · have c61 : (z60 : Int) ≤ 0 := c61
      refine yG.load xak rfl (fun _ _ => rfl) (v := yR k4) rfl rfl ?_
      refine yG.getI A_hp.1 (w_FlowS_overs W H_k4) rfl rfl (fun z62 e_z62 i_z62 l_z62 u_z62 => ?_)
      refine yG.load xik rfl (fun _ _ => rfl) (v := yI (z2)) rfl rfl ?_
      refine yG.invS (rest := []) rfl rfl rfl rfl (c_J6_compareI W (d + 1) A_hp.1 (z62) (z2) (by omega) (by omega) (by omega) (by omega)) (fun rv hp9 q9 => ?_)
      obtain ⟨⟨z63, rfl, l_z63, u_z63, R_z63⟩, e9⟩ := q9
      rw [e9]
      show yG _ _ _ _ _ _ _ _ _ _ (yI z63 :: []) _
      refine yG.load xik rfl (fun _ _ => rfl) (v := yI (z1)) rfl rfl ?_
      refine yG.icmp rfl (t := 258) rfl ⟨by omega, by omega⟩ ⟨by omega, by omega⟩ (fun c64 => ?_) (fun c64 => ?_)
      · have c64 : (z63 : Int) ≠ z1 := c64
        refine yG.num (c := 0) rfl (fun _ _ => rfl) (by decide) ?_
        refine yG.ret rfl (fun _ _ => rfl) ?_
        exact (yP.bool (by omega) ⟨⟨0, rfl, by omega, by omega, trivial⟩, rfl⟩)
      · have c64 : (z63 : Int) = z1 := c64
        refine yG.num (c := 1) rfl (fun _ _ => rfl) (by decide) ?_
        refine yG.goto rfl (t := 259) rfl ?_
        refine yG.ret rfl (fun _ _ => rfl) ?_
        exact (yP.bool (by omega) ⟨⟨1, rfl, by omega, by omega, trivial⟩, rfl⟩)
    · have c61 : (z60 : Int) > 0 := c61
      refine yG.num (c := 100) rfl (fun _ _ => rfl) (by decide) ?_
      refine yG.goto rfl (t := 244) rfl ?_
      refine yG.load xik rfl (fun _ _ => rfl) (v := yI (z2)) rfl rfl ?_
      refine yG.invS (rest := []) rfl rfl rfl rfl (c_J6_compareI W (d + 1) A_hp.1 (100) (z2) (by omega) (by omega) (by omega) (by omega)) (fun rv hp9 q9 => ?_)
      obtain ⟨⟨z65, rfl, l_z65, u_z65, R_z65⟩, e9⟩ := q9
      rw [e9]
      show yG _ _ _ _ _ _ _ _ _ _ (yI z65 :: []) _
      refine yG.load xik rfl (fun _ _ => rfl) (v := yI (z1)) rfl rfl ?_
      refine yG.icmp rfl (t := 258) rfl ⟨by omega, by omega⟩ ⟨by omega, by omega⟩ (fun c66 => ?_) (fun c66 => ?_)
      · have c66 : (z65 : Int) ≠ z1 := c66
        refine yG.num (c := 0) rfl (fun _ _ => rfl) (by decide) ?_
        refine yG.ret rfl (fun _ _ => rfl) ?_
        exact (yP.bool (by omega) ⟨⟨0, rfl, by omega, by omega, trivial⟩, rfl⟩)
      · have c66 : (z65 : Int) = z1 := c66
        refine yG.num (c := 1) rfl (fun _ _ => rfl) (by decide) ?_
        refine yG.goto rfl (t := 259) rfl ?_
        refine yG.ret rfl (fun _ _ => rfl) ?_
        exact (yP.bool (by omega) ⟨⟨1, rfl, by omega, by omega, trivial⟩, rfl⟩)
theorem c_Rules_isSo_b {hp : xH} (W : bW G) (d : Nat) (hT : zTy G hp) {k0 : Nat} (H_k0 : bRo G 107 k0) {k4 : Nat} (H_k4 : bRo G 115 k4) {n1 : Nat} (H_n1 : bRo G 108 n1) (Q_n1 : zsl hp k0 1 = yR n1) (p1 p2 p3 : Int) (h1l : 0 ≤ p1) (h1u : p1 ≤ 2045) (h2l : 0 ≤ p2) (h2u : p2 ≤ 7) (h3l : 0 ≤ p3) (h3u : p3 ≤ 15) (g90 : bGd 2 p2 (ys hp n1 (p1 + 1 : Int).toNat) (ys hp n1 (p1 + 2 : Int).toNat)) : yC (xcall 89 xfts xpools xms (d + 3)) 196 [yR k0, yI (p1), yI (p2), yI (p3), yR k4] hp (bQpi hp 0 1 (fun _ => True)) := by
  have A_hp : bAx G [] hp hp := bAx.rf hT
  refine yC.of (M := (xt_X7_isSo, (8, (4, (8, []))))) rfl rfl (N := 123) (yfuel (by decide)) ?_
  show yG 89 xfts (xcall 89 xfts xpools xms (d + 2)) (xpool xp_RX7) [] xt_X7_isSo (yP 4 (bQpi hp 0 1 (fun _ => True))) 123 0 [(0, yR k0), (1, yI (p1)), (2, yI (p2)), (3, yI (p3)), (4, yR k4)] [] hp
  refine yG.load xak rfl (fun _ _ => rfl) (v := yR k0) rfl rfl ?_
  refine yG.getS9 A_hp.1 (w_Rules_code W H_k0) Q_n1 rfl rfl ?_
  refine yG.load xik rfl (fun _ _ => rfl) (v := yI (p1)) rfl rfl ?_
  refine yG.num (c := 1) rfl (fun _ _ => rfl) (by decide) ?_
  refine yG.iadd rfl ?_
  refine yG.iald A_hp.1 (v_Rules_code W H_n1) rfl (by omega) (by omega) (fun z1 e_z1 i_z1 l_z1 u_z1 => ?_)
  refine yG.store1 xik (L' := [(5, yI (z1)), (0, yR k0), (1, yI (p1)), (2, yI (p2)), (3, yI (p3)), (4, yR k4)]) rfl (fun _ _ => rfl) rfl rfl ?_
  refine yG.load xak rfl (fun _ _ => rfl) (v := yR k0) rfl rfl ?_
  refine yG.getS9 A_hp.1 (w_Rules_code W H_k0) Q_n1 rfl rfl ?_
  refine yG.load xik rfl (fun _ _ => rfl) (v := yI (p1)) rfl rfl ?_
  refine yG.num (c := 2) rfl (fun _ _ => rfl) (by decide) ?_
  refine yG.iadd rfl ?_
  refine yG.iald A_hp.1 (v_Rules_code W H_n1) rfl (by omega) (by omega) (fun z2 e_z2 i_z2 l_z2 u_z2 => ?_)
  refine yG.store1 xik (L' := [(6, yI (z2)), (5, yI (z1)), (0, yR k0), (1, yI (p1)), (2, yI (p2)), (3, yI (p3)), (4, yR k4)]) rfl (fun _ _ => rfl) rfl rfl ?_
  refine yG.load xak rfl (fun _ _ => rfl) (v := yR k4) rfl rfl ?_
  refine yG.getO A_hp.1 (w_FlowS_shape W H_k4) rfl rfl (fun r3 H_r3 O_r3 q_r3 => ?_)
  refine yG.store1 xak (L' := [(7, yR r3), (6, yI (z2)), (5, yI (z1)), (0, yR k0), (1, yI (p1)), (2, yI (p2)), (3, yI (p3)), (4, yR k4)]) rfl (fun _ _ => rfl) rfl rfl ?_
  obtain ⟨g1, g2, g3⟩ := g90
  unfold bOs9 at g1
  unfold bOb9 at g2 g3
  refine yG.load xik rfl (fun _ _ => rfl) (v := yI (p2)) rfl rfl ?_
  rcases (show (p2 < (0 : Int) ∨ (6 : Int) < p2) ∨ p2 = (0 : Int) ∨ p2 = (1 : Int) ∨ p2 = (2 : Int) ∨ p2 = (3 : Int) ∨ p2 = (4 : Int) ∨ p2 = (5 : Int) ∨ p2 = (6 : Int) by omega) with c4 | c4 | c4 | c4 | c4 | c4 | c4 | c4
  · skip
    refine yG.tswD (t := 260) rfl ⟨by omega, by omega⟩ c4 rfl ?_
    refine yG.load xak rfl (fun _ _ => rfl) (v := yR r3) rfl rfl ?_
    refine yG.invV (rest := []) A_hp.1 (bOb (d_Shape W) H_r3) rfl rfl rfl rfl (c_Shape_loops W d A_hp.1 H_r3) (fun rv hp9 q9 => ?_)
    obtain ⟨⟨z5, rfl, l_z5, u_z5, R_z5⟩, e9⟩ := q9
    rw [e9]
    show yG _ _ _ _ _ _ _ _ _ _ (yI z5 :: []) _
    refine yG.load xik rfl (fun _ _ => rfl) (v := yI (z2)) rfl rfl ?_
    refine yG.invS (rest := []) rfl rfl rfl rfl (c_J6_compareI W (d + 1) A_hp.1 (z5) (z2) (by omega) (by omega) (by omega) (by omega)) (fun rv hp9 q9 => ?_)
    obtain ⟨⟨z6, rfl, l_z6, u_z6, R_z6⟩, e9⟩ := q9
    rw [e9]
    show yG _ _ _ _ _ _ _ _ _ _ (yI z6 :: []) _
    refine yG.load xik rfl (fun _ _ => rfl) (v := yI (z1)) rfl rfl ?_
    refine yG.icmp rfl (t := 279) rfl ⟨by omega, by omega⟩ ⟨by omega, by omega⟩ (fun c7 => ?_) (fun c7 => ?_)
    · have c7 : (z6 : Int) ≠ z1 := c7
      refine yG.num (c := 0) rfl (fun _ _ => rfl) (by decide) ?_
      refine yG.ret rfl (fun _ _ => rfl) ?_
      exact (yP.bool (by omega) ⟨⟨0, rfl, by omega, by omega, trivial⟩, rfl⟩)
    · have c7 : (z6 : Int) = z1 := c7
      refine yG.num (c := 1) rfl (fun _ _ => rfl) (by decide) ?_
      refine yG.goto rfl (t := 280) rfl ?_
      refine yG.ret rfl (fun _ _ => rfl) ?_
      exact (yP.bool (by omega) ⟨⟨1, rfl, by omega, by omega, trivial⟩, rfl⟩)
  · skip
    refine yG.tswC (i := 0) (t := 72) rfl ⟨by omega, by omega⟩ (by omega) (by omega) rfl rfl ?_
    refine yG.load xak rfl (fun _ _ => rfl) (v := yR r3) rfl rfl ?_
    refine yG.getO A_hp.1 (w_Shape_net W H_r3) rfl rfl (fun r8 H_r8 O_r8 q_r8 => ?_)
    refine yG.num (c := 1) rfl (fun _ _ => rfl) (by decide) ?_
    refine yG.load xik rfl (fun _ _ => rfl) (v := yI (z1)) rfl rfl ?_
    refine yG.load xik rfl (fun _ _ => rfl) (v := yI (p3)) rfl rfl ?_
    refine yG.load xak rfl (fun _ _ => rfl) (v := yR r3) rfl rfl ?_
    refine yG.getS9 A_hp.1 (w_Shape_net W H_r3) q_r8 rfl rfl ?_
    rcases (show z1 ≤ (-1) ∨ 0 ≤ z1 by omega) with d9 | d9
    · skip
      refine yG.invS (rest := [yI (1), yR r8]) rfl rfl rfl rfl (c_Rules_meant_n W (d + 1) A_hp.1 H_r8 (z1) (p3) (by omega) (by omega) (by omega) (by omega)) (fun rv hp9 q9 => ?_)
      obtain ⟨⟨z10, rfl, l_z10, u_z10, R_z10⟩, e9⟩ := q9
      rw [e9]
      show yG _ _ _ _ _ _ _ _ _ _ (yI z10 :: [yI (1), yR r8]) _
      refine yG.num (c := 0) rfl (fun _ _ => rfl) (by decide) ?_
      refine yG.invV (rest := []) A_hp.1 (bOb (d_Net W) H_r8) rfl rfl rfl rfl (c_Net_is_1 W (d + 1) A_hp.1 H_r8 (z10) (0) (by omega) (by omega) (by omega) (by omega)) (fun rv hp9 q9 => ?_)
      obtain ⟨⟨z11, rfl, l_z11, u_z11, R_z11⟩, e9⟩ := q9
      rw [e9]
      show yG _ _ _ _ _ _ _ _ _ _ (yI z11 :: []) _
      refine yG.ret rfl (fun _ _ => rfl) ?_
      exact (yP.bool (by omega) ⟨⟨z11, rfl, by omega, by omega, trivial⟩, rfl⟩)
    · skip
      refine yG.invS (rest := [yI (1), yR r8]) rfl rfl rfl rfl (c_Rules_meant_n W (d + 1) A_hp.1 H_r8 (z1) (p3) (by omega) (by omega) (by omega) (by omega)) (fun rv hp9 q9 => ?_)
      obtain ⟨⟨z12, rfl, l_z12, u_z12, R_z12⟩, e9⟩ := q9
      rw [e9]
      show yG _ _ _ _ _ _ _ _ _ _ (yI z12 :: [yI (1), yR r8]) _
      refine yG.num (c := 0) rfl (fun _ _ => rfl) (by decide) ?_
      refine yG.invV (rest := []) A_hp.1 (bOb (d_Net W) H_r8) rfl rfl rfl rfl (c_Net_is_1 W (d + 1) A_hp.1 H_r8 (z12) (0) (by omega) (by omega) (by omega) (by omega)) (fun rv hp9 q9 => ?_)
      obtain ⟨⟨z13, rfl, l_z13, u_z13, R_z13⟩, e9⟩ := q9
      rw [e9]
      show yG _ _ _ _ _ _ _ _ _ _ (yI z13 :: []) _
      refine yG.ret rfl (fun _ _ => rfl) ?_
      exact (yP.bool (by omega) ⟨⟨z13, rfl, by omega, by omega, trivial⟩, rfl⟩)
  · skip
    refine yG.tswC (i := 1) (t := 94) rfl ⟨by omega, by omega⟩ (by omega) (by omega) rfl rfl ?_
    refine yG.load xak rfl (fun _ _ => rfl) (v := yR r3) rfl rfl ?_
    refine yG.getO A_hp.1 (w_Shape_net W H_r3) rfl rfl (fun r14 H_r14 O_r14 q_r14 => ?_)
    refine yG.num (c := 1) rfl (fun _ _ => rfl) (by decide) ?_
    refine yG.load xik rfl (fun _ _ => rfl) (v := yI (z1)) rfl rfl ?_
    refine yG.load xik rfl (fun _ _ => rfl) (v := yI (p3)) rfl rfl ?_
    refine yG.load xak rfl (fun _ _ => rfl) (v := yR r3) rfl rfl ?_
    refine yG.getS9 A_hp.1 (w_Shape_net W H_r3) q_r14 rfl rfl ?_
    rcases (show z1 ≤ (-1) ∨ 0 ≤ z1 by omega) with d15 | d15
    · skip
      refine yG.invS (rest := [yI (1), yR r14]) rfl rfl rfl rfl (c_Rules_meant_n W (d + 1) A_hp.1 H_r14 (z1) (p3) (by omega) (by omega) (by omega) (by omega)) (fun rv hp9 q9 => ?_)
      obtain ⟨⟨z16, rfl, l_z16, u_z16, R_z16⟩, e9⟩ := q9
      rw [e9]
      show yG _ _ _ _ _ _ _ _ _ _ (yI z16 :: [yI (1), yR r14]) _
      refine yG.num (c := 2) rfl (fun _ _ => rfl) (by decide) ?_
      refine yG.invV (rest := []) A_hp.1 (bOb (d_Net W) H_r14) rfl rfl rfl rfl (c_Net_is_1 W (d + 1) A_hp.1 H_r14 (z16) (2) (by omega) (by omega) (by omega) (by omega)) (fun rv hp9 q9 => ?_)
      obtain ⟨⟨z17, rfl, l_z17, u_z17, R_z17⟩, e9⟩ := q9
      rw [e9]
      show yG _ _ _ _ _ _ _ _ _ _ (yI z17 :: []) _
      refine yG.ret rfl (fun _ _ => rfl) ?_
      exact (yP.bool (by omega) ⟨⟨z17, rfl, by omega, by omega, trivial⟩, rfl⟩)
    · skip
      refine yG.invS (rest := [yI (1), yR r14]) rfl rfl rfl rfl (c_Rules_meant_n W (d + 1) A_hp.1 H_r14 (z1) (p3) (by omega) (by omega) (by omega) (by omega)) (fun rv hp9 q9 => ?_)
      obtain ⟨⟨z18, rfl, l_z18, u_z18, R_z18⟩, e9⟩ := q9
      rw [e9]
      show yG _ _ _ _ _ _ _ _ _ _ (yI z18 :: [yI (1), yR r14]) _
      refine yG.num (c := 2) rfl (fun _ _ => rfl) (by decide) ?_
      refine yG.invV (rest := []) A_hp.1 (bOb (d_Net W) H_r14) rfl rfl rfl rfl (c_Net_is_1 W (d + 1) A_hp.1 H_r14 (z18) (2) (by omega) (by omega) (by omega) (by omega)) (fun rv hp9 q9 => ?_)
      obtain ⟨⟨z19, rfl, l_z19, u_z19, R_z19⟩, e9⟩ := q9
      rw [e9]
      show yG _ _ _ _ _ _ _ _ _ _ (yI z19 :: []) _
      refine yG.ret rfl (fun _ _ => rfl) ?_
      exact (yP.bool (by omega) ⟨⟨z19, rfl, by omega, by omega, trivial⟩, rfl⟩)
  · skip
    refine yG.tswC (i := 2) (t := 116) rfl ⟨by omega, by omega⟩ (by omega) (by omega) rfl rfl ?_
    refine yG.load xak rfl (fun _ _ => rfl) (v := yR r3) rfl rfl ?_
    refine yG.getO A_hp.1 (w_Shape_live W H_r3) rfl rfl (fun r20 H_r20 O_r20 q_r20 => ?_)
    refine yG.load xak rfl (fun _ _ => rfl) (v := yR r3) rfl rfl ?_
    refine yG.getO A_hp.1 (w_Shape_island W H_r3) rfl rfl (fun r21 H_r21 O_r21 q_r21 => ?_)
    refine yG.load xik rfl (fun _ _ => rfl) (v := yI (z1)) rfl rfl ?_
    refine yG.load xik rfl (fun _ _ => rfl) (v := yI (p3)) rfl rfl ?_
    refine yG.load xak rfl (fun _ _ => rfl) (v := yR r3) rfl rfl ?_
    refine yG.getO A_hp.1 (w_Shape_net W H_r3) rfl rfl (fun r22 H_r22 O_r22 q_r22 => ?_)
    rcases (show z1 ≤ (-1) ∨ 0 ≤ z1 by omega) with d23 | d23
    · skip
      refine yG.invS (rest := [yR r21, yR r20]) rfl rfl rfl rfl (c_Rules_meant_i W (d + 1) A_hp.1 H_r22 (z1) (p3) (by omega) (by omega) (by omega) (by omega)) (fun rv hp9 q9 => ?_)
      obtain ⟨⟨z24, rfl, l_z24, u_z24, R_z24⟩, e9⟩ := q9
      rw [e9]
      show yG _ _ _ _ _ _ _ _ _ _ (yI z24 :: [yR r21, yR r20]) _
      refine yG.ialdF A_hp.1 (v_Shape_island W H_r21) rfl rfl (by omega) (by omega) (fun z25 e_z25 i_z25 l_z25 u_z25 => ?_)
      refine yG.bald A_hp.1 (v_Shape_live W H_r20) rfl (by omega) (by omega) (fun z26 e_z26 i_z26 l_z26 u_z26 => ?_)
      refine yG.ret rfl (fun _ _ => rfl) ?_
      exact (yP.bool (by omega) ⟨⟨z26, rfl, by omega, by omega, trivial⟩, rfl⟩)
    · skip
      refine yG.invS (rest := [yR r21, yR r20]) rfl rfl rfl rfl (c_Rules_meant_n W (d + 1) A_hp.1 H_r22 (z1) (p3) (by omega) (by omega) (by omega) (by omega)) (fun rv hp9 q9 => ?_)
      obtain ⟨⟨z27, rfl, l_z27, u_z27, R_z27⟩, e9⟩ := q9
      rw [e9]
      show yG _ _ _ _ _ _ _ _ _ _ (yI z27 :: [yR r21, yR r20]) _
      refine yG.ialdF A_hp.1 (v_Shape_island W H_r21) rfl rfl (by omega) (by omega) (fun z28 e_z28 i_z28 l_z28 u_z28 => ?_)
      refine yG.bald A_hp.1 (v_Shape_live W H_r20) rfl (by omega) (by omega) (fun z29 e_z29 i_z29 l_z29 u_z29 => ?_)
      refine yG.ret rfl (fun _ _ => rfl) ?_
      exact (yP.bool (by omega) ⟨⟨z29, rfl, by omega, by omega, trivial⟩, rfl⟩)
  · skip
    refine yG.tswC (i := 3) (t := 140) rfl ⟨by omega, by omega⟩ (by omega) (by omega) rfl rfl ?_
    refine yG.load xak rfl (fun _ _ => rfl) (v := yR r3) rfl rfl ?_
    refine yG.getO A_hp.1 (w_Shape_net W H_r3) rfl rfl (fun r30 H_r30 O_r30 q_r30 => ?_)
    refine yG.num (c := 0) rfl (fun _ _ => rfl) (by decide) ?_
    refine yG.load xik rfl (fun _ _ => rfl) (v := yI (z1)) rfl rfl ?_
    refine yG.load xik rfl (fun _ _ => rfl) (v := yI (p3)) rfl rfl ?_
    refine yG.load xak rfl (fun _ _ => rfl) (v := yR r3) rfl rfl ?_
    refine yG.getS9 A_hp.1 (w_Shape_net W H_r3) q_r30 rfl rfl ?_
    rcases (show z1 ≤ (-1) ∨ 0 ≤ z1 by omega) with d31 | d31
    · skip
      refine yG.invS (rest := [yI (0), yR r30]) rfl rfl rfl rfl (c_Rules_meant_i W (d + 1) A_hp.1 H_r30 (z1) (p3) (by omega) (by omega) (by omega) (by omega)) (fun rv hp9 q9 => ?_)
      obtain ⟨⟨z32, rfl, l_z32, u_z32, R_z32⟩, e9⟩ := q9
      rw [e9]
      show yG _ _ _ _ _ _ _ _ _ _ (yI z32 :: [yI (0), yR r30]) _
      refine yG.num (c := 0) rfl (fun _ _ => rfl) (by decide) ?_
      refine yG.invV (rest := []) A_hp.1 (bOb (d_Net W) H_r30) rfl rfl rfl rfl (c_Net_is_0 W (d + 1) A_hp.1 H_r30 (z32) (0) (by omega) (by omega) (by omega) (by omega)) (fun rv hp9 q9 => ?_)
      obtain ⟨⟨z33, rfl, l_z33, u_z33, R_z33⟩, e9⟩ := q9
      rw [e9]
      show yG _ _ _ _ _ _ _ _ _ _ (yI z33 :: []) _
      refine yG.ret rfl (fun _ _ => rfl) ?_
      exact (yP.bool (by omega) ⟨⟨z33, rfl, by omega, by omega, trivial⟩, rfl⟩)
    · skip
      refine yG.invS (rest := [yI (0), yR r30]) rfl rfl rfl rfl (c_Rules_meant_n W (d + 1) A_hp.1 H_r30 (z1) (p3) (by omega) (by omega) (by omega) (by omega)) (fun rv hp9 q9 => ?_)
      obtain ⟨⟨z34, rfl, l_z34, u_z34, R_z34⟩, e9⟩ := q9
      rw [e9]
      show yG _ _ _ _ _ _ _ _ _ _ (yI z34 :: [yI (0), yR r30]) _
      refine yG.num (c := 0) rfl (fun _ _ => rfl) (by decide) ?_
      refine yG.invV (rest := []) A_hp.1 (bOb (d_Net W) H_r30) rfl rfl rfl rfl (c_Net_is_0 W (d + 1) A_hp.1 H_r30 (z34) (0) (by omega) (by omega) (by omega) (by omega)) (fun rv hp9 q9 => ?_)
      obtain ⟨⟨z35, rfl, l_z35, u_z35, R_z35⟩, e9⟩ := q9
      rw [e9]
      show yG _ _ _ _ _ _ _ _ _ _ (yI z35 :: []) _
      refine yG.ret rfl (fun _ _ => rfl) ?_
      exact (yP.bool (by omega) ⟨⟨z35, rfl, by omega, by omega, trivial⟩, rfl⟩)
  · skip
    refine yG.tswC (i := 4) (t := 162) rfl ⟨by omega, by omega⟩ (by omega) (by omega) rfl rfl ?_
    refine yG.load xak rfl (fun _ _ => rfl) (v := yR r3) rfl rfl ?_
    refine yG.getO A_hp.1 (w_Shape_node W H_r3) rfl rfl (fun r36 H_r36 O_r36 q_r36 => ?_)
    refine yG.load xik rfl (fun _ _ => rfl) (v := yI (z1)) rfl rfl ?_
    refine yG.load xik rfl (fun _ _ => rfl) (v := yI (p3)) rfl rfl ?_
    refine yG.load xak rfl (fun _ _ => rfl) (v := yR r3) rfl rfl ?_
    refine yG.getO A_hp.1 (w_Shape_net W H_r3) rfl rfl (fun r37 H_r37 O_r37 q_r37 => ?_)
    rcases (show z1 ≤ (-1) ∨ 0 ≤ z1 by omega) with d38 | d38
    · skip
      refine yG.invS (rest := [yR r36]) rfl rfl rfl rfl (c_Rules_meant_i W (d + 1) A_hp.1 H_r37 (z1) (p3) (by omega) (by omega) (by omega) (by omega)) (fun rv hp9 q9 => ?_)
      obtain ⟨⟨z39, rfl, l_z39, u_z39, R_z39⟩, e9⟩ := q9
      rw [e9]
      show yG _ _ _ _ _ _ _ _ _ _ (yI z39 :: [yR r36]) _
      refine yG.ialdF A_hp.1 (v_Shape_node W H_r36) rfl rfl (by omega) (by omega) (fun z40 e_z40 i_z40 l_z40 u_z40 => ?_)
      refine yG.load xak rfl (fun _ _ => rfl) (v := yR r3) rfl rfl ?_
      refine yG.getS9 A_hp.1 (w_Shape_node W H_r3) q_r36 rfl rfl ?_
      refine yG.load xik rfl (fun _ _ => rfl) (v := yI (z2)) rfl rfl ?_
      refine yG.load xik rfl (fun _ _ => rfl) (v := yI (p3)) rfl rfl ?_
      refine yG.load xak rfl (fun _ _ => rfl) (v := yR r3) rfl rfl ?_
      refine yG.getS9 A_hp.1 (w_Shape_net W H_r3) q_r37 rfl rfl ?_
      rcases (show z2 ≤ (-1) ∨ 0 ≤ z2 by omega) with d41 | d41
      · skip
        refine yG.invS (rest := [yR r36, yI (z40)]) rfl rfl rfl rfl (c_Rules_meant_i W (d + 1) A_hp.1 H_r37 (z2) (p3) (by omega) (by omega) (by omega) (by omega)) (fun rv hp9 q9 => ?_)
        obtain ⟨⟨z42, rfl, l_z42, u_z42, R_z42⟩, e9⟩ := q9
        rw [e9]
        show yG _ _ _ _ _ _ _ _ _ _ (yI z42 :: [yR r36, yI (z40)]) _
        refine yG.ialdF A_hp.1 (v_Shape_node W H_r36) rfl rfl (by omega) (by omega) (fun z43 e_z43 i_z43 l_z43 u_z43 => ?_)
        refine yG.icmp rfl (t := 203) rfl ⟨by omega, by omega⟩ ⟨by omega, by omega⟩ (fun c44 => ?_) (fun c44 => ?_)
        · have c44 : (z40 : Int) ≠ z43 := c44
          refine yG.num (c := 0) rfl (fun _ _ => rfl) (by decide) ?_
          refine yG.ret rfl (fun _ _ => rfl) ?_
          exact (yP.bool (by omega) ⟨⟨0, rfl, by omega, by omega, trivial⟩, rfl⟩)
        · have c44 : (z40 : Int) = z43 := c44
          refine yG.num (c := 1) rfl (fun _ _ => rfl) (by decide) ?_
          refine yG.goto rfl (t := 204) rfl ?_
          refine yG.ret rfl (fun _ _ => rfl) ?_
          exact (yP.bool (by omega) ⟨⟨1, rfl, by omega, by omega, trivial⟩, rfl⟩)
      · skip
        refine yG.invS (rest := [yR r36, yI (z40)]) rfl rfl rfl rfl (c_Rules_meant_n W (d + 1) A_hp.1 H_r37 (z2) (p3) (by omega) (by omega) (by omega) (by omega)) (fun rv hp9 q9 => ?_)
        obtain ⟨⟨z45, rfl, l_z45, u_z45, R_z45⟩, e9⟩ := q9
        rw [e9]
        show yG _ _ _ _ _ _ _ _ _ _ (yI z45 :: [yR r36, yI (z40)]) _
        refine yG.ialdF A_hp.1 (v_Shape_node W H_r36) rfl rfl (by omega) (by omega) (fun z46 e_z46 i_z46 l_z46 u_z46 => ?_)
        refine yG.icmp rfl (t := 203) rfl ⟨by omega, by omega⟩ ⟨by omega, by omega⟩ (fun c47 => ?_) (fun c47 => ?_)
        · have c47 : (z40 : Int) ≠ z46 := c47
          refine yG.num (c := 0) rfl (fun _ _ => rfl) (by decide) ?_
          refine yG.ret rfl (fun _ _ => rfl) ?_
          exact (yP.bool (by omega) ⟨⟨0, rfl, by omega, by omega, trivial⟩, rfl⟩)
        · have c47 : (z40 : Int) = z46 := c47
          refine yG.num (c := 1) rfl (fun _ _ => rfl) (by decide) ?_
          refine yG.goto rfl (t := 204) rfl ?_
          refine yG.ret rfl (fun _ _ => rfl) ?_
          exact (yP.bool (by omega) ⟨⟨1, rfl, by omega, by omega, trivial⟩, rfl⟩)
    · skip
      refine yG.invS (rest := [yR r36]) rfl rfl rfl rfl (c_Rules_meant_n W (d + 1) A_hp.1 H_r37 (z1) (p3) (by omega) (by omega) (by omega) (by omega)) (fun rv hp9 q9 => ?_)
      obtain ⟨⟨z48, rfl, l_z48, u_z48, R_z48⟩, e9⟩ := q9
      rw [e9]
      show yG _ _ _ _ _ _ _ _ _ _ (yI z48 :: [yR r36]) _
      refine yG.ialdF A_hp.1 (v_Shape_node W H_r36) rfl rfl (by omega) (by omega) (fun z49 e_z49 i_z49 l_z49 u_z49 => ?_)
      refine yG.load xak rfl (fun _ _ => rfl) (v := yR r3) rfl rfl ?_
      refine yG.getS9 A_hp.1 (w_Shape_node W H_r3) q_r36 rfl rfl ?_
      refine yG.load xik rfl (fun _ _ => rfl) (v := yI (z2)) rfl rfl ?_
      refine yG.load xik rfl (fun _ _ => rfl) (v := yI (p3)) rfl rfl ?_
      refine yG.load xak rfl (fun _ _ => rfl) (v := yR r3) rfl rfl ?_
      refine yG.getS9 A_hp.1 (w_Shape_net W H_r3) q_r37 rfl rfl ?_
      rcases (show z2 ≤ (-1) ∨ 0 ≤ z2 by omega) with d50 | d50
      · skip
        refine yG.invS (rest := [yR r36, yI (z49)]) rfl rfl rfl rfl (c_Rules_meant_i W (d + 1) A_hp.1 H_r37 (z2) (p3) (by omega) (by omega) (by omega) (by omega)) (fun rv hp9 q9 => ?_)
        obtain ⟨⟨z51, rfl, l_z51, u_z51, R_z51⟩, e9⟩ := q9
        rw [e9]
        show yG _ _ _ _ _ _ _ _ _ _ (yI z51 :: [yR r36, yI (z49)]) _
        refine yG.ialdF A_hp.1 (v_Shape_node W H_r36) rfl rfl (by omega) (by omega) (fun z52 e_z52 i_z52 l_z52 u_z52 => ?_)
        refine yG.icmp rfl (t := 203) rfl ⟨by omega, by omega⟩ ⟨by omega, by omega⟩ (fun c53 => ?_) (fun c53 => ?_)
        · have c53 : (z49 : Int) ≠ z52 := c53
          refine yG.num (c := 0) rfl (fun _ _ => rfl) (by decide) ?_
          refine yG.ret rfl (fun _ _ => rfl) ?_
          exact (yP.bool (by omega) ⟨⟨0, rfl, by omega, by omega, trivial⟩, rfl⟩)
        · have c53 : (z49 : Int) = z52 := c53
          refine yG.num (c := 1) rfl (fun _ _ => rfl) (by decide) ?_
          refine yG.goto rfl (t := 204) rfl ?_
          refine yG.ret rfl (fun _ _ => rfl) ?_
          exact (yP.bool (by omega) ⟨⟨1, rfl, by omega, by omega, trivial⟩, rfl⟩)
      · skip
        refine yG.invS (rest := [yR r36, yI (z49)]) rfl rfl rfl rfl (c_Rules_meant_n W (d + 1) A_hp.1 H_r37 (z2) (p3) (by omega) (by omega) (by omega) (by omega)) (fun rv hp9 q9 => ?_)
        obtain ⟨⟨z54, rfl, l_z54, u_z54, R_z54⟩, e9⟩ := q9
        rw [e9]
        show yG _ _ _ _ _ _ _ _ _ _ (yI z54 :: [yR r36, yI (z49)]) _
        refine yG.ialdF A_hp.1 (v_Shape_node W H_r36) rfl rfl (by omega) (by omega) (fun z55 e_z55 i_z55 l_z55 u_z55 => ?_)
        refine yG.icmp rfl (t := 203) rfl ⟨by omega, by omega⟩ ⟨by omega, by omega⟩ (fun c56 => ?_) (fun c56 => ?_)
        · have c56 : (z49 : Int) ≠ z55 := c56
          refine yG.num (c := 0) rfl (fun _ _ => rfl) (by decide) ?_
          refine yG.ret rfl (fun _ _ => rfl) ?_
          exact (yP.bool (by omega) ⟨⟨0, rfl, by omega, by omega, trivial⟩, rfl⟩)
        · have c56 : (z49 : Int) = z55 := c56
          refine yG.num (c := 1) rfl (fun _ _ => rfl) (by decide) ?_
          refine yG.goto rfl (t := 204) rfl ?_
          refine yG.ret rfl (fun _ _ => rfl) ?_
          exact (yP.bool (by omega) ⟨⟨1, rfl, by omega, by omega, trivial⟩, rfl⟩)
  · skip
    refine yG.tswC (i := 5) (t := 205) rfl ⟨by omega, by omega⟩ (by omega) (by omega) rfl rfl ?_
    refine yG.load xak rfl (fun _ _ => rfl) (v := yR k4) rfl rfl ?_
    refine yG.getI A_hp.1 (w_FlowS_lost W H_k4) rfl rfl (fun z57 e_z57 i_z57 l_z57 u_z57 => ?_)
    refine yG.load xik rfl (fun _ _ => rfl) (v := yI (z2)) rfl rfl ?_
    refine yG.invS (rest := []) rfl rfl rfl rfl (c_J6_compareI W (d + 1) A_hp.1 (z57) (z2) (by omega) (by omega) (by omega) (by omega)) (fun rv hp9 q9 => ?_)
    obtain ⟨⟨z58, rfl, l_z58, u_z58, R_z58⟩, e9⟩ := q9
    rw [e9]
    show yG _ _ _ _ _ _ _ _ _ _ (yI z58 :: []) _
    refine yG.load xik rfl (fun _ _ => rfl) (v := yI (z1)) rfl rfl ?_
    refine yG.icmp rfl (t := 224) rfl ⟨by omega, by omega⟩ ⟨by omega, by omega⟩ (fun c59 => ?_) (fun c59 => ?_)
    · have c59 : (z58 : Int) ≠ z1 := c59
      refine yG.num (c := 0) rfl (fun _ _ => rfl) (by decide) ?_
      refine yG.ret rfl (fun _ _ => rfl) ?_
      exact (yP.bool (by omega) ⟨⟨0, rfl, by omega, by omega, trivial⟩, rfl⟩)
    · have c59 : (z58 : Int) = z1 := c59
      refine yG.num (c := 1) rfl (fun _ _ => rfl) (by decide) ?_
      refine yG.goto rfl (t := 225) rfl ?_
      refine yG.ret rfl (fun _ _ => rfl) ?_
      exact (yP.bool (by omega) ⟨⟨1, rfl, by omega, by omega, trivial⟩, rfl⟩)
  · skip
    refine yG.tswC (i := 6) (t := 226) rfl ⟨by omega, by omega⟩ (by omega) (by omega) rfl rfl ?_
    refine yG.load xak rfl (fun _ _ => rfl) (v := yR k4) rfl rfl ?_
    refine yG.getI A_hp.1 (w_FlowS_stuckCount W H_k4) rfl rfl (fun z60 e_z60 i_z60 l_z60 u_z60 => ?_)
    refine yG.ifz rfl (t := 239) rfl ⟨by omega, by omega⟩ (fun c61 => ?_) (fun c61 => ?_)
    · have c61 : (z60 : Int) ≤ 0 := c61
      refine yG.load xak rfl (fun _ _ => rfl) (v := yR k4) rfl rfl ?_
      refine yG.getI A_hp.1 (w_FlowS_overs W H_k4) rfl rfl (fun z62 e_z62 i_z62 l_z62 u_z62 => ?_)
      refine yG.load xik rfl (fun _ _ => rfl) (v := yI (z2)) rfl rfl ?_
      refine yG.invS (rest := []) rfl rfl rfl rfl (c_J6_compareI W (d + 1) A_hp.1 (z62) (z2) (by omega) (by omega) (by omega) (by omega)) (fun rv hp9 q9 => ?_)
      obtain ⟨⟨z63, rfl, l_z63, u_z63, R_z63⟩, e9⟩ := q9
      rw [e9]
      show yG _ _ _ _ _ _ _ _ _ _ (yI z63 :: []) _
      refine yG.load xik rfl (fun _ _ => rfl) (v := yI (z1)) rfl rfl ?_
      refine yG.icmp rfl (t := 258) rfl ⟨by omega, by omega⟩ ⟨by omega, by omega⟩ (fun c64 => ?_) (fun c64 => ?_)
      · have c64 : (z63 : Int) ≠ z1 := c64
        refine yG.num (c := 0) rfl (fun _ _ => rfl) (by decide) ?_
        refine yG.ret rfl (fun _ _ => rfl) ?_
        exact (yP.bool (by omega) ⟨⟨0, rfl, by omega, by omega, trivial⟩, rfl⟩)
      · have c64 : (z63 : Int) = z1 := c64
        refine yG.num (c := 1) rfl (fun _ _ => rfl) (by decide) ?_
        refine yG.goto rfl (t := 259) rfl ?_
        refine yG.ret rfl (fun _ _ => rfl) ?_
        exact (yP.bool (by omega) ⟨⟨1, rfl, by omega, by omega, trivial⟩, rfl⟩)
    · have c61 : (z60 : Int) > 0 := c61
      refine yG.num (c := 100) rfl (fun _ _ => rfl) (by decide) ?_
      refine yG.goto rfl (t := 244) rfl ?_
      refine yG.load xik rfl (fun _ _ => rfl) (v := yI (z2)) rfl rfl ?_
      refine yG.invS (rest := []) rfl rfl rfl rfl (c_J6_compareI W (d + 1) A_hp.1 (100) (z2) (by omega) (by omega) (by omega) (by omega)) (fun rv hp9 q9 => ?_)
      obtain ⟨⟨z65, rfl, l_z65, u_z65, R_z65⟩, e9⟩ := q9
      rw [e9]
      show yG _ _ _ _ _ _ _ _ _ _ (yI z65 :: []) _
      refine yG.load xik rfl (fun _ _ => rfl) (v := yI (z1)) rfl rfl ?_
      refine yG.icmp rfl (t := 258) rfl ⟨by omega, by omega⟩ ⟨by omega, by omega⟩ (fun c66 => ?_) (fun c66 => ?_)
      · have c66 : (z65 : Int) ≠ z1 := c66
        refine yG.num (c := 0) rfl (fun _ _ => rfl) (by decide) ?_
        refine yG.ret rfl (fun _ _ => rfl) ?_
        exact (yP.bool (by omega) ⟨⟨0, rfl, by omega, by omega, trivial⟩, rfl⟩)
      · have c66 : (z65 : Int) = z1 := c66
        refine yG.num (c := 1) rfl (fun _ _ => rfl) (by decide) ?_
        refine yG.goto rfl (t := 259) rfl ?_
        refine yG.ret rfl (fun _ _ => rfl) ?_
        exact (yP.bool (by omega) ⟨⟨1, rfl, by omega, by omega, trivial⟩, rfl⟩)
theorem c_Rules_holds_s {hp : xH} (W : bW G) (d : Nat) (hT : zTy G hp) {k0 : Nat} (H_k0 : bRo G 107 k0) {k4 : Nat} (H_k4 : bRo G 115 k4) {k5 : Nat} (H_k5 : bRo G 115 k5) {n1 : Nat} (H_n1 : bRo G 108 n1) (Q_n1 : zsl hp k0 1 = yR n1) (p1 p2 p3 : Int) (h1l : 0 ≤ p1) (h1u : p1 ≤ 2048) (h2l : (-2147483648) ≤ p2) (h2u : p2 ≤ 2147483647) (h3l : 0 ≤ p3) (h3u : p3 ≤ 23) (g90 : bSf (ys hp n1) 0 p2 2048 (p1 : Int).toNat) : yC (xcall 89 xfts xpools xms (d + 4)) 193 [yR k0, yI (p1), yI (p2), yI (p3), yR k4, yR k5] hp (bQpi hp 0 1 (fun _ => True)) := by
  have A_hp : bAx G [] hp hp := bAx.rf hT
  have H : ∀ m : Nat, (∀ a6 : Int, ∀ a8 : Int, (-9223372036854775808) ≤ a6 → (-9223372036854775807) ≤ 0 - a6 → 0 ≤ a8 → (-2050) ≤ 0 - a8 → 0 ≤ p1 → (-2048) ≤ 0 - p1 → (-2147483648) ≤ p2 → (-2147483647) ≤ 0 - p2 → 0 ≤ p3 → (-23) ≤ 0 - p3 → (-9223372036854775806) ≤ 0 - a6 + a8 → (-9223372036854777855) ≤ a6 - p1 → (-9223372036854775806) ≤ 0 - a6 + p2 → 0 ≤ a8 - p1 → (-2147485696) ≤ 0 - a8 + p2 → (∃ f : Nat, 2048 ≤ (f : Int) + a8 ∧ bSf (ys hp n1) 0 p2 f (a8 : Int).toNat) → 0 - 2 * a8 + 4101 < (m : Int) → yG 89 xfts (xcall 89 xfts xpools xms (d + 3)) (xpool xp_RX7) [] xt_X7_holds (yP 4 (bQpi hp 0 1 (fun _ => True))) (65 * m) 6 [(0, yR k0), (2, yI (p2)), (3, yI (p3)), (4, yR k4), (5, yR k5), (6, yJ (a6)), (8, yI (a8))] [] hp) := by
    intro m
    induction m with
    | zero =>
      intros; exfalso; omega
    | succ m ih =>
      have i_6 := ih
      clear ih
      intro a6 a8 f0 f1 f2 f3 f4 f5 f6 f7 f8 f9 f10 f11 f12 f13 f14 X_6 hm
      refine yG.mono (N := 65 * m + 65) ?_ (by omega)
      refine yG.load xik rfl (fun _ _ => rfl) (v := yI (a8)) rfl rfl ?_
      refine yG.load xik rfl (fun _ _ => rfl) (v := yI (p2)) rfl rfl ?_
      refine yG.icmp rfl (t := 218) rfl ⟨by omega, by omega⟩ ⟨by omega, by omega⟩ (fun c1 => ?_) (fun c1 => ?_)
      · have c1 : (a8 : Int) ≥ p2 := c1
        refine yG.load xlk2 rfl (fun _ _ => rfl) (v := yJ (a6)) rfl rfl ?_
        refine yG.numl (c := 1) rfl (fun _ _ => rfl) (by decide) ?_
        refine yG.bit64 rfl (fun _ _ => rfl) (fun z2 e_z2 l_z2 u_z2 => ?_)
        have b_z2 : 0 ≤ z2 ∧ z2 ≤ 1 := by rw [e_z2]; exact yland ⟨by decide, by decide⟩ (by decide)
        refine yG.numl (c := 1) rfl (fun _ _ => rfl) (by decide) ?_
        refine yG.lcmp rfl ⟨by omega, by omega⟩ ⟨by omega, by omega⟩ (fun z3 e_z3 => ?_)
        refine yG.ifz rfl (t := 231) rfl ⟨by omega, by omega⟩ (fun c4 => ?_) (fun c4 => ?_)
        · have c4 : (z3 : Int) ≠ 0 := c4
          refine yG.num (c := 0) rfl (fun _ _ => rfl) (by decide) ?_
          refine yG.ret rfl (fun _ _ => rfl) ?_
          exact (yP.bool (by omega) ⟨⟨0, rfl, by omega, by omega, trivial⟩, rfl⟩)
        · have c4 : (z3 : Int) = 0 := c4
          refine yG.num (c := 1) rfl (fun _ _ => rfl) (by decide) ?_
          refine yG.goto rfl (t := 232) rfl ?_
          refine yG.ret rfl (fun _ _ => rfl) ?_
          exact (yP.bool (by omega) ⟨⟨1, rfl, by omega, by omega, trivial⟩, rfl⟩)
      · have c1 : (a8 : Int) < p2 := c1
        refine yG.load xik rfl (fun _ _ => rfl) (v := yI (a8)) rfl rfl ?_
        refine yG.num (c := 2048) rfl (fun _ _ => rfl) (by decide) ?_
        refine yG.icmp rfl (t := 218) rfl ⟨by omega, by omega⟩ ⟨by omega, by omega⟩ (fun c5 => ?_) (fun c5 => ?_)
        · have c5 : (a8 : Int) ≥ 2048 := c5
          refine yG.load xlk2 rfl (fun _ _ => rfl) (v := yJ (a6)) rfl rfl ?_
          refine yG.numl (c := 1) rfl (fun _ _ => rfl) (by decide) ?_
          refine yG.bit64 rfl (fun _ _ => rfl) (fun z6 e_z6 l_z6 u_z6 => ?_)
          have b_z6 : 0 ≤ z6 ∧ z6 ≤ 1 := by rw [e_z6]; exact yland ⟨by decide, by decide⟩ (by decide)
          refine yG.numl (c := 1) rfl (fun _ _ => rfl) (by decide) ?_
          refine yG.lcmp rfl ⟨by omega, by omega⟩ ⟨by omega, by omega⟩ (fun z7 e_z7 => ?_)
          refine yG.ifz rfl (t := 231) rfl ⟨by omega, by omega⟩ (fun c8 => ?_) (fun c8 => ?_)
          · have c8 : (z7 : Int) ≠ 0 := c8
            refine yG.num (c := 0) rfl (fun _ _ => rfl) (by decide) ?_
            refine yG.ret rfl (fun _ _ => rfl) ?_
            exact (yP.bool (by omega) ⟨⟨0, rfl, by omega, by omega, trivial⟩, rfl⟩)
          · have c8 : (z7 : Int) = 0 := c8
            refine yG.num (c := 1) rfl (fun _ _ => rfl) (by decide) ?_
            refine yG.goto rfl (t := 232) rfl ?_
            refine yG.ret rfl (fun _ _ => rfl) ?_
            exact (yP.bool (by omega) ⟨⟨1, rfl, by omega, by omega, trivial⟩, rfl⟩)
        · have c5 : (a8 : Int) < 2048 := c5
          refine yG.load xak rfl (fun _ _ => rfl) (v := yR k0) rfl rfl ?_
          refine yG.getS9 A_hp.1 (w_Rules_code W H_k0) Q_n1 rfl rfl ?_
          refine yG.load xik rfl (fun _ _ => rfl) (v := yI (a8)) rfl rfl ?_
          refine yG.iald A_hp.1 (v_Rules_code W H_n1) rfl (by omega) (by omega) (fun z9 e_z9 i_z9 l_z9 u_z9 => ?_)
          refine yG.store1 xik (L' := [(9, yI (z9)), (0, yR k0), (2, yI (p2)), (3, yI (p3)), (4, yR k4), (5, yR k5), (6, yJ (a6)), (8, yI (a8))]) rfl (fun _ _ => rfl) rfl rfl ?_
          refine yG.load xlk2 rfl (fun _ _ => rfl) (v := yJ (a6)) rfl rfl ?_
          refine yG.numl (c := 1) rfl (fun _ _ => rfl) (by decide) ?_
          refine yG.bit64 rfl (fun _ _ => rfl) (fun z10 e_z10 l_z10 u_z10 => ?_)
          have b_z10 : 0 ≤ z10 ∧ z10 ≤ 1 := by rw [e_z10]; exact yland ⟨by decide, by decide⟩ (by decide)
          refine yG.numl (c := 1) rfl (fun _ _ => rfl) (by decide) ?_
          refine yG.lcmp rfl ⟨by omega, by omega⟩ ⟨by omega, by omega⟩ (fun z11 e_z11 => ?_)
          refine yG.ifz rfl (t := 42) rfl ⟨by omega, by omega⟩ (fun c12 => ?_) (fun c12 => ?_)
          · have c12 : (z11 : Int) ≠ 0 := c12
            refine yG.num (c := 0) rfl (fun _ _ => rfl) (by decide) ?_
            refine yG.store1 xik (L' := [(10, yI (0)), (9, yI (z9)), (0, yR k0), (2, yI (p2)), (3, yI (p3)), (4, yR k4), (5, yR k5), (6, yJ (a6)), (8, yI (a8))]) rfl (fun _ _ => rfl) rfl rfl ?_
            refine yG.load xlk2 rfl (fun _ _ => rfl) (v := yJ (a6)) rfl rfl ?_
            refine yG.numl (c := 2) rfl (fun _ _ => rfl) (by decide) ?_
            refine yG.bit64 rfl (fun _ _ => rfl) (fun z13 e_z13 l_z13 u_z13 => ?_)
            have b_z13 : 0 ≤ z13 ∧ z13 ≤ 2 := by rw [e_z13]; exact yland ⟨by decide, by decide⟩ (by decide)
            refine yG.numl (c := 2) rfl (fun _ _ => rfl) (by decide) ?_
            refine yG.lcmp rfl ⟨by omega, by omega⟩ ⟨by omega, by omega⟩ (fun z14 e_z14 => ?_)
            refine yG.ifz rfl (t := 62) rfl ⟨by omega, by omega⟩ (fun c15 => ?_) (fun c15 => ?_)
            · have c15 : (z14 : Int) ≠ 0 := c15
              refine yG.num (c := 0) rfl (fun _ _ => rfl) (by decide) ?_
              refine yG.store1 xik (L' := [(11, yI (0)), (10, yI (0)), (9, yI (z9)), (0, yR k0), (2, yI (p2)), (3, yI (p3)), (4, yR k4), (5, yR k5), (6, yJ (a6)), (8, yI (a8))]) rfl (fun _ _ => rfl) rfl rfl ?_
              refine yG.load xik rfl (fun _ _ => rfl) (v := yI (z9)) rfl rfl ?_
              refine yG.num (c := 16) rfl (fun _ _ => rfl) (by decide) ?_
              refine yG.icmp rfl (t := 134) rfl ⟨by omega, by omega⟩ ⟨by omega, by omega⟩ (fun c16 => ?_) (fun c16 => ?_)
              · have c16 : (z9 : Int) ≥ 16 := c16
                obtain ⟨f9, f1, f2⟩ := X_6
                obtain ⟨g9, rfl⟩ : ∃ g, f9 = g + 1 := ⟨f9 - 1, by omega⟩
                have f3 := f2 (by omega) (by omega)
                have f6 := f3.2 (by omega)
                refine yG.load xik rfl (fun _ _ => rfl) (v := yI (z9)) rfl rfl ?_
                refine yG.num (c := 16) rfl (fun _ _ => rfl) (by decide) ?_
                refine yG.icmp rfl (t := 150) rfl ⟨by omega, by omega⟩ ⟨by omega, by omega⟩ (fun c17 => ?_) (fun c17 => ?_)
                · have c17 : (z9 : Int) ≠ 16 := c17
                  refine yG.load xik rfl (fun _ _ => rfl) (v := yI (z9)) rfl rfl ?_
                  refine yG.num (c := 17) rfl (fun _ _ => rfl) (by decide) ?_
                  refine yG.icmp rfl (t := 175) rfl ⟨by omega, by omega⟩ ⟨by omega, by omega⟩ (fun c18 => ?_) (fun c18 => ?_)
                  · have c18 : (z9 : Int) ≠ 17 := c18
                    refine yG.load xik rfl (fun _ _ => rfl) (v := yI (0)) rfl rfl ?_
                    refine yG.ifz rfl (t := 185) rfl ⟨by omega, by omega⟩ (fun c19 => ?_) (fun c19 => ?_)
                    · have c19 : (0 : Int) ≠ 0 := c19
                      exfalso; omega
                    · have c19 : (0 : Int) = 0 := c19
                      refine yG.load xik rfl (fun _ _ => rfl) (v := yI (0)) rfl rfl ?_
                      refine yG.ifz rfl (t := 189) rfl ⟨by omega, by omega⟩ (fun c20 => ?_) (fun c20 => ?_)
                      · have c20 : (0 : Int) = 0 := c20
                        refine yG.num (c := 0) rfl (fun _ _ => rfl) (by decide) ?_
                        refine yG.store1 xik (L' := [(12, yI (0)), (11, yI (0)), (10, yI (0)), (9, yI (z9)), (0, yR k0), (2, yI (p2)), (3, yI (p3)), (4, yR k4), (5, yR k5), (6, yJ (a6)), (8, yI (a8))]) rfl (fun _ _ => rfl) rfl rfl ?_
                        refine yG.load xlk2 rfl (fun _ _ => rfl) (v := yJ (a6)) rfl rfl ?_
                        refine yG.num (c := 2) rfl (fun _ _ => rfl) (by decide) ?_
                        refine yG.bit64 rfl (fun _ _ => rfl) (fun z21 e_z21 l_z21 u_z21 => ?_)
                        have b_z21 : z21 = ((zc64 (a6) : Nat) : Int) / 4 := by rw [e_z21]; exact blushr (n := 2) (by decide) (by decide) (by decide)
                        have c_z21 : zc64 (a6) < 18446744073709551616 := by unfold zc64; omega
                        refine yG.num (c := 1) rfl (fun _ _ => rfl) (by decide) ?_
                        refine yG.bit64 rfl (fun _ _ => rfl) (fun z22 e_z22 l_z22 u_z22 => ?_)
                        have b_z22 : z22 = (z21) * 2 ^ 1 := by rw [e_z22]; exact bshl (n := 1) (by omega) (by omega) (by decide) (by decide)
                        subst b_z22
                        clear e_z22 l_z22 u_z22
                        refine yG.load xik rfl (fun _ _ => rfl) (v := yI (0)) rfl rfl ?_
                        refine yG.ifz rfl (t := 207) rfl ⟨by omega, by omega⟩ (fun c23 => ?_) (fun c23 => ?_)
                        · have c23 : (0 : Int) = 0 := c23
                          refine yG.num (c := 0) rfl (fun _ _ => rfl) (by decide) ?_
                          refine yG.i2l rfl ⟨by omega, by omega⟩ ?_
                          refine yG.bit64 rfl (fun _ _ => rfl) (fun z24 e_z24 l_z24 u_z24 => ?_)
                          have b_z24 : z24 = (z21) * 2 ^ 1 + 0 := by rw [e_z24]; exact blor (by omega) (by omega) (by omega) (by omega)
                          refine yG.store2 xlk2 (L' := [(6, yJ (z24)), (12, yI (0)), (11, yI (0)), (10, yI (0)), (9, yI (z9)), (0, yR k0), (2, yI (p2)), (3, yI (p3)), (4, yR k4), (5, yR k5), (8, yI (a8))]) rfl (fun _ _ => rfl) rfl rfl ?_
                          refine yG.iinc rfl (a := a8) rfl (L' := [(8, yI (a8 + 1)), (6, yJ (z24)), (12, yI (0)), (11, yI (0)), (10, yI (0)), (9, yI (z9)), (0, yR k0), (2, yI (p2)), (3, yI (p3)), (4, yR k4), (5, yR k5)]) rfl ?_
                          refine yG.goto rfl (t := 6) rfl ?_
                          rw [show (a8 : Int).toNat + 1 = (a8 + 1 : Int).toNat by omega] at f6
                          exact yG.mono (yG.sub (i_6 (z24) (a8 + 1)     (by omega) (by omega) (by omega) (by omega) (by omega) (by omega) (by omega) (by omega) (by omega) (by omega) (by omega) (by omega) (by omega) (by omega) (by omega) ⟨g9, by omega, f6⟩ (by omega)) (ySub.cons rfl (ySub.cons rfl (ySub.cons rfl (ySub.cons rfl (ySub.cons rfl (ySub.cons rfl (ySub.cons rfl (ySub.nil))))))))) (by omega)
                        · have c23 : (0 : Int) ≠ 0 := c23
                          exfalso; omega
                      · have c20 : (0 : Int) ≠ 0 := c20
                        exfalso; omega
                  · have c18 : (z9 : Int) = 17 := c18
                    refine yG.load xik rfl (fun _ _ => rfl) (v := yI (0)) rfl rfl ?_
                    refine yG.ifz rfl (t := 171) rfl ⟨by omega, by omega⟩ (fun c25 => ?_) (fun c25 => ?_)
                    · have c25 : (0 : Int) = 0 := c25
                      refine yG.num (c := 0) rfl (fun _ _ => rfl) (by decide) ?_
                      refine yG.goto rfl (t := 190) rfl ?_
                      refine yG.store1 xik (L' := [(12, yI (0)), (11, yI (0)), (10, yI (0)), (9, yI (z9)), (0, yR k0), (2, yI (p2)), (3, yI (p3)), (4, yR k4), (5, yR k5), (6, yJ (a6)), (8, yI (a8))]) rfl (fun _ _ => rfl) rfl rfl ?_
                      refine yG.load xlk2 rfl (fun _ _ => rfl) (v := yJ (a6)) rfl rfl ?_
                      refine yG.num (c := 2) rfl (fun _ _ => rfl) (by decide) ?_
                      refine yG.bit64 rfl (fun _ _ => rfl) (fun z26 e_z26 l_z26 u_z26 => ?_)
                      have b_z26 : z26 = ((zc64 (a6) : Nat) : Int) / 4 := by rw [e_z26]; exact blushr (n := 2) (by decide) (by decide) (by decide)
                      have c_z26 : zc64 (a6) < 18446744073709551616 := by unfold zc64; omega
                      refine yG.num (c := 1) rfl (fun _ _ => rfl) (by decide) ?_
                      refine yG.bit64 rfl (fun _ _ => rfl) (fun z27 e_z27 l_z27 u_z27 => ?_)
                      have b_z27 : z27 = (z26) * 2 ^ 1 := by rw [e_z27]; exact bshl (n := 1) (by omega) (by omega) (by decide) (by decide)
                      subst b_z27
                      clear e_z27 l_z27 u_z27
                      refine yG.load xik rfl (fun _ _ => rfl) (v := yI (0)) rfl rfl ?_
                      refine yG.ifz rfl (t := 207) rfl ⟨by omega, by omega⟩ (fun c28 => ?_) (fun c28 => ?_)
                      · have c28 : (0 : Int) = 0 := c28
                        refine yG.num (c := 0) rfl (fun _ _ => rfl) (by decide) ?_
                        refine yG.i2l rfl ⟨by omega, by omega⟩ ?_
                        refine yG.bit64 rfl (fun _ _ => rfl) (fun z29 e_z29 l_z29 u_z29 => ?_)
                        have b_z29 : z29 = (z26) * 2 ^ 1 + 0 := by rw [e_z29]; exact blor (by omega) (by omega) (by omega) (by omega)
                        refine yG.store2 xlk2 (L' := [(6, yJ (z29)), (12, yI (0)), (11, yI (0)), (10, yI (0)), (9, yI (z9)), (0, yR k0), (2, yI (p2)), (3, yI (p3)), (4, yR k4), (5, yR k5), (8, yI (a8))]) rfl (fun _ _ => rfl) rfl rfl ?_
                        refine yG.iinc rfl (a := a8) rfl (L' := [(8, yI (a8 + 1)), (6, yJ (z29)), (12, yI (0)), (11, yI (0)), (10, yI (0)), (9, yI (z9)), (0, yR k0), (2, yI (p2)), (3, yI (p3)), (4, yR k4), (5, yR k5)]) rfl ?_
                        refine yG.goto rfl (t := 6) rfl ?_
                        rw [show (a8 : Int).toNat + 1 = (a8 + 1 : Int).toNat by omega] at f6
                        exact yG.mono (yG.sub (i_6 (z29) (a8 + 1)     (by omega) (by omega) (by omega) (by omega) (by omega) (by omega) (by omega) (by omega) (by omega) (by omega) (by omega) (by omega) (by omega) (by omega) (by omega) ⟨g9, by omega, f6⟩ (by omega)) (ySub.cons rfl (ySub.cons rfl (ySub.cons rfl (ySub.cons rfl (ySub.cons rfl (ySub.cons rfl (ySub.cons rfl (ySub.nil))))))))) (by omega)
                      · have c28 : (0 : Int) ≠ 0 := c28
                        exfalso; omega
                    · have c25 : (0 : Int) ≠ 0 := c25
                      exfalso; omega
                · have c17 : (z9 : Int) = 16 := c17
                  refine yG.load xlk2 rfl (fun _ _ => rfl) (v := yJ (a6)) rfl rfl ?_
                  refine yG.numl (c := 1) rfl (fun _ _ => rfl) (by decide) ?_
                  refine yG.bit64 rfl (fun _ _ => rfl) (fun z30 e_z30 l_z30 u_z30 => ?_)
                  refine yG.store2 xlk2 (L' := [(6, yJ (z30)), (11, yI (0)), (10, yI (0)), (9, yI (z9)), (0, yR k0), (2, yI (p2)), (3, yI (p3)), (4, yR k4), (5, yR k5), (8, yI (a8))]) rfl (fun _ _ => rfl) rfl rfl ?_
                  refine yG.goto rfl (t := 212) rfl ?_
                  refine yG.iinc rfl (a := a8) rfl (L' := [(8, yI (a8 + 1)), (6, yJ (z30)), (11, yI (0)), (10, yI (0)), (9, yI (z9)), (0, yR k0), (2, yI (p2)), (3, yI (p3)), (4, yR k4), (5, yR k5)]) rfl ?_
                  refine yG.goto rfl (t := 6) rfl ?_
                  rw [show (a8 : Int).toNat + 1 = (a8 + 1 : Int).toNat by omega] at f6
                  exact yG.mono (yG.sub (i_6 (z30) (a8 + 1)     (by omega) (by omega) (by omega) (by omega) (by omega) (by omega) (by omega) (by omega) (by omega) (by omega) (by omega) (by omega) (by omega) (by omega) (by omega) ⟨g9, by omega, f6⟩ (by omega)) (ySub.cons rfl (ySub.cons rfl (ySub.cons rfl (ySub.cons rfl (ySub.cons rfl (ySub.cons rfl (ySub.cons rfl (ySub.nil))))))))) (by omega)
              · have c16 : (z9 : Int) < 16 := c16
                obtain ⟨f9, f1, f2⟩ := X_6
                obtain ⟨g9, rfl⟩ : ∃ g, f9 = g + 1 := ⟨f9 - 1, by omega⟩
                have f3 := f2 (by omega) (by omega)
                obtain ⟨f4, f5, f6⟩ := f3.1 (by omega)
                refine yG.load xik rfl (fun _ _ => rfl) (v := yI (z9)) rfl rfl ?_
                refine yG.num (c := 8) rfl (fun _ _ => rfl) (by decide) ?_
                refine yG.icmp rfl (t := 84) rfl ⟨by omega, by omega⟩ ⟨by omega, by omega⟩ (fun c31 => ?_) (fun c31 => ?_)
                · have c31 : (z9 : Int) < 8 := c31
                  refine yG.load xak rfl (fun _ _ => rfl) (v := yR k4) rfl rfl ?_
                  refine yG.store1 xak (L' := [(12, yR k4), (11, yI (0)), (10, yI (0)), (9, yI (z9)), (0, yR k0), (2, yI (p2)), (3, yI (p3)), (4, yR k4), (5, yR k5), (6, yJ (a6)), (8, yI (a8))]) rfl (fun _ _ => rfl) rfl rfl ?_
                  refine yG.load xlk2 rfl (fun _ _ => rfl) (v := yJ (a6)) rfl rfl ?_
                  refine yG.num (c := 1) rfl (fun _ _ => rfl) (by decide) ?_
                  refine yG.bit64 rfl (fun _ _ => rfl) (fun z32 e_z32 l_z32 u_z32 => ?_)
                  refine yG.load xik rfl (fun _ _ => rfl) (v := yI (a8)) rfl rfl ?_
                  refine yG.num (c := 2) rfl (fun _ _ => rfl) (by decide) ?_
                  refine yG.iadd rfl ?_
                  refine yG.num (c := 2048) rfl (fun _ _ => rfl) (by decide) ?_
                  refine yG.icmp rfl (t := 123) rfl ⟨by omega, by omega⟩ ⟨by omega, by omega⟩ (fun c33 => ?_) (fun c33 => ?_)
                  · have c33 : (a8 + 2 : Int) ≥ 2048 := c33
                    refine yG.num (c := 0) rfl (fun _ _ => rfl) (by decide) ?_
                    refine yG.i2l rfl ⟨by omega, by omega⟩ ?_
                    refine yG.bit64 rfl (fun _ _ => rfl) (fun z34 e_z34 l_z34 u_z34 => ?_)
                    refine yG.store2 xlk2 (L' := [(6, yJ (z34)), (12, yR k4), (11, yI (0)), (10, yI (0)), (9, yI (z9)), (0, yR k0), (2, yI (p2)), (3, yI (p3)), (4, yR k4), (5, yR k5), (8, yI (a8))]) rfl (fun _ _ => rfl) rfl rfl ?_
                    refine yG.iinc rfl (a := a8) rfl (L' := [(8, yI (a8 + 3)), (6, yJ (z34)), (12, yR k4), (11, yI (0)), (10, yI (0)), (9, yI (z9)), (0, yR k0), (2, yI (p2)), (3, yI (p3)), (4, yR k4), (5, yR k5)]) rfl ?_
                    refine yG.goto rfl (t := 215) rfl ?_
                    refine yG.goto rfl (t := 6) rfl ?_
                    rw [show (a8 : Int).toNat + 3 = (a8 + 3 : Int).toNat by omega] at f6
                    exact yG.mono (yG.sub (i_6 (z34) (a8 + 3)     (by omega) (by omega) (by omega) (by omega) (by omega) (by omega) (by omega) (by omega) (by omega) (by omega) (by omega) (by omega) (by omega) (by omega) (by omega) ⟨g9, by omega, f6⟩ (by omega)) (ySub.cons rfl (ySub.cons rfl (ySub.cons rfl (ySub.cons rfl (ySub.cons rfl (ySub.cons rfl (ySub.cons rfl (ySub.nil))))))))) (by omega)
                  · have c33 : (a8 + 2 : Int) < 2048 := c33
                    refine yG.load xak rfl (fun _ _ => rfl) (v := yR k0) rfl rfl ?_
                    refine yG.load xik rfl (fun _ _ => rfl) (v := yI (a8)) rfl rfl ?_
                    refine yG.load xik rfl (fun _ _ => rfl) (v := yI (z9)) rfl rfl ?_
                    refine yG.num (c := 8) rfl (fun _ _ => rfl) (by decide) ?_
                    refine yG.irem rfl ⟨by omega, by omega⟩ ⟨by omega, by omega⟩ (by omega) (by omega) ?_
                    obtain ⟨z35, e_z35⟩ : ∃ z : Int, z = (z9) % (8) := ⟨_, rfl⟩
                    rw [← e_z35]
                    refine yG.load xik rfl (fun _ _ => rfl) (v := yI (p3)) rfl rfl ?_
                    refine yG.load xak rfl (fun _ _ => rfl) (v := yR k4) rfl rfl ?_
                    have gd9 := f5 (by omega)
                    rw [show (a8 : Int).toNat + 1 = (a8 + 1 : Int).toNat by omega, show (a8 : Int).toNat + 2 = (a8 + 2 : Int).toNat by omega] at gd9
                    rw [show ys hp n1 (a8 : Int).toNat % 8 = z35 by omega] at gd9
                    refine yG.invV (rest := [yJ (z32)]) A_hp.1 (bOb (d_Rules W) H_k0) rfl rfl rfl rfl (c_Rules_isSo_s W d A_hp.1 H_k0 H_k4 H_n1 Q_n1 (a8) (z35) (p3) (by omega) (by omega) (by omega) (by omega) (by omega) (by omega) gd9) (fun rv hp9 q9 => ?_)
                    obtain ⟨⟨z36, rfl, l_z36, u_z36, R_z36⟩, e9⟩ := q9
                    rw [e9]
                    show yG _ _ _ _ _ _ _ _ _ _ (yI z36 :: [yJ (z32)]) _
                    refine yG.ifz rfl (t := 123) rfl ⟨by omega, by omega⟩ (fun c37 => ?_) (fun c37 => ?_)
                    · have c37 : (z36 : Int) = 0 := c37
                      refine yG.num (c := 0) rfl (fun _ _ => rfl) (by decide) ?_
                      refine yG.i2l rfl ⟨by omega, by omega⟩ ?_
                      refine yG.bit64 rfl (fun _ _ => rfl) (fun z38 e_z38 l_z38 u_z38 => ?_)
                      refine yG.store2 xlk2 (L' := [(6, yJ (z38)), (12, yR k4), (11, yI (0)), (10, yI (0)), (9, yI (z9)), (0, yR k0), (2, yI (p2)), (3, yI (p3)), (4, yR k4), (5, yR k5), (8, yI (a8))]) rfl (fun _ _ => rfl) rfl rfl ?_
                      refine yG.iinc rfl (a := a8) rfl (L' := [(8, yI (a8 + 3)), (6, yJ (z38)), (12, yR k4), (11, yI (0)), (10, yI (0)), (9, yI (z9)), (0, yR k0), (2, yI (p2)), (3, yI (p3)), (4, yR k4), (5, yR k5)]) rfl ?_
                      refine yG.goto rfl (t := 215) rfl ?_
                      refine yG.goto rfl (t := 6) rfl ?_
                      rw [show (a8 : Int).toNat + 3 = (a8 + 3 : Int).toNat by omega] at f6
                      exact yG.mono (yG.sub (i_6 (z38) (a8 + 3)     (by omega) (by omega) (by omega) (by omega) (by omega) (by omega) (by omega) (by omega) (by omega) (by omega) (by omega) (by omega) (by omega) (by omega) (by omega) ⟨g9, by omega, f6⟩ (by omega)) (ySub.cons rfl (ySub.cons rfl (ySub.cons rfl (ySub.cons rfl (ySub.cons rfl (ySub.cons rfl (ySub.cons rfl (ySub.nil))))))))) (by omega)
                    · have c37 : (z36 : Int) ≠ 0 := c37
                      refine yG.num (c := 1) rfl (fun _ _ => rfl) (by decide) ?_
                      refine yG.goto rfl (t := 124) rfl ?_
                      refine yG.i2l rfl ⟨by omega, by omega⟩ ?_
                      refine yG.bit64 rfl (fun _ _ => rfl) (fun z39 e_z39 l_z39 u_z39 => ?_)
                      refine yG.store2 xlk2 (L' := [(6, yJ (z39)), (12, yR k4), (11, yI (0)), (10, yI (0)), (9, yI (z9)), (0, yR k0), (2, yI (p2)), (3, yI (p3)), (4, yR k4), (5, yR k5), (8, yI (a8))]) rfl (fun _ _ => rfl) rfl rfl ?_
                      refine yG.iinc rfl (a := a8) rfl (L' := [(8, yI (a8 + 3)), (6, yJ (z39)), (12, yR k4), (11, yI (0)), (10, yI (0)), (9, yI (z9)), (0, yR k0), (2, yI (p2)), (3, yI (p3)), (4, yR k4), (5, yR k5)]) rfl ?_
                      refine yG.goto rfl (t := 215) rfl ?_
                      refine yG.goto rfl (t := 6) rfl ?_
                      rw [show (a8 : Int).toNat + 3 = (a8 + 3 : Int).toNat by omega] at f6
                      exact yG.mono (yG.sub (i_6 (z39) (a8 + 3)     (by omega) (by omega) (by omega) (by omega) (by omega) (by omega) (by omega) (by omega) (by omega) (by omega) (by omega) (by omega) (by omega) (by omega) (by omega) ⟨g9, by omega, f6⟩ (by omega)) (ySub.cons rfl (ySub.cons rfl (ySub.cons rfl (ySub.cons rfl (ySub.cons rfl (ySub.cons rfl (ySub.cons rfl (ySub.nil))))))))) (by omega)
                · have c31 : (z9 : Int) ≥ 8 := c31
                  refine yG.load xak rfl (fun _ _ => rfl) (v := yR k5) rfl rfl ?_
                  refine yG.goto rfl (t := 86) rfl ?_
                  refine yG.store1 xak (L' := [(12, yR k5), (11, yI (0)), (10, yI (0)), (9, yI (z9)), (0, yR k0), (2, yI (p2)), (3, yI (p3)), (4, yR k4), (5, yR k5), (6, yJ (a6)), (8, yI (a8))]) rfl (fun _ _ => rfl) rfl rfl ?_
                  refine yG.load xlk2 rfl (fun _ _ => rfl) (v := yJ (a6)) rfl rfl ?_
                  refine yG.num (c := 1) rfl (fun _ _ => rfl) (by decide) ?_
                  refine yG.bit64 rfl (fun _ _ => rfl) (fun z40 e_z40 l_z40 u_z40 => ?_)
                  refine yG.load xik rfl (fun _ _ => rfl) (v := yI (a8)) rfl rfl ?_
                  refine yG.num (c := 2) rfl (fun _ _ => rfl) (by decide) ?_
                  refine yG.iadd rfl ?_
                  refine yG.num (c := 2048) rfl (fun _ _ => rfl) (by decide) ?_
                  refine yG.icmp rfl (t := 123) rfl ⟨by omega, by omega⟩ ⟨by omega, by omega⟩ (fun c41 => ?_) (fun c41 => ?_)
                  · have c41 : (a8 + 2 : Int) ≥ 2048 := c41
                    refine yG.num (c := 0) rfl (fun _ _ => rfl) (by decide) ?_
                    refine yG.i2l rfl ⟨by omega, by omega⟩ ?_
                    refine yG.bit64 rfl (fun _ _ => rfl) (fun z42 e_z42 l_z42 u_z42 => ?_)
                    refine yG.store2 xlk2 (L' := [(6, yJ (z42)), (12, yR k5), (11, yI (0)), (10, yI (0)), (9, yI (z9)), (0, yR k0), (2, yI (p2)), (3, yI (p3)), (4, yR k4), (5, yR k5), (8, yI (a8))]) rfl (fun _ _ => rfl) rfl rfl ?_
                    refine yG.iinc rfl (a := a8) rfl (L' := [(8, yI (a8 + 3)), (6, yJ (z42)), (12, yR k5), (11, yI (0)), (10, yI (0)), (9, yI (z9)), (0, yR k0), (2, yI (p2)), (3, yI (p3)), (4, yR k4), (5, yR k5)]) rfl ?_
                    refine yG.goto rfl (t := 215) rfl ?_
                    refine yG.goto rfl (t := 6) rfl ?_
                    rw [show (a8 : Int).toNat + 3 = (a8 + 3 : Int).toNat by omega] at f6
                    exact yG.mono (yG.sub (i_6 (z42) (a8 + 3)     (by omega) (by omega) (by omega) (by omega) (by omega) (by omega) (by omega) (by omega) (by omega) (by omega) (by omega) (by omega) (by omega) (by omega) (by omega) ⟨g9, by omega, f6⟩ (by omega)) (ySub.cons rfl (ySub.cons rfl (ySub.cons rfl (ySub.cons rfl (ySub.cons rfl (ySub.cons rfl (ySub.cons rfl (ySub.nil))))))))) (by omega)
                  · have c41 : (a8 + 2 : Int) < 2048 := c41
                    refine yG.load xak rfl (fun _ _ => rfl) (v := yR k0) rfl rfl ?_
                    refine yG.load xik rfl (fun _ _ => rfl) (v := yI (a8)) rfl rfl ?_
                    refine yG.load xik rfl (fun _ _ => rfl) (v := yI (z9)) rfl rfl ?_
                    refine yG.num (c := 8) rfl (fun _ _ => rfl) (by decide) ?_
                    refine yG.irem rfl ⟨by omega, by omega⟩ ⟨by omega, by omega⟩ (by omega) (by omega) ?_
                    obtain ⟨z43, e_z43⟩ : ∃ z : Int, z = (z9) % (8) := ⟨_, rfl⟩
                    rw [← e_z43]
                    refine yG.load xik rfl (fun _ _ => rfl) (v := yI (p3)) rfl rfl ?_
                    refine yG.load xak rfl (fun _ _ => rfl) (v := yR k5) rfl rfl ?_
                    have gd9 := f5 (by omega)
                    rw [show (a8 : Int).toNat + 1 = (a8 + 1 : Int).toNat by omega, show (a8 : Int).toNat + 2 = (a8 + 2 : Int).toNat by omega] at gd9
                    rw [show ys hp n1 (a8 : Int).toNat % 8 = z43 by omega] at gd9
                    refine yG.invV (rest := [yJ (z40)]) A_hp.1 (bOb (d_Rules W) H_k0) rfl rfl rfl rfl (c_Rules_isSo_s W d A_hp.1 H_k0 H_k5 H_n1 Q_n1 (a8) (z43) (p3) (by omega) (by omega) (by omega) (by omega) (by omega) (by omega) gd9) (fun rv hp9 q9 => ?_)
                    obtain ⟨⟨z44, rfl, l_z44, u_z44, R_z44⟩, e9⟩ := q9
                    rw [e9]
                    show yG _ _ _ _ _ _ _ _ _ _ (yI z44 :: [yJ (z40)]) _
                    refine yG.ifz rfl (t := 123) rfl ⟨by omega, by omega⟩ (fun c45 => ?_) (fun c45 => ?_)
                    · have c45 : (z44 : Int) = 0 := c45
                      refine yG.num (c := 0) rfl (fun _ _ => rfl) (by decide) ?_
                      refine yG.i2l rfl ⟨by omega, by omega⟩ ?_
                      refine yG.bit64 rfl (fun _ _ => rfl) (fun z46 e_z46 l_z46 u_z46 => ?_)
                      refine yG.store2 xlk2 (L' := [(6, yJ (z46)), (12, yR k5), (11, yI (0)), (10, yI (0)), (9, yI (z9)), (0, yR k0), (2, yI (p2)), (3, yI (p3)), (4, yR k4), (5, yR k5), (8, yI (a8))]) rfl (fun _ _ => rfl) rfl rfl ?_
                      refine yG.iinc rfl (a := a8) rfl (L' := [(8, yI (a8 + 3)), (6, yJ (z46)), (12, yR k5), (11, yI (0)), (10, yI (0)), (9, yI (z9)), (0, yR k0), (2, yI (p2)), (3, yI (p3)), (4, yR k4), (5, yR k5)]) rfl ?_
                      refine yG.goto rfl (t := 215) rfl ?_
                      refine yG.goto rfl (t := 6) rfl ?_
                      rw [show (a8 : Int).toNat + 3 = (a8 + 3 : Int).toNat by omega] at f6
                      exact yG.mono (yG.sub (i_6 (z46) (a8 + 3)     (by omega) (by omega) (by omega) (by omega) (by omega) (by omega) (by omega) (by omega) (by omega) (by omega) (by omega) (by omega) (by omega) (by omega) (by omega) ⟨g9, by omega, f6⟩ (by omega)) (ySub.cons rfl (ySub.cons rfl (ySub.cons rfl (ySub.cons rfl (ySub.cons rfl (ySub.cons rfl (ySub.cons rfl (ySub.nil))))))))) (by omega)
                    · have c45 : (z44 : Int) ≠ 0 := c45
                      refine yG.num (c := 1) rfl (fun _ _ => rfl) (by decide) ?_
                      refine yG.goto rfl (t := 124) rfl ?_
                      refine yG.i2l rfl ⟨by omega, by omega⟩ ?_
                      refine yG.bit64 rfl (fun _ _ => rfl) (fun z47 e_z47 l_z47 u_z47 => ?_)
                      refine yG.store2 xlk2 (L' := [(6, yJ (z47)), (12, yR k5), (11, yI (0)), (10, yI (0)), (9, yI (z9)), (0, yR k0), (2, yI (p2)), (3, yI (p3)), (4, yR k4), (5, yR k5), (8, yI (a8))]) rfl (fun _ _ => rfl) rfl rfl ?_
                      refine yG.iinc rfl (a := a8) rfl (L' := [(8, yI (a8 + 3)), (6, yJ (z47)), (12, yR k5), (11, yI (0)), (10, yI (0)), (9, yI (z9)), (0, yR k0), (2, yI (p2)), (3, yI (p3)), (4, yR k4), (5, yR k5)]) rfl ?_
                      refine yG.goto rfl (t := 215) rfl ?_
                      refine yG.goto rfl (t := 6) rfl ?_
                      rw [show (a8 : Int).toNat + 3 = (a8 + 3 : Int).toNat by omega] at f6
                      exact yG.mono (yG.sub (i_6 (z47) (a8 + 3)     (by omega) (by omega) (by omega) (by omega) (by omega) (by omega) (by omega) (by omega) (by omega) (by omega) (by omega) (by omega) (by omega) (by omega) (by omega) ⟨g9, by omega, f6⟩ (by omega)) (ySub.cons rfl (ySub.cons rfl (ySub.cons rfl (ySub.cons rfl (ySub.cons rfl (ySub.cons rfl (ySub.cons rfl (ySub.nil))))))))) (by omega)
            · have c15 : (z14 : Int) = 0 := c15
              refine yG.num (c := 1) rfl (fun _ _ => rfl) (by decide) ?_
              refine yG.goto rfl (t := 63) rfl ?_
              refine yG.store1 xik (L' := [(11, yI (1)), (10, yI (0)), (9, yI (z9)), (0, yR k0), (2, yI (p2)), (3, yI (p3)), (4, yR k4), (5, yR k5), (6, yJ (a6)), (8, yI (a8))]) rfl (fun _ _ => rfl) rfl rfl ?_
              refine yG.load xik rfl (fun _ _ => rfl) (v := yI (z9)) rfl rfl ?_
              refine yG.num (c := 16) rfl (fun _ _ => rfl) (by decide) ?_
              refine yG.icmp rfl (t := 134) rfl ⟨by omega, by omega⟩ ⟨by omega, by omega⟩ (fun c48 => ?_) (fun c48 => ?_)
              · have c48 : (z9 : Int) ≥ 16 := c48
                obtain ⟨f9, f1, f2⟩ := X_6
                obtain ⟨g9, rfl⟩ : ∃ g, f9 = g + 1 := ⟨f9 - 1, by omega⟩
                have f3 := f2 (by omega) (by omega)
                have f6 := f3.2 (by omega)
                refine yG.load xik rfl (fun _ _ => rfl) (v := yI (z9)) rfl rfl ?_
                refine yG.num (c := 16) rfl (fun _ _ => rfl) (by decide) ?_
                refine yG.icmp rfl (t := 150) rfl ⟨by omega, by omega⟩ ⟨by omega, by omega⟩ (fun c49 => ?_) (fun c49 => ?_)
                · have c49 : (z9 : Int) ≠ 16 := c49
                  refine yG.load xik rfl (fun _ _ => rfl) (v := yI (z9)) rfl rfl ?_
                  refine yG.num (c := 17) rfl (fun _ _ => rfl) (by decide) ?_
                  refine yG.icmp rfl (t := 175) rfl ⟨by omega, by omega⟩ ⟨by omega, by omega⟩ (fun c50 => ?_) (fun c50 => ?_)
                  · have c50 : (z9 : Int) ≠ 17 := c50
                    refine yG.load xik rfl (fun _ _ => rfl) (v := yI (0)) rfl rfl ?_
                    refine yG.ifz rfl (t := 185) rfl ⟨by omega, by omega⟩ (fun c51 => ?_) (fun c51 => ?_)
                    · have c51 : (0 : Int) ≠ 0 := c51
                      exfalso; omega
                    · have c51 : (0 : Int) = 0 := c51
                      refine yG.load xik rfl (fun _ _ => rfl) (v := yI (1)) rfl rfl ?_
                      refine yG.ifz rfl (t := 189) rfl ⟨by omega, by omega⟩ (fun c52 => ?_) (fun c52 => ?_)
                      · have c52 : (1 : Int) = 0 := c52
                        exfalso; omega
                      · have c52 : (1 : Int) ≠ 0 := c52
                        refine yG.num (c := 1) rfl (fun _ _ => rfl) (by decide) ?_
                        refine yG.goto rfl (t := 190) rfl ?_
                        refine yG.store1 xik (L' := [(12, yI (1)), (11, yI (1)), (10, yI (0)), (9, yI (z9)), (0, yR k0), (2, yI (p2)), (3, yI (p3)), (4, yR k4), (5, yR k5), (6, yJ (a6)), (8, yI (a8))]) rfl (fun _ _ => rfl) rfl rfl ?_
                        refine yG.load xlk2 rfl (fun _ _ => rfl) (v := yJ (a6)) rfl rfl ?_
                        refine yG.num (c := 2) rfl (fun _ _ => rfl) (by decide) ?_
                        refine yG.bit64 rfl (fun _ _ => rfl) (fun z53 e_z53 l_z53 u_z53 => ?_)
                        have b_z53 : z53 = ((zc64 (a6) : Nat) : Int) / 4 := by rw [e_z53]; exact blushr (n := 2) (by decide) (by decide) (by decide)
                        have c_z53 : zc64 (a6) < 18446744073709551616 := by unfold zc64; omega
                        refine yG.num (c := 1) rfl (fun _ _ => rfl) (by decide) ?_
                        refine yG.bit64 rfl (fun _ _ => rfl) (fun z54 e_z54 l_z54 u_z54 => ?_)
                        have b_z54 : z54 = (z53) * 2 ^ 1 := by rw [e_z54]; exact bshl (n := 1) (by omega) (by omega) (by decide) (by decide)
                        subst b_z54
                        clear e_z54 l_z54 u_z54
                        refine yG.load xik rfl (fun _ _ => rfl) (v := yI (1)) rfl rfl ?_
                        refine yG.ifz rfl (t := 207) rfl ⟨by omega, by omega⟩ (fun c55 => ?_) (fun c55 => ?_)
                        · have c55 : (1 : Int) = 0 := c55
                          exfalso; omega
                        · have c55 : (1 : Int) ≠ 0 := c55
                          refine yG.num (c := 1) rfl (fun _ _ => rfl) (by decide) ?_
                          refine yG.goto rfl (t := 208) rfl ?_
                          refine yG.i2l rfl ⟨by omega, by omega⟩ ?_
                          refine yG.bit64 rfl (fun _ _ => rfl) (fun z56 e_z56 l_z56 u_z56 => ?_)
                          have b_z56 : z56 = (z53) * 2 ^ 1 + 1 := by rw [e_z56]; exact blor (by omega) (by omega) (by omega) (by omega)
                          refine yG.store2 xlk2 (L' := [(6, yJ (z56)), (12, yI (1)), (11, yI (1)), (10, yI (0)), (9, yI (z9)), (0, yR k0), (2, yI (p2)), (3, yI (p3)), (4, yR k4), (5, yR k5), (8, yI (a8))]) rfl (fun _ _ => rfl) rfl rfl ?_
                          refine yG.iinc rfl (a := a8) rfl (L' := [(8, yI (a8 + 1)), (6, yJ (z56)), (12, yI (1)), (11, yI (1)), (10, yI (0)), (9, yI (z9)), (0, yR k0), (2, yI (p2)), (3, yI (p3)), (4, yR k4), (5, yR k5)]) rfl ?_
                          refine yG.goto rfl (t := 6) rfl ?_
                          rw [show (a8 : Int).toNat + 1 = (a8 + 1 : Int).toNat by omega] at f6
                          exact yG.mono (yG.sub (i_6 (z56) (a8 + 1)     (by omega) (by omega) (by omega) (by omega) (by omega) (by omega) (by omega) (by omega) (by omega) (by omega) (by omega) (by omega) (by omega) (by omega) (by omega) ⟨g9, by omega, f6⟩ (by omega)) (ySub.cons rfl (ySub.cons rfl (ySub.cons rfl (ySub.cons rfl (ySub.cons rfl (ySub.cons rfl (ySub.cons rfl (ySub.nil))))))))) (by omega)
                  · have c50 : (z9 : Int) = 17 := c50
                    refine yG.load xik rfl (fun _ _ => rfl) (v := yI (0)) rfl rfl ?_
                    refine yG.ifz rfl (t := 171) rfl ⟨by omega, by omega⟩ (fun c57 => ?_) (fun c57 => ?_)
                    · have c57 : (0 : Int) = 0 := c57
                      refine yG.num (c := 0) rfl (fun _ _ => rfl) (by decide) ?_
                      refine yG.goto rfl (t := 190) rfl ?_
                      refine yG.store1 xik (L' := [(12, yI (0)), (11, yI (1)), (10, yI (0)), (9, yI (z9)), (0, yR k0), (2, yI (p2)), (3, yI (p3)), (4, yR k4), (5, yR k5), (6, yJ (a6)), (8, yI (a8))]) rfl (fun _ _ => rfl) rfl rfl ?_
                      refine yG.load xlk2 rfl (fun _ _ => rfl) (v := yJ (a6)) rfl rfl ?_
                      refine yG.num (c := 2) rfl (fun _ _ => rfl) (by decide) ?_
                      refine yG.bit64 rfl (fun _ _ => rfl) (fun z58 e_z58 l_z58 u_z58 => ?_)
                      have b_z58 : z58 = ((zc64 (a6) : Nat) : Int) / 4 := by rw [e_z58]; exact blushr (n := 2) (by decide) (by decide) (by decide)
                      have c_z58 : zc64 (a6) < 18446744073709551616 := by unfold zc64; omega
                      refine yG.num (c := 1) rfl (fun _ _ => rfl) (by decide) ?_
                      refine yG.bit64 rfl (fun _ _ => rfl) (fun z59 e_z59 l_z59 u_z59 => ?_)
                      have b_z59 : z59 = (z58) * 2 ^ 1 := by rw [e_z59]; exact bshl (n := 1) (by omega) (by omega) (by decide) (by decide)
                      subst b_z59
                      clear e_z59 l_z59 u_z59
                      refine yG.load xik rfl (fun _ _ => rfl) (v := yI (0)) rfl rfl ?_
                      refine yG.ifz rfl (t := 207) rfl ⟨by omega, by omega⟩ (fun c60 => ?_) (fun c60 => ?_)
                      · have c60 : (0 : Int) = 0 := c60
                        refine yG.num (c := 0) rfl (fun _ _ => rfl) (by decide) ?_
                        refine yG.i2l rfl ⟨by omega, by omega⟩ ?_
                        refine yG.bit64 rfl (fun _ _ => rfl) (fun z61 e_z61 l_z61 u_z61 => ?_)
                        have b_z61 : z61 = (z58) * 2 ^ 1 + 0 := by rw [e_z61]; exact blor (by omega) (by omega) (by omega) (by omega)
                        refine yG.store2 xlk2 (L' := [(6, yJ (z61)), (12, yI (0)), (11, yI (1)), (10, yI (0)), (9, yI (z9)), (0, yR k0), (2, yI (p2)), (3, yI (p3)), (4, yR k4), (5, yR k5), (8, yI (a8))]) rfl (fun _ _ => rfl) rfl rfl ?_
                        refine yG.iinc rfl (a := a8) rfl (L' := [(8, yI (a8 + 1)), (6, yJ (z61)), (12, yI (0)), (11, yI (1)), (10, yI (0)), (9, yI (z9)), (0, yR k0), (2, yI (p2)), (3, yI (p3)), (4, yR k4), (5, yR k5)]) rfl ?_
                        refine yG.goto rfl (t := 6) rfl ?_
                        rw [show (a8 : Int).toNat + 1 = (a8 + 1 : Int).toNat by omega] at f6
                        exact yG.mono (yG.sub (i_6 (z61) (a8 + 1)     (by omega) (by omega) (by omega) (by omega) (by omega) (by omega) (by omega) (by omega) (by omega) (by omega) (by omega) (by omega) (by omega) (by omega) (by omega) ⟨g9, by omega, f6⟩ (by omega)) (ySub.cons rfl (ySub.cons rfl (ySub.cons rfl (ySub.cons rfl (ySub.cons rfl (ySub.cons rfl (ySub.cons rfl (ySub.nil))))))))) (by omega)
                      · have c60 : (0 : Int) ≠ 0 := c60
                        exfalso; omega
                    · have c57 : (0 : Int) ≠ 0 := c57
                      exfalso; omega
                · have c49 : (z9 : Int) = 16 := c49
                  refine yG.load xlk2 rfl (fun _ _ => rfl) (v := yJ (a6)) rfl rfl ?_
                  refine yG.numl (c := 1) rfl (fun _ _ => rfl) (by decide) ?_
                  refine yG.bit64 rfl (fun _ _ => rfl) (fun z62 e_z62 l_z62 u_z62 => ?_)
                  refine yG.store2 xlk2 (L' := [(6, yJ (z62)), (11, yI (1)), (10, yI (0)), (9, yI (z9)), (0, yR k0), (2, yI (p2)), (3, yI (p3)), (4, yR k4), (5, yR k5), (8, yI (a8))]) rfl (fun _ _ => rfl) rfl rfl ?_
                  refine yG.goto rfl (t := 212) rfl ?_
                  refine yG.iinc rfl (a := a8) rfl (L' := [(8, yI (a8 + 1)), (6, yJ (z62)), (11, yI (1)), (10, yI (0)), (9, yI (z9)), (0, yR k0), (2, yI (p2)), (3, yI (p3)), (4, yR k4), (5, yR k5)]) rfl ?_
                  refine yG.goto rfl (t := 6) rfl ?_
                  rw [show (a8 : Int).toNat + 1 = (a8 + 1 : Int).toNat by omega] at f6
                  exact yG.mono (yG.sub (i_6 (z62) (a8 + 1)     (by omega) (by omega) (by omega) (by omega) (by omega) (by omega) (by omega) (by omega) (by omega) (by omega) (by omega) (by omega) (by omega) (by omega) (by omega) ⟨g9, by omega, f6⟩ (by omega)) (ySub.cons rfl (ySub.cons rfl (ySub.cons rfl (ySub.cons rfl (ySub.cons rfl (ySub.cons rfl (ySub.cons rfl (ySub.nil))))))))) (by omega)
              · have c48 : (z9 : Int) < 16 := c48
                obtain ⟨f9, f1, f2⟩ := X_6
                obtain ⟨g9, rfl⟩ : ∃ g, f9 = g + 1 := ⟨f9 - 1, by omega⟩
                have f3 := f2 (by omega) (by omega)
                obtain ⟨f4, f5, f6⟩ := f3.1 (by omega)
                refine yG.load xik rfl (fun _ _ => rfl) (v := yI (z9)) rfl rfl ?_
                refine yG.num (c := 8) rfl (fun _ _ => rfl) (by decide) ?_
                refine yG.icmp rfl (t := 84) rfl ⟨by omega, by omega⟩ ⟨by omega, by omega⟩ (fun c63 => ?_) (fun c63 => ?_)
                · have c63 : (z9 : Int) < 8 := c63
                  refine yG.load xak rfl (fun _ _ => rfl) (v := yR k4) rfl rfl ?_
                  refine yG.store1 xak (L' := [(12, yR k4), (11, yI (1)), (10, yI (0)), (9, yI (z9)), (0, yR k0), (2, yI (p2)), (3, yI (p3)), (4, yR k4), (5, yR k5), (6, yJ (a6)), (8, yI (a8))]) rfl (fun _ _ => rfl) rfl rfl ?_
                  refine yG.load xlk2 rfl (fun _ _ => rfl) (v := yJ (a6)) rfl rfl ?_
                  refine yG.num (c := 1) rfl (fun _ _ => rfl) (by decide) ?_
                  refine yG.bit64 rfl (fun _ _ => rfl) (fun z64 e_z64 l_z64 u_z64 => ?_)
                  refine yG.load xik rfl (fun _ _ => rfl) (v := yI (a8)) rfl rfl ?_
                  refine yG.num (c := 2) rfl (fun _ _ => rfl) (by decide) ?_
                  refine yG.iadd rfl ?_
                  refine yG.num (c := 2048) rfl (fun _ _ => rfl) (by decide) ?_
                  refine yG.icmp rfl (t := 123) rfl ⟨by omega, by omega⟩ ⟨by omega, by omega⟩ (fun c65 => ?_) (fun c65 => ?_)
                  · have c65 : (a8 + 2 : Int) ≥ 2048 := c65
                    refine yG.num (c := 0) rfl (fun _ _ => rfl) (by decide) ?_
                    refine yG.i2l rfl ⟨by omega, by omega⟩ ?_
                    refine yG.bit64 rfl (fun _ _ => rfl) (fun z66 e_z66 l_z66 u_z66 => ?_)
                    refine yG.store2 xlk2 (L' := [(6, yJ (z66)), (12, yR k4), (11, yI (1)), (10, yI (0)), (9, yI (z9)), (0, yR k0), (2, yI (p2)), (3, yI (p3)), (4, yR k4), (5, yR k5), (8, yI (a8))]) rfl (fun _ _ => rfl) rfl rfl ?_
                    refine yG.iinc rfl (a := a8) rfl (L' := [(8, yI (a8 + 3)), (6, yJ (z66)), (12, yR k4), (11, yI (1)), (10, yI (0)), (9, yI (z9)), (0, yR k0), (2, yI (p2)), (3, yI (p3)), (4, yR k4), (5, yR k5)]) rfl ?_
                    refine yG.goto rfl (t := 215) rfl ?_
                    refine yG.goto rfl (t := 6) rfl ?_
                    rw [show (a8 : Int).toNat + 3 = (a8 + 3 : Int).toNat by omega] at f6
                    exact yG.mono (yG.sub (i_6 (z66) (a8 + 3)     (by omega) (by omega) (by omega) (by omega) (by omega) (by omega) (by omega) (by omega) (by omega) (by omega) (by omega) (by omega) (by omega) (by omega) (by omega) ⟨g9, by omega, f6⟩ (by omega)) (ySub.cons rfl (ySub.cons rfl (ySub.cons rfl (ySub.cons rfl (ySub.cons rfl (ySub.cons rfl (ySub.cons rfl (ySub.nil))))))))) (by omega)
                  · have c65 : (a8 + 2 : Int) < 2048 := c65
                    refine yG.load xak rfl (fun _ _ => rfl) (v := yR k0) rfl rfl ?_
                    refine yG.load xik rfl (fun _ _ => rfl) (v := yI (a8)) rfl rfl ?_
                    refine yG.load xik rfl (fun _ _ => rfl) (v := yI (z9)) rfl rfl ?_
                    refine yG.num (c := 8) rfl (fun _ _ => rfl) (by decide) ?_
                    refine yG.irem rfl ⟨by omega, by omega⟩ ⟨by omega, by omega⟩ (by omega) (by omega) ?_
                    obtain ⟨z67, e_z67⟩ : ∃ z : Int, z = (z9) % (8) := ⟨_, rfl⟩
                    rw [← e_z67]
                    refine yG.load xik rfl (fun _ _ => rfl) (v := yI (p3)) rfl rfl ?_
                    refine yG.load xak rfl (fun _ _ => rfl) (v := yR k4) rfl rfl ?_
                    have gd9 := f5 (by omega)
                    rw [show (a8 : Int).toNat + 1 = (a8 + 1 : Int).toNat by omega, show (a8 : Int).toNat + 2 = (a8 + 2 : Int).toNat by omega] at gd9
                    rw [show ys hp n1 (a8 : Int).toNat % 8 = z67 by omega] at gd9
                    refine yG.invV (rest := [yJ (z64)]) A_hp.1 (bOb (d_Rules W) H_k0) rfl rfl rfl rfl (c_Rules_isSo_s W d A_hp.1 H_k0 H_k4 H_n1 Q_n1 (a8) (z67) (p3) (by omega) (by omega) (by omega) (by omega) (by omega) (by omega) gd9) (fun rv hp9 q9 => ?_)
                    obtain ⟨⟨z68, rfl, l_z68, u_z68, R_z68⟩, e9⟩ := q9
                    rw [e9]
                    show yG _ _ _ _ _ _ _ _ _ _ (yI z68 :: [yJ (z64)]) _
                    refine yG.ifz rfl (t := 123) rfl ⟨by omega, by omega⟩ (fun c69 => ?_) (fun c69 => ?_)
                    · have c69 : (z68 : Int) = 0 := c69
                      refine yG.num (c := 0) rfl (fun _ _ => rfl) (by decide) ?_
                      refine yG.i2l rfl ⟨by omega, by omega⟩ ?_
                      refine yG.bit64 rfl (fun _ _ => rfl) (fun z70 e_z70 l_z70 u_z70 => ?_)
                      refine yG.store2 xlk2 (L' := [(6, yJ (z70)), (12, yR k4), (11, yI (1)), (10, yI (0)), (9, yI (z9)), (0, yR k0), (2, yI (p2)), (3, yI (p3)), (4, yR k4), (5, yR k5), (8, yI (a8))]) rfl (fun _ _ => rfl) rfl rfl ?_
                      refine yG.iinc rfl (a := a8) rfl (L' := [(8, yI (a8 + 3)), (6, yJ (z70)), (12, yR k4), (11, yI (1)), (10, yI (0)), (9, yI (z9)), (0, yR k0), (2, yI (p2)), (3, yI (p3)), (4, yR k4), (5, yR k5)]) rfl ?_
                      refine yG.goto rfl (t := 215) rfl ?_
                      refine yG.goto rfl (t := 6) rfl ?_
                      rw [show (a8 : Int).toNat + 3 = (a8 + 3 : Int).toNat by omega] at f6
                      exact yG.mono (yG.sub (i_6 (z70) (a8 + 3)     (by omega) (by omega) (by omega) (by omega) (by omega) (by omega) (by omega) (by omega) (by omega) (by omega) (by omega) (by omega) (by omega) (by omega) (by omega) ⟨g9, by omega, f6⟩ (by omega)) (ySub.cons rfl (ySub.cons rfl (ySub.cons rfl (ySub.cons rfl (ySub.cons rfl (ySub.cons rfl (ySub.cons rfl (ySub.nil))))))))) (by omega)
                    · have c69 : (z68 : Int) ≠ 0 := c69
                      refine yG.num (c := 1) rfl (fun _ _ => rfl) (by decide) ?_
                      refine yG.goto rfl (t := 124) rfl ?_
                      refine yG.i2l rfl ⟨by omega, by omega⟩ ?_
                      refine yG.bit64 rfl (fun _ _ => rfl) (fun z71 e_z71 l_z71 u_z71 => ?_)
                      refine yG.store2 xlk2 (L' := [(6, yJ (z71)), (12, yR k4), (11, yI (1)), (10, yI (0)), (9, yI (z9)), (0, yR k0), (2, yI (p2)), (3, yI (p3)), (4, yR k4), (5, yR k5), (8, yI (a8))]) rfl (fun _ _ => rfl) rfl rfl ?_
                      refine yG.iinc rfl (a := a8) rfl (L' := [(8, yI (a8 + 3)), (6, yJ (z71)), (12, yR k4), (11, yI (1)), (10, yI (0)), (9, yI (z9)), (0, yR k0), (2, yI (p2)), (3, yI (p3)), (4, yR k4), (5, yR k5)]) rfl ?_
                      refine yG.goto rfl (t := 215) rfl ?_
                      refine yG.goto rfl (t := 6) rfl ?_
                      rw [show (a8 : Int).toNat + 3 = (a8 + 3 : Int).toNat by omega] at f6
                      exact yG.mono (yG.sub (i_6 (z71) (a8 + 3)     (by omega) (by omega) (by omega) (by omega) (by omega) (by omega) (by omega) (by omega) (by omega) (by omega) (by omega) (by omega) (by omega) (by omega) (by omega) ⟨g9, by omega, f6⟩ (by omega)) (ySub.cons rfl (ySub.cons rfl (ySub.cons rfl (ySub.cons rfl (ySub.cons rfl (ySub.cons rfl (ySub.cons rfl (ySub.nil))))))))) (by omega)
                · have c63 : (z9 : Int) ≥ 8 := c63
                  refine yG.load xak rfl (fun _ _ => rfl) (v := yR k5) rfl rfl ?_
                  refine yG.goto rfl (t := 86) rfl ?_
                  refine yG.store1 xak (L' := [(12, yR k5), (11, yI (1)), (10, yI (0)), (9, yI (z9)), (0, yR k0), (2, yI (p2)), (3, yI (p3)), (4, yR k4), (5, yR k5), (6, yJ (a6)), (8, yI (a8))]) rfl (fun _ _ => rfl) rfl rfl ?_
                  refine yG.load xlk2 rfl (fun _ _ => rfl) (v := yJ (a6)) rfl rfl ?_
                  refine yG.num (c := 1) rfl (fun _ _ => rfl) (by decide) ?_
                  refine yG.bit64 rfl (fun _ _ => rfl) (fun z72 e_z72 l_z72 u_z72 => ?_)
                  refine yG.load xik rfl (fun _ _ => rfl) (v := yI (a8)) rfl rfl ?_
                  refine yG.num (c := 2) rfl (fun _ _ => rfl) (by decide) ?_
                  refine yG.iadd rfl ?_
                  refine yG.num (c := 2048) rfl (fun _ _ => rfl) (by decide) ?_
                  refine yG.icmp rfl (t := 123) rfl ⟨by omega, by omega⟩ ⟨by omega, by omega⟩ (fun c73 => ?_) (fun c73 => ?_)
                  · have c73 : (a8 + 2 : Int) ≥ 2048 := c73
                    refine yG.num (c := 0) rfl (fun _ _ => rfl) (by decide) ?_
                    refine yG.i2l rfl ⟨by omega, by omega⟩ ?_
                    refine yG.bit64 rfl (fun _ _ => rfl) (fun z74 e_z74 l_z74 u_z74 => ?_)
                    refine yG.store2 xlk2 (L' := [(6, yJ (z74)), (12, yR k5), (11, yI (1)), (10, yI (0)), (9, yI (z9)), (0, yR k0), (2, yI (p2)), (3, yI (p3)), (4, yR k4), (5, yR k5), (8, yI (a8))]) rfl (fun _ _ => rfl) rfl rfl ?_
                    refine yG.iinc rfl (a := a8) rfl (L' := [(8, yI (a8 + 3)), (6, yJ (z74)), (12, yR k5), (11, yI (1)), (10, yI (0)), (9, yI (z9)), (0, yR k0), (2, yI (p2)), (3, yI (p3)), (4, yR k4), (5, yR k5)]) rfl ?_
                    refine yG.goto rfl (t := 215) rfl ?_
                    refine yG.goto rfl (t := 6) rfl ?_
                    rw [show (a8 : Int).toNat + 3 = (a8 + 3 : Int).toNat by omega] at f6
                    exact yG.mono (yG.sub (i_6 (z74) (a8 + 3)     (by omega) (by omega) (by omega) (by omega) (by omega) (by omega) (by omega) (by omega) (by omega) (by omega) (by omega) (by omega) (by omega) (by omega) (by omega) ⟨g9, by omega, f6⟩ (by omega)) (ySub.cons rfl (ySub.cons rfl (ySub.cons rfl (ySub.cons rfl (ySub.cons rfl (ySub.cons rfl (ySub.cons rfl (ySub.nil))))))))) (by omega)
                  · have c73 : (a8 + 2 : Int) < 2048 := c73
                    refine yG.load xak rfl (fun _ _ => rfl) (v := yR k0) rfl rfl ?_
                    refine yG.load xik rfl (fun _ _ => rfl) (v := yI (a8)) rfl rfl ?_
                    refine yG.load xik rfl (fun _ _ => rfl) (v := yI (z9)) rfl rfl ?_
                    refine yG.num (c := 8) rfl (fun _ _ => rfl) (by decide) ?_
                    refine yG.irem rfl ⟨by omega, by omega⟩ ⟨by omega, by omega⟩ (by omega) (by omega) ?_
                    obtain ⟨z75, e_z75⟩ : ∃ z : Int, z = (z9) % (8) := ⟨_, rfl⟩
                    rw [← e_z75]
                    refine yG.load xik rfl (fun _ _ => rfl) (v := yI (p3)) rfl rfl ?_
                    refine yG.load xak rfl (fun _ _ => rfl) (v := yR k5) rfl rfl ?_
                    have gd9 := f5 (by omega)
                    rw [show (a8 : Int).toNat + 1 = (a8 + 1 : Int).toNat by omega, show (a8 : Int).toNat + 2 = (a8 + 2 : Int).toNat by omega] at gd9
                    rw [show ys hp n1 (a8 : Int).toNat % 8 = z75 by omega] at gd9
                    refine yG.invV (rest := [yJ (z72)]) A_hp.1 (bOb (d_Rules W) H_k0) rfl rfl rfl rfl (c_Rules_isSo_s W d A_hp.1 H_k0 H_k5 H_n1 Q_n1 (a8) (z75) (p3) (by omega) (by omega) (by omega) (by omega) (by omega) (by omega) gd9) (fun rv hp9 q9 => ?_)
                    obtain ⟨⟨z76, rfl, l_z76, u_z76, R_z76⟩, e9⟩ := q9
                    rw [e9]
                    show yG _ _ _ _ _ _ _ _ _ _ (yI z76 :: [yJ (z72)]) _
                    refine yG.ifz rfl (t := 123) rfl ⟨by omega, by omega⟩ (fun c77 => ?_) (fun c77 => ?_)
                    · have c77 : (z76 : Int) = 0 := c77
                      refine yG.num (c := 0) rfl (fun _ _ => rfl) (by decide) ?_
                      refine yG.i2l rfl ⟨by omega, by omega⟩ ?_
                      refine yG.bit64 rfl (fun _ _ => rfl) (fun z78 e_z78 l_z78 u_z78 => ?_)
                      refine yG.store2 xlk2 (L' := [(6, yJ (z78)), (12, yR k5), (11, yI (1)), (10, yI (0)), (9, yI (z9)), (0, yR k0), (2, yI (p2)), (3, yI (p3)), (4, yR k4), (5, yR k5), (8, yI (a8))]) rfl (fun _ _ => rfl) rfl rfl ?_
                      refine yG.iinc rfl (a := a8) rfl (L' := [(8, yI (a8 + 3)), (6, yJ (z78)), (12, yR k5), (11, yI (1)), (10, yI (0)), (9, yI (z9)), (0, yR k0), (2, yI (p2)), (3, yI (p3)), (4, yR k4), (5, yR k5)]) rfl ?_
                      refine yG.goto rfl (t := 215) rfl ?_
                      refine yG.goto rfl (t := 6) rfl ?_
                      rw [show (a8 : Int).toNat + 3 = (a8 + 3 : Int).toNat by omega] at f6
                      exact yG.mono (yG.sub (i_6 (z78) (a8 + 3)     (by omega) (by omega) (by omega) (by omega) (by omega) (by omega) (by omega) (by omega) (by omega) (by omega) (by omega) (by omega) (by omega) (by omega) (by omega) ⟨g9, by omega, f6⟩ (by omega)) (ySub.cons rfl (ySub.cons rfl (ySub.cons rfl (ySub.cons rfl (ySub.cons rfl (ySub.cons rfl (ySub.cons rfl (ySub.nil))))))))) (by omega)
                    · have c77 : (z76 : Int) ≠ 0 := c77
                      refine yG.num (c := 1) rfl (fun _ _ => rfl) (by decide) ?_
                      refine yG.goto rfl (t := 124) rfl ?_
                      refine yG.i2l rfl ⟨by omega, by omega⟩ ?_
                      refine yG.bit64 rfl (fun _ _ => rfl) (fun z79 e_z79 l_z79 u_z79 => ?_)
                      refine yG.store2 xlk2 (L' := [(6, yJ (z79)), (12, yR k5), (11, yI (1)), (10, yI (0)), (9, yI (z9)), (0, yR k0), (2, yI (p2)), (3, yI (p3)), (4, yR k4), (5, yR k5), (8, yI (a8))]) rfl (fun _ _ => rfl) rfl rfl ?_
                      refine yG.iinc rfl (a := a8) rfl (L' := [(8, yI (a8 + 3)), (6, yJ (z79)), (12, yR k5), (11, yI (1)), (10, yI (0)), (9, yI (z9)), (0, yR k0), (2, yI (p2)), (3, yI (p3)), (4, yR k4), (5, yR k5)]) rfl ?_
                      refine yG.goto rfl (t := 215) rfl ?_
                      refine yG.goto rfl (t := 6) rfl ?_
                      rw [show (a8 : Int).toNat + 3 = (a8 + 3 : Int).toNat by omega] at f6
                      exact yG.mono (yG.sub (i_6 (z79) (a8 + 3)     (by omega) (by omega) (by omega) (by omega) (by omega) (by omega) (by omega) (by omega) (by omega) (by omega) (by omega) (by omega) (by omega) (by omega) (by omega) ⟨g9, by omega, f6⟩ (by omega)) (ySub.cons rfl (ySub.cons rfl (ySub.cons rfl (ySub.cons rfl (ySub.cons rfl (ySub.cons rfl (ySub.cons rfl (ySub.nil))))))))) (by omega)
          · have c12 : (z11 : Int) = 0 := c12
            refine yG.num (c := 1) rfl (fun _ _ => rfl) (by decide) ?_
            refine yG.goto rfl (t := 43) rfl ?_
            refine yG.store1 xik (L' := [(10, yI (1)), (9, yI (z9)), (0, yR k0), (2, yI (p2)), (3, yI (p3)), (4, yR k4), (5, yR k5), (6, yJ (a6)), (8, yI (a8))]) rfl (fun _ _ => rfl) rfl rfl ?_
            refine yG.load xlk2 rfl (fun _ _ => rfl) (v := yJ (a6)) rfl rfl ?_
            refine yG.numl (c := 2) rfl (fun _ _ => rfl) (by decide) ?_
            refine yG.bit64 rfl (fun _ _ => rfl) (fun z80 e_z80 l_z80 u_z80 => ?_)
            have b_z80 : 0 ≤ z80 ∧ z80 ≤ 2 := by rw [e_z80]; exact yland ⟨by decide, by decide⟩ (by decide)
            refine yG.numl (c := 2) rfl (fun _ _ => rfl) (by decide) ?_
            refine yG.lcmp rfl ⟨by omega, by omega⟩ ⟨by omega, by omega⟩ (fun z81 e_z81 => ?_)
            refine yG.ifz rfl (t := 62) rfl ⟨by omega, by omega⟩ (fun c82 => ?_) (fun c82 => ?_)
            · have c82 : (z81 : Int) ≠ 0 := c82
              refine yG.num (c := 0) rfl (fun _ _ => rfl) (by decide) ?_
              refine yG.store1 xik (L' := [(11, yI (0)), (10, yI (1)), (9, yI (z9)), (0, yR k0), (2, yI (p2)), (3, yI (p3)), (4, yR k4), (5, yR k5), (6, yJ (a6)), (8, yI (a8))]) rfl (fun _ _ => rfl) rfl rfl ?_
              refine yG.load xik rfl (fun _ _ => rfl) (v := yI (z9)) rfl rfl ?_
              refine yG.num (c := 16) rfl (fun _ _ => rfl) (by decide) ?_
              refine yG.icmp rfl (t := 134) rfl ⟨by omega, by omega⟩ ⟨by omega, by omega⟩ (fun c83 => ?_) (fun c83 => ?_)
              · have c83 : (z9 : Int) ≥ 16 := c83
                obtain ⟨f9, f1, f2⟩ := X_6
                obtain ⟨g9, rfl⟩ : ∃ g, f9 = g + 1 := ⟨f9 - 1, by omega⟩
                have f3 := f2 (by omega) (by omega)
                have f6 := f3.2 (by omega)
                refine yG.load xik rfl (fun _ _ => rfl) (v := yI (z9)) rfl rfl ?_
                refine yG.num (c := 16) rfl (fun _ _ => rfl) (by decide) ?_
                refine yG.icmp rfl (t := 150) rfl ⟨by omega, by omega⟩ ⟨by omega, by omega⟩ (fun c84 => ?_) (fun c84 => ?_)
                · have c84 : (z9 : Int) ≠ 16 := c84
                  refine yG.load xik rfl (fun _ _ => rfl) (v := yI (z9)) rfl rfl ?_
                  refine yG.num (c := 17) rfl (fun _ _ => rfl) (by decide) ?_
                  refine yG.icmp rfl (t := 175) rfl ⟨by omega, by omega⟩ ⟨by omega, by omega⟩ (fun c85 => ?_) (fun c85 => ?_)
                  · have c85 : (z9 : Int) ≠ 17 := c85
                    refine yG.load xik rfl (fun _ _ => rfl) (v := yI (1)) rfl rfl ?_
                    refine yG.ifz rfl (t := 185) rfl ⟨by omega, by omega⟩ (fun c86 => ?_) (fun c86 => ?_)
                    · have c86 : (1 : Int) ≠ 0 := c86
                      refine yG.num (c := 1) rfl (fun _ _ => rfl) (by decide) ?_
                      refine yG.goto rfl (t := 190) rfl ?_
                      refine yG.store1 xik (L' := [(12, yI (1)), (11, yI (0)), (10, yI (1)), (9, yI (z9)), (0, yR k0), (2, yI (p2)), (3, yI (p3)), (4, yR k4), (5, yR k5), (6, yJ (a6)), (8, yI (a8))]) rfl (fun _ _ => rfl) rfl rfl ?_
                      refine yG.load xlk2 rfl (fun _ _ => rfl) (v := yJ (a6)) rfl rfl ?_
                      refine yG.num (c := 2) rfl (fun _ _ => rfl) (by decide) ?_
                      refine yG.bit64 rfl (fun _ _ => rfl) (fun z87 e_z87 l_z87 u_z87 => ?_)
                      have b_z87 : z87 = ((zc64 (a6) : Nat) : Int) / 4 := by rw [e_z87]; exact blushr (n := 2) (by decide) (by decide) (by decide)
                      have c_z87 : zc64 (a6) < 18446744073709551616 := by unfold zc64; omega
                      refine yG.num (c := 1) rfl (fun _ _ => rfl) (by decide) ?_
                      refine yG.bit64 rfl (fun _ _ => rfl) (fun z88 e_z88 l_z88 u_z88 => ?_)
                      have b_z88 : z88 = (z87) * 2 ^ 1 := by rw [e_z88]; exact bshl (n := 1) (by omega) (by omega) (by decide) (by decide)
                      subst b_z88
                      clear e_z88 l_z88 u_z88
                      refine yG.load xik rfl (fun _ _ => rfl) (v := yI (1)) rfl rfl ?_
                      refine yG.ifz rfl (t := 207) rfl ⟨by omega, by omega⟩ (fun c89 => ?_) (fun c89 => ?_)
                      · have c89 : (1 : Int) = 0 := c89
                        exfalso; omega
                      · have c89 : (1 : Int) ≠ 0 := c89
                        refine yG.num (c := 1) rfl (fun _ _ => rfl) (by decide) ?_
                        refine yG.goto rfl (t := 208) rfl ?_
                        refine yG.i2l rfl ⟨by omega, by omega⟩ ?_
                        refine yG.bit64 rfl (fun _ _ => rfl) (fun z90 e_z90 l_z90 u_z90 => ?_)
                        have b_z90 : z90 = (z87) * 2 ^ 1 + 1 := by rw [e_z90]; exact blor (by omega) (by omega) (by omega) (by omega)
                        refine yG.store2 xlk2 (L' := [(6, yJ (z90)), (12, yI (1)), (11, yI (0)), (10, yI (1)), (9, yI (z9)), (0, yR k0), (2, yI (p2)), (3, yI (p3)), (4, yR k4), (5, yR k5), (8, yI (a8))]) rfl (fun _ _ => rfl) rfl rfl ?_
                        refine yG.iinc rfl (a := a8) rfl (L' := [(8, yI (a8 + 1)), (6, yJ (z90)), (12, yI (1)), (11, yI (0)), (10, yI (1)), (9, yI (z9)), (0, yR k0), (2, yI (p2)), (3, yI (p3)), (4, yR k4), (5, yR k5)]) rfl ?_
                        refine yG.goto rfl (t := 6) rfl ?_
                        rw [show (a8 : Int).toNat + 1 = (a8 + 1 : Int).toNat by omega] at f6
                        exact yG.mono (yG.sub (i_6 (z90) (a8 + 1)     (by omega) (by omega) (by omega) (by omega) (by omega) (by omega) (by omega) (by omega) (by omega) (by omega) (by omega) (by omega) (by omega) (by omega) (by omega) ⟨g9, by omega, f6⟩ (by omega)) (ySub.cons rfl (ySub.cons rfl (ySub.cons rfl (ySub.cons rfl (ySub.cons rfl (ySub.cons rfl (ySub.cons rfl (ySub.nil))))))))) (by omega)
                    · have c86 : (1 : Int) = 0 := c86
                      exfalso; omega
                  · have c85 : (z9 : Int) = 17 := c85
                    refine yG.load xik rfl (fun _ _ => rfl) (v := yI (1)) rfl rfl ?_
                    refine yG.ifz rfl (t := 171) rfl ⟨by omega, by omega⟩ (fun c91 => ?_) (fun c91 => ?_)
                    · have c91 : (1 : Int) = 0 := c91
                      exfalso; omega
                    · have c91 : (1 : Int) ≠ 0 := c91
                      refine yG.load xik rfl (fun _ _ => rfl) (v := yI (0)) rfl rfl ?_
                      refine yG.ifz rfl (t := 171) rfl ⟨by omega, by omega⟩ (fun c92 => ?_) (fun c92 => ?_)
                      · have c92 : (0 : Int) = 0 := c92
                        refine yG.num (c := 0) rfl (fun _ _ => rfl) (by decide) ?_
                        refine yG.goto rfl (t := 190) rfl ?_
                        refine yG.store1 xik (L' := [(12, yI (0)), (11, yI (0)), (10, yI (1)), (9, yI (z9)), (0, yR k0), (2, yI (p2)), (3, yI (p3)), (4, yR k4), (5, yR k5), (6, yJ (a6)), (8, yI (a8))]) rfl (fun _ _ => rfl) rfl rfl ?_
                        refine yG.load xlk2 rfl (fun _ _ => rfl) (v := yJ (a6)) rfl rfl ?_
                        refine yG.num (c := 2) rfl (fun _ _ => rfl) (by decide) ?_
                        refine yG.bit64 rfl (fun _ _ => rfl) (fun z93 e_z93 l_z93 u_z93 => ?_)
                        have b_z93 : z93 = ((zc64 (a6) : Nat) : Int) / 4 := by rw [e_z93]; exact blushr (n := 2) (by decide) (by decide) (by decide)
                        have c_z93 : zc64 (a6) < 18446744073709551616 := by unfold zc64; omega
                        refine yG.num (c := 1) rfl (fun _ _ => rfl) (by decide) ?_
                        refine yG.bit64 rfl (fun _ _ => rfl) (fun z94 e_z94 l_z94 u_z94 => ?_)
                        have b_z94 : z94 = (z93) * 2 ^ 1 := by rw [e_z94]; exact bshl (n := 1) (by omega) (by omega) (by decide) (by decide)
                        subst b_z94
                        clear e_z94 l_z94 u_z94
                        refine yG.load xik rfl (fun _ _ => rfl) (v := yI (0)) rfl rfl ?_
                        refine yG.ifz rfl (t := 207) rfl ⟨by omega, by omega⟩ (fun c95 => ?_) (fun c95 => ?_)
                        · have c95 : (0 : Int) = 0 := c95
                          refine yG.num (c := 0) rfl (fun _ _ => rfl) (by decide) ?_
                          refine yG.i2l rfl ⟨by omega, by omega⟩ ?_
                          refine yG.bit64 rfl (fun _ _ => rfl) (fun z96 e_z96 l_z96 u_z96 => ?_)
                          have b_z96 : z96 = (z93) * 2 ^ 1 + 0 := by rw [e_z96]; exact blor (by omega) (by omega) (by omega) (by omega)
                          refine yG.store2 xlk2 (L' := [(6, yJ (z96)), (12, yI (0)), (11, yI (0)), (10, yI (1)), (9, yI (z9)), (0, yR k0), (2, yI (p2)), (3, yI (p3)), (4, yR k4), (5, yR k5), (8, yI (a8))]) rfl (fun _ _ => rfl) rfl rfl ?_
                          refine yG.iinc rfl (a := a8) rfl (L' := [(8, yI (a8 + 1)), (6, yJ (z96)), (12, yI (0)), (11, yI (0)), (10, yI (1)), (9, yI (z9)), (0, yR k0), (2, yI (p2)), (3, yI (p3)), (4, yR k4), (5, yR k5)]) rfl ?_
                          refine yG.goto rfl (t := 6) rfl ?_
                          rw [show (a8 : Int).toNat + 1 = (a8 + 1 : Int).toNat by omega] at f6
                          exact yG.mono (yG.sub (i_6 (z96) (a8 + 1)     (by omega) (by omega) (by omega) (by omega) (by omega) (by omega) (by omega) (by omega) (by omega) (by omega) (by omega) (by omega) (by omega) (by omega) (by omega) ⟨g9, by omega, f6⟩ (by omega)) (ySub.cons rfl (ySub.cons rfl (ySub.cons rfl (ySub.cons rfl (ySub.cons rfl (ySub.cons rfl (ySub.cons rfl (ySub.nil))))))))) (by omega)
                        · have c95 : (0 : Int) ≠ 0 := c95
                          exfalso; omega
                      · have c92 : (0 : Int) ≠ 0 := c92
                        exfalso; omega
                · have c84 : (z9 : Int) = 16 := c84
                  refine yG.load xlk2 rfl (fun _ _ => rfl) (v := yJ (a6)) rfl rfl ?_
                  refine yG.numl (c := 1) rfl (fun _ _ => rfl) (by decide) ?_
                  refine yG.bit64 rfl (fun _ _ => rfl) (fun z97 e_z97 l_z97 u_z97 => ?_)
                  refine yG.store2 xlk2 (L' := [(6, yJ (z97)), (11, yI (0)), (10, yI (1)), (9, yI (z9)), (0, yR k0), (2, yI (p2)), (3, yI (p3)), (4, yR k4), (5, yR k5), (8, yI (a8))]) rfl (fun _ _ => rfl) rfl rfl ?_
                  refine yG.goto rfl (t := 212) rfl ?_
                  refine yG.iinc rfl (a := a8) rfl (L' := [(8, yI (a8 + 1)), (6, yJ (z97)), (11, yI (0)), (10, yI (1)), (9, yI (z9)), (0, yR k0), (2, yI (p2)), (3, yI (p3)), (4, yR k4), (5, yR k5)]) rfl ?_
                  refine yG.goto rfl (t := 6) rfl ?_
                  rw [show (a8 : Int).toNat + 1 = (a8 + 1 : Int).toNat by omega] at f6
                  exact yG.mono (yG.sub (i_6 (z97) (a8 + 1)     (by omega) (by omega) (by omega) (by omega) (by omega) (by omega) (by omega) (by omega) (by omega) (by omega) (by omega) (by omega) (by omega) (by omega) (by omega) ⟨g9, by omega, f6⟩ (by omega)) (ySub.cons rfl (ySub.cons rfl (ySub.cons rfl (ySub.cons rfl (ySub.cons rfl (ySub.cons rfl (ySub.cons rfl (ySub.nil))))))))) (by omega)
              · have c83 : (z9 : Int) < 16 := c83
                obtain ⟨f9, f1, f2⟩ := X_6
                obtain ⟨g9, rfl⟩ : ∃ g, f9 = g + 1 := ⟨f9 - 1, by omega⟩
                have f3 := f2 (by omega) (by omega)
                obtain ⟨f4, f5, f6⟩ := f3.1 (by omega)
                refine yG.load xik rfl (fun _ _ => rfl) (v := yI (z9)) rfl rfl ?_
                refine yG.num (c := 8) rfl (fun _ _ => rfl) (by decide) ?_
                refine yG.icmp rfl (t := 84) rfl ⟨by omega, by omega⟩ ⟨by omega, by omega⟩ (fun c98 => ?_) (fun c98 => ?_)
                · have c98 : (z9 : Int) < 8 := c98
                  refine yG.load xak rfl (fun _ _ => rfl) (v := yR k4) rfl rfl ?_
                  refine yG.store1 xak (L' := [(12, yR k4), (11, yI (0)), (10, yI (1)), (9, yI (z9)), (0, yR k0), (2, yI (p2)), (3, yI (p3)), (4, yR k4), (5, yR k5), (6, yJ (a6)), (8, yI (a8))]) rfl (fun _ _ => rfl) rfl rfl ?_
                  refine yG.load xlk2 rfl (fun _ _ => rfl) (v := yJ (a6)) rfl rfl ?_
                  refine yG.num (c := 1) rfl (fun _ _ => rfl) (by decide) ?_
                  refine yG.bit64 rfl (fun _ _ => rfl) (fun z99 e_z99 l_z99 u_z99 => ?_)
                  refine yG.load xik rfl (fun _ _ => rfl) (v := yI (a8)) rfl rfl ?_
                  refine yG.num (c := 2) rfl (fun _ _ => rfl) (by decide) ?_
                  refine yG.iadd rfl ?_
                  refine yG.num (c := 2048) rfl (fun _ _ => rfl) (by decide) ?_
                  refine yG.icmp rfl (t := 123) rfl ⟨by omega, by omega⟩ ⟨by omega, by omega⟩ (fun c100 => ?_) (fun c100 => ?_)
                  · have c100 : (a8 + 2 : Int) ≥ 2048 := c100
                    refine yG.num (c := 0) rfl (fun _ _ => rfl) (by decide) ?_
                    refine yG.i2l rfl ⟨by omega, by omega⟩ ?_
                    refine yG.bit64 rfl (fun _ _ => rfl) (fun z101 e_z101 l_z101 u_z101 => ?_)
                    refine yG.store2 xlk2 (L' := [(6, yJ (z101)), (12, yR k4), (11, yI (0)), (10, yI (1)), (9, yI (z9)), (0, yR k0), (2, yI (p2)), (3, yI (p3)), (4, yR k4), (5, yR k5), (8, yI (a8))]) rfl (fun _ _ => rfl) rfl rfl ?_
                    refine yG.iinc rfl (a := a8) rfl (L' := [(8, yI (a8 + 3)), (6, yJ (z101)), (12, yR k4), (11, yI (0)), (10, yI (1)), (9, yI (z9)), (0, yR k0), (2, yI (p2)), (3, yI (p3)), (4, yR k4), (5, yR k5)]) rfl ?_
                    refine yG.goto rfl (t := 215) rfl ?_
                    refine yG.goto rfl (t := 6) rfl ?_
                    rw [show (a8 : Int).toNat + 3 = (a8 + 3 : Int).toNat by omega] at f6
                    exact yG.mono (yG.sub (i_6 (z101) (a8 + 3)     (by omega) (by omega) (by omega) (by omega) (by omega) (by omega) (by omega) (by omega) (by omega) (by omega) (by omega) (by omega) (by omega) (by omega) (by omega) ⟨g9, by omega, f6⟩ (by omega)) (ySub.cons rfl (ySub.cons rfl (ySub.cons rfl (ySub.cons rfl (ySub.cons rfl (ySub.cons rfl (ySub.cons rfl (ySub.nil))))))))) (by omega)
                  · have c100 : (a8 + 2 : Int) < 2048 := c100
                    refine yG.load xak rfl (fun _ _ => rfl) (v := yR k0) rfl rfl ?_
                    refine yG.load xik rfl (fun _ _ => rfl) (v := yI (a8)) rfl rfl ?_
                    refine yG.load xik rfl (fun _ _ => rfl) (v := yI (z9)) rfl rfl ?_
                    refine yG.num (c := 8) rfl (fun _ _ => rfl) (by decide) ?_
                    refine yG.irem rfl ⟨by omega, by omega⟩ ⟨by omega, by omega⟩ (by omega) (by omega) ?_
                    obtain ⟨z102, e_z102⟩ : ∃ z : Int, z = (z9) % (8) := ⟨_, rfl⟩
                    rw [← e_z102]
                    refine yG.load xik rfl (fun _ _ => rfl) (v := yI (p3)) rfl rfl ?_
                    refine yG.load xak rfl (fun _ _ => rfl) (v := yR k4) rfl rfl ?_
                    have gd9 := f5 (by omega)
                    rw [show (a8 : Int).toNat + 1 = (a8 + 1 : Int).toNat by omega, show (a8 : Int).toNat + 2 = (a8 + 2 : Int).toNat by omega] at gd9
                    rw [show ys hp n1 (a8 : Int).toNat % 8 = z102 by omega] at gd9
                    refine yG.invV (rest := [yJ (z99)]) A_hp.1 (bOb (d_Rules W) H_k0) rfl rfl rfl rfl (c_Rules_isSo_s W d A_hp.1 H_k0 H_k4 H_n1 Q_n1 (a8) (z102) (p3) (by omega) (by omega) (by omega) (by omega) (by omega) (by omega) gd9) (fun rv hp9 q9 => ?_)
                    obtain ⟨⟨z103, rfl, l_z103, u_z103, R_z103⟩, e9⟩ := q9
                    rw [e9]
                    show yG _ _ _ _ _ _ _ _ _ _ (yI z103 :: [yJ (z99)]) _
                    refine yG.ifz rfl (t := 123) rfl ⟨by omega, by omega⟩ (fun c104 => ?_) (fun c104 => ?_)
                    · have c104 : (z103 : Int) = 0 := c104
                      refine yG.num (c := 0) rfl (fun _ _ => rfl) (by decide) ?_
                      refine yG.i2l rfl ⟨by omega, by omega⟩ ?_
                      refine yG.bit64 rfl (fun _ _ => rfl) (fun z105 e_z105 l_z105 u_z105 => ?_)
                      refine yG.store2 xlk2 (L' := [(6, yJ (z105)), (12, yR k4), (11, yI (0)), (10, yI (1)), (9, yI (z9)), (0, yR k0), (2, yI (p2)), (3, yI (p3)), (4, yR k4), (5, yR k5), (8, yI (a8))]) rfl (fun _ _ => rfl) rfl rfl ?_
                      refine yG.iinc rfl (a := a8) rfl (L' := [(8, yI (a8 + 3)), (6, yJ (z105)), (12, yR k4), (11, yI (0)), (10, yI (1)), (9, yI (z9)), (0, yR k0), (2, yI (p2)), (3, yI (p3)), (4, yR k4), (5, yR k5)]) rfl ?_
                      refine yG.goto rfl (t := 215) rfl ?_
                      refine yG.goto rfl (t := 6) rfl ?_
                      rw [show (a8 : Int).toNat + 3 = (a8 + 3 : Int).toNat by omega] at f6
                      exact yG.mono (yG.sub (i_6 (z105) (a8 + 3)     (by omega) (by omega) (by omega) (by omega) (by omega) (by omega) (by omega) (by omega) (by omega) (by omega) (by omega) (by omega) (by omega) (by omega) (by omega) ⟨g9, by omega, f6⟩ (by omega)) (ySub.cons rfl (ySub.cons rfl (ySub.cons rfl (ySub.cons rfl (ySub.cons rfl (ySub.cons rfl (ySub.cons rfl (ySub.nil))))))))) (by omega)
                    · have c104 : (z103 : Int) ≠ 0 := c104
                      refine yG.num (c := 1) rfl (fun _ _ => rfl) (by decide) ?_
                      refine yG.goto rfl (t := 124) rfl ?_
                      refine yG.i2l rfl ⟨by omega, by omega⟩ ?_
                      refine yG.bit64 rfl (fun _ _ => rfl) (fun z106 e_z106 l_z106 u_z106 => ?_)
                      refine yG.store2 xlk2 (L' := [(6, yJ (z106)), (12, yR k4), (11, yI (0)), (10, yI (1)), (9, yI (z9)), (0, yR k0), (2, yI (p2)), (3, yI (p3)), (4, yR k4), (5, yR k5), (8, yI (a8))]) rfl (fun _ _ => rfl) rfl rfl ?_
                      refine yG.iinc rfl (a := a8) rfl (L' := [(8, yI (a8 + 3)), (6, yJ (z106)), (12, yR k4), (11, yI (0)), (10, yI (1)), (9, yI (z9)), (0, yR k0), (2, yI (p2)), (3, yI (p3)), (4, yR k4), (5, yR k5)]) rfl ?_
                      refine yG.goto rfl (t := 215) rfl ?_
                      refine yG.goto rfl (t := 6) rfl ?_
                      rw [show (a8 : Int).toNat + 3 = (a8 + 3 : Int).toNat by omega] at f6
                      exact yG.mono (yG.sub (i_6 (z106) (a8 + 3)     (by omega) (by omega) (by omega) (by omega) (by omega) (by omega) (by omega) (by omega) (by omega) (by omega) (by omega) (by omega) (by omega) (by omega) (by omega) ⟨g9, by omega, f6⟩ (by omega)) (ySub.cons rfl (ySub.cons rfl (ySub.cons rfl (ySub.cons rfl (ySub.cons rfl (ySub.cons rfl (ySub.cons rfl (ySub.nil))))))))) (by omega)
                · have c98 : (z9 : Int) ≥ 8 := c98
                  refine yG.load xak rfl (fun _ _ => rfl) (v := yR k5) rfl rfl ?_
                  refine yG.goto rfl (t := 86) rfl ?_
                  refine yG.store1 xak (L' := [(12, yR k5), (11, yI (0)), (10, yI (1)), (9, yI (z9)), (0, yR k0), (2, yI (p2)), (3, yI (p3)), (4, yR k4), (5, yR k5), (6, yJ (a6)), (8, yI (a8))]) rfl (fun _ _ => rfl) rfl rfl ?_
                  refine yG.load xlk2 rfl (fun _ _ => rfl) (v := yJ (a6)) rfl rfl ?_
                  refine yG.num (c := 1) rfl (fun _ _ => rfl) (by decide) ?_
                  refine yG.bit64 rfl (fun _ _ => rfl) (fun z107 e_z107 l_z107 u_z107 => ?_)
                  refine yG.load xik rfl (fun _ _ => rfl) (v := yI (a8)) rfl rfl ?_
                  refine yG.num (c := 2) rfl (fun _ _ => rfl) (by decide) ?_
                  refine yG.iadd rfl ?_
                  refine yG.num (c := 2048) rfl (fun _ _ => rfl) (by decide) ?_
                  refine yG.icmp rfl (t := 123) rfl ⟨by omega, by omega⟩ ⟨by omega, by omega⟩ (fun c108 => ?_) (fun c108 => ?_)
                  · have c108 : (a8 + 2 : Int) ≥ 2048 := c108
                    refine yG.num (c := 0) rfl (fun _ _ => rfl) (by decide) ?_
                    refine yG.i2l rfl ⟨by omega, by omega⟩ ?_
                    refine yG.bit64 rfl (fun _ _ => rfl) (fun z109 e_z109 l_z109 u_z109 => ?_)
                    refine yG.store2 xlk2 (L' := [(6, yJ (z109)), (12, yR k5), (11, yI (0)), (10, yI (1)), (9, yI (z9)), (0, yR k0), (2, yI (p2)), (3, yI (p3)), (4, yR k4), (5, yR k5), (8, yI (a8))]) rfl (fun _ _ => rfl) rfl rfl ?_
                    refine yG.iinc rfl (a := a8) rfl (L' := [(8, yI (a8 + 3)), (6, yJ (z109)), (12, yR k5), (11, yI (0)), (10, yI (1)), (9, yI (z9)), (0, yR k0), (2, yI (p2)), (3, yI (p3)), (4, yR k4), (5, yR k5)]) rfl ?_
                    refine yG.goto rfl (t := 215) rfl ?_
                    refine yG.goto rfl (t := 6) rfl ?_
                    rw [show (a8 : Int).toNat + 3 = (a8 + 3 : Int).toNat by omega] at f6
                    exact yG.mono (yG.sub (i_6 (z109) (a8 + 3)     (by omega) (by omega) (by omega) (by omega) (by omega) (by omega) (by omega) (by omega) (by omega) (by omega) (by omega) (by omega) (by omega) (by omega) (by omega) ⟨g9, by omega, f6⟩ (by omega)) (ySub.cons rfl (ySub.cons rfl (ySub.cons rfl (ySub.cons rfl (ySub.cons rfl (ySub.cons rfl (ySub.cons rfl (ySub.nil))))))))) (by omega)
                  · have c108 : (a8 + 2 : Int) < 2048 := c108
                    refine yG.load xak rfl (fun _ _ => rfl) (v := yR k0) rfl rfl ?_
                    refine yG.load xik rfl (fun _ _ => rfl) (v := yI (a8)) rfl rfl ?_
                    refine yG.load xik rfl (fun _ _ => rfl) (v := yI (z9)) rfl rfl ?_
                    refine yG.num (c := 8) rfl (fun _ _ => rfl) (by decide) ?_
                    refine yG.irem rfl ⟨by omega, by omega⟩ ⟨by omega, by omega⟩ (by omega) (by omega) ?_
                    obtain ⟨z110, e_z110⟩ : ∃ z : Int, z = (z9) % (8) := ⟨_, rfl⟩
                    rw [← e_z110]
                    refine yG.load xik rfl (fun _ _ => rfl) (v := yI (p3)) rfl rfl ?_
                    refine yG.load xak rfl (fun _ _ => rfl) (v := yR k5) rfl rfl ?_
                    have gd9 := f5 (by omega)
                    rw [show (a8 : Int).toNat + 1 = (a8 + 1 : Int).toNat by omega, show (a8 : Int).toNat + 2 = (a8 + 2 : Int).toNat by omega] at gd9
                    rw [show ys hp n1 (a8 : Int).toNat % 8 = z110 by omega] at gd9
                    refine yG.invV (rest := [yJ (z107)]) A_hp.1 (bOb (d_Rules W) H_k0) rfl rfl rfl rfl (c_Rules_isSo_s W d A_hp.1 H_k0 H_k5 H_n1 Q_n1 (a8) (z110) (p3) (by omega) (by omega) (by omega) (by omega) (by omega) (by omega) gd9) (fun rv hp9 q9 => ?_)
                    obtain ⟨⟨z111, rfl, l_z111, u_z111, R_z111⟩, e9⟩ := q9
                    rw [e9]
                    show yG _ _ _ _ _ _ _ _ _ _ (yI z111 :: [yJ (z107)]) _
                    refine yG.ifz rfl (t := 123) rfl ⟨by omega, by omega⟩ (fun c112 => ?_) (fun c112 => ?_)
                    · have c112 : (z111 : Int) = 0 := c112
                      refine yG.num (c := 0) rfl (fun _ _ => rfl) (by decide) ?_
                      refine yG.i2l rfl ⟨by omega, by omega⟩ ?_
                      refine yG.bit64 rfl (fun _ _ => rfl) (fun z113 e_z113 l_z113 u_z113 => ?_)
                      refine yG.store2 xlk2 (L' := [(6, yJ (z113)), (12, yR k5), (11, yI (0)), (10, yI (1)), (9, yI (z9)), (0, yR k0), (2, yI (p2)), (3, yI (p3)), (4, yR k4), (5, yR k5), (8, yI (a8))]) rfl (fun _ _ => rfl) rfl rfl ?_
                      refine yG.iinc rfl (a := a8) rfl (L' := [(8, yI (a8 + 3)), (6, yJ (z113)), (12, yR k5), (11, yI (0)), (10, yI (1)), (9, yI (z9)), (0, yR k0), (2, yI (p2)), (3, yI (p3)), (4, yR k4), (5, yR k5)]) rfl ?_
                      refine yG.goto rfl (t := 215) rfl ?_
                      refine yG.goto rfl (t := 6) rfl ?_
                      rw [show (a8 : Int).toNat + 3 = (a8 + 3 : Int).toNat by omega] at f6
                      exact yG.mono (yG.sub (i_6 (z113) (a8 + 3)     (by omega) (by omega) (by omega) (by omega) (by omega) (by omega) (by omega) (by omega) (by omega) (by omega) (by omega) (by omega) (by omega) (by omega) (by omega) ⟨g9, by omega, f6⟩ (by omega)) (ySub.cons rfl (ySub.cons rfl (ySub.cons rfl (ySub.cons rfl (ySub.cons rfl (ySub.cons rfl (ySub.cons rfl (ySub.nil))))))))) (by omega)
                    · have c112 : (z111 : Int) ≠ 0 := c112
                      refine yG.num (c := 1) rfl (fun _ _ => rfl) (by decide) ?_
                      refine yG.goto rfl (t := 124) rfl ?_
                      refine yG.i2l rfl ⟨by omega, by omega⟩ ?_
                      refine yG.bit64 rfl (fun _ _ => rfl) (fun z114 e_z114 l_z114 u_z114 => ?_)
                      refine yG.store2 xlk2 (L' := [(6, yJ (z114)), (12, yR k5), (11, yI (0)), (10, yI (1)), (9, yI (z9)), (0, yR k0), (2, yI (p2)), (3, yI (p3)), (4, yR k4), (5, yR k5), (8, yI (a8))]) rfl (fun _ _ => rfl) rfl rfl ?_
                      refine yG.iinc rfl (a := a8) rfl (L' := [(8, yI (a8 + 3)), (6, yJ (z114)), (12, yR k5), (11, yI (0)), (10, yI (1)), (9, yI (z9)), (0, yR k0), (2, yI (p2)), (3, yI (p3)), (4, yR k4), (5, yR k5)]) rfl ?_
                      refine yG.goto rfl (t := 215) rfl ?_
                      refine yG.goto rfl (t := 6) rfl ?_
                      rw [show (a8 : Int).toNat + 3 = (a8 + 3 : Int).toNat by omega] at f6
                      exact yG.mono (yG.sub (i_6 (z114) (a8 + 3)     (by omega) (by omega) (by omega) (by omega) (by omega) (by omega) (by omega) (by omega) (by omega) (by omega) (by omega) (by omega) (by omega) (by omega) (by omega) ⟨g9, by omega, f6⟩ (by omega)) (ySub.cons rfl (ySub.cons rfl (ySub.cons rfl (ySub.cons rfl (ySub.cons rfl (ySub.cons rfl (ySub.cons rfl (ySub.nil))))))))) (by omega)
            · have c82 : (z81 : Int) = 0 := c82
              refine yG.num (c := 1) rfl (fun _ _ => rfl) (by decide) ?_
              refine yG.goto rfl (t := 63) rfl ?_
              refine yG.store1 xik (L' := [(11, yI (1)), (10, yI (1)), (9, yI (z9)), (0, yR k0), (2, yI (p2)), (3, yI (p3)), (4, yR k4), (5, yR k5), (6, yJ (a6)), (8, yI (a8))]) rfl (fun _ _ => rfl) rfl rfl ?_
              refine yG.load xik rfl (fun _ _ => rfl) (v := yI (z9)) rfl rfl ?_
              refine yG.num (c := 16) rfl (fun _ _ => rfl) (by decide) ?_
              refine yG.icmp rfl (t := 134) rfl ⟨by omega, by omega⟩ ⟨by omega, by omega⟩ (fun c115 => ?_) (fun c115 => ?_)
              · have c115 : (z9 : Int) ≥ 16 := c115
                obtain ⟨f9, f1, f2⟩ := X_6
                obtain ⟨g9, rfl⟩ : ∃ g, f9 = g + 1 := ⟨f9 - 1, by omega⟩
                have f3 := f2 (by omega) (by omega)
                have f6 := f3.2 (by omega)
                refine yG.load xik rfl (fun _ _ => rfl) (v := yI (z9)) rfl rfl ?_
                refine yG.num (c := 16) rfl (fun _ _ => rfl) (by decide) ?_
                refine yG.icmp rfl (t := 150) rfl ⟨by omega, by omega⟩ ⟨by omega, by omega⟩ (fun c116 => ?_) (fun c116 => ?_)
                · have c116 : (z9 : Int) ≠ 16 := c116
                  refine yG.load xik rfl (fun _ _ => rfl) (v := yI (z9)) rfl rfl ?_
                  refine yG.num (c := 17) rfl (fun _ _ => rfl) (by decide) ?_
                  refine yG.icmp rfl (t := 175) rfl ⟨by omega, by omega⟩ ⟨by omega, by omega⟩ (fun c117 => ?_) (fun c117 => ?_)
                  · have c117 : (z9 : Int) ≠ 17 := c117
                    refine yG.load xik rfl (fun _ _ => rfl) (v := yI (1)) rfl rfl ?_
                    refine yG.ifz rfl (t := 185) rfl ⟨by omega, by omega⟩ (fun c118 => ?_) (fun c118 => ?_)
                    · have c118 : (1 : Int) ≠ 0 := c118
                      refine yG.num (c := 1) rfl (fun _ _ => rfl) (by decide) ?_
                      refine yG.goto rfl (t := 190) rfl ?_
                      refine yG.store1 xik (L' := [(12, yI (1)), (11, yI (1)), (10, yI (1)), (9, yI (z9)), (0, yR k0), (2, yI (p2)), (3, yI (p3)), (4, yR k4), (5, yR k5), (6, yJ (a6)), (8, yI (a8))]) rfl (fun _ _ => rfl) rfl rfl ?_
                      refine yG.load xlk2 rfl (fun _ _ => rfl) (v := yJ (a6)) rfl rfl ?_
                      refine yG.num (c := 2) rfl (fun _ _ => rfl) (by decide) ?_
                      refine yG.bit64 rfl (fun _ _ => rfl) (fun z119 e_z119 l_z119 u_z119 => ?_)
                      have b_z119 : z119 = ((zc64 (a6) : Nat) : Int) / 4 := by rw [e_z119]; exact blushr (n := 2) (by decide) (by decide) (by decide)
                      have c_z119 : zc64 (a6) < 18446744073709551616 := by unfold zc64; omega
                      refine yG.num (c := 1) rfl (fun _ _ => rfl) (by decide) ?_
                      refine yG.bit64 rfl (fun _ _ => rfl) (fun z120 e_z120 l_z120 u_z120 => ?_)
                      have b_z120 : z120 = (z119) * 2 ^ 1 := by rw [e_z120]; exact bshl (n := 1) (by omega) (by omega) (by decide) (by decide)
                      subst b_z120
                      clear e_z120 l_z120 u_z120
                      refine yG.load xik rfl (fun _ _ => rfl) (v := yI (1)) rfl rfl ?_
                      refine yG.ifz rfl (t := 207) rfl ⟨by omega, by omega⟩ (fun c121 => ?_) (fun c121 => ?_)
                      · have c121 : (1 : Int) = 0 := c121
                        exfalso; omega
                      · have c121 : (1 : Int) ≠ 0 := c121
                        refine yG.num (c := 1) rfl (fun _ _ => rfl) (by decide) ?_
                        refine yG.goto rfl (t := 208) rfl ?_
                        refine yG.i2l rfl ⟨by omega, by omega⟩ ?_
                        refine yG.bit64 rfl (fun _ _ => rfl) (fun z122 e_z122 l_z122 u_z122 => ?_)
                        have b_z122 : z122 = (z119) * 2 ^ 1 + 1 := by rw [e_z122]; exact blor (by omega) (by omega) (by omega) (by omega)
                        refine yG.store2 xlk2 (L' := [(6, yJ (z122)), (12, yI (1)), (11, yI (1)), (10, yI (1)), (9, yI (z9)), (0, yR k0), (2, yI (p2)), (3, yI (p3)), (4, yR k4), (5, yR k5), (8, yI (a8))]) rfl (fun _ _ => rfl) rfl rfl ?_
                        refine yG.iinc rfl (a := a8) rfl (L' := [(8, yI (a8 + 1)), (6, yJ (z122)), (12, yI (1)), (11, yI (1)), (10, yI (1)), (9, yI (z9)), (0, yR k0), (2, yI (p2)), (3, yI (p3)), (4, yR k4), (5, yR k5)]) rfl ?_
                        refine yG.goto rfl (t := 6) rfl ?_
                        rw [show (a8 : Int).toNat + 1 = (a8 + 1 : Int).toNat by omega] at f6
                        exact yG.mono (yG.sub (i_6 (z122) (a8 + 1)     (by omega) (by omega) (by omega) (by omega) (by omega) (by omega) (by omega) (by omega) (by omega) (by omega) (by omega) (by omega) (by omega) (by omega) (by omega) ⟨g9, by omega, f6⟩ (by omega)) (ySub.cons rfl (ySub.cons rfl (ySub.cons rfl (ySub.cons rfl (ySub.cons rfl (ySub.cons rfl (ySub.cons rfl (ySub.nil))))))))) (by omega)
                    · have c118 : (1 : Int) = 0 := c118
                      exfalso; omega
                  · have c117 : (z9 : Int) = 17 := c117
                    refine yG.load xik rfl (fun _ _ => rfl) (v := yI (1)) rfl rfl ?_
                    refine yG.ifz rfl (t := 171) rfl ⟨by omega, by omega⟩ (fun c123 => ?_) (fun c123 => ?_)
                    · have c123 : (1 : Int) = 0 := c123
                      exfalso; omega
                    · have c123 : (1 : Int) ≠ 0 := c123
                      refine yG.load xik rfl (fun _ _ => rfl) (v := yI (1)) rfl rfl ?_
                      refine yG.ifz rfl (t := 171) rfl ⟨by omega, by omega⟩ (fun c124 => ?_) (fun c124 => ?_)
                      · have c124 : (1 : Int) = 0 := c124
                        exfalso; omega
                      · have c124 : (1 : Int) ≠ 0 := c124
                        refine yG.num (c := 1) rfl (fun _ _ => rfl) (by decide) ?_
                        refine yG.goto rfl (t := 190) rfl ?_
                        refine yG.store1 xik (L' := [(12, yI (1)), (11, yI (1)), (10, yI (1)), (9, yI (z9)), (0, yR k0), (2, yI (p2)), (3, yI (p3)), (4, yR k4), (5, yR k5), (6, yJ (a6)), (8, yI (a8))]) rfl (fun _ _ => rfl) rfl rfl ?_
                        refine yG.load xlk2 rfl (fun _ _ => rfl) (v := yJ (a6)) rfl rfl ?_
                        refine yG.num (c := 2) rfl (fun _ _ => rfl) (by decide) ?_
                        refine yG.bit64 rfl (fun _ _ => rfl) (fun z125 e_z125 l_z125 u_z125 => ?_)
                        have b_z125 : z125 = ((zc64 (a6) : Nat) : Int) / 4 := by rw [e_z125]; exact blushr (n := 2) (by decide) (by decide) (by decide)
                        have c_z125 : zc64 (a6) < 18446744073709551616 := by unfold zc64; omega
                        refine yG.num (c := 1) rfl (fun _ _ => rfl) (by decide) ?_
                        refine yG.bit64 rfl (fun _ _ => rfl) (fun z126 e_z126 l_z126 u_z126 => ?_)
                        have b_z126 : z126 = (z125) * 2 ^ 1 := by rw [e_z126]; exact bshl (n := 1) (by omega) (by omega) (by decide) (by decide)
                        subst b_z126
                        clear e_z126 l_z126 u_z126
                        refine yG.load xik rfl (fun _ _ => rfl) (v := yI (1)) rfl rfl ?_
                        refine yG.ifz rfl (t := 207) rfl ⟨by omega, by omega⟩ (fun c127 => ?_) (fun c127 => ?_)
                        · have c127 : (1 : Int) = 0 := c127
                          exfalso; omega
                        · have c127 : (1 : Int) ≠ 0 := c127
                          refine yG.num (c := 1) rfl (fun _ _ => rfl) (by decide) ?_
                          refine yG.goto rfl (t := 208) rfl ?_
                          refine yG.i2l rfl ⟨by omega, by omega⟩ ?_
                          refine yG.bit64 rfl (fun _ _ => rfl) (fun z128 e_z128 l_z128 u_z128 => ?_)
                          have b_z128 : z128 = (z125) * 2 ^ 1 + 1 := by rw [e_z128]; exact blor (by omega) (by omega) (by omega) (by omega)
                          refine yG.store2 xlk2 (L' := [(6, yJ (z128)), (12, yI (1)), (11, yI (1)), (10, yI (1)), (9, yI (z9)), (0, yR k0), (2, yI (p2)), (3, yI (p3)), (4, yR k4), (5, yR k5), (8, yI (a8))]) rfl (fun _ _ => rfl) rfl rfl ?_
                          refine yG.iinc rfl (a := a8) rfl (L' := [(8, yI (a8 + 1)), (6, yJ (z128)), (12, yI (1)), (11, yI (1)), (10, yI (1)), (9, yI (z9)), (0, yR k0), (2, yI (p2)), (3, yI (p3)), (4, yR k4), (5, yR k5)]) rfl ?_
                          refine yG.goto rfl (t := 6) rfl ?_
                          rw [show (a8 : Int).toNat + 1 = (a8 + 1 : Int).toNat by omega] at f6
                          exact yG.mono (yG.sub (i_6 (z128) (a8 + 1)     (by omega) (by omega) (by omega) (by omega) (by omega) (by omega) (by omega) (by omega) (by omega) (by omega) (by omega) (by omega) (by omega) (by omega) (by omega) ⟨g9, by omega, f6⟩ (by omega)) (ySub.cons rfl (ySub.cons rfl (ySub.cons rfl (ySub.cons rfl (ySub.cons rfl (ySub.cons rfl (ySub.cons rfl (ySub.nil))))))))) (by omega)
                · have c116 : (z9 : Int) = 16 := c116
                  refine yG.load xlk2 rfl (fun _ _ => rfl) (v := yJ (a6)) rfl rfl ?_
                  refine yG.numl (c := 1) rfl (fun _ _ => rfl) (by decide) ?_
                  refine yG.bit64 rfl (fun _ _ => rfl) (fun z129 e_z129 l_z129 u_z129 => ?_)
                  refine yG.store2 xlk2 (L' := [(6, yJ (z129)), (11, yI (1)), (10, yI (1)), (9, yI (z9)), (0, yR k0), (2, yI (p2)), (3, yI (p3)), (4, yR k4), (5, yR k5), (8, yI (a8))]) rfl (fun _ _ => rfl) rfl rfl ?_
                  refine yG.goto rfl (t := 212) rfl ?_
                  refine yG.iinc rfl (a := a8) rfl (L' := [(8, yI (a8 + 1)), (6, yJ (z129)), (11, yI (1)), (10, yI (1)), (9, yI (z9)), (0, yR k0), (2, yI (p2)), (3, yI (p3)), (4, yR k4), (5, yR k5)]) rfl ?_
                  refine yG.goto rfl (t := 6) rfl ?_
                  rw [show (a8 : Int).toNat + 1 = (a8 + 1 : Int).toNat by omega] at f6
                  exact yG.mono (yG.sub (i_6 (z129) (a8 + 1)     (by omega) (by omega) (by omega) (by omega) (by omega) (by omega) (by omega) (by omega) (by omega) (by omega) (by omega) (by omega) (by omega) (by omega) (by omega) ⟨g9, by omega, f6⟩ (by omega)) (ySub.cons rfl (ySub.cons rfl (ySub.cons rfl (ySub.cons rfl (ySub.cons rfl (ySub.cons rfl (ySub.cons rfl (ySub.nil))))))))) (by omega)
              · have c115 : (z9 : Int) < 16 := c115
                obtain ⟨f9, f1, f2⟩ := X_6
                obtain ⟨g9, rfl⟩ : ∃ g, f9 = g + 1 := ⟨f9 - 1, by omega⟩
                have f3 := f2 (by omega) (by omega)
                obtain ⟨f4, f5, f6⟩ := f3.1 (by omega)
                refine yG.load xik rfl (fun _ _ => rfl) (v := yI (z9)) rfl rfl ?_
                refine yG.num (c := 8) rfl (fun _ _ => rfl) (by decide) ?_
                refine yG.icmp rfl (t := 84) rfl ⟨by omega, by omega⟩ ⟨by omega, by omega⟩ (fun c130 => ?_) (fun c130 => ?_)
                · have c130 : (z9 : Int) < 8 := c130
                  refine yG.load xak rfl (fun _ _ => rfl) (v := yR k4) rfl rfl ?_
                  refine yG.store1 xak (L' := [(12, yR k4), (11, yI (1)), (10, yI (1)), (9, yI (z9)), (0, yR k0), (2, yI (p2)), (3, yI (p3)), (4, yR k4), (5, yR k5), (6, yJ (a6)), (8, yI (a8))]) rfl (fun _ _ => rfl) rfl rfl ?_
                  refine yG.load xlk2 rfl (fun _ _ => rfl) (v := yJ (a6)) rfl rfl ?_
                  refine yG.num (c := 1) rfl (fun _ _ => rfl) (by decide) ?_
                  refine yG.bit64 rfl (fun _ _ => rfl) (fun z131 e_z131 l_z131 u_z131 => ?_)
                  refine yG.load xik rfl (fun _ _ => rfl) (v := yI (a8)) rfl rfl ?_
                  refine yG.num (c := 2) rfl (fun _ _ => rfl) (by decide) ?_
                  refine yG.iadd rfl ?_
                  refine yG.num (c := 2048) rfl (fun _ _ => rfl) (by decide) ?_
                  refine yG.icmp rfl (t := 123) rfl ⟨by omega, by omega⟩ ⟨by omega, by omega⟩ (fun c132 => ?_) (fun c132 => ?_)
                  · have c132 : (a8 + 2 : Int) ≥ 2048 := c132
                    refine yG.num (c := 0) rfl (fun _ _ => rfl) (by decide) ?_
                    refine yG.i2l rfl ⟨by omega, by omega⟩ ?_
                    refine yG.bit64 rfl (fun _ _ => rfl) (fun z133 e_z133 l_z133 u_z133 => ?_)
                    refine yG.store2 xlk2 (L' := [(6, yJ (z133)), (12, yR k4), (11, yI (1)), (10, yI (1)), (9, yI (z9)), (0, yR k0), (2, yI (p2)), (3, yI (p3)), (4, yR k4), (5, yR k5), (8, yI (a8))]) rfl (fun _ _ => rfl) rfl rfl ?_
                    refine yG.iinc rfl (a := a8) rfl (L' := [(8, yI (a8 + 3)), (6, yJ (z133)), (12, yR k4), (11, yI (1)), (10, yI (1)), (9, yI (z9)), (0, yR k0), (2, yI (p2)), (3, yI (p3)), (4, yR k4), (5, yR k5)]) rfl ?_
                    refine yG.goto rfl (t := 215) rfl ?_
                    refine yG.goto rfl (t := 6) rfl ?_
                    rw [show (a8 : Int).toNat + 3 = (a8 + 3 : Int).toNat by omega] at f6
                    exact yG.mono (yG.sub (i_6 (z133) (a8 + 3)     (by omega) (by omega) (by omega) (by omega) (by omega) (by omega) (by omega) (by omega) (by omega) (by omega) (by omega) (by omega) (by omega) (by omega) (by omega) ⟨g9, by omega, f6⟩ (by omega)) (ySub.cons rfl (ySub.cons rfl (ySub.cons rfl (ySub.cons rfl (ySub.cons rfl (ySub.cons rfl (ySub.cons rfl (ySub.nil))))))))) (by omega)
                  · have c132 : (a8 + 2 : Int) < 2048 := c132
                    refine yG.load xak rfl (fun _ _ => rfl) (v := yR k0) rfl rfl ?_
                    refine yG.load xik rfl (fun _ _ => rfl) (v := yI (a8)) rfl rfl ?_
                    refine yG.load xik rfl (fun _ _ => rfl) (v := yI (z9)) rfl rfl ?_
                    refine yG.num (c := 8) rfl (fun _ _ => rfl) (by decide) ?_
                    refine yG.irem rfl ⟨by omega, by omega⟩ ⟨by omega, by omega⟩ (by omega) (by omega) ?_
                    obtain ⟨z134, e_z134⟩ : ∃ z : Int, z = (z9) % (8) := ⟨_, rfl⟩
                    rw [← e_z134]
                    refine yG.load xik rfl (fun _ _ => rfl) (v := yI (p3)) rfl rfl ?_
                    refine yG.load xak rfl (fun _ _ => rfl) (v := yR k4) rfl rfl ?_
                    have gd9 := f5 (by omega)
                    rw [show (a8 : Int).toNat + 1 = (a8 + 1 : Int).toNat by omega, show (a8 : Int).toNat + 2 = (a8 + 2 : Int).toNat by omega] at gd9
                    rw [show ys hp n1 (a8 : Int).toNat % 8 = z134 by omega] at gd9
                    refine yG.invV (rest := [yJ (z131)]) A_hp.1 (bOb (d_Rules W) H_k0) rfl rfl rfl rfl (c_Rules_isSo_s W d A_hp.1 H_k0 H_k4 H_n1 Q_n1 (a8) (z134) (p3) (by omega) (by omega) (by omega) (by omega) (by omega) (by omega) gd9) (fun rv hp9 q9 => ?_)
                    obtain ⟨⟨z135, rfl, l_z135, u_z135, R_z135⟩, e9⟩ := q9
                    rw [e9]
                    show yG _ _ _ _ _ _ _ _ _ _ (yI z135 :: [yJ (z131)]) _
                    refine yG.ifz rfl (t := 123) rfl ⟨by omega, by omega⟩ (fun c136 => ?_) (fun c136 => ?_)
                    · have c136 : (z135 : Int) = 0 := c136
                      refine yG.num (c := 0) rfl (fun _ _ => rfl) (by decide) ?_
                      refine yG.i2l rfl ⟨by omega, by omega⟩ ?_
                      refine yG.bit64 rfl (fun _ _ => rfl) (fun z137 e_z137 l_z137 u_z137 => ?_)
                      refine yG.store2 xlk2 (L' := [(6, yJ (z137)), (12, yR k4), (11, yI (1)), (10, yI (1)), (9, yI (z9)), (0, yR k0), (2, yI (p2)), (3, yI (p3)), (4, yR k4), (5, yR k5), (8, yI (a8))]) rfl (fun _ _ => rfl) rfl rfl ?_
                      refine yG.iinc rfl (a := a8) rfl (L' := [(8, yI (a8 + 3)), (6, yJ (z137)), (12, yR k4), (11, yI (1)), (10, yI (1)), (9, yI (z9)), (0, yR k0), (2, yI (p2)), (3, yI (p3)), (4, yR k4), (5, yR k5)]) rfl ?_
                      refine yG.goto rfl (t := 215) rfl ?_
                      refine yG.goto rfl (t := 6) rfl ?_
                      rw [show (a8 : Int).toNat + 3 = (a8 + 3 : Int).toNat by omega] at f6
                      exact yG.mono (yG.sub (i_6 (z137) (a8 + 3)     (by omega) (by omega) (by omega) (by omega) (by omega) (by omega) (by omega) (by omega) (by omega) (by omega) (by omega) (by omega) (by omega) (by omega) (by omega) ⟨g9, by omega, f6⟩ (by omega)) (ySub.cons rfl (ySub.cons rfl (ySub.cons rfl (ySub.cons rfl (ySub.cons rfl (ySub.cons rfl (ySub.cons rfl (ySub.nil))))))))) (by omega)
                    · have c136 : (z135 : Int) ≠ 0 := c136
                      refine yG.num (c := 1) rfl (fun _ _ => rfl) (by decide) ?_
                      refine yG.goto rfl (t := 124) rfl ?_
                      refine yG.i2l rfl ⟨by omega, by omega⟩ ?_
                      refine yG.bit64 rfl (fun _ _ => rfl) (fun z138 e_z138 l_z138 u_z138 => ?_)
                      refine yG.store2 xlk2 (L' := [(6, yJ (z138)), (12, yR k4), (11, yI (1)), (10, yI (1)), (9, yI (z9)), (0, yR k0), (2, yI (p2)), (3, yI (p3)), (4, yR k4), (5, yR k5), (8, yI (a8))]) rfl (fun _ _ => rfl) rfl rfl ?_
                      refine yG.iinc rfl (a := a8) rfl (L' := [(8, yI (a8 + 3)), (6, yJ (z138)), (12, yR k4), (11, yI (1)), (10, yI (1)), (9, yI (z9)), (0, yR k0), (2, yI (p2)), (3, yI (p3)), (4, yR k4), (5, yR k5)]) rfl ?_
                      refine yG.goto rfl (t := 215) rfl ?_
                      refine yG.goto rfl (t := 6) rfl ?_
                      rw [show (a8 : Int).toNat + 3 = (a8 + 3 : Int).toNat by omega] at f6
                      exact yG.mono (yG.sub (i_6 (z138) (a8 + 3)     (by omega) (by omega) (by omega) (by omega) (by omega) (by omega) (by omega) (by omega) (by omega) (by omega) (by omega) (by omega) (by omega) (by omega) (by omega) ⟨g9, by omega, f6⟩ (by omega)) (ySub.cons rfl (ySub.cons rfl (ySub.cons rfl (ySub.cons rfl (ySub.cons rfl (ySub.cons rfl (ySub.cons rfl (ySub.nil))))))))) (by omega)
                · have c130 : (z9 : Int) ≥ 8 := c130
                  refine yG.load xak rfl (fun _ _ => rfl) (v := yR k5) rfl rfl ?_
                  refine yG.goto rfl (t := 86) rfl ?_
                  refine yG.store1 xak (L' := [(12, yR k5), (11, yI (1)), (10, yI (1)), (9, yI (z9)), (0, yR k0), (2, yI (p2)), (3, yI (p3)), (4, yR k4), (5, yR k5), (6, yJ (a6)), (8, yI (a8))]) rfl (fun _ _ => rfl) rfl rfl ?_
                  refine yG.load xlk2 rfl (fun _ _ => rfl) (v := yJ (a6)) rfl rfl ?_
                  refine yG.num (c := 1) rfl (fun _ _ => rfl) (by decide) ?_
                  refine yG.bit64 rfl (fun _ _ => rfl) (fun z139 e_z139 l_z139 u_z139 => ?_)
                  refine yG.load xik rfl (fun _ _ => rfl) (v := yI (a8)) rfl rfl ?_
                  refine yG.num (c := 2) rfl (fun _ _ => rfl) (by decide) ?_
                  refine yG.iadd rfl ?_
                  refine yG.num (c := 2048) rfl (fun _ _ => rfl) (by decide) ?_
                  refine yG.icmp rfl (t := 123) rfl ⟨by omega, by omega⟩ ⟨by omega, by omega⟩ (fun c140 => ?_) (fun c140 => ?_)
                  · have c140 : (a8 + 2 : Int) ≥ 2048 := c140
                    refine yG.num (c := 0) rfl (fun _ _ => rfl) (by decide) ?_
                    refine yG.i2l rfl ⟨by omega, by omega⟩ ?_
                    refine yG.bit64 rfl (fun _ _ => rfl) (fun z141 e_z141 l_z141 u_z141 => ?_)
                    refine yG.store2 xlk2 (L' := [(6, yJ (z141)), (12, yR k5), (11, yI (1)), (10, yI (1)), (9, yI (z9)), (0, yR k0), (2, yI (p2)), (3, yI (p3)), (4, yR k4), (5, yR k5), (8, yI (a8))]) rfl (fun _ _ => rfl) rfl rfl ?_
                    refine yG.iinc rfl (a := a8) rfl (L' := [(8, yI (a8 + 3)), (6, yJ (z141)), (12, yR k5), (11, yI (1)), (10, yI (1)), (9, yI (z9)), (0, yR k0), (2, yI (p2)), (3, yI (p3)), (4, yR k4), (5, yR k5)]) rfl ?_
                    refine yG.goto rfl (t := 215) rfl ?_
                    refine yG.goto rfl (t := 6) rfl ?_
                    rw [show (a8 : Int).toNat + 3 = (a8 + 3 : Int).toNat by omega] at f6
                    exact yG.mono (yG.sub (i_6 (z141) (a8 + 3)     (by omega) (by omega) (by omega) (by omega) (by omega) (by omega) (by omega) (by omega) (by omega) (by omega) (by omega) (by omega) (by omega) (by omega) (by omega) ⟨g9, by omega, f6⟩ (by omega)) (ySub.cons rfl (ySub.cons rfl (ySub.cons rfl (ySub.cons rfl (ySub.cons rfl (ySub.cons rfl (ySub.cons rfl (ySub.nil))))))))) (by omega)
                  · have c140 : (a8 + 2 : Int) < 2048 := c140
                    refine yG.load xak rfl (fun _ _ => rfl) (v := yR k0) rfl rfl ?_
                    refine yG.load xik rfl (fun _ _ => rfl) (v := yI (a8)) rfl rfl ?_
                    refine yG.load xik rfl (fun _ _ => rfl) (v := yI (z9)) rfl rfl ?_
                    refine yG.num (c := 8) rfl (fun _ _ => rfl) (by decide) ?_
                    refine yG.irem rfl ⟨by omega, by omega⟩ ⟨by omega, by omega⟩ (by omega) (by omega) ?_
                    obtain ⟨z142, e_z142⟩ : ∃ z : Int, z = (z9) % (8) := ⟨_, rfl⟩
                    rw [← e_z142]
                    refine yG.load xik rfl (fun _ _ => rfl) (v := yI (p3)) rfl rfl ?_
                    refine yG.load xak rfl (fun _ _ => rfl) (v := yR k5) rfl rfl ?_
                    have gd9 := f5 (by omega)
                    rw [show (a8 : Int).toNat + 1 = (a8 + 1 : Int).toNat by omega, show (a8 : Int).toNat + 2 = (a8 + 2 : Int).toNat by omega] at gd9
                    rw [show ys hp n1 (a8 : Int).toNat % 8 = z142 by omega] at gd9
                    refine yG.invV (rest := [yJ (z139)]) A_hp.1 (bOb (d_Rules W) H_k0) rfl rfl rfl rfl (c_Rules_isSo_s W d A_hp.1 H_k0 H_k5 H_n1 Q_n1 (a8) (z142) (p3) (by omega) (by omega) (by omega) (by omega) (by omega) (by omega) gd9) (fun rv hp9 q9 => ?_)
                    obtain ⟨⟨z143, rfl, l_z143, u_z143, R_z143⟩, e9⟩ := q9
                    rw [e9]
                    show yG _ _ _ _ _ _ _ _ _ _ (yI z143 :: [yJ (z139)]) _
                    refine yG.ifz rfl (t := 123) rfl ⟨by omega, by omega⟩ (fun c144 => ?_) (fun c144 => ?_)
                    · have c144 : (z143 : Int) = 0 := c144
                      refine yG.num (c := 0) rfl (fun _ _ => rfl) (by decide) ?_
                      refine yG.i2l rfl ⟨by omega, by omega⟩ ?_
                      refine yG.bit64 rfl (fun _ _ => rfl) (fun z145 e_z145 l_z145 u_z145 => ?_)
                      refine yG.store2 xlk2 (L' := [(6, yJ (z145)), (12, yR k5), (11, yI (1)), (10, yI (1)), (9, yI (z9)), (0, yR k0), (2, yI (p2)), (3, yI (p3)), (4, yR k4), (5, yR k5), (8, yI (a8))]) rfl (fun _ _ => rfl) rfl rfl ?_
                      refine yG.iinc rfl (a := a8) rfl (L' := [(8, yI (a8 + 3)), (6, yJ (z145)), (12, yR k5), (11, yI (1)), (10, yI (1)), (9, yI (z9)), (0, yR k0), (2, yI (p2)), (3, yI (p3)), (4, yR k4), (5, yR k5)]) rfl ?_
                      refine yG.goto rfl (t := 215) rfl ?_
                      refine yG.goto rfl (t := 6) rfl ?_
                      rw [show (a8 : Int).toNat + 3 = (a8 + 3 : Int).toNat by omega] at f6
                      exact yG.mono (yG.sub (i_6 (z145) (a8 + 3)     (by omega) (by omega) (by omega) (by omega) (by omega) (by omega) (by omega) (by omega) (by omega) (by omega) (by omega) (by omega) (by omega) (by omega) (by omega) ⟨g9, by omega, f6⟩ (by omega)) (ySub.cons rfl (ySub.cons rfl (ySub.cons rfl (ySub.cons rfl (ySub.cons rfl (ySub.cons rfl (ySub.cons rfl (ySub.nil))))))))) (by omega)
                    · have c144 : (z143 : Int) ≠ 0 := c144
                      refine yG.num (c := 1) rfl (fun _ _ => rfl) (by decide) ?_
                      refine yG.goto rfl (t := 124) rfl ?_
                      refine yG.i2l rfl ⟨by omega, by omega⟩ ?_
                      refine yG.bit64 rfl (fun _ _ => rfl) (fun z146 e_z146 l_z146 u_z146 => ?_)
                      refine yG.store2 xlk2 (L' := [(6, yJ (z146)), (12, yR k5), (11, yI (1)), (10, yI (1)), (9, yI (z9)), (0, yR k0), (2, yI (p2)), (3, yI (p3)), (4, yR k4), (5, yR k5), (8, yI (a8))]) rfl (fun _ _ => rfl) rfl rfl ?_
                      refine yG.iinc rfl (a := a8) rfl (L' := [(8, yI (a8 + 3)), (6, yJ (z146)), (12, yR k5), (11, yI (1)), (10, yI (1)), (9, yI (z9)), (0, yR k0), (2, yI (p2)), (3, yI (p3)), (4, yR k4), (5, yR k5)]) rfl ?_
                      refine yG.goto rfl (t := 215) rfl ?_
                      refine yG.goto rfl (t := 6) rfl ?_
                      rw [show (a8 : Int).toNat + 3 = (a8 + 3 : Int).toNat by omega] at f6
                      exact yG.mono (yG.sub (i_6 (z146) (a8 + 3)     (by omega) (by omega) (by omega) (by omega) (by omega) (by omega) (by omega) (by omega) (by omega) (by omega) (by omega) (by omega) (by omega) (by omega) (by omega) ⟨g9, by omega, f6⟩ (by omega)) (ySub.cons rfl (ySub.cons rfl (ySub.cons rfl (ySub.cons rfl (ySub.cons rfl (ySub.cons rfl (ySub.cons rfl (ySub.nil))))))))) (by omega)
  refine yC.of (M := (xt_X7_holds, (13, (4, (8, []))))) rfl rfl (N := 266760) (yfuel (by decide)) ?_
  show yG 89 xfts (xcall 89 xfts xpools xms (d + 3)) (xpool xp_RX7) [] xt_X7_holds (yP 4 (bQpi hp 0 1 (fun _ => True))) 266760 0 [(0, yR k0), (1, yI (p1)), (2, yI (p2)), (3, yI (p3)), (4, yR k4), (5, yR k5)] [] hp
  have i_6 := H 4103
  refine yG.numl (c := 0) rfl (fun _ _ => rfl) (by decide) ?_
  refine yG.store2 xlk2 (L' := [(6, yJ (0)), (0, yR k0), (1, yI (p1)), (2, yI (p2)), (3, yI (p3)), (4, yR k4), (5, yR k5)]) rfl (fun _ _ => rfl) rfl rfl ?_
  refine yG.load xik rfl (fun _ _ => rfl) (v := yI (p1)) rfl rfl ?_
  refine yG.store1 xik (L' := [(8, yI (p1)), (6, yJ (0)), (0, yR k0), (1, yI (p1)), (2, yI (p2)), (3, yI (p3)), (4, yR k4), (5, yR k5)]) rfl (fun _ _ => rfl) rfl rfl ?_
  exact yG.mono (yG.sub (i_6 (0) (p1)     (by omega) (by omega) (by omega) (by omega) (by omega) (by omega) (by omega) (by omega) (by omega) (by omega) (by omega) (by omega) (by omega) (by omega) (by omega) ⟨2048, by omega, g90⟩ (by omega)) (ySub.cons rfl (ySub.cons rfl (ySub.cons rfl (ySub.cons rfl (ySub.cons rfl (ySub.cons rfl (ySub.cons rfl (ySub.nil))))))))) (by omega)
theorem c_Rules_holds_b {hp : xH} (W : bW G) (d : Nat) (hT : zTy G hp) {k0 : Nat} (H_k0 : bRo G 107 k0) {k4 : Nat} (H_k4 : bRo G 115 k4) {k5 : Nat} (H_k5 : bRo G 115 k5) {n1 : Nat} (H_n1 : bRo G 108 n1) (Q_n1 : zsl hp k0 1 = yR n1) (p1 p2 p3 : Int) (h1l : 0 ≤ p1) (h1u : p1 ≤ 2048) (h2l : (-2147483648) ≤ p2) (h2u : p2 ≤ 2147483647) (h3l : 0 ≤ p3) (h3u : p3 ≤ 15) (g90 : bSf (ys hp n1) 2 p2 2048 (p1 : Int).toNat) : yC (xcall 89 xfts xpools xms (d + 4)) 193 [yR k0, yI (p1), yI (p2), yI (p3), yR k4, yR k5] hp (bQpi hp 0 1 (fun _ => True)) := by
  have A_hp : bAx G [] hp hp := bAx.rf hT
  have H : ∀ m : Nat, (∀ a6 : Int, ∀ a8 : Int, (-9223372036854775808) ≤ a6 → (-9223372036854775807) ≤ 0 - a6 → 0 ≤ a8 → (-2050) ≤ 0 - a8 → 0 ≤ p1 → (-2048) ≤ 0 - p1 → (-2147483648) ≤ p2 → (-2147483647) ≤ 0 - p2 → 0 ≤ p3 → (-15) ≤ 0 - p3 → (-9223372036854775806) ≤ 0 - a6 + a8 → (-9223372036854777855) ≤ a6 - p1 → (-9223372036854775806) ≤ 0 - a6 + p2 → 0 ≤ a8 - p1 → (-2147485696) ≤ 0 - a8 + p2 → (∃ f : Nat, 2048 ≤ (f : Int) + a8 ∧ bSf (ys hp n1) 2 p2 f (a8 : Int).toNat) → 0 - 2 * a8 + 4101 < (m : Int) → yG 89 xfts (xcall 89 xfts xpools xms (d + 3)) (xpool xp_RX7) [] xt_X7_holds (yP 4 (bQpi hp 0 1 (fun _ => True))) (65 * m) 6 [(0, yR k0), (2, yI (p2)), (3, yI (p3)), (4, yR k4), (5, yR k5), (6, yJ (a6)), (8, yI (a8))] [] hp) := by
    intro m
    induction m with
    | zero =>
      intros; exfalso; omega
    | succ m ih =>
      have i_6 := ih
      clear ih
      intro a6 a8 f0 f1 f2 f3 f4 f5 f6 f7 f8 f9 f10 f11 f12 f13 f14 X_6 hm
      refine yG.mono (N := 65 * m + 65) ?_ (by omega)
      refine yG.load xik rfl (fun _ _ => rfl) (v := yI (a8)) rfl rfl ?_
      refine yG.load xik rfl (fun _ _ => rfl) (v := yI (p2)) rfl rfl ?_
      refine yG.icmp rfl (t := 218) rfl ⟨by omega, by omega⟩ ⟨by omega, by omega⟩ (fun c1 => ?_) (fun c1 => ?_)
      · have c1 : (a8 : Int) ≥ p2 := c1
        refine yG.load xlk2 rfl (fun _ _ => rfl) (v := yJ (a6)) rfl rfl ?_
        refine yG.numl (c := 1) rfl (fun _ _ => rfl) (by decide) ?_
        refine yG.bit64 rfl (fun _ _ => rfl) (fun z2 e_z2 l_z2 u_z2 => ?_)
        have b_z2 : 0 ≤ z2 ∧ z2 ≤ 1 := by rw [e_z2]; exact yland ⟨by decide, by decide⟩ (by decide)
        refine yG.numl (c := 1) rfl (fun _ _ => rfl) (by decide) ?_
        refine yG.lcmp rfl ⟨by omega, by omega⟩ ⟨by omega, by omega⟩ (fun z3 e_z3 => ?_)
        refine yG.ifz rfl (t := 231) rfl ⟨by omega, by omega⟩ (fun c4 => ?_) (fun c4 => ?_)
        · have c4 : (z3 : Int) ≠ 0 := c4
          refine yG.num (c := 0) rfl (fun _ _ => rfl) (by decide) ?_
          refine yG.ret rfl (fun _ _ => rfl) ?_
          exact (yP.bool (by omega) ⟨⟨0, rfl, by omega, by omega, trivial⟩, rfl⟩)
        · have c4 : (z3 : Int) = 0 := c4
          refine yG.num (c := 1) rfl (fun _ _ => rfl) (by decide) ?_
          refine yG.goto rfl (t := 232) rfl ?_
          refine yG.ret rfl (fun _ _ => rfl) ?_
          exact (yP.bool (by omega) ⟨⟨1, rfl, by omega, by omega, trivial⟩, rfl⟩)
      · have c1 : (a8 : Int) < p2 := c1
        refine yG.load xik rfl (fun _ _ => rfl) (v := yI (a8)) rfl rfl ?_
        refine yG.num (c := 2048) rfl (fun _ _ => rfl) (by decide) ?_
        refine yG.icmp rfl (t := 218) rfl ⟨by omega, by omega⟩ ⟨by omega, by omega⟩ (fun c5 => ?_) (fun c5 => ?_)
        · have c5 : (a8 : Int) ≥ 2048 := c5
          refine yG.load xlk2 rfl (fun _ _ => rfl) (v := yJ (a6)) rfl rfl ?_
          refine yG.numl (c := 1) rfl (fun _ _ => rfl) (by decide) ?_
          refine yG.bit64 rfl (fun _ _ => rfl) (fun z6 e_z6 l_z6 u_z6 => ?_)
          have b_z6 : 0 ≤ z6 ∧ z6 ≤ 1 := by rw [e_z6]; exact yland ⟨by decide, by decide⟩ (by decide)
          refine yG.numl (c := 1) rfl (fun _ _ => rfl) (by decide) ?_
          refine yG.lcmp rfl ⟨by omega, by omega⟩ ⟨by omega, by omega⟩ (fun z7 e_z7 => ?_)
          refine yG.ifz rfl (t := 231) rfl ⟨by omega, by omega⟩ (fun c8 => ?_) (fun c8 => ?_)
          · have c8 : (z7 : Int) ≠ 0 := c8
            refine yG.num (c := 0) rfl (fun _ _ => rfl) (by decide) ?_
            refine yG.ret rfl (fun _ _ => rfl) ?_
            exact (yP.bool (by omega) ⟨⟨0, rfl, by omega, by omega, trivial⟩, rfl⟩)
          · have c8 : (z7 : Int) = 0 := c8
            refine yG.num (c := 1) rfl (fun _ _ => rfl) (by decide) ?_
            refine yG.goto rfl (t := 232) rfl ?_
            refine yG.ret rfl (fun _ _ => rfl) ?_
            exact (yP.bool (by omega) ⟨⟨1, rfl, by omega, by omega, trivial⟩, rfl⟩)
        · have c5 : (a8 : Int) < 2048 := c5
          refine yG.load xak rfl (fun _ _ => rfl) (v := yR k0) rfl rfl ?_
          refine yG.getS9 A_hp.1 (w_Rules_code W H_k0) Q_n1 rfl rfl ?_
          refine yG.load xik rfl (fun _ _ => rfl) (v := yI (a8)) rfl rfl ?_
          refine yG.iald A_hp.1 (v_Rules_code W H_n1) rfl (by omega) (by omega) (fun z9 e_z9 i_z9 l_z9 u_z9 => ?_)
          refine yG.store1 xik (L' := [(9, yI (z9)), (0, yR k0), (2, yI (p2)), (3, yI (p3)), (4, yR k4), (5, yR k5), (6, yJ (a6)), (8, yI (a8))]) rfl (fun _ _ => rfl) rfl rfl ?_
          refine yG.load xlk2 rfl (fun _ _ => rfl) (v := yJ (a6)) rfl rfl ?_
          refine yG.numl (c := 1) rfl (fun _ _ => rfl) (by decide) ?_
          refine yG.bit64 rfl (fun _ _ => rfl) (fun z10 e_z10 l_z10 u_z10 => ?_)
          have b_z10 : 0 ≤ z10 ∧ z10 ≤ 1 := by rw [e_z10]; exact yland ⟨by decide, by decide⟩ (by decide)
          refine yG.numl (c := 1) rfl (fun _ _ => rfl) (by decide) ?_
          refine yG.lcmp rfl ⟨by omega, by omega⟩ ⟨by omega, by omega⟩ (fun z11 e_z11 => ?_)
          refine yG.ifz rfl (t := 42) rfl ⟨by omega, by omega⟩ (fun c12 => ?_) (fun c12 => ?_)
          · have c12 : (z11 : Int) ≠ 0 := c12
            refine yG.num (c := 0) rfl (fun _ _ => rfl) (by decide) ?_
            refine yG.store1 xik (L' := [(10, yI (0)), (9, yI (z9)), (0, yR k0), (2, yI (p2)), (3, yI (p3)), (4, yR k4), (5, yR k5), (6, yJ (a6)), (8, yI (a8))]) rfl (fun _ _ => rfl) rfl rfl ?_
            refine yG.load xlk2 rfl (fun _ _ => rfl) (v := yJ (a6)) rfl rfl ?_
            refine yG.numl (c := 2) rfl (fun _ _ => rfl) (by decide) ?_
            refine yG.bit64 rfl (fun _ _ => rfl) (fun z13 e_z13 l_z13 u_z13 => ?_)
            have b_z13 : 0 ≤ z13 ∧ z13 ≤ 2 := by rw [e_z13]; exact yland ⟨by decide, by decide⟩ (by decide)
            refine yG.numl (c := 2) rfl (fun _ _ => rfl) (by decide) ?_
            refine yG.lcmp rfl ⟨by omega, by omega⟩ ⟨by omega, by omega⟩ (fun z14 e_z14 => ?_)
            refine yG.ifz rfl (t := 62) rfl ⟨by omega, by omega⟩ (fun c15 => ?_) (fun c15 => ?_)
            · have c15 : (z14 : Int) ≠ 0 := c15
              refine yG.num (c := 0) rfl (fun _ _ => rfl) (by decide) ?_
              refine yG.store1 xik (L' := [(11, yI (0)), (10, yI (0)), (9, yI (z9)), (0, yR k0), (2, yI (p2)), (3, yI (p3)), (4, yR k4), (5, yR k5), (6, yJ (a6)), (8, yI (a8))]) rfl (fun _ _ => rfl) rfl rfl ?_
              refine yG.load xik rfl (fun _ _ => rfl) (v := yI (z9)) rfl rfl ?_
              refine yG.num (c := 16) rfl (fun _ _ => rfl) (by decide) ?_
              refine yG.icmp rfl (t := 134) rfl ⟨by omega, by omega⟩ ⟨by omega, by omega⟩ (fun c16 => ?_) (fun c16 => ?_)
              · have c16 : (z9 : Int) ≥ 16 := c16
                obtain ⟨f9, f1, f2⟩ := X_6
                obtain ⟨g9, rfl⟩ : ∃ g, f9 = g + 1 := ⟨f9 - 1, by omega⟩
                have f3 := f2 (by omega) (by omega)
                have f6 := f3.2 (by omega)
                refine yG.load xik rfl (fun _ _ => rfl) (v := yI (z9)) rfl rfl ?_
                refine yG.num (c := 16) rfl (fun _ _ => rfl) (by decide) ?_
                refine yG.icmp rfl (t := 150) rfl ⟨by omega, by omega⟩ ⟨by omega, by omega⟩ (fun c17 => ?_) (fun c17 => ?_)
                · have c17 : (z9 : Int) ≠ 16 := c17
                  refine yG.load xik rfl (fun _ _ => rfl) (v := yI (z9)) rfl rfl ?_
                  refine yG.num (c := 17) rfl (fun _ _ => rfl) (by decide) ?_
                  refine yG.icmp rfl (t := 175) rfl ⟨by omega, by omega⟩ ⟨by omega, by omega⟩ (fun c18 => ?_) (fun c18 => ?_)
                  · have c18 : (z9 : Int) ≠ 17 := c18
                    refine yG.load xik rfl (fun _ _ => rfl) (v := yI (0)) rfl rfl ?_
                    refine yG.ifz rfl (t := 185) rfl ⟨by omega, by omega⟩ (fun c19 => ?_) (fun c19 => ?_)
                    · have c19 : (0 : Int) ≠ 0 := c19
                      exfalso; omega
                    · have c19 : (0 : Int) = 0 := c19
                      refine yG.load xik rfl (fun _ _ => rfl) (v := yI (0)) rfl rfl ?_
                      refine yG.ifz rfl (t := 189) rfl ⟨by omega, by omega⟩ (fun c20 => ?_) (fun c20 => ?_)
                      · have c20 : (0 : Int) = 0 := c20
                        refine yG.num (c := 0) rfl (fun _ _ => rfl) (by decide) ?_
                        refine yG.store1 xik (L' := [(12, yI (0)), (11, yI (0)), (10, yI (0)), (9, yI (z9)), (0, yR k0), (2, yI (p2)), (3, yI (p3)), (4, yR k4), (5, yR k5), (6, yJ (a6)), (8, yI (a8))]) rfl (fun _ _ => rfl) rfl rfl ?_
                        refine yG.load xlk2 rfl (fun _ _ => rfl) (v := yJ (a6)) rfl rfl ?_
                        refine yG.num (c := 2) rfl (fun _ _ => rfl) (by decide) ?_
                        refine yG.bit64 rfl (fun _ _ => rfl) (fun z21 e_z21 l_z21 u_z21 => ?_)
                        have b_z21 : z21 = ((zc64 (a6) : Nat) : Int) / 4 := by rw [e_z21]; exact blushr (n := 2) (by decide) (by decide) (by decide)
                        have c_z21 : zc64 (a6) < 18446744073709551616 := by unfold zc64; omega
                        refine yG.num (c := 1) rfl (fun _ _ => rfl) (by decide) ?_
                        refine yG.bit64 rfl (fun _ _ => rfl) (fun z22 e_z22 l_z22 u_z22 => ?_)
                        have b_z22 : z22 = (z21) * 2 ^ 1 := by rw [e_z22]; exact bshl (n := 1) (by omega) (by omega) (by decide) (by decide)
                        subst b_z22
                        clear e_z22 l_z22 u_z22
                        refine yG.load xik rfl (fun _ _ => rfl) (v := yI (0)) rfl rfl ?_
                        refine yG.ifz rfl (t := 207) rfl ⟨by omega, by omega⟩ (fun c23 => ?_) (fun c23 => ?_)
                        · have c23 : (0 : Int) = 0 := c23
                          refine yG.num (c := 0) rfl (fun _ _ => rfl) (by decide) ?_
                          refine yG.i2l rfl ⟨by omega, by omega⟩ ?_
                          refine yG.bit64 rfl (fun _ _ => rfl) (fun z24 e_z24 l_z24 u_z24 => ?_)
                          have b_z24 : z24 = (z21) * 2 ^ 1 + 0 := by rw [e_z24]; exact blor (by omega) (by omega) (by omega) (by omega)
                          refine yG.store2 xlk2 (L' := [(6, yJ (z24)), (12, yI (0)), (11, yI (0)), (10, yI (0)), (9, yI (z9)), (0, yR k0), (2, yI (p2)), (3, yI (p3)), (4, yR k4), (5, yR k5), (8, yI (a8))]) rfl (fun _ _ => rfl) rfl rfl ?_
                          refine yG.iinc rfl (a := a8) rfl (L' := [(8, yI (a8 + 1)), (6, yJ (z24)), (12, yI (0)), (11, yI (0)), (10, yI (0)), (9, yI (z9)), (0, yR k0), (2, yI (p2)), (3, yI (p3)), (4, yR k4), (5, yR k5)]) rfl ?_
                          refine yG.goto rfl (t := 6) rfl ?_
                          rw [show (a8 : Int).toNat + 1 = (a8 + 1 : Int).toNat by omega] at f6
                          exact yG.mono (yG.sub (i_6 (z24) (a8 + 1)     (by omega) (by omega) (by omega) (by omega) (by omega) (by omega) (by omega) (by omega) (by omega) (by omega) (by omega) (by omega) (by omega) (by omega) (by omega) ⟨g9, by omega, f6⟩ (by omega)) (ySub.cons rfl (ySub.cons rfl (ySub.cons rfl (ySub.cons rfl (ySub.cons rfl (ySub.cons rfl (ySub.cons rfl (ySub.nil))))))))) (by omega)
                        · have c23 : (0 : Int) ≠ 0 := c23
                          exfalso; omega
                      · have c20 : (0 : Int) ≠ 0 := c20
                        exfalso; omega
                  · have c18 : (z9 : Int) = 17 := c18
                    refine yG.load xik rfl (fun _ _ => rfl) (v := yI (0)) rfl rfl ?_
                    refine yG.ifz rfl (t := 171) rfl ⟨by omega, by omega⟩ (fun c25 => ?_) (fun c25 => ?_)
                    · have c25 : (0 : Int) = 0 := c25
                      refine yG.num (c := 0) rfl (fun _ _ => rfl) (by decide) ?_
                      refine yG.goto rfl (t := 190) rfl ?_
                      refine yG.store1 xik (L' := [(12, yI (0)), (11, yI (0)), (10, yI (0)), (9, yI (z9)), (0, yR k0), (2, yI (p2)), (3, yI (p3)), (4, yR k4), (5, yR k5), (6, yJ (a6)), (8, yI (a8))]) rfl (fun _ _ => rfl) rfl rfl ?_
                      refine yG.load xlk2 rfl (fun _ _ => rfl) (v := yJ (a6)) rfl rfl ?_
                      refine yG.num (c := 2) rfl (fun _ _ => rfl) (by decide) ?_
                      refine yG.bit64 rfl (fun _ _ => rfl) (fun z26 e_z26 l_z26 u_z26 => ?_)
                      have b_z26 : z26 = ((zc64 (a6) : Nat) : Int) / 4 := by rw [e_z26]; exact blushr (n := 2) (by decide) (by decide) (by decide)
                      have c_z26 : zc64 (a6) < 18446744073709551616 := by unfold zc64; omega
                      refine yG.num (c := 1) rfl (fun _ _ => rfl) (by decide) ?_
                      refine yG.bit64 rfl (fun _ _ => rfl) (fun z27 e_z27 l_z27 u_z27 => ?_)
                      have b_z27 : z27 = (z26) * 2 ^ 1 := by rw [e_z27]; exact bshl (n := 1) (by omega) (by omega) (by decide) (by decide)
                      subst b_z27
                      clear e_z27 l_z27 u_z27
                      refine yG.load xik rfl (fun _ _ => rfl) (v := yI (0)) rfl rfl ?_
                      refine yG.ifz rfl (t := 207) rfl ⟨by omega, by omega⟩ (fun c28 => ?_) (fun c28 => ?_)
                      · have c28 : (0 : Int) = 0 := c28
                        refine yG.num (c := 0) rfl (fun _ _ => rfl) (by decide) ?_
                        refine yG.i2l rfl ⟨by omega, by omega⟩ ?_
                        refine yG.bit64 rfl (fun _ _ => rfl) (fun z29 e_z29 l_z29 u_z29 => ?_)
                        have b_z29 : z29 = (z26) * 2 ^ 1 + 0 := by rw [e_z29]; exact blor (by omega) (by omega) (by omega) (by omega)
                        refine yG.store2 xlk2 (L' := [(6, yJ (z29)), (12, yI (0)), (11, yI (0)), (10, yI (0)), (9, yI (z9)), (0, yR k0), (2, yI (p2)), (3, yI (p3)), (4, yR k4), (5, yR k5), (8, yI (a8))]) rfl (fun _ _ => rfl) rfl rfl ?_
                        refine yG.iinc rfl (a := a8) rfl (L' := [(8, yI (a8 + 1)), (6, yJ (z29)), (12, yI (0)), (11, yI (0)), (10, yI (0)), (9, yI (z9)), (0, yR k0), (2, yI (p2)), (3, yI (p3)), (4, yR k4), (5, yR k5)]) rfl ?_
                        refine yG.goto rfl (t := 6) rfl ?_
                        rw [show (a8 : Int).toNat + 1 = (a8 + 1 : Int).toNat by omega] at f6
                        exact yG.mono (yG.sub (i_6 (z29) (a8 + 1)     (by omega) (by omega) (by omega) (by omega) (by omega) (by omega) (by omega) (by omega) (by omega) (by omega) (by omega) (by omega) (by omega) (by omega) (by omega) ⟨g9, by omega, f6⟩ (by omega)) (ySub.cons rfl (ySub.cons rfl (ySub.cons rfl (ySub.cons rfl (ySub.cons rfl (ySub.cons rfl (ySub.cons rfl (ySub.nil))))))))) (by omega)
                      · have c28 : (0 : Int) ≠ 0 := c28
                        exfalso; omega
                    · have c25 : (0 : Int) ≠ 0 := c25
                      exfalso; omega
                · have c17 : (z9 : Int) = 16 := c17
                  refine yG.load xlk2 rfl (fun _ _ => rfl) (v := yJ (a6)) rfl rfl ?_
                  refine yG.numl (c := 1) rfl (fun _ _ => rfl) (by decide) ?_
                  refine yG.bit64 rfl (fun _ _ => rfl) (fun z30 e_z30 l_z30 u_z30 => ?_)
                  refine yG.store2 xlk2 (L' := [(6, yJ (z30)), (11, yI (0)), (10, yI (0)), (9, yI (z9)), (0, yR k0), (2, yI (p2)), (3, yI (p3)), (4, yR k4), (5, yR k5), (8, yI (a8))]) rfl (fun _ _ => rfl) rfl rfl ?_
                  refine yG.goto rfl (t := 212) rfl ?_
                  refine yG.iinc rfl (a := a8) rfl (L' := [(8, yI (a8 + 1)), (6, yJ (z30)), (11, yI (0)), (10, yI (0)), (9, yI (z9)), (0, yR k0), (2, yI (p2)), (3, yI (p3)), (4, yR k4), (5, yR k5)]) rfl ?_
                  refine yG.goto rfl (t := 6) rfl ?_
                  rw [show (a8 : Int).toNat + 1 = (a8 + 1 : Int).toNat by omega] at f6
                  exact yG.mono (yG.sub (i_6 (z30) (a8 + 1)     (by omega) (by omega) (by omega) (by omega) (by omega) (by omega) (by omega) (by omega) (by omega) (by omega) (by omega) (by omega) (by omega) (by omega) (by omega) ⟨g9, by omega, f6⟩ (by omega)) (ySub.cons rfl (ySub.cons rfl (ySub.cons rfl (ySub.cons rfl (ySub.cons rfl (ySub.cons rfl (ySub.cons rfl (ySub.nil))))))))) (by omega)
              · have c16 : (z9 : Int) < 16 := c16
                obtain ⟨f9, f1, f2⟩ := X_6
                obtain ⟨g9, rfl⟩ : ∃ g, f9 = g + 1 := ⟨f9 - 1, by omega⟩
                have f3 := f2 (by omega) (by omega)
                obtain ⟨f4, f5, f6⟩ := f3.1 (by omega)
                refine yG.load xik rfl (fun _ _ => rfl) (v := yI (z9)) rfl rfl ?_
                refine yG.num (c := 8) rfl (fun _ _ => rfl) (by decide) ?_
                refine yG.icmp rfl (t := 84) rfl ⟨by omega, by omega⟩ ⟨by omega, by omega⟩ (fun c31 => ?_) (fun c31 => ?_)
                · have c31 : (z9 : Int) < 8 := c31
                  refine yG.load xak rfl (fun _ _ => rfl) (v := yR k4) rfl rfl ?_
                  refine yG.store1 xak (L' := [(12, yR k4), (11, yI (0)), (10, yI (0)), (9, yI (z9)), (0, yR k0), (2, yI (p2)), (3, yI (p3)), (4, yR k4), (5, yR k5), (6, yJ (a6)), (8, yI (a8))]) rfl (fun _ _ => rfl) rfl rfl ?_
                  refine yG.load xlk2 rfl (fun _ _ => rfl) (v := yJ (a6)) rfl rfl ?_
                  refine yG.num (c := 1) rfl (fun _ _ => rfl) (by decide) ?_
                  refine yG.bit64 rfl (fun _ _ => rfl) (fun z32 e_z32 l_z32 u_z32 => ?_)
                  refine yG.load xik rfl (fun _ _ => rfl) (v := yI (a8)) rfl rfl ?_
                  refine yG.num (c := 2) rfl (fun _ _ => rfl) (by decide) ?_
                  refine yG.iadd rfl ?_
                  refine yG.num (c := 2048) rfl (fun _ _ => rfl) (by decide) ?_
                  refine yG.icmp rfl (t := 123) rfl ⟨by omega, by omega⟩ ⟨by omega, by omega⟩ (fun c33 => ?_) (fun c33 => ?_)
                  · have c33 : (a8 + 2 : Int) ≥ 2048 := c33
                    refine yG.num (c := 0) rfl (fun _ _ => rfl) (by decide) ?_
                    refine yG.i2l rfl ⟨by omega, by omega⟩ ?_
                    refine yG.bit64 rfl (fun _ _ => rfl) (fun z34 e_z34 l_z34 u_z34 => ?_)
                    refine yG.store2 xlk2 (L' := [(6, yJ (z34)), (12, yR k4), (11, yI (0)), (10, yI (0)), (9, yI (z9)), (0, yR k0), (2, yI (p2)), (3, yI (p3)), (4, yR k4), (5, yR k5), (8, yI (a8))]) rfl (fun _ _ => rfl) rfl rfl ?_
                    refine yG.iinc rfl (a := a8) rfl (L' := [(8, yI (a8 + 3)), (6, yJ (z34)), (12, yR k4), (11, yI (0)), (10, yI (0)), (9, yI (z9)), (0, yR k0), (2, yI (p2)), (3, yI (p3)), (4, yR k4), (5, yR k5)]) rfl ?_
                    refine yG.goto rfl (t := 215) rfl ?_
                    refine yG.goto rfl (t := 6) rfl ?_
                    rw [show (a8 : Int).toNat + 3 = (a8 + 3 : Int).toNat by omega] at f6
                    exact yG.mono (yG.sub (i_6 (z34) (a8 + 3)     (by omega) (by omega) (by omega) (by omega) (by omega) (by omega) (by omega) (by omega) (by omega) (by omega) (by omega) (by omega) (by omega) (by omega) (by omega) ⟨g9, by omega, f6⟩ (by omega)) (ySub.cons rfl (ySub.cons rfl (ySub.cons rfl (ySub.cons rfl (ySub.cons rfl (ySub.cons rfl (ySub.cons rfl (ySub.nil))))))))) (by omega)
                  · have c33 : (a8 + 2 : Int) < 2048 := c33
                    refine yG.load xak rfl (fun _ _ => rfl) (v := yR k0) rfl rfl ?_
                    refine yG.load xik rfl (fun _ _ => rfl) (v := yI (a8)) rfl rfl ?_
                    refine yG.load xik rfl (fun _ _ => rfl) (v := yI (z9)) rfl rfl ?_
                    refine yG.num (c := 8) rfl (fun _ _ => rfl) (by decide) ?_
                    refine yG.irem rfl ⟨by omega, by omega⟩ ⟨by omega, by omega⟩ (by omega) (by omega) ?_
                    obtain ⟨z35, e_z35⟩ : ∃ z : Int, z = (z9) % (8) := ⟨_, rfl⟩
                    rw [← e_z35]
                    refine yG.load xik rfl (fun _ _ => rfl) (v := yI (p3)) rfl rfl ?_
                    refine yG.load xak rfl (fun _ _ => rfl) (v := yR k4) rfl rfl ?_
                    have gd9 := f5 (by omega)
                    rw [show (a8 : Int).toNat + 1 = (a8 + 1 : Int).toNat by omega, show (a8 : Int).toNat + 2 = (a8 + 2 : Int).toNat by omega] at gd9
                    rw [show ys hp n1 (a8 : Int).toNat % 8 = z35 by omega] at gd9
                    refine yG.invV (rest := [yJ (z32)]) A_hp.1 (bOb (d_Rules W) H_k0) rfl rfl rfl rfl (c_Rules_isSo_b W d A_hp.1 H_k0 H_k4 H_n1 Q_n1 (a8) (z35) (p3) (by omega) (by omega) (by omega) (by omega) (by omega) (by omega) gd9) (fun rv hp9 q9 => ?_)
                    obtain ⟨⟨z36, rfl, l_z36, u_z36, R_z36⟩, e9⟩ := q9
                    rw [e9]
                    show yG _ _ _ _ _ _ _ _ _ _ (yI z36 :: [yJ (z32)]) _
                    refine yG.ifz rfl (t := 123) rfl ⟨by omega, by omega⟩ (fun c37 => ?_) (fun c37 => ?_)
                    · have c37 : (z36 : Int) = 0 := c37
                      refine yG.num (c := 0) rfl (fun _ _ => rfl) (by decide) ?_
                      refine yG.i2l rfl ⟨by omega, by omega⟩ ?_
                      refine yG.bit64 rfl (fun _ _ => rfl) (fun z38 e_z38 l_z38 u_z38 => ?_)
                      refine yG.store2 xlk2 (L' := [(6, yJ (z38)), (12, yR k4), (11, yI (0)), (10, yI (0)), (9, yI (z9)), (0, yR k0), (2, yI (p2)), (3, yI (p3)), (4, yR k4), (5, yR k5), (8, yI (a8))]) rfl (fun _ _ => rfl) rfl rfl ?_
                      refine yG.iinc rfl (a := a8) rfl (L' := [(8, yI (a8 + 3)), (6, yJ (z38)), (12, yR k4), (11, yI (0)), (10, yI (0)), (9, yI (z9)), (0, yR k0), (2, yI (p2)), (3, yI (p3)), (4, yR k4), (5, yR k5)]) rfl ?_
                      refine yG.goto rfl (t := 215) rfl ?_
                      refine yG.goto rfl (t := 6) rfl ?_
                      rw [show (a8 : Int).toNat + 3 = (a8 + 3 : Int).toNat by omega] at f6
                      exact yG.mono (yG.sub (i_6 (z38) (a8 + 3)     (by omega) (by omega) (by omega) (by omega) (by omega) (by omega) (by omega) (by omega) (by omega) (by omega) (by omega) (by omega) (by omega) (by omega) (by omega) ⟨g9, by omega, f6⟩ (by omega)) (ySub.cons rfl (ySub.cons rfl (ySub.cons rfl (ySub.cons rfl (ySub.cons rfl (ySub.cons rfl (ySub.cons rfl (ySub.nil))))))))) (by omega)
                    · have c37 : (z36 : Int) ≠ 0 := c37
                      refine yG.num (c := 1) rfl (fun _ _ => rfl) (by decide) ?_
                      refine yG.goto rfl (t := 124) rfl ?_
                      refine yG.i2l rfl ⟨by omega, by omega⟩ ?_
                      refine yG.bit64 rfl (fun _ _ => rfl) (fun z39 e_z39 l_z39 u_z39 => ?_)
                      refine yG.store2 xlk2 (L' := [(6, yJ (z39)), (12, yR k4), (11, yI (0)), (10, yI (0)), (9, yI (z9)), (0, yR k0), (2, yI (p2)), (3, yI (p3)), (4, yR k4), (5, yR k5), (8, yI (a8))]) rfl (fun _ _ => rfl) rfl rfl ?_
                      refine yG.iinc rfl (a := a8) rfl (L' := [(8, yI (a8 + 3)), (6, yJ (z39)), (12, yR k4), (11, yI (0)), (10, yI (0)), (9, yI (z9)), (0, yR k0), (2, yI (p2)), (3, yI (p3)), (4, yR k4), (5, yR k5)]) rfl ?_
                      refine yG.goto rfl (t := 215) rfl ?_
                      refine yG.goto rfl (t := 6) rfl ?_
                      rw [show (a8 : Int).toNat + 3 = (a8 + 3 : Int).toNat by omega] at f6
                      exact yG.mono (yG.sub (i_6 (z39) (a8 + 3)     (by omega) (by omega) (by omega) (by omega) (by omega) (by omega) (by omega) (by omega) (by omega) (by omega) (by omega) (by omega) (by omega) (by omega) (by omega) ⟨g9, by omega, f6⟩ (by omega)) (ySub.cons rfl (ySub.cons rfl (ySub.cons rfl (ySub.cons rfl (ySub.cons rfl (ySub.cons rfl (ySub.cons rfl (ySub.nil))))))))) (by omega)
                · have c31 : (z9 : Int) ≥ 8 := c31
                  refine yG.load xak rfl (fun _ _ => rfl) (v := yR k5) rfl rfl ?_
                  refine yG.goto rfl (t := 86) rfl ?_
                  refine yG.store1 xak (L' := [(12, yR k5), (11, yI (0)), (10, yI (0)), (9, yI (z9)), (0, yR k0), (2, yI (p2)), (3, yI (p3)), (4, yR k4), (5, yR k5), (6, yJ (a6)), (8, yI (a8))]) rfl (fun _ _ => rfl) rfl rfl ?_
                  refine yG.load xlk2 rfl (fun _ _ => rfl) (v := yJ (a6)) rfl rfl ?_
                  refine yG.num (c := 1) rfl (fun _ _ => rfl) (by decide) ?_
                  refine yG.bit64 rfl (fun _ _ => rfl) (fun z40 e_z40 l_z40 u_z40 => ?_)
                  refine yG.load xik rfl (fun _ _ => rfl) (v := yI (a8)) rfl rfl ?_
                  refine yG.num (c := 2) rfl (fun _ _ => rfl) (by decide) ?_
                  refine yG.iadd rfl ?_
                  refine yG.num (c := 2048) rfl (fun _ _ => rfl) (by decide) ?_
                  refine yG.icmp rfl (t := 123) rfl ⟨by omega, by omega⟩ ⟨by omega, by omega⟩ (fun c41 => ?_) (fun c41 => ?_)
                  · have c41 : (a8 + 2 : Int) ≥ 2048 := c41
                    refine yG.num (c := 0) rfl (fun _ _ => rfl) (by decide) ?_
                    refine yG.i2l rfl ⟨by omega, by omega⟩ ?_
                    refine yG.bit64 rfl (fun _ _ => rfl) (fun z42 e_z42 l_z42 u_z42 => ?_)
                    refine yG.store2 xlk2 (L' := [(6, yJ (z42)), (12, yR k5), (11, yI (0)), (10, yI (0)), (9, yI (z9)), (0, yR k0), (2, yI (p2)), (3, yI (p3)), (4, yR k4), (5, yR k5), (8, yI (a8))]) rfl (fun _ _ => rfl) rfl rfl ?_
                    refine yG.iinc rfl (a := a8) rfl (L' := [(8, yI (a8 + 3)), (6, yJ (z42)), (12, yR k5), (11, yI (0)), (10, yI (0)), (9, yI (z9)), (0, yR k0), (2, yI (p2)), (3, yI (p3)), (4, yR k4), (5, yR k5)]) rfl ?_
                    refine yG.goto rfl (t := 215) rfl ?_
                    refine yG.goto rfl (t := 6) rfl ?_
                    rw [show (a8 : Int).toNat + 3 = (a8 + 3 : Int).toNat by omega] at f6
                    exact yG.mono (yG.sub (i_6 (z42) (a8 + 3)     (by omega) (by omega) (by omega) (by omega) (by omega) (by omega) (by omega) (by omega) (by omega) (by omega) (by omega) (by omega) (by omega) (by omega) (by omega) ⟨g9, by omega, f6⟩ (by omega)) (ySub.cons rfl (ySub.cons rfl (ySub.cons rfl (ySub.cons rfl (ySub.cons rfl (ySub.cons rfl (ySub.cons rfl (ySub.nil))))))))) (by omega)
                  · have c41 : (a8 + 2 : Int) < 2048 := c41
                    refine yG.load xak rfl (fun _ _ => rfl) (v := yR k0) rfl rfl ?_
                    refine yG.load xik rfl (fun _ _ => rfl) (v := yI (a8)) rfl rfl ?_
                    refine yG.load xik rfl (fun _ _ => rfl) (v := yI (z9)) rfl rfl ?_
                    refine yG.num (c := 8) rfl (fun _ _ => rfl) (by decide) ?_
                    refine yG.irem rfl ⟨by omega, by omega⟩ ⟨by omega, by omega⟩ (by omega) (by omega) ?_
                    obtain ⟨z43, e_z43⟩ : ∃ z : Int, z = (z9) % (8) := ⟨_, rfl⟩
                    rw [← e_z43]
                    refine yG.load xik rfl (fun _ _ => rfl) (v := yI (p3)) rfl rfl ?_
                    refine yG.load xak rfl (fun _ _ => rfl) (v := yR k5) rfl rfl ?_
                    have gd9 := f5 (by omega)
                    rw [show (a8 : Int).toNat + 1 = (a8 + 1 : Int).toNat by omega, show (a8 : Int).toNat + 2 = (a8 + 2 : Int).toNat by omega] at gd9
                    rw [show ys hp n1 (a8 : Int).toNat % 8 = z43 by omega] at gd9
                    refine yG.invV (rest := [yJ (z40)]) A_hp.1 (bOb (d_Rules W) H_k0) rfl rfl rfl rfl (c_Rules_isSo_b W d A_hp.1 H_k0 H_k5 H_n1 Q_n1 (a8) (z43) (p3) (by omega) (by omega) (by omega) (by omega) (by omega) (by omega) gd9) (fun rv hp9 q9 => ?_)
                    obtain ⟨⟨z44, rfl, l_z44, u_z44, R_z44⟩, e9⟩ := q9
                    rw [e9]
                    show yG _ _ _ _ _ _ _ _ _ _ (yI z44 :: [yJ (z40)]) _
                    refine yG.ifz rfl (t := 123) rfl ⟨by omega, by omega⟩ (fun c45 => ?_) (fun c45 => ?_)
                    · have c45 : (z44 : Int) = 0 := c45
                      refine yG.num (c := 0) rfl (fun _ _ => rfl) (by decide) ?_
                      refine yG.i2l rfl ⟨by omega, by omega⟩ ?_
                      refine yG.bit64 rfl (fun _ _ => rfl) (fun z46 e_z46 l_z46 u_z46 => ?_)
                      refine yG.store2 xlk2 (L' := [(6, yJ (z46)), (12, yR k5), (11, yI (0)), (10, yI (0)), (9, yI (z9)), (0, yR k0), (2, yI (p2)), (3, yI (p3)), (4, yR k4), (5, yR k5), (8, yI (a8))]) rfl (fun _ _ => rfl) rfl rfl ?_
                      refine yG.iinc rfl (a := a8) rfl (L' := [(8, yI (a8 + 3)), (6, yJ (z46)), (12, yR k5), (11, yI (0)), (10, yI (0)), (9, yI (z9)), (0, yR k0), (2, yI (p2)), (3, yI (p3)), (4, yR k4), (5, yR k5)]) rfl ?_
                      refine yG.goto rfl (t := 215) rfl ?_
                      refine yG.goto rfl (t := 6) rfl ?_
                      rw [show (a8 : Int).toNat + 3 = (a8 + 3 : Int).toNat by omega] at f6
                      exact yG.mono (yG.sub (i_6 (z46) (a8 + 3)     (by omega) (by omega) (by omega) (by omega) (by omega) (by omega) (by omega) (by omega) (by omega) (by omega) (by omega) (by omega) (by omega) (by omega) (by omega) ⟨g9, by omega, f6⟩ (by omega)) (ySub.cons rfl (ySub.cons rfl (ySub.cons rfl (ySub.cons rfl (ySub.cons rfl (ySub.cons rfl (ySub.cons rfl (ySub.nil))))))))) (by omega)
                    · have c45 : (z44 : Int) ≠ 0 := c45
                      refine yG.num (c := 1) rfl (fun _ _ => rfl) (by decide) ?_
                      refine yG.goto rfl (t := 124) rfl ?_
                      refine yG.i2l rfl ⟨by omega, by omega⟩ ?_
                      refine yG.bit64 rfl (fun _ _ => rfl) (fun z47 e_z47 l_z47 u_z47 => ?_)
                      refine yG.store2 xlk2 (L' := [(6, yJ (z47)), (12, yR k5), (11, yI (0)), (10, yI (0)), (9, yI (z9)), (0, yR k0), (2, yI (p2)), (3, yI (p3)), (4, yR k4), (5, yR k5), (8, yI (a8))]) rfl (fun _ _ => rfl) rfl rfl ?_
                      refine yG.iinc rfl (a := a8) rfl (L' := [(8, yI (a8 + 3)), (6, yJ (z47)), (12, yR k5), (11, yI (0)), (10, yI (0)), (9, yI (z9)), (0, yR k0), (2, yI (p2)), (3, yI (p3)), (4, yR k4), (5, yR k5)]) rfl ?_
                      refine yG.goto rfl (t := 215) rfl ?_
                      refine yG.goto rfl (t := 6) rfl ?_
                      rw [show (a8 : Int).toNat + 3 = (a8 + 3 : Int).toNat by omega] at f6
                      exact yG.mono (yG.sub (i_6 (z47) (a8 + 3)     (by omega) (by omega) (by omega) (by omega) (by omega) (by omega) (by omega) (by omega) (by omega) (by omega) (by omega) (by omega) (by omega) (by omega) (by omega) ⟨g9, by omega, f6⟩ (by omega)) (ySub.cons rfl (ySub.cons rfl (ySub.cons rfl (ySub.cons rfl (ySub.cons rfl (ySub.cons rfl (ySub.cons rfl (ySub.nil))))))))) (by omega)
            · have c15 : (z14 : Int) = 0 := c15
              refine yG.num (c := 1) rfl (fun _ _ => rfl) (by decide) ?_
              refine yG.goto rfl (t := 63) rfl ?_
              refine yG.store1 xik (L' := [(11, yI (1)), (10, yI (0)), (9, yI (z9)), (0, yR k0), (2, yI (p2)), (3, yI (p3)), (4, yR k4), (5, yR k5), (6, yJ (a6)), (8, yI (a8))]) rfl (fun _ _ => rfl) rfl rfl ?_
              refine yG.load xik rfl (fun _ _ => rfl) (v := yI (z9)) rfl rfl ?_
              refine yG.num (c := 16) rfl (fun _ _ => rfl) (by decide) ?_
              refine yG.icmp rfl (t := 134) rfl ⟨by omega, by omega⟩ ⟨by omega, by omega⟩ (fun c48 => ?_) (fun c48 => ?_)
              · have c48 : (z9 : Int) ≥ 16 := c48
                obtain ⟨f9, f1, f2⟩ := X_6
                obtain ⟨g9, rfl⟩ : ∃ g, f9 = g + 1 := ⟨f9 - 1, by omega⟩
                have f3 := f2 (by omega) (by omega)
                have f6 := f3.2 (by omega)
                refine yG.load xik rfl (fun _ _ => rfl) (v := yI (z9)) rfl rfl ?_
                refine yG.num (c := 16) rfl (fun _ _ => rfl) (by decide) ?_
                refine yG.icmp rfl (t := 150) rfl ⟨by omega, by omega⟩ ⟨by omega, by omega⟩ (fun c49 => ?_) (fun c49 => ?_)
                · have c49 : (z9 : Int) ≠ 16 := c49
                  refine yG.load xik rfl (fun _ _ => rfl) (v := yI (z9)) rfl rfl ?_
                  refine yG.num (c := 17) rfl (fun _ _ => rfl) (by decide) ?_
                  refine yG.icmp rfl (t := 175) rfl ⟨by omega, by omega⟩ ⟨by omega, by omega⟩ (fun c50 => ?_) (fun c50 => ?_)
                  · have c50 : (z9 : Int) ≠ 17 := c50
                    refine yG.load xik rfl (fun _ _ => rfl) (v := yI (0)) rfl rfl ?_
                    refine yG.ifz rfl (t := 185) rfl ⟨by omega, by omega⟩ (fun c51 => ?_) (fun c51 => ?_)
                    · have c51 : (0 : Int) ≠ 0 := c51
                      exfalso; omega
                    · have c51 : (0 : Int) = 0 := c51
                      refine yG.load xik rfl (fun _ _ => rfl) (v := yI (1)) rfl rfl ?_
                      refine yG.ifz rfl (t := 189) rfl ⟨by omega, by omega⟩ (fun c52 => ?_) (fun c52 => ?_)
                      · have c52 : (1 : Int) = 0 := c52
                        exfalso; omega
                      · have c52 : (1 : Int) ≠ 0 := c52
                        refine yG.num (c := 1) rfl (fun _ _ => rfl) (by decide) ?_
                        refine yG.goto rfl (t := 190) rfl ?_
                        refine yG.store1 xik (L' := [(12, yI (1)), (11, yI (1)), (10, yI (0)), (9, yI (z9)), (0, yR k0), (2, yI (p2)), (3, yI (p3)), (4, yR k4), (5, yR k5), (6, yJ (a6)), (8, yI (a8))]) rfl (fun _ _ => rfl) rfl rfl ?_
                        refine yG.load xlk2 rfl (fun _ _ => rfl) (v := yJ (a6)) rfl rfl ?_
                        refine yG.num (c := 2) rfl (fun _ _ => rfl) (by decide) ?_
                        refine yG.bit64 rfl (fun _ _ => rfl) (fun z53 e_z53 l_z53 u_z53 => ?_)
                        have b_z53 : z53 = ((zc64 (a6) : Nat) : Int) / 4 := by rw [e_z53]; exact blushr (n := 2) (by decide) (by decide) (by decide)
                        have c_z53 : zc64 (a6) < 18446744073709551616 := by unfold zc64; omega
                        refine yG.num (c := 1) rfl (fun _ _ => rfl) (by decide) ?_
                        refine yG.bit64 rfl (fun _ _ => rfl) (fun z54 e_z54 l_z54 u_z54 => ?_)
                        have b_z54 : z54 = (z53) * 2 ^ 1 := by rw [e_z54]; exact bshl (n := 1) (by omega) (by omega) (by decide) (by decide)
                        subst b_z54
                        clear e_z54 l_z54 u_z54
                        refine yG.load xik rfl (fun _ _ => rfl) (v := yI (1)) rfl rfl ?_
                        refine yG.ifz rfl (t := 207) rfl ⟨by omega, by omega⟩ (fun c55 => ?_) (fun c55 => ?_)
                        · have c55 : (1 : Int) = 0 := c55
                          exfalso; omega
                        · have c55 : (1 : Int) ≠ 0 := c55
                          refine yG.num (c := 1) rfl (fun _ _ => rfl) (by decide) ?_
                          refine yG.goto rfl (t := 208) rfl ?_
                          refine yG.i2l rfl ⟨by omega, by omega⟩ ?_
                          refine yG.bit64 rfl (fun _ _ => rfl) (fun z56 e_z56 l_z56 u_z56 => ?_)
                          have b_z56 : z56 = (z53) * 2 ^ 1 + 1 := by rw [e_z56]; exact blor (by omega) (by omega) (by omega) (by omega)
                          refine yG.store2 xlk2 (L' := [(6, yJ (z56)), (12, yI (1)), (11, yI (1)), (10, yI (0)), (9, yI (z9)), (0, yR k0), (2, yI (p2)), (3, yI (p3)), (4, yR k4), (5, yR k5), (8, yI (a8))]) rfl (fun _ _ => rfl) rfl rfl ?_
                          refine yG.iinc rfl (a := a8) rfl (L' := [(8, yI (a8 + 1)), (6, yJ (z56)), (12, yI (1)), (11, yI (1)), (10, yI (0)), (9, yI (z9)), (0, yR k0), (2, yI (p2)), (3, yI (p3)), (4, yR k4), (5, yR k5)]) rfl ?_
                          refine yG.goto rfl (t := 6) rfl ?_
                          rw [show (a8 : Int).toNat + 1 = (a8 + 1 : Int).toNat by omega] at f6
                          exact yG.mono (yG.sub (i_6 (z56) (a8 + 1)     (by omega) (by omega) (by omega) (by omega) (by omega) (by omega) (by omega) (by omega) (by omega) (by omega) (by omega) (by omega) (by omega) (by omega) (by omega) ⟨g9, by omega, f6⟩ (by omega)) (ySub.cons rfl (ySub.cons rfl (ySub.cons rfl (ySub.cons rfl (ySub.cons rfl (ySub.cons rfl (ySub.cons rfl (ySub.nil))))))))) (by omega)
                  · have c50 : (z9 : Int) = 17 := c50
                    refine yG.load xik rfl (fun _ _ => rfl) (v := yI (0)) rfl rfl ?_
                    refine yG.ifz rfl (t := 171) rfl ⟨by omega, by omega⟩ (fun c57 => ?_) (fun c57 => ?_)
                    · have c57 : (0 : Int) = 0 := c57
                      refine yG.num (c := 0) rfl (fun _ _ => rfl) (by decide) ?_
                      refine yG.goto rfl (t := 190) rfl ?_
                      refine yG.store1 xik (L' := [(12, yI (0)), (11, yI (1)), (10, yI (0)), (9, yI (z9)), (0, yR k0), (2, yI (p2)), (3, yI (p3)), (4, yR k4), (5, yR k5), (6, yJ (a6)), (8, yI (a8))]) rfl (fun _ _ => rfl) rfl rfl ?_
                      refine yG.load xlk2 rfl (fun _ _ => rfl) (v := yJ (a6)) rfl rfl ?_
                      refine yG.num (c := 2) rfl (fun _ _ => rfl) (by decide) ?_
                      refine yG.bit64 rfl (fun _ _ => rfl) (fun z58 e_z58 l_z58 u_z58 => ?_)
                      have b_z58 : z58 = ((zc64 (a6) : Nat) : Int) / 4 := by rw [e_z58]; exact blushr (n := 2) (by decide) (by decide) (by decide)
                      have c_z58 : zc64 (a6) < 18446744073709551616 := by unfold zc64; omega
                      refine yG.num (c := 1) rfl (fun _ _ => rfl) (by decide) ?_
                      refine yG.bit64 rfl (fun _ _ => rfl) (fun z59 e_z59 l_z59 u_z59 => ?_)
                      have b_z59 : z59 = (z58) * 2 ^ 1 := by rw [e_z59]; exact bshl (n := 1) (by omega) (by omega) (by decide) (by decide)
                      subst b_z59
                      clear e_z59 l_z59 u_z59
                      refine yG.load xik rfl (fun _ _ => rfl) (v := yI (0)) rfl rfl ?_
                      refine yG.ifz rfl (t := 207) rfl ⟨by omega, by omega⟩ (fun c60 => ?_) (fun c60 => ?_)
                      · have c60 : (0 : Int) = 0 := c60
                        refine yG.num (c := 0) rfl (fun _ _ => rfl) (by decide) ?_
                        refine yG.i2l rfl ⟨by omega, by omega⟩ ?_
                        refine yG.bit64 rfl (fun _ _ => rfl) (fun z61 e_z61 l_z61 u_z61 => ?_)
                        have b_z61 : z61 = (z58) * 2 ^ 1 + 0 := by rw [e_z61]; exact blor (by omega) (by omega) (by omega) (by omega)
                        refine yG.store2 xlk2 (L' := [(6, yJ (z61)), (12, yI (0)), (11, yI (1)), (10, yI (0)), (9, yI (z9)), (0, yR k0), (2, yI (p2)), (3, yI (p3)), (4, yR k4), (5, yR k5), (8, yI (a8))]) rfl (fun _ _ => rfl) rfl rfl ?_
                        refine yG.iinc rfl (a := a8) rfl (L' := [(8, yI (a8 + 1)), (6, yJ (z61)), (12, yI (0)), (11, yI (1)), (10, yI (0)), (9, yI (z9)), (0, yR k0), (2, yI (p2)), (3, yI (p3)), (4, yR k4), (5, yR k5)]) rfl ?_
                        refine yG.goto rfl (t := 6) rfl ?_
                        rw [show (a8 : Int).toNat + 1 = (a8 + 1 : Int).toNat by omega] at f6
                        exact yG.mono (yG.sub (i_6 (z61) (a8 + 1)     (by omega) (by omega) (by omega) (by omega) (by omega) (by omega) (by omega) (by omega) (by omega) (by omega) (by omega) (by omega) (by omega) (by omega) (by omega) ⟨g9, by omega, f6⟩ (by omega)) (ySub.cons rfl (ySub.cons rfl (ySub.cons rfl (ySub.cons rfl (ySub.cons rfl (ySub.cons rfl (ySub.cons rfl (ySub.nil))))))))) (by omega)
                      · have c60 : (0 : Int) ≠ 0 := c60
                        exfalso; omega
                    · have c57 : (0 : Int) ≠ 0 := c57
                      exfalso; omega
                · have c49 : (z9 : Int) = 16 := c49
                  refine yG.load xlk2 rfl (fun _ _ => rfl) (v := yJ (a6)) rfl rfl ?_
                  refine yG.numl (c := 1) rfl (fun _ _ => rfl) (by decide) ?_
                  refine yG.bit64 rfl (fun _ _ => rfl) (fun z62 e_z62 l_z62 u_z62 => ?_)
                  refine yG.store2 xlk2 (L' := [(6, yJ (z62)), (11, yI (1)), (10, yI (0)), (9, yI (z9)), (0, yR k0), (2, yI (p2)), (3, yI (p3)), (4, yR k4), (5, yR k5), (8, yI (a8))]) rfl (fun _ _ => rfl) rfl rfl ?_
                  refine yG.goto rfl (t := 212) rfl ?_
                  refine yG.iinc rfl (a := a8) rfl (L' := [(8, yI (a8 + 1)), (6, yJ (z62)), (11, yI (1)), (10, yI (0)), (9, yI (z9)), (0, yR k0), (2, yI (p2)), (3, yI (p3)), (4, yR k4), (5, yR k5)]) rfl ?_
                  refine yG.goto rfl (t := 6) rfl ?_
                  rw [show (a8 : Int).toNat + 1 = (a8 + 1 : Int).toNat by omega] at f6
                  exact yG.mono (yG.sub (i_6 (z62) (a8 + 1)     (by omega) (by omega) (by omega) (by omega) (by omega) (by omega) (by omega) (by omega) (by omega) (by omega) (by omega) (by omega) (by omega) (by omega) (by omega) ⟨g9, by omega, f6⟩ (by omega)) (ySub.cons rfl (ySub.cons rfl (ySub.cons rfl (ySub.cons rfl (ySub.cons rfl (ySub.cons rfl (ySub.cons rfl (ySub.nil))))))))) (by omega)
              · have c48 : (z9 : Int) < 16 := c48
                obtain ⟨f9, f1, f2⟩ := X_6
                obtain ⟨g9, rfl⟩ : ∃ g, f9 = g + 1 := ⟨f9 - 1, by omega⟩
                have f3 := f2 (by omega) (by omega)
                obtain ⟨f4, f5, f6⟩ := f3.1 (by omega)
                refine yG.load xik rfl (fun _ _ => rfl) (v := yI (z9)) rfl rfl ?_
                refine yG.num (c := 8) rfl (fun _ _ => rfl) (by decide) ?_
                refine yG.icmp rfl (t := 84) rfl ⟨by omega, by omega⟩ ⟨by omega, by omega⟩ (fun c63 => ?_) (fun c63 => ?_)
                · have c63 : (z9 : Int) < 8 := c63
                  refine yG.load xak rfl (fun _ _ => rfl) (v := yR k4) rfl rfl ?_
                  refine yG.store1 xak (L' := [(12, yR k4), (11, yI (1)), (10, yI (0)), (9, yI (z9)), (0, yR k0), (2, yI (p2)), (3, yI (p3)), (4, yR k4), (5, yR k5), (6, yJ (a6)), (8, yI (a8))]) rfl (fun _ _ => rfl) rfl rfl ?_
                  refine yG.load xlk2 rfl (fun _ _ => rfl) (v := yJ (a6)) rfl rfl ?_
                  refine yG.num (c := 1) rfl (fun _ _ => rfl) (by decide) ?_
                  refine yG.bit64 rfl (fun _ _ => rfl) (fun z64 e_z64 l_z64 u_z64 => ?_)
                  refine yG.load xik rfl (fun _ _ => rfl) (v := yI (a8)) rfl rfl ?_
                  refine yG.num (c := 2) rfl (fun _ _ => rfl) (by decide) ?_
                  refine yG.iadd rfl ?_
                  refine yG.num (c := 2048) rfl (fun _ _ => rfl) (by decide) ?_
                  refine yG.icmp rfl (t := 123) rfl ⟨by omega, by omega⟩ ⟨by omega, by omega⟩ (fun c65 => ?_) (fun c65 => ?_)
                  · have c65 : (a8 + 2 : Int) ≥ 2048 := c65
                    refine yG.num (c := 0) rfl (fun _ _ => rfl) (by decide) ?_
                    refine yG.i2l rfl ⟨by omega, by omega⟩ ?_
                    refine yG.bit64 rfl (fun _ _ => rfl) (fun z66 e_z66 l_z66 u_z66 => ?_)
                    refine yG.store2 xlk2 (L' := [(6, yJ (z66)), (12, yR k4), (11, yI (1)), (10, yI (0)), (9, yI (z9)), (0, yR k0), (2, yI (p2)), (3, yI (p3)), (4, yR k4), (5, yR k5), (8, yI (a8))]) rfl (fun _ _ => rfl) rfl rfl ?_
                    refine yG.iinc rfl (a := a8) rfl (L' := [(8, yI (a8 + 3)), (6, yJ (z66)), (12, yR k4), (11, yI (1)), (10, yI (0)), (9, yI (z9)), (0, yR k0), (2, yI (p2)), (3, yI (p3)), (4, yR k4), (5, yR k5)]) rfl ?_
                    refine yG.goto rfl (t := 215) rfl ?_
                    refine yG.goto rfl (t := 6) rfl ?_
                    rw [show (a8 : Int).toNat + 3 = (a8 + 3 : Int).toNat by omega] at f6
                    exact yG.mono (yG.sub (i_6 (z66) (a8 + 3)     (by omega) (by omega) (by omega) (by omega) (by omega) (by omega) (by omega) (by omega) (by omega) (by omega) (by omega) (by omega) (by omega) (by omega) (by omega) ⟨g9, by omega, f6⟩ (by omega)) (ySub.cons rfl (ySub.cons rfl (ySub.cons rfl (ySub.cons rfl (ySub.cons rfl (ySub.cons rfl (ySub.cons rfl (ySub.nil))))))))) (by omega)
                  · have c65 : (a8 + 2 : Int) < 2048 := c65
                    refine yG.load xak rfl (fun _ _ => rfl) (v := yR k0) rfl rfl ?_
                    refine yG.load xik rfl (fun _ _ => rfl) (v := yI (a8)) rfl rfl ?_
                    refine yG.load xik rfl (fun _ _ => rfl) (v := yI (z9)) rfl rfl ?_
                    refine yG.num (c := 8) rfl (fun _ _ => rfl) (by decide) ?_
                    refine yG.irem rfl ⟨by omega, by omega⟩ ⟨by omega, by omega⟩ (by omega) (by omega) ?_
                    obtain ⟨z67, e_z67⟩ : ∃ z : Int, z = (z9) % (8) := ⟨_, rfl⟩
                    rw [← e_z67]
                    refine yG.load xik rfl (fun _ _ => rfl) (v := yI (p3)) rfl rfl ?_
                    refine yG.load xak rfl (fun _ _ => rfl) (v := yR k4) rfl rfl ?_
                    have gd9 := f5 (by omega)
                    rw [show (a8 : Int).toNat + 1 = (a8 + 1 : Int).toNat by omega, show (a8 : Int).toNat + 2 = (a8 + 2 : Int).toNat by omega] at gd9
                    rw [show ys hp n1 (a8 : Int).toNat % 8 = z67 by omega] at gd9
                    refine yG.invV (rest := [yJ (z64)]) A_hp.1 (bOb (d_Rules W) H_k0) rfl rfl rfl rfl (c_Rules_isSo_b W d A_hp.1 H_k0 H_k4 H_n1 Q_n1 (a8) (z67) (p3) (by omega) (by omega) (by omega) (by omega) (by omega) (by omega) gd9) (fun rv hp9 q9 => ?_)
                    obtain ⟨⟨z68, rfl, l_z68, u_z68, R_z68⟩, e9⟩ := q9
                    rw [e9]
                    show yG _ _ _ _ _ _ _ _ _ _ (yI z68 :: [yJ (z64)]) _
                    refine yG.ifz rfl (t := 123) rfl ⟨by omega, by omega⟩ (fun c69 => ?_) (fun c69 => ?_)
                    · have c69 : (z68 : Int) = 0 := c69
                      refine yG.num (c := 0) rfl (fun _ _ => rfl) (by decide) ?_
                      refine yG.i2l rfl ⟨by omega, by omega⟩ ?_
                      refine yG.bit64 rfl (fun _ _ => rfl) (fun z70 e_z70 l_z70 u_z70 => ?_)
                      refine yG.store2 xlk2 (L' := [(6, yJ (z70)), (12, yR k4), (11, yI (1)), (10, yI (0)), (9, yI (z9)), (0, yR k0), (2, yI (p2)), (3, yI (p3)), (4, yR k4), (5, yR k5), (8, yI (a8))]) rfl (fun _ _ => rfl) rfl rfl ?_
                      refine yG.iinc rfl (a := a8) rfl (L' := [(8, yI (a8 + 3)), (6, yJ (z70)), (12, yR k4), (11, yI (1)), (10, yI (0)), (9, yI (z9)), (0, yR k0), (2, yI (p2)), (3, yI (p3)), (4, yR k4), (5, yR k5)]) rfl ?_
                      refine yG.goto rfl (t := 215) rfl ?_
                      refine yG.goto rfl (t := 6) rfl ?_
                      rw [show (a8 : Int).toNat + 3 = (a8 + 3 : Int).toNat by omega] at f6
                      exact yG.mono (yG.sub (i_6 (z70) (a8 + 3)     (by omega) (by omega) (by omega) (by omega) (by omega) (by omega) (by omega) (by omega) (by omega) (by omega) (by omega) (by omega) (by omega) (by omega) (by omega) ⟨g9, by omega, f6⟩ (by omega)) (ySub.cons rfl (ySub.cons rfl (ySub.cons rfl (ySub.cons rfl (ySub.cons rfl (ySub.cons rfl (ySub.cons rfl (ySub.nil))))))))) (by omega)
                    · have c69 : (z68 : Int) ≠ 0 := c69
                      refine yG.num (c := 1) rfl (fun _ _ => rfl) (by decide) ?_
                      refine yG.goto rfl (t := 124) rfl ?_
                      refine yG.i2l rfl ⟨by omega, by omega⟩ ?_
                      refine yG.bit64 rfl (fun _ _ => rfl) (fun z71 e_z71 l_z71 u_z71 => ?_)
                      refine yG.store2 xlk2 (L' := [(6, yJ (z71)), (12, yR k4), (11, yI (1)), (10, yI (0)), (9, yI (z9)), (0, yR k0), (2, yI (p2)), (3, yI (p3)), (4, yR k4), (5, yR k5), (8, yI (a8))]) rfl (fun _ _ => rfl) rfl rfl ?_
                      refine yG.iinc rfl (a := a8) rfl (L' := [(8, yI (a8 + 3)), (6, yJ (z71)), (12, yR k4), (11, yI (1)), (10, yI (0)), (9, yI (z9)), (0, yR k0), (2, yI (p2)), (3, yI (p3)), (4, yR k4), (5, yR k5)]) rfl ?_
                      refine yG.goto rfl (t := 215) rfl ?_
                      refine yG.goto rfl (t := 6) rfl ?_
                      rw [show (a8 : Int).toNat + 3 = (a8 + 3 : Int).toNat by omega] at f6
                      exact yG.mono (yG.sub (i_6 (z71) (a8 + 3)     (by omega) (by omega) (by omega) (by omega) (by omega) (by omega) (by omega) (by omega) (by omega) (by omega) (by omega) (by omega) (by omega) (by omega) (by omega) ⟨g9, by omega, f6⟩ (by omega)) (ySub.cons rfl (ySub.cons rfl (ySub.cons rfl (ySub.cons rfl (ySub.cons rfl (ySub.cons rfl (ySub.cons rfl (ySub.nil))))))))) (by omega)
                · have c63 : (z9 : Int) ≥ 8 := c63
                  refine yG.load xak rfl (fun _ _ => rfl) (v := yR k5) rfl rfl ?_
                  refine yG.goto rfl (t := 86) rfl ?_
                  refine yG.store1 xak (L' := [(12, yR k5), (11, yI (1)), (10, yI (0)), (9, yI (z9)), (0, yR k0), (2, yI (p2)), (3, yI (p3)), (4, yR k4), (5, yR k5), (6, yJ (a6)), (8, yI (a8))]) rfl (fun _ _ => rfl) rfl rfl ?_
                  refine yG.load xlk2 rfl (fun _ _ => rfl) (v := yJ (a6)) rfl rfl ?_
                  refine yG.num (c := 1) rfl (fun _ _ => rfl) (by decide) ?_
                  refine yG.bit64 rfl (fun _ _ => rfl) (fun z72 e_z72 l_z72 u_z72 => ?_)
                  refine yG.load xik rfl (fun _ _ => rfl) (v := yI (a8)) rfl rfl ?_
                  refine yG.num (c := 2) rfl (fun _ _ => rfl) (by decide) ?_
                  refine yG.iadd rfl ?_
                  refine yG.num (c := 2048) rfl (fun _ _ => rfl) (by decide) ?_
                  refine yG.icmp rfl (t := 123) rfl ⟨by omega, by omega⟩ ⟨by omega, by omega⟩ (fun c73 => ?_) (fun c73 => ?_)
                  · have c73 : (a8 + 2 : Int) ≥ 2048 := c73
                    refine yG.num (c := 0) rfl (fun _ _ => rfl) (by decide) ?_
                    refine yG.i2l rfl ⟨by omega, by omega⟩ ?_
                    refine yG.bit64 rfl (fun _ _ => rfl) (fun z74 e_z74 l_z74 u_z74 => ?_)
                    refine yG.store2 xlk2 (L' := [(6, yJ (z74)), (12, yR k5), (11, yI (1)), (10, yI (0)), (9, yI (z9)), (0, yR k0), (2, yI (p2)), (3, yI (p3)), (4, yR k4), (5, yR k5), (8, yI (a8))]) rfl (fun _ _ => rfl) rfl rfl ?_
                    refine yG.iinc rfl (a := a8) rfl (L' := [(8, yI (a8 + 3)), (6, yJ (z74)), (12, yR k5), (11, yI (1)), (10, yI (0)), (9, yI (z9)), (0, yR k0), (2, yI (p2)), (3, yI (p3)), (4, yR k4), (5, yR k5)]) rfl ?_
                    refine yG.goto rfl (t := 215) rfl ?_
                    refine yG.goto rfl (t := 6) rfl ?_
                    rw [show (a8 : Int).toNat + 3 = (a8 + 3 : Int).toNat by omega] at f6
                    exact yG.mono (yG.sub (i_6 (z74) (a8 + 3)     (by omega) (by omega) (by omega) (by omega) (by omega) (by omega) (by omega) (by omega) (by omega) (by omega) (by omega) (by omega) (by omega) (by omega) (by omega) ⟨g9, by omega, f6⟩ (by omega)) (ySub.cons rfl (ySub.cons rfl (ySub.cons rfl (ySub.cons rfl (ySub.cons rfl (ySub.cons rfl (ySub.cons rfl (ySub.nil))))))))) (by omega)
                  · have c73 : (a8 + 2 : Int) < 2048 := c73
                    refine yG.load xak rfl (fun _ _ => rfl) (v := yR k0) rfl rfl ?_
                    refine yG.load xik rfl (fun _ _ => rfl) (v := yI (a8)) rfl rfl ?_
                    refine yG.load xik rfl (fun _ _ => rfl) (v := yI (z9)) rfl rfl ?_
                    refine yG.num (c := 8) rfl (fun _ _ => rfl) (by decide) ?_
                    refine yG.irem rfl ⟨by omega, by omega⟩ ⟨by omega, by omega⟩ (by omega) (by omega) ?_
                    obtain ⟨z75, e_z75⟩ : ∃ z : Int, z = (z9) % (8) := ⟨_, rfl⟩
                    rw [← e_z75]
                    refine yG.load xik rfl (fun _ _ => rfl) (v := yI (p3)) rfl rfl ?_
                    refine yG.load xak rfl (fun _ _ => rfl) (v := yR k5) rfl rfl ?_
                    have gd9 := f5 (by omega)
                    rw [show (a8 : Int).toNat + 1 = (a8 + 1 : Int).toNat by omega, show (a8 : Int).toNat + 2 = (a8 + 2 : Int).toNat by omega] at gd9
                    rw [show ys hp n1 (a8 : Int).toNat % 8 = z75 by omega] at gd9
                    refine yG.invV (rest := [yJ (z72)]) A_hp.1 (bOb (d_Rules W) H_k0) rfl rfl rfl rfl (c_Rules_isSo_b W d A_hp.1 H_k0 H_k5 H_n1 Q_n1 (a8) (z75) (p3) (by omega) (by omega) (by omega) (by omega) (by omega) (by omega) gd9) (fun rv hp9 q9 => ?_)
                    obtain ⟨⟨z76, rfl, l_z76, u_z76, R_z76⟩, e9⟩ := q9
                    rw [e9]
                    show yG _ _ _ _ _ _ _ _ _ _ (yI z76 :: [yJ (z72)]) _
                    refine yG.ifz rfl (t := 123) rfl ⟨by omega, by omega⟩ (fun c77 => ?_) (fun c77 => ?_)
                    · have c77 : (z76 : Int) = 0 := c77
                      refine yG.num (c := 0) rfl (fun _ _ => rfl) (by decide) ?_
                      refine yG.i2l rfl ⟨by omega, by omega⟩ ?_
                      refine yG.bit64 rfl (fun _ _ => rfl) (fun z78 e_z78 l_z78 u_z78 => ?_)
                      refine yG.store2 xlk2 (L' := [(6, yJ (z78)), (12, yR k5), (11, yI (1)), (10, yI (0)), (9, yI (z9)), (0, yR k0), (2, yI (p2)), (3, yI (p3)), (4, yR k4), (5, yR k5), (8, yI (a8))]) rfl (fun _ _ => rfl) rfl rfl ?_
                      refine yG.iinc rfl (a := a8) rfl (L' := [(8, yI (a8 + 3)), (6, yJ (z78)), (12, yR k5), (11, yI (1)), (10, yI (0)), (9, yI (z9)), (0, yR k0), (2, yI (p2)), (3, yI (p3)), (4, yR k4), (5, yR k5)]) rfl ?_
                      refine yG.goto rfl (t := 215) rfl ?_
                      refine yG.goto rfl (t := 6) rfl ?_
                      rw [show (a8 : Int).toNat + 3 = (a8 + 3 : Int).toNat by omega] at f6
                      exact yG.mono (yG.sub (i_6 (z78) (a8 + 3)     (by omega) (by omega) (by omega) (by omega) (by omega) (by omega) (by omega) (by omega) (by omega) (by omega) (by omega) (by omega) (by omega) (by omega) (by omega) ⟨g9, by omega, f6⟩ (by omega)) (ySub.cons rfl (ySub.cons rfl (ySub.cons rfl (ySub.cons rfl (ySub.cons rfl (ySub.cons rfl (ySub.cons rfl (ySub.nil))))))))) (by omega)
                    · have c77 : (z76 : Int) ≠ 0 := c77
                      refine yG.num (c := 1) rfl (fun _ _ => rfl) (by decide) ?_
                      refine yG.goto rfl (t := 124) rfl ?_
                      refine yG.i2l rfl ⟨by omega, by omega⟩ ?_
                      refine yG.bit64 rfl (fun _ _ => rfl) (fun z79 e_z79 l_z79 u_z79 => ?_)
                      refine yG.store2 xlk2 (L' := [(6, yJ (z79)), (12, yR k5), (11, yI (1)), (10, yI (0)), (9, yI (z9)), (0, yR k0), (2, yI (p2)), (3, yI (p3)), (4, yR k4), (5, yR k5), (8, yI (a8))]) rfl (fun _ _ => rfl) rfl rfl ?_
                      refine yG.iinc rfl (a := a8) rfl (L' := [(8, yI (a8 + 3)), (6, yJ (z79)), (12, yR k5), (11, yI (1)), (10, yI (0)), (9, yI (z9)), (0, yR k0), (2, yI (p2)), (3, yI (p3)), (4, yR k4), (5, yR k5)]) rfl ?_
                      refine yG.goto rfl (t := 215) rfl ?_
                      refine yG.goto rfl (t := 6) rfl ?_
                      rw [show (a8 : Int).toNat + 3 = (a8 + 3 : Int).toNat by omega] at f6
                      exact yG.mono (yG.sub (i_6 (z79) (a8 + 3)     (by omega) (by omega) (by omega) (by omega) (by omega) (by omega) (by omega) (by omega) (by omega) (by omega) (by omega) (by omega) (by omega) (by omega) (by omega) ⟨g9, by omega, f6⟩ (by omega)) (ySub.cons rfl (ySub.cons rfl (ySub.cons rfl (ySub.cons rfl (ySub.cons rfl (ySub.cons rfl (ySub.cons rfl (ySub.nil))))))))) (by omega)
          · have c12 : (z11 : Int) = 0 := c12
            refine yG.num (c := 1) rfl (fun _ _ => rfl) (by decide) ?_
            refine yG.goto rfl (t := 43) rfl ?_
            refine yG.store1 xik (L' := [(10, yI (1)), (9, yI (z9)), (0, yR k0), (2, yI (p2)), (3, yI (p3)), (4, yR k4), (5, yR k5), (6, yJ (a6)), (8, yI (a8))]) rfl (fun _ _ => rfl) rfl rfl ?_
            refine yG.load xlk2 rfl (fun _ _ => rfl) (v := yJ (a6)) rfl rfl ?_
            refine yG.numl (c := 2) rfl (fun _ _ => rfl) (by decide) ?_
            refine yG.bit64 rfl (fun _ _ => rfl) (fun z80 e_z80 l_z80 u_z80 => ?_)
            have b_z80 : 0 ≤ z80 ∧ z80 ≤ 2 := by rw [e_z80]; exact yland ⟨by decide, by decide⟩ (by decide)
            refine yG.numl (c := 2) rfl (fun _ _ => rfl) (by decide) ?_
            refine yG.lcmp rfl ⟨by omega, by omega⟩ ⟨by omega, by omega⟩ (fun z81 e_z81 => ?_)
            refine yG.ifz rfl (t := 62) rfl ⟨by omega, by omega⟩ (fun c82 => ?_) (fun c82 => ?_)
            · have c82 : (z81 : Int) ≠ 0 := c82
              refine yG.num (c := 0) rfl (fun _ _ => rfl) (by decide) ?_
              refine yG.store1 xik (L' := [(11, yI (0)), (10, yI (1)), (9, yI (z9)), (0, yR k0), (2, yI (p2)), (3, yI (p3)), (4, yR k4), (5, yR k5), (6, yJ (a6)), (8, yI (a8))]) rfl (fun _ _ => rfl) rfl rfl ?_
              refine yG.load xik rfl (fun _ _ => rfl) (v := yI (z9)) rfl rfl ?_
              refine yG.num (c := 16) rfl (fun _ _ => rfl) (by decide) ?_
              refine yG.icmp rfl (t := 134) rfl ⟨by omega, by omega⟩ ⟨by omega, by omega⟩ (fun c83 => ?_) (fun c83 => ?_)
              · have c83 : (z9 : Int) ≥ 16 := c83
                obtain ⟨f9, f1, f2⟩ := X_6
                obtain ⟨g9, rfl⟩ : ∃ g, f9 = g + 1 := ⟨f9 - 1, by omega⟩
                have f3 := f2 (by omega) (by omega)
                have f6 := f3.2 (by omega)
                refine yG.load xik rfl (fun _ _ => rfl) (v := yI (z9)) rfl rfl ?_
                refine yG.num (c := 16) rfl (fun _ _ => rfl) (by decide) ?_
                refine yG.icmp rfl (t := 150) rfl ⟨by omega, by omega⟩ ⟨by omega, by omega⟩ (fun c84 => ?_) (fun c84 => ?_)
                · have c84 : (z9 : Int) ≠ 16 := c84
                  refine yG.load xik rfl (fun _ _ => rfl) (v := yI (z9)) rfl rfl ?_
                  refine yG.num (c := 17) rfl (fun _ _ => rfl) (by decide) ?_
                  refine yG.icmp rfl (t := 175) rfl ⟨by omega, by omega⟩ ⟨by omega, by omega⟩ (fun c85 => ?_) (fun c85 => ?_)
                  · have c85 : (z9 : Int) ≠ 17 := c85
                    refine yG.load xik rfl (fun _ _ => rfl) (v := yI (1)) rfl rfl ?_
                    refine yG.ifz rfl (t := 185) rfl ⟨by omega, by omega⟩ (fun c86 => ?_) (fun c86 => ?_)
                    · have c86 : (1 : Int) ≠ 0 := c86
                      refine yG.num (c := 1) rfl (fun _ _ => rfl) (by decide) ?_
                      refine yG.goto rfl (t := 190) rfl ?_
                      refine yG.store1 xik (L' := [(12, yI (1)), (11, yI (0)), (10, yI (1)), (9, yI (z9)), (0, yR k0), (2, yI (p2)), (3, yI (p3)), (4, yR k4), (5, yR k5), (6, yJ (a6)), (8, yI (a8))]) rfl (fun _ _ => rfl) rfl rfl ?_
                      refine yG.load xlk2 rfl (fun _ _ => rfl) (v := yJ (a6)) rfl rfl ?_
                      refine yG.num (c := 2) rfl (fun _ _ => rfl) (by decide) ?_
                      refine yG.bit64 rfl (fun _ _ => rfl) (fun z87 e_z87 l_z87 u_z87 => ?_)
                      have b_z87 : z87 = ((zc64 (a6) : Nat) : Int) / 4 := by rw [e_z87]; exact blushr (n := 2) (by decide) (by decide) (by decide)
                      have c_z87 : zc64 (a6) < 18446744073709551616 := by unfold zc64; omega
                      refine yG.num (c := 1) rfl (fun _ _ => rfl) (by decide) ?_
                      refine yG.bit64 rfl (fun _ _ => rfl) (fun z88 e_z88 l_z88 u_z88 => ?_)
                      have b_z88 : z88 = (z87) * 2 ^ 1 := by rw [e_z88]; exact bshl (n := 1) (by omega) (by omega) (by decide) (by decide)
                      subst b_z88
                      clear e_z88 l_z88 u_z88
                      refine yG.load xik rfl (fun _ _ => rfl) (v := yI (1)) rfl rfl ?_
                      refine yG.ifz rfl (t := 207) rfl ⟨by omega, by omega⟩ (fun c89 => ?_) (fun c89 => ?_)
                      · have c89 : (1 : Int) = 0 := c89
                        exfalso; omega
                      · have c89 : (1 : Int) ≠ 0 := c89
                        refine yG.num (c := 1) rfl (fun _ _ => rfl) (by decide) ?_
                        refine yG.goto rfl (t := 208) rfl ?_
                        refine yG.i2l rfl ⟨by omega, by omega⟩ ?_
                        refine yG.bit64 rfl (fun _ _ => rfl) (fun z90 e_z90 l_z90 u_z90 => ?_)
                        have b_z90 : z90 = (z87) * 2 ^ 1 + 1 := by rw [e_z90]; exact blor (by omega) (by omega) (by omega) (by omega)
                        refine yG.store2 xlk2 (L' := [(6, yJ (z90)), (12, yI (1)), (11, yI (0)), (10, yI (1)), (9, yI (z9)), (0, yR k0), (2, yI (p2)), (3, yI (p3)), (4, yR k4), (5, yR k5), (8, yI (a8))]) rfl (fun _ _ => rfl) rfl rfl ?_
                        refine yG.iinc rfl (a := a8) rfl (L' := [(8, yI (a8 + 1)), (6, yJ (z90)), (12, yI (1)), (11, yI (0)), (10, yI (1)), (9, yI (z9)), (0, yR k0), (2, yI (p2)), (3, yI (p3)), (4, yR k4), (5, yR k5)]) rfl ?_
                        refine yG.goto rfl (t := 6) rfl ?_
                        rw [show (a8 : Int).toNat + 1 = (a8 + 1 : Int).toNat by omega] at f6
                        exact yG.mono (yG.sub (i_6 (z90) (a8 + 1)     (by omega) (by omega) (by omega) (by omega) (by omega) (by omega) (by omega) (by omega) (by omega) (by omega) (by omega) (by omega) (by omega) (by omega) (by omega) ⟨g9, by omega, f6⟩ (by omega)) (ySub.cons rfl (ySub.cons rfl (ySub.cons rfl (ySub.cons rfl (ySub.cons rfl (ySub.cons rfl (ySub.cons rfl (ySub.nil))))))))) (by omega)
                    · have c86 : (1 : Int) = 0 := c86
                      exfalso; omega
                  · have c85 : (z9 : Int) = 17 := c85
                    refine yG.load xik rfl (fun _ _ => rfl) (v := yI (1)) rfl rfl ?_
                    refine yG.ifz rfl (t := 171) rfl ⟨by omega, by omega⟩ (fun c91 => ?_) (fun c91 => ?_)
                    · have c91 : (1 : Int) = 0 := c91
                      exfalso; omega
                    · have c91 : (1 : Int) ≠ 0 := c91
                      refine yG.load xik rfl (fun _ _ => rfl) (v := yI (0)) rfl rfl ?_
                      refine yG.ifz rfl (t := 171) rfl ⟨by omega, by omega⟩ (fun c92 => ?_) (fun c92 => ?_)
                      · have c92 : (0 : Int) = 0 := c92
                        refine yG.num (c := 0) rfl (fun _ _ => rfl) (by decide) ?_
                        refine yG.goto rfl (t := 190) rfl ?_
                        refine yG.store1 xik (L' := [(12, yI (0)), (11, yI (0)), (10, yI (1)), (9, yI (z9)), (0, yR k0), (2, yI (p2)), (3, yI (p3)), (4, yR k4), (5, yR k5), (6, yJ (a6)), (8, yI (a8))]) rfl (fun _ _ => rfl) rfl rfl ?_
                        refine yG.load xlk2 rfl (fun _ _ => rfl) (v := yJ (a6)) rfl rfl ?_
                        refine yG.num (c := 2) rfl (fun _ _ => rfl) (by decide) ?_
                        refine yG.bit64 rfl (fun _ _ => rfl) (fun z93 e_z93 l_z93 u_z93 => ?_)
                        have b_z93 : z93 = ((zc64 (a6) : Nat) : Int) / 4 := by rw [e_z93]; exact blushr (n := 2) (by decide) (by decide) (by decide)
                        have c_z93 : zc64 (a6) < 18446744073709551616 := by unfold zc64; omega
                        refine yG.num (c := 1) rfl (fun _ _ => rfl) (by decide) ?_
                        refine yG.bit64 rfl (fun _ _ => rfl) (fun z94 e_z94 l_z94 u_z94 => ?_)
                        have b_z94 : z94 = (z93) * 2 ^ 1 := by rw [e_z94]; exact bshl (n := 1) (by omega) (by omega) (by decide) (by decide)
                        subst b_z94
                        clear e_z94 l_z94 u_z94
                        refine yG.load xik rfl (fun _ _ => rfl) (v := yI (0)) rfl rfl ?_
                        refine yG.ifz rfl (t := 207) rfl ⟨by omega, by omega⟩ (fun c95 => ?_) (fun c95 => ?_)
                        · have c95 : (0 : Int) = 0 := c95
                          refine yG.num (c := 0) rfl (fun _ _ => rfl) (by decide) ?_
                          refine yG.i2l rfl ⟨by omega, by omega⟩ ?_
                          refine yG.bit64 rfl (fun _ _ => rfl) (fun z96 e_z96 l_z96 u_z96 => ?_)
                          have b_z96 : z96 = (z93) * 2 ^ 1 + 0 := by rw [e_z96]; exact blor (by omega) (by omega) (by omega) (by omega)
                          refine yG.store2 xlk2 (L' := [(6, yJ (z96)), (12, yI (0)), (11, yI (0)), (10, yI (1)), (9, yI (z9)), (0, yR k0), (2, yI (p2)), (3, yI (p3)), (4, yR k4), (5, yR k5), (8, yI (a8))]) rfl (fun _ _ => rfl) rfl rfl ?_
                          refine yG.iinc rfl (a := a8) rfl (L' := [(8, yI (a8 + 1)), (6, yJ (z96)), (12, yI (0)), (11, yI (0)), (10, yI (1)), (9, yI (z9)), (0, yR k0), (2, yI (p2)), (3, yI (p3)), (4, yR k4), (5, yR k5)]) rfl ?_
                          refine yG.goto rfl (t := 6) rfl ?_
                          rw [show (a8 : Int).toNat + 1 = (a8 + 1 : Int).toNat by omega] at f6
                          exact yG.mono (yG.sub (i_6 (z96) (a8 + 1)     (by omega) (by omega) (by omega) (by omega) (by omega) (by omega) (by omega) (by omega) (by omega) (by omega) (by omega) (by omega) (by omega) (by omega) (by omega) ⟨g9, by omega, f6⟩ (by omega)) (ySub.cons rfl (ySub.cons rfl (ySub.cons rfl (ySub.cons rfl (ySub.cons rfl (ySub.cons rfl (ySub.cons rfl (ySub.nil))))))))) (by omega)
                        · have c95 : (0 : Int) ≠ 0 := c95
                          exfalso; omega
                      · have c92 : (0 : Int) ≠ 0 := c92
                        exfalso; omega
                · have c84 : (z9 : Int) = 16 := c84
                  refine yG.load xlk2 rfl (fun _ _ => rfl) (v := yJ (a6)) rfl rfl ?_
                  refine yG.numl (c := 1) rfl (fun _ _ => rfl) (by decide) ?_
                  refine yG.bit64 rfl (fun _ _ => rfl) (fun z97 e_z97 l_z97 u_z97 => ?_)
                  refine yG.store2 xlk2 (L' := [(6, yJ (z97)), (11, yI (0)), (10, yI (1)), (9, yI (z9)), (0, yR k0), (2, yI (p2)), (3, yI (p3)), (4, yR k4), (5, yR k5), (8, yI (a8))]) rfl (fun _ _ => rfl) rfl rfl ?_
                  refine yG.goto rfl (t := 212) rfl ?_
                  refine yG.iinc rfl (a := a8) rfl (L' := [(8, yI (a8 + 1)), (6, yJ (z97)), (11, yI (0)), (10, yI (1)), (9, yI (z9)), (0, yR k0), (2, yI (p2)), (3, yI (p3)), (4, yR k4), (5, yR k5)]) rfl ?_
                  refine yG.goto rfl (t := 6) rfl ?_
                  rw [show (a8 : Int).toNat + 1 = (a8 + 1 : Int).toNat by omega] at f6
                  exact yG.mono (yG.sub (i_6 (z97) (a8 + 1)     (by omega) (by omega) (by omega) (by omega) (by omega) (by omega) (by omega) (by omega) (by omega) (by omega) (by omega) (by omega) (by omega) (by omega) (by omega) ⟨g9, by omega, f6⟩ (by omega)) (ySub.cons rfl (ySub.cons rfl (ySub.cons rfl (ySub.cons rfl (ySub.cons rfl (ySub.cons rfl (ySub.cons rfl (ySub.nil))))))))) (by omega)
              · have c83 : (z9 : Int) < 16 := c83
                obtain ⟨f9, f1, f2⟩ := X_6
                obtain ⟨g9, rfl⟩ : ∃ g, f9 = g + 1 := ⟨f9 - 1, by omega⟩
                have f3 := f2 (by omega) (by omega)
                obtain ⟨f4, f5, f6⟩ := f3.1 (by omega)
                refine yG.load xik rfl (fun _ _ => rfl) (v := yI (z9)) rfl rfl ?_
                refine yG.num (c := 8) rfl (fun _ _ => rfl) (by decide) ?_
                refine yG.icmp rfl (t := 84) rfl ⟨by omega, by omega⟩ ⟨by omega, by omega⟩ (fun c98 => ?_) (fun c98 => ?_)
                · have c98 : (z9 : Int) < 8 := c98
                  refine yG.load xak rfl (fun _ _ => rfl) (v := yR k4) rfl rfl ?_
                  refine yG.store1 xak (L' := [(12, yR k4), (11, yI (0)), (10, yI (1)), (9, yI (z9)), (0, yR k0), (2, yI (p2)), (3, yI (p3)), (4, yR k4), (5, yR k5), (6, yJ (a6)), (8, yI (a8))]) rfl (fun _ _ => rfl) rfl rfl ?_
                  refine yG.load xlk2 rfl (fun _ _ => rfl) (v := yJ (a6)) rfl rfl ?_
                  refine yG.num (c := 1) rfl (fun _ _ => rfl) (by decide) ?_
                  refine yG.bit64 rfl (fun _ _ => rfl) (fun z99 e_z99 l_z99 u_z99 => ?_)
                  refine yG.load xik rfl (fun _ _ => rfl) (v := yI (a8)) rfl rfl ?_
                  refine yG.num (c := 2) rfl (fun _ _ => rfl) (by decide) ?_
                  refine yG.iadd rfl ?_
                  refine yG.num (c := 2048) rfl (fun _ _ => rfl) (by decide) ?_
                  refine yG.icmp rfl (t := 123) rfl ⟨by omega, by omega⟩ ⟨by omega, by omega⟩ (fun c100 => ?_) (fun c100 => ?_)
                  · have c100 : (a8 + 2 : Int) ≥ 2048 := c100
                    refine yG.num (c := 0) rfl (fun _ _ => rfl) (by decide) ?_
                    refine yG.i2l rfl ⟨by omega, by omega⟩ ?_
                    refine yG.bit64 rfl (fun _ _ => rfl) (fun z101 e_z101 l_z101 u_z101 => ?_)
                    refine yG.store2 xlk2 (L' := [(6, yJ (z101)), (12, yR k4), (11, yI (0)), (10, yI (1)), (9, yI (z9)), (0, yR k0), (2, yI (p2)), (3, yI (p3)), (4, yR k4), (5, yR k5), (8, yI (a8))]) rfl (fun _ _ => rfl) rfl rfl ?_
                    refine yG.iinc rfl (a := a8) rfl (L' := [(8, yI (a8 + 3)), (6, yJ (z101)), (12, yR k4), (11, yI (0)), (10, yI (1)), (9, yI (z9)), (0, yR k0), (2, yI (p2)), (3, yI (p3)), (4, yR k4), (5, yR k5)]) rfl ?_
                    refine yG.goto rfl (t := 215) rfl ?_
                    refine yG.goto rfl (t := 6) rfl ?_
                    rw [show (a8 : Int).toNat + 3 = (a8 + 3 : Int).toNat by omega] at f6
                    exact yG.mono (yG.sub (i_6 (z101) (a8 + 3)     (by omega) (by omega) (by omega) (by omega) (by omega) (by omega) (by omega) (by omega) (by omega) (by omega) (by omega) (by omega) (by omega) (by omega) (by omega) ⟨g9, by omega, f6⟩ (by omega)) (ySub.cons rfl (ySub.cons rfl (ySub.cons rfl (ySub.cons rfl (ySub.cons rfl (ySub.cons rfl (ySub.cons rfl (ySub.nil))))))))) (by omega)
                  · have c100 : (a8 + 2 : Int) < 2048 := c100
                    refine yG.load xak rfl (fun _ _ => rfl) (v := yR k0) rfl rfl ?_
                    refine yG.load xik rfl (fun _ _ => rfl) (v := yI (a8)) rfl rfl ?_
                    refine yG.load xik rfl (fun _ _ => rfl) (v := yI (z9)) rfl rfl ?_
                    refine yG.num (c := 8) rfl (fun _ _ => rfl) (by decide) ?_
                    refine yG.irem rfl ⟨by omega, by omega⟩ ⟨by omega, by omega⟩ (by omega) (by omega) ?_
                    obtain ⟨z102, e_z102⟩ : ∃ z : Int, z = (z9) % (8) := ⟨_, rfl⟩
                    rw [← e_z102]
                    refine yG.load xik rfl (fun _ _ => rfl) (v := yI (p3)) rfl rfl ?_
                    refine yG.load xak rfl (fun _ _ => rfl) (v := yR k4) rfl rfl ?_
                    have gd9 := f5 (by omega)
                    rw [show (a8 : Int).toNat + 1 = (a8 + 1 : Int).toNat by omega, show (a8 : Int).toNat + 2 = (a8 + 2 : Int).toNat by omega] at gd9
                    rw [show ys hp n1 (a8 : Int).toNat % 8 = z102 by omega] at gd9
                    refine yG.invV (rest := [yJ (z99)]) A_hp.1 (bOb (d_Rules W) H_k0) rfl rfl rfl rfl (c_Rules_isSo_b W d A_hp.1 H_k0 H_k4 H_n1 Q_n1 (a8) (z102) (p3) (by omega) (by omega) (by omega) (by omega) (by omega) (by omega) gd9) (fun rv hp9 q9 => ?_)
                    obtain ⟨⟨z103, rfl, l_z103, u_z103, R_z103⟩, e9⟩ := q9
                    rw [e9]
                    show yG _ _ _ _ _ _ _ _ _ _ (yI z103 :: [yJ (z99)]) _
                    refine yG.ifz rfl (t := 123) rfl ⟨by omega, by omega⟩ (fun c104 => ?_) (fun c104 => ?_)
                    · have c104 : (z103 : Int) = 0 := c104
                      refine yG.num (c := 0) rfl (fun _ _ => rfl) (by decide) ?_
                      refine yG.i2l rfl ⟨by omega, by omega⟩ ?_
                      refine yG.bit64 rfl (fun _ _ => rfl) (fun z105 e_z105 l_z105 u_z105 => ?_)
                      refine yG.store2 xlk2 (L' := [(6, yJ (z105)), (12, yR k4), (11, yI (0)), (10, yI (1)), (9, yI (z9)), (0, yR k0), (2, yI (p2)), (3, yI (p3)), (4, yR k4), (5, yR k5), (8, yI (a8))]) rfl (fun _ _ => rfl) rfl rfl ?_
                      refine yG.iinc rfl (a := a8) rfl (L' := [(8, yI (a8 + 3)), (6, yJ (z105)), (12, yR k4), (11, yI (0)), (10, yI (1)), (9, yI (z9)), (0, yR k0), (2, yI (p2)), (3, yI (p3)), (4, yR k4), (5, yR k5)]) rfl ?_
                      refine yG.goto rfl (t := 215) rfl ?_
                      refine yG.goto rfl (t := 6) rfl ?_
                      rw [show (a8 : Int).toNat + 3 = (a8 + 3 : Int).toNat by omega] at f6
                      exact yG.mono (yG.sub (i_6 (z105) (a8 + 3)     (by omega) (by omega) (by omega) (by omega) (by omega) (by omega) (by omega) (by omega) (by omega) (by omega) (by omega) (by omega) (by omega) (by omega) (by omega) ⟨g9, by omega, f6⟩ (by omega)) (ySub.cons rfl (ySub.cons rfl (ySub.cons rfl (ySub.cons rfl (ySub.cons rfl (ySub.cons rfl (ySub.cons rfl (ySub.nil))))))))) (by omega)
                    · have c104 : (z103 : Int) ≠ 0 := c104
                      refine yG.num (c := 1) rfl (fun _ _ => rfl) (by decide) ?_
                      refine yG.goto rfl (t := 124) rfl ?_
                      refine yG.i2l rfl ⟨by omega, by omega⟩ ?_
                      refine yG.bit64 rfl (fun _ _ => rfl) (fun z106 e_z106 l_z106 u_z106 => ?_)
                      refine yG.store2 xlk2 (L' := [(6, yJ (z106)), (12, yR k4), (11, yI (0)), (10, yI (1)), (9, yI (z9)), (0, yR k0), (2, yI (p2)), (3, yI (p3)), (4, yR k4), (5, yR k5), (8, yI (a8))]) rfl (fun _ _ => rfl) rfl rfl ?_
                      refine yG.iinc rfl (a := a8) rfl (L' := [(8, yI (a8 + 3)), (6, yJ (z106)), (12, yR k4), (11, yI (0)), (10, yI (1)), (9, yI (z9)), (0, yR k0), (2, yI (p2)), (3, yI (p3)), (4, yR k4), (5, yR k5)]) rfl ?_
                      refine yG.goto rfl (t := 215) rfl ?_
                      refine yG.goto rfl (t := 6) rfl ?_
                      rw [show (a8 : Int).toNat + 3 = (a8 + 3 : Int).toNat by omega] at f6
                      exact yG.mono (yG.sub (i_6 (z106) (a8 + 3)     (by omega) (by omega) (by omega) (by omega) (by omega) (by omega) (by omega) (by omega) (by omega) (by omega) (by omega) (by omega) (by omega) (by omega) (by omega) ⟨g9, by omega, f6⟩ (by omega)) (ySub.cons rfl (ySub.cons rfl (ySub.cons rfl (ySub.cons rfl (ySub.cons rfl (ySub.cons rfl (ySub.cons rfl (ySub.nil))))))))) (by omega)
                · have c98 : (z9 : Int) ≥ 8 := c98
                  refine yG.load xak rfl (fun _ _ => rfl) (v := yR k5) rfl rfl ?_
                  refine yG.goto rfl (t := 86) rfl ?_
                  refine yG.store1 xak (L' := [(12, yR k5), (11, yI (0)), (10, yI (1)), (9, yI (z9)), (0, yR k0), (2, yI (p2)), (3, yI (p3)), (4, yR k4), (5, yR k5), (6, yJ (a6)), (8, yI (a8))]) rfl (fun _ _ => rfl) rfl rfl ?_
                  refine yG.load xlk2 rfl (fun _ _ => rfl) (v := yJ (a6)) rfl rfl ?_
                  refine yG.num (c := 1) rfl (fun _ _ => rfl) (by decide) ?_
                  refine yG.bit64 rfl (fun _ _ => rfl) (fun z107 e_z107 l_z107 u_z107 => ?_)
                  refine yG.load xik rfl (fun _ _ => rfl) (v := yI (a8)) rfl rfl ?_
                  refine yG.num (c := 2) rfl (fun _ _ => rfl) (by decide) ?_
                  refine yG.iadd rfl ?_
                  refine yG.num (c := 2048) rfl (fun _ _ => rfl) (by decide) ?_
                  refine yG.icmp rfl (t := 123) rfl ⟨by omega, by omega⟩ ⟨by omega, by omega⟩ (fun c108 => ?_) (fun c108 => ?_)
                  · have c108 : (a8 + 2 : Int) ≥ 2048 := c108
                    refine yG.num (c := 0) rfl (fun _ _ => rfl) (by decide) ?_
                    refine yG.i2l rfl ⟨by omega, by omega⟩ ?_
                    refine yG.bit64 rfl (fun _ _ => rfl) (fun z109 e_z109 l_z109 u_z109 => ?_)
                    refine yG.store2 xlk2 (L' := [(6, yJ (z109)), (12, yR k5), (11, yI (0)), (10, yI (1)), (9, yI (z9)), (0, yR k0), (2, yI (p2)), (3, yI (p3)), (4, yR k4), (5, yR k5), (8, yI (a8))]) rfl (fun _ _ => rfl) rfl rfl ?_
                    refine yG.iinc rfl (a := a8) rfl (L' := [(8, yI (a8 + 3)), (6, yJ (z109)), (12, yR k5), (11, yI (0)), (10, yI (1)), (9, yI (z9)), (0, yR k0), (2, yI (p2)), (3, yI (p3)), (4, yR k4), (5, yR k5)]) rfl ?_
                    refine yG.goto rfl (t := 215) rfl ?_
                    refine yG.goto rfl (t := 6) rfl ?_
                    rw [show (a8 : Int).toNat + 3 = (a8 + 3 : Int).toNat by omega] at f6
                    exact yG.mono (yG.sub (i_6 (z109) (a8 + 3)     (by omega) (by omega) (by omega) (by omega) (by omega) (by omega) (by omega) (by omega) (by omega) (by omega) (by omega) (by omega) (by omega) (by omega) (by omega) ⟨g9, by omega, f6⟩ (by omega)) (ySub.cons rfl (ySub.cons rfl (ySub.cons rfl (ySub.cons rfl (ySub.cons rfl (ySub.cons rfl (ySub.cons rfl (ySub.nil))))))))) (by omega)
                  · have c108 : (a8 + 2 : Int) < 2048 := c108
                    refine yG.load xak rfl (fun _ _ => rfl) (v := yR k0) rfl rfl ?_
                    refine yG.load xik rfl (fun _ _ => rfl) (v := yI (a8)) rfl rfl ?_
                    refine yG.load xik rfl (fun _ _ => rfl) (v := yI (z9)) rfl rfl ?_
                    refine yG.num (c := 8) rfl (fun _ _ => rfl) (by decide) ?_
                    refine yG.irem rfl ⟨by omega, by omega⟩ ⟨by omega, by omega⟩ (by omega) (by omega) ?_
                    obtain ⟨z110, e_z110⟩ : ∃ z : Int, z = (z9) % (8) := ⟨_, rfl⟩
                    rw [← e_z110]
                    refine yG.load xik rfl (fun _ _ => rfl) (v := yI (p3)) rfl rfl ?_
                    refine yG.load xak rfl (fun _ _ => rfl) (v := yR k5) rfl rfl ?_
                    have gd9 := f5 (by omega)
                    rw [show (a8 : Int).toNat + 1 = (a8 + 1 : Int).toNat by omega, show (a8 : Int).toNat + 2 = (a8 + 2 : Int).toNat by omega] at gd9
                    rw [show ys hp n1 (a8 : Int).toNat % 8 = z110 by omega] at gd9
                    refine yG.invV (rest := [yJ (z107)]) A_hp.1 (bOb (d_Rules W) H_k0) rfl rfl rfl rfl (c_Rules_isSo_b W d A_hp.1 H_k0 H_k5 H_n1 Q_n1 (a8) (z110) (p3) (by omega) (by omega) (by omega) (by omega) (by omega) (by omega) gd9) (fun rv hp9 q9 => ?_)
                    obtain ⟨⟨z111, rfl, l_z111, u_z111, R_z111⟩, e9⟩ := q9
                    rw [e9]
                    show yG _ _ _ _ _ _ _ _ _ _ (yI z111 :: [yJ (z107)]) _
                    refine yG.ifz rfl (t := 123) rfl ⟨by omega, by omega⟩ (fun c112 => ?_) (fun c112 => ?_)
                    · have c112 : (z111 : Int) = 0 := c112
                      refine yG.num (c := 0) rfl (fun _ _ => rfl) (by decide) ?_
                      refine yG.i2l rfl ⟨by omega, by omega⟩ ?_
                      refine yG.bit64 rfl (fun _ _ => rfl) (fun z113 e_z113 l_z113 u_z113 => ?_)
                      refine yG.store2 xlk2 (L' := [(6, yJ (z113)), (12, yR k5), (11, yI (0)), (10, yI (1)), (9, yI (z9)), (0, yR k0), (2, yI (p2)), (3, yI (p3)), (4, yR k4), (5, yR k5), (8, yI (a8))]) rfl (fun _ _ => rfl) rfl rfl ?_
                      refine yG.iinc rfl (a := a8) rfl (L' := [(8, yI (a8 + 3)), (6, yJ (z113)), (12, yR k5), (11, yI (0)), (10, yI (1)), (9, yI (z9)), (0, yR k0), (2, yI (p2)), (3, yI (p3)), (4, yR k4), (5, yR k5)]) rfl ?_
                      refine yG.goto rfl (t := 215) rfl ?_
                      refine yG.goto rfl (t := 6) rfl ?_
                      rw [show (a8 : Int).toNat + 3 = (a8 + 3 : Int).toNat by omega] at f6
                      exact yG.mono (yG.sub (i_6 (z113) (a8 + 3)     (by omega) (by omega) (by omega) (by omega) (by omega) (by omega) (by omega) (by omega) (by omega) (by omega) (by omega) (by omega) (by omega) (by omega) (by omega) ⟨g9, by omega, f6⟩ (by omega)) (ySub.cons rfl (ySub.cons rfl (ySub.cons rfl (ySub.cons rfl (ySub.cons rfl (ySub.cons rfl (ySub.cons rfl (ySub.nil))))))))) (by omega)
                    · have c112 : (z111 : Int) ≠ 0 := c112
                      refine yG.num (c := 1) rfl (fun _ _ => rfl) (by decide) ?_
                      refine yG.goto rfl (t := 124) rfl ?_
                      refine yG.i2l rfl ⟨by omega, by omega⟩ ?_
                      refine yG.bit64 rfl (fun _ _ => rfl) (fun z114 e_z114 l_z114 u_z114 => ?_)
                      refine yG.store2 xlk2 (L' := [(6, yJ (z114)), (12, yR k5), (11, yI (0)), (10, yI (1)), (9, yI (z9)), (0, yR k0), (2, yI (p2)), (3, yI (p3)), (4, yR k4), (5, yR k5), (8, yI (a8))]) rfl (fun _ _ => rfl) rfl rfl ?_
                      refine yG.iinc rfl (a := a8) rfl (L' := [(8, yI (a8 + 3)), (6, yJ (z114)), (12, yR k5), (11, yI (0)), (10, yI (1)), (9, yI (z9)), (0, yR k0), (2, yI (p2)), (3, yI (p3)), (4, yR k4), (5, yR k5)]) rfl ?_
                      refine yG.goto rfl (t := 215) rfl ?_
                      refine yG.goto rfl (t := 6) rfl ?_
                      rw [show (a8 : Int).toNat + 3 = (a8 + 3 : Int).toNat by omega] at f6
                      exact yG.mono (yG.sub (i_6 (z114) (a8 + 3)     (by omega) (by omega) (by omega) (by omega) (by omega) (by omega) (by omega) (by omega) (by omega) (by omega) (by omega) (by omega) (by omega) (by omega) (by omega) ⟨g9, by omega, f6⟩ (by omega)) (ySub.cons rfl (ySub.cons rfl (ySub.cons rfl (ySub.cons rfl (ySub.cons rfl (ySub.cons rfl (ySub.cons rfl (ySub.nil))))))))) (by omega)
            · have c82 : (z81 : Int) = 0 := c82
              refine yG.num (c := 1) rfl (fun _ _ => rfl) (by decide) ?_
              refine yG.goto rfl (t := 63) rfl ?_
              refine yG.store1 xik (L' := [(11, yI (1)), (10, yI (1)), (9, yI (z9)), (0, yR k0), (2, yI (p2)), (3, yI (p3)), (4, yR k4), (5, yR k5), (6, yJ (a6)), (8, yI (a8))]) rfl (fun _ _ => rfl) rfl rfl ?_
              refine yG.load xik rfl (fun _ _ => rfl) (v := yI (z9)) rfl rfl ?_
              refine yG.num (c := 16) rfl (fun _ _ => rfl) (by decide) ?_
              refine yG.icmp rfl (t := 134) rfl ⟨by omega, by omega⟩ ⟨by omega, by omega⟩ (fun c115 => ?_) (fun c115 => ?_)
              · have c115 : (z9 : Int) ≥ 16 := c115
                obtain ⟨f9, f1, f2⟩ := X_6
                obtain ⟨g9, rfl⟩ : ∃ g, f9 = g + 1 := ⟨f9 - 1, by omega⟩
                have f3 := f2 (by omega) (by omega)
                have f6 := f3.2 (by omega)
                refine yG.load xik rfl (fun _ _ => rfl) (v := yI (z9)) rfl rfl ?_
                refine yG.num (c := 16) rfl (fun _ _ => rfl) (by decide) ?_
                refine yG.icmp rfl (t := 150) rfl ⟨by omega, by omega⟩ ⟨by omega, by omega⟩ (fun c116 => ?_) (fun c116 => ?_)
                · have c116 : (z9 : Int) ≠ 16 := c116
                  refine yG.load xik rfl (fun _ _ => rfl) (v := yI (z9)) rfl rfl ?_
                  refine yG.num (c := 17) rfl (fun _ _ => rfl) (by decide) ?_
                  refine yG.icmp rfl (t := 175) rfl ⟨by omega, by omega⟩ ⟨by omega, by omega⟩ (fun c117 => ?_) (fun c117 => ?_)
                  · have c117 : (z9 : Int) ≠ 17 := c117
                    refine yG.load xik rfl (fun _ _ => rfl) (v := yI (1)) rfl rfl ?_
                    refine yG.ifz rfl (t := 185) rfl ⟨by omega, by omega⟩ (fun c118 => ?_) (fun c118 => ?_)
                    · have c118 : (1 : Int) ≠ 0 := c118
                      refine yG.num (c := 1) rfl (fun _ _ => rfl) (by decide) ?_
                      refine yG.goto rfl (t := 190) rfl ?_
                      refine yG.store1 xik (L' := [(12, yI (1)), (11, yI (1)), (10, yI (1)), (9, yI (z9)), (0, yR k0), (2, yI (p2)), (3, yI (p3)), (4, yR k4), (5, yR k5), (6, yJ (a6)), (8, yI (a8))]) rfl (fun _ _ => rfl) rfl rfl ?_
                      refine yG.load xlk2 rfl (fun _ _ => rfl) (v := yJ (a6)) rfl rfl ?_
                      refine yG.num (c := 2) rfl (fun _ _ => rfl) (by decide) ?_
                      refine yG.bit64 rfl (fun _ _ => rfl) (fun z119 e_z119 l_z119 u_z119 => ?_)
                      have b_z119 : z119 = ((zc64 (a6) : Nat) : Int) / 4 := by rw [e_z119]; exact blushr (n := 2) (by decide) (by decide) (by decide)
                      have c_z119 : zc64 (a6) < 18446744073709551616 := by unfold zc64; omega
                      refine yG.num (c := 1) rfl (fun _ _ => rfl) (by decide) ?_
                      refine yG.bit64 rfl (fun _ _ => rfl) (fun z120 e_z120 l_z120 u_z120 => ?_)
                      have b_z120 : z120 = (z119) * 2 ^ 1 := by rw [e_z120]; exact bshl (n := 1) (by omega) (by omega) (by decide) (by decide)
                      subst b_z120
                      clear e_z120 l_z120 u_z120
                      refine yG.load xik rfl (fun _ _ => rfl) (v := yI (1)) rfl rfl ?_
                      refine yG.ifz rfl (t := 207) rfl ⟨by omega, by omega⟩ (fun c121 => ?_) (fun c121 => ?_)
                      · have c121 : (1 : Int) = 0 := c121
                        exfalso; omega
                      · have c121 : (1 : Int) ≠ 0 := c121
                        refine yG.num (c := 1) rfl (fun _ _ => rfl) (by decide) ?_
                        refine yG.goto rfl (t := 208) rfl ?_
                        refine yG.i2l rfl ⟨by omega, by omega⟩ ?_
                        refine yG.bit64 rfl (fun _ _ => rfl) (fun z122 e_z122 l_z122 u_z122 => ?_)
                        have b_z122 : z122 = (z119) * 2 ^ 1 + 1 := by rw [e_z122]; exact blor (by omega) (by omega) (by omega) (by omega)
                        refine yG.store2 xlk2 (L' := [(6, yJ (z122)), (12, yI (1)), (11, yI (1)), (10, yI (1)), (9, yI (z9)), (0, yR k0), (2, yI (p2)), (3, yI (p3)), (4, yR k4), (5, yR k5), (8, yI (a8))]) rfl (fun _ _ => rfl) rfl rfl ?_
                        refine yG.iinc rfl (a := a8) rfl (L' := [(8, yI (a8 + 1)), (6, yJ (z122)), (12, yI (1)), (11, yI (1)), (10, yI (1)), (9, yI (z9)), (0, yR k0), (2, yI (p2)), (3, yI (p3)), (4, yR k4), (5, yR k5)]) rfl ?_
                        refine yG.goto rfl (t := 6) rfl ?_
                        rw [show (a8 : Int).toNat + 1 = (a8 + 1 : Int).toNat by omega] at f6
                        exact yG.mono (yG.sub (i_6 (z122) (a8 + 1)     (by omega) (by omega) (by omega) (by omega) (by omega) (by omega) (by omega) (by omega) (by omega) (by omega) (by omega) (by omega) (by omega) (by omega) (by omega) ⟨g9, by omega, f6⟩ (by omega)) (ySub.cons rfl (ySub.cons rfl (ySub.cons rfl (ySub.cons rfl (ySub.cons rfl (ySub.cons rfl (ySub.cons rfl (ySub.nil))))))))) (by omega)
                    · have c118 : (1 : Int) = 0 := c118
                      exfalso; omega
                  · have c117 : (z9 : Int) = 17 := c117
                    refine yG.load xik rfl (fun _ _ => rfl) (v := yI (1)) rfl rfl ?_
                    refine yG.ifz rfl (t := 171) rfl ⟨by omega, by omega⟩ (fun c123 => ?_) (fun c123 => ?_)
                    · have c123 : (1 : Int) = 0 := c123
                      exfalso; omega
                    · have c123 : (1 : Int) ≠ 0 := c123
                      refine yG.load xik rfl (fun _ _ => rfl) (v := yI (1)) rfl rfl ?_
                      refine yG.ifz rfl (t := 171) rfl ⟨by omega, by omega⟩ (fun c124 => ?_) (fun c124 => ?_)
                      · have c124 : (1 : Int) = 0 := c124
                        exfalso; omega
                      · have c124 : (1 : Int) ≠ 0 := c124
                        refine yG.num (c := 1) rfl (fun _ _ => rfl) (by decide) ?_
                        refine yG.goto rfl (t := 190) rfl ?_
                        refine yG.store1 xik (L' := [(12, yI (1)), (11, yI (1)), (10, yI (1)), (9, yI (z9)), (0, yR k0), (2, yI (p2)), (3, yI (p3)), (4, yR k4), (5, yR k5), (6, yJ (a6)), (8, yI (a8))]) rfl (fun _ _ => rfl) rfl rfl ?_
                        refine yG.load xlk2 rfl (fun _ _ => rfl) (v := yJ (a6)) rfl rfl ?_
                        refine yG.num (c := 2) rfl (fun _ _ => rfl) (by decide) ?_
                        refine yG.bit64 rfl (fun _ _ => rfl) (fun z125 e_z125 l_z125 u_z125 => ?_)
                        have b_z125 : z125 = ((zc64 (a6) : Nat) : Int) / 4 := by rw [e_z125]; exact blushr (n := 2) (by decide) (by decide) (by decide)
                        have c_z125 : zc64 (a6) < 18446744073709551616 := by unfold zc64; omega
                        refine yG.num (c := 1) rfl (fun _ _ => rfl) (by decide) ?_
                        refine yG.bit64 rfl (fun _ _ => rfl) (fun z126 e_z126 l_z126 u_z126 => ?_)
                        have b_z126 : z126 = (z125) * 2 ^ 1 := by rw [e_z126]; exact bshl (n := 1) (by omega) (by omega) (by decide) (by decide)
                        subst b_z126
                        clear e_z126 l_z126 u_z126
                        refine yG.load xik rfl (fun _ _ => rfl) (v := yI (1)) rfl rfl ?_
                        refine yG.ifz rfl (t := 207) rfl ⟨by omega, by omega⟩ (fun c127 => ?_) (fun c127 => ?_)
                        · have c127 : (1 : Int) = 0 := c127
                          exfalso; omega
                        · have c127 : (1 : Int) ≠ 0 := c127
                          refine yG.num (c := 1) rfl (fun _ _ => rfl) (by decide) ?_
                          refine yG.goto rfl (t := 208) rfl ?_
                          refine yG.i2l rfl ⟨by omega, by omega⟩ ?_
                          refine yG.bit64 rfl (fun _ _ => rfl) (fun z128 e_z128 l_z128 u_z128 => ?_)
                          have b_z128 : z128 = (z125) * 2 ^ 1 + 1 := by rw [e_z128]; exact blor (by omega) (by omega) (by omega) (by omega)
                          refine yG.store2 xlk2 (L' := [(6, yJ (z128)), (12, yI (1)), (11, yI (1)), (10, yI (1)), (9, yI (z9)), (0, yR k0), (2, yI (p2)), (3, yI (p3)), (4, yR k4), (5, yR k5), (8, yI (a8))]) rfl (fun _ _ => rfl) rfl rfl ?_
                          refine yG.iinc rfl (a := a8) rfl (L' := [(8, yI (a8 + 1)), (6, yJ (z128)), (12, yI (1)), (11, yI (1)), (10, yI (1)), (9, yI (z9)), (0, yR k0), (2, yI (p2)), (3, yI (p3)), (4, yR k4), (5, yR k5)]) rfl ?_
                          refine yG.goto rfl (t := 6) rfl ?_
                          rw [show (a8 : Int).toNat + 1 = (a8 + 1 : Int).toNat by omega] at f6
                          exact yG.mono (yG.sub (i_6 (z128) (a8 + 1)     (by omega) (by omega) (by omega) (by omega) (by omega) (by omega) (by omega) (by omega) (by omega) (by omega) (by omega) (by omega) (by omega) (by omega) (by omega) ⟨g9, by omega, f6⟩ (by omega)) (ySub.cons rfl (ySub.cons rfl (ySub.cons rfl (ySub.cons rfl (ySub.cons rfl (ySub.cons rfl (ySub.cons rfl (ySub.nil))))))))) (by omega)
                · have c116 : (z9 : Int) = 16 := c116
                  refine yG.load xlk2 rfl (fun _ _ => rfl) (v := yJ (a6)) rfl rfl ?_
                  refine yG.numl (c := 1) rfl (fun _ _ => rfl) (by decide) ?_
                  refine yG.bit64 rfl (fun _ _ => rfl) (fun z129 e_z129 l_z129 u_z129 => ?_)
                  refine yG.store2 xlk2 (L' := [(6, yJ (z129)), (11, yI (1)), (10, yI (1)), (9, yI (z9)), (0, yR k0), (2, yI (p2)), (3, yI (p3)), (4, yR k4), (5, yR k5), (8, yI (a8))]) rfl (fun _ _ => rfl) rfl rfl ?_
                  refine yG.goto rfl (t := 212) rfl ?_
                  refine yG.iinc rfl (a := a8) rfl (L' := [(8, yI (a8 + 1)), (6, yJ (z129)), (11, yI (1)), (10, yI (1)), (9, yI (z9)), (0, yR k0), (2, yI (p2)), (3, yI (p3)), (4, yR k4), (5, yR k5)]) rfl ?_
                  refine yG.goto rfl (t := 6) rfl ?_
                  rw [show (a8 : Int).toNat + 1 = (a8 + 1 : Int).toNat by omega] at f6
                  exact yG.mono (yG.sub (i_6 (z129) (a8 + 1)     (by omega) (by omega) (by omega) (by omega) (by omega) (by omega) (by omega) (by omega) (by omega) (by omega) (by omega) (by omega) (by omega) (by omega) (by omega) ⟨g9, by omega, f6⟩ (by omega)) (ySub.cons rfl (ySub.cons rfl (ySub.cons rfl (ySub.cons rfl (ySub.cons rfl (ySub.cons rfl (ySub.cons rfl (ySub.nil))))))))) (by omega)
              · have c115 : (z9 : Int) < 16 := c115
                obtain ⟨f9, f1, f2⟩ := X_6
                obtain ⟨g9, rfl⟩ : ∃ g, f9 = g + 1 := ⟨f9 - 1, by omega⟩
                have f3 := f2 (by omega) (by omega)
                obtain ⟨f4, f5, f6⟩ := f3.1 (by omega)
                refine yG.load xik rfl (fun _ _ => rfl) (v := yI (z9)) rfl rfl ?_
                refine yG.num (c := 8) rfl (fun _ _ => rfl) (by decide) ?_
                refine yG.icmp rfl (t := 84) rfl ⟨by omega, by omega⟩ ⟨by omega, by omega⟩ (fun c130 => ?_) (fun c130 => ?_)
                · have c130 : (z9 : Int) < 8 := c130
                  refine yG.load xak rfl (fun _ _ => rfl) (v := yR k4) rfl rfl ?_
                  refine yG.store1 xak (L' := [(12, yR k4), (11, yI (1)), (10, yI (1)), (9, yI (z9)), (0, yR k0), (2, yI (p2)), (3, yI (p3)), (4, yR k4), (5, yR k5), (6, yJ (a6)), (8, yI (a8))]) rfl (fun _ _ => rfl) rfl rfl ?_
                  refine yG.load xlk2 rfl (fun _ _ => rfl) (v := yJ (a6)) rfl rfl ?_
                  refine yG.num (c := 1) rfl (fun _ _ => rfl) (by decide) ?_
                  refine yG.bit64 rfl (fun _ _ => rfl) (fun z131 e_z131 l_z131 u_z131 => ?_)
                  refine yG.load xik rfl (fun _ _ => rfl) (v := yI (a8)) rfl rfl ?_
                  refine yG.num (c := 2) rfl (fun _ _ => rfl) (by decide) ?_
                  refine yG.iadd rfl ?_
                  refine yG.num (c := 2048) rfl (fun _ _ => rfl) (by decide) ?_
                  refine yG.icmp rfl (t := 123) rfl ⟨by omega, by omega⟩ ⟨by omega, by omega⟩ (fun c132 => ?_) (fun c132 => ?_)
                  · have c132 : (a8 + 2 : Int) ≥ 2048 := c132
                    refine yG.num (c := 0) rfl (fun _ _ => rfl) (by decide) ?_
                    refine yG.i2l rfl ⟨by omega, by omega⟩ ?_
                    refine yG.bit64 rfl (fun _ _ => rfl) (fun z133 e_z133 l_z133 u_z133 => ?_)
                    refine yG.store2 xlk2 (L' := [(6, yJ (z133)), (12, yR k4), (11, yI (1)), (10, yI (1)), (9, yI (z9)), (0, yR k0), (2, yI (p2)), (3, yI (p3)), (4, yR k4), (5, yR k5), (8, yI (a8))]) rfl (fun _ _ => rfl) rfl rfl ?_
                    refine yG.iinc rfl (a := a8) rfl (L' := [(8, yI (a8 + 3)), (6, yJ (z133)), (12, yR k4), (11, yI (1)), (10, yI (1)), (9, yI (z9)), (0, yR k0), (2, yI (p2)), (3, yI (p3)), (4, yR k4), (5, yR k5)]) rfl ?_
                    refine yG.goto rfl (t := 215) rfl ?_
                    refine yG.goto rfl (t := 6) rfl ?_
                    rw [show (a8 : Int).toNat + 3 = (a8 + 3 : Int).toNat by omega] at f6
                    exact yG.mono (yG.sub (i_6 (z133) (a8 + 3)     (by omega) (by omega) (by omega) (by omega) (by omega) (by omega) (by omega) (by omega) (by omega) (by omega) (by omega) (by omega) (by omega) (by omega) (by omega) ⟨g9, by omega, f6⟩ (by omega)) (ySub.cons rfl (ySub.cons rfl (ySub.cons rfl (ySub.cons rfl (ySub.cons rfl (ySub.cons rfl (ySub.cons rfl (ySub.nil))))))))) (by omega)
                  · have c132 : (a8 + 2 : Int) < 2048 := c132
                    refine yG.load xak rfl (fun _ _ => rfl) (v := yR k0) rfl rfl ?_
                    refine yG.load xik rfl (fun _ _ => rfl) (v := yI (a8)) rfl rfl ?_
                    refine yG.load xik rfl (fun _ _ => rfl) (v := yI (z9)) rfl rfl ?_
                    refine yG.num (c := 8) rfl (fun _ _ => rfl) (by decide) ?_
                    refine yG.irem rfl ⟨by omega, by omega⟩ ⟨by omega, by omega⟩ (by omega) (by omega) ?_
                    obtain ⟨z134, e_z134⟩ : ∃ z : Int, z = (z9) % (8) := ⟨_, rfl⟩
                    rw [← e_z134]
                    refine yG.load xik rfl (fun _ _ => rfl) (v := yI (p3)) rfl rfl ?_
                    refine yG.load xak rfl (fun _ _ => rfl) (v := yR k4) rfl rfl ?_
                    have gd9 := f5 (by omega)
                    rw [show (a8 : Int).toNat + 1 = (a8 + 1 : Int).toNat by omega, show (a8 : Int).toNat + 2 = (a8 + 2 : Int).toNat by omega] at gd9
                    rw [show ys hp n1 (a8 : Int).toNat % 8 = z134 by omega] at gd9
                    refine yG.invV (rest := [yJ (z131)]) A_hp.1 (bOb (d_Rules W) H_k0) rfl rfl rfl rfl (c_Rules_isSo_b W d A_hp.1 H_k0 H_k4 H_n1 Q_n1 (a8) (z134) (p3) (by omega) (by omega) (by omega) (by omega) (by omega) (by omega) gd9) (fun rv hp9 q9 => ?_)
                    obtain ⟨⟨z135, rfl, l_z135, u_z135, R_z135⟩, e9⟩ := q9
                    rw [e9]
                    show yG _ _ _ _ _ _ _ _ _ _ (yI z135 :: [yJ (z131)]) _
                    refine yG.ifz rfl (t := 123) rfl ⟨by omega, by omega⟩ (fun c136 => ?_) (fun c136 => ?_)
                    · have c136 : (z135 : Int) = 0 := c136
                      refine yG.num (c := 0) rfl (fun _ _ => rfl) (by decide) ?_
                      refine yG.i2l rfl ⟨by omega, by omega⟩ ?_
                      refine yG.bit64 rfl (fun _ _ => rfl) (fun z137 e_z137 l_z137 u_z137 => ?_)
                      refine yG.store2 xlk2 (L' := [(6, yJ (z137)), (12, yR k4), (11, yI (1)), (10, yI (1)), (9, yI (z9)), (0, yR k0), (2, yI (p2)), (3, yI (p3)), (4, yR k4), (5, yR k5), (8, yI (a8))]) rfl (fun _ _ => rfl) rfl rfl ?_
                      refine yG.iinc rfl (a := a8) rfl (L' := [(8, yI (a8 + 3)), (6, yJ (z137)), (12, yR k4), (11, yI (1)), (10, yI (1)), (9, yI (z9)), (0, yR k0), (2, yI (p2)), (3, yI (p3)), (4, yR k4), (5, yR k5)]) rfl ?_
                      refine yG.goto rfl (t := 215) rfl ?_
                      refine yG.goto rfl (t := 6) rfl ?_
                      rw [show (a8 : Int).toNat + 3 = (a8 + 3 : Int).toNat by omega] at f6
                      exact yG.mono (yG.sub (i_6 (z137) (a8 + 3)     (by omega) (by omega) (by omega) (by omega) (by omega) (by omega) (by omega) (by omega) (by omega) (by omega) (by omega) (by omega) (by omega) (by omega) (by omega) ⟨g9, by omega, f6⟩ (by omega)) (ySub.cons rfl (ySub.cons rfl (ySub.cons rfl (ySub.cons rfl (ySub.cons rfl (ySub.cons rfl (ySub.cons rfl (ySub.nil))))))))) (by omega)
                    · have c136 : (z135 : Int) ≠ 0 := c136
                      refine yG.num (c := 1) rfl (fun _ _ => rfl) (by decide) ?_
                      refine yG.goto rfl (t := 124) rfl ?_
                      refine yG.i2l rfl ⟨by omega, by omega⟩ ?_
                      refine yG.bit64 rfl (fun _ _ => rfl) (fun z138 e_z138 l_z138 u_z138 => ?_)
                      refine yG.store2 xlk2 (L' := [(6, yJ (z138)), (12, yR k4), (11, yI (1)), (10, yI (1)), (9, yI (z9)), (0, yR k0), (2, yI (p2)), (3, yI (p3)), (4, yR k4), (5, yR k5), (8, yI (a8))]) rfl (fun _ _ => rfl) rfl rfl ?_
                      refine yG.iinc rfl (a := a8) rfl (L' := [(8, yI (a8 + 3)), (6, yJ (z138)), (12, yR k4), (11, yI (1)), (10, yI (1)), (9, yI (z9)), (0, yR k0), (2, yI (p2)), (3, yI (p3)), (4, yR k4), (5, yR k5)]) rfl ?_
                      refine yG.goto rfl (t := 215) rfl ?_
                      refine yG.goto rfl (t := 6) rfl ?_
                      rw [show (a8 : Int).toNat + 3 = (a8 + 3 : Int).toNat by omega] at f6
                      exact yG.mono (yG.sub (i_6 (z138) (a8 + 3)     (by omega) (by omega) (by omega) (by omega) (by omega) (by omega) (by omega) (by omega) (by omega) (by omega) (by omega) (by omega) (by omega) (by omega) (by omega) ⟨g9, by omega, f6⟩ (by omega)) (ySub.cons rfl (ySub.cons rfl (ySub.cons rfl (ySub.cons rfl (ySub.cons rfl (ySub.cons rfl (ySub.cons rfl (ySub.nil))))))))) (by omega)
                · have c130 : (z9 : Int) ≥ 8 := c130
                  refine yG.load xak rfl (fun _ _ => rfl) (v := yR k5) rfl rfl ?_
                  refine yG.goto rfl (t := 86) rfl ?_
                  refine yG.store1 xak (L' := [(12, yR k5), (11, yI (1)), (10, yI (1)), (9, yI (z9)), (0, yR k0), (2, yI (p2)), (3, yI (p3)), (4, yR k4), (5, yR k5), (6, yJ (a6)), (8, yI (a8))]) rfl (fun _ _ => rfl) rfl rfl ?_
                  refine yG.load xlk2 rfl (fun _ _ => rfl) (v := yJ (a6)) rfl rfl ?_
                  refine yG.num (c := 1) rfl (fun _ _ => rfl) (by decide) ?_
                  refine yG.bit64 rfl (fun _ _ => rfl) (fun z139 e_z139 l_z139 u_z139 => ?_)
                  refine yG.load xik rfl (fun _ _ => rfl) (v := yI (a8)) rfl rfl ?_
                  refine yG.num (c := 2) rfl (fun _ _ => rfl) (by decide) ?_
                  refine yG.iadd rfl ?_
                  refine yG.num (c := 2048) rfl (fun _ _ => rfl) (by decide) ?_
                  refine yG.icmp rfl (t := 123) rfl ⟨by omega, by omega⟩ ⟨by omega, by omega⟩ (fun c140 => ?_) (fun c140 => ?_)
                  · have c140 : (a8 + 2 : Int) ≥ 2048 := c140
                    refine yG.num (c := 0) rfl (fun _ _ => rfl) (by decide) ?_
                    refine yG.i2l rfl ⟨by omega, by omega⟩ ?_
                    refine yG.bit64 rfl (fun _ _ => rfl) (fun z141 e_z141 l_z141 u_z141 => ?_)
                    refine yG.store2 xlk2 (L' := [(6, yJ (z141)), (12, yR k5), (11, yI (1)), (10, yI (1)), (9, yI (z9)), (0, yR k0), (2, yI (p2)), (3, yI (p3)), (4, yR k4), (5, yR k5), (8, yI (a8))]) rfl (fun _ _ => rfl) rfl rfl ?_
                    refine yG.iinc rfl (a := a8) rfl (L' := [(8, yI (a8 + 3)), (6, yJ (z141)), (12, yR k5), (11, yI (1)), (10, yI (1)), (9, yI (z9)), (0, yR k0), (2, yI (p2)), (3, yI (p3)), (4, yR k4), (5, yR k5)]) rfl ?_
                    refine yG.goto rfl (t := 215) rfl ?_
                    refine yG.goto rfl (t := 6) rfl ?_
                    rw [show (a8 : Int).toNat + 3 = (a8 + 3 : Int).toNat by omega] at f6
                    exact yG.mono (yG.sub (i_6 (z141) (a8 + 3)     (by omega) (by omega) (by omega) (by omega) (by omega) (by omega) (by omega) (by omega) (by omega) (by omega) (by omega) (by omega) (by omega) (by omega) (by omega) ⟨g9, by omega, f6⟩ (by omega)) (ySub.cons rfl (ySub.cons rfl (ySub.cons rfl (ySub.cons rfl (ySub.cons rfl (ySub.cons rfl (ySub.cons rfl (ySub.nil))))))))) (by omega)
                  · have c140 : (a8 + 2 : Int) < 2048 := c140
                    refine yG.load xak rfl (fun _ _ => rfl) (v := yR k0) rfl rfl ?_
                    refine yG.load xik rfl (fun _ _ => rfl) (v := yI (a8)) rfl rfl ?_
                    refine yG.load xik rfl (fun _ _ => rfl) (v := yI (z9)) rfl rfl ?_
                    refine yG.num (c := 8) rfl (fun _ _ => rfl) (by decide) ?_
                    refine yG.irem rfl ⟨by omega, by omega⟩ ⟨by omega, by omega⟩ (by omega) (by omega) ?_
                    obtain ⟨z142, e_z142⟩ : ∃ z : Int, z = (z9) % (8) := ⟨_, rfl⟩
                    rw [← e_z142]
                    refine yG.load xik rfl (fun _ _ => rfl) (v := yI (p3)) rfl rfl ?_
                    refine yG.load xak rfl (fun _ _ => rfl) (v := yR k5) rfl rfl ?_
                    have gd9 := f5 (by omega)
                    rw [show (a8 : Int).toNat + 1 = (a8 + 1 : Int).toNat by omega, show (a8 : Int).toNat + 2 = (a8 + 2 : Int).toNat by omega] at gd9
                    rw [show ys hp n1 (a8 : Int).toNat % 8 = z142 by omega] at gd9
                    refine yG.invV (rest := [yJ (z139)]) A_hp.1 (bOb (d_Rules W) H_k0) rfl rfl rfl rfl (c_Rules_isSo_b W d A_hp.1 H_k0 H_k5 H_n1 Q_n1 (a8) (z142) (p3) (by omega) (by omega) (by omega) (by omega) (by omega) (by omega) gd9) (fun rv hp9 q9 => ?_)
                    obtain ⟨⟨z143, rfl, l_z143, u_z143, R_z143⟩, e9⟩ := q9
                    rw [e9]
                    show yG _ _ _ _ _ _ _ _ _ _ (yI z143 :: [yJ (z139)]) _
                    refine yG.ifz rfl (t := 123) rfl ⟨by omega, by omega⟩ (fun c144 => ?_) (fun c144 => ?_)
                    · have c144 : (z143 : Int) = 0 := c144
                      refine yG.num (c := 0) rfl (fun _ _ => rfl) (by decide) ?_
                      refine yG.i2l rfl ⟨by omega, by omega⟩ ?_
                      refine yG.bit64 rfl (fun _ _ => rfl) (fun z145 e_z145 l_z145 u_z145 => ?_)
                      refine yG.store2 xlk2 (L' := [(6, yJ (z145)), (12, yR k5), (11, yI (1)), (10, yI (1)), (9, yI (z9)), (0, yR k0), (2, yI (p2)), (3, yI (p3)), (4, yR k4), (5, yR k5), (8, yI (a8))]) rfl (fun _ _ => rfl) rfl rfl ?_
                      refine yG.iinc rfl (a := a8) rfl (L' := [(8, yI (a8 + 3)), (6, yJ (z145)), (12, yR k5), (11, yI (1)), (10, yI (1)), (9, yI (z9)), (0, yR k0), (2, yI (p2)), (3, yI (p3)), (4, yR k4), (5, yR k5)]) rfl ?_
                      refine yG.goto rfl (t := 215) rfl ?_
                      refine yG.goto rfl (t := 6) rfl ?_
                      rw [show (a8 : Int).toNat + 3 = (a8 + 3 : Int).toNat by omega] at f6
                      exact yG.mono (yG.sub (i_6 (z145) (a8 + 3)     (by omega) (by omega) (by omega) (by omega) (by omega) (by omega) (by omega) (by omega) (by omega) (by omega) (by omega) (by omega) (by omega) (by omega) (by omega) ⟨g9, by omega, f6⟩ (by omega)) (ySub.cons rfl (ySub.cons rfl (ySub.cons rfl (ySub.cons rfl (ySub.cons rfl (ySub.cons rfl (ySub.cons rfl (ySub.nil))))))))) (by omega)
                    · have c144 : (z143 : Int) ≠ 0 := c144
                      refine yG.num (c := 1) rfl (fun _ _ => rfl) (by decide) ?_
                      refine yG.goto rfl (t := 124) rfl ?_
                      refine yG.i2l rfl ⟨by omega, by omega⟩ ?_
                      refine yG.bit64 rfl (fun _ _ => rfl) (fun z146 e_z146 l_z146 u_z146 => ?_)
                      refine yG.store2 xlk2 (L' := [(6, yJ (z146)), (12, yR k5), (11, yI (1)), (10, yI (1)), (9, yI (z9)), (0, yR k0), (2, yI (p2)), (3, yI (p3)), (4, yR k4), (5, yR k5), (8, yI (a8))]) rfl (fun _ _ => rfl) rfl rfl ?_
                      refine yG.iinc rfl (a := a8) rfl (L' := [(8, yI (a8 + 3)), (6, yJ (z146)), (12, yR k5), (11, yI (1)), (10, yI (1)), (9, yI (z9)), (0, yR k0), (2, yI (p2)), (3, yI (p3)), (4, yR k4), (5, yR k5)]) rfl ?_
                      refine yG.goto rfl (t := 215) rfl ?_
                      refine yG.goto rfl (t := 6) rfl ?_
                      rw [show (a8 : Int).toNat + 3 = (a8 + 3 : Int).toNat by omega] at f6
                      exact yG.mono (yG.sub (i_6 (z146) (a8 + 3)     (by omega) (by omega) (by omega) (by omega) (by omega) (by omega) (by omega) (by omega) (by omega) (by omega) (by omega) (by omega) (by omega) (by omega) (by omega) ⟨g9, by omega, f6⟩ (by omega)) (ySub.cons rfl (ySub.cons rfl (ySub.cons rfl (ySub.cons rfl (ySub.cons rfl (ySub.cons rfl (ySub.cons rfl (ySub.nil))))))))) (by omega)
  refine yC.of (M := (xt_X7_holds, (13, (4, (8, []))))) rfl rfl (N := 266760) (yfuel (by decide)) ?_
  show yG 89 xfts (xcall 89 xfts xpools xms (d + 3)) (xpool xp_RX7) [] xt_X7_holds (yP 4 (bQpi hp 0 1 (fun _ => True))) 266760 0 [(0, yR k0), (1, yI (p1)), (2, yI (p2)), (3, yI (p3)), (4, yR k4), (5, yR k5)] [] hp
  have i_6 := H 4103
  refine yG.numl (c := 0) rfl (fun _ _ => rfl) (by decide) ?_
  refine yG.store2 xlk2 (L' := [(6, yJ (0)), (0, yR k0), (1, yI (p1)), (2, yI (p2)), (3, yI (p3)), (4, yR k4), (5, yR k5)]) rfl (fun _ _ => rfl) rfl rfl ?_
  refine yG.load xik rfl (fun _ _ => rfl) (v := yI (p1)) rfl rfl ?_
  refine yG.store1 xik (L' := [(8, yI (p1)), (6, yJ (0)), (0, yR k0), (1, yI (p1)), (2, yI (p2)), (3, yI (p3)), (4, yR k4), (5, yR k5)]) rfl (fun _ _ => rfl) rfl rfl ?_
  exact yG.mono (yG.sub (i_6 (0) (p1)     (by omega) (by omega) (by omega) (by omega) (by omega) (by omega) (by omega) (by omega) (by omega) (by omega) (by omega) (by omega) (by omega) (by omega) (by omega) ⟨2048, by omega, g90⟩ (by omega)) (ySub.cons rfl (ySub.cons rfl (ySub.cons rfl (ySub.cons rfl (ySub.cons rfl (ySub.cons rfl (ySub.cons rfl (ySub.nil))))))))) (by omega)
end BRules
