/-! ===== the reference: equations of a net ===== -/
section MJoins
variable {G : zW}
theorem c_GModel_nodeOfLine_s0 {hp : xH} (W : mW G) (d : Nat) (hT : zTy G hp) (H_2073 : bRo G 116 2073) (p1 : Int) (h1l : 0 ≤ p1) (h1u : p1 ≤ 19) : yC (xcall 89 xfts xpools xms (d + 3)) 468 [yR 2073, yI (p1), yI (0)] hp (bQpi hp 0 15 (fun z => z = gNd hp (gA hp (p1 : Int).toNat))) := by
  have A_hp : bAx G [] hp hp := bAx.rf hT
  refine yC.of (M := (xt_X13_nodeOfLine, (3, (1, (14, []))))) rfl rfl (N := 39) (yfuel (by decide)) ?_
  show yG 89 xfts (xcall 89 xfts xpools xms (d + 2)) (xpool xp_RX13) [] xt_X13_nodeOfLine (yP 1 (bQpi hp 0 15 (fun z => z = gNd hp (gA hp (p1 : Int).toNat)))) 39 0 [(0, yR 2073), (1, yI (p1)), (2, yI (0))] [] hp
  refine yG.load xak rfl (fun _ _ => rfl) (v := yR 2073) rfl rfl ?_
  refine yG.getO A_hp.1 (w_M_node W H_2073) rfl rfl (fun r1 H_r1 O_r1 q_r1 => ?_)
  obtain rfl := u_M_node W H_r1
  refine yG.load xak rfl (fun _ _ => rfl) (v := yR 2073) rfl rfl ?_
  refine yG.num (c := 2) rfl (fun _ _ => rfl) (by decide) ?_
  refine yG.load xik rfl (fun _ _ => rfl) (v := yI (p1)) rfl rfl ?_
  refine yG.num (c := 4) rfl (fun _ _ => rfl) (by decide) ?_
  refine yG.load xik rfl (fun _ _ => rfl) (v := yI (0)) rfl rfl ?_
  refine yG.iadd rfl ?_
  rw [show (4 + 0 : Int) = 4 by omega]
  refine yG.invV (rest := [yR 2100]) A_hp.1 (bOb (d_M W) H_2073) rfl rfl rfl rfl (c_GModel_of_v2_4 W d A_hp.1 H_2073 (p1) (by omega) (by omega)) (fun rv hp9 q9 => ?_)
  obtain ⟨⟨z2, rfl, l_z2, u_z2, R_z2⟩, e9⟩ := q9
  rw [e9]
  show yG _ _ _ _ _ _ _ _ _ _ (yI z2 :: [yR 2100]) _
  refine yG.ialdF A_hp.1 (v_M_node W H_r1) rfl rfl (by omega) (by omega) (fun z3 e_z3 i_z3 l_z3 u_z3 => ?_)
  refine yG.ret rfl (fun _ _ => rfl) ?_
  exact (yP.int ⟨by omega, by omega⟩ ⟨⟨z3, rfl, by omega, by omega, by unfold gNd gA; rw [e_z3, R_z2, show (532 + 11 * p1 : Int).toNat = 532 + 11 * (p1 : Int).toNat by omega]⟩, rfl⟩)
theorem c_GModel_nodeOfLine_s1 {hp : xH} (W : mW G) (d : Nat) (hT : zTy G hp) (H_2073 : bRo G 116 2073) (p1 : Int) (h1l : 0 ≤ p1) (h1u : p1 ≤ 19) : yC (xcall 89 xfts xpools xms (d + 3)) 468 [yR 2073, yI (p1), yI (1)] hp (bQpi hp 0 15 (fun z => z = gNd hp (gB hp (p1 : Int).toNat))) := by
  have A_hp : bAx G [] hp hp := bAx.rf hT
  refine yC.of (M := (xt_X13_nodeOfLine, (3, (1, (14, []))))) rfl rfl (N := 39) (yfuel (by decide)) ?_
  show yG 89 xfts (xcall 89 xfts xpools xms (d + 2)) (xpool xp_RX13) [] xt_X13_nodeOfLine (yP 1 (bQpi hp 0 15 (fun z => z = gNd hp (gB hp (p1 : Int).toNat)))) 39 0 [(0, yR 2073), (1, yI (p1)), (2, yI (1))] [] hp
  refine yG.load xak rfl (fun _ _ => rfl) (v := yR 2073) rfl rfl ?_
  refine yG.getO A_hp.1 (w_M_node W H_2073) rfl rfl (fun r1 H_r1 O_r1 q_r1 => ?_)
  obtain rfl := u_M_node W H_r1
  refine yG.load xak rfl (fun _ _ => rfl) (v := yR 2073) rfl rfl ?_
  refine yG.num (c := 2) rfl (fun _ _ => rfl) (by decide) ?_
  refine yG.load xik rfl (fun _ _ => rfl) (v := yI (p1)) rfl rfl ?_
  refine yG.num (c := 4) rfl (fun _ _ => rfl) (by decide) ?_
  refine yG.load xik rfl (fun _ _ => rfl) (v := yI (1)) rfl rfl ?_
  refine yG.iadd rfl ?_
  rw [show (4 + 1 : Int) = 5 by omega]
  refine yG.invV (rest := [yR 2100]) A_hp.1 (bOb (d_M W) H_2073) rfl rfl rfl rfl (c_GModel_of_v2_5 W d A_hp.1 H_2073 (p1) (by omega) (by omega)) (fun rv hp9 q9 => ?_)
  obtain ⟨⟨z2, rfl, l_z2, u_z2, R_z2⟩, e9⟩ := q9
  rw [e9]
  show yG _ _ _ _ _ _ _ _ _ _ (yI z2 :: [yR 2100]) _
  refine yG.ialdF A_hp.1 (v_M_node W H_r1) rfl rfl (by omega) (by omega) (fun z3 e_z3 i_z3 l_z3 u_z3 => ?_)
  refine yG.ret rfl (fun _ _ => rfl) ?_
  exact (yP.int ⟨by omega, by omega⟩ ⟨⟨z3, rfl, by omega, by omega, by unfold gNd gB; rw [e_z3, R_z2, show (533 + 11 * p1 : Int).toNat = 533 + 11 * (p1 : Int).toNat by omega]⟩, rfl⟩)
theorem c_GModel_islandOfLine_s {hp : xH} (W : mW G) (d : Nat) (hT : zTy G hp) (H_2073 : bRo G 116 2073) (p1 : Int) (h1l : 0 ≤ p1) (h1u : p1 ≤ 19) : yC (xcall 89 xfts xpools xms (d + 3)) 437 [yR 2073, yI (p1)] hp (bQpi hp 0 15 (fun z => z = gIl hp (gA hp (p1 : Int).toNat))) := by
  have A_hp : bAx G [] hp hp := bAx.rf hT
  refine yC.of (M := (xt_X13_islandOfLine, (2, (1, (14, []))))) rfl rfl (N := 33) (yfuel (by decide)) ?_
  show yG 89 xfts (xcall 89 xfts xpools xms (d + 2)) (xpool xp_RX13) [] xt_X13_islandOfLine (yP 1 (bQpi hp 0 15 (fun z => z = gIl hp (gA hp (p1 : Int).toNat)))) 33 0 [(0, yR 2073), (1, yI (p1))] [] hp
  refine yG.load xak rfl (fun _ _ => rfl) (v := yR 2073) rfl rfl ?_
  refine yG.getO A_hp.1 (w_M_island W H_2073) rfl rfl (fun r1 H_r1 O_r1 q_r1 => ?_)
  obtain rfl := u_M_island W H_r1
  refine yG.load xak rfl (fun _ _ => rfl) (v := yR 2073) rfl rfl ?_
  refine yG.num (c := 2) rfl (fun _ _ => rfl) (by decide) ?_
  refine yG.load xik rfl (fun _ _ => rfl) (v := yI (p1)) rfl rfl ?_
  refine yG.num (c := 4) rfl (fun _ _ => rfl) (by decide) ?_
  refine yG.invV (rest := [yR 2101]) A_hp.1 (bOb (d_M W) H_2073) rfl rfl rfl rfl (c_GModel_of_v2_4 W d A_hp.1 H_2073 (p1) (by omega) (by omega)) (fun rv hp9 q9 => ?_)
  obtain ⟨⟨z2, rfl, l_z2, u_z2, R_z2⟩, e9⟩ := q9
  rw [e9]
  show yG _ _ _ _ _ _ _ _ _ _ (yI z2 :: [yR 2101]) _
  refine yG.ialdF A_hp.1 (v_M_island W H_r1) rfl rfl (by omega) (by omega) (fun z3 e_z3 i_z3 l_z3 u_z3 => ?_)
  refine yG.ret rfl (fun _ _ => rfl) ?_
  exact (yP.int ⟨by omega, by omega⟩ ⟨⟨z3, rfl, by omega, by omega, by unfold gIl gA; rw [e_z3, R_z2, show (532 + 11 * p1 : Int).toNat = 532 + 11 * (p1 : Int).toNat by omega]⟩, rfl⟩)
theorem c_GModel_isBetween_s {hp : xH} (W : mW G) (d : Nat) (hT : zTy G hp) (H_2073 : bRo G 116 2073) (p1 : Int) (h1l : 0 ≤ p1) (h1u : p1 ≤ 19) : yC (xcall 89 xfts xpools xms (d + 4)) 425 [yR 2073, yI (p1)] hp (bQpi hp 0 1 (fun z => ((z = 1 → gIn hp (p1 : Int).toNat = 1 ∧ gNd hp (gA hp (p1 : Int).toNat) ≠ gNd hp (gB hp (p1 : Int).toNat)) ∧ (z = 0 → ¬ (gIn hp (p1 : Int).toNat = 1 ∧ gNd hp (gA hp (p1 : Int).toNat) ≠ gNd hp (gB hp (p1 : Int).toNat)))))) := by
  have A_hp : bAx G [] hp hp := bAx.rf hT
  refine yC.of (M := (xt_X13_isBetween, (2, (4, (14, []))))) rfl rfl (N := 60) (yfuel (by decide)) ?_
  show yG 89 xfts (xcall 89 xfts xpools xms (d + 3)) (xpool xp_RX13) [] xt_X13_isBetween (yP 4 (bQpi hp 0 1 (fun z => ((z = 1 → gIn hp (p1 : Int).toNat = 1 ∧ gNd hp (gA hp (p1 : Int).toNat) ≠ gNd hp (gB hp (p1 : Int).toNat)) ∧ (z = 0 → ¬ (gIn hp (p1 : Int).toNat = 1 ∧ gNd hp (gA hp (p1 : Int).toNat) ≠ gNd hp (gB hp (p1 : Int).toNat))))))) 60 0 [(0, yR 2073), (1, yI (p1))] [] hp
  refine yG.load xak rfl (fun _ _ => rfl) (v := yR 2073) rfl rfl ?_
  refine yG.getO A_hp.1 (w_M_inNow W H_2073) rfl rfl (fun r1 H_r1 O_r1 q_r1 => ?_)
  obtain rfl := u_M_inNow W H_r1
  refine yG.load xik rfl (fun _ _ => rfl) (v := yI (p1)) rfl rfl ?_
  refine yG.iald A_hp.1 (v_M_inNow W H_r1) rfl (by omega) (by omega) (fun z2 e_z2 i_z2 l_z2 u_z2 => ?_)
  have q1 : gIn hp (p1 : Int).toNat = z2 := e_z2.symm
  refine yG.num (c := 1) rfl (fun _ _ => rfl) (by decide) ?_
  refine yG.icmp rfl (t := 29) rfl ⟨by omega, by omega⟩ ⟨by omega, by omega⟩ (fun c3 => ?_) (fun c3 => ?_)
  · have c3 : (z2 : Int) ≠ 1 := c3
    refine yG.num (c := 0) rfl (fun _ _ => rfl) (by decide) ?_
    refine yG.ret rfl (fun _ _ => rfl) ?_
    exact (yP.bool (by omega) ⟨⟨0, rfl, by omega, by omega, (by omega)⟩, rfl⟩)
  · have c3 : (z2 : Int) = 1 := c3
    refine yG.load xak rfl (fun _ _ => rfl) (v := yR 2073) rfl rfl ?_
    refine yG.load xik rfl (fun _ _ => rfl) (v := yI (p1)) rfl rfl ?_
    refine yG.num (c := 0) rfl (fun _ _ => rfl) (by decide) ?_
    refine yG.invV (rest := []) A_hp.1 (bOb (d_M W) H_2073) rfl rfl rfl rfl (c_GModel_nodeOfLine_s0 W d A_hp.1 H_2073 (p1) (by omega) (by omega)) (fun rv hp9 q9 => ?_)
    obtain ⟨⟨z4, rfl, l_z4, u_z4, R_z4⟩, e9⟩ := q9
    rw [e9]
    show yG _ _ _ _ _ _ _ _ _ _ (yI z4 :: []) _
    refine yG.load xak rfl (fun _ _ => rfl) (v := yR 2073) rfl rfl ?_
    refine yG.load xik rfl (fun _ _ => rfl) (v := yI (p1)) rfl rfl ?_
    refine yG.num (c := 1) rfl (fun _ _ => rfl) (by decide) ?_
    refine yG.invV (rest := [yI (z4)]) A_hp.1 (bOb (d_M W) H_2073) rfl rfl rfl rfl (c_GModel_nodeOfLine_s1 W d A_hp.1 H_2073 (p1) (by omega) (by omega)) (fun rv hp9 q9 => ?_)
    obtain ⟨⟨z5, rfl, l_z5, u_z5, R_z5⟩, e9⟩ := q9
    rw [e9]
    show yG _ _ _ _ _ _ _ _ _ _ (yI z5 :: [yI (z4)]) _
    refine yG.icmp rfl (t := 29) rfl ⟨by omega, by omega⟩ ⟨by omega, by omega⟩ (fun c6 => ?_) (fun c6 => ?_)
    · have c6 : (z4 : Int) = z5 := c6
      refine yG.num (c := 0) rfl (fun _ _ => rfl) (by decide) ?_
      refine yG.ret rfl (fun _ _ => rfl) ?_
      exact (yP.bool (by omega) ⟨⟨0, rfl, by omega, by omega, (by omega)⟩, rfl⟩)
    · have c6 : (z4 : Int) ≠ z5 := c6
      refine yG.num (c := 1) rfl (fun _ _ => rfl) (by decide) ?_
      refine yG.goto rfl (t := 30) rfl ?_
      refine yG.ret rfl (fun _ _ => rfl) ?_
      exact (yP.bool (by omega) ⟨⟨1, rfl, by omega, by omega, (by omega)⟩, rfl⟩)
theorem c_GModel_join_s {hp : xH} (W : mW G) (d : Nat) (hT : zTy G hp) (H_2073 : bRo G 116 2073) (p1 p2 p3 : Int) (h1l : (-1) ≤ p1) (h1u : p1 ≤ 19) (h2l : (-1) ≤ p2) (h2u : p2 ≤ 19) (h3l : 0 ≤ p3) (h3u : p3 ≤ 2147483647) (q0l : 1 ≤ ys hp 2073 11) (q0u : ys hp 2073 11 ≤ 2147483647) : yC (xcall 89 xfts xpools xms (d + 2)) 439 [yR 2073, yI (p1), yI (p2), yJ (p3)] hp (fun rv hp' => (rv = none ∧ (∀ (w : Nat → Int) (n : Nat), p1 < (n : Int) → p2 < (n : Int) → n ≤ 48 → ∀ r, (ys hp 2073 11) ∣ mDot hp' w n r - (mDot hp w n r + mJn w p1 p2 p3 r)) ∧ ∀ n C, mRng hp (ys hp 2073 11) n C → mRng hp' (ys hp 2073 11) n C) ∧ bAx G [(85070591730234615865843651857942052864, 256)] hp hp') := by
  have A_hp : bAx G [(85070591730234615865843651857942052864, 256)] hp hp := bAx.rf hT
  refine yC.of (M := (xt_X13_join, (5, (0, (14, []))))) rfl rfl (N := 273) (yfuel (by decide)) ?_
  show yG 89 xfts (xcall 89 xfts xpools xms (d + 1)) (xpool xp_RX13) [] xt_X13_join (yP 0 (fun rv hp' => (rv = none ∧ (∀ (w : Nat → Int) (n : Nat), p1 < (n : Int) → p2 < (n : Int) → n ≤ 48 → ∀ r, (ys hp 2073 11) ∣ mDot hp' w n r - (mDot hp w n r + mJn w p1 p2 p3 r)) ∧ ∀ n C, mRng hp (ys hp 2073 11) n C → mRng hp' (ys hp 2073 11) n C) ∧ bAx G [(85070591730234615865843651857942052864, 256)] hp hp')) 273 0 [(0, yR 2073), (1, yI (p1)), (2, yI (p2)), (3, yJ (p3))] [] hp
  obtain ⟨gg0, E_0⟩ : ∃ z : Int, ys hp 2073 11 = z := ⟨_, rfl⟩
  obtain ⟨-, -, g_0l, g_0u⟩ := (w_M_p W H_2073).long hT
  refine yG.load xik rfl (fun _ _ => rfl) (v := yI (p1)) rfl rfl ?_
  refine yG.ifz rfl (t := 32) rfl ⟨by omega, by omega⟩ (fun c1 => ?_) (fun c1 => ?_)
  · have c1 : (p1 : Int) < 0 := c1
    refine yG.load xik rfl (fun _ _ => rfl) (v := yI (p2)) rfl rfl ?_
    refine yG.ifz rfl (t := 64) rfl ⟨by omega, by omega⟩ (fun c2 => ?_) (fun c2 => ?_)
    · have c2 : (p2 : Int) < 0 := c2
      refine yG.load xik rfl (fun _ _ => rfl) (v := yI (p1)) rfl rfl ?_
      refine yG.ifz rfl (t := 128) rfl ⟨by omega, by omega⟩ (fun c3 => ?_) (fun c3 => ?_)
      · have c3 : (p1 : Int) < 0 := c3
        refine yG.ret rfl (fun _ _ => rfl) ?_
        exact (yP.void ⟨⟨rfl, ⟨(fun w n g1 g2 g3 r => by have s0 : (ys hp 2073 11) ∣ mDot hp w n r - (mDot hp w n r + 0) := (by rw [Int.add_zero]; exact mdv_rf _ _); rw [mJn0 (w := w) (a := p1) (b := p2) (y := p3) (r := r) (by omega) (by omega)] at s0; exact s0), (fun n C g => by have g0 := g; exact g0)⟩⟩, A_hp⟩)
      · have c3 : (p1 : Int) ≥ 0 := c3
        exfalso; omega
    · have c2 : (p2 : Int) ≥ 0 := c2
      refine yG.load xak rfl (fun _ _ => rfl) (v := yR 2073) rfl rfl ?_
      refine yG.getO A_hp.1 (w_M_matrix W H_2073) rfl rfl (fun r4 H_r4 O_r4 q_r4 => ?_)
      obtain rfl := u_M_matrix W H_r4
      refine yG.num (c := 48) rfl (fun _ _ => rfl) (by decide) ?_
      refine yG.load xik rfl (fun _ _ => rfl) (v := yI (p2)) rfl rfl ?_
      refine yG.imul rfl ?_
      refine yG.load xik rfl (fun _ _ => rfl) (v := yI (p2)) rfl rfl ?_
      refine yG.iadd rfl ?_
      refine yG.load xak rfl (fun _ _ => rfl) (v := yR 2073) rfl rfl ?_
      refine yG.load xak rfl (fun _ _ => rfl) (v := yR 2073) rfl rfl ?_
      refine yG.getS9 A_hp.1 (w_M_matrix W H_2073) q_r4 rfl rfl ?_
      refine yG.num (c := 48) rfl (fun _ _ => rfl) (by decide) ?_
      refine yG.load xik rfl (fun _ _ => rfl) (v := yI (p2)) rfl rfl ?_
      refine yG.imul rfl ?_
      refine yG.load xik rfl (fun _ _ => rfl) (v := yI (p2)) rfl rfl ?_
      refine yG.iadd rfl ?_
      refine yG.lald A_hp.1 (v_M_matrix W H_r4) rfl (by omega) (by omega) (fun z5 e_z5 i_z5 l_z5 u_z5 => ?_)
      refine yG.load xlk2 rfl (fun _ _ => rfl) (v := yJ (p3)) rfl rfl ?_
      refine yG.ladd rfl ?_
      refine yG.invV (rest := [yI ((48 * p2) + p2), yR 2083]) A_hp.1 (bOb (d_M W) H_2073) rfl rfl rfl rfl (c_GModel_mod_s W d A_hp.1 H_2073 (z5 + p3) (by omega) (by omega) (by omega) (by omega)) (fun rv hp9 q9 => ?_)
      obtain ⟨⟨z6, rfl, l_z6, u_z6, R_z6⟩, e9⟩ := q9
      rw [e9]
      show yG _ _ _ _ _ _ _ _ _ _ (yJ z6 :: [yI ((48 * p2) + p2), yR 2083]) _
      refine yG.last A_hp.1 (v_M_matrix W H_r4) (W.2.1 _ _ H_r4 (by decide) (by decide)) rfl (by omega) (by omega) ⟨by omega, by omega⟩ (by omega) (by omega) (fun h7 T_h7 b_h7 f_h7 y_h7 => ?_)
      have A_h7 := A_hp.put T_h7 b_h7 f_h7 H_r4 (bAll_ok (by decide) _)
      have : ys h7 2073 11 = ys hp 2073 11 := (y_h7 2073 11).trans (if_neg (fun e => (bRo.ne H_2073 H_r4 (by decide)) e.1))
      have qq1 : zsl h7 2073 12 = yR 2083 := ((f_h7 2073 12).trans (if_neg (fun e => (bRo.ne H_2073 H_r4 (by decide)) e.1))).trans q_r4
      refine yG.load xik rfl (fun _ _ => rfl) (v := yI (p1)) rfl rfl ?_
      refine yG.ifz rfl (t := 128) rfl ⟨by omega, by omega⟩ (fun c8 => ?_) (fun c8 => ?_)
      · have c8 : (p1 : Int) < 0 := c8
        refine yG.ret rfl (fun _ _ => rfl) ?_
        exact (yP.void ⟨⟨rfl, ⟨(fun w n g1 g2 g3 r => by have s0 : (ys hp 2073 11) ∣ mDot hp w n r - (mDot hp w n r + 0) := (by rw [Int.add_zero]; exact mdv_rf _ _); have s1 := mDp (r0 := (p2 : Int).toNat) (k0 := (p2 : Int).toNat) (d := p3) s0 y_h7 (by omega) (by omega) g3 (mmM_at e_z5 (by omega)) (by rw [show (ys hp 2073 11) = ys hp 2073 11 from (A_hp.ys H_2073 (by decide)).symm]; exact R_z6.2); rw [mJnb (w := w) (a := p1) (b := p2) (y := p3) (r := r) (by omega) (by omega)] at s1; exact s1), (fun n C g => by have g0 := g; have g1 := mRng_put g0 y_h7 (by omega) (by have e9 : (ys hp 2073 11) = ys hp 2073 11 := (A_hp.ys H_2073 (by decide)).symm; omega); exact g1)⟩⟩, A_h7⟩)
      · have c8 : (p1 : Int) ≥ 0 := c8
        exfalso; omega
  · have c1 : (p1 : Int) ≥ 0 := c1
    refine yG.load xak rfl (fun _ _ => rfl) (v := yR 2073) rfl rfl ?_
    refine yG.getO A_hp.1 (w_M_matrix W H_2073) rfl rfl (fun r9 H_r9 O_r9 q_r9 => ?_)
    obtain rfl := u_M_matrix W H_r9
    refine yG.num (c := 48) rfl (fun _ _ => rfl) (by decide) ?_
    refine yG.load xik rfl (fun _ _ => rfl) (v := yI (p1)) rfl rfl ?_
    refine yG.imul rfl ?_
    refine yG.load xik rfl (fun _ _ => rfl) (v := yI (p1)) rfl rfl ?_
    refine yG.iadd rfl ?_
    refine yG.load xak rfl (fun _ _ => rfl) (v := yR 2073) rfl rfl ?_
    refine yG.load xak rfl (fun _ _ => rfl) (v := yR 2073) rfl rfl ?_
    refine yG.getS9 A_hp.1 (w_M_matrix W H_2073) q_r9 rfl rfl ?_
    refine yG.num (c := 48) rfl (fun _ _ => rfl) (by decide) ?_
    refine yG.load xik rfl (fun _ _ => rfl) (v := yI (p1)) rfl rfl ?_
    refine yG.imul rfl ?_
    refine yG.load xik rfl (fun _ _ => rfl) (v := yI (p1)) rfl rfl ?_
    refine yG.iadd rfl ?_
    refine yG.lald A_hp.1 (v_M_matrix W H_r9) rfl (by omega) (by omega) (fun z10 e_z10 i_z10 l_z10 u_z10 => ?_)
    refine yG.load xlk2 rfl (fun _ _ => rfl) (v := yJ (p3)) rfl rfl ?_
    refine yG.ladd rfl ?_
    refine yG.invV (rest := [yI ((48 * p1) + p1), yR 2083]) A_hp.1 (bOb (d_M W) H_2073) rfl rfl rfl rfl (c_GModel_mod_s W d A_hp.1 H_2073 (z10 + p3) (by omega) (by omega) (by omega) (by omega)) (fun rv hp9 q9 => ?_)
    obtain ⟨⟨z11, rfl, l_z11, u_z11, R_z11⟩, e9⟩ := q9
    rw [e9]
    show yG _ _ _ _ _ _ _ _ _ _ (yJ z11 :: [yI ((48 * p1) + p1), yR 2083]) _
    refine yG.last A_hp.1 (v_M_matrix W H_r9) (W.2.1 _ _ H_r9 (by decide) (by decide)) rfl (by omega) (by omega) ⟨by omega, by omega⟩ (by omega) (by omega) (fun h12 T_h12 b_h12 f_h12 y_h12 => ?_)
    have A_h12 := A_hp.put T_h12 b_h12 f_h12 H_r9 (bAll_ok (by decide) _)
    have : ys h12 2073 11 = ys hp 2073 11 := (y_h12 2073 11).trans (if_neg (fun e => (bRo.ne H_2073 H_r9 (by decide)) e.1))
    have qq2 : zsl h12 2073 12 = yR 2083 := ((f_h12 2073 12).trans (if_neg (fun e => (bRo.ne H_2073 H_r9 (by decide)) e.1))).trans q_r9
    refine yG.load xik rfl (fun _ _ => rfl) (v := yI (p2)) rfl rfl ?_
    refine yG.ifz rfl (t := 64) rfl ⟨by omega, by omega⟩ (fun c13 => ?_) (fun c13 => ?_)
    · have c13 : (p2 : Int) < 0 := c13
      refine yG.load xik rfl (fun _ _ => rfl) (v := yI (p1)) rfl rfl ?_
      refine yG.ifz rfl (t := 128) rfl ⟨by omega, by omega⟩ (fun c14 => ?_) (fun c14 => ?_)
      · have c14 : (p1 : Int) < 0 := c14
        exfalso; omega
      · have c14 : (p1 : Int) ≥ 0 := c14
        refine yG.load xik rfl (fun _ _ => rfl) (v := yI (p2)) rfl rfl ?_
        refine yG.ifz rfl (t := 128) rfl ⟨by omega, by omega⟩ (fun c15 => ?_) (fun c15 => ?_)
        · have c15 : (p2 : Int) < 0 := c15
          refine yG.ret rfl (fun _ _ => rfl) ?_
          exact (yP.void ⟨⟨rfl, ⟨(fun w n g1 g2 g3 r => by have s0 : (ys hp 2073 11) ∣ mDot hp w n r - (mDot hp w n r + 0) := (by rw [Int.add_zero]; exact mdv_rf _ _); have s1 := mDp (r0 := (p1 : Int).toNat) (k0 := (p1 : Int).toNat) (d := p3) s0 y_h12 (by omega) (by omega) g3 (mmM_at e_z10 (by omega)) (by rw [show (ys hp 2073 11) = ys hp 2073 11 from (A_hp.ys H_2073 (by decide)).symm]; exact R_z11.2); rw [mJna (w := w) (a := p1) (b := p2) (y := p3) (r := r) (by omega) (by omega)] at s1; exact s1), (fun n C g => by have g0 := g; have g1 := mRng_put g0 y_h12 (by omega) (by have e9 : (ys hp 2073 11) = ys hp 2073 11 := (A_hp.ys H_2073 (by decide)).symm; omega); exact g1)⟩⟩, A_h12⟩)
        · have c15 : (p2 : Int) ≥ 0 := c15
          exfalso; omega
    · have c13 : (p2 : Int) ≥ 0 := c13
      refine yG.load xak rfl (fun _ _ => rfl) (v := yR 2073) rfl rfl ?_
      refine yG.getS9 A_h12.1 (w_M_matrix W H_2073) qq2 rfl rfl ?_
      refine yG.num (c := 48) rfl (fun _ _ => rfl) (by decide) ?_
      refine yG.load xik rfl (fun _ _ => rfl) (v := yI (p2)) rfl rfl ?_
      refine yG.imul rfl ?_
      refine yG.load xik rfl (fun _ _ => rfl) (v := yI (p2)) rfl rfl ?_
      refine yG.iadd rfl ?_
      refine yG.load xak rfl (fun _ _ => rfl) (v := yR 2073) rfl rfl ?_
      refine yG.load xak rfl (fun _ _ => rfl) (v := yR 2073) rfl rfl ?_
      refine yG.getS9 A_h12.1 (w_M_matrix W H_2073) qq2 rfl rfl ?_
      refine yG.num (c := 48) rfl (fun _ _ => rfl) (by decide) ?_
      refine yG.load xik rfl (fun _ _ => rfl) (v := yI (p2)) rfl rfl ?_
      refine yG.imul rfl ?_
      refine yG.load xik rfl (fun _ _ => rfl) (v := yI (p2)) rfl rfl ?_
      refine yG.iadd rfl ?_
      refine yG.lald A_h12.1 (v_M_matrix W H_r9) rfl (by omega) (by omega) (fun z16 e_z16 i_z16 l_z16 u_z16 => ?_)
      refine yG.load xlk2 rfl (fun _ _ => rfl) (v := yJ (p3)) rfl rfl ?_
      refine yG.ladd rfl ?_
      refine yG.invV (rest := [yI ((48 * p2) + p2), yR 2083]) A_h12.1 (bOb (d_M W) H_2073) rfl rfl rfl rfl (c_GModel_mod_s W d A_h12.1 H_2073 (z16 + p3) (by omega) (by omega) (by omega) (by omega)) (fun rv hp9 q9 => ?_)
      obtain ⟨⟨z17, rfl, l_z17, u_z17, R_z17⟩, e9⟩ := q9
      rw [e9]
      show yG _ _ _ _ _ _ _ _ _ _ (yJ z17 :: [yI ((48 * p2) + p2), yR 2083]) _
      refine yG.last A_h12.1 (v_M_matrix W H_r9) (W.2.1 _ _ H_r9 (by decide) (by decide)) rfl (by omega) (by omega) ⟨by omega, by omega⟩ (by omega) (by omega) (fun h18 T_h18 b_h18 f_h18 y_h18 => ?_)
      have A_h18 := A_h12.put T_h18 b_h18 f_h18 H_r9 (bAll_ok (by decide) _)
      have : ys h18 2073 11 = ys h12 2073 11 := (y_h18 2073 11).trans (if_neg (fun e => (bRo.ne H_2073 H_r9 (by decide)) e.1))
      have qq3 : zsl h18 2073 12 = yR 2083 := ((f_h18 2073 12).trans (if_neg (fun e => (bRo.ne H_2073 H_r9 (by decide)) e.1))).trans qq2
      refine yG.load xik rfl (fun _ _ => rfl) (v := yI (p1)) rfl rfl ?_
      refine yG.ifz rfl (t := 128) rfl ⟨by omega, by omega⟩ (fun c19 => ?_) (fun c19 => ?_)
      · have c19 : (p1 : Int) < 0 := c19
        exfalso; omega
      · have c19 : (p1 : Int) ≥ 0 := c19
        refine yG.load xik rfl (fun _ _ => rfl) (v := yI (p2)) rfl rfl ?_
        refine yG.ifz rfl (t := 128) rfl ⟨by omega, by omega⟩ (fun c20 => ?_) (fun c20 => ?_)
        · have c20 : (p2 : Int) < 0 := c20
          exfalso; omega
        · have c20 : (p2 : Int) ≥ 0 := c20
          refine yG.load xak rfl (fun _ _ => rfl) (v := yR 2073) rfl rfl ?_
          refine yG.getS9 A_h18.1 (w_M_matrix W H_2073) qq3 rfl rfl ?_
          refine yG.num (c := 48) rfl (fun _ _ => rfl) (by decide) ?_
          refine yG.load xik rfl (fun _ _ => rfl) (v := yI (p1)) rfl rfl ?_
          refine yG.imul rfl ?_
          refine yG.load xik rfl (fun _ _ => rfl) (v := yI (p2)) rfl rfl ?_
          refine yG.iadd rfl ?_
          refine yG.load xak rfl (fun _ _ => rfl) (v := yR 2073) rfl rfl ?_
          refine yG.load xak rfl (fun _ _ => rfl) (v := yR 2073) rfl rfl ?_
          refine yG.getS9 A_h18.1 (w_M_matrix W H_2073) qq3 rfl rfl ?_
          refine yG.num (c := 48) rfl (fun _ _ => rfl) (by decide) ?_
          refine yG.load xik rfl (fun _ _ => rfl) (v := yI (p1)) rfl rfl ?_
          refine yG.imul rfl ?_
          refine yG.load xik rfl (fun _ _ => rfl) (v := yI (p2)) rfl rfl ?_
          refine yG.iadd rfl ?_
          refine yG.lald A_h18.1 (v_M_matrix W H_r9) rfl (by omega) (by omega) (fun z21 e_z21 i_z21 l_z21 u_z21 => ?_)
          refine yG.load xlk2 rfl (fun _ _ => rfl) (v := yJ (p3)) rfl rfl ?_
          refine yG.lsub rfl ?_
          refine yG.invV (rest := [yI ((48 * p1) + p2), yR 2083]) A_h18.1 (bOb (d_M W) H_2073) rfl rfl rfl rfl (c_GModel_mod_s W d A_h18.1 H_2073 (z21 - p3) (by omega) (by omega) (by omega) (by omega)) (fun rv hp9 q9 => ?_)
          obtain ⟨⟨z22, rfl, l_z22, u_z22, R_z22⟩, e9⟩ := q9
          rw [e9]
          show yG _ _ _ _ _ _ _ _ _ _ (yJ z22 :: [yI ((48 * p1) + p2), yR 2083]) _
          refine yG.last A_h18.1 (v_M_matrix W H_r9) (W.2.1 _ _ H_r9 (by decide) (by decide)) rfl (by omega) (by omega) ⟨by omega, by omega⟩ (by omega) (by omega) (fun h23 T_h23 b_h23 f_h23 y_h23 => ?_)
          have A_h23 := A_h18.put T_h23 b_h23 f_h23 H_r9 (bAll_ok (by decide) _)
          have : ys h23 2073 11 = ys h18 2073 11 := (y_h23 2073 11).trans (if_neg (fun e => (bRo.ne H_2073 H_r9 (by decide)) e.1))
          have qq4 : zsl h23 2073 12 = yR 2083 := ((f_h23 2073 12).trans (if_neg (fun e => (bRo.ne H_2073 H_r9 (by decide)) e.1))).trans qq3
          refine yG.load xak rfl (fun _ _ => rfl) (v := yR 2073) rfl rfl ?_
          refine yG.getS9 A_h23.1 (w_M_matrix W H_2073) qq4 rfl rfl ?_
          refine yG.num (c := 48) rfl (fun _ _ => rfl) (by decide) ?_
          refine yG.load xik rfl (fun _ _ => rfl) (v := yI (p2)) rfl rfl ?_
          refine yG.imul rfl ?_
          refine yG.load xik rfl (fun _ _ => rfl) (v := yI (p1)) rfl rfl ?_
          refine yG.iadd rfl ?_
          refine yG.load xak rfl (fun _ _ => rfl) (v := yR 2073) rfl rfl ?_
          refine yG.load xak rfl (fun _ _ => rfl) (v := yR 2073) rfl rfl ?_
          refine yG.getS9 A_h23.1 (w_M_matrix W H_2073) qq4 rfl rfl ?_
          refine yG.num (c := 48) rfl (fun _ _ => rfl) (by decide) ?_
          refine yG.load xik rfl (fun _ _ => rfl) (v := yI (p2)) rfl rfl ?_
          refine yG.imul rfl ?_
          refine yG.load xik rfl (fun _ _ => rfl) (v := yI (p1)) rfl rfl ?_
          refine yG.iadd rfl ?_
          refine yG.lald A_h23.1 (v_M_matrix W H_r9) rfl (by omega) (by omega) (fun z24 e_z24 i_z24 l_z24 u_z24 => ?_)
          refine yG.load xlk2 rfl (fun _ _ => rfl) (v := yJ (p3)) rfl rfl ?_
          refine yG.lsub rfl ?_
          refine yG.invV (rest := [yI ((48 * p2) + p1), yR 2083]) A_h23.1 (bOb (d_M W) H_2073) rfl rfl rfl rfl (c_GModel_mod_s W d A_h23.1 H_2073 (z24 - p3) (by omega) (by omega) (by omega) (by omega)) (fun rv hp9 q9 => ?_)
          obtain ⟨⟨z25, rfl, l_z25, u_z25, R_z25⟩, e9⟩ := q9
          rw [e9]
          show yG _ _ _ _ _ _ _ _ _ _ (yJ z25 :: [yI ((48 * p2) + p1), yR 2083]) _
          refine yG.last A_h23.1 (v_M_matrix W H_r9) (W.2.1 _ _ H_r9 (by decide) (by decide)) rfl (by omega) (by omega) ⟨by omega, by omega⟩ (by omega) (by omega) (fun h26 T_h26 b_h26 f_h26 y_h26 => ?_)
          have A_h26 := A_h23.put T_h26 b_h26 f_h26 H_r9 (bAll_ok (by decide) _)
          have : ys h26 2073 11 = ys h23 2073 11 := (y_h26 2073 11).trans (if_neg (fun e => (bRo.ne H_2073 H_r9 (by decide)) e.1))
          have qq5 : zsl h26 2073 12 = yR 2083 := ((f_h26 2073 12).trans (if_neg (fun e => (bRo.ne H_2073 H_r9 (by decide)) e.1))).trans qq4
          refine yG.ret rfl (fun _ _ => rfl) ?_
          exact (yP.void ⟨⟨rfl, ⟨(fun w n g1 g2 g3 r => by have s0 : (ys hp 2073 11) ∣ mDot hp w n r - (mDot hp w n r + 0) := (by rw [Int.add_zero]; exact mdv_rf _ _); have s1 := mDp (r0 := (p1 : Int).toNat) (k0 := (p1 : Int).toNat) (d := p3) s0 y_h12 (by omega) (by omega) g3 (mmM_at e_z10 (by omega)) (by rw [show (ys hp 2073 11) = ys hp 2073 11 from (A_hp.ys H_2073 (by decide)).symm]; exact R_z11.2); have s2 := mDp (r0 := (p2 : Int).toNat) (k0 := (p2 : Int).toNat) (d := p3) s1 y_h18 (by omega) (by omega) g3 (mmM_at e_z16 (by omega)) (by rw [show (ys hp 2073 11) = ys h12 2073 11 from (A_h12.ys H_2073 (by decide)).symm]; exact R_z17.2); have s3 := mDp (r0 := (p1 : Int).toNat) (k0 := (p2 : Int).toNat) (d := -p3) s2 y_h23 (by omega) (by omega) g3 (mmM_at e_z21 (by omega)) (by rw [show (ys hp 2073 11) = ys h18 2073 11 from (A_h18.ys H_2073 (by decide)).symm]; exact (mNegD R_z22.2)); have s4 := mDp (r0 := (p2 : Int).toNat) (k0 := (p1 : Int).toNat) (d := -p3) s3 y_h26 (by omega) (by omega) g3 (mmM_at e_z24 (by omega)) (by rw [show (ys hp 2073 11) = ys h23 2073 11 from (A_h23.ys H_2073 (by decide)).symm]; exact (mNegD R_z25.2)); rw [mJn4 (w := w) (a := p1) (b := p2) (y := p3) (r := r) (by omega) (by omega)] at s4; exact s4), (fun n C g => by have g0 := g; have g1 := mRng_put g0 y_h12 (by omega) (by have e9 : (ys hp 2073 11) = ys hp 2073 11 := (A_hp.ys H_2073 (by decide)).symm; omega); have g2 := mRng_put g1 y_h18 (by omega) (by have e9 : (ys hp 2073 11) = ys h12 2073 11 := (A_h12.ys H_2073 (by decide)).symm; omega); have g3 := mRng_put g2 y_h23 (by omega) (by have e9 : (ys hp 2073 11) = ys h18 2073 11 := (A_h18.ys H_2073 (by decide)).symm; omega); have g4 := mRng_put g3 y_h26 (by omega) (by have e9 : (ys hp 2073 11) = ys h23 2073 11 := (A_h23.ys H_2073 (by decide)).symm; omega); exact g4)⟩⟩, A_h26⟩)
theorem c_GModel_clearMatrix_s {hp : xH} (W : mW G) (d : Nat) (hT : zTy G hp) (H_2073 : bRo G 116 2073) (p1 p2 : Int) (h1l : (-1) ≤ p1) (h1u : p1 ≤ 20) (h2l : (-1) ≤ p2) (h2u : p2 ≤ 48) : yC (xcall 89 xfts xpools xms (d + 1)) 369 [yR 2073, yI (p1), yI (p2)] hp (fun rv hp' => (rv = none ∧ ∀ r k : Nat, (r : Int) < p1 → (k : Int) < p2 → mmM hp' r k = 0) ∧ bAx G [(85070591730234615865843651857942052864, 256)] hp hp') := by
  have A_hp : bAx G [(85070591730234615865843651857942052864, 256)] hp hp := bAx.rf hT
  have H : ∀ m : Nat, (∀ a3 : Int, ∀ hq, bAx G [(85070591730234615865843651857942052864, 256)] hp hq → 0 ≤ a3 → (-20) ≤ 0 - a3 → (-1) ≤ p1 → (-20) ≤ 0 - p1 → (-1) ≤ p2 → (-48) ≤ 0 - p2 → (-1) ≤ 0 - a3 + p1 → (∀ r k : Nat, (r : Int) < a3 → (k : Int) < p2 → mmM hq r k = 0) → 0 - 99 * a3 + 2078 < (m : Int) → yG 89 xfts (xcall 89 xfts xpools xms d) (xpool xp_RX13) [] xt_X13_clearMatrix (yP 0 (fun rv hp' => (rv = none ∧ ∀ r k : Nat, (r : Int) < p1 → (k : Int) < p2 → mmM hp' r k = 0) ∧ bAx G [(85070591730234615865843651857942052864, 256)] hp hp')) (16 * m) 2 [(0, yR 2073), (1, yI (p1)), (2, yI (p2)), (3, yI (a3))] [] hq) ∧ (∀ a3 : Int, ∀ a4 : Int, ∀ hq, bAx G [(85070591730234615865843651857942052864, 256)] hp hq → 0 ≤ a3 → (-19) ≤ 0 - a3 → 0 ≤ a4 → (-48) ≤ 0 - a4 → 1 ≤ p1 → (-20) ≤ 0 - p1 → (-1) ≤ p2 → (-48) ≤ 0 - p2 → 1 ≤ 0 - a3 + p1 → (-1) ≤ 0 - a4 + p2 → ((∀ r k : Nat, (r : Int) < a3 → (k : Int) < p2 → mmM hq r k = 0) ∧ ∀ r k : Nat, (r : Int) = a3 → (k : Int) < a4 → (k : Int) < p2 → mmM hq r k = 0) → 0 - 99 * a3 - 2 * a4 + 2077 < (m : Int) → yG 89 xfts (xcall 89 xfts xpools xms d) (xpool xp_RX13) [] xt_X13_clearMatrix (yP 0 (fun rv hp' => (rv = none ∧ ∀ r k : Nat, (r : Int) < p1 → (k : Int) < p2 → mmM hp' r k = 0) ∧ bAx G [(85070591730234615865843651857942052864, 256)] hp hp')) (16 * m) 10 [(0, yR 2073), (1, yI (p1)), (2, yI (p2)), (3, yI (a3)), (4, yI (a4))] [] hq) := by
    intro m
    induction m with
    | zero =>
      refine ⟨?_, ?_⟩ <;> (intros; exfalso; omega)
    | succ m ih =>
      obtain ⟨i_2, i_10⟩ := ih
      refine ⟨?_, ?_⟩
      · intro a3 hq A_hq f0 f1 f2 f3 f4 f5 f6 X_2 hm
        refine yG.mono (N := 16 * m + 16) ?_ (by omega)
        refine yG.load xik rfl (fun _ _ => rfl) (v := yI (a3)) rfl rfl ?_
        refine yG.load xik rfl (fun _ _ => rfl) (v := yI (p1)) rfl rfl ?_
        refine yG.icmp rfl (t := 41) rfl ⟨by omega, by omega⟩ ⟨by omega, by omega⟩ (fun c1 => ?_) (fun c1 => ?_)
        · have c1 : (a3 : Int) ≥ p1 := c1
          refine yG.ret rfl (fun _ _ => rfl) ?_
          exact (yP.void ⟨⟨rfl, (fun r k h1 h2 => X_2 r k (by omega) h2)⟩, A_hq⟩)
        · have c1 : (a3 : Int) < p1 := c1
          refine yG.num (c := 0) rfl (fun _ _ => rfl) (by decide) ?_
          refine yG.store1 xik (L' := [(4, yI (0)), (0, yR 2073), (1, yI (p1)), (2, yI (p2)), (3, yI (a3))]) rfl (fun _ _ => rfl) rfl rfl ?_
          exact yG.mono (yG.sub (i_10 (a3) (0)  hq A_hq   (by omega) (by omega) (by omega) (by omega) (by omega) (by omega) (by omega) (by omega) (by omega) (by omega) ⟨X_2, fun r k _ h1 _ => absurd h1 (by omega)⟩ (by omega)) (ySub.cons rfl (ySub.cons rfl (ySub.cons rfl (ySub.cons rfl (ySub.cons rfl (ySub.nil))))))) (by omega)
      · intro a3 a4 hq A_hq f0 f1 f2 f3 f4 f5 f6 f7 f8 f9 X_10 hm
        refine yG.mono (N := 16 * m + 16) ?_ (by omega)
        refine yG.load xik rfl (fun _ _ => rfl) (v := yI (a4)) rfl rfl ?_
        refine yG.load xik rfl (fun _ _ => rfl) (v := yI (p2)) rfl rfl ?_
        refine yG.icmp rfl (t := 35) rfl ⟨by omega, by omega⟩ ⟨by omega, by omega⟩ (fun c1 => ?_) (fun c1 => ?_)
        · have c1 : (a4 : Int) ≥ p2 := c1
          refine yG.iinc rfl (a := a3) rfl (L' := [(3, yI (a3 + 1)), (0, yR 2073), (1, yI (p1)), (2, yI (p2)), (4, yI (a4))]) rfl ?_
          refine yG.goto rfl (t := 2) rfl ?_
          exact yG.mono (yG.sub (i_2 (a3 + 1)  hq A_hq   (by omega) (by omega) (by omega) (by omega) (by omega) (by omega) (by omega) (fun r k h1 h2 => if e : (r : Int) = a3 then X_10.2 r k e (by omega) (by omega) else X_10.1 r k (by omega) h2) (by omega)) (ySub.cons rfl (ySub.cons rfl (ySub.cons rfl (ySub.cons rfl (ySub.nil)))))) (by omega)
        · have c1 : (a4 : Int) < p2 := c1
          refine yG.load xak rfl (fun _ _ => rfl) (v := yR 2073) rfl rfl ?_
          refine yG.getO A_hq.1 (w_M_matrix W H_2073) rfl rfl (fun r2 H_r2 O_r2 q_r2 => ?_)
          obtain rfl := u_M_matrix W H_r2
          refine yG.num (c := 48) rfl (fun _ _ => rfl) (by decide) ?_
          refine yG.load xik rfl (fun _ _ => rfl) (v := yI (a3)) rfl rfl ?_
          refine yG.imul rfl ?_
          refine yG.load xik rfl (fun _ _ => rfl) (v := yI (a4)) rfl rfl ?_
          refine yG.iadd rfl ?_
          refine yG.numl (c := 0) rfl (fun _ _ => rfl) (by decide) ?_
          refine yG.last A_hq.1 (v_M_matrix W H_r2) (W.2.1 _ _ H_r2 (by decide) (by decide)) rfl (by omega) (by omega) ⟨by omega, by omega⟩ (by omega) (by omega) (fun h3 T_h3 b_h3 f_h3 y_h3 => ?_)
          have A_h3 := A_hq.put T_h3 b_h3 f_h3 H_r2 (bAll_ok (by decide) _)
          refine yG.iinc rfl (a := a4) rfl (L' := [(4, yI (a4 + 1)), (0, yR 2073), (1, yI (p1)), (2, yI (p2)), (3, yI (a3))]) rfl ?_
          refine yG.goto rfl (t := 10) rfl ?_
          have pu9 : ∀ r k : Nat, k < 48 → mmM h3 r k = if r = (a3 : Int).toNat ∧ k = (a4 : Int).toNat then 0 else mmM hq r k := fun r k hk => mmM_put (r := (a3 : Int).toNat) (k := (a4 : Int).toNat) y_h3 (by omega) (by omega) r k hk
          exact yG.mono (yG.sub (i_10 (a3) (a4 + 1)  h3 A_h3   (by omega) (by omega) (by omega) (by omega) (by omega) (by omega) (by omega) (by omega) (by omega) (by omega) ⟨(fun r k g1 g2 => by rw [pu9 r k (by omega), if_neg (by omega)]; exact X_10.1 r k g1 g2), (fun r k g1 g2 g3 => by rw [pu9 r k (by omega)]; exact (if e : k = (a4 : Int).toNat then if_pos ⟨by omega, e⟩ else (if_neg (fun x => e x.2)).trans (X_10.2 r k g1 (by omega) g3)))⟩ (by omega)) (ySub.cons rfl (ySub.cons rfl (ySub.cons rfl (ySub.cons rfl (ySub.cons rfl (ySub.nil))))))) (by omega)
  refine yC.of (M := (xt_X13_clearMatrix, (5, (0, (14, []))))) rfl rfl (N := 33296) (yfuel (by decide)) ?_
  show yG 89 xfts (xcall 89 xfts xpools xms d) (xpool xp_RX13) [] xt_X13_clearMatrix (yP 0 (fun rv hp' => (rv = none ∧ ∀ r k : Nat, (r : Int) < p1 → (k : Int) < p2 → mmM hp' r k = 0) ∧ bAx G [(85070591730234615865843651857942052864, 256)] hp hp')) 33296 0 [(0, yR 2073), (1, yI (p1)), (2, yI (p2))] [] hp
  obtain ⟨i_2, i_10⟩ := H 2080
  refine yG.num (c := 0) rfl (fun _ _ => rfl) (by decide) ?_
  refine yG.store1 xik (L' := [(3, yI (0)), (0, yR 2073), (1, yI (p1)), (2, yI (p2))]) rfl (fun _ _ => rfl) rfl rfl ?_
  exact yG.mono (yG.sub (i_2 (0)  hp A_hp   (by omega) (by omega) (by omega) (by omega) (by omega) (by omega) (by omega) (fun r k h1 _ => absurd h1 (by omega)) (by omega)) (ySub.cons rfl (ySub.cons rfl (ySub.cons rfl (ySub.cons rfl (ySub.nil)))))) (by omega)
theorem c_GModel_joinLines_s {hp : xH} (W : mW G) (d : Nat) (hT : zTy G hp) (M_bWf : bWf G hp) (H_2073 : bRo G 116 2073) (p1 : Int) (h1l : 0 ≤ p1) (h1u : p1 ≤ 15) (q0l : 101 ≤ ys hp 2073 11) (q0u : ys hp 2073 11 ≤ 2147483647) (g90 : mPr ((ys hp 2073 11)).toNat) (g91 : ∀ k : Nat, cntL hp p1 k = true → (-1 ≤ paL hp k ∧ paL hp k < (((ys hp 2073 38 - 1 : Int).toNat : Nat) : Int)) ∧ (-1 ≤ pbL hp k ∧ pbL hp k < (((ys hp 2073 38 - 1 : Int).toNat : Nat) : Int))) : yC (xcall 89 xfts xpools xms (d + 5)) 440 [yR 2073, yI (p1)] hp (fun rv hp' => (bQj G [(85070591730234615865843651857942052864, 256)] hp 0 2147483646 (fun _ => True)) rv hp' ∧ ∀ z : Int, rv = some (yJ z) → 0 ≤ z → z ≤ 2147483646 → (mJl hp hp' (ys hp 2073 11) p1 (ys hp 2073 38 - 1 : Int).toNat (ys hp 2088 2) z)) := by
  have A_hp : bAx G [(85070591730234615865843651857942052864, 256)] hp hp := bAx.rf hT
  have H : ∀ m : Nat, (∀ a2 : Int, ∀ a4 : Int, ∀ gg0 : Int, ∀ gg1 : Int, ∀ gg2 : Int, ∀ hq, bAx G [(85070591730234615865843651857942052864, 256)] hp hq → ys hq 2073 11 = gg0 → ys hq 2088 (2 : Int).toNat = gg1 → ys hq 2073 38 = gg2 → 0 ≤ a2 → (-2147483646) ≤ 0 - a2 → 0 ≤ a4 → (-20) ≤ 0 - a4 → 101 ≤ gg0 → (-2147483647) ≤ 0 - gg0 → 0 ≤ gg1 → (-20) ≤ 0 - gg1 → 0 ≤ gg2 → (-16) ≤ 0 - gg2 → 0 ≤ p1 → (-15) ≤ 0 - p1 → (-2147483645) ≤ 0 - a2 + a4 → 1 ≤ 0 - a2 + gg0 → 0 ≤ 0 - a4 + gg1 → mJl hp hq (ys hp 2073 11) p1 (ys hp 2073 38 - 1 : Int).toNat a4 a2 → 0 - 2 * a4 + 41 < (m : Int) → yG 89 xfts (xcall 89 xfts xpools xms (d + 4)) (xpool xp_RX13) [] xt_X13_joinLines (yP 2 (fun rv hp' => (bQj G [(85070591730234615865843651857942052864, 256)] hp 0 2147483646 (fun _ => True)) rv hp' ∧ ∀ z : Int, rv = some (yJ z) → 0 ≤ z → z ≤ 2147483646 → (mJl hp hp' (ys hp 2073 11) p1 (ys hp 2073 38 - 1 : Int).toNat (ys hp 2088 2) z))) (52 * m) 5 [(0, yR 2073), (1, yI (p1)), (2, yJ (a2)), (4, yI (a4))] [] hq) := by
    intro m
    induction m with
    | zero =>
      intros; exfalso; omega
    | succ m ih =>
      have i_5 := ih
      clear ih
      intro a2 a4 gg0 gg1 gg2 hq A_hq E_0 E_1 E_2 f0 f1 f2 f3 f4 f5 f6 f7 f8 f9 f10 f11 f12 f13 f14 X_5 hm
      refine yG.mono (N := 52 * m + 52) ?_ (by omega)
      obtain ⟨-, -, g_0l, g_0u⟩ := (w_M_p W H_2073).long A_hq.1
      obtain ⟨-, -, g_1l, g_1u⟩ := (v_M_count W (s_M_count W)).int A_hq.1 (j := (2 : Int).toNat) (by decide) rfl
      obtain ⟨-, -, g_2l, g_2u⟩ := (w_M_nodes W H_2073).int A_hq.1
      have kNo : ys hq 2073 38 = ys hp 2073 38 := A_hq.ys H_2073 (by decide)
      have kN : gNd hq = gNd hp := funext fun j => A_hq.ys (s_M_node W) (bNo_ok (by decide) j)
      have kI : gIl hq = gIl hp := funext fun j => A_hq.ys (s_M_island W) (bNo_ok (by decide) j)
      have kS : gIn hq = gIn hp := funext fun j => A_hq.ys (s_M_inNow W) (bNo_ok (by decide) j)
      have kF : ∀ j, ys hq 2089 j = ys hp 2089 j := fun j => A_hq.ys (s_M_field W) (bNo_ok (by decide) j)
      have kA : gA hq = gA hp := funext fun k => by unfold gA; rw [kF]
      have kB : gB hq = gB hp := funext fun k => by unfold gB; rw [kF]
      have kP : ∀ j, ys hq 2104 j = ys hp 2104 j := fun j => A_hq.ys (s_M_placeOf W) (bNo_ok (by decide) j)
      have kC2 : ys hq 2088 2 = ys hp 2088 2 := A_hq.ys (s_M_count W) (bNo_ok (by decide) _)
      have kcy : ys hq 2088 (2 : Int).toNat = ys hq 2088 2 := rfl
      refine yG.load xik rfl (fun _ _ => rfl) (v := yI (a4)) rfl rfl ?_
      refine yG.load xak rfl (fun _ _ => rfl) (v := yR 2073) rfl rfl ?_
      refine yG.getO A_hq.1 (w_M_count W H_2073) rfl rfl (fun r1 H_r1 O_r1 q_r1 => ?_)
      obtain rfl := u_M_count W H_r1
      refine yG.num (c := 2) rfl (fun _ _ => rfl) (by decide) ?_
      refine yG.ialdF A_hq.1 (v_M_count W H_r1) rfl rfl (by omega) (by omega) (fun z2 e_z2 i_z2 l_z2 u_z2 => ?_)
      rw [show (z2 : Int) = gg1 by omega]
      refine yG.icmp rfl (t := 96) rfl ⟨by omega, by omega⟩ ⟨by omega, by omega⟩ (fun c3 => ?_) (fun c3 => ?_)
      · have c3 : (a4 : Int) ≥ gg1 := c3
        refine yG.load xlk2 rfl (fun _ _ => rfl) (v := yJ (a2)) rfl rfl ?_
        refine yG.ret rfl (fun _ _ => rfl) ?_
        exact (yP.long ⟨by omega, by omega⟩ ⟨⟨⟨a2, rfl, by omega, by omega, trivial⟩, A_hq⟩, (fun z e9 l9 u9 => by have e8 := yJinj e9 (by omega) (by omega) (by omega) (by omega); subst e8; exact (by rw [show ys hp 2088 2 = a4 by omega]; exact X_5))⟩)
      · have c3 : (a4 : Int) < gg1 := c3
        refine yG.load xak rfl (fun _ _ => rfl) (v := yR 2073) rfl rfl ?_
        refine yG.load xik rfl (fun _ _ => rfl) (v := yI (a4)) rfl rfl ?_
        refine yG.invV (rest := []) A_hq.1 (bOb (d_M W) H_2073) rfl rfl rfl rfl (c_GModel_islandOfLine_s W (d + 1) A_hq.1 H_2073 (a4) (by omega) (by omega)) (fun rv hp9 q9 => ?_)
        obtain ⟨⟨z4, rfl, l_z4, u_z4, R_z4⟩, e9⟩ := q9
        rw [e9]
        show yG _ _ _ _ _ _ _ _ _ _ (yI z4 :: []) _
        refine yG.load xik rfl (fun _ _ => rfl) (v := yI (p1)) rfl rfl ?_
        refine yG.icmp rfl (t := 90) rfl ⟨by omega, by omega⟩ ⟨by omega, by omega⟩ (fun c5 => ?_) (fun c5 => ?_)
        · have c5 : (z4 : Int) ≠ p1 := c5
          refine yG.iinc rfl (a := a4) rfl (L' := [(4, yI (a4 + 1)), (0, yR 2073), (1, yI (p1)), (2, yJ (a2))]) rfl ?_
          refine yG.goto rfl (t := 5) rfl ?_
          have r1 := R_z4
          rw [kI, kA] at r1
          exact yG.mono (yG.sub (i_5 (a2) (a4 + 1) (ys hq 2073 11) (ys hq 2088 (2 : Int).toNat) (ys hq 2073 38) hq A_hq  rfl rfl rfl (by omega) (by omega) (by omega) (by omega) (by omega) (by omega) (by omega) (by omega) (by omega) (by omega) (by omega) (by omega) (by omega) (by omega) (by omega) (X_5.skip (k := (a4 : Int).toNat) (by omega) (decide_eq_false (by rintro ⟨f1, f2, f3, f4⟩; omega))) (by omega)) (ySub.cons rfl (ySub.cons rfl (ySub.cons rfl (ySub.cons rfl (ySub.nil)))))) (by omega)
        · have c5 : (z4 : Int) = p1 := c5
          refine yG.load xak rfl (fun _ _ => rfl) (v := yR 2073) rfl rfl ?_
          refine yG.load xik rfl (fun _ _ => rfl) (v := yI (a4)) rfl rfl ?_
          refine yG.invV (rest := []) A_hq.1 (bOb (d_M W) H_2073) rfl rfl rfl rfl (c_GModel_isBetween_s W d A_hq.1 H_2073 (a4) (by omega) (by omega)) (fun rv hp9 q9 => ?_)
          obtain ⟨⟨z6, rfl, l_z6, u_z6, R_z6⟩, e9⟩ := q9
          rw [e9]
          show yG _ _ _ _ _ _ _ _ _ _ (yI z6 :: []) _
          refine yG.ifz rfl (t := 90) rfl ⟨by omega, by omega⟩ (fun c7 => ?_) (fun c7 => ?_)
          · have c7 : (z6 : Int) = 0 := c7
            refine yG.iinc rfl (a := a4) rfl (L' := [(4, yI (a4 + 1)), (0, yR 2073), (1, yI (p1)), (2, yJ (a2))]) rfl ?_
            refine yG.goto rfl (t := 5) rfl ?_
            have r1 := R_z4
            rw [kI, kA] at r1
            have r2 := R_z6
            rw [kS, kN, kA, kB] at r2
            exact yG.mono (yG.sub (i_5 (a2) (a4 + 1) (ys hq 2073 11) (ys hq 2088 (2 : Int).toNat) (ys hq 2073 38) hq A_hq  rfl rfl rfl (by omega) (by omega) (by omega) (by omega) (by omega) (by omega) (by omega) (by omega) (by omega) (by omega) (by omega) (by omega) (by omega) (by omega) (by omega) (X_5.skip (k := (a4 : Int).toNat) (by omega) (decide_eq_false (by rintro ⟨f1, f2, f3, f4⟩; exact r2.2 (by omega) ⟨f3, f4⟩))) (by omega)) (ySub.cons rfl (ySub.cons rfl (ySub.cons rfl (ySub.cons rfl (ySub.nil)))))) (by omega)
          · have c7 : (z6 : Int) ≠ 0 := c7
            refine yG.load xak rfl (fun _ _ => rfl) (v := yR 2073) rfl rfl ?_
            refine yG.num (c := 2) rfl (fun _ _ => rfl) (by decide) ?_
            refine yG.load xik rfl (fun _ _ => rfl) (v := yI (a4)) rfl rfl ?_
            refine yG.num (c := 1) rfl (fun _ _ => rfl) (by decide) ?_
            refine yG.invV (rest := []) A_hq.1 (bOb (d_M W) H_2073) rfl rfl rfl rfl (c_GModel_of_v2_1 W (d + 2) A_hq.1 H_2073 (a4) (by omega) (by omega)) (fun rv hp9 q9 => ?_)
            obtain ⟨⟨z8, rfl, l_z8, u_z8, R_z8⟩, e9⟩ := q9
            rw [e9]
            show yG _ _ _ _ _ _ _ _ _ _ (yI z8 :: []) _
            refine yG.i2l rfl ⟨by omega, by omega⟩ ?_
            refine yG.store2 xlk2 (L' := [(5, yJ (z8)), (0, yR 2073), (1, yI (p1)), (2, yJ (a2)), (4, yI (a4))]) rfl (fun _ _ => rfl) rfl rfl ?_
            refine yG.load xak rfl (fun _ _ => rfl) (v := yR 2073) rfl rfl ?_
            refine yG.load xak rfl (fun _ _ => rfl) (v := yR 2073) rfl rfl ?_
            refine yG.getO A_hq.1 (w_M_placeOf W H_2073) rfl rfl (fun r9 H_r9 O_r9 q_r9 => ?_)
            obtain rfl := u_M_placeOf W H_r9
            refine yG.load xak rfl (fun _ _ => rfl) (v := yR 2073) rfl rfl ?_
            refine yG.load xik rfl (fun _ _ => rfl) (v := yI (a4)) rfl rfl ?_
            refine yG.num (c := 0) rfl (fun _ _ => rfl) (by decide) ?_
            refine yG.invV (rest := [yR 2104, yR 2073]) A_hq.1 (bOb (d_M W) H_2073) rfl rfl rfl rfl (c_GModel_nodeOfLine_s0 W (d + 1) A_hq.1 H_2073 (a4) (by omega) (by omega)) (fun rv hp9 q9 => ?_)
            obtain ⟨⟨z10, rfl, l_z10, u_z10, R_z10⟩, e9⟩ := q9
            rw [e9]
            show yG _ _ _ _ _ _ _ _ _ _ (yI z10 :: [yR 2104, yR 2073]) _
            refine yG.iald A_hq.1 (v_M_placeOf W H_r9) rfl (by omega) (by omega) (fun z11 e_z11 i_z11 l_z11 u_z11 => ?_)
            refine yG.load xak rfl (fun _ _ => rfl) (v := yR 2073) rfl rfl ?_
            refine yG.getS9 A_hq.1 (w_M_placeOf W H_2073) q_r9 rfl rfl ?_
            refine yG.load xak rfl (fun _ _ => rfl) (v := yR 2073) rfl rfl ?_
            refine yG.load xik rfl (fun _ _ => rfl) (v := yI (a4)) rfl rfl ?_
            refine yG.num (c := 1) rfl (fun _ _ => rfl) (by decide) ?_
            refine yG.invV (rest := [yR 2104, yI (z11), yR 2073]) A_hq.1 (bOb (d_M W) H_2073) rfl rfl rfl rfl (c_GModel_nodeOfLine_s1 W (d + 1) A_hq.1 H_2073 (a4) (by omega) (by omega)) (fun rv hp9 q9 => ?_)
            obtain ⟨⟨z12, rfl, l_z12, u_z12, R_z12⟩, e9⟩ := q9
            rw [e9]
            show yG _ _ _ _ _ _ _ _ _ _ (yI z12 :: [yR 2104, yI (z11), yR 2073]) _
            refine yG.iald A_hq.1 (v_M_placeOf W H_r9) rfl (by omega) (by omega) (fun z13 e_z13 i_z13 l_z13 u_z13 => ?_)
            refine yG.load xak rfl (fun _ _ => rfl) (v := yR 2073) rfl rfl ?_
            refine yG.load xlk2 rfl (fun _ _ => rfl) (v := yJ (z8)) rfl rfl ?_
            refine yG.invV (rest := [yI (z13), yI (z11), yR 2073]) A_hq.1 (bOb (d_M W) H_2073) rfl rfl rfl rfl (c_GModel_inverse__s W (d + 2) A_hq.1 H_2073 (z8) (by omega) (by omega) (by omega) (by omega)) (fun rv hp9 q9 => ?_)
            obtain ⟨⟨z14, rfl, l_z14, u_z14, R_z14⟩, e9⟩ := q9
            rw [e9]
            show yG _ _ _ _ _ _ _ _ _ _ (yJ z14 :: [yI (z13), yI (z11), yR 2073]) _
            refine yG.invV (rest := []) A_hq.1 (bOb (d_M W) H_2073) rfl rfl rfl rfl (c_GModel_join_s W (d + 2) A_hq.1 H_2073 (z11) (z13) (z14) (by omega) (by omega) (by omega) (by omega) (by omega) (by omega) (by omega) (by omega)) (fun rv h15 q9 => ?_)
            obtain ⟨⟨rfl, R_z16⟩, B_h15⟩ := q9
            have A_h15 := A_hq.tr B_h15 (by decide)
            have : ys h15 2073 11 = ys hq 2073 11 := B_h15.ys H_2073 (by decide)
            have : ys h15 2088 (2 : Int).toNat = ys hq 2088 (2 : Int).toNat := B_h15.ys H_r1 (bNo_ok (by decide) _)
            have : ys h15 2073 38 = ys hq 2073 38 := B_h15.ys H_2073 (by decide)
            have qq1 : zsl h15 2073 39 = yR 2104 := (B_h15.sl H_2073 (by decide)).trans q_r9
            show yG _ _ _ _ _ _ _ _ _ _ [] _
            refine yG.load xlk2 rfl (fun _ _ => rfl) (v := yJ (a2)) rfl rfl ?_
            refine yG.load xlk2 rfl (fun _ _ => rfl) (v := yJ (z8)) rfl rfl ?_
            refine yG.lmul rfl ?_
            obtain ⟨z17, e_z17⟩ : ∃ z : Int, z = a2 * z8 := ⟨_, rfl⟩
            rw [← e_z17]
            have b_z17 : 0 ≤ z17 ∧ z17 ≤ 212600880954 := e_z17 ▸ ymulb (A := 2147483646) (B := 99) (by omega) (by omega) (by omega) (by omega) (by decide)
            have b2_z17 : z17 ≤ 2147483646 * z8 := e_z17 ▸ bmulx (by omega) (by omega)
            have b3_z17 : z17 ≤ 99 * a2 := e_z17 ▸ bmuly (by omega) (by omega)
            refine yG.load xak rfl (fun _ _ => rfl) (v := yR 2073) rfl rfl ?_
            refine yG.getJ A_h15.1 (w_M_p W H_2073) rfl rfl (fun z18 e_z18 i_z18 l_z18 u_z18 => ?_)
            rw [show (z18 : Int) = gg0 by omega]
            refine yG.lrem rfl ⟨by omega, by omega⟩ ⟨by omega, by omega⟩ (by omega) (by omega) ?_
            obtain ⟨z19, e_z19⟩ : ∃ z : Int, z = (z17) % (gg0) := ⟨_, rfl⟩
            rw [← e_z19]
            have b_z19 : 0 ≤ z19 ∧ z19 < gg0 := e_z19 ▸ ⟨Int.emod_nonneg _ (by omega), Int.emod_lt_of_pos _ (by omega)⟩
            refine yG.store2 xlk2 (L' := [(2, yJ (z19)), (5, yJ (z8)), (0, yR 2073), (1, yI (p1)), (4, yI (a4))]) rfl (fun _ _ => rfl) rfl rfl ?_
            refine yG.iinc rfl (a := a4) rfl (L' := [(4, yI (a4 + 1)), (2, yJ (z19)), (5, yJ (z8)), (0, yR 2073), (1, yI (p1))]) rfl ?_
            refine yG.goto rfl (t := 5) rfl ?_
            have r1 := R_z4
            rw [kI, kA] at r1
            have r2 := R_z6
            rw [kS, kN, kA, kB] at r2
            have r3 : z8 = lX hp (a4 : Int).toNat := by unfold lX; rw [R_z8, kF]; congr 1; omega
            have r4 : z11 = paL hp (a4 : Int).toNat := by unfold paL; rw [e_z11, kP, R_z10, kN, kA]
            have r5 : z13 = pbL hp (a4 : Int).toNat := by unfold pbL; rw [e_z13, kP, R_z12, kN, kB]
            have r6 := r2.1 (by omega)
            have hc9 : cntL hp p1 (a4 : Int).toNat = true := decide_eq_true ⟨by omega, by omega, r6.1, r6.2⟩
            have pl := g91 (a4 : Int).toNat hc9
            have r7 : 1 ≤ z8 := (M_bWf.x (s := 2) (k := 1) (j := 529 + 11 * (a4 : Int).toNat) (i := a4) (.inl ⟨rfl, .inl rfl⟩) (by omega) (by omega) (by omega) r3 (by omega))
            have pq : ys hq 2073 11 = ys hp 2073 11 := A_hq.ys H_2073 (by decide)
            have r8 := R_z14
            rw [pq] at r8
            have r9 := r8 g90 (mNdvd (by omega) (by omega))
            have r10 := (R_z16).1
            have r11 := (R_z16).2
            rw [pq] at r10 r11
            exact yG.mono (yG.sub (i_5 (z19) (a4 + 1) (ys h15 2073 11) (ys h15 2088 (2 : Int).toNat) (ys h15 2073 38) h15 A_h15  rfl rfl rfl (by omega) (by omega) (by omega) (by omega) (by omega) (by omega) (by omega) (by omega) (by omega) (by omega) (by omega) (by omega) (by omega) (by omega) (by omega) (X_5.step (k := (a4 : Int).toNat) (z9 := z14) (a := z11) (b := z13) (by omega) g90 hc9 r3 r7 (by omega) (by omega) r9 r4 r5 (fun w r hr => r10 w _ (by omega) (by omega) (by omega) r) (by rw [show (ys hp 2073 11) = gg0 by omega]; exact (show gg0 ∣ z19 - a2 * z8 from by rw [show a2 * z8 = z17 by rw [e_z17]]; exact mdv_mod (by omega) e_z19)) (fun g => r11 _ _ g)) (by omega)) (ySub.cons rfl (ySub.cons rfl (ySub.cons rfl (ySub.cons rfl (ySub.nil)))))) (by omega)
  refine yC.of (M := (xt_X13_joinLines, (7, (2, (14, []))))) rfl rfl (N := 2288) (yfuel (by decide)) ?_
  show yG 89 xfts (xcall 89 xfts xpools xms (d + 4)) (xpool xp_RX13) [] xt_X13_joinLines (yP 2 (fun rv hp' => (bQj G [(85070591730234615865843651857942052864, 256)] hp 0 2147483646 (fun _ => True)) rv hp' ∧ ∀ z : Int, rv = some (yJ z) → 0 ≤ z → z ≤ 2147483646 → (mJl hp hp' (ys hp 2073 11) p1 (ys hp 2073 38 - 1 : Int).toNat (ys hp 2088 2) z))) 2288 0 [(0, yR 2073), (1, yI (p1))] [] hp
  have i_5 := H 43
  obtain ⟨gg0, E_0⟩ : ∃ z : Int, ys hp 2073 11 = z := ⟨_, rfl⟩
  obtain ⟨-, -, g_0l, g_0u⟩ := (w_M_p W H_2073).long hT
  obtain ⟨gg1, E_1⟩ : ∃ z : Int, ys hp 2088 (2 : Int).toNat = z := ⟨_, rfl⟩
  obtain ⟨-, -, g_1l, g_1u⟩ := (v_M_count W (s_M_count W)).int hT (j := (2 : Int).toNat) (by decide) rfl
  obtain ⟨gg2, E_2⟩ : ∃ z : Int, ys hp 2073 38 = z := ⟨_, rfl⟩
  obtain ⟨-, -, g_2l, g_2u⟩ := (w_M_nodes W H_2073).int hT
  refine yG.numl (c := 1) rfl (fun _ _ => rfl) (by decide) ?_
  refine yG.store2 xlk2 (L' := [(2, yJ (1)), (0, yR 2073), (1, yI (p1))]) rfl (fun _ _ => rfl) rfl rfl ?_
  refine yG.num (c := 0) rfl (fun _ _ => rfl) (by decide) ?_
  refine yG.store1 xik (L' := [(4, yI (0)), (2, yJ (1)), (0, yR 2073), (1, yI (p1))]) rfl (fun _ _ => rfl) rfl rfl ?_
  exact yG.mono (yG.sub (i_5 (1) (0) (ys hp 2073 11) (ys hp 2088 (2 : Int).toNat) (ys hp 2073 38) hp A_hp  rfl rfl rfl (by omega) (by omega) (by omega) (by omega) (by omega) (by omega) (by omega) (by omega) (by omega) (by omega) (by omega) (by omega) (by omega) (by omega) (by omega) (mJl.start (by have := g90.1; omega)) (by omega)) (ySub.cons rfl (ySub.cons rfl (ySub.cons rfl (ySub.cons rfl (ySub.nil)))))) (by omega)
end MJoins
