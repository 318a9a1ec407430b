/-! ===== the class: its calls, printed by a program ===== -/
section BCalls
variable {G : zW}
theorem c_G_changed {hp : xH} (W : bW G) (d : Nat) (hT : zTy G hp) {k0 : Nat} (H_k0 : bRo G 14 k0) : yC (xcall 89 xfts xpools xms (d + 1)) 286 [yR k0] hp (fun rv hp' => (rv = none ∧ True) ∧ bAx G [(37778931862957161709568, 4), (4611686018427387904, 9), (2417851639229258349412352, 10), (16384, 14), (79228162514264337593543950336, 18)] hp hp') := by
  have A_hp : bAx G [(37778931862957161709568, 4), (4611686018427387904, 9), (2417851639229258349412352, 10), (16384, 14), (79228162514264337593543950336, 18)] hp hp := bAx.rf hT
  refine yC.of (M := (xt_X12_changed, (1, (0, (13, []))))) rfl rfl (N := 66) (yfuel (by decide)) ?_
  show yG 89 xfts (xcall 89 xfts xpools xms d) (xpool xp_RX12) [] xt_X12_changed (yP 0 (fun rv hp' => (rv = none ∧ True) ∧ bAx G [(37778931862957161709568, 4), (4611686018427387904, 9), (2417851639229258349412352, 10), (16384, 14), (79228162514264337593543950336, 18)] hp hp')) 66 0 [(0, yR k0)] [] hp
  refine yG.load xak rfl (fun _ _ => rfl) (v := yR k0) rfl rfl ?_
  refine yG.num (c := 0) rfl (fun _ _ => rfl) (by decide) ?_
  refine yG.putI A_hp.1 (w_G_looked W H_k0) (W.2.1 _ _ H_k0 (by decide) (by decide)) rfl rfl (.inr ⟨rfl, rfl, rfl⟩) ⟨by omega, by omega⟩ (by omega) (by omega) (fun h1 T_h1 b_h1 f_h1 y_h1 => ?_)
  have A_h1 := A_hp.put T_h1 b_h1 f_h1 H_k0 (by decide)
  refine yG.load xak rfl (fun _ _ => rfl) (v := yR k0) rfl rfl ?_
  refine yG.getO A_h1.1 (w_G_meters W H_k0) rfl rfl (fun r2 H_r2 O_r2 q_r2 => ?_)
  refine yG.num (c := 0) rfl (fun _ _ => rfl) (by decide) ?_
  refine yG.putI A_h1.1 (w_Meters_known W H_r2) (W.2.1 _ _ H_r2 (by decide) (by decide)) rfl rfl (.inr ⟨rfl, rfl, rfl⟩) ⟨by omega, by omega⟩ (by omega) (by omega) (fun h3 T_h3 b_h3 f_h3 y_h3 => ?_)
  have A_h3 := A_h1.put T_h3 b_h3 f_h3 H_r2 (by decide)
  refine yG.load xak rfl (fun _ _ => rfl) (v := yR k0) rfl rfl ?_
  refine yG.getO A_h3.1 (w_G_shorts W H_k0) rfl rfl (fun r4 H_r4 O_r4 q_r4 => ?_)
  refine yG.num (c := 0) rfl (fun _ _ => rfl) (by decide) ?_
  refine yG.putI A_h3.1 (w_Shorts_known W H_r4) (W.2.1 _ _ H_r4 (by decide) (by decide)) rfl rfl (.inr ⟨rfl, rfl, rfl⟩) ⟨by omega, by omega⟩ (by omega) (by omega) (fun h5 T_h5 b_h5 f_h5 y_h5 => ?_)
  have A_h5 := A_h3.put T_h5 b_h5 f_h5 H_r4 (by decide)
  refine yG.load xak rfl (fun _ _ => rfl) (v := yR k0) rfl rfl ?_
  refine yG.getO A_h5.1 (w_G_dispatch W H_k0) rfl rfl (fun r6 H_r6 O_r6 q_r6 => ?_)
  refine yG.num (c := 0) rfl (fun _ _ => rfl) (by decide) ?_
  refine yG.putI A_h5.1 (w_Dispatch_known W H_r6) (W.2.1 _ _ H_r6 (by decide) (by decide)) rfl rfl (.inr ⟨rfl, rfl, rfl⟩) ⟨by omega, by omega⟩ (by omega) (by omega) (fun h7 T_h7 b_h7 f_h7 y_h7 => ?_)
  have A_h7 := A_h5.put T_h7 b_h7 f_h7 H_r6 (by decide)
  refine yG.load xak rfl (fun _ _ => rfl) (v := yR k0) rfl rfl ?_
  refine yG.getO A_h7.1 (w_G_relays W H_k0) rfl rfl (fun r8 H_r8 O_r8 q_r8 => ?_)
  refine yG.num (c := 0) rfl (fun _ _ => rfl) (by decide) ?_
  refine yG.putI A_h7.1 (w_Relays_running W H_r8) (W.2.1 _ _ H_r8 (by decide) (by decide)) rfl rfl (.inr ⟨rfl, rfl, rfl⟩) ⟨by omega, by omega⟩ (by omega) (by omega) (fun h9 T_h9 b_h9 f_h9 y_h9 => ?_)
  have A_h9 := A_h7.put T_h9 b_h9 f_h9 H_r8 (by decide)
  refine yG.ret rfl (fun _ _ => rfl) ?_
  exact (yP.void ⟨⟨rfl, trivial⟩, A_h9⟩)
theorem c_G_now {hp : xH} (W : bW G) (d : Nat) (hT : zTy G hp) {k0 : Nat} (H_k0 : bRo G 14 k0) : yC (xcall 89 xfts xpools xms (d + 5)) 312 [yR k0] hp (bQr G [(2251799813685248, 9), (2251799813685248, 10), (2269391999729664, 11), (17592186044416, 12), (17592186044416, 13), (17592186060800, 14), (17592186044416, 15), (2211795182620246016, 256)] hp 44) := by
  have A_hp : bAx G [(2251799813685248, 9), (2251799813685248, 10), (2269391999729664, 11), (17592186044416, 12), (17592186044416, 13), (17592186060800, 14), (17592186044416, 15), (2211795182620246016, 256)] hp hp := bAx.rf hT
  refine yC.of (M := (xt_X12_now, (1, (3, (13, []))))) rfl rfl (N := 42) (yfuel (by decide)) ?_
  show yG 89 xfts (xcall 89 xfts xpools xms (d + 4)) (xpool xp_RX12) [] xt_X12_now (yP 3 (bQr G [(2251799813685248, 9), (2251799813685248, 10), (2269391999729664, 11), (17592186044416, 12), (17592186044416, 13), (17592186060800, 14), (17592186044416, 15), (2211795182620246016, 256)] hp 44)) 42 0 [(0, yR k0)] [] hp
  refine yG.load xak rfl (fun _ _ => rfl) (v := yR k0) rfl rfl ?_
  refine yG.getI A_hp.1 (w_G_looked W H_k0) rfl rfl (fun z1 e_z1 i_z1 l_z1 u_z1 => ?_)
  refine yG.ifz rfl (t := 19) rfl ⟨by omega, by omega⟩ (fun c2 => ?_) (fun c2 => ?_)
  · have c2 : (z1 : Int) ≠ 0 := c2
    refine yG.load xak rfl (fun _ _ => rfl) (v := yR k0) rfl rfl ?_
    refine yG.getO A_hp.1 (w_G_flow W H_k0) rfl rfl (fun r3 H_r3 O_r3 q_r3 => ?_)
    refine yG.ret rfl (fun _ _ => rfl) ?_
    exact (yP.ref ⟨⟨r3, rfl, H_r3⟩, A_hp⟩)
  · have c2 : (z1 : Int) = 0 := c2
    refine yG.load xak rfl (fun _ _ => rfl) (v := yR k0) rfl rfl ?_
    refine yG.getO A_hp.1 (w_G_flow W H_k0) rfl rfl (fun r4 H_r4 O_r4 q_r4 => ?_)
    refine yG.invV (rest := []) A_hp.1 (bOb (d_Flow W) H_r4) rfl rfl rfl rfl (c_Flow_look_m W d A_hp.1 H_r4) (fun rv h5 q9 => ?_)
    obtain ⟨⟨rfl, R_z6⟩, B_h5⟩ := q9
    have A_h5 := A_hp.tr B_h5 (by decide)
    have qq1 : zsl h5 k0 7 = yR r4 := (B_h5.sl H_k0 (by decide)).trans q_r4
    show yG _ _ _ _ _ _ _ _ _ _ [] _
    refine yG.load xak rfl (fun _ _ => rfl) (v := yR k0) rfl rfl ?_
    refine yG.num (c := 1) rfl (fun _ _ => rfl) (by decide) ?_
    refine yG.putI A_h5.1 (w_G_looked W H_k0) (W.2.1 _ _ H_k0 (by decide) (by decide)) rfl rfl (.inr ⟨rfl, rfl, rfl⟩) ⟨by omega, by omega⟩ (by omega) (by omega) (fun h7 T_h7 b_h7 f_h7 y_h7 => ?_)
    have A_h7 := A_h5.put T_h7 b_h7 f_h7 H_k0 (by decide)
    have qq2 : zsl h7 k0 7 = yR r4 := ((f_h7 k0 7).trans (if_neg (fun e => absurd e.2 (by decide)))).trans qq1
    refine yG.load xak rfl (fun _ _ => rfl) (v := yR k0) rfl rfl ?_
    refine yG.getS9 A_h7.1 (w_G_flow W H_k0) qq2 rfl rfl ?_
    refine yG.ret rfl (fun _ _ => rfl) ?_
    exact (yP.ref ⟨⟨r4, rfl, H_r4⟩, A_h7⟩)
theorem c_G_testBar {hp : xH} (W : bW G) (d : Nat) (hT : zTy G hp) {k0 : Nat} (H_k0 : bRo G 14 k0) (p1 : Int) (h1l : (-2147483648) ≤ p1) (h1u : p1 ≤ 2147483647) : bC (xcall 89 xfts xpools xms (d + 2)) 332 [yR k0, yI (p1)] hp (fun rv hp' => (rv = none ∧ 0 ≤ p1 ∧ 0 ≤ 0 - p1 + 15) ∧ hp' = hp) (bTh G [] [2] hp) := by
  have A_hp : bAx G [] hp hp := bAx.rf hT
  refine bC.of (M := (xt_X12_testBar, (2, (0, (13, []))))) rfl rfl (N := 27) (yfuel (by decide)) ?_
  show yG 89 xfts (xcall 89 xfts xpools xms (d + 1)) (xpool xp_RX12) [] xt_X12_testBar (bP 0 (fun rv hp' => (rv = none ∧ 0 ≤ p1 ∧ 0 ≤ 0 - p1 + 15) ∧ hp' = hp) (bTh G [] [2] hp)) 27 0 [(0, yR k0), (1, yI (p1))] [] hp
  refine yG.load xak rfl (fun _ _ => rfl) (v := yR k0) rfl rfl ?_
  refine yG.getO A_hp.1 (w_G_net W H_k0) rfl rfl (fun r1 H_r1 O_r1 q_r1 => ?_)
  refine yG.num (c := 0) rfl (fun _ _ => rfl) (by decide) ?_
  refine yG.load xik rfl (fun _ _ => rfl) (v := yI (p1)) rfl rfl ?_
  refine yG.invV (rest := []) A_hp.1 (bOb (d_Net W) H_r1) rfl rfl rfl rfl (c_Net_has_0 W d A_hp.1 H_r1 (p1) (by omega) (by omega)) (fun rv hp9 q9 => ?_)
  obtain ⟨⟨z2, rfl, l_z2, u_z2, R_z2⟩, e9⟩ := q9
  rw [e9]
  show yG _ _ _ _ _ _ _ _ _ _ (yI z2 :: []) _
  refine yG.ifz rfl (t := 23) rfl ⟨by omega, by omega⟩ (fun c3 => ?_) (fun c3 => ?_)
  · have c3 : (z2 : Int) ≠ 0 := c3
    refine yG.ret rfl (fun _ _ => rfl) ?_
    exact .inl (yP.void ⟨⟨rfl, by omega⟩, rfl⟩)
  · have c3 : (z2 : Int) = 0 := c3
    exact yG.newT (P := bP _ _ _) rfl rfl (bP.thr rfl ⟨by decide, hp, A_hp, rfl⟩)
theorem c_G_testLine {hp : xH} (W : bW G) (d : Nat) (hT : zTy G hp) {k0 : Nat} (H_k0 : bRo G 14 k0) (p1 : Int) (h1l : (-2147483648) ≤ p1) (h1u : p1 ≤ 2147483647) : bC (xcall 89 xfts xpools xms (d + 2)) 334 [yR k0, yI (p1)] hp (fun rv hp' => (rv = none ∧ 0 ≤ p1 ∧ 0 ≤ 0 - p1 + 19) ∧ hp' = hp) (bTh G [] [2] hp) := by
  have A_hp : bAx G [] hp hp := bAx.rf hT
  refine bC.of (M := (xt_X12_testLine, (2, (0, (13, []))))) rfl rfl (N := 27) (yfuel (by decide)) ?_
  show yG 89 xfts (xcall 89 xfts xpools xms (d + 1)) (xpool xp_RX12) [] xt_X12_testLine (bP 0 (fun rv hp' => (rv = none ∧ 0 ≤ p1 ∧ 0 ≤ 0 - p1 + 19) ∧ hp' = hp) (bTh G [] [2] hp)) 27 0 [(0, yR k0), (1, yI (p1))] [] hp
  refine yG.load xak rfl (fun _ _ => rfl) (v := yR k0) rfl rfl ?_
  refine yG.getO A_hp.1 (w_G_net W H_k0) rfl rfl (fun r1 H_r1 O_r1 q_r1 => ?_)
  refine yG.num (c := 2) rfl (fun _ _ => rfl) (by decide) ?_
  refine yG.load xik rfl (fun _ _ => rfl) (v := yI (p1)) rfl rfl ?_
  refine yG.invV (rest := []) A_hp.1 (bOb (d_Net W) H_r1) rfl rfl rfl rfl (c_Net_has_2 W d A_hp.1 H_r1 (p1) (by omega) (by omega)) (fun rv hp9 q9 => ?_)
  obtain ⟨⟨z2, rfl, l_z2, u_z2, R_z2⟩, e9⟩ := q9
  rw [e9]
  show yG _ _ _ _ _ _ _ _ _ _ (yI z2 :: []) _
  refine yG.ifz rfl (t := 23) rfl ⟨by omega, by omega⟩ (fun c3 => ?_) (fun c3 => ?_)
  · have c3 : (z2 : Int) ≠ 0 := c3
    refine yG.ret rfl (fun _ _ => rfl) ?_
    exact .inl (yP.void ⟨⟨rfl, by omega⟩, rfl⟩)
  · have c3 : (z2 : Int) = 0 := c3
    exact yG.newT (P := bP _ _ _) rfl rfl (bP.thr rfl ⟨by decide, hp, A_hp, rfl⟩)
theorem c_G_testMachine {hp : xH} (W : bW G) (d : Nat) (hT : zTy G hp) {k0 : Nat} (H_k0 : bRo G 14 k0) (p1 : Int) (h1l : (-2147483648) ≤ p1) (h1u : p1 ≤ 2147483647) : bC (xcall 89 xfts xpools xms (d + 2)) 335 [yR k0, yI (p1)] hp (fun rv hp' => (rv = none ∧ 0 ≤ p1 ∧ 0 ≤ 0 - p1 + 5) ∧ hp' = hp) (bTh G [] [2] hp) := by
  have A_hp : bAx G [] hp hp := bAx.rf hT
  refine bC.of (M := (xt_X12_testMachine, (2, (0, (13, []))))) rfl rfl (N := 27) (yfuel (by decide)) ?_
  show yG 89 xfts (xcall 89 xfts xpools xms (d + 1)) (xpool xp_RX12) [] xt_X12_testMachine (bP 0 (fun rv hp' => (rv = none ∧ 0 ≤ p1 ∧ 0 ≤ 0 - p1 + 5) ∧ hp' = hp) (bTh G [] [2] hp)) 27 0 [(0, yR k0), (1, yI (p1))] [] hp
  refine yG.load xak rfl (fun _ _ => rfl) (v := yR k0) rfl rfl ?_
  refine yG.getO A_hp.1 (w_G_net W H_k0) rfl rfl (fun r1 H_r1 O_r1 q_r1 => ?_)
  refine yG.num (c := 3) rfl (fun _ _ => rfl) (by decide) ?_
  refine yG.load xik rfl (fun _ _ => rfl) (v := yI (p1)) rfl rfl ?_
  refine yG.invV (rest := []) A_hp.1 (bOb (d_Net W) H_r1) rfl rfl rfl rfl (c_Net_has_3 W d A_hp.1 H_r1 (p1) (by omega) (by omega)) (fun rv hp9 q9 => ?_)
  obtain ⟨⟨z2, rfl, l_z2, u_z2, R_z2⟩, e9⟩ := q9
  rw [e9]
  show yG _ _ _ _ _ _ _ _ _ _ (yI z2 :: []) _
  refine yG.ifz rfl (t := 23) rfl ⟨by omega, by omega⟩ (fun c3 => ?_) (fun c3 => ?_)
  · have c3 : (z2 : Int) ≠ 0 := c3
    refine yG.ret rfl (fun _ _ => rfl) ?_
    exact .inl (yP.void ⟨⟨rfl, by omega⟩, rfl⟩)
  · have c3 : (z2 : Int) = 0 := c3
    exact yG.newT (P := bP _ _ _) rfl rfl (bP.thr rfl ⟨by decide, hp, A_hp, rfl⟩)
theorem c_G_testWithin {hp : xH} (W : bW G) (d : Nat) (hT : zTy G hp) (p0 p1 p2 : Int) (h0l : (-2147483648) ≤ p0) (h0u : p0 ≤ 2147483647) (h1l : (-2147483648) ≤ p1) (h1u : p1 ≤ 2147483647) (h2l : (-2147483648) ≤ p2) (h2u : p2 ≤ 2147483647) : bC (xcall 89 xfts xpools xms (d + 1)) 338 [yI (p0), yI (p1), yI (p2)] hp (fun rv hp' => (rv = none ∧ 0 ≤ p0 - p1 ∧ 0 ≤ 0 - p0 + p2) ∧ hp' = hp) (bTh G [] [0] hp) := by
  have A_hp : bAx G [] hp hp := bAx.rf hT
  refine bC.of (M := (xt_X12_testWithin, (3, (0, (13, []))))) rfl rfl (N := 27) (yfuel (by decide)) ?_
  show yG 89 xfts (xcall 89 xfts xpools xms d) (xpool xp_RX12) [] xt_X12_testWithin (bP 0 (fun rv hp' => (rv = none ∧ 0 ≤ p0 - p1 ∧ 0 ≤ 0 - p0 + p2) ∧ hp' = hp) (bTh G [] [0] hp)) 27 0 [(0, yI (p0)), (1, yI (p1)), (2, yI (p2))] [] hp
  refine yG.load xik rfl (fun _ _ => rfl) (v := yI (p0)) rfl rfl ?_
  refine yG.load xik rfl (fun _ _ => rfl) (v := yI (p1)) rfl rfl ?_
  refine yG.icmp rfl (t := 10) rfl ⟨by omega, by omega⟩ ⟨by omega, by omega⟩ (fun c1 => ?_) (fun c1 => ?_)
  · have c1 : (p0 : Int) < p1 := c1
    exact yG.newT (P := bP _ _ _) rfl rfl (bP.thr rfl ⟨by decide, hp, A_hp, rfl⟩)
  · have c1 : (p0 : Int) ≥ p1 := c1
    refine yG.load xik rfl (fun _ _ => rfl) (v := yI (p0)) rfl rfl ?_
    refine yG.load xik rfl (fun _ _ => rfl) (v := yI (p2)) rfl rfl ?_
    refine yG.icmp rfl (t := 21) rfl ⟨by omega, by omega⟩ ⟨by omega, by omega⟩ (fun c2 => ?_) (fun c2 => ?_)
    · have c2 : (p0 : Int) ≤ p2 := c2
      refine yG.ret rfl (fun _ _ => rfl) ?_
      exact .inl (yP.void ⟨⟨rfl, by omega⟩, rfl⟩)
    · have c2 : (p0 : Int) > p2 := c2
      exact yG.newT (P := bP _ _ _) rfl rfl (bP.thr rfl ⟨by decide, hp, A_hp, rfl⟩)
theorem c_G_testMeter {hp : xH} (W : bW G) (d : Nat) (hT : zTy G hp) {k0 : Nat} (H_k0 : bRo G 14 k0) (p1 : Int) (h1l : (-2147483648) ≤ p1) (h1u : p1 ≤ 2147483647) : bC (xcall 89 xfts xpools xms (d + 1)) 336 [yR k0, yI (p1)] hp (fun rv hp' => (rv = none ∧ 0 ≤ p1 ∧ 0 ≤ 0 - p1 + 31) ∧ hp' = hp) (bTh G [] [2] hp) := by
  have A_hp : bAx G [] hp hp := bAx.rf hT
  refine bC.of (M := (xt_X12_testMeter, (2, (0, (13, []))))) rfl rfl (N := 30) (yfuel (by decide)) ?_
  show yG 89 xfts (xcall 89 xfts xpools xms d) (xpool xp_RX12) [] xt_X12_testMeter (bP 0 (fun rv hp' => (rv = none ∧ 0 ≤ p1 ∧ 0 ≤ 0 - p1 + 31) ∧ hp' = hp) (bTh G [] [2] hp)) 30 0 [(0, yR k0), (1, yI (p1))] [] hp
  refine yG.load xik rfl (fun _ _ => rfl) (v := yI (p1)) rfl rfl ?_
  refine yG.ifz rfl (t := 15) rfl ⟨by omega, by omega⟩ (fun c1 => ?_) (fun c1 => ?_)
  · have c1 : (p1 : Int) < 0 := c1
    exact yG.newT (P := bP _ _ _) rfl rfl (bP.thr rfl ⟨by decide, hp, A_hp, rfl⟩)
  · have c1 : (p1 : Int) ≥ 0 := c1
    refine yG.load xik rfl (fun _ _ => rfl) (v := yI (p1)) rfl rfl ?_
    refine yG.load xak rfl (fun _ _ => rfl) (v := yR k0) rfl rfl ?_
    refine yG.getO A_hp.1 (w_G_meters W H_k0) rfl rfl (fun r2 H_r2 O_r2 q_r2 => ?_)
    refine yG.getI A_hp.1 (w_Meters_count W H_r2) rfl rfl (fun z3 e_z3 i_z3 l_z3 u_z3 => ?_)
    refine yG.icmp rfl (t := 26) rfl ⟨by omega, by omega⟩ ⟨by omega, by omega⟩ (fun c4 => ?_) (fun c4 => ?_)
    · have c4 : (p1 : Int) < z3 := c4
      refine yG.ret rfl (fun _ _ => rfl) ?_
      exact .inl (yP.void ⟨⟨rfl, by omega⟩, rfl⟩)
    · have c4 : (p1 : Int) ≥ z3 := c4
      exact yG.newT (P := bP _ _ _) rfl rfl (bP.thr rfl ⟨by decide, hp, A_hp, rfl⟩)
theorem c_G_testSwitch {hp : xH} (W : bW G) (d : Nat) (hT : zTy G hp) {k0 : Nat} (H_k0 : bRo G 14 k0) (p1 : Int) (h1l : (-2147483648) ≤ p1) (h1u : p1 ≤ 2147483647) : bC (xcall 89 xfts xpools xms (d + 2)) 337 [yR k0, yI (p1)] hp (fun rv hp' => (rv = none ∧ 0 ≤ p1 ∧ 0 ≤ 0 - p1 + 23) ∧ hp' = hp) (bTh G [] [2] hp) := by
  have A_hp : bAx G [] hp hp := bAx.rf hT
  refine bC.of (M := (xt_X12_testSwitch, (2, (0, (13, []))))) rfl rfl (N := 27) (yfuel (by decide)) ?_
  show yG 89 xfts (xcall 89 xfts xpools xms (d + 1)) (xpool xp_RX12) [] xt_X12_testSwitch (bP 0 (fun rv hp' => (rv = none ∧ 0 ≤ p1 ∧ 0 ≤ 0 - p1 + 23) ∧ hp' = hp) (bTh G [] [2] hp)) 27 0 [(0, yR k0), (1, yI (p1))] [] hp
  refine yG.load xak rfl (fun _ _ => rfl) (v := yR k0) rfl rfl ?_
  refine yG.getO A_hp.1 (w_G_net W H_k0) rfl rfl (fun r1 H_r1 O_r1 q_r1 => ?_)
  refine yG.num (c := 1) rfl (fun _ _ => rfl) (by decide) ?_
  refine yG.load xik rfl (fun _ _ => rfl) (v := yI (p1)) rfl rfl ?_
  refine yG.invV (rest := []) A_hp.1 (bOb (d_Net W) H_r1) rfl rfl rfl rfl (c_Net_has_1 W d A_hp.1 H_r1 (p1) (by omega) (by omega)) (fun rv hp9 q9 => ?_)
  obtain ⟨⟨z2, rfl, l_z2, u_z2, R_z2⟩, e9⟩ := q9
  rw [e9]
  show yG _ _ _ _ _ _ _ _ _ _ (yI z2 :: []) _
  refine yG.ifz rfl (t := 23) rfl ⟨by omega, by omega⟩ (fun c3 => ?_) (fun c3 => ?_)
  · have c3 : (z2 : Int) ≠ 0 := c3
    refine yG.ret rfl (fun _ _ => rfl) ?_
    exact .inl (yP.void ⟨⟨rfl, by omega⟩, rfl⟩)
  · have c3 : (z2 : Int) = 0 := c3
    exact yG.newT (P := bP _ _ _) rfl rfl (bP.thr rfl ⟨by decide, hp, A_hp, rfl⟩)
theorem c_G_testDispatch {hp : xH} (W : bW G) (d : Nat) (hT : zTy G hp) {k0 : Nat} (H_k0 : bRo G 14 k0) : bC (xcall 89 xfts xpools xms (d + 1)) 333 [yR k0] hp (fun rv hp' => (rv = none ∧ True) ∧ hp' = hp) (bTh G [] [1] hp) := by
  have A_hp : bAx G [] hp hp := bAx.rf hT
  refine bC.of (M := (xt_X12_testDispatch, (1, (0, (13, []))))) rfl rfl (N := 21) (yfuel (by decide)) ?_
  show yG 89 xfts (xcall 89 xfts xpools xms d) (xpool xp_RX12) [] xt_X12_testDispatch (bP 0 (fun rv hp' => (rv = none ∧ True) ∧ hp' = hp) (bTh G [] [1] hp)) 21 0 [(0, yR k0)] [] hp
  refine yG.load xak rfl (fun _ _ => rfl) (v := yR k0) rfl rfl ?_
  refine yG.getO A_hp.1 (w_G_dispatch W H_k0) rfl rfl (fun r1 H_r1 O_r1 q_r1 => ?_)
  refine yG.getI A_hp.1 (w_Dispatch_found W H_r1) rfl rfl (fun z2 e_z2 i_z2 l_z2 u_z2 => ?_)
  refine yG.ifz rfl (t := 21) rfl ⟨by omega, by omega⟩ (fun c3 => ?_) (fun c3 => ?_)
  · have c3 : (z2 : Int) ≠ 0 := c3
    refine yG.ret rfl (fun _ _ => rfl) ?_
    exact .inl (yP.void ⟨⟨rfl, trivial⟩, rfl⟩)
  · have c3 : (z2 : Int) = 0 := c3
    exact yG.newT (P := bP _ _ _) rfl rfl (bP.thr rfl ⟨by decide, hp, A_hp, rfl⟩)
theorem c_G_estimated {hp : xH} (W : bW G) (d : Nat) (hT : zTy G hp) (M_bMk : bMk G hp) {k0 : Nat} (H_k0 : bRo G 14 k0) : yC (xcall 89 xfts xpools xms (d + 7)) 296 [yR k0] hp (bQr G [(34359738368, 1), (1133871366144, 2), (1099511627776, 3), (1099511627776, 6), (1099511627776, 7), (1099511627776, 8), (4613937818241073152, 9), (2251799813685248, 10), (2269391999729664, 11), (17592186044416, 12), (17592186044416, 13), (17592186060800, 14), (17592186044416, 15), (29221872437798941753344, 256)] hp 62) := by
  have A_hp : bAx G [(34359738368, 1), (1133871366144, 2), (1099511627776, 3), (1099511627776, 6), (1099511627776, 7), (1099511627776, 8), (4613937818241073152, 9), (2251799813685248, 10), (2269391999729664, 11), (17592186044416, 12), (17592186044416, 13), (17592186060800, 14), (17592186044416, 15), (29221872437798941753344, 256)] hp hp := bAx.rf hT
  refine yC.of (M := (xt_X12_estimated, (1, (3, (13, []))))) rfl rfl (N := 33) (yfuel (by decide)) ?_
  show yG 89 xfts (xcall 89 xfts xpools xms (d + 6)) (xpool xp_RX12) [] xt_X12_estimated (yP 3 (bQr G [(34359738368, 1), (1133871366144, 2), (1099511627776, 3), (1099511627776, 6), (1099511627776, 7), (1099511627776, 8), (4613937818241073152, 9), (2251799813685248, 10), (2269391999729664, 11), (17592186044416, 12), (17592186044416, 13), (17592186060800, 14), (17592186044416, 15), (29221872437798941753344, 256)] hp 62)) 33 0 [(0, yR k0)] [] hp
  refine yG.load xak rfl (fun _ _ => rfl) (v := yR k0) rfl rfl ?_
  refine yG.invV (rest := []) A_hp.1 (bOb (d_G W) H_k0) rfl rfl rfl rfl (c_G_now W (d + 1) A_hp.1 H_k0) (fun rv h1 q9 => ?_)
  obtain ⟨⟨r2, rfl, H_r2⟩, B_h1⟩ := q9
  have A_h1 := A_hp.tr B_h1 (by decide)
  show yG _ _ _ _ _ _ _ _ _ _ (yR r2 :: []) _
  refine yG.step (pc' := 5) (stk' := []) rfl (fun _ _ => rfl) ?_
  refine yG.load xak rfl (fun _ _ => rfl) (v := yR k0) rfl rfl ?_
  refine yG.getO A_h1.1 (w_G_meters W H_k0) rfl rfl (fun r3 H_r3 O_r3 q_r3 => ?_)
  refine yG.invV (rest := []) A_h1.1 (bOb (d_Meters W) H_r3) rfl rfl rfl rfl (c_Meters_solve W d A_h1.1 (M_bMk.fr A_h1 (by decide)) H_r3) (fun rv h4 q9 => ?_)
  obtain ⟨⟨rfl, R_z5⟩, B_h4⟩ := q9
  have A_h4 := A_h1.tr B_h4 (by decide)
  have qq1 : zsl h4 k0 9 = yR r3 := (B_h4.sl H_k0 (by decide)).trans q_r3
  show yG _ _ _ _ _ _ _ _ _ _ [] _
  refine yG.load xak rfl (fun _ _ => rfl) (v := yR k0) rfl rfl ?_
  refine yG.getS9 A_h4.1 (w_G_meters W H_k0) qq1 rfl rfl ?_
  refine yG.ret rfl (fun _ _ => rfl) ?_
  exact (yP.ref ⟨⟨r3, rfl, H_r3⟩, A_h4⟩)
theorem c_G_shorted {hp : xH} (W : bW G) (d : Nat) (hT : zTy G hp) (M_bSh : bSh G hp) {k0 : Nat} (H_k0 : bRo G 14 k0) : yC (xcall 89 xfts xpools xms (d + 7)) 329 [yR k0] hp (bQr G [(34359738368, 1), (1133871366144, 2), (1099511627776, 3), (37778931862957161709568, 4), (37778931862957161709568, 5), (37778931864056673337344, 6), (37778931864056673337344, 7), (37778931864056673337344, 8), (2251799813685248, 9), (2251799813685248, 10), (2269391999729664, 11), (17592186044416, 12), (17592186044416, 13), (17592186060800, 14), (17592186044416, 15), (75560093550957335412736, 256)] hp 75) := by
  have A_hp : bAx G [(34359738368, 1), (1133871366144, 2), (1099511627776, 3), (37778931862957161709568, 4), (37778931862957161709568, 5), (37778931864056673337344, 6), (37778931864056673337344, 7), (37778931864056673337344, 8), (2251799813685248, 9), (2251799813685248, 10), (2269391999729664, 11), (17592186044416, 12), (17592186044416, 13), (17592186060800, 14), (17592186044416, 15), (75560093550957335412736, 256)] hp hp := bAx.rf hT
  refine yC.of (M := (xt_X12_shorted, (1, (3, (13, []))))) rfl rfl (N := 33) (yfuel (by decide)) ?_
  show yG 89 xfts (xcall 89 xfts xpools xms (d + 6)) (xpool xp_RX12) [] xt_X12_shorted (yP 3 (bQr G [(34359738368, 1), (1133871366144, 2), (1099511627776, 3), (37778931862957161709568, 4), (37778931862957161709568, 5), (37778931864056673337344, 6), (37778931864056673337344, 7), (37778931864056673337344, 8), (2251799813685248, 9), (2251799813685248, 10), (2269391999729664, 11), (17592186044416, 12), (17592186044416, 13), (17592186060800, 14), (17592186044416, 15), (75560093550957335412736, 256)] hp 75)) 33 0 [(0, yR k0)] [] hp
  refine yG.load xak rfl (fun _ _ => rfl) (v := yR k0) rfl rfl ?_
  refine yG.invV (rest := []) A_hp.1 (bOb (d_G W) H_k0) rfl rfl rfl rfl (c_G_now W (d + 1) A_hp.1 H_k0) (fun rv h1 q9 => ?_)
  obtain ⟨⟨r2, rfl, H_r2⟩, B_h1⟩ := q9
  have A_h1 := A_hp.tr B_h1 (by decide)
  show yG _ _ _ _ _ _ _ _ _ _ (yR r2 :: []) _
  refine yG.step (pc' := 5) (stk' := []) rfl (fun _ _ => rfl) ?_
  refine yG.load xak rfl (fun _ _ => rfl) (v := yR k0) rfl rfl ?_
  refine yG.getO A_h1.1 (w_G_shorts W H_k0) rfl rfl (fun r3 H_r3 O_r3 q_r3 => ?_)
  obtain ⟨r4, H_r4, q_r4⟩ := bFdO (w_Shorts_net W H_r3) A_h1.1
  refine yG.invV (rest := []) A_h1.1 (bOb (d_Shorts W) H_r3) rfl rfl rfl rfl (c_Shorts_solve W d A_h1.1 (M_bSh.fr A_h1 (by decide)) H_r3 H_r4 q_r4) (fun rv h5 q9 => ?_)
  obtain ⟨⟨rfl, R_z6⟩, B_h5⟩ := q9
  have A_h5 := A_h1.tr B_h5 (by decide)
  have qq1 : zsl h5 k0 10 = yR r3 := (B_h5.sl H_k0 (by decide)).trans q_r3
  show yG _ _ _ _ _ _ _ _ _ _ [] _
  refine yG.load xak rfl (fun _ _ => rfl) (v := yR k0) rfl rfl ?_
  refine yG.getS9 A_h5.1 (w_G_shorts W H_k0) qq1 rfl rfl ?_
  refine yG.ret rfl (fun _ _ => rfl) ?_
  exact (yP.ref ⟨⟨r3, rfl, H_r3⟩, A_h5⟩)
theorem c_G_maybeLive {hp : xH} (W : bW G) (d : Nat) (hT : zTy G hp) (M_bSh : bSh G hp) {k0 : Nat} (H_k0 : bRo G 14 k0) (p1 : Int) (h1l : 0 ≤ p1) (h1u : p1 ≤ 15) : yC (xcall 89 xfts xpools xms (d + 4)) 307 [yR k0, yI (p1)] hp (fun rv hp' => (bQi G [(262144, 3), (262144, 4), (262144, 5), (262144, 6), (262144, 7), (2251799813685248, 9), (2251799813685248, 10), (2251799813685248, 11), (2211267421330210816, 256)] hp 0 1 (fun _ => True)) rv hp' ∧ bSh G hp') := by
  have A_hp : bAx G [(262144, 3), (262144, 4), (262144, 5), (262144, 6), (262144, 7), (2251799813685248, 9), (2251799813685248, 10), (2251799813685248, 11), (2211267421330210816, 256)] hp hp := bAx.rf hT
  have M_bSh_hp := M_bSh
  refine yC.of (M := (xt_X12_maybeLive, (3, (4, (13, []))))) rfl rfl (N := 72) (yfuel (by decide)) ?_
  show yG 89 xfts (xcall 89 xfts xpools xms (d + 3)) (xpool xp_RX12) [] xt_X12_maybeLive (yP 4 (fun rv hp' => (bQi G [(262144, 3), (262144, 4), (262144, 5), (262144, 6), (262144, 7), (2251799813685248, 9), (2251799813685248, 10), (2251799813685248, 11), (2211267421330210816, 256)] hp 0 1 (fun _ => True)) rv hp' ∧ bSh G hp')) 72 0 [(0, yR k0), (1, yI (p1))] [] hp
  refine yG.load xak rfl (fun _ _ => rfl) (v := yR k0) rfl rfl ?_
  refine yG.getO A_hp.1 (w_G_stages W H_k0) rfl rfl (fun r1 H_r1 O_r1 q_r1 => ?_)
  refine yG.num (c := 0) rfl (fun _ _ => rfl) (by decide) ?_
  refine yG.aaldO (r := 115) A_hp.1 (v_Rules_stages W H_r1) rfl rfl rfl (by omega) (by omega) (fun r2 H_r2 q_r2 => ?_)
  refine yG.getO A_hp.1 (w_FlowS_shape W H_r2) rfl rfl (fun r3 H_r3 O_r3 q_r3 => ?_)
  refine yG.store1 xak (L' := [(2, yR r3), (0, yR k0), (1, yI (p1))]) rfl (fun _ _ => rfl) rfl rfl ?_
  refine yG.load xak rfl (fun _ _ => rfl) (v := yR r3) rfl rfl ?_
  refine yG.getO A_hp.1 (w_Shape_net W H_r3) rfl rfl (fun r4 H_r4 O_r4 q_r4 => ?_)
  refine yG.load xak rfl (fun _ _ => rfl) (v := yR k0) rfl rfl ?_
  refine yG.getO A_hp.1 (w_G_net W H_k0) rfl rfl (fun r5 H_r5 O_r5 q_r5 => ?_)
  refine yG.invV (rest := []) A_hp.1 (bOb (d_Net W) H_r4) rfl rfl rfl rfl (c_Net_copy W (d + 1) A_hp.1 M_bSh_hp H_r4 H_r5) (fun rv h6 q9 => ?_)
  obtain ⟨q9, M_bSh_h6⟩ := q9
  obtain ⟨⟨rfl, R_z7⟩, B_h6⟩ := q9
  have A_h6 := A_hp.tr B_h6 (by decide)
  show yG _ _ _ _ _ _ _ _ _ _ [] _
  refine yG.load xak rfl (fun _ _ => rfl) (v := yR r3) rfl rfl ?_
  refine yG.num (c := 1) rfl (fun _ _ => rfl) (by decide) ?_
  refine yG.invV (rest := []) A_h6.1 (bOb (d_Shape W) H_r3) rfl rfl rfl rfl (c_Shape_look W d A_h6.1 H_r3 (1) (by omega) (by omega)) (fun rv h8 q9 => ?_)
  obtain ⟨⟨rfl, R_z9⟩, B_h8⟩ := q9
  have A_h8 := A_h6.tr B_h8 (by decide)
  have M_bSh_h8 := M_bSh_h6.fr B_h8 (by decide)
  show yG _ _ _ _ _ _ _ _ _ _ [] _
  refine yG.load xak rfl (fun _ _ => rfl) (v := yR r3) rfl rfl ?_
  refine yG.getO A_h8.1 (w_Shape_live W H_r3) rfl rfl (fun r10 H_r10 O_r10 q_r10 => ?_)
  refine yG.load xak rfl (fun _ _ => rfl) (v := yR r3) rfl rfl ?_
  refine yG.getO A_h8.1 (w_Shape_island W H_r3) rfl rfl (fun r11 H_r11 O_r11 q_r11 => ?_)
  refine yG.load xik rfl (fun _ _ => rfl) (v := yI (p1)) rfl rfl ?_
  refine yG.ialdF A_h8.1 (v_Shape_island W H_r11) rfl rfl (by omega) (by omega) (fun z12 e_z12 i_z12 l_z12 u_z12 => ?_)
  refine yG.bald A_h8.1 (v_Shape_live W H_r10) rfl (by omega) (by omega) (fun z13 e_z13 i_z13 l_z13 u_z13 => ?_)
  refine yG.ret rfl (fun _ _ => rfl) ?_
  exact (yP.bool (by omega) ⟨⟨⟨z13, rfl, by omega, by omega, trivial⟩, A_h8⟩, M_bSh_h8⟩)
theorem c_G_feed {hp : xH} (W : bW G) (d : Nat) (hT : zTy G hp) {k0 : Nat} (H_k0 : bRo G 14 k0) (p1 p2 p3 p4 p5 : Int) (h1l : (-2147483648) ≤ p1) (h1u : p1 ≤ 2147483647) (h2l : (-2147483648) ≤ p2) (h2u : p2 ≤ 2147483647) (h3l : (-2147483648) ≤ p3) (h3u : p3 ≤ 2147483647) (h4l : (-2147483648) ≤ p4) (h4u : p4 ≤ 2147483647) (h5l : (-2147483648) ≤ p5) (h5u : p5 ≤ 2147483647) : bC (xcall 89 xfts xpools xms (d + 2)) 298 [yR k0, yI (p1), yI (p2), yI (p3), yI (p4), yI (p5)] hp (bQi G [(32768, 4), (65536, 256)] hp 0 4000 (fun _ => True)) (bTh G [(32768, 4), (65536, 256)] [1] hp) := by
  have A_hp : bAx G [(32768, 4), (65536, 256)] hp hp := bAx.rf hT
  refine bC.of (M := (xt_X12_feed, (6, (1, (13, []))))) rfl rfl (N := 93) (yfuel (by decide)) ?_
  show yG 89 xfts (xcall 89 xfts xpools xms (d + 1)) (xpool xp_RX12) [] xt_X12_feed (bP 1 (bQi G [(32768, 4), (65536, 256)] hp 0 4000 (fun _ => True)) (bTh G [(32768, 4), (65536, 256)] [1] hp)) 93 0 [(0, yR k0), (1, yI (p1)), (2, yI (p2)), (3, yI (p3)), (4, yI (p4)), (5, yI (p5))] [] hp
  refine yG.load xak rfl (fun _ _ => rfl) (v := yR k0) rfl rfl ?_
  refine yG.getO A_hp.1 (w_G_tape W H_k0) rfl rfl (fun r1 H_r1 O_r1 q_r1 => ?_)
  refine yG.getI A_hp.1 (w_Tape_length W H_r1) rfl rfl (fun z2 e_z2 i_z2 l_z2 u_z2 => ?_)
  refine yG.num (c := 3980) rfl (fun _ _ => rfl) (by decide) ?_
  refine yG.icmp rfl (t := 23) rfl ⟨by omega, by omega⟩ ⟨by omega, by omega⟩ (fun c3 => ?_) (fun c3 => ?_)
  · have c3 : (z2 : Int) ≤ 3980 := c3
    refine yG.load xak rfl (fun _ _ => rfl) (v := yR k0) rfl rfl ?_
    refine yG.getS9 A_hp.1 (w_G_tape W H_k0) q_r1 rfl rfl ?_
    refine yG.load xik rfl (fun _ _ => rfl) (v := yI (p1)) rfl rfl ?_
    refine yG.invV (rest := []) A_hp.1 (bOb (d_Tape W) H_r1) rfl rfl rfl rfl (c_Tape_write W d A_hp.1 H_r1 (p1) (by omega) (by omega)) (fun rv h4 q9 => ?_)
    obtain ⟨⟨rfl, R_z5⟩, B_h4⟩ := q9
    have A_h4 := A_hp.tr B_h4 (by decide)
    have qq1 : zsl h4 k0 0 = yR r1 := (B_h4.sl H_k0 (by decide)).trans q_r1
    show yG _ _ _ _ _ _ _ _ _ _ [] _
    refine yG.load xak rfl (fun _ _ => rfl) (v := yR k0) rfl rfl ?_
    refine yG.getS9 A_h4.1 (w_G_tape W H_k0) qq1 rfl rfl ?_
    refine yG.load xik rfl (fun _ _ => rfl) (v := yI (p2)) rfl rfl ?_
    refine yG.invV (rest := []) A_h4.1 (bOb (d_Tape W) H_r1) rfl rfl rfl rfl (c_Tape_write W d A_h4.1 H_r1 (p2) (by omega) (by omega)) (fun rv h6 q9 => ?_)
    obtain ⟨⟨rfl, R_z7⟩, B_h6⟩ := q9
    have A_h6 := A_h4.tr B_h6 (by decide)
    have qq2 : zsl h6 k0 0 = yR r1 := (B_h6.sl H_k0 (by decide)).trans qq1
    show yG _ _ _ _ _ _ _ _ _ _ [] _
    refine yG.load xak rfl (fun _ _ => rfl) (v := yR k0) rfl rfl ?_
    refine yG.getS9 A_h6.1 (w_G_tape W H_k0) qq2 rfl rfl ?_
    refine yG.load xik rfl (fun _ _ => rfl) (v := yI (p3)) rfl rfl ?_
    refine yG.invV (rest := []) A_h6.1 (bOb (d_Tape W) H_r1) rfl rfl rfl rfl (c_Tape_write W d A_h6.1 H_r1 (p3) (by omega) (by omega)) (fun rv h8 q9 => ?_)
    obtain ⟨⟨rfl, R_z9⟩, B_h8⟩ := q9
    have A_h8 := A_h6.tr B_h8 (by decide)
    have qq3 : zsl h8 k0 0 = yR r1 := (B_h8.sl H_k0 (by decide)).trans qq2
    show yG _ _ _ _ _ _ _ _ _ _ [] _
    refine yG.load xak rfl (fun _ _ => rfl) (v := yR k0) rfl rfl ?_
    refine yG.getS9 A_h8.1 (w_G_tape W H_k0) qq3 rfl rfl ?_
    refine yG.load xik rfl (fun _ _ => rfl) (v := yI (p4)) rfl rfl ?_
    refine yG.invV (rest := []) A_h8.1 (bOb (d_Tape W) H_r1) rfl rfl rfl rfl (c_Tape_write W d A_h8.1 H_r1 (p4) (by omega) (by omega)) (fun rv h10 q9 => ?_)
    obtain ⟨⟨rfl, R_z11⟩, B_h10⟩ := q9
    have A_h10 := A_h8.tr B_h10 (by decide)
    have qq4 : zsl h10 k0 0 = yR r1 := (B_h10.sl H_k0 (by decide)).trans qq3
    show yG _ _ _ _ _ _ _ _ _ _ [] _
    refine yG.load xak rfl (fun _ _ => rfl) (v := yR k0) rfl rfl ?_
    refine yG.getS9 A_h10.1 (w_G_tape W H_k0) qq4 rfl rfl ?_
    refine yG.load xik rfl (fun _ _ => rfl) (v := yI (p5)) rfl rfl ?_
    refine yG.invV (rest := []) A_h10.1 (bOb (d_Tape W) H_r1) rfl rfl rfl rfl (c_Tape_write W d A_h10.1 H_r1 (p5) (by omega) (by omega)) (fun rv h12 q9 => ?_)
    obtain ⟨⟨rfl, R_z13⟩, B_h12⟩ := q9
    have A_h12 := A_h10.tr B_h12 (by decide)
    have qq5 : zsl h12 k0 0 = yR r1 := (B_h12.sl H_k0 (by decide)).trans qq4
    show yG _ _ _ _ _ _ _ _ _ _ [] _
    refine yG.load xak rfl (fun _ _ => rfl) (v := yR k0) rfl rfl ?_
    refine yG.getS9 A_h12.1 (w_G_tape W H_k0) qq5 rfl rfl ?_
    refine yG.getI A_h12.1 (w_Tape_length W H_r1) rfl rfl (fun z14 e_z14 i_z14 l_z14 u_z14 => ?_)
    refine yG.ret rfl (fun _ _ => rfl) ?_
    exact .inl (yP.int ⟨by omega, by omega⟩ ⟨⟨z14, rfl, by omega, by omega, trivial⟩, A_h12⟩)
  · have c3 : (z2 : Int) > 3980 := c3
    exact yG.newT (P := bP _ _ _) rfl rfl (bP.thr rfl ⟨by decide, hp, A_hp, rfl⟩)
theorem c_G_end {hp : xH} (W : bW G) (d : Nat) (hT : zTy G hp) {k0 : Nat} (H_k0 : bRo G 14 k0) (p1 : Int) (h1l : (-2147483648) ≤ p1) (h1u : p1 ≤ 2147483647) : bC (xcall 89 xfts xpools xms (d + 1)) 294 [yR k0, yI (p1)] hp (fun rv hp' => (rv = none ∧ 0 ≤ p1 ∧ 0 ≤ 0 - p1 + 4000) ∧ bAx G [(32768, 4)] hp hp') (bTh G [(32768, 4)] [0] hp) := by
  have A_hp : bAx G [(32768, 4)] hp hp := bAx.rf hT
  refine bC.of (M := (xt_X12_end, (2, (0, (13, []))))) rfl rfl (N := 42) (yfuel (by decide)) ?_
  show yG 89 xfts (xcall 89 xfts xpools xms d) (xpool xp_RX12) [] xt_X12_end (bP 0 (fun rv hp' => (rv = none ∧ 0 ≤ p1 ∧ 0 ≤ 0 - p1 + 4000) ∧ bAx G [(32768, 4)] hp hp') (bTh G [(32768, 4)] [0] hp)) 42 0 [(0, yR k0), (1, yI (p1))] [] hp
  refine yG.load xik rfl (fun _ _ => rfl) (v := yI (p1)) rfl rfl ?_
  refine yG.ifz rfl (t := 15) rfl ⟨by omega, by omega⟩ (fun c1 => ?_) (fun c1 => ?_)
  · have c1 : (p1 : Int) < 0 := c1
    exact yG.newT (P := bP _ _ _) rfl rfl (bP.thr rfl ⟨by decide, hp, A_hp, rfl⟩)
  · have c1 : (p1 : Int) ≥ 0 := c1
    refine yG.load xik rfl (fun _ _ => rfl) (v := yI (p1)) rfl rfl ?_
    refine yG.load xak rfl (fun _ _ => rfl) (v := yR k0) rfl rfl ?_
    refine yG.getO A_hp.1 (w_G_tape W H_k0) rfl rfl (fun r2 H_r2 O_r2 q_r2 => ?_)
    refine yG.getI A_hp.1 (w_Tape_length W H_r2) rfl rfl (fun z3 e_z3 i_z3 l_z3 u_z3 => ?_)
    refine yG.icmp rfl (t := 25) rfl ⟨by omega, by omega⟩ ⟨by omega, by omega⟩ (fun c4 => ?_) (fun c4 => ?_)
    · have c4 : (p1 : Int) ≤ z3 := c4
      refine yG.load xak rfl (fun _ _ => rfl) (v := yR k0) rfl rfl ?_
      refine yG.getS9 A_hp.1 (w_G_tape W H_k0) q_r2 rfl rfl ?_
      refine yG.load xik rfl (fun _ _ => rfl) (v := yI (p1)) rfl rfl ?_
      refine yG.putI A_hp.1 (w_Tape_length W H_r2) (W.2.1 _ _ H_r2 (by decide) (by decide)) rfl rfl (.inl rfl) ⟨by omega, by omega⟩ (by omega) (by omega) (fun h5 T_h5 b_h5 f_h5 y_h5 => ?_)
      have A_h5 := A_hp.put T_h5 b_h5 f_h5 H_r2 (by decide)
      have qq1 : zsl h5 k0 0 = yR r2 := ((f_h5 k0 0).trans (if_neg (fun e => (bRo.ne H_k0 H_r2 (by decide)) e.1))).trans q_r2
      refine yG.ret rfl (fun _ _ => rfl) ?_
      exact .inl (yP.void ⟨⟨rfl, by omega⟩, A_h5⟩)
    · have c4 : (p1 : Int) > z3 := c4
      exact yG.newT (P := bP _ _ _) rfl rfl (bP.thr rfl ⟨by decide, hp, A_hp, rfl⟩)
theorem c_G_find {hp : xH} (W : bW G) (d : Nat) (hT : zTy G hp) {k0 : Nat} (H_k0 : bRo G 14 k0) : yC (xcall 89 xfts xpools xms (d + 2)) 301 [yR k0] hp (bQi G [(32768, 4)] hp (-1) 411 (fun _ => True)) := by
  have A_hp : bAx G [(32768, 4)] hp hp := bAx.rf hT
  refine yC.of (M := (xt_X12_find, (2, (1, (13, []))))) rfl rfl (N := 45) (yfuel (by decide)) ?_
  show yG 89 xfts (xcall 89 xfts xpools xms (d + 1)) (xpool xp_RX12) [] xt_X12_find (yP 1 (bQi G [(32768, 4)] hp (-1) 411 (fun _ => True))) 45 0 [(0, yR k0)] [] hp
  refine yG.load xak rfl (fun _ _ => rfl) (v := yR k0) rfl rfl ?_
  refine yG.getO A_hp.1 (w_G_net W H_k0) rfl rfl (fun r1 H_r1 O_r1 q_r1 => ?_)
  refine yG.load xak rfl (fun _ _ => rfl) (v := yR k0) rfl rfl ?_
  refine yG.getO A_hp.1 (w_G_tape W H_k0) rfl rfl (fun r2 H_r2 O_r2 q_r2 => ?_)
  refine yG.invV (rest := [yR r1]) A_hp.1 (bOb (d_Tape W) H_r2) rfl rfl rfl rfl (c_Tape_whole W d A_hp.1 H_r2) (fun rv hp9 q9 => ?_)
  obtain ⟨⟨z3, rfl, l_z3, u_z3, R_z3⟩, e9⟩ := q9
  rw [e9]
  show yG _ _ _ _ _ _ _ _ _ _ (yJ z3 :: [yR r1]) _
  refine yG.invV (rest := []) A_hp.1 (bOb (d_Net W) H_r1) rfl rfl rfl rfl (c_Net_named W d A_hp.1 H_r1 (z3) (by omega) (by omega)) (fun rv hp9 q9 => ?_)
  obtain ⟨⟨z4, rfl, l_z4, u_z4, R_z4⟩, e9⟩ := q9
  rw [e9]
  show yG _ _ _ _ _ _ _ _ _ _ (yI z4 :: []) _
  refine yG.store1 xik (L' := [(1, yI (z4)), (0, yR k0)]) rfl (fun _ _ => rfl) rfl rfl ?_
  refine yG.load xak rfl (fun _ _ => rfl) (v := yR k0) rfl rfl ?_
  refine yG.getS9 A_hp.1 (w_G_tape W H_k0) q_r2 rfl rfl ?_
  refine yG.num (c := 0) rfl (fun _ _ => rfl) (by decide) ?_
  refine yG.putI A_hp.1 (w_Tape_length W H_r2) (W.2.1 _ _ H_r2 (by decide) (by decide)) rfl rfl (.inl rfl) ⟨by omega, by omega⟩ (by omega) (by omega) (fun h5 T_h5 b_h5 f_h5 y_h5 => ?_)
  have A_h5 := A_hp.put T_h5 b_h5 f_h5 H_r2 (by decide)
  have qq1 : zsl h5 k0 0 = yR r2 := ((f_h5 k0 0).trans (if_neg (fun e => (bRo.ne H_k0 H_r2 (by decide)) e.1))).trans q_r2
  refine yG.load xik rfl (fun _ _ => rfl) (v := yI (z4)) rfl rfl ?_
  refine yG.ret rfl (fun _ _ => rfl) ?_
  exact (yP.int ⟨by omega, by omega⟩ ⟨⟨z4, rfl, by omega, by omega, trivial⟩, A_h5⟩)
theorem c_G_countTold {hp : xH} (W : bW G) (d : Nat) (hT : zTy G hp) {k0 : Nat} (H_k0 : bRo G 14 k0) (p1 : Int) (h1l : 5 ≤ p1) (h1u : p1 ≤ 9) : yC (xcall 89 xfts xpools xms (d + 1)) 291 [yR k0, yI (p1)] hp (bQpi hp (-2147483648) 2147483647 (fun z => 0 ≤ 0 - p1 + z + 2147483655 ∧ 0 ≤ p1 - z + 2147483640)) := by
  have A_hp : bAx G [] hp hp := bAx.rf hT
  refine yC.of (M := (xt_X12_countTold, (2, (1, (13, []))))) rfl rfl (N := 24) (yfuel (by decide)) ?_
  show yG 89 xfts (xcall 89 xfts xpools xms d) (xpool xp_RX12) [] xt_X12_countTold (yP 1 (bQpi hp (-2147483648) 2147483647 (fun z => 0 ≤ 0 - p1 + z + 2147483655 ∧ 0 ≤ p1 - z + 2147483640))) 24 0 [(0, yR k0), (1, yI (p1))] [] hp
  refine yG.load xik rfl (fun _ _ => rfl) (v := yI (p1)) rfl rfl ?_
  rcases (show (p1 < (5 : Int) ∨ (8 : Int) < p1) ∨ p1 = (5 : Int) ∨ p1 = (6 : Int) ∨ p1 = (7 : Int) ∨ p1 = (8 : Int) by omega) with c1 | c1 | c1 | c1 | c1
  · skip
    refine yG.tswD (t := 64) rfl ⟨by omega, by omega⟩ c1 rfl ?_
    refine yG.load xak rfl (fun _ _ => rfl) (v := yR k0) rfl rfl ?_
    refine yG.getO A_hp.1 (w_G_tape W H_k0) rfl rfl (fun r2 H_r2 O_r2 q_r2 => ?_)
    refine yG.getI A_hp.1 (w_Tape_length W H_r2) rfl rfl (fun z3 e_z3 i_z3 l_z3 u_z3 => ?_)
    refine yG.ret rfl (fun _ _ => rfl) ?_
    exact (yP.int ⟨by omega, by omega⟩ ⟨⟨z3, rfl, by omega, by omega, by omega⟩, rfl⟩)
  · skip
    refine yG.tswC (i := 0) (t := 32) rfl ⟨by omega, by omega⟩ (by omega) (by omega) rfl rfl ?_
    refine yG.load xak rfl (fun _ _ => rfl) (v := yR k0) rfl rfl ?_
    refine yG.getO A_hp.1 (w_G_meters W H_k0) rfl rfl (fun r4 H_r4 O_r4 q_r4 => ?_)
    refine yG.getI A_hp.1 (w_Meters_count W H_r4) rfl rfl (fun z5 e_z5 i_z5 l_z5 u_z5 => ?_)
    refine yG.ret rfl (fun _ _ => rfl) ?_
    exact (yP.int ⟨by omega, by omega⟩ ⟨⟨z5, rfl, by omega, by omega, by omega⟩, rfl⟩)
  · skip
    refine yG.tswC (i := 1) (t := 40) rfl ⟨by omega, by omega⟩ (by omega) (by omega) rfl rfl ?_
    refine yG.load xak rfl (fun _ _ => rfl) (v := yR k0) rfl rfl ?_
    refine yG.getO A_hp.1 (w_G_relays W H_k0) rfl rfl (fun r6 H_r6 O_r6 q_r6 => ?_)
    refine yG.getI A_hp.1 (w_Relays_count W H_r6) rfl rfl (fun z7 e_z7 i_z7 l_z7 u_z7 => ?_)
    refine yG.ret rfl (fun _ _ => rfl) ?_
    exact (yP.int ⟨by omega, by omega⟩ ⟨⟨z7, rfl, by omega, by omega, by omega⟩, rfl⟩)
  · skip
    refine yG.tswC (i := 2) (t := 48) rfl ⟨by omega, by omega⟩ (by omega) (by omega) rfl rfl ?_
    refine yG.load xak rfl (fun _ _ => rfl) (v := yR k0) rfl rfl ?_
    refine yG.getO A_hp.1 (w_G_rules W H_k0) rfl rfl (fun r8 H_r8 O_r8 q_r8 => ?_)
    refine yG.getI A_hp.1 (w_Rules_count W H_r8) rfl rfl (fun z9 e_z9 i_z9 l_z9 u_z9 => ?_)
    refine yG.ret rfl (fun _ _ => rfl) ?_
    exact (yP.int ⟨by omega, by omega⟩ ⟨⟨z9, rfl, by omega, by omega, by omega⟩, rfl⟩)
  · skip
    refine yG.tswC (i := 3) (t := 56) rfl ⟨by omega, by omega⟩ (by omega) (by omega) rfl rfl ?_
    refine yG.load xak rfl (fun _ _ => rfl) (v := yR k0) rfl rfl ?_
    refine yG.getO A_hp.1 (w_G_rules W H_k0) rfl rfl (fun r10 H_r10 O_r10 q_r10 => ?_)
    refine yG.getI A_hp.1 (w_Rules_stepCount W H_r10) rfl rfl (fun z11 e_z11 i_z11 l_z11 u_z11 => ?_)
    refine yG.ret rfl (fun _ _ => rfl) ?_
    exact (yP.int ⟨by omega, by omega⟩ ⟨⟨z11, rfl, by omega, by omega, by omega⟩, rfl⟩)
theorem c_G_countFound {hp : xH} (W : bW G) (d : Nat) (hT : zTy G hp) {k0 : Nat} (H_k0 : bRo G 14 k0) (p1 : Int) (h1l : 10 ≤ p1) (h1u : p1 ≤ 15) : yC (xcall 89 xfts xpools xms (d + 7)) 290 [yR k0, yI (p1)] hp (bQi G [(34359738368, 1), (1133871366144, 2), (1099511627776, 3), (1099511627776, 6), (1099511627776, 7), (1099511627776, 8), (2251799813685248, 9), (2251799813685248, 10), (2269391999729664, 11), (17592186044416, 12), (17592186044416, 13), (17592186060800, 14), (17592186044416, 15), (2229825043011993600, 256)] hp (-2147483648) 2147483647 (fun _ => True)) := by
  have A_hp : bAx G [(34359738368, 1), (1133871366144, 2), (1099511627776, 3), (1099511627776, 6), (1099511627776, 7), (1099511627776, 8), (2251799813685248, 9), (2251799813685248, 10), (2269391999729664, 11), (17592186044416, 12), (17592186044416, 13), (17592186060800, 14), (17592186044416, 15), (2229825043011993600, 256)] hp hp := bAx.rf hT
  refine yC.of (M := (xt_X12_countFound, (3, (1, (13, []))))) rfl rfl (N := 36) (yfuel (by decide)) ?_
  show yG 89 xfts (xcall 89 xfts xpools xms (d + 6)) (xpool xp_RX12) [] xt_X12_countFound (yP 1 (bQi G [(34359738368, 1), (1133871366144, 2), (1099511627776, 3), (1099511627776, 6), (1099511627776, 7), (1099511627776, 8), (2251799813685248, 9), (2251799813685248, 10), (2269391999729664, 11), (17592186044416, 12), (17592186044416, 13), (17592186060800, 14), (17592186044416, 15), (2229825043011993600, 256)] hp (-2147483648) 2147483647 (fun _ => True))) 36 0 [(0, yR k0), (1, yI (p1))] [] hp
  refine yG.load xak rfl (fun _ _ => rfl) (v := yR k0) rfl rfl ?_
  refine yG.invV (rest := []) A_hp.1 (bOb (d_G W) H_k0) rfl rfl rfl rfl (c_G_now W (d + 1) A_hp.1 H_k0) (fun rv h1 q9 => ?_)
  obtain ⟨⟨r2, rfl, H_r2⟩, B_h1⟩ := q9
  have A_h1 := A_hp.tr B_h1 (by decide)
  show yG _ _ _ _ _ _ _ _ _ _ (yR r2 :: []) _
  refine yG.store1 xak (L' := [(2, yR r2), (0, yR k0), (1, yI (p1))]) rfl (fun _ _ => rfl) rfl rfl ?_
  refine yG.load xik rfl (fun _ _ => rfl) (v := yI (p1)) rfl rfl ?_
  rcases (show (p1 < (10 : Int) ∨ (14 : Int) < p1) ∨ p1 = (10 : Int) ∨ p1 = (11 : Int) ∨ p1 = (12 : Int) ∨ p1 = (13 : Int) ∨ p1 = (14 : Int) by omega) with c3 | c3 | c3 | c3 | c3 | c3
  · skip
    refine yG.tswD (t := 78) rfl ⟨by omega, by omega⟩ c3 rfl ?_
    refine yG.load xak rfl (fun _ _ => rfl) (v := yR r2) rfl rfl ?_
    refine yG.getI A_h1.1 (w_Flow_lost W H_r2) rfl rfl (fun z4 e_z4 i_z4 l_z4 u_z4 => ?_)
    refine yG.ret rfl (fun _ _ => rfl) ?_
    exact (yP.int ⟨by omega, by omega⟩ ⟨⟨z4, rfl, by omega, by omega, trivial⟩, A_h1⟩)
  · skip
    refine yG.tswC (i := 0) (t := 40) rfl ⟨by omega, by omega⟩ (by omega) (by omega) rfl rfl ?_
    refine yG.load xak rfl (fun _ _ => rfl) (v := yR r2) rfl rfl ?_
    refine yG.getO A_h1.1 (w_Flow_shape W H_r2) rfl rfl (fun r5 H_r5 O_r5 q_r5 => ?_)
    refine yG.getI A_h1.1 (w_Shape_nodes W H_r5) rfl rfl (fun z6 e_z6 i_z6 l_z6 u_z6 => ?_)
    refine yG.ret rfl (fun _ _ => rfl) ?_
    exact (yP.int ⟨by omega, by omega⟩ ⟨⟨z6, rfl, by omega, by omega, trivial⟩, A_h1⟩)
  · skip
    refine yG.tswC (i := 1) (t := 48) rfl ⟨by omega, by omega⟩ (by omega) (by omega) rfl rfl ?_
    refine yG.load xak rfl (fun _ _ => rfl) (v := yR r2) rfl rfl ?_
    refine yG.getO A_h1.1 (w_Flow_shape W H_r2) rfl rfl (fun r7 H_r7 O_r7 q_r7 => ?_)
    refine yG.getI A_h1.1 (w_Shape_islands W H_r7) rfl rfl (fun z8 e_z8 i_z8 l_z8 u_z8 => ?_)
    refine yG.ret rfl (fun _ _ => rfl) ?_
    exact (yP.int ⟨by omega, by omega⟩ ⟨⟨z8, rfl, by omega, by omega, trivial⟩, A_h1⟩)
  · skip
    refine yG.tswC (i := 2) (t := 56) rfl ⟨by omega, by omega⟩ (by omega) (by omega) rfl rfl ?_
    refine yG.load xak rfl (fun _ _ => rfl) (v := yR r2) rfl rfl ?_
    refine yG.getO A_h1.1 (w_Flow_shape W H_r2) rfl rfl (fun r9 H_r9 O_r9 q_r9 => ?_)
    refine yG.getI A_h1.1 (w_Shape_lives W H_r9) rfl rfl (fun z10 e_z10 i_z10 l_z10 u_z10 => ?_)
    refine yG.ret rfl (fun _ _ => rfl) ?_
    exact (yP.int ⟨by omega, by omega⟩ ⟨⟨z10, rfl, by omega, by omega, trivial⟩, A_h1⟩)
  · skip
    refine yG.tswC (i := 3) (t := 64) rfl ⟨by omega, by omega⟩ (by omega) (by omega) rfl rfl ?_
    refine yG.load xak rfl (fun _ _ => rfl) (v := yR r2) rfl rfl ?_
    refine yG.getI A_h1.1 (w_Flow_stuckCount W H_r2) rfl rfl (fun z11 e_z11 i_z11 l_z11 u_z11 => ?_)
    refine yG.ret rfl (fun _ _ => rfl) ?_
    exact (yP.int ⟨by omega, by omega⟩ ⟨⟨z11, rfl, by omega, by omega, trivial⟩, A_h1⟩)
  · skip
    refine yG.tswC (i := 4) (t := 69) rfl ⟨by omega, by omega⟩ (by omega) (by omega) rfl rfl ?_
    refine yG.load xak rfl (fun _ _ => rfl) (v := yR r2) rfl rfl ?_
    refine yG.invV (rest := []) A_h1.1 (bOb (d_Flow W) H_r2) rfl rfl rfl rfl (c_Flow_countOver_m W d A_h1.1 H_r2) (fun rv h12 q9 => ?_)
    obtain ⟨⟨rfl, R_z13⟩, B_h12⟩ := q9
    have A_h12 := A_h1.tr B_h12 (by decide)
    show yG _ _ _ _ _ _ _ _ _ _ [] _
    refine yG.load xak rfl (fun _ _ => rfl) (v := yR r2) rfl rfl ?_
    refine yG.getI A_h12.1 (w_Flow_overs W H_r2) rfl rfl (fun z14 e_z14 i_z14 l_z14 u_z14 => ?_)
    refine yG.ret rfl (fun _ _ => rfl) ?_
    exact (yP.int ⟨by omega, by omega⟩ ⟨⟨z14, rfl, by omega, by omega, trivial⟩, A_h12⟩)
theorem c_G_count {hp : xH} (W : bW G) (d : Nat) (hT : zTy G hp) {k0 : Nat} (H_k0 : bRo G 14 k0) (p1 : Int) (h1l : (-2147483648) ≤ p1) (h1u : p1 ≤ 2147483647) : bC (xcall 89 xfts xpools xms (d + 8)) 289 [yR k0, yI (p1)] hp (bQi G [(34359738368, 1), (1133871366144, 2), (1099511627776, 3), (1099511627776, 6), (1099511627776, 7), (1099511627776, 8), (2251799813685248, 9), (2251799813685248, 10), (2269391999729664, 11), (17592186044416, 12), (17592186044416, 13), (17592186060800, 14), (17592186044416, 15), (2229825043011993600, 256)] hp (-2147483648) 2147483647 (fun z => 0 ≤ 0 - p1 + z + 2147483663 ∧ 0 ≤ p1 - z + 2147483640)) (bTh G [(34359738368, 1), (1133871366144, 2), (1099511627776, 3), (1099511627776, 6), (1099511627776, 7), (1099511627776, 8), (2251799813685248, 9), (2251799813685248, 10), (2269391999729664, 11), (17592186044416, 12), (17592186044416, 13), (17592186060800, 14), (17592186044416, 15), (2229825043011993600, 256)] [0] hp) := by
  have A_hp : bAx G [(34359738368, 1), (1133871366144, 2), (1099511627776, 3), (1099511627776, 6), (1099511627776, 7), (1099511627776, 8), (2251799813685248, 9), (2251799813685248, 10), (2269391999729664, 11), (17592186044416, 12), (17592186044416, 13), (17592186060800, 14), (17592186044416, 15), (2229825043011993600, 256)] hp hp := bAx.rf hT
  refine bC.of (M := (xt_X12_count, (2, (1, (13, []))))) rfl rfl (N := 54) (yfuel (by decide)) ?_
  show yG 89 xfts (xcall 89 xfts xpools xms (d + 7)) (xpool xp_RX12) [] xt_X12_count (bP 1 (bQi G [(34359738368, 1), (1133871366144, 2), (1099511627776, 3), (1099511627776, 6), (1099511627776, 7), (1099511627776, 8), (2251799813685248, 9), (2251799813685248, 10), (2269391999729664, 11), (17592186044416, 12), (17592186044416, 13), (17592186060800, 14), (17592186044416, 15), (2229825043011993600, 256)] hp (-2147483648) 2147483647 (fun z => 0 ≤ 0 - p1 + z + 2147483663 ∧ 0 ≤ p1 - z + 2147483640)) (bTh G [(34359738368, 1), (1133871366144, 2), (1099511627776, 3), (1099511627776, 6), (1099511627776, 7), (1099511627776, 8), (2251799813685248, 9), (2251799813685248, 10), (2269391999729664, 11), (17592186044416, 12), (17592186044416, 13), (17592186060800, 14), (17592186044416, 15), (2229825043011993600, 256)] [0] hp)) 54 0 [(0, yR k0), (1, yI (p1))] [] hp
  refine yG.load xik rfl (fun _ _ => rfl) (v := yI (p1)) rfl rfl ?_
  refine yG.ifz rfl (t := 10) rfl ⟨by omega, by omega⟩ (fun c1 => ?_) (fun c1 => ?_)
  · have c1 : (p1 : Int) < 0 := c1
    exact yG.newT (P := bP _ _ _) rfl rfl (bP.thr rfl ⟨by decide, hp, A_hp, rfl⟩)
  · have c1 : (p1 : Int) ≥ 0 := c1
    refine yG.load xik rfl (fun _ _ => rfl) (v := yI (p1)) rfl rfl ?_
    refine yG.num (c := 15) rfl (fun _ _ => rfl) (by decide) ?_
    refine yG.icmp rfl (t := 20) rfl ⟨by omega, by omega⟩ ⟨by omega, by omega⟩ (fun c2 => ?_) (fun c2 => ?_)
    · have c2 : (p1 : Int) ≤ 15 := c2
      refine yG.load xik rfl (fun _ _ => rfl) (v := yI (p1)) rfl rfl ?_
      refine yG.num (c := 5) rfl (fun _ _ => rfl) (by decide) ?_
      refine yG.icmp rfl (t := 37) rfl ⟨by omega, by omega⟩ ⟨by omega, by omega⟩ (fun c3 => ?_) (fun c3 => ?_)
      · have c3 : (p1 : Int) ≥ 5 := c3
        refine yG.load xik rfl (fun _ _ => rfl) (v := yI (p1)) rfl rfl ?_
        refine yG.num (c := 10) rfl (fun _ _ => rfl) (by decide) ?_
        refine yG.icmp rfl (t := 51) rfl ⟨by omega, by omega⟩ ⟨by omega, by omega⟩ (fun c4 => ?_) (fun c4 => ?_)
        · have c4 : (p1 : Int) ≥ 10 := c4
          refine yG.load xak rfl (fun _ _ => rfl) (v := yR k0) rfl rfl ?_
          refine yG.load xik rfl (fun _ _ => rfl) (v := yI (p1)) rfl rfl ?_
          refine yG.invV (rest := []) A_hp.1 (bOb (d_G W) H_k0) rfl rfl rfl rfl (c_G_countFound W d A_hp.1 H_k0 (p1) (by omega) (by omega)) (fun rv h5 q9 => ?_)
          obtain ⟨⟨z6, rfl, l_z6, u_z6, R_z6⟩, B_h5⟩ := q9
          have A_h5 := A_hp.tr B_h5 (by decide)
          show yG _ _ _ _ _ _ _ _ _ _ (yI z6 :: []) _
          refine yG.ret rfl (fun _ _ => rfl) ?_
          exact .inl (yP.int ⟨by omega, by omega⟩ ⟨⟨z6, rfl, by omega, by omega, by omega⟩, A_h5⟩)
        · have c4 : (p1 : Int) < 10 := c4
          refine yG.load xak rfl (fun _ _ => rfl) (v := yR k0) rfl rfl ?_
          refine yG.load xik rfl (fun _ _ => rfl) (v := yI (p1)) rfl rfl ?_
          refine yG.invV (rest := []) A_hp.1 (bOb (d_G W) H_k0) rfl rfl rfl rfl (c_G_countTold W (d + 6) A_hp.1 H_k0 (p1) (by omega) (by omega)) (fun rv hp9 q9 => ?_)
          obtain ⟨⟨z7, rfl, l_z7, u_z7, R_z7⟩, e9⟩ := q9
          rw [e9]
          show yG _ _ _ _ _ _ _ _ _ _ (yI z7 :: []) _
          refine yG.goto rfl (t := 56) rfl ?_
          refine yG.ret rfl (fun _ _ => rfl) ?_
          exact .inl (yP.int ⟨by omega, by omega⟩ ⟨⟨z7, rfl, by omega, by omega, by omega⟩, A_hp⟩)
      · have c3 : (p1 : Int) < 5 := c3
        refine yG.load xak rfl (fun _ _ => rfl) (v := yR k0) rfl rfl ?_
        refine yG.getO A_hp.1 (w_G_net W H_k0) rfl rfl (fun r8 H_r8 O_r8 q_r8 => ?_)
        refine yG.getO A_hp.1 (w_Net_count W H_r8) rfl rfl (fun r9 H_r9 O_r9 q_r9 => ?_)
        refine yG.load xik rfl (fun _ _ => rfl) (v := yI (p1)) rfl rfl ?_
        refine yG.ialdT A_hp.1 (v_Net_count W H_r9) (yhull2 (tf := bTf 5 t_Net_count) (bTf_h (A := 0) (B := 24) (by decide) (by decide) (by decide) _)) rfl (by omega) (by omega) (fun z10 lo_z10 hi_z10 e_z10 i_z10 T_z10 l_z10 u_z10 => ?_)
        obtain ⟨L_z10, U_z10⟩ := yhull (tf := bTf 5 t_Net_count) (bTf_h (A := 0) (B := 24) (by decide) (by decide) (by decide) _) T_z10
        refine yG.goto rfl (t := 56) rfl ?_
        refine yG.ret rfl (fun _ _ => rfl) ?_
        exact .inl (yP.int ⟨by omega, by omega⟩ ⟨⟨z10, rfl, by omega, by omega, by omega⟩, A_hp⟩)
    · have c2 : (p1 : Int) > 15 := c2
      exact yG.newT (P := bP _ _ _) rfl rfl (bP.thr rfl ⟨by decide, hp, A_hp, rfl⟩)
theorem c_G_name {hp : xH} (W : bW G) (d : Nat) (hT : zTy G hp) {k0 : Nat} (H_k0 : bRo G 14 k0) (p1 p2 p3 : Int) (h1l : (-2147483648) ≤ p1) (h1u : p1 ≤ 2147483647) (h2l : (-2147483648) ≤ p2) (h2u : p2 ≤ 2147483647) (h3l : (-2147483648) ≤ p3) (h3u : p3 ≤ 2147483647) : yC (xcall 89 xfts xpools xms (d + 2)) 310 [yR k0, yI (p1), yI (p2), yI (p3)] hp (bQpi hp (-1) 255 (fun z => 0 ≤ p1 - z + 2147483647 ∧ 0 ≤ p2 - z + 2147483647 ∧ 0 ≤ p3 - z + 2147483647)) := by
  have A_hp : bAx G [] hp hp := bAx.rf hT
  refine yC.of (M := (xt_X12_name, (4, (1, (13, []))))) rfl rfl (N := 57) (yfuel (by decide)) ?_
  show yG 89 xfts (xcall 89 xfts xpools xms (d + 1)) (xpool xp_RX12) [] xt_X12_name (yP 1 (bQpi hp (-1) 255 (fun z => 0 ≤ p1 - z + 2147483647 ∧ 0 ≤ p2 - z + 2147483647 ∧ 0 ≤ p3 - z + 2147483647))) 57 0 [(0, yR k0), (1, yI (p1)), (2, yI (p2)), (3, yI (p3))] [] hp
  rcases (show p1 ≤ (-1) ∨ p1 ≥ 5 ∨ p1 = 0 ∨ p1 = 1 ∨ p1 = 2 ∨ p1 = 3 ∨ p1 = 4 by omega) with c1 | c1 | c1 | c1 | c1 | c1 | c1
  · skip
    refine yG.load xak rfl (fun _ _ => rfl) (v := yR k0) rfl rfl ?_
    refine yG.getO A_hp.1 (w_G_net W H_k0) rfl rfl (fun r2 H_r2 O_r2 q_r2 => ?_)
    refine yG.load xik rfl (fun _ _ => rfl) (v := yI (p1)) rfl rfl ?_
    refine yG.load xik rfl (fun _ _ => rfl) (v := yI (p2)) rfl rfl ?_
    refine yG.invV (rest := []) A_hp.1 (bOb (d_Net W) H_r2) rfl rfl rfl rfl (c_Net_has_z W d A_hp.1 H_r2 (p1) (p2) (by omega) (by omega) (by omega) (by omega)) (fun rv hp9 q9 => ?_)
    obtain ⟨⟨z3, rfl, l_z3, u_z3, R_z3⟩, e9⟩ := q9
    rw [e9]
    show yG _ _ _ _ _ _ _ _ _ _ (yI z3 :: []) _
    refine yG.ifz rfl (t := 30) rfl ⟨by omega, by omega⟩ (fun c4 => ?_) (fun c4 => ?_)
    · have c4 : (z3 : Int) = 0 := c4
      refine yG.num (c := -1) rfl (fun _ _ => rfl) (by decide) ?_
      refine yG.ret rfl (fun _ _ => rfl) ?_
      exact (yP.int ⟨by omega, by omega⟩ ⟨⟨(-1), rfl, by omega, by omega, by omega⟩, rfl⟩)
    · have c4 : (z3 : Int) ≠ 0 := c4
      exfalso; omega
  · skip
    refine yG.load xak rfl (fun _ _ => rfl) (v := yR k0) rfl rfl ?_
    refine yG.getO A_hp.1 (w_G_net W H_k0) rfl rfl (fun r5 H_r5 O_r5 q_r5 => ?_)
    refine yG.load xik rfl (fun _ _ => rfl) (v := yI (p1)) rfl rfl ?_
    refine yG.load xik rfl (fun _ _ => rfl) (v := yI (p2)) rfl rfl ?_
    refine yG.invV (rest := []) A_hp.1 (bOb (d_Net W) H_r5) rfl rfl rfl rfl (c_Net_has_z W d A_hp.1 H_r5 (p1) (p2) (by omega) (by omega) (by omega) (by omega)) (fun rv hp9 q9 => ?_)
    obtain ⟨⟨z6, rfl, l_z6, u_z6, R_z6⟩, e9⟩ := q9
    rw [e9]
    show yG _ _ _ _ _ _ _ _ _ _ (yI z6 :: []) _
    refine yG.ifz rfl (t := 30) rfl ⟨by omega, by omega⟩ (fun c7 => ?_) (fun c7 => ?_)
    · have c7 : (z6 : Int) = 0 := c7
      refine yG.num (c := -1) rfl (fun _ _ => rfl) (by decide) ?_
      refine yG.ret rfl (fun _ _ => rfl) ?_
      exact (yP.int ⟨by omega, by omega⟩ ⟨⟨(-1), rfl, by omega, by omega, by omega⟩, rfl⟩)
    · have c7 : (z6 : Int) ≠ 0 := c7
      exfalso; omega
  · subst c1
    refine yG.load xak rfl (fun _ _ => rfl) (v := yR k0) rfl rfl ?_
    refine yG.getO A_hp.1 (w_G_net W H_k0) rfl rfl (fun r8 H_r8 O_r8 q_r8 => ?_)
    refine yG.load xik rfl (fun _ _ => rfl) (v := yI (0)) rfl rfl ?_
    refine yG.load xik rfl (fun _ _ => rfl) (v := yI (p2)) rfl rfl ?_
    refine yG.invV (rest := []) A_hp.1 (bOb (d_Net W) H_r8) rfl rfl rfl rfl (c_Net_has_0 W d A_hp.1 H_r8 (p2) (by omega) (by omega)) (fun rv hp9 q9 => ?_)
    obtain ⟨⟨z9, rfl, l_z9, u_z9, R_z9⟩, e9⟩ := q9
    rw [e9]
    show yG _ _ _ _ _ _ _ _ _ _ (yI z9 :: []) _
    refine yG.ifz rfl (t := 30) rfl ⟨by omega, by omega⟩ (fun c10 => ?_) (fun c10 => ?_)
    · have c10 : (z9 : Int) = 0 := c10
      refine yG.num (c := -1) rfl (fun _ _ => rfl) (by decide) ?_
      refine yG.ret rfl (fun _ _ => rfl) ?_
      exact (yP.int ⟨by omega, by omega⟩ ⟨⟨(-1), rfl, by omega, by omega, by omega⟩, rfl⟩)
    · have c10 : (z9 : Int) ≠ 0 := c10
      refine yG.load xak rfl (fun _ _ => rfl) (v := yR k0) rfl rfl ?_
      refine yG.getS9 A_hp.1 (w_G_net W H_k0) q_r8 rfl rfl ?_
      refine yG.getO A_hp.1 (w_Net_names W H_r8) rfl rfl (fun r11 H_r11 O_r11 q_r11 => ?_)
      refine yG.load xik rfl (fun _ _ => rfl) (v := yI (0)) rfl rfl ?_
      refine yG.aaldO (r := 23) A_hp.1 (v_Net_names W H_r11) rfl rfl rfl (by omega) (by omega) (fun r12 H_r12 q_r12 => ?_)
      refine yG.load xik rfl (fun _ _ => rfl) (v := yI (p2)) rfl rfl ?_
      refine yG.lald A_hp.1 (v_Net_names0 W H_r12) rfl (by omega) (by omega) (fun z13 e_z13 i_z13 l_z13 u_z13 => ?_)
      refine yG.load xik rfl (fun _ _ => rfl) (v := yI (p3)) rfl rfl ?_
      refine yG.invS (rest := []) rfl rfl rfl rfl (c_Tape_byteOf W d A_hp.1 (z13) (p3) (by omega) (by omega) (by omega) (by omega)) (fun rv hp9 q9 => ?_)
      obtain ⟨⟨z14, rfl, l_z14, u_z14, R_z14⟩, e9⟩ := q9
      rw [e9]
      show yG _ _ _ _ _ _ _ _ _ _ (yI z14 :: []) _
      refine yG.goto rfl (t := 31) rfl ?_
      refine yG.ret rfl (fun _ _ => rfl) ?_
      exact (yP.int ⟨by omega, by omega⟩ ⟨⟨z14, rfl, by omega, by omega, by omega⟩, rfl⟩)
  · subst c1
    refine yG.load xak rfl (fun _ _ => rfl) (v := yR k0) rfl rfl ?_
    refine yG.getO A_hp.1 (w_G_net W H_k0) rfl rfl (fun r15 H_r15 O_r15 q_r15 => ?_)
    refine yG.load xik rfl (fun _ _ => rfl) (v := yI (1)) rfl rfl ?_
    refine yG.load xik rfl (fun _ _ => rfl) (v := yI (p2)) rfl rfl ?_
    refine yG.invV (rest := []) A_hp.1 (bOb (d_Net W) H_r15) rfl rfl rfl rfl (c_Net_has_1 W d A_hp.1 H_r15 (p2) (by omega) (by omega)) (fun rv hp9 q9 => ?_)
    obtain ⟨⟨z16, rfl, l_z16, u_z16, R_z16⟩, e9⟩ := q9
    rw [e9]
    show yG _ _ _ _ _ _ _ _ _ _ (yI z16 :: []) _
    refine yG.ifz rfl (t := 30) rfl ⟨by omega, by omega⟩ (fun c17 => ?_) (fun c17 => ?_)
    · have c17 : (z16 : Int) = 0 := c17
      refine yG.num (c := -1) rfl (fun _ _ => rfl) (by decide) ?_
      refine yG.ret rfl (fun _ _ => rfl) ?_
      exact (yP.int ⟨by omega, by omega⟩ ⟨⟨(-1), rfl, by omega, by omega, by omega⟩, rfl⟩)
    · have c17 : (z16 : Int) ≠ 0 := c17
      refine yG.load xak rfl (fun _ _ => rfl) (v := yR k0) rfl rfl ?_
      refine yG.getS9 A_hp.1 (w_G_net W H_k0) q_r15 rfl rfl ?_
      refine yG.getO A_hp.1 (w_Net_names W H_r15) rfl rfl (fun r18 H_r18 O_r18 q_r18 => ?_)
      refine yG.load xik rfl (fun _ _ => rfl) (v := yI (1)) rfl rfl ?_
      refine yG.aaldO (r := 25) A_hp.1 (v_Net_names W H_r18) rfl rfl rfl (by omega) (by omega) (fun r19 H_r19 q_r19 => ?_)
      refine yG.load xik rfl (fun _ _ => rfl) (v := yI (p2)) rfl rfl ?_
      refine yG.lald A_hp.1 (v_Net_names1 W H_r19) rfl (by omega) (by omega) (fun z20 e_z20 i_z20 l_z20 u_z20 => ?_)
      refine yG.load xik rfl (fun _ _ => rfl) (v := yI (p3)) rfl rfl ?_
      refine yG.invS (rest := []) rfl rfl rfl rfl (c_Tape_byteOf W d A_hp.1 (z20) (p3) (by omega) (by omega) (by omega) (by omega)) (fun rv hp9 q9 => ?_)
      obtain ⟨⟨z21, rfl, l_z21, u_z21, R_z21⟩, e9⟩ := q9
      rw [e9]
      show yG _ _ _ _ _ _ _ _ _ _ (yI z21 :: []) _
      refine yG.goto rfl (t := 31) rfl ?_
      refine yG.ret rfl (fun _ _ => rfl) ?_
      exact (yP.int ⟨by omega, by omega⟩ ⟨⟨z21, rfl, by omega, by omega, by omega⟩, rfl⟩)
  · subst c1
    refine yG.load xak rfl (fun _ _ => rfl) (v := yR k0) rfl rfl ?_
    refine yG.getO A_hp.1 (w_G_net W H_k0) rfl rfl (fun r22 H_r22 O_r22 q_r22 => ?_)
    refine yG.load xik rfl (fun _ _ => rfl) (v := yI (2)) rfl rfl ?_
    refine yG.load xik rfl (fun _ _ => rfl) (v := yI (p2)) rfl rfl ?_
    refine yG.invV (rest := []) A_hp.1 (bOb (d_Net W) H_r22) rfl rfl rfl rfl (c_Net_has_2 W d A_hp.1 H_r22 (p2) (by omega) (by omega)) (fun rv hp9 q9 => ?_)
    obtain ⟨⟨z23, rfl, l_z23, u_z23, R_z23⟩, e9⟩ := q9
    rw [e9]
    show yG _ _ _ _ _ _ _ _ _ _ (yI z23 :: []) _
    refine yG.ifz rfl (t := 30) rfl ⟨by omega, by omega⟩ (fun c24 => ?_) (fun c24 => ?_)
    · have c24 : (z23 : Int) = 0 := c24
      refine yG.num (c := -1) rfl (fun _ _ => rfl) (by decide) ?_
      refine yG.ret rfl (fun _ _ => rfl) ?_
      exact (yP.int ⟨by omega, by omega⟩ ⟨⟨(-1), rfl, by omega, by omega, by omega⟩, rfl⟩)
    · have c24 : (z23 : Int) ≠ 0 := c24
      refine yG.load xak rfl (fun _ _ => rfl) (v := yR k0) rfl rfl ?_
      refine yG.getS9 A_hp.1 (w_G_net W H_k0) q_r22 rfl rfl ?_
      refine yG.getO A_hp.1 (w_Net_names W H_r22) rfl rfl (fun r25 H_r25 O_r25 q_r25 => ?_)
      refine yG.load xik rfl (fun _ _ => rfl) (v := yI (2)) rfl rfl ?_
      refine yG.aaldO (r := 27) A_hp.1 (v_Net_names W H_r25) rfl rfl rfl (by omega) (by omega) (fun r26 H_r26 q_r26 => ?_)
      refine yG.load xik rfl (fun _ _ => rfl) (v := yI (p2)) rfl rfl ?_
      refine yG.lald A_hp.1 (v_Net_names2 W H_r26) rfl (by omega) (by omega) (fun z27 e_z27 i_z27 l_z27 u_z27 => ?_)
      refine yG.load xik rfl (fun _ _ => rfl) (v := yI (p3)) rfl rfl ?_
      refine yG.invS (rest := []) rfl rfl rfl rfl (c_Tape_byteOf W d A_hp.1 (z27) (p3) (by omega) (by omega) (by omega) (by omega)) (fun rv hp9 q9 => ?_)
      obtain ⟨⟨z28, rfl, l_z28, u_z28, R_z28⟩, e9⟩ := q9
      rw [e9]
      show yG _ _ _ _ _ _ _ _ _ _ (yI z28 :: []) _
      refine yG.goto rfl (t := 31) rfl ?_
      refine yG.ret rfl (fun _ _ => rfl) ?_
      exact (yP.int ⟨by omega, by omega⟩ ⟨⟨z28, rfl, by omega, by omega, by omega⟩, rfl⟩)
  · subst c1
    refine yG.load xak rfl (fun _ _ => rfl) (v := yR k0) rfl rfl ?_
    refine yG.getO A_hp.1 (w_G_net W H_k0) rfl rfl (fun r29 H_r29 O_r29 q_r29 => ?_)
    refine yG.load xik rfl (fun _ _ => rfl) (v := yI (3)) rfl rfl ?_
    refine yG.load xik rfl (fun _ _ => rfl) (v := yI (p2)) rfl rfl ?_
    refine yG.invV (rest := []) A_hp.1 (bOb (d_Net W) H_r29) rfl rfl rfl rfl (c_Net_has_3 W d A_hp.1 H_r29 (p2) (by omega) (by omega)) (fun rv hp9 q9 => ?_)
    obtain ⟨⟨z30, rfl, l_z30, u_z30, R_z30⟩, e9⟩ := q9
    rw [e9]
    show yG _ _ _ _ _ _ _ _ _ _ (yI z30 :: []) _
    refine yG.ifz rfl (t := 30) rfl ⟨by omega, by omega⟩ (fun c31 => ?_) (fun c31 => ?_)
    · have c31 : (z30 : Int) = 0 := c31
      refine yG.num (c := -1) rfl (fun _ _ => rfl) (by decide) ?_
      refine yG.ret rfl (fun _ _ => rfl) ?_
      exact (yP.int ⟨by omega, by omega⟩ ⟨⟨(-1), rfl, by omega, by omega, by omega⟩, rfl⟩)
    · have c31 : (z30 : Int) ≠ 0 := c31
      refine yG.load xak rfl (fun _ _ => rfl) (v := yR k0) rfl rfl ?_
      refine yG.getS9 A_hp.1 (w_G_net W H_k0) q_r29 rfl rfl ?_
      refine yG.getO A_hp.1 (w_Net_names W H_r29) rfl rfl (fun r32 H_r32 O_r32 q_r32 => ?_)
      refine yG.load xik rfl (fun _ _ => rfl) (v := yI (3)) rfl rfl ?_
      refine yG.aaldO (r := 29) A_hp.1 (v_Net_names W H_r32) rfl rfl rfl (by omega) (by omega) (fun r33 H_r33 q_r33 => ?_)
      refine yG.load xik rfl (fun _ _ => rfl) (v := yI (p2)) rfl rfl ?_
      refine yG.lald A_hp.1 (v_Net_names3 W H_r33) rfl (by omega) (by omega) (fun z34 e_z34 i_z34 l_z34 u_z34 => ?_)
      refine yG.load xik rfl (fun _ _ => rfl) (v := yI (p3)) rfl rfl ?_
      refine yG.invS (rest := []) rfl rfl rfl rfl (c_Tape_byteOf W d A_hp.1 (z34) (p3) (by omega) (by omega) (by omega) (by omega)) (fun rv hp9 q9 => ?_)
      obtain ⟨⟨z35, rfl, l_z35, u_z35, R_z35⟩, e9⟩ := q9
      rw [e9]
      show yG _ _ _ _ _ _ _ _ _ _ (yI z35 :: []) _
      refine yG.goto rfl (t := 31) rfl ?_
      refine yG.ret rfl (fun _ _ => rfl) ?_
      exact (yP.int ⟨by omega, by omega⟩ ⟨⟨z35, rfl, by omega, by omega, by omega⟩, rfl⟩)
  · subst c1
    refine yG.load xak rfl (fun _ _ => rfl) (v := yR k0) rfl rfl ?_
    refine yG.getO A_hp.1 (w_G_net W H_k0) rfl rfl (fun r36 H_r36 O_r36 q_r36 => ?_)
    refine yG.load xik rfl (fun _ _ => rfl) (v := yI (4)) rfl rfl ?_
    refine yG.load xik rfl (fun _ _ => rfl) (v := yI (p2)) rfl rfl ?_
    refine yG.invV (rest := []) A_hp.1 (bOb (d_Net W) H_r36) rfl rfl rfl rfl (c_Net_has_4 W d A_hp.1 H_r36 (p2) (by omega) (by omega)) (fun rv hp9 q9 => ?_)
    obtain ⟨⟨z37, rfl, l_z37, u_z37, R_z37⟩, e9⟩ := q9
    rw [e9]
    show yG _ _ _ _ _ _ _ _ _ _ (yI z37 :: []) _
    refine yG.ifz rfl (t := 30) rfl ⟨by omega, by omega⟩ (fun c38 => ?_) (fun c38 => ?_)
    · have c38 : (z37 : Int) = 0 := c38
      refine yG.num (c := -1) rfl (fun _ _ => rfl) (by decide) ?_
      refine yG.ret rfl (fun _ _ => rfl) ?_
      exact (yP.int ⟨by omega, by omega⟩ ⟨⟨(-1), rfl, by omega, by omega, by omega⟩, rfl⟩)
    · have c38 : (z37 : Int) ≠ 0 := c38
      refine yG.load xak rfl (fun _ _ => rfl) (v := yR k0) rfl rfl ?_
      refine yG.getS9 A_hp.1 (w_G_net W H_k0) q_r36 rfl rfl ?_
      refine yG.getO A_hp.1 (w_Net_names W H_r36) rfl rfl (fun r39 H_r39 O_r39 q_r39 => ?_)
      refine yG.load xik rfl (fun _ _ => rfl) (v := yI (4)) rfl rfl ?_
      refine yG.aaldO (r := 31) A_hp.1 (v_Net_names W H_r39) rfl rfl rfl (by omega) (by omega) (fun r40 H_r40 q_r40 => ?_)
      refine yG.load xik rfl (fun _ _ => rfl) (v := yI (p2)) rfl rfl ?_
      refine yG.lald A_hp.1 (v_Net_names4 W H_r40) rfl (by omega) (by omega) (fun z41 e_z41 i_z41 l_z41 u_z41 => ?_)
      refine yG.load xik rfl (fun _ _ => rfl) (v := yI (p3)) rfl rfl ?_
      refine yG.invS (rest := []) rfl rfl rfl rfl (c_Tape_byteOf W d A_hp.1 (z41) (p3) (by omega) (by omega) (by omega) (by omega)) (fun rv hp9 q9 => ?_)
      obtain ⟨⟨z42, rfl, l_z42, u_z42, R_z42⟩, e9⟩ := q9
      rw [e9]
      show yG _ _ _ _ _ _ _ _ _ _ (yI z42 :: []) _
      refine yG.goto rfl (t := 31) rfl ?_
      refine yG.ret rfl (fun _ _ => rfl) ?_
      exact (yP.int ⟨by omega, by omega⟩ ⟨⟨z42, rfl, by omega, by omega, by omega⟩, rfl⟩)
theorem c_G_keep {hp : xH} (W : bW G) (d : Nat) (hT : zTy G hp) {k0 : Nat} (H_k0 : bRo G 14 k0) (p1 : Int) (h1l : (-2147483648) ≤ p1) (h1u : p1 ≤ 2147483647) : bC (xcall 89 xfts xpools xms (d + 2)) 306 [yR k0, yI (p1)] hp (fun rv hp' => (rv = none ∧ 0 ≤ p1 ∧ 0 ≤ 0 - p1 + 2) ∧ bAx G [(10020192256, 256)] hp hp') (bTh G [(10020192256, 256)] [0] hp) := by
  have A_hp : bAx G [(10020192256, 256)] hp hp := bAx.rf hT
  refine bC.of (M := (xt_X12_keep, (2, (0, (13, []))))) rfl rfl (N := 60) (yfuel (by decide)) ?_
  show yG 89 xfts (xcall 89 xfts xpools xms (d + 1)) (xpool xp_RX12) [] xt_X12_keep (bP 0 (fun rv hp' => (rv = none ∧ 0 ≤ p1 ∧ 0 ≤ 0 - p1 + 2) ∧ bAx G [(10020192256, 256)] hp hp') (bTh G [(10020192256, 256)] [0] hp)) 60 0 [(0, yR k0), (1, yI (p1))] [] hp
  refine yG.load xik rfl (fun _ _ => rfl) (v := yI (p1)) rfl rfl ?_
  refine yG.ifz rfl (t := 9) rfl ⟨by omega, by omega⟩ (fun c1 => ?_) (fun c1 => ?_)
  · have c1 : (p1 : Int) < 0 := c1
    exact yG.newT (P := bP _ _ _) rfl rfl (bP.thr rfl ⟨by decide, hp, A_hp, rfl⟩)
  · have c1 : (p1 : Int) ≥ 0 := c1
    refine yG.load xik rfl (fun _ _ => rfl) (v := yI (p1)) rfl rfl ?_
    refine yG.num (c := 3) rfl (fun _ _ => rfl) (by decide) ?_
    refine yG.icmp rfl (t := 19) rfl ⟨by omega, by omega⟩ ⟨by omega, by omega⟩ (fun c2 => ?_) (fun c2 => ?_)
    · have c2 : (p1 : Int) < 3 := c2
      refine yG.load xak rfl (fun _ _ => rfl) (v := yR k0) rfl rfl ?_
      refine yG.getO A_hp.1 (w_G_kept W H_k0) rfl rfl (fun r3 H_r3 O_r3 q_r3 => ?_)
      refine yG.load xik rfl (fun _ _ => rfl) (v := yI (p1)) rfl rfl ?_
      refine yG.aaldO (r := 18) A_hp.1 (v_G_kept W H_r3) rfl rfl rfl (by omega) (by omega) (fun r4 H_r4 q_r4 => ?_)
      refine yG.load xak rfl (fun _ _ => rfl) (v := yR k0) rfl rfl ?_
      refine yG.getO A_hp.1 (w_G_net W H_k0) rfl rfl (fun r5 H_r5 O_r5 q_r5 => ?_)
      refine yG.invV (rest := []) A_hp.1 (bOb (d_Net W) H_r4) rfl rfl rfl rfl (c_Net_copyValues W d A_hp.1 H_r4 H_r5) (fun rv h6 q9 => ?_)
      obtain ⟨⟨rfl, R_z7⟩, B_h6⟩ := q9
      have A_h6 := A_hp.tr B_h6 (by decide)
      show yG _ _ _ _ _ _ _ _ _ _ [] _
      refine yG.load xak rfl (fun _ _ => rfl) (v := yR k0) rfl rfl ?_
      refine yG.getO A_h6.1 (w_G_isKept W H_k0) rfl rfl (fun r8 H_r8 O_r8 q_r8 => ?_)
      refine yG.load xik rfl (fun _ _ => rfl) (v := yI (p1)) rfl rfl ?_
      refine yG.num (c := 1) rfl (fun _ _ => rfl) (by decide) ?_
      refine yG.bast A_h6.1 (v_G_isKept W H_r8) (W.2.1 _ _ H_r8 (by decide) (by decide)) rfl (by omega) (by omega) ⟨by omega, by omega⟩ (by omega) (by omega) (fun h9 T_h9 b_h9 f_h9 y_h9 => ?_)
      have A_h9 := A_h6.put T_h9 b_h9 f_h9 H_r8 (bAll_ok (by decide) _)
      refine yG.ret rfl (fun _ _ => rfl) ?_
      exact .inl (yP.void ⟨⟨rfl, by omega⟩, A_h9⟩)
    · have c2 : (p1 : Int) ≥ 3 := c2
      exact yG.newT (P := bP _ _ _) rfl rfl (bP.thr rfl ⟨by decide, hp, A_hp, rfl⟩)
theorem c_G_back {hp : xH} (W : bW G) (d : Nat) (hT : zTy G hp) {k0 : Nat} (H_k0 : bRo G 14 k0) (p1 : Int) (h1l : (-2147483648) ≤ p1) (h1u : p1 ≤ 2147483647) : bC (xcall 89 xfts xpools xms (d + 2)) 279 [yR k0, yI (p1)] hp (fun rv hp' => (rv = none ∧ 0 ≤ p1 ∧ 0 ≤ 0 - p1 + 2) ∧ bAx G [(37778931862957161709568, 4), (4611686018427387904, 9), (2417851639229258349412352, 10), (16384, 14), (79228162514264337593543950336, 18), (1430257664, 256)] hp hp') (bTh G [(37778931862957161709568, 4), (4611686018427387904, 9), (2417851639229258349412352, 10), (16384, 14), (79228162514264337593543950336, 18), (1430257664, 256)] [0, 1] hp) := by
  have A_hp : bAx G [(37778931862957161709568, 4), (4611686018427387904, 9), (2417851639229258349412352, 10), (16384, 14), (79228162514264337593543950336, 18), (1430257664, 256)] hp hp := bAx.rf hT
  refine bC.of (M := (xt_X12_back, (2, (0, (13, []))))) rfl rfl (N := 66) (yfuel (by decide)) ?_
  show yG 89 xfts (xcall 89 xfts xpools xms (d + 1)) (xpool xp_RX12) [] xt_X12_back (bP 0 (fun rv hp' => (rv = none ∧ 0 ≤ p1 ∧ 0 ≤ 0 - p1 + 2) ∧ bAx G [(37778931862957161709568, 4), (4611686018427387904, 9), (2417851639229258349412352, 10), (16384, 14), (79228162514264337593543950336, 18), (1430257664, 256)] hp hp') (bTh G [(37778931862957161709568, 4), (4611686018427387904, 9), (2417851639229258349412352, 10), (16384, 14), (79228162514264337593543950336, 18), (1430257664, 256)] [0, 1] hp)) 66 0 [(0, yR k0), (1, yI (p1))] [] hp
  refine yG.load xik rfl (fun _ _ => rfl) (v := yI (p1)) rfl rfl ?_
  refine yG.ifz rfl (t := 9) rfl ⟨by omega, by omega⟩ (fun c1 => ?_) (fun c1 => ?_)
  · have c1 : (p1 : Int) < 0 := c1
    exact yG.newT (P := bP _ _ _) rfl rfl (bP.thr rfl ⟨by decide, hp, A_hp, rfl⟩)
  · have c1 : (p1 : Int) ≥ 0 := c1
    refine yG.load xik rfl (fun _ _ => rfl) (v := yI (p1)) rfl rfl ?_
    refine yG.num (c := 3) rfl (fun _ _ => rfl) (by decide) ?_
    refine yG.icmp rfl (t := 19) rfl ⟨by omega, by omega⟩ ⟨by omega, by omega⟩ (fun c2 => ?_) (fun c2 => ?_)
    · have c2 : (p1 : Int) < 3 := c2
      refine yG.load xak rfl (fun _ _ => rfl) (v := yR k0) rfl rfl ?_
      refine yG.getO A_hp.1 (w_G_isKept W H_k0) rfl rfl (fun r3 H_r3 O_r3 q_r3 => ?_)
      refine yG.load xik rfl (fun _ _ => rfl) (v := yI (p1)) rfl rfl ?_
      refine yG.bald A_hp.1 (v_G_isKept W H_r3) rfl (by omega) (by omega) (fun z4 e_z4 i_z4 l_z4 u_z4 => ?_)
      refine yG.ifz rfl (t := 38) rfl ⟨by omega, by omega⟩ (fun c5 => ?_) (fun c5 => ?_)
      · have c5 : (z4 : Int) ≠ 0 := c5
        refine yG.load xak rfl (fun _ _ => rfl) (v := yR k0) rfl rfl ?_
        refine yG.getO A_hp.1 (w_G_net W H_k0) rfl rfl (fun r6 H_r6 O_r6 q_r6 => ?_)
        refine yG.load xak rfl (fun _ _ => rfl) (v := yR k0) rfl rfl ?_
        refine yG.getO A_hp.1 (w_G_kept W H_k0) rfl rfl (fun r7 H_r7 O_r7 q_r7 => ?_)
        refine yG.load xik rfl (fun _ _ => rfl) (v := yI (p1)) rfl rfl ?_
        refine yG.aaldO (r := 18) A_hp.1 (v_G_kept W H_r7) rfl rfl rfl (by omega) (by omega) (fun r8 H_r8 q_r8 => ?_)
        refine yG.invV (rest := []) A_hp.1 (bOb (d_Net W) H_r6) rfl rfl rfl rfl (c_Net_copyValues W d A_hp.1 H_r6 H_r8) (fun rv h9 q9 => ?_)
        obtain ⟨⟨rfl, R_z10⟩, B_h9⟩ := q9
        have A_h9 := A_hp.tr B_h9 (by decide)
        show yG _ _ _ _ _ _ _ _ _ _ [] _
        refine yG.load xak rfl (fun _ _ => rfl) (v := yR k0) rfl rfl ?_
        refine yG.invV (rest := []) A_h9.1 (bOb (d_G W) H_k0) rfl rfl rfl rfl (c_G_changed W d A_h9.1 H_k0) (fun rv h11 q9 => ?_)
        obtain ⟨⟨rfl, R_z12⟩, B_h11⟩ := q9
        have A_h11 := A_h9.tr B_h11 (by decide)
        show yG _ _ _ _ _ _ _ _ _ _ [] _
        refine yG.ret rfl (fun _ _ => rfl) ?_
        exact .inl (yP.void ⟨⟨rfl, by omega⟩, A_h11⟩)
      · have c5 : (z4 : Int) = 0 := c5
        exact yG.newT (P := bP _ _ _) rfl rfl (bP.thr rfl ⟨by decide, hp, A_hp, rfl⟩)
    · have c2 : (p1 : Int) ≥ 3 := c2
      exact yG.newT (P := bP _ _ _) rfl rfl (bP.thr rfl ⟨by decide, hp, A_hp, rfl⟩)
theorem c_G_net {hp : xH} (W : bW G) (d : Nat) (hT : zTy G hp) (M_bSh : bSh G hp) {k0 : Nat} (H_k0 : bRo G 14 k0) : yC (xcall 89 xfts xpools xms (d + 7)) 311 [yR k0] hp (fun rv hp' => (bQi G [(32768, 2), (294912, 3), (37778931862957162004480, 4), (294912, 5), (162259276829213363391578010583040, 6), (2417851639229258349707264, 7), (4611686018427387904, 8), (162259279247069614306854787088384, 9), (2417851639229258349412352, 10), (16384, 14), (79228162514264337593543950336, 18), (162259276829213363391578010288128, 19), (618970019642690150330793984, 256)] hp (-4001) 16 (fun _ => True)) rv hp' ∧ bSh G hp') := by
  have A_hp : bAx G [(32768, 2), (294912, 3), (37778931862957162004480, 4), (294912, 5), (162259276829213363391578010583040, 6), (2417851639229258349707264, 7), (4611686018427387904, 8), (162259279247069614306854787088384, 9), (2417851639229258349412352, 10), (16384, 14), (79228162514264337593543950336, 18), (162259276829213363391578010288128, 19), (618970019642690150330793984, 256)] hp hp := bAx.rf hT
  have M_bSh_hp := M_bSh
  have H : ∀ m : Nat, (∀ a1 : Int, ∀ a2 : Int, ∀ hq, bAx G [(32768, 2), (294912, 3), (37778931862957162004480, 4), (294912, 5), (162259276829213363391578010583040, 6), (2417851639229258349707264, 7), (4611686018427387904, 8), (162259279247069614306854787088384, 9), (2417851639229258349412352, 10), (16384, 14), (79228162514264337593543950336, 18), (162259276829213363391578010288128, 19), (618970019642690150330793984, 256)] hp hq → bSh G hq → 0 ≤ a1 → (-16) ≤ 0 - a1 → 0 ≤ a2 → (-3) ≤ 0 - a2 → 0 - 2 * a2 + 7 < (m : Int) → yG 89 xfts (xcall 89 xfts xpools xms (d + 6)) (xpool xp_RX12) [] xt_X12_net (yP 1 (fun rv hp' => (bQi G [(32768, 2), (294912, 3), (37778931862957162004480, 4), (294912, 5), (162259276829213363391578010583040, 6), (2417851639229258349707264, 7), (4611686018427387904, 8), (162259279247069614306854787088384, 9), (2417851639229258349412352, 10), (16384, 14), (79228162514264337593543950336, 18), (162259276829213363391578010288128, 19), (618970019642690150330793984, 256)] hp (-4001) 16 (fun _ => True)) rv hp' ∧ bSh G hp')) (21 * m) 39 [(0, yR k0), (1, yI (a1)), (2, yI (a2))] [] hq) := by
    intro m
    induction m with
    | zero =>
      intros; exfalso; omega
    | succ m ih =>
      have i_39 := ih
      clear ih
      intro a1 a2 hq A_hq M_bSh_hq f0 f1 f2 f3 hm
      refine yG.mono (N := 21 * m + 21) ?_ (by omega)
      refine yG.load xik rfl (fun _ _ => rfl) (v := yI (a2)) rfl rfl ?_
      refine yG.load xak rfl (fun _ _ => rfl) (v := yR k0) rfl rfl ?_
      refine yG.getO A_hq.1 (w_G_isKept W H_k0) rfl rfl (fun r1 H_r1 O_r1 q_r1 => ?_)
      refine yG.alenF A_hq.1 (v_G_isKept W H_r1).yIF rfl ?_
      obtain ⟨z2, e_z2⟩ : ∃ z : Int, z = ((3 : Nat) : Int) := ⟨_, rfl⟩
      rw [← e_z2]
      refine yG.icmp rfl (t := 61) rfl ⟨by omega, by omega⟩ ⟨by omega, by omega⟩ (fun c3 => ?_) (fun c3 => ?_)
      · have c3 : (a2 : Int) ≥ z2 := c3
        refine yG.load xak rfl (fun _ _ => rfl) (v := yR k0) rfl rfl ?_
        refine yG.getO A_hq.1 (w_G_meters W H_k0) rfl rfl (fun r4 H_r4 O_r4 q_r4 => ?_)
        refine yG.invV (rest := []) A_hq.1 (bOb (d_Meters W) H_r4) rfl rfl rfl rfl (c_Meters_clear W (d + 5) A_hq.1 H_r4) (fun rv h5 q9 => ?_)
        obtain ⟨⟨rfl, R_z6⟩, B_h5⟩ := q9
        have A_h5 := A_hq.tr B_h5 (by decide)
        have M_bSh_h5 := M_bSh_hq.fr B_h5 (by decide)
        have qq1 : zsl h5 k0 4 = yR r1 := (B_h5.sl H_k0 (by decide)).trans q_r1
        show yG _ _ _ _ _ _ _ _ _ _ [] _
        refine yG.load xak rfl (fun _ _ => rfl) (v := yR k0) rfl rfl ?_
        refine yG.getO A_h5.1 (w_G_relays W H_k0) rfl rfl (fun r7 H_r7 O_r7 q_r7 => ?_)
        refine yG.invV (rest := []) A_h5.1 (bOb (d_Relays W) H_r7) rfl rfl rfl rfl (c_Relays_clear W (d + 5) A_h5.1 H_r7) (fun rv h8 q9 => ?_)
        obtain ⟨⟨rfl, R_z9⟩, B_h8⟩ := q9
        have A_h8 := A_h5.tr B_h8 (by decide)
        have M_bSh_h8 := M_bSh_h5.fr B_h8 (by decide)
        have qq2 : zsl h8 k0 4 = yR r1 := (B_h8.sl H_k0 (by decide)).trans qq1
        show yG _ _ _ _ _ _ _ _ _ _ [] _
        refine yG.load xak rfl (fun _ _ => rfl) (v := yR k0) rfl rfl ?_
        refine yG.getO A_h8.1 (w_G_rules W H_k0) rfl rfl (fun r10 H_r10 O_r10 q_r10 => ?_)
        refine yG.invV (rest := []) A_h8.1 (bOb (d_Rules W) H_r10) rfl rfl rfl rfl (c_Rules_clear W (d + 5) A_h8.1 H_r10) (fun rv h11 q9 => ?_)
        obtain ⟨⟨rfl, R_z12⟩, B_h11⟩ := q9
        have A_h11 := A_h8.tr B_h11 (by decide)
        have M_bSh_h11 := M_bSh_h8.fr B_h11 (by decide)
        have qq3 : zsl h11 k0 4 = yR r1 := (B_h11.sl H_k0 (by decide)).trans qq2
        show yG _ _ _ _ _ _ _ _ _ _ [] _
        refine yG.load xak rfl (fun _ _ => rfl) (v := yR k0) rfl rfl ?_
        refine yG.invV (rest := []) A_h11.1 (bOb (d_G W) H_k0) rfl rfl rfl rfl (c_G_changed W (d + 5) A_h11.1 H_k0) (fun rv h13 q9 => ?_)
        obtain ⟨⟨rfl, R_z14⟩, B_h13⟩ := q9
        have A_h13 := A_h11.tr B_h13 (by decide)
        have M_bSh_h13 := M_bSh_h11.fr B_h13 (by decide)
        have qq4 : zsl h13 k0 4 = yR r1 := (B_h13.sl H_k0 (by decide)).trans qq3
        show yG _ _ _ _ _ _ _ _ _ _ [] _
        refine yG.load xik rfl (fun _ _ => rfl) (v := yI (a1)) rfl rfl ?_
        refine yG.ret rfl (fun _ _ => rfl) ?_
        exact (yP.int ⟨by omega, by omega⟩ ⟨⟨⟨a1, rfl, by omega, by omega, trivial⟩, A_h13⟩, M_bSh_h13⟩)
      · have c3 : (a2 : Int) < z2 := c3
        refine yG.load xak rfl (fun _ _ => rfl) (v := yR k0) rfl rfl ?_
        refine yG.getS9 A_hq.1 (w_G_isKept W H_k0) q_r1 rfl rfl ?_
        refine yG.load xik rfl (fun _ _ => rfl) (v := yI (a2)) rfl rfl ?_
        refine yG.num (c := 0) rfl (fun _ _ => rfl) (by decide) ?_
        refine yG.bast A_hq.1 (v_G_isKept W H_r1) (W.2.1 _ _ H_r1 (by decide) (by decide)) rfl (by omega) (by omega) ⟨by omega, by omega⟩ (by omega) (by omega) (fun h15 T_h15 b_h15 f_h15 y_h15 => ?_)
        have M_bSh_h15 := M_bSh_hq.fr (bAx.put (Wl := [(8589934592, 256)]) (bAx.rf A_hq.1) T_h15 b_h15 f_h15 H_r1 (bAll_ok (by decide) _)) (by decide)
        have A_h15 := A_hq.put T_h15 b_h15 f_h15 H_r1 (bAll_ok (by decide) _)
        have qq5 : zsl h15 k0 4 = yR r1 := ((f_h15 k0 4).trans (if_neg (fun e => (bRo.ne H_k0 H_r1 (by decide)) e.1))).trans q_r1
        refine yG.iinc rfl (a := a2) rfl (L' := [(2, yI (a2 + 1)), (0, yR k0), (1, yI (a1))]) rfl ?_
        refine yG.goto rfl (t := 39) rfl ?_
        exact yG.mono (yG.sub (i_39 (a1) (a2 + 1)  h15 A_h15 M_bSh_h15   (by omega) (by omega) (by omega) (by omega) (by omega)) (ySub.cons rfl (ySub.cons rfl (ySub.cons rfl (ySub.nil))))) (by omega)
  refine yC.of (M := (xt_X12_net, (3, (1, (13, []))))) rfl rfl (N := 210) (yfuel (by decide)) ?_
  show yG 89 xfts (xcall 89 xfts xpools xms (d + 6)) (xpool xp_RX12) [] xt_X12_net (yP 1 (fun rv hp' => (bQi G [(32768, 2), (294912, 3), (37778931862957162004480, 4), (294912, 5), (162259276829213363391578010583040, 6), (2417851639229258349707264, 7), (4611686018427387904, 8), (162259279247069614306854787088384, 9), (2417851639229258349412352, 10), (16384, 14), (79228162514264337593543950336, 18), (162259276829213363391578010288128, 19), (618970019642690150330793984, 256)] hp (-4001) 16 (fun _ => True)) rv hp' ∧ bSh G hp')) 210 0 [(0, yR k0)] [] hp
  have i_39 := H 9
  refine yG.load xak rfl (fun _ _ => rfl) (v := yR k0) rfl rfl ?_
  refine yG.getO A_hp.1 (w_G_spare W H_k0) rfl rfl (fun r1 H_r1 O_r1 q_r1 => ?_)
  refine yG.load xak rfl (fun _ _ => rfl) (v := yR k0) rfl rfl ?_
  refine yG.getO A_hp.1 (w_G_tape W H_k0) rfl rfl (fun r2 H_r2 O_r2 q_r2 => ?_)
  refine yG.invV (rest := []) A_hp.1 (bOb (d_Net W) H_r1) rfl rfl rfl rfl (c_Net_read W d A_hp.1 M_bSh_hp H_r1 H_r2) (fun rv h3 q9 => ?_)
  obtain ⟨q9, M_bSh_h3⟩ := q9
  obtain ⟨⟨z4, rfl, l_z4, u_z4, R_z4⟩, B_h3⟩ := q9
  have A_h3 := A_hp.tr B_h3 (by decide)
  have qq1 : zsl h3 k0 2 = yR r1 := (B_h3.sl H_k0 (by decide)).trans q_r1
  have qq2 : zsl h3 k0 0 = yR r2 := (B_h3.sl H_k0 (by decide)).trans q_r2
  show yG _ _ _ _ _ _ _ _ _ _ (yI z4 :: []) _
  refine yG.store1 xik (L' := [(1, yI (z4)), (0, yR k0)]) rfl (fun _ _ => rfl) rfl rfl ?_
  refine yG.load xak rfl (fun _ _ => rfl) (v := yR k0) rfl rfl ?_
  refine yG.getS9 A_h3.1 (w_G_tape W H_k0) qq2 rfl rfl ?_
  refine yG.num (c := 0) rfl (fun _ _ => rfl) (by decide) ?_
  refine yG.putI A_h3.1 (w_Tape_length W H_r2) (W.2.1 _ _ H_r2 (by decide) (by decide)) rfl rfl (.inl rfl) ⟨by omega, by omega⟩ (by omega) (by omega) (fun h5 T_h5 b_h5 f_h5 y_h5 => ?_)
  have M_bSh_h5 := M_bSh_h3.fr (bAx.put (Wl := [(32768, 4)]) (bAx.rf A_h3.1) T_h5 b_h5 f_h5 H_r2 (by decide)) (by decide)
  have A_h5 := A_h3.put T_h5 b_h5 f_h5 H_r2 (by decide)
  have qq3 : zsl h5 k0 2 = yR r1 := ((f_h5 k0 2).trans (if_neg (fun e => (bRo.ne H_k0 H_r2 (by decide)) e.1))).trans qq1
  have qq4 : zsl h5 k0 0 = yR r2 := ((f_h5 k0 0).trans (if_neg (fun e => (bRo.ne H_k0 H_r2 (by decide)) e.1))).trans qq2
  refine yG.load xik rfl (fun _ _ => rfl) (v := yI (z4)) rfl rfl ?_
  refine yG.ifz rfl (t := 26) rfl ⟨by omega, by omega⟩ (fun c6 => ?_) (fun c6 => ?_)
  · have c6 : (z4 : Int) ≥ 0 := c6
    refine yG.load xak rfl (fun _ _ => rfl) (v := yR k0) rfl rfl ?_
    refine yG.getO A_h5.1 (w_G_net W H_k0) rfl rfl (fun r7 H_r7 O_r7 q_r7 => ?_)
    refine yG.load xak rfl (fun _ _ => rfl) (v := yR k0) rfl rfl ?_
    refine yG.getS9 A_h5.1 (w_G_spare W H_k0) qq3 rfl rfl ?_
    refine yG.invV (rest := []) A_h5.1 (bOb (d_Net W) H_r7) rfl rfl rfl rfl (c_Net_copy W (d + 4) A_h5.1 M_bSh_h5 H_r7 H_r1) (fun rv h8 q9 => ?_)
    obtain ⟨q9, M_bSh_h8⟩ := q9
    obtain ⟨⟨rfl, R_z9⟩, B_h8⟩ := q9
    have A_h8 := A_h5.tr B_h8 (by decide)
    have qq5 : zsl h8 k0 2 = yR r1 := (B_h8.sl H_k0 (by decide)).trans qq3
    have qq6 : zsl h8 k0 0 = yR r2 := (B_h8.sl H_k0 (by decide)).trans qq4
    show yG _ _ _ _ _ _ _ _ _ _ [] _
    refine yG.num (c := 0) rfl (fun _ _ => rfl) (by decide) ?_
    refine yG.store1 xik (L' := [(2, yI (0)), (1, yI (z4)), (0, yR k0)]) rfl (fun _ _ => rfl) rfl rfl ?_
    exact yG.mono (yG.sub (i_39 (z4) (0)  h8 A_h8 M_bSh_h8   (by omega) (by omega) (by omega) (by omega) (by omega)) (ySub.cons rfl (ySub.cons rfl (ySub.cons rfl (ySub.nil))))) (by omega)
  · have c6 : (z4 : Int) < 0 := c6
    refine yG.load xik rfl (fun _ _ => rfl) (v := yI (z4)) rfl rfl ?_
    refine yG.ret rfl (fun _ _ => rfl) ?_
    exact (yP.int ⟨by omega, by omega⟩ ⟨⟨⟨z4, rfl, by omega, by omega, trivial⟩, A_h5⟩, M_bSh_h5⟩)
theorem c_G_bar {hp : xH} (W : bW G) (d : Nat) (hT : zTy G hp) (M_bSh : bSh G hp) {k0 : Nat} (H_k0 : bRo G 14 k0) (p1 p2 : Int) (h1l : (-2147483648) ≤ p1) (h1u : p1 ≤ 2147483647) (h2l : (-2147483648) ≤ p2) (h2u : p2 ≤ 2147483647) : bC (xcall 89 xfts xpools xms (d + 6)) 281 [yR k0, yI (p1), yI (p2)] hp (fun rv hp' => (bQi G [(262144, 3), (262144, 4), (262144, 5), (262144, 6), (262144, 7), (2251799813685248, 9), (2251799813685248, 10), (2269391999729664, 11), (17592186044416, 12), (17592186044416, 13), (17592186060800, 14), (17592186044416, 15), (2211795186911543296, 256)] hp 0 15 (fun z => 0 ≤ 0 - p1 + z + 15 ∧ 0 ≤ p1 - z + 2 ∧ 0 ≤ 0 - p2 + z + 4 ∧ 0 ≤ p2 - z + 15)) rv hp' ∧ bSh G hp') (bTh G [(262144, 3), (262144, 4), (262144, 5), (262144, 6), (262144, 7), (2251799813685248, 9), (2251799813685248, 10), (2269391999729664, 11), (17592186044416, 12), (17592186044416, 13), (17592186060800, 14), (17592186044416, 15), (2211795186911543296, 256)] [0, 2] hp) := by
  have A_hp : bAx G [(262144, 3), (262144, 4), (262144, 5), (262144, 6), (262144, 7), (2251799813685248, 9), (2251799813685248, 10), (2269391999729664, 11), (17592186044416, 12), (17592186044416, 13), (17592186060800, 14), (17592186044416, 15), (2211795186911543296, 256)] hp hp := bAx.rf hT
  have M_bSh_hp := M_bSh
  refine bC.of (M := (xt_X12_bar, (5, (1, (13, []))))) rfl rfl (N := 99) (yfuel (by decide)) ?_
  show yG 89 xfts (xcall 89 xfts xpools xms (d + 5)) (xpool xp_RX12) [] xt_X12_bar (bP 1 (fun rv hp' => (bQi G [(262144, 3), (262144, 4), (262144, 5), (262144, 6), (262144, 7), (2251799813685248, 9), (2251799813685248, 10), (2269391999729664, 11), (17592186044416, 12), (17592186044416, 13), (17592186060800, 14), (17592186044416, 15), (2211795186911543296, 256)] hp 0 15 (fun z => 0 ≤ 0 - p1 + z + 15 ∧ 0 ≤ p1 - z + 2 ∧ 0 ≤ 0 - p2 + z + 4 ∧ 0 ≤ p2 - z + 15)) rv hp' ∧ bSh G hp') (bTh G [(262144, 3), (262144, 4), (262144, 5), (262144, 6), (262144, 7), (2251799813685248, 9), (2251799813685248, 10), (2269391999729664, 11), (17592186044416, 12), (17592186044416, 13), (17592186060800, 14), (17592186044416, 15), (2211795186911543296, 256)] [0, 2] hp)) 99 0 [(0, yR k0), (1, yI (p1)), (2, yI (p2))] [] hp
  refine yG.load xak rfl (fun _ _ => rfl) (v := yR k0) rfl rfl ?_
  refine yG.load xik rfl (fun _ _ => rfl) (v := yI (p1)) rfl rfl ?_
  refine yG.invVT (rest := []) A_hp.1 (bOb (d_G W) H_k0) rfl rfl rfl rfl (c_G_testBar W (d + 3) A_hp.1 H_k0 (p1) (by omega) (by omega)) (fun hp8 e8 t8 => bP.thr2 (bTh.sub A_hp t8 (by decide) (by decide))) (fun rv hp9 q9 => ?_)
  obtain ⟨⟨rfl, R_z1⟩, e9⟩ := q9
  rw [e9]
  show yG _ _ _ _ _ _ _ _ _ _ [] _
  refine yG.load xik rfl (fun _ _ => rfl) (v := yI (p2)) rfl rfl ?_
  refine yG.num (c := 0) rfl (fun _ _ => rfl) (by decide) ?_
  refine yG.num (c := 4) rfl (fun _ _ => rfl) (by decide) ?_
  refine yG.invST (rest := []) rfl rfl rfl rfl (c_G_testWithin W (d + 4) A_hp.1 (p2) (0) (4) (by omega) (by omega) (by omega) (by omega) (by omega) (by omega)) (fun hp8 e8 t8 => bP.thr2 (bTh.sub A_hp t8 (by decide) (by decide))) (fun rv hp9 q9 => ?_)
  obtain ⟨⟨rfl, R_z2⟩, e9⟩ := q9
  rw [e9]
  show yG _ _ _ _ _ _ _ _ _ _ [] _
  refine yG.load xak rfl (fun _ _ => rfl) (v := yR k0) rfl rfl ?_
  refine yG.invV (rest := []) A_hp.1 (bOb (d_G W) H_k0) rfl rfl rfl rfl (c_G_now W d A_hp.1 H_k0) (fun rv h3 q9 => ?_)
  obtain ⟨⟨r4, rfl, H_r4⟩, B_h3⟩ := q9
  have A_h3 := A_hp.tr B_h3 (by decide)
  have M_bSh_h3 := M_bSh_hp.fr B_h3 (by decide)
  show yG _ _ _ _ _ _ _ _ _ _ (yR r4 :: []) _
  refine yG.store1 xak (L' := [(3, yR r4), (0, yR k0), (1, yI (p1)), (2, yI (p2))]) rfl (fun _ _ => rfl) rfl rfl ?_
  refine yG.load xak rfl (fun _ _ => rfl) (v := yR r4) rfl rfl ?_
  refine yG.getO A_h3.1 (w_Flow_shape W H_r4) rfl rfl (fun r5 H_r5 O_r5 q_r5 => ?_)
  refine yG.getO A_h3.1 (w_Shape_island W H_r5) rfl rfl (fun r6 H_r6 O_r6 q_r6 => ?_)
  refine yG.load xik rfl (fun _ _ => rfl) (v := yI (p1)) rfl rfl ?_
  refine yG.ialdF A_h3.1 (v_Shape_island W H_r6) rfl rfl (by omega) (by omega) (fun z7 e_z7 i_z7 l_z7 u_z7 => ?_)
  refine yG.store1 xik (L' := [(4, yI (z7)), (3, yR r4), (0, yR k0), (1, yI (p1)), (2, yI (p2))]) rfl (fun _ _ => rfl) rfl rfl ?_
  refine yG.load xik rfl (fun _ _ => rfl) (v := yI (p2)) rfl rfl ?_
  rcases (show (p2 < (0 : Int) ∨ (3 : Int) < p2) ∨ p2 = (0 : Int) ∨ p2 = (1 : Int) ∨ p2 = (2 : Int) ∨ p2 = (3 : Int) by omega) with c8 | c8 | c8 | c8 | c8
  · skip
    refine yG.tswD (t := 108) rfl ⟨by omega, by omega⟩ c8 rfl ?_
    refine yG.load xak rfl (fun _ _ => rfl) (v := yR r4) rfl rfl ?_
    refine yG.getS9 A_h3.1 (w_Flow_shape W H_r4) q_r5 rfl rfl ?_
    refine yG.getO A_h3.1 (w_Shape_live W H_r5) rfl rfl (fun r9 H_r9 O_r9 q_r9 => ?_)
    refine yG.load xik rfl (fun _ _ => rfl) (v := yI (z7)) rfl rfl ?_
    refine yG.bald A_h3.1 (v_Shape_live W H_r9) rfl (by omega) (by omega) (fun z10 e_z10 i_z10 l_z10 u_z10 => ?_)
    refine yG.ifz rfl (t := 125) rfl ⟨by omega, by omega⟩ (fun c11 => ?_) (fun c11 => ?_)
    · have c11 : (z10 : Int) = 0 := c11
      refine yG.load xak rfl (fun _ _ => rfl) (v := yR k0) rfl rfl ?_
      refine yG.load xik rfl (fun _ _ => rfl) (v := yI (p1)) rfl rfl ?_
      refine yG.invV (rest := []) A_h3.1 (bOb (d_G W) H_k0) rfl rfl rfl rfl (c_G_maybeLive W (d + 1) A_h3.1 M_bSh_h3 H_k0 (p1) (by omega) (by omega)) (fun rv h12 q9 => ?_)
      obtain ⟨q9, M_bSh_h12⟩ := q9
      obtain ⟨⟨z13, rfl, l_z13, u_z13, R_z13⟩, B_h12⟩ := q9
      have A_h12 := A_h3.tr B_h12 (by decide)
      have qq1 : zsl h12 r4 0 = yR r5 := (B_h12.sl H_r4 (by decide)).trans q_r5
      show yG _ _ _ _ _ _ _ _ _ _ (yI z13 :: []) _
      refine yG.ifz rfl (t := 137) rfl ⟨by omega, by omega⟩ (fun c14 => ?_) (fun c14 => ?_)
      · have c14 : (z13 : Int) = 0 := c14
        refine yG.num (c := 0) rfl (fun _ _ => rfl) (by decide) ?_
        refine yG.ret rfl (fun _ _ => rfl) ?_
        exact .inl (yP.int ⟨by omega, by omega⟩ ⟨⟨⟨0, rfl, by omega, by omega, by omega⟩, A_h12⟩, M_bSh_h12⟩)
      · have c14 : (z13 : Int) ≠ 0 := c14
        refine yG.num (c := 2) rfl (fun _ _ => rfl) (by decide) ?_
        refine yG.goto rfl (t := 138) rfl ?_
        refine yG.ret rfl (fun _ _ => rfl) ?_
        exact .inl (yP.int ⟨by omega, by omega⟩ ⟨⟨⟨2, rfl, by omega, by omega, by omega⟩, A_h12⟩, M_bSh_h12⟩)
    · have c11 : (z10 : Int) ≠ 0 := c11
      refine yG.num (c := 1) rfl (fun _ _ => rfl) (by decide) ?_
      refine yG.goto rfl (t := 138) rfl ?_
      refine yG.ret rfl (fun _ _ => rfl) ?_
      exact .inl (yP.int ⟨by omega, by omega⟩ ⟨⟨⟨1, rfl, by omega, by omega, by omega⟩, A_h3⟩, M_bSh_h3⟩)
  · skip
    refine yG.tswC (i := 0) (t := 60) rfl ⟨by omega, by omega⟩ (by omega) (by omega) rfl rfl ?_
    refine yG.load xak rfl (fun _ _ => rfl) (v := yR r4) rfl rfl ?_
    refine yG.getS9 A_h3.1 (w_Flow_shape W H_r4) q_r5 rfl rfl ?_
    refine yG.getO A_h3.1 (w_Shape_node W H_r5) rfl rfl (fun r15 H_r15 O_r15 q_r15 => ?_)
    refine yG.load xik rfl (fun _ _ => rfl) (v := yI (p1)) rfl rfl ?_
    refine yG.ialdF A_h3.1 (v_Shape_node W H_r15) rfl rfl (by omega) (by omega) (fun z16 e_z16 i_z16 l_z16 u_z16 => ?_)
    refine yG.ret rfl (fun _ _ => rfl) ?_
    exact .inl (yP.int ⟨by omega, by omega⟩ ⟨⟨⟨z16, rfl, by omega, by omega, by omega⟩, A_h3⟩, M_bSh_h3⟩)
  · skip
    refine yG.tswC (i := 1) (t := 70) rfl ⟨by omega, by omega⟩ (by omega) (by omega) rfl rfl ?_
    refine yG.load xik rfl (fun _ _ => rfl) (v := yI (z7)) rfl rfl ?_
    refine yG.ret rfl (fun _ _ => rfl) ?_
    exact .inl (yP.int ⟨by omega, by omega⟩ ⟨⟨⟨z7, rfl, by omega, by omega, by omega⟩, A_h3⟩, M_bSh_h3⟩)
  · skip
    refine yG.tswC (i := 2) (t := 73) rfl ⟨by omega, by omega⟩ (by omega) (by omega) rfl rfl ?_
    refine yG.load xak rfl (fun _ _ => rfl) (v := yR r4) rfl rfl ?_
    refine yG.getS9 A_h3.1 (w_Flow_shape W H_r4) q_r5 rfl rfl ?_
    refine yG.getO A_h3.1 (w_Shape_live W H_r5) rfl rfl (fun r17 H_r17 O_r17 q_r17 => ?_)
    refine yG.load xik rfl (fun _ _ => rfl) (v := yI (z7)) rfl rfl ?_
    refine yG.bald A_h3.1 (v_Shape_live W H_r17) rfl (by omega) (by omega) (fun z18 e_z18 i_z18 l_z18 u_z18 => ?_)
    refine yG.ifz rfl (t := 90) rfl ⟨by omega, by omega⟩ (fun c19 => ?_) (fun c19 => ?_)
    · have c19 : (z18 : Int) = 0 := c19
      refine yG.num (c := 0) rfl (fun _ _ => rfl) (by decide) ?_
      refine yG.ret rfl (fun _ _ => rfl) ?_
      exact .inl (yP.int ⟨by omega, by omega⟩ ⟨⟨⟨0, rfl, by omega, by omega, by omega⟩, A_h3⟩, M_bSh_h3⟩)
    · have c19 : (z18 : Int) ≠ 0 := c19
      refine yG.num (c := 1) rfl (fun _ _ => rfl) (by decide) ?_
      refine yG.goto rfl (t := 91) rfl ?_
      refine yG.ret rfl (fun _ _ => rfl) ?_
      exact .inl (yP.int ⟨by omega, by omega⟩ ⟨⟨⟨1, rfl, by omega, by omega, by omega⟩, A_h3⟩, M_bSh_h3⟩)
  · skip
    refine yG.tswC (i := 3) (t := 92) rfl ⟨by omega, by omega⟩ (by omega) (by omega) rfl rfl ?_
    refine yG.load xak rfl (fun _ _ => rfl) (v := yR r4) rfl rfl ?_
    refine yG.getO A_h3.1 (w_Flow_stuck W H_r4) rfl rfl (fun r20 H_r20 O_r20 q_r20 => ?_)
    refine yG.load xik rfl (fun _ _ => rfl) (v := yI (z7)) rfl rfl ?_
    refine yG.bald A_h3.1 (v_Flow_stuck W H_r20) rfl (by omega) (by omega) (fun z21 e_z21 i_z21 l_z21 u_z21 => ?_)
    refine yG.ifz rfl (t := 106) rfl ⟨by omega, by omega⟩ (fun c22 => ?_) (fun c22 => ?_)
    · have c22 : (z21 : Int) = 0 := c22
      refine yG.num (c := 0) rfl (fun _ _ => rfl) (by decide) ?_
      refine yG.ret rfl (fun _ _ => rfl) ?_
      exact .inl (yP.int ⟨by omega, by omega⟩ ⟨⟨⟨0, rfl, by omega, by omega, by omega⟩, A_h3⟩, M_bSh_h3⟩)
    · have c22 : (z21 : Int) ≠ 0 := c22
      refine yG.num (c := 1) rfl (fun _ _ => rfl) (by decide) ?_
      refine yG.goto rfl (t := 107) rfl ?_
      refine yG.ret rfl (fun _ _ => rfl) ?_
      exact .inl (yP.int ⟨by omega, by omega⟩ ⟨⟨⟨1, rfl, by omega, by omega, by omega⟩, A_h3⟩, M_bSh_h3⟩)
theorem c_G_angle {hp : xH} (W : bW G) (d : Nat) (hT : zTy G hp) {k0 : Nat} (H_k0 : bRo G 14 k0) (p1 : Int) (h1l : (-2147483648) ≤ p1) (h1u : p1 ≤ 2147483647) : bC (xcall 89 xfts xpools xms (d + 7)) 278 [yR k0, yI (p1)] hp (bQi G [(34359738368, 1), (1133871366144, 2), (1099511627776, 3), (1099511627776, 6), (1116691496960, 7), (1099511627776, 8), (2251799813685248, 9), (2251799813685248, 10), (2269391999729664, 11), (17592186044416, 12), (17592186044416, 13), (17592186060800, 14), (17592186044416, 15), (2229825043011993600, 256)] hp (-1) 1 (fun z => 0 ≤ 0 - p1 + z + 16 ∧ 0 ≤ p1 - z + 1)) (bTh G [(34359738368, 1), (1133871366144, 2), (1099511627776, 3), (1099511627776, 6), (1116691496960, 7), (1099511627776, 8), (2251799813685248, 9), (2251799813685248, 10), (2269391999729664, 11), (17592186044416, 12), (17592186044416, 13), (17592186060800, 14), (17592186044416, 15), (2229825043011993600, 256)] [2] hp) := by
  have A_hp : bAx G [(34359738368, 1), (1133871366144, 2), (1099511627776, 3), (1099511627776, 6), (1116691496960, 7), (1099511627776, 8), (2251799813685248, 9), (2251799813685248, 10), (2269391999729664, 11), (17592186044416, 12), (17592186044416, 13), (17592186060800, 14), (17592186044416, 15), (2229825043011993600, 256)] hp hp := bAx.rf hT
  refine bC.of (M := (xt_X12_angle, (2, (1, (13, []))))) rfl rfl (N := 45) (yfuel (by decide)) ?_
  show yG 89 xfts (xcall 89 xfts xpools xms (d + 6)) (xpool xp_RX12) [] xt_X12_angle (bP 1 (bQi G [(34359738368, 1), (1133871366144, 2), (1099511627776, 3), (1099511627776, 6), (1116691496960, 7), (1099511627776, 8), (2251799813685248, 9), (2251799813685248, 10), (2269391999729664, 11), (17592186044416, 12), (17592186044416, 13), (17592186060800, 14), (17592186044416, 15), (2229825043011993600, 256)] hp (-1) 1 (fun z => 0 ≤ 0 - p1 + z + 16 ∧ 0 ≤ p1 - z + 1)) (bTh G [(34359738368, 1), (1133871366144, 2), (1099511627776, 3), (1099511627776, 6), (1116691496960, 7), (1099511627776, 8), (2251799813685248, 9), (2251799813685248, 10), (2269391999729664, 11), (17592186044416, 12), (17592186044416, 13), (17592186060800, 14), (17592186044416, 15), (2229825043011993600, 256)] [2] hp)) 45 0 [(0, yR k0), (1, yI (p1))] [] hp
  refine yG.load xak rfl (fun _ _ => rfl) (v := yR k0) rfl rfl ?_
  refine yG.load xik rfl (fun _ _ => rfl) (v := yI (p1)) rfl rfl ?_
  refine yG.invVT (rest := []) A_hp.1 (bOb (d_G W) H_k0) rfl rfl rfl rfl (c_G_testBar W (d + 4) A_hp.1 H_k0 (p1) (by omega) (by omega)) (fun hp8 e8 t8 => bP.thr2 (bTh.sub A_hp t8 (by decide) (by decide))) (fun rv hp9 q9 => ?_)
  obtain ⟨⟨rfl, R_z1⟩, e9⟩ := q9
  rw [e9]
  show yG _ _ _ _ _ _ _ _ _ _ [] _
  refine yG.load xak rfl (fun _ _ => rfl) (v := yR k0) rfl rfl ?_
  refine yG.invV (rest := []) A_hp.1 (bOb (d_G W) H_k0) rfl rfl rfl rfl (c_G_now W (d + 1) A_hp.1 H_k0) (fun rv h2 q9 => ?_)
  obtain ⟨⟨r3, rfl, H_r3⟩, B_h2⟩ := q9
  have A_h2 := A_hp.tr B_h2 (by decide)
  show yG _ _ _ _ _ _ _ _ _ _ (yR r3 :: []) _
  refine yG.load xik rfl (fun _ _ => rfl) (v := yI (p1)) rfl rfl ?_
  refine yG.load xak rfl (fun _ _ => rfl) (v := yR k0) rfl rfl ?_
  refine yG.getO A_h2.1 (w_G_hand W H_k0) rfl rfl (fun r4 H_r4 O_r4 q_r4 => ?_)
  refine yG.invV (rest := []) A_h2.1 (bOb (d_Flow W) H_r3) rfl rfl rfl rfl (c_Flow_tellAngle W d A_h2.1 H_r3 H_r4 (p1) (by omega) (by omega)) (fun rv h5 q9 => ?_)
  obtain ⟨⟨rfl, R_z6⟩, B_h5⟩ := q9
  have A_h5 := A_h2.tr B_h5 (by decide)
  have qq1 : zsl h5 k0 5 = yR r4 := (B_h5.sl H_k0 (by decide)).trans q_r4
  show yG _ _ _ _ _ _ _ _ _ _ [] _
  refine yG.load xak rfl (fun _ _ => rfl) (v := yR k0) rfl rfl ?_
  refine yG.getS9 A_h5.1 (w_G_hand W H_k0) qq1 rfl rfl ?_
  refine yG.invV (rest := []) A_h5.1 (bOb (d_Hand W) H_r4) rfl rfl rfl rfl (c_Hand_made W (d + 4) A_h5.1 H_r4) (fun rv h7 q9 => ?_)
  obtain ⟨⟨z8, rfl, l_z8, u_z8, R_z8⟩, B_h7⟩ := q9
  have A_h7 := A_h5.tr B_h7 (by decide)
  have qq2 : zsl h7 k0 5 = yR r4 := (B_h7.sl H_k0 (by decide)).trans qq1
  show yG _ _ _ _ _ _ _ _ _ _ (yI z8 :: []) _
  refine yG.ret rfl (fun _ _ => rfl) ?_
  exact .inl (yP.int ⟨by omega, by omega⟩ ⟨⟨z8, rfl, by omega, by omega, by omega⟩, A_h7⟩)
theorem c_G_carries {hp : xH} (W : bW G) (d : Nat) (hT : zTy G hp) {k0 : Nat} (H_k0 : bRo G 14 k0) (p1 : Int) (h1l : (-2147483648) ≤ p1) (h1u : p1 ≤ 2147483647) : bC (xcall 89 xfts xpools xms (d + 7)) 284 [yR k0, yI (p1)] hp (bQi G [(34359738368, 1), (1133871366144, 2), (1099511627776, 3), (1099511627776, 6), (1116691496960, 7), (1099511627776, 8), (2251799813685248, 9), (2251799813685248, 10), (2269391999729664, 11), (17592186044416, 12), (17592186044416, 13), (17592186060800, 14), (17592186044416, 15), (2229825043011993600, 256)] hp (-1) 1 (fun z => 0 ≤ 0 - p1 + z + 20 ∧ 0 ≤ p1 - z + 1)) (bTh G [(34359738368, 1), (1133871366144, 2), (1099511627776, 3), (1099511627776, 6), (1116691496960, 7), (1099511627776, 8), (2251799813685248, 9), (2251799813685248, 10), (2269391999729664, 11), (17592186044416, 12), (17592186044416, 13), (17592186060800, 14), (17592186044416, 15), (2229825043011993600, 256)] [2] hp) := by
  have A_hp : bAx G [(34359738368, 1), (1133871366144, 2), (1099511627776, 3), (1099511627776, 6), (1116691496960, 7), (1099511627776, 8), (2251799813685248, 9), (2251799813685248, 10), (2269391999729664, 11), (17592186044416, 12), (17592186044416, 13), (17592186060800, 14), (17592186044416, 15), (2229825043011993600, 256)] hp hp := bAx.rf hT
  refine bC.of (M := (xt_X12_carries, (2, (1, (13, []))))) rfl rfl (N := 45) (yfuel (by decide)) ?_
  show yG 89 xfts (xcall 89 xfts xpools xms (d + 6)) (xpool xp_RX12) [] xt_X12_carries (bP 1 (bQi G [(34359738368, 1), (1133871366144, 2), (1099511627776, 3), (1099511627776, 6), (1116691496960, 7), (1099511627776, 8), (2251799813685248, 9), (2251799813685248, 10), (2269391999729664, 11), (17592186044416, 12), (17592186044416, 13), (17592186060800, 14), (17592186044416, 15), (2229825043011993600, 256)] hp (-1) 1 (fun z => 0 ≤ 0 - p1 + z + 20 ∧ 0 ≤ p1 - z + 1)) (bTh G [(34359738368, 1), (1133871366144, 2), (1099511627776, 3), (1099511627776, 6), (1116691496960, 7), (1099511627776, 8), (2251799813685248, 9), (2251799813685248, 10), (2269391999729664, 11), (17592186044416, 12), (17592186044416, 13), (17592186060800, 14), (17592186044416, 15), (2229825043011993600, 256)] [2] hp)) 45 0 [(0, yR k0), (1, yI (p1))] [] hp
  refine yG.load xak rfl (fun _ _ => rfl) (v := yR k0) rfl rfl ?_
  refine yG.load xik rfl (fun _ _ => rfl) (v := yI (p1)) rfl rfl ?_
  refine yG.invVT (rest := []) A_hp.1 (bOb (d_G W) H_k0) rfl rfl rfl rfl (c_G_testLine W (d + 4) A_hp.1 H_k0 (p1) (by omega) (by omega)) (fun hp8 e8 t8 => bP.thr2 (bTh.sub A_hp t8 (by decide) (by decide))) (fun rv hp9 q9 => ?_)
  obtain ⟨⟨rfl, R_z1⟩, e9⟩ := q9
  rw [e9]
  show yG _ _ _ _ _ _ _ _ _ _ [] _
  refine yG.load xak rfl (fun _ _ => rfl) (v := yR k0) rfl rfl ?_
  refine yG.invV (rest := []) A_hp.1 (bOb (d_G W) H_k0) rfl rfl rfl rfl (c_G_now W (d + 1) A_hp.1 H_k0) (fun rv h2 q9 => ?_)
  obtain ⟨⟨r3, rfl, H_r3⟩, B_h2⟩ := q9
  have A_h2 := A_hp.tr B_h2 (by decide)
  show yG _ _ _ _ _ _ _ _ _ _ (yR r3 :: []) _
  refine yG.load xik rfl (fun _ _ => rfl) (v := yI (p1)) rfl rfl ?_
  refine yG.load xak rfl (fun _ _ => rfl) (v := yR k0) rfl rfl ?_
  refine yG.getO A_h2.1 (w_G_hand W H_k0) rfl rfl (fun r4 H_r4 O_r4 q_r4 => ?_)
  refine yG.invV (rest := []) A_h2.1 (bOb (d_Flow W) H_r3) rfl rfl rfl rfl (c_Flow_tellCarried W d A_h2.1 H_r3 H_r4 (p1) (by omega) (by omega)) (fun rv h5 q9 => ?_)
  obtain ⟨⟨rfl, R_z6⟩, B_h5⟩ := q9
  have A_h5 := A_h2.tr B_h5 (by decide)
  have qq1 : zsl h5 k0 5 = yR r4 := (B_h5.sl H_k0 (by decide)).trans q_r4
  show yG _ _ _ _ _ _ _ _ _ _ [] _
  refine yG.load xak rfl (fun _ _ => rfl) (v := yR k0) rfl rfl ?_
  refine yG.getS9 A_h5.1 (w_G_hand W H_k0) qq1 rfl rfl ?_
  refine yG.invV (rest := []) A_h5.1 (bOb (d_Hand W) H_r4) rfl rfl rfl rfl (c_Hand_made W (d + 4) A_h5.1 H_r4) (fun rv h7 q9 => ?_)
  obtain ⟨⟨z8, rfl, l_z8, u_z8, R_z8⟩, B_h7⟩ := q9
  have A_h7 := A_h5.tr B_h7 (by decide)
  have qq2 : zsl h7 k0 5 = yR r4 := (B_h7.sl H_k0 (by decide)).trans qq1
  show yG _ _ _ _ _ _ _ _ _ _ (yI z8 :: []) _
  refine yG.ret rfl (fun _ _ => rfl) ?_
  exact .inl (yP.int ⟨by omega, by omega⟩ ⟨⟨z8, rfl, by omega, by omega, by omega⟩, A_h7⟩)
theorem c_G_gives {hp : xH} (W : bW G) (d : Nat) (hT : zTy G hp) {k0 : Nat} (H_k0 : bRo G 14 k0) (p1 : Int) (h1l : (-2147483648) ≤ p1) (h1u : p1 ≤ 2147483647) : bC (xcall 89 xfts xpools xms (d + 6)) 303 [yR k0, yI (p1)] hp (bQi G [(34359738368, 1), (34359738368, 2), (17179869184, 7), (2251799813685248, 9), (2251799813685248, 10), (2269391999729664, 11), (17592186044416, 12), (17592186044416, 13), (17592186060800, 14), (17592186044416, 15), (2211795251339722752, 256)] hp (-1) 1 (fun z => 0 ≤ 0 - p1 + z + 6 ∧ 0 ≤ p1 - z + 1)) (bTh G [(34359738368, 1), (34359738368, 2), (17179869184, 7), (2251799813685248, 9), (2251799813685248, 10), (2269391999729664, 11), (17592186044416, 12), (17592186044416, 13), (17592186060800, 14), (17592186044416, 15), (2211795251339722752, 256)] [2] hp) := by
  have A_hp : bAx G [(34359738368, 1), (34359738368, 2), (17179869184, 7), (2251799813685248, 9), (2251799813685248, 10), (2269391999729664, 11), (17592186044416, 12), (17592186044416, 13), (17592186060800, 14), (17592186044416, 15), (2211795251339722752, 256)] hp hp := bAx.rf hT
  refine bC.of (M := (xt_X12_gives, (2, (1, (13, []))))) rfl rfl (N := 45) (yfuel (by decide)) ?_
  show yG 89 xfts (xcall 89 xfts xpools xms (d + 5)) (xpool xp_RX12) [] xt_X12_gives (bP 1 (bQi G [(34359738368, 1), (34359738368, 2), (17179869184, 7), (2251799813685248, 9), (2251799813685248, 10), (2269391999729664, 11), (17592186044416, 12), (17592186044416, 13), (17592186060800, 14), (17592186044416, 15), (2211795251339722752, 256)] hp (-1) 1 (fun z => 0 ≤ 0 - p1 + z + 6 ∧ 0 ≤ p1 - z + 1)) (bTh G [(34359738368, 1), (34359738368, 2), (17179869184, 7), (2251799813685248, 9), (2251799813685248, 10), (2269391999729664, 11), (17592186044416, 12), (17592186044416, 13), (17592186060800, 14), (17592186044416, 15), (2211795251339722752, 256)] [2] hp)) 45 0 [(0, yR k0), (1, yI (p1))] [] hp
  refine yG.load xak rfl (fun _ _ => rfl) (v := yR k0) rfl rfl ?_
  refine yG.load xik rfl (fun _ _ => rfl) (v := yI (p1)) rfl rfl ?_
  refine yG.invVT (rest := []) A_hp.1 (bOb (d_G W) H_k0) rfl rfl rfl rfl (c_G_testMachine W (d + 3) A_hp.1 H_k0 (p1) (by omega) (by omega)) (fun hp8 e8 t8 => bP.thr2 (bTh.sub A_hp t8 (by decide) (by decide))) (fun rv hp9 q9 => ?_)
  obtain ⟨⟨rfl, R_z1⟩, e9⟩ := q9
  rw [e9]
  show yG _ _ _ _ _ _ _ _ _ _ [] _
  refine yG.load xak rfl (fun _ _ => rfl) (v := yR k0) rfl rfl ?_
  refine yG.invV (rest := []) A_hp.1 (bOb (d_G W) H_k0) rfl rfl rfl rfl (c_G_now W d A_hp.1 H_k0) (fun rv h2 q9 => ?_)
  obtain ⟨⟨r3, rfl, H_r3⟩, B_h2⟩ := q9
  have A_h2 := A_hp.tr B_h2 (by decide)
  show yG _ _ _ _ _ _ _ _ _ _ (yR r3 :: []) _
  refine yG.load xik rfl (fun _ _ => rfl) (v := yI (p1)) rfl rfl ?_
  refine yG.load xak rfl (fun _ _ => rfl) (v := yR k0) rfl rfl ?_
  refine yG.getO A_h2.1 (w_G_hand W H_k0) rfl rfl (fun r4 H_r4 O_r4 q_r4 => ?_)
  refine yG.invV (rest := []) A_h2.1 (bOb (d_Flow W) H_r3) rfl rfl rfl rfl (c_Flow_tellGiven W (d + 2) A_h2.1 H_r3 H_r4 (p1) (by omega) (by omega)) (fun rv h5 q9 => ?_)
  obtain ⟨⟨rfl, R_z6⟩, B_h5⟩ := q9
  have A_h5 := A_h2.tr B_h5 (by decide)
  have qq1 : zsl h5 k0 5 = yR r4 := (B_h5.sl H_k0 (by decide)).trans q_r4
  show yG _ _ _ _ _ _ _ _ _ _ [] _
  refine yG.load xak rfl (fun _ _ => rfl) (v := yR k0) rfl rfl ?_
  refine yG.getS9 A_h5.1 (w_G_hand W H_k0) qq1 rfl rfl ?_
  refine yG.invV (rest := []) A_h5.1 (bOb (d_Hand W) H_r4) rfl rfl rfl rfl (c_Hand_made W (d + 3) A_h5.1 H_r4) (fun rv h7 q9 => ?_)
  obtain ⟨⟨z8, rfl, l_z8, u_z8, R_z8⟩, B_h7⟩ := q9
  have A_h7 := A_h5.tr B_h7 (by decide)
  have qq2 : zsl h7 k0 5 = yR r4 := (B_h7.sl H_k0 (by decide)).trans qq1
  show yG _ _ _ _ _ _ _ _ _ _ (yI z8 :: []) _
  refine yG.ret rfl (fun _ _ => rfl) ?_
  exact .inl (yP.int ⟨by omega, by omega⟩ ⟨⟨z8, rfl, by omega, by omega, by omega⟩, A_h7⟩)
theorem c_G_figures {hp : xH} (W : bW G) (d : Nat) (hT : zTy G hp) {k0 : Nat} (H_k0 : bRo G 14 k0) (p1 : Int) (h1l : (-2147483648) ≤ p1) (h1u : p1 ≤ 2147483647) : bC (xcall 89 xfts xpools xms (d + 7)) 300 [yR k0, yI (p1)] hp (bQi G [(34359738368, 1), (34359738368, 2), (17179869184, 7), (893353197568, 256)] hp 0 900 (fun z => 0 ≤ 0 - p1 + z + 1 ∧ 0 ≤ p1 - z + 900)) (bTh G [(34359738368, 1), (34359738368, 2), (17179869184, 7), (893353197568, 256)] [0] hp) := by
  have A_hp : bAx G [(34359738368, 1), (34359738368, 2), (17179869184, 7), (893353197568, 256)] hp hp := bAx.rf hT
  refine bC.of (M := (xt_X12_figures, (2, (1, (13, []))))) rfl rfl (N := 33) (yfuel (by decide)) ?_
  show yG 89 xfts (xcall 89 xfts xpools xms (d + 6)) (xpool xp_RX12) [] xt_X12_figures (bP 1 (bQi G [(34359738368, 1), (34359738368, 2), (17179869184, 7), (893353197568, 256)] hp 0 900 (fun z => 0 ≤ 0 - p1 + z + 1 ∧ 0 ≤ p1 - z + 900)) (bTh G [(34359738368, 1), (34359738368, 2), (17179869184, 7), (893353197568, 256)] [0] hp)) 33 0 [(0, yR k0), (1, yI (p1))] [] hp
  refine yG.load xik rfl (fun _ _ => rfl) (v := yI (p1)) rfl rfl ?_
  refine yG.num (c := 0) rfl (fun _ _ => rfl) (by decide) ?_
  refine yG.num (c := 1) rfl (fun _ _ => rfl) (by decide) ?_
  refine yG.invST (rest := []) rfl rfl rfl rfl (c_G_testWithin W (d + 5) A_hp.1 (p1) (0) (1) (by omega) (by omega) (by omega) (by omega) (by omega) (by omega)) (fun hp8 e8 t8 => bP.thr2 (bTh.sub A_hp t8 (by decide) (by decide))) (fun rv hp9 q9 => ?_)
  obtain ⟨⟨rfl, R_z1⟩, e9⟩ := q9
  rw [e9]
  show yG _ _ _ _ _ _ _ _ _ _ [] _
  refine yG.load xak rfl (fun _ _ => rfl) (v := yR k0) rfl rfl ?_
  refine yG.getO A_hp.1 (w_G_hand W H_k0) rfl rfl (fun r2 H_r2 O_r2 q_r2 => ?_)
  refine yG.load xik rfl (fun _ _ => rfl) (v := yI (p1)) rfl rfl ?_
  refine yG.invV (rest := []) A_hp.1 (bOb (d_Hand W) H_r2) rfl rfl rfl rfl (c_Hand_length W d A_hp.1 H_r2 (p1) (by omega) (by omega)) (fun rv h3 q9 => ?_)
  obtain ⟨⟨z4, rfl, l_z4, u_z4, R_z4⟩, B_h3⟩ := q9
  have A_h3 := A_hp.tr B_h3 (by decide)
  show yG _ _ _ _ _ _ _ _ _ _ (yI z4 :: []) _
  refine yG.ret rfl (fun _ _ => rfl) ?_
  exact .inl (yP.int ⟨by omega, by omega⟩ ⟨⟨z4, rfl, by omega, by omega, by omega⟩, A_h3⟩)
theorem c_G_figure {hp : xH} (W : bW G) (d : Nat) (hT : zTy G hp) {k0 : Nat} (H_k0 : bRo G 14 k0) (p1 p2 : Int) (h1l : (-2147483648) ≤ p1) (h1u : p1 ≤ 2147483647) (h2l : (-2147483648) ≤ p2) (h2u : p2 ≤ 2147483647) : bC (xcall 89 xfts xpools xms (d + 7)) 299 [yR k0, yI (p1), yI (p2)] hp (bQi G [(34359738368, 1), (34359738368, 2), (17179869184, 7), (893353197568, 256)] hp (-2147483648) 2147483647 (fun z => 0 ≤ 0 - p1 + z + 2147483649 ∧ 0 ≤ p1 - z + 2147483647 ∧ 0 ≤ 0 - p2 + z + 2147484547 ∧ 0 ≤ p2 - z + 2147483647)) (bTh G [(34359738368, 1), (34359738368, 2), (17179869184, 7), (893353197568, 256)] [0] hp) := by
  have A_hp : bAx G [(34359738368, 1), (34359738368, 2), (17179869184, 7), (893353197568, 256)] hp hp := bAx.rf hT
  refine bC.of (M := (xt_X12_figure, (3, (1, (13, []))))) rfl rfl (N := 36) (yfuel (by decide)) ?_
  show yG 89 xfts (xcall 89 xfts xpools xms (d + 6)) (xpool xp_RX12) [] xt_X12_figure (bP 1 (bQi G [(34359738368, 1), (34359738368, 2), (17179869184, 7), (893353197568, 256)] hp (-2147483648) 2147483647 (fun z => 0 ≤ 0 - p1 + z + 2147483649 ∧ 0 ≤ p1 - z + 2147483647 ∧ 0 ≤ 0 - p2 + z + 2147484547 ∧ 0 ≤ p2 - z + 2147483647)) (bTh G [(34359738368, 1), (34359738368, 2), (17179869184, 7), (893353197568, 256)] [0] hp)) 36 0 [(0, yR k0), (1, yI (p1)), (2, yI (p2))] [] hp
  refine yG.load xik rfl (fun _ _ => rfl) (v := yI (p1)) rfl rfl ?_
  refine yG.num (c := 0) rfl (fun _ _ => rfl) (by decide) ?_
  refine yG.num (c := 1) rfl (fun _ _ => rfl) (by decide) ?_
  refine yG.invST (rest := []) rfl rfl rfl rfl (c_G_testWithin W (d + 5) A_hp.1 (p1) (0) (1) (by omega) (by omega) (by omega) (by omega) (by omega) (by omega)) (fun hp8 e8 t8 => bP.thr2 (bTh.sub A_hp t8 (by decide) (by decide))) (fun rv hp9 q9 => ?_)
  obtain ⟨⟨rfl, R_z1⟩, e9⟩ := q9
  rw [e9]
  show yG _ _ _ _ _ _ _ _ _ _ [] _
  refine yG.load xak rfl (fun _ _ => rfl) (v := yR k0) rfl rfl ?_
  refine yG.getO A_hp.1 (w_G_hand W H_k0) rfl rfl (fun r2 H_r2 O_r2 q_r2 => ?_)
  refine yG.load xik rfl (fun _ _ => rfl) (v := yI (p1)) rfl rfl ?_
  refine yG.load xik rfl (fun _ _ => rfl) (v := yI (p2)) rfl rfl ?_
  refine yG.invV (rest := []) A_hp.1 (bOb (d_Hand W) H_r2) rfl rfl rfl rfl (c_Hand_digit W d A_hp.1 H_r2 (p1) (p2) (by omega) (by omega) (by omega) (by omega)) (fun rv h3 q9 => ?_)
  obtain ⟨⟨z4, rfl, l_z4, u_z4, R_z4⟩, B_h3⟩ := q9
  have A_h3 := A_hp.tr B_h3 (by decide)
  show yG _ _ _ _ _ _ _ _ _ _ (yI z4 :: []) _
  refine yG.ret rfl (fun _ _ => rfl) ?_
  exact .inl (yP.int ⟨by omega, by omega⟩ ⟨⟨z4, rfl, by omega, by omega, by omega⟩, A_h3⟩)
theorem c_G_screen {hp : xH} (W : bW G) (d : Nat) (hT : zTy G hp) (M_bSh : bSh G hp) {k0 : Nat} (H_k0 : bRo G 14 k0) : yC (xcall 89 xfts xpools xms (d + 8)) 323 [yR k0] hp (fun rv hp' => (bQi G [(34359738368, 1), (1133871366144, 2), (1099511889920, 3), (262144, 4), (262144, 5), (1099511889920, 6), (1099511889920, 7), (1099511627776, 8), (2251799813685248, 9), (2251799813685248, 10), (41538374868278621030513362633490432, 11), (41538374868278621028261562819805184, 12), (41538374868278621028261562819805184, 13), (41538374868278621028261562819821568, 14), (41538374868278621028261562819805184, 15), (2230950947210133504, 256)] hp (-1) 20 (fun _ => True)) rv hp' ∧ bSh G hp') := by
  have A_hp : bAx G [(34359738368, 1), (1133871366144, 2), (1099511889920, 3), (262144, 4), (262144, 5), (1099511889920, 6), (1099511889920, 7), (1099511627776, 8), (2251799813685248, 9), (2251799813685248, 10), (41538374868278621030513362633490432, 11), (41538374868278621028261562819805184, 12), (41538374868278621028261562819805184, 13), (41538374868278621028261562819821568, 14), (41538374868278621028261562819805184, 15), (2230950947210133504, 256)] hp hp := bAx.rf hT
  have M_bSh_hp := M_bSh
  refine yC.of (M := (xt_X12_screen, (2, (1, (13, []))))) rfl rfl (N := 42) (yfuel (by decide)) ?_
  show yG 89 xfts (xcall 89 xfts xpools xms (d + 7)) (xpool xp_RX12) [] xt_X12_screen (yP 1 (fun rv hp' => (bQi G [(34359738368, 1), (1133871366144, 2), (1099511889920, 3), (262144, 4), (262144, 5), (1099511889920, 6), (1099511889920, 7), (1099511627776, 8), (2251799813685248, 9), (2251799813685248, 10), (41538374868278621030513362633490432, 11), (41538374868278621028261562819805184, 12), (41538374868278621028261562819805184, 13), (41538374868278621028261562819821568, 14), (41538374868278621028261562819805184, 15), (2230950947210133504, 256)] hp (-1) 20 (fun _ => True)) rv hp' ∧ bSh G hp')) 42 0 [(0, yR k0)] [] hp
  refine yG.load xak rfl (fun _ _ => rfl) (v := yR k0) rfl rfl ?_
  refine yG.invV (rest := []) A_hp.1 (bOb (d_G W) H_k0) rfl rfl rfl rfl (c_G_now W (d + 2) A_hp.1 H_k0) (fun rv h1 q9 => ?_)
  obtain ⟨⟨r2, rfl, H_r2⟩, B_h1⟩ := q9
  have A_h1 := A_hp.tr B_h1 (by decide)
  have M_bSh_h1 := M_bSh_hp.fr B_h1 (by decide)
  show yG _ _ _ _ _ _ _ _ _ _ (yR r2 :: []) _
  refine yG.store1 xak (L' := [(1, yR r2), (0, yR k0)]) rfl (fun _ _ => rfl) rfl rfl ?_
  refine yG.load xak rfl (fun _ _ => rfl) (v := yR r2) rfl rfl ?_
  refine yG.load xak rfl (fun _ _ => rfl) (v := yR k0) rfl rfl ?_
  refine yG.getO A_h1.1 (w_G_stages W H_k0) rfl rfl (fun r3 H_r3 O_r3 q_r3 => ?_)
  refine yG.num (c := 0) rfl (fun _ _ => rfl) (by decide) ?_
  refine yG.aaldO (r := 115) A_h1.1 (v_Rules_stages W H_r3) rfl rfl rfl (by omega) (by omega) (fun r4 H_r4 q_r4 => ?_)
  refine yG.invV (rest := []) A_h1.1 (bOb (d_Flow W) H_r2) rfl rfl rfl rfl (c_Flow_tryLines W d A_h1.1 M_bSh_h1 H_r2 H_r4) (fun rv h5 q9 => ?_)
  obtain ⟨q9, M_bSh_h5⟩ := q9
  obtain ⟨⟨rfl, R_z6⟩, B_h5⟩ := q9
  have A_h5 := A_h1.tr B_h5 (by decide)
  show yG _ _ _ _ _ _ _ _ _ _ [] _
  refine yG.load xak rfl (fun _ _ => rfl) (v := yR r2) rfl rfl ?_
  refine yG.getI A_h5.1 (w_Flow_troubles W H_r2) rfl rfl (fun z7 e_z7 i_z7 l_z7 u_z7 => ?_)
  refine yG.ret rfl (fun _ _ => rfl) ?_
  exact (yP.int ⟨by omega, by omega⟩ ⟨⟨⟨z7, rfl, by omega, by omega, trivial⟩, A_h5⟩, M_bSh_h5⟩)
theorem c_G_trouble {hp : xH} (W : bW G) (d : Nat) (hT : zTy G hp) (M_bSh : bSh G hp) {k0 : Nat} (H_k0 : bRo G 14 k0) (p1 p2 : Int) (h1l : (-2147483648) ≤ p1) (h1u : p1 ≤ 2147483647) (h2l : (-2147483648) ≤ p2) (h2u : p2 ≤ 2147483647) : bC (xcall 89 xfts xpools xms (d + 8)) 339 [yR k0, yI (p1), yI (p2)] hp (fun rv hp' => (bQi G [(34359738368, 1), (1133871366144, 2), (1099511889920, 3), (262144, 4), (262144, 5), (1099511889920, 6), (1099511889920, 7), (1099511627776, 8), (2251799813685248, 9), (2251799813685248, 10), (41538374868278621030513362633490432, 11), (41538374868278621028261562819805184, 12), (41538374868278621028261562819805184, 13), (41538374868278621028261562819821568, 14), (41538374868278621028261562819805184, 15), (2230950947210133504, 256)] hp (-2147483648) 2147483647 (fun z => 0 ≤ 0 - p1 + z + 2147483667 ∧ 0 ≤ p1 - z + 2147483647 ∧ 0 ≤ 0 - p2 + z + 2147483651 ∧ 0 ≤ p2 - z + 2147483647)) rv hp' ∧ bSh G hp') (bTh G [(34359738368, 1), (1133871366144, 2), (1099511889920, 3), (262144, 4), (262144, 5), (1099511889920, 6), (1099511889920, 7), (1099511627776, 8), (2251799813685248, 9), (2251799813685248, 10), (41538374868278621030513362633490432, 11), (41538374868278621028261562819805184, 12), (41538374868278621028261562819805184, 13), (41538374868278621028261562819821568, 14), (41538374868278621028261562819805184, 15), (2230950947210133504, 256)] [0, 2] hp) := by
  have A_hp : bAx G [(34359738368, 1), (1133871366144, 2), (1099511889920, 3), (262144, 4), (262144, 5), (1099511889920, 6), (1099511889920, 7), (1099511627776, 8), (2251799813685248, 9), (2251799813685248, 10), (41538374868278621030513362633490432, 11), (41538374868278621028261562819805184, 12), (41538374868278621028261562819805184, 13), (41538374868278621028261562819821568, 14), (41538374868278621028261562819805184, 15), (2230950947210133504, 256)] hp hp := bAx.rf hT
  have M_bSh_hp := M_bSh
  refine bC.of (M := (xt_X12_trouble, (4, (1, (13, []))))) rfl rfl (N := 90) (yfuel (by decide)) ?_
  show yG 89 xfts (xcall 89 xfts xpools xms (d + 7)) (xpool xp_RX12) [] xt_X12_trouble (bP 1 (fun rv hp' => (bQi G [(34359738368, 1), (1133871366144, 2), (1099511889920, 3), (262144, 4), (262144, 5), (1099511889920, 6), (1099511889920, 7), (1099511627776, 8), (2251799813685248, 9), (2251799813685248, 10), (41538374868278621030513362633490432, 11), (41538374868278621028261562819805184, 12), (41538374868278621028261562819805184, 13), (41538374868278621028261562819821568, 14), (41538374868278621028261562819805184, 15), (2230950947210133504, 256)] hp (-2147483648) 2147483647 (fun z => 0 ≤ 0 - p1 + z + 2147483667 ∧ 0 ≤ p1 - z + 2147483647 ∧ 0 ≤ 0 - p2 + z + 2147483651 ∧ 0 ≤ p2 - z + 2147483647)) rv hp' ∧ bSh G hp') (bTh G [(34359738368, 1), (1133871366144, 2), (1099511889920, 3), (262144, 4), (262144, 5), (1099511889920, 6), (1099511889920, 7), (1099511627776, 8), (2251799813685248, 9), (2251799813685248, 10), (41538374868278621030513362633490432, 11), (41538374868278621028261562819805184, 12), (41538374868278621028261562819805184, 13), (41538374868278621028261562819821568, 14), (41538374868278621028261562819805184, 15), (2230950947210133504, 256)] [0, 2] hp)) 90 0 [(0, yR k0), (1, yI (p1)), (2, yI (p2))] [] hp
  refine yG.load xak rfl (fun _ _ => rfl) (v := yR k0) rfl rfl ?_
  refine yG.invV (rest := []) A_hp.1 (bOb (d_G W) H_k0) rfl rfl rfl rfl (c_G_now W (d + 2) A_hp.1 H_k0) (fun rv h1 q9 => ?_)
  obtain ⟨⟨r2, rfl, H_r2⟩, B_h1⟩ := q9
  have A_h1 := A_hp.tr B_h1 (by decide)
  have M_bSh_h1 := M_bSh_hp.fr B_h1 (by decide)
  show yG _ _ _ _ _ _ _ _ _ _ (yR r2 :: []) _
  refine yG.store1 xak (L' := [(3, yR r2), (0, yR k0), (1, yI (p1)), (2, yI (p2))]) rfl (fun _ _ => rfl) rfl rfl ?_
  refine yG.load xak rfl (fun _ _ => rfl) (v := yR r2) rfl rfl ?_
  refine yG.load xak rfl (fun _ _ => rfl) (v := yR k0) rfl rfl ?_
  refine yG.getO A_h1.1 (w_G_stages W H_k0) rfl rfl (fun r3 H_r3 O_r3 q_r3 => ?_)
  refine yG.num (c := 0) rfl (fun _ _ => rfl) (by decide) ?_
  refine yG.aaldO (r := 115) A_h1.1 (v_Rules_stages W H_r3) rfl rfl rfl (by omega) (by omega) (fun r4 H_r4 q_r4 => ?_)
  refine yG.invV (rest := []) A_h1.1 (bOb (d_Flow W) H_r2) rfl rfl rfl rfl (c_Flow_tryLines W d A_h1.1 M_bSh_h1 H_r2 H_r4) (fun rv h5 q9 => ?_)
  obtain ⟨q9, M_bSh_h5⟩ := q9
  obtain ⟨⟨rfl, R_z6⟩, B_h5⟩ := q9
  have A_h5 := A_h1.tr B_h5 (by decide)
  show yG _ _ _ _ _ _ _ _ _ _ [] _
  refine yG.load xik rfl (fun _ _ => rfl) (v := yI (p1)) rfl rfl ?_
  refine yG.ifz rfl (t := 27) rfl ⟨by omega, by omega⟩ (fun c7 => ?_) (fun c7 => ?_)
  · have c7 : (p1 : Int) < 0 := c7
    exact yG.newT (P := bP _ _ _) rfl rfl (bP.thr rfl ⟨by decide, h5, A_h5, rfl⟩)
  · have c7 : (p1 : Int) ≥ 0 := c7
    refine yG.load xik rfl (fun _ _ => rfl) (v := yI (p1)) rfl rfl ?_
    refine yG.load xak rfl (fun _ _ => rfl) (v := yR r2) rfl rfl ?_
    refine yG.getI A_h5.1 (w_Flow_troubles W H_r2) rfl rfl (fun z8 e_z8 i_z8 l_z8 u_z8 => ?_)
    refine yG.icmp rfl (t := 38) rfl ⟨by omega, by omega⟩ ⟨by omega, by omega⟩ (fun c9 => ?_) (fun c9 => ?_)
    · have c9 : (p1 : Int) < z8 := c9
      refine yG.load xik rfl (fun _ _ => rfl) (v := yI (p2)) rfl rfl ?_
      refine yG.num (c := 0) rfl (fun _ _ => rfl) (by decide) ?_
      refine yG.num (c := 3) rfl (fun _ _ => rfl) (by decide) ?_
      refine yG.invST (rest := []) rfl rfl rfl rfl (c_G_testWithin W (d + 6) A_h5.1 (p2) (0) (3) (by omega) (by omega) (by omega) (by omega) (by omega) (by omega)) (fun hp8 e8 t8 => bP.thr2 (bTh.sub A_h5 t8 (by decide) (by decide))) (fun rv hp9 q9 => ?_)
      obtain ⟨⟨rfl, R_z10⟩, e9⟩ := q9
      rw [e9]
      show yG _ _ _ _ _ _ _ _ _ _ [] _
      refine yG.load xak rfl (fun _ _ => rfl) (v := yR r2) rfl rfl ?_
      refine yG.getO A_h5.1 (w_Flow_troubleOf W H_r2) rfl rfl (fun r11 H_r11 O_r11 q_r11 => ?_)
      refine yG.load xik rfl (fun _ _ => rfl) (v := yI (p1)) rfl rfl ?_
      refine yG.num (c := 4) rfl (fun _ _ => rfl) (by decide) ?_
      refine yG.imul rfl ?_
      refine yG.load xik rfl (fun _ _ => rfl) (v := yI (p2)) rfl rfl ?_
      refine yG.iadd rfl ?_
      refine yG.iald A_h5.1 (v_Flow_troubleOf W H_r11) rfl (by omega) (by omega) (fun z12 e_z12 i_z12 l_z12 u_z12 => ?_)
      refine yG.ret rfl (fun _ _ => rfl) ?_
      exact .inl (yP.int ⟨by omega, by omega⟩ ⟨⟨⟨z12, rfl, by omega, by omega, by omega⟩, A_h5⟩, M_bSh_h5⟩)
    · have c9 : (p1 : Int) ≥ z8 := c9
      exact yG.newT (P := bP _ _ _) rfl rfl (bP.thr rfl ⟨by decide, h5, A_h5, rfl⟩)
theorem c_G_meter {hp : xH} (W : bW G) (d : Nat) (hT : zTy G hp) (M_bMk : bMk G hp) {k0 : Nat} (H_k0 : bRo G 14 k0) (p1 p2 p3 p4 : Int) (h1l : (-2147483648) ≤ p1) (h1u : p1 ≤ 2147483647) (h2l : (-2147483648) ≤ p2) (h2u : p2 ≤ 2147483647) (h3l : (-2147483648) ≤ p3) (h3u : p3 ≤ 2147483647) (h4l : (-2147483648) ≤ p4) (h4u : p4 ≤ 2147483647) : bC (xcall 89 xfts xpools xms (d + 2)) 309 [yR k0, yI (p1), yI (p2), yI (p3), yI (p4)] hp (fun rv hp' => (bQi G [(4611686018427387904, 8), (4611686018427387904, 9), (285924533142498050048, 256)] hp 0 32 (fun z => 0 ≤ 0 - p1 + z + 2 ∧ 0 ≤ p1 - z + 32 ∧ 0 ≤ 0 - p2 + z + 19 ∧ 0 ≤ p2 - z + 32 ∧ 0 ≤ 0 - p3 + z + 99999 ∧ 0 ≤ p3 - z + 100031 ∧ 0 ≤ 0 - p4 + z + 99 ∧ 0 ≤ p4 - z + 31)) rv hp' ∧ bMk G hp') (bTh G [(4611686018427387904, 8), (4611686018427387904, 9), (285924533142498050048, 256)] [0, 1, 2] hp) := by
  have A_hp : bAx G [(4611686018427387904, 8), (4611686018427387904, 9), (285924533142498050048, 256)] hp hp := bAx.rf hT
  have M_bMk_hp := M_bMk
  refine bC.of (M := (xt_X12_meter, (5, (1, (13, []))))) rfl rfl (N := 108) (yfuel (by decide)) ?_
  show yG 89 xfts (xcall 89 xfts xpools xms (d + 1)) (xpool xp_RX12) [] xt_X12_meter (bP 1 (fun rv hp' => (bQi G [(4611686018427387904, 8), (4611686018427387904, 9), (285924533142498050048, 256)] hp 0 32 (fun z => 0 ≤ 0 - p1 + z + 2 ∧ 0 ≤ p1 - z + 32 ∧ 0 ≤ 0 - p2 + z + 19 ∧ 0 ≤ p2 - z + 32 ∧ 0 ≤ 0 - p3 + z + 99999 ∧ 0 ≤ p3 - z + 100031 ∧ 0 ≤ 0 - p4 + z + 99 ∧ 0 ≤ p4 - z + 31)) rv hp' ∧ bMk G hp') (bTh G [(4611686018427387904, 8), (4611686018427387904, 9), (285924533142498050048, 256)] [0, 1, 2] hp)) 108 0 [(0, yR k0), (1, yI (p1)), (2, yI (p2)), (3, yI (p3)), (4, yI (p4))] [] hp
  refine yG.load xik rfl (fun _ _ => rfl) (v := yI (p1)) rfl rfl ?_
  refine yG.num (c := 0) rfl (fun _ _ => rfl) (by decide) ?_
  refine yG.num (c := 2) rfl (fun _ _ => rfl) (by decide) ?_
  refine yG.invST (rest := []) rfl rfl rfl rfl (c_G_testWithin W d A_hp.1 (p1) (0) (2) (by omega) (by omega) (by omega) (by omega) (by omega) (by omega)) (fun hp8 e8 t8 => bP.thr2 (bTh.sub A_hp t8 (by decide) (by decide))) (fun rv hp9 q9 => ?_)
  obtain ⟨⟨rfl, R_z1⟩, e9⟩ := q9
  rw [e9]
  show yG _ _ _ _ _ _ _ _ _ _ [] _
  refine yG.load xak rfl (fun _ _ => rfl) (v := yR k0) rfl rfl ?_
  refine yG.getO A_hp.1 (w_G_net W H_k0) rfl rfl (fun r2 H_r2 O_r2 q_r2 => ?_)
  refine yG.load xik rfl (fun _ _ => rfl) (v := yI (p1)) rfl rfl ?_
  refine yG.ifz rfl (t := 18) rfl ⟨by omega, by omega⟩ (fun c3 => ?_) (fun c3 => ?_)
  · have c3 : (p1 : Int) ≠ 0 := c3
    refine yG.num (c := 0) rfl (fun _ _ => rfl) (by decide) ?_
    refine yG.load xik rfl (fun _ _ => rfl) (v := yI (p2)) rfl rfl ?_
    refine yG.invV (rest := []) A_hp.1 (bOb (d_Net W) H_r2) rfl rfl rfl rfl (c_Net_has_0 W d A_hp.1 H_r2 (p2) (by omega) (by omega)) (fun rv hp9 q9 => ?_)
    obtain ⟨⟨z4, rfl, l_z4, u_z4, R_z4⟩, e9⟩ := q9
    rw [e9]
    show yG _ _ _ _ _ _ _ _ _ _ (yI z4 :: []) _
    refine yG.ifz rfl (t := 37) rfl ⟨by omega, by omega⟩ (fun c5 => ?_) (fun c5 => ?_)
    · have c5 : (z4 : Int) ≠ 0 := c5
      refine yG.load xik rfl (fun _ _ => rfl) (v := yI (p3)) rfl rfl ?_
      refine yG.num (c := -99999) rfl (fun _ _ => rfl) (by decide) ?_
      refine yG.num (c := 99999) rfl (fun _ _ => rfl) (by decide) ?_
      refine yG.invST (rest := []) rfl rfl rfl rfl (c_G_testWithin W d A_hp.1 (p3) ((-99999)) (99999) (by omega) (by omega) (by omega) (by omega) (by omega) (by omega)) (fun hp8 e8 t8 => bP.thr2 (bTh.sub A_hp t8 (by decide) (by decide))) (fun rv hp9 q9 => ?_)
      obtain ⟨⟨rfl, R_z6⟩, e9⟩ := q9
      rw [e9]
      show yG _ _ _ _ _ _ _ _ _ _ [] _
      refine yG.load xik rfl (fun _ _ => rfl) (v := yI (p4)) rfl rfl ?_
      refine yG.num (c := 1) rfl (fun _ _ => rfl) (by decide) ?_
      refine yG.num (c := 99) rfl (fun _ _ => rfl) (by decide) ?_
      refine yG.invST (rest := []) rfl rfl rfl rfl (c_G_testWithin W d A_hp.1 (p4) (1) (99) (by omega) (by omega) (by omega) (by omega) (by omega) (by omega)) (fun hp8 e8 t8 => bP.thr2 (bTh.sub A_hp t8 (by decide) (by decide))) (fun rv hp9 q9 => ?_)
      obtain ⟨⟨rfl, R_z7⟩, e9⟩ := q9
      rw [e9]
      show yG _ _ _ _ _ _ _ _ _ _ [] _
      refine yG.load xak rfl (fun _ _ => rfl) (v := yR k0) rfl rfl ?_
      refine yG.getO A_hp.1 (w_G_meters W H_k0) rfl rfl (fun r8 H_r8 O_r8 q_r8 => ?_)
      refine yG.getI A_hp.1 (w_Meters_count W H_r8) rfl rfl (fun z9 e_z9 i_z9 l_z9 u_z9 => ?_)
      refine yG.num (c := 32) rfl (fun _ _ => rfl) (by decide) ?_
      refine yG.icmp rfl (t := 78) rfl ⟨by omega, by omega⟩ ⟨by omega, by omega⟩ (fun c10 => ?_) (fun c10 => ?_)
      · have c10 : (z9 : Int) < 32 := c10
        refine yG.load xak rfl (fun _ _ => rfl) (v := yR k0) rfl rfl ?_
        refine yG.getS9 A_hp.1 (w_G_meters W H_k0) q_r8 rfl rfl ?_
        refine yG.load xik rfl (fun _ _ => rfl) (v := yI (p1)) rfl rfl ?_
        refine yG.load xik rfl (fun _ _ => rfl) (v := yI (p2)) rfl rfl ?_
        refine yG.load xik rfl (fun _ _ => rfl) (v := yI (p3)) rfl rfl ?_
        refine yG.load xik rfl (fun _ _ => rfl) (v := yI (p4)) rfl rfl ?_
        refine yG.invV (rest := []) A_hp.1 (bOb (d_Meters W) H_r8) rfl rfl rfl rfl (c_Meters_told_1 W d A_hp.1 M_bMk_hp H_r8 (p1) (p2) (p3) (p4) (by omega) (by omega) (by omega) (by omega) (by omega) (by omega) (by omega) (by omega)) (fun rv h11 q9 => ?_)
        obtain ⟨q9, M_bMk_h11⟩ := q9
        obtain ⟨⟨z12, rfl, l_z12, u_z12, R_z12⟩, B_h11⟩ := q9
        have A_h11 := A_hp.tr B_h11 (by decide)
        have qq1 : zsl h11 k0 9 = yR r8 := (B_h11.sl H_k0 (by decide)).trans q_r8
        show yG _ _ _ _ _ _ _ _ _ _ (yI z12 :: []) _
        refine yG.ret rfl (fun _ _ => rfl) ?_
        exact .inl (yP.int ⟨by omega, by omega⟩ ⟨⟨⟨z12, rfl, by omega, by omega, by omega⟩, A_h11⟩, M_bMk_h11⟩)
      · have c10 : (z9 : Int) ≥ 32 := c10
        exact yG.newT (P := bP _ _ _) rfl rfl (bP.thr rfl ⟨by decide, hp, A_hp, rfl⟩)
    · have c5 : (z4 : Int) = 0 := c5
      exact yG.newT (P := bP _ _ _) rfl rfl (bP.thr rfl ⟨by decide, hp, A_hp, rfl⟩)
  · have c3 : (p1 : Int) = 0 := c3
    refine yG.num (c := 2) rfl (fun _ _ => rfl) (by decide) ?_
    refine yG.goto rfl (t := 19) rfl ?_
    refine yG.load xik rfl (fun _ _ => rfl) (v := yI (p2)) rfl rfl ?_
    refine yG.invV (rest := []) A_hp.1 (bOb (d_Net W) H_r2) rfl rfl rfl rfl (c_Net_has_2 W d A_hp.1 H_r2 (p2) (by omega) (by omega)) (fun rv hp9 q9 => ?_)
    obtain ⟨⟨z13, rfl, l_z13, u_z13, R_z13⟩, e9⟩ := q9
    rw [e9]
    show yG _ _ _ _ _ _ _ _ _ _ (yI z13 :: []) _
    refine yG.ifz rfl (t := 37) rfl ⟨by omega, by omega⟩ (fun c14 => ?_) (fun c14 => ?_)
    · have c14 : (z13 : Int) ≠ 0 := c14
      refine yG.load xik rfl (fun _ _ => rfl) (v := yI (p3)) rfl rfl ?_
      refine yG.num (c := -99999) rfl (fun _ _ => rfl) (by decide) ?_
      refine yG.num (c := 99999) rfl (fun _ _ => rfl) (by decide) ?_
      refine yG.invST (rest := []) rfl rfl rfl rfl (c_G_testWithin W d A_hp.1 (p3) ((-99999)) (99999) (by omega) (by omega) (by omega) (by omega) (by omega) (by omega)) (fun hp8 e8 t8 => bP.thr2 (bTh.sub A_hp t8 (by decide) (by decide))) (fun rv hp9 q9 => ?_)
      obtain ⟨⟨rfl, R_z15⟩, e9⟩ := q9
      rw [e9]
      show yG _ _ _ _ _ _ _ _ _ _ [] _
      refine yG.load xik rfl (fun _ _ => rfl) (v := yI (p4)) rfl rfl ?_
      refine yG.num (c := 1) rfl (fun _ _ => rfl) (by decide) ?_
      refine yG.num (c := 99) rfl (fun _ _ => rfl) (by decide) ?_
      refine yG.invST (rest := []) rfl rfl rfl rfl (c_G_testWithin W d A_hp.1 (p4) (1) (99) (by omega) (by omega) (by omega) (by omega) (by omega) (by omega)) (fun hp8 e8 t8 => bP.thr2 (bTh.sub A_hp t8 (by decide) (by decide))) (fun rv hp9 q9 => ?_)
      obtain ⟨⟨rfl, R_z16⟩, e9⟩ := q9
      rw [e9]
      show yG _ _ _ _ _ _ _ _ _ _ [] _
      refine yG.load xak rfl (fun _ _ => rfl) (v := yR k0) rfl rfl ?_
      refine yG.getO A_hp.1 (w_G_meters W H_k0) rfl rfl (fun r17 H_r17 O_r17 q_r17 => ?_)
      refine yG.getI A_hp.1 (w_Meters_count W H_r17) rfl rfl (fun z18 e_z18 i_z18 l_z18 u_z18 => ?_)
      refine yG.num (c := 32) rfl (fun _ _ => rfl) (by decide) ?_
      refine yG.icmp rfl (t := 78) rfl ⟨by omega, by omega⟩ ⟨by omega, by omega⟩ (fun c19 => ?_) (fun c19 => ?_)
      · have c19 : (z18 : Int) < 32 := c19
        refine yG.load xak rfl (fun _ _ => rfl) (v := yR k0) rfl rfl ?_
        refine yG.getS9 A_hp.1 (w_G_meters W H_k0) q_r17 rfl rfl ?_
        refine yG.load xik rfl (fun _ _ => rfl) (v := yI (p1)) rfl rfl ?_
        refine yG.load xik rfl (fun _ _ => rfl) (v := yI (p2)) rfl rfl ?_
        refine yG.load xik rfl (fun _ _ => rfl) (v := yI (p3)) rfl rfl ?_
        refine yG.load xik rfl (fun _ _ => rfl) (v := yI (p4)) rfl rfl ?_
        refine yG.invV (rest := []) A_hp.1 (bOb (d_Meters W) H_r17) rfl rfl rfl rfl (c_Meters_told_0 W d A_hp.1 M_bMk_hp H_r17 (p1) (p2) (p3) (p4) (by omega) (by omega) (by omega) (by omega) (by omega) (by omega) (by omega) (by omega)) (fun rv h20 q9 => ?_)
        obtain ⟨q9, M_bMk_h20⟩ := q9
        obtain ⟨⟨z21, rfl, l_z21, u_z21, R_z21⟩, B_h20⟩ := q9
        have A_h20 := A_hp.tr B_h20 (by decide)
        have qq2 : zsl h20 k0 9 = yR r17 := (B_h20.sl H_k0 (by decide)).trans q_r17
        show yG _ _ _ _ _ _ _ _ _ _ (yI z21 :: []) _
        refine yG.ret rfl (fun _ _ => rfl) ?_
        exact .inl (yP.int ⟨by omega, by omega⟩ ⟨⟨⟨z21, rfl, by omega, by omega, by omega⟩, A_h20⟩, M_bMk_h20⟩)
      · have c19 : (z18 : Int) ≥ 32 := c19
        exact yG.newT (P := bP _ _ _) rfl rfl (bP.thr rfl ⟨by decide, hp, A_hp, rfl⟩)
    · have c14 : (z13 : Int) = 0 := c14
      exact yG.newT (P := bP _ _ _) rfl rfl (bP.thr rfl ⟨by decide, hp, A_hp, rfl⟩)
theorem c_G_strike {hp : xH} (W : bW G) (d : Nat) (hT : zTy G hp) {k0 : Nat} (H_k0 : bRo G 14 k0) (p1 p2 : Int) (h1l : (-2147483648) ≤ p1) (h1u : p1 ≤ 2147483647) (h2l : 0 ≤ p2) (h2u : p2 ≤ 1) : bC (xcall 89 xfts xpools xms (d + 2)) 331 [yR k0, yI (p1), yI (p2)] hp (bQi G [(4611686018427387904, 9), (147573952589676412928, 256)] hp 0 1 (fun z => (z = 1 → 0 ≤ p1 ∧ 0 ≤ 0 - p1 + 31) ∧ (z = 0 → 0 ≤ p1 ∧ 0 ≤ 0 - p1 + 31))) (bTh G [(4611686018427387904, 9), (147573952589676412928, 256)] [2] hp) := by
  have A_hp : bAx G [(4611686018427387904, 9), (147573952589676412928, 256)] hp hp := bAx.rf hT
  refine bC.of (M := (xt_X12_strike, (3, (4, (13, []))))) rfl rfl (N := 33) (yfuel (by decide)) ?_
  show yG 89 xfts (xcall 89 xfts xpools xms (d + 1)) (xpool xp_RX12) [] xt_X12_strike (bP 4 (bQi G [(4611686018427387904, 9), (147573952589676412928, 256)] hp 0 1 (fun z => (z = 1 → 0 ≤ p1 ∧ 0 ≤ 0 - p1 + 31) ∧ (z = 0 → 0 ≤ p1 ∧ 0 ≤ 0 - p1 + 31))) (bTh G [(4611686018427387904, 9), (147573952589676412928, 256)] [2] hp)) 33 0 [(0, yR k0), (1, yI (p1)), (2, yI (p2))] [] hp
  refine yG.load xak rfl (fun _ _ => rfl) (v := yR k0) rfl rfl ?_
  refine yG.load xik rfl (fun _ _ => rfl) (v := yI (p1)) rfl rfl ?_
  refine yG.invVT (rest := []) A_hp.1 (bOb (d_G W) H_k0) rfl rfl rfl rfl (c_G_testMeter W d A_hp.1 H_k0 (p1) (by omega) (by omega)) (fun hp8 e8 t8 => bP.thr2 (bTh.sub A_hp t8 (by decide) (by decide))) (fun rv hp9 q9 => ?_)
  obtain ⟨⟨rfl, R_z1⟩, e9⟩ := q9
  rw [e9]
  show yG _ _ _ _ _ _ _ _ _ _ [] _
  refine yG.load xak rfl (fun _ _ => rfl) (v := yR k0) rfl rfl ?_
  refine yG.getO A_hp.1 (w_G_meters W H_k0) rfl rfl (fun r2 H_r2 O_r2 q_r2 => ?_)
  refine yG.load xik rfl (fun _ _ => rfl) (v := yI (p1)) rfl rfl ?_
  refine yG.load xik rfl (fun _ _ => rfl) (v := yI (p2)) rfl rfl ?_
  refine yG.invV (rest := []) A_hp.1 (bOb (d_Meters W) H_r2) rfl rfl rfl rfl (c_Meters_strikes W d A_hp.1 H_r2 (p1) (p2) (by omega) (by omega) (by omega) (by omega)) (fun rv h3 q9 => ?_)
  obtain ⟨⟨z4, rfl, l_z4, u_z4, R_z4⟩, B_h3⟩ := q9
  have A_h3 := A_hp.tr B_h3 (by decide)
  show yG _ _ _ _ _ _ _ _ _ _ (yI z4 :: []) _
  refine yG.ret rfl (fun _ _ => rfl) ?_
  exact .inl (yP.bool (by omega) ⟨⟨z4, rfl, by omega, by omega, by omega⟩, A_h3⟩)
theorem c_G_seen {hp : xH} (W : bW G) (d : Nat) (hT : zTy G hp) (M_bMk : bMk G hp) {k0 : Nat} (H_k0 : bRo G 14 k0) (p1 : Int) (h1l : (-2147483648) ≤ p1) (h1u : p1 ≤ 2147483647) : bC (xcall 89 xfts xpools xms (d + 8)) 324 [yR k0, yI (p1)] hp (bQi G [(34359738368, 1), (1133871366144, 2), (1099511627776, 3), (1099511627776, 6), (1099511627776, 7), (1099511627776, 8), (4613937818241073152, 9), (2251799813685248, 10), (2269391999729664, 11), (17592186044416, 12), (17592186044416, 13), (17592186060800, 14), (17592186044416, 15), (29221872437798941753344, 256)] hp 0 2 (fun z => 0 ≤ 0 - p1 + z + 15 ∧ 0 ≤ p1 - z + 2)) (bTh G [(34359738368, 1), (1133871366144, 2), (1099511627776, 3), (1099511627776, 6), (1099511627776, 7), (1099511627776, 8), (4613937818241073152, 9), (2251799813685248, 10), (2269391999729664, 11), (17592186044416, 12), (17592186044416, 13), (17592186060800, 14), (17592186044416, 15), (29221872437798941753344, 256)] [2] hp) := by
  have A_hp : bAx G [(34359738368, 1), (1133871366144, 2), (1099511627776, 3), (1099511627776, 6), (1099511627776, 7), (1099511627776, 8), (4613937818241073152, 9), (2251799813685248, 10), (2269391999729664, 11), (17592186044416, 12), (17592186044416, 13), (17592186060800, 14), (17592186044416, 15), (29221872437798941753344, 256)] hp hp := bAx.rf hT
  refine bC.of (M := (xt_X12_seen, (2, (1, (13, []))))) rfl rfl (N := 99) (yfuel (by decide)) ?_
  show yG 89 xfts (xcall 89 xfts xpools xms (d + 7)) (xpool xp_RX12) [] xt_X12_seen (bP 1 (bQi G [(34359738368, 1), (1133871366144, 2), (1099511627776, 3), (1099511627776, 6), (1099511627776, 7), (1099511627776, 8), (4613937818241073152, 9), (2251799813685248, 10), (2269391999729664, 11), (17592186044416, 12), (17592186044416, 13), (17592186060800, 14), (17592186044416, 15), (29221872437798941753344, 256)] hp 0 2 (fun z => 0 ≤ 0 - p1 + z + 15 ∧ 0 ≤ p1 - z + 2)) (bTh G [(34359738368, 1), (1133871366144, 2), (1099511627776, 3), (1099511627776, 6), (1099511627776, 7), (1099511627776, 8), (4613937818241073152, 9), (2251799813685248, 10), (2269391999729664, 11), (17592186044416, 12), (17592186044416, 13), (17592186060800, 14), (17592186044416, 15), (29221872437798941753344, 256)] [2] hp)) 99 0 [(0, yR k0), (1, yI (p1))] [] hp
  refine yG.load xak rfl (fun _ _ => rfl) (v := yR k0) rfl rfl ?_
  refine yG.load xik rfl (fun _ _ => rfl) (v := yI (p1)) rfl rfl ?_
  refine yG.invVT (rest := []) A_hp.1 (bOb (d_G W) H_k0) rfl rfl rfl rfl (c_G_testBar W (d + 5) A_hp.1 H_k0 (p1) (by omega) (by omega)) (fun hp8 e8 t8 => bP.thr2 (bTh.sub A_hp t8 (by decide) (by decide))) (fun rv hp9 q9 => ?_)
  obtain ⟨⟨rfl, R_z1⟩, e9⟩ := q9
  rw [e9]
  show yG _ _ _ _ _ _ _ _ _ _ [] _
  refine yG.load xak rfl (fun _ _ => rfl) (v := yR k0) rfl rfl ?_
  refine yG.invV (rest := []) A_hp.1 (bOb (d_G W) H_k0) rfl rfl rfl rfl (c_G_estimated W d A_hp.1 M_bMk H_k0) (fun rv h2 q9 => ?_)
  obtain ⟨⟨r3, rfl, H_r3⟩, B_h2⟩ := q9
  have A_h2 := A_hp.tr B_h2 (by decide)
  show yG _ _ _ _ _ _ _ _ _ _ (yR r3 :: []) _
  refine yG.step (pc' := 10) (stk' := []) rfl (fun _ _ => rfl) ?_
  refine yG.load xak rfl (fun _ _ => rfl) (v := yR k0) rfl rfl ?_
  refine yG.getO A_h2.1 (w_G_meters W H_k0) rfl rfl (fun r4 H_r4 O_r4 q_r4 => ?_)
  refine yG.getO A_h2.1 (w_Meters_whole W H_r4) rfl rfl (fun r5 H_r5 O_r5 q_r5 => ?_)
  refine yG.load xak rfl (fun _ _ => rfl) (v := yR k0) rfl rfl ?_
  refine yG.getO A_h2.1 (w_G_flow W H_k0) rfl rfl (fun r6 H_r6 O_r6 q_r6 => ?_)
  refine yG.getO A_h2.1 (w_Flow_shape W H_r6) rfl rfl (fun r7 H_r7 O_r7 q_r7 => ?_)
  refine yG.getO A_h2.1 (w_Shape_island W H_r7) rfl rfl (fun r8 H_r8 O_r8 q_r8 => ?_)
  refine yG.load xik rfl (fun _ _ => rfl) (v := yI (p1)) rfl rfl ?_
  refine yG.ialdF A_h2.1 (v_Shape_island W H_r8) rfl rfl (by omega) (by omega) (fun z9 e_z9 i_z9 l_z9 u_z9 => ?_)
  refine yG.bald A_h2.1 (v_Meters_whole W H_r5) rfl (by omega) (by omega) (fun z10 e_z10 i_z10 l_z10 u_z10 => ?_)
  refine yG.ifz rfl (t := 37) rfl ⟨by omega, by omega⟩ (fun c11 => ?_) (fun c11 => ?_)
  · have c11 : (z10 : Int) = 0 := c11
    refine yG.load xak rfl (fun _ _ => rfl) (v := yR k0) rfl rfl ?_
    refine yG.getS9 A_h2.1 (w_G_meters W H_k0) q_r4 rfl rfl ?_
    refine yG.getO A_h2.1 (w_Meters_seen W H_r4) rfl rfl (fun r12 H_r12 O_r12 q_r12 => ?_)
    refine yG.load xak rfl (fun _ _ => rfl) (v := yR k0) rfl rfl ?_
    refine yG.getS9 A_h2.1 (w_G_flow W H_k0) q_r6 rfl rfl ?_
    refine yG.getS9 A_h2.1 (w_Flow_shape W H_r6) q_r7 rfl rfl ?_
    refine yG.getO A_h2.1 (w_Shape_node W H_r7) rfl rfl (fun r13 H_r13 O_r13 q_r13 => ?_)
    refine yG.load xik rfl (fun _ _ => rfl) (v := yI (p1)) rfl rfl ?_
    refine yG.ialdF A_h2.1 (v_Shape_node W H_r13) rfl rfl (by omega) (by omega) (fun z14 e_z14 i_z14 l_z14 u_z14 => ?_)
    refine yG.bald A_h2.1 (v_Meters_seen W H_r12) rfl (by omega) (by omega) (fun z15 e_z15 i_z15 l_z15 u_z15 => ?_)
    refine yG.ifz rfl (t := 64) rfl ⟨by omega, by omega⟩ (fun c16 => ?_) (fun c16 => ?_)
    · have c16 : (z15 : Int) = 0 := c16
      refine yG.num (c := 0) rfl (fun _ _ => rfl) (by decide) ?_
      refine yG.ret rfl (fun _ _ => rfl) ?_
      exact .inl (yP.int ⟨by omega, by omega⟩ ⟨⟨0, rfl, by omega, by omega, by omega⟩, A_h2⟩)
    · have c16 : (z15 : Int) ≠ 0 := c16
      refine yG.num (c := 1) rfl (fun _ _ => rfl) (by decide) ?_
      refine yG.goto rfl (t := 65) rfl ?_
      refine yG.ret rfl (fun _ _ => rfl) ?_
      exact .inl (yP.int ⟨by omega, by omega⟩ ⟨⟨1, rfl, by omega, by omega, by omega⟩, A_h2⟩)
  · have c11 : (z10 : Int) ≠ 0 := c11
    refine yG.num (c := 2) rfl (fun _ _ => rfl) (by decide) ?_
    refine yG.goto rfl (t := 65) rfl ?_
    refine yG.ret rfl (fun _ _ => rfl) ?_
    exact .inl (yP.int ⟨by omega, by omega⟩ ⟨⟨2, rfl, by omega, by omega, by omega⟩, A_h2⟩)
theorem c_G_estimate {hp : xH} (W : bW G) (d : Nat) (hT : zTy G hp) (M_bMk : bMk G hp) {k0 : Nat} (H_k0 : bRo G 14 k0) (p1 : Int) (h1l : (-2147483648) ≤ p1) (h1u : p1 ≤ 2147483647) : bC (xcall 89 xfts xpools xms (d + 8)) 295 [yR k0, yI (p1)] hp (bQi G [(34359738368, 1), (1133871366144, 2), (1099511627776, 3), (1099511627776, 6), (1116691496960, 7), (1099511627776, 8), (4613937818241073152, 9), (2251799813685248, 10), (2269391999729664, 11), (17592186044416, 12), (17592186044416, 13), (17592186060800, 14), (17592186044416, 15), (29221872437798941753344, 256)] hp (-1) 1 (fun z => 0 ≤ 0 - p1 + z + 16 ∧ 0 ≤ p1 - z + 1)) (bTh G [(34359738368, 1), (1133871366144, 2), (1099511627776, 3), (1099511627776, 6), (1116691496960, 7), (1099511627776, 8), (4613937818241073152, 9), (2251799813685248, 10), (2269391999729664, 11), (17592186044416, 12), (17592186044416, 13), (17592186060800, 14), (17592186044416, 15), (29221872437798941753344, 256)] [1, 2] hp) := by
  have A_hp : bAx G [(34359738368, 1), (1133871366144, 2), (1099511627776, 3), (1099511627776, 6), (1116691496960, 7), (1099511627776, 8), (4613937818241073152, 9), (2251799813685248, 10), (2269391999729664, 11), (17592186044416, 12), (17592186044416, 13), (17592186060800, 14), (17592186044416, 15), (29221872437798941753344, 256)] hp hp := bAx.rf hT
  refine bC.of (M := (xt_X12_estimate, (2, (1, (13, []))))) rfl rfl (N := 87) (yfuel (by decide)) ?_
  show yG 89 xfts (xcall 89 xfts xpools xms (d + 7)) (xpool xp_RX12) [] xt_X12_estimate (bP 1 (bQi G [(34359738368, 1), (1133871366144, 2), (1099511627776, 3), (1099511627776, 6), (1116691496960, 7), (1099511627776, 8), (4613937818241073152, 9), (2251799813685248, 10), (2269391999729664, 11), (17592186044416, 12), (17592186044416, 13), (17592186060800, 14), (17592186044416, 15), (29221872437798941753344, 256)] hp (-1) 1 (fun z => 0 ≤ 0 - p1 + z + 16 ∧ 0 ≤ p1 - z + 1)) (bTh G [(34359738368, 1), (1133871366144, 2), (1099511627776, 3), (1099511627776, 6), (1116691496960, 7), (1099511627776, 8), (4613937818241073152, 9), (2251799813685248, 10), (2269391999729664, 11), (17592186044416, 12), (17592186044416, 13), (17592186060800, 14), (17592186044416, 15), (29221872437798941753344, 256)] [1, 2] hp)) 87 0 [(0, yR k0), (1, yI (p1))] [] hp
  refine yG.load xak rfl (fun _ _ => rfl) (v := yR k0) rfl rfl ?_
  refine yG.load xik rfl (fun _ _ => rfl) (v := yI (p1)) rfl rfl ?_
  refine yG.invVT (rest := []) A_hp.1 (bOb (d_G W) H_k0) rfl rfl rfl rfl (c_G_testBar W (d + 5) A_hp.1 H_k0 (p1) (by omega) (by omega)) (fun hp8 e8 t8 => bP.thr2 (bTh.sub A_hp t8 (by decide) (by decide))) (fun rv hp9 q9 => ?_)
  obtain ⟨⟨rfl, R_z1⟩, e9⟩ := q9
  rw [e9]
  show yG _ _ _ _ _ _ _ _ _ _ [] _
  refine yG.load xak rfl (fun _ _ => rfl) (v := yR k0) rfl rfl ?_
  refine yG.invV (rest := []) A_hp.1 (bOb (d_G W) H_k0) rfl rfl rfl rfl (c_G_estimated W d A_hp.1 M_bMk H_k0) (fun rv h2 q9 => ?_)
  obtain ⟨⟨r3, rfl, H_r3⟩, B_h2⟩ := q9
  have A_h2 := A_hp.tr B_h2 (by decide)
  show yG _ _ _ _ _ _ _ _ _ _ (yR r3 :: []) _
  refine yG.step (pc' := 10) (stk' := []) rfl (fun _ _ => rfl) ?_
  refine yG.load xak rfl (fun _ _ => rfl) (v := yR k0) rfl rfl ?_
  refine yG.getO A_h2.1 (w_G_meters W H_k0) rfl rfl (fun r4 H_r4 O_r4 q_r4 => ?_)
  refine yG.getO A_h2.1 (w_Meters_whole W H_r4) rfl rfl (fun r5 H_r5 O_r5 q_r5 => ?_)
  refine yG.load xak rfl (fun _ _ => rfl) (v := yR k0) rfl rfl ?_
  refine yG.getO A_h2.1 (w_G_flow W H_k0) rfl rfl (fun r6 H_r6 O_r6 q_r6 => ?_)
  refine yG.getO A_h2.1 (w_Flow_shape W H_r6) rfl rfl (fun r7 H_r7 O_r7 q_r7 => ?_)
  refine yG.getO A_h2.1 (w_Shape_island W H_r7) rfl rfl (fun r8 H_r8 O_r8 q_r8 => ?_)
  refine yG.load xik rfl (fun _ _ => rfl) (v := yI (p1)) rfl rfl ?_
  refine yG.ialdF A_h2.1 (v_Shape_island W H_r8) rfl rfl (by omega) (by omega) (fun z9 e_z9 i_z9 l_z9 u_z9 => ?_)
  refine yG.bald A_h2.1 (v_Meters_whole W H_r5) rfl (by omega) (by omega) (fun z10 e_z10 i_z10 l_z10 u_z10 => ?_)
  refine yG.ifz rfl (t := 44) rfl ⟨by omega, by omega⟩ (fun c11 => ?_) (fun c11 => ?_)
  · have c11 : (z10 : Int) ≠ 0 := c11
    refine yG.load xak rfl (fun _ _ => rfl) (v := yR k0) rfl rfl ?_
    refine yG.getS9 A_h2.1 (w_G_meters W H_k0) q_r4 rfl rfl ?_
    refine yG.load xik rfl (fun _ _ => rfl) (v := yI (p1)) rfl rfl ?_
    refine yG.load xak rfl (fun _ _ => rfl) (v := yR k0) rfl rfl ?_
    refine yG.getO A_h2.1 (w_G_hand W H_k0) rfl rfl (fun r12 H_r12 O_r12 q_r12 => ?_)
    refine yG.invV (rest := []) A_h2.1 (bOb (d_Meters W) H_r4) rfl rfl rfl rfl (c_Meters_tellAngle W (d + 4) A_h2.1 H_r4 H_r12 (p1) (by omega) (by omega)) (fun rv h13 q9 => ?_)
    obtain ⟨⟨rfl, R_z14⟩, B_h13⟩ := q9
    have A_h13 := A_h2.tr B_h13 (by decide)
    have qq1 : zsl h13 k0 9 = yR r4 := (B_h13.sl H_k0 (by decide)).trans q_r4
    have qq2 : zsl h13 k0 5 = yR r12 := (B_h13.sl H_k0 (by decide)).trans q_r12
    show yG _ _ _ _ _ _ _ _ _ _ [] _
    refine yG.load xak rfl (fun _ _ => rfl) (v := yR k0) rfl rfl ?_
    refine yG.getS9 A_h13.1 (w_G_hand W H_k0) qq2 rfl rfl ?_
    refine yG.invV (rest := []) A_h13.1 (bOb (d_Hand W) H_r12) rfl rfl rfl rfl (c_Hand_made W (d + 5) A_h13.1 H_r12) (fun rv h15 q9 => ?_)
    obtain ⟨⟨z16, rfl, l_z16, u_z16, R_z16⟩, B_h15⟩ := q9
    have A_h15 := A_h13.tr B_h15 (by decide)
    have qq3 : zsl h15 k0 9 = yR r4 := (B_h15.sl H_k0 (by decide)).trans qq1
    have qq4 : zsl h15 k0 5 = yR r12 := (B_h15.sl H_k0 (by decide)).trans qq2
    show yG _ _ _ _ _ _ _ _ _ _ (yI z16 :: []) _
    refine yG.ret rfl (fun _ _ => rfl) ?_
    exact .inl (yP.int ⟨by omega, by omega⟩ ⟨⟨z16, rfl, by omega, by omega, by omega⟩, A_h15⟩)
  · have c11 : (z10 : Int) = 0 := c11
    exact yG.newT (P := bP _ _ _) rfl rfl (bP.thr rfl ⟨by decide, h2, A_h2, rfl⟩)
theorem c_G_rest {hp : xH} (W : bW G) (d : Nat) (hT : zTy G hp) (M_bMk : bMk G hp) {k0 : Nat} (H_k0 : bRo G 14 k0) (p1 p2 : Int) (h1l : (-2147483648) ≤ p1) (h1u : p1 ≤ 2147483647) (h2l : (-2147483648) ≤ p2) (h2u : p2 ≤ 2147483647) : bC (xcall 89 xfts xpools xms (d + 8)) 318 [yR k0, yI (p1), yI (p2)] hp (bQi G [(34359738368, 1), (1133871366144, 2), (1099511627776, 3), (1099511627776, 6), (1116691496960, 7), (1099511627776, 8), (4613937818241073152, 9), (2251799813685248, 10), (2269391999729664, 11), (17592186044416, 12), (17592186044416, 13), (17592186060800, 14), (17592186044416, 15), (29221872437798941753344, 256)] hp (-1) 1 (fun z => 0 ≤ 0 - p1 + z + 32 ∧ 0 ≤ p1 - z + 1 ∧ 0 ≤ 0 - p2 + z + 2 ∧ 0 ≤ p2 - z + 1)) (bTh G [(34359738368, 1), (1133871366144, 2), (1099511627776, 3), (1099511627776, 6), (1116691496960, 7), (1099511627776, 8), (4613937818241073152, 9), (2251799813685248, 10), (2269391999729664, 11), (17592186044416, 12), (17592186044416, 13), (17592186060800, 14), (17592186044416, 15), (29221872437798941753344, 256)] [0, 1, 2] hp) := by
  have A_hp : bAx G [(34359738368, 1), (1133871366144, 2), (1099511627776, 3), (1099511627776, 6), (1116691496960, 7), (1099511627776, 8), (4613937818241073152, 9), (2251799813685248, 10), (2269391999729664, 11), (17592186044416, 12), (17592186044416, 13), (17592186060800, 14), (17592186044416, 15), (29221872437798941753344, 256)] hp hp := bAx.rf hT
  refine bC.of (M := (xt_X12_rest, (3, (1, (13, []))))) rfl rfl (N := 111) (yfuel (by decide)) ?_
  show yG 89 xfts (xcall 89 xfts xpools xms (d + 7)) (xpool xp_RX12) [] xt_X12_rest (bP 1 (bQi G [(34359738368, 1), (1133871366144, 2), (1099511627776, 3), (1099511627776, 6), (1116691496960, 7), (1099511627776, 8), (4613937818241073152, 9), (2251799813685248, 10), (2269391999729664, 11), (17592186044416, 12), (17592186044416, 13), (17592186060800, 14), (17592186044416, 15), (29221872437798941753344, 256)] hp (-1) 1 (fun z => 0 ≤ 0 - p1 + z + 32 ∧ 0 ≤ p1 - z + 1 ∧ 0 ≤ 0 - p2 + z + 2 ∧ 0 ≤ p2 - z + 1)) (bTh G [(34359738368, 1), (1133871366144, 2), (1099511627776, 3), (1099511627776, 6), (1116691496960, 7), (1099511627776, 8), (4613937818241073152, 9), (2251799813685248, 10), (2269391999729664, 11), (17592186044416, 12), (17592186044416, 13), (17592186060800, 14), (17592186044416, 15), (29221872437798941753344, 256)] [0, 1, 2] hp)) 111 0 [(0, yR k0), (1, yI (p1)), (2, yI (p2))] [] hp
  refine yG.load xak rfl (fun _ _ => rfl) (v := yR k0) rfl rfl ?_
  refine yG.load xik rfl (fun _ _ => rfl) (v := yI (p1)) rfl rfl ?_
  refine yG.invVT (rest := []) A_hp.1 (bOb (d_G W) H_k0) rfl rfl rfl rfl (c_G_testMeter W (d + 6) A_hp.1 H_k0 (p1) (by omega) (by omega)) (fun hp8 e8 t8 => bP.thr2 (bTh.sub A_hp t8 (by decide) (by decide))) (fun rv hp9 q9 => ?_)
  obtain ⟨⟨rfl, R_z1⟩, e9⟩ := q9
  rw [e9]
  show yG _ _ _ _ _ _ _ _ _ _ [] _
  refine yG.load xik rfl (fun _ _ => rfl) (v := yI (p2)) rfl rfl ?_
  refine yG.num (c := 0) rfl (fun _ _ => rfl) (by decide) ?_
  refine yG.num (c := 1) rfl (fun _ _ => rfl) (by decide) ?_
  refine yG.invST (rest := []) rfl rfl rfl rfl (c_G_testWithin W (d + 6) A_hp.1 (p2) (0) (1) (by omega) (by omega) (by omega) (by omega) (by omega) (by omega)) (fun hp8 e8 t8 => bP.thr2 (bTh.sub A_hp t8 (by decide) (by decide))) (fun rv hp9 q9 => ?_)
  obtain ⟨⟨rfl, R_z2⟩, e9⟩ := q9
  rw [e9]
  show yG _ _ _ _ _ _ _ _ _ _ [] _
  refine yG.load xak rfl (fun _ _ => rfl) (v := yR k0) rfl rfl ?_
  refine yG.invV (rest := []) A_hp.1 (bOb (d_G W) H_k0) rfl rfl rfl rfl (c_G_estimated W d A_hp.1 M_bMk H_k0) (fun rv h3 q9 => ?_)
  obtain ⟨⟨r4, rfl, H_r4⟩, B_h3⟩ := q9
  have A_h3 := A_hp.tr B_h3 (by decide)
  show yG _ _ _ _ _ _ _ _ _ _ (yR r4 :: []) _
  refine yG.step (pc' := 16) (stk' := []) rfl (fun _ _ => rfl) ?_
  refine yG.load xak rfl (fun _ _ => rfl) (v := yR k0) rfl rfl ?_
  refine yG.getO A_h3.1 (w_G_meters W H_k0) rfl rfl (fun r5 H_r5 O_r5 q_r5 => ?_)
  refine yG.load xik rfl (fun _ _ => rfl) (v := yI (p1)) rfl rfl ?_
  refine yG.invV (rest := []) A_h3.1 (bOb (d_Meters W) H_r5) rfl rfl rfl rfl (c_Meters_isWhole W (d + 5) A_h3.1 (M_bMk.fr A_h3 (by decide)) H_r5 (p1) (by omega) (by omega)) (fun rv hp9 q9 => ?_)
  obtain ⟨⟨z6, rfl, l_z6, u_z6, R_z6⟩, e9⟩ := q9
  rw [e9]
  show yG _ _ _ _ _ _ _ _ _ _ (yI z6 :: []) _
  refine yG.ifz rfl (t := 44) rfl ⟨by omega, by omega⟩ (fun c7 => ?_) (fun c7 => ?_)
  · have c7 : (z6 : Int) = 0 := c7
    exact yG.newT (P := bP _ _ _) rfl rfl (bP.thr rfl ⟨by decide, h3, A_h3, rfl⟩)
  · have c7 : (z6 : Int) ≠ 0 := c7
    refine yG.load xik rfl (fun _ _ => rfl) (v := yI (p2)) rfl rfl ?_
    refine yG.num (c := 1) rfl (fun _ _ => rfl) (by decide) ?_
    refine yG.icmp rfl (t := 55) rfl ⟨by omega, by omega⟩ ⟨by omega, by omega⟩ (fun c8 => ?_) (fun c8 => ?_)
    · have c8 : (p2 : Int) ≠ 1 := c8
      refine yG.load xak rfl (fun _ _ => rfl) (v := yR k0) rfl rfl ?_
      refine yG.getS9 A_h3.1 (w_G_meters W H_k0) q_r5 rfl rfl ?_
      refine yG.load xik rfl (fun _ _ => rfl) (v := yI (p1)) rfl rfl ?_
      refine yG.load xik rfl (fun _ _ => rfl) (v := yI (p2)) rfl rfl ?_
      refine yG.load xak rfl (fun _ _ => rfl) (v := yR k0) rfl rfl ?_
      refine yG.getO A_h3.1 (w_G_hand W H_k0) rfl rfl (fun r9 H_r9 O_r9 q_r9 => ?_)
      refine yG.invV (rest := []) A_h3.1 (bOb (d_Meters W) H_r5) rfl rfl rfl rfl (c_Meters_tellRest W (d + 4) A_h3.1 H_r5 H_r9 (p1) (p2) (by omega) (by omega) (by omega) (by omega)) (fun rv h10 q9 => ?_)
      obtain ⟨⟨rfl, R_z11⟩, B_h10⟩ := q9
      have A_h10 := A_h3.tr B_h10 (by decide)
      have qq1 : zsl h10 k0 9 = yR r5 := (B_h10.sl H_k0 (by decide)).trans q_r5
      have qq2 : zsl h10 k0 5 = yR r9 := (B_h10.sl H_k0 (by decide)).trans q_r9
      show yG _ _ _ _ _ _ _ _ _ _ [] _
      refine yG.load xak rfl (fun _ _ => rfl) (v := yR k0) rfl rfl ?_
      refine yG.getS9 A_h10.1 (w_G_hand W H_k0) qq2 rfl rfl ?_
      refine yG.invV (rest := []) A_h10.1 (bOb (d_Hand W) H_r9) rfl rfl rfl rfl (c_Hand_made W (d + 5) A_h10.1 H_r9) (fun rv h12 q9 => ?_)
      obtain ⟨⟨z13, rfl, l_z13, u_z13, R_z13⟩, B_h12⟩ := q9
      have A_h12 := A_h10.tr B_h12 (by decide)
      have qq3 : zsl h12 k0 9 = yR r5 := (B_h12.sl H_k0 (by decide)).trans qq1
      have qq4 : zsl h12 k0 5 = yR r9 := (B_h12.sl H_k0 (by decide)).trans qq2
      show yG _ _ _ _ _ _ _ _ _ _ (yI z13 :: []) _
      refine yG.ret rfl (fun _ _ => rfl) ?_
      exact .inl (yP.int ⟨by omega, by omega⟩ ⟨⟨z13, rfl, by omega, by omega, by omega⟩, A_h12⟩)
    · have c8 : (p2 : Int) = 1 := c8
      refine yG.load xak rfl (fun _ _ => rfl) (v := yR k0) rfl rfl ?_
      refine yG.getS9 A_h3.1 (w_G_meters W H_k0) q_r5 rfl rfl ?_
      refine yG.getO A_h3.1 (w_Meters_struck W H_r5) rfl rfl (fun r14 H_r14 O_r14 q_r14 => ?_)
      refine yG.load xik rfl (fun _ _ => rfl) (v := yI (p1)) rfl rfl ?_
      refine yG.bald A_h3.1 (v_Meters_struck W H_r14) rfl (by omega) (by omega) (fun z15 e_z15 i_z15 l_z15 u_z15 => ?_)
      refine yG.ifz rfl (t := 55) rfl ⟨by omega, by omega⟩ (fun c16 => ?_) (fun c16 => ?_)
      · have c16 : (z15 : Int) = 0 := c16
        refine yG.load xak rfl (fun _ _ => rfl) (v := yR k0) rfl rfl ?_
        refine yG.getS9 A_h3.1 (w_G_meters W H_k0) q_r5 rfl rfl ?_
        refine yG.load xik rfl (fun _ _ => rfl) (v := yI (p1)) rfl rfl ?_
        refine yG.load xik rfl (fun _ _ => rfl) (v := yI (p2)) rfl rfl ?_
        refine yG.load xak rfl (fun _ _ => rfl) (v := yR k0) rfl rfl ?_
        refine yG.getO A_h3.1 (w_G_hand W H_k0) rfl rfl (fun r17 H_r17 O_r17 q_r17 => ?_)
        refine yG.invV (rest := []) A_h3.1 (bOb (d_Meters W) H_r5) rfl rfl rfl rfl (c_Meters_tellRest W (d + 4) A_h3.1 H_r5 H_r17 (p1) (p2) (by omega) (by omega) (by omega) (by omega)) (fun rv h18 q9 => ?_)
        obtain ⟨⟨rfl, R_z19⟩, B_h18⟩ := q9
        have A_h18 := A_h3.tr B_h18 (by decide)
        have qq5 : zsl h18 k0 9 = yR r5 := (B_h18.sl H_k0 (by decide)).trans q_r5
        have qq6 : zsl h18 k0 5 = yR r17 := (B_h18.sl H_k0 (by decide)).trans q_r17
        show yG _ _ _ _ _ _ _ _ _ _ [] _
        refine yG.load xak rfl (fun _ _ => rfl) (v := yR k0) rfl rfl ?_
        refine yG.getS9 A_h18.1 (w_G_hand W H_k0) qq6 rfl rfl ?_
        refine yG.invV (rest := []) A_h18.1 (bOb (d_Hand W) H_r17) rfl rfl rfl rfl (c_Hand_made W (d + 5) A_h18.1 H_r17) (fun rv h20 q9 => ?_)
        obtain ⟨⟨z21, rfl, l_z21, u_z21, R_z21⟩, B_h20⟩ := q9
        have A_h20 := A_h18.tr B_h20 (by decide)
        have qq7 : zsl h20 k0 9 = yR r5 := (B_h20.sl H_k0 (by decide)).trans qq5
        have qq8 : zsl h20 k0 5 = yR r17 := (B_h20.sl H_k0 (by decide)).trans qq6
        show yG _ _ _ _ _ _ _ _ _ _ (yI z21 :: []) _
        refine yG.ret rfl (fun _ _ => rfl) ?_
        exact .inl (yP.int ⟨by omega, by omega⟩ ⟨⟨z21, rfl, by omega, by omega, by omega⟩, A_h20⟩)
      · have c16 : (z15 : Int) ≠ 0 := c16
        exact yG.newT (P := bP _ _ _) rfl rfl (bP.thr rfl ⟨by decide, h3, A_h3, rfl⟩)
theorem c_G_worst {hp : xH} (W : bW G) (d : Nat) (hT : zTy G hp) (M_bMk : bMk G hp) {k0 : Nat} (H_k0 : bRo G 14 k0) : yC (xcall 89 xfts xpools xms (d + 8)) 341 [yR k0] hp (bQi G [(34359738368, 1), (1133871366144, 2), (1099511627776, 3), (1099511627776, 6), (1099511627776, 7), (1099511627776, 8), (4613937818241073152, 9), (2251799813685248, 10), (2269391999729664, 11), (17592186044416, 12), (17592186044416, 13), (17592186060800, 14), (17592186044416, 15), (29221872437798941753344, 256)] hp (-1) 31 (fun _ => True)) := by
  have A_hp : bAx G [(34359738368, 1), (1133871366144, 2), (1099511627776, 3), (1099511627776, 6), (1099511627776, 7), (1099511627776, 8), (4613937818241073152, 9), (2251799813685248, 10), (2269391999729664, 11), (17592186044416, 12), (17592186044416, 13), (17592186060800, 14), (17592186044416, 15), (29221872437798941753344, 256)] hp hp := bAx.rf hT
  refine yC.of (M := (xt_X12_worst, (1, (1, (13, []))))) rfl rfl (N := 18) (yfuel (by decide)) ?_
  show yG 89 xfts (xcall 89 xfts xpools xms (d + 7)) (xpool xp_RX12) [] xt_X12_worst (yP 1 (bQi G [(34359738368, 1), (1133871366144, 2), (1099511627776, 3), (1099511627776, 6), (1099511627776, 7), (1099511627776, 8), (4613937818241073152, 9), (2251799813685248, 10), (2269391999729664, 11), (17592186044416, 12), (17592186044416, 13), (17592186060800, 14), (17592186044416, 15), (29221872437798941753344, 256)] hp (-1) 31 (fun _ => True))) 18 0 [(0, yR k0)] [] hp
  refine yG.load xak rfl (fun _ _ => rfl) (v := yR k0) rfl rfl ?_
  refine yG.invV (rest := []) A_hp.1 (bOb (d_G W) H_k0) rfl rfl rfl rfl (c_G_estimated W d A_hp.1 M_bMk H_k0) (fun rv h1 q9 => ?_)
  obtain ⟨⟨r2, rfl, H_r2⟩, B_h1⟩ := q9
  have A_h1 := A_hp.tr B_h1 (by decide)
  show yG _ _ _ _ _ _ _ _ _ _ (yR r2 :: []) _
  refine yG.invV (rest := []) A_h1.1 (bOb (d_Meters W) H_r2) rfl rfl rfl rfl (c_Meters_greatest W (d + 2) A_h1.1 (M_bMk.fr A_h1 (by decide)) H_r2) (fun rv h3 q9 => ?_)
  obtain ⟨⟨z4, rfl, l_z4, u_z4, R_z4⟩, B_h3⟩ := q9
  have A_h3 := A_h1.tr B_h3 (by decide)
  show yG _ _ _ _ _ _ _ _ _ _ (yI z4 :: []) _
  refine yG.ret rfl (fun _ _ => rfl) ?_
  exact (yP.int ⟨by omega, by omega⟩ ⟨⟨z4, rfl, by omega, by omega, trivial⟩, A_h3⟩)
theorem c_G_shortAt {hp : xH} (W : bW G) (d : Nat) (hT : zTy G hp) (M_bSh : bSh G hp) {k0 : Nat} (H_k0 : bRo G 14 k0) (p1 p2 p3 : Int) (h1l : (-2147483648) ≤ p1) (h1u : p1 ≤ 2147483647) (h2l : (-2147483648) ≤ p2) (h2u : p2 ≤ 2147483647) (h3l : (-2147483648) ≤ p3) (h3u : p3 ≤ 2147483647) : bC (xcall 89 xfts xpools xms (d + 3)) 327 [yR k0, yI (p1), yI (p2), yI (p3)] hp (fun rv hp' => (fun rv hp' => (rv = none ∧ 0 ≤ p1 ∧ 0 ≤ 0 - p1 + 3 ∧ 0 ≤ p2 ∧ 0 ≤ 0 - p2 + 15 ∧ 0 ≤ p3 ∧ 0 ≤ 0 - p3 + 99) ∧ bAx G [(262144, 3), (37778931862957161971712, 4), (262144, 5), (262144, 6), (262144, 7), (4611686018427387904, 9), (2417851639229258349412352, 10), (16384, 14), (79228162514264337593543950336, 18)] hp hp') rv hp' ∧ bSh G hp') (bTh G [(262144, 3), (37778931862957161971712, 4), (262144, 5), (262144, 6), (262144, 7), (4611686018427387904, 9), (2417851639229258349412352, 10), (16384, 14), (79228162514264337593543950336, 18)] [0, 2] hp) := by
  have A_hp : bAx G [(262144, 3), (37778931862957161971712, 4), (262144, 5), (262144, 6), (262144, 7), (4611686018427387904, 9), (2417851639229258349412352, 10), (16384, 14), (79228162514264337593543950336, 18)] hp hp := bAx.rf hT
  have M_bSh_hp := M_bSh
  refine bC.of (M := (xt_X12_shortAt, (4, (0, (13, []))))) rfl rfl (N := 72) (yfuel (by decide)) ?_
  show yG 89 xfts (xcall 89 xfts xpools xms (d + 2)) (xpool xp_RX12) [] xt_X12_shortAt (bP 0 (fun rv hp' => (fun rv hp' => (rv = none ∧ 0 ≤ p1 ∧ 0 ≤ 0 - p1 + 3 ∧ 0 ≤ p2 ∧ 0 ≤ 0 - p2 + 15 ∧ 0 ≤ p3 ∧ 0 ≤ 0 - p3 + 99) ∧ bAx G [(262144, 3), (37778931862957161971712, 4), (262144, 5), (262144, 6), (262144, 7), (4611686018427387904, 9), (2417851639229258349412352, 10), (16384, 14), (79228162514264337593543950336, 18)] hp hp') rv hp' ∧ bSh G hp') (bTh G [(262144, 3), (37778931862957161971712, 4), (262144, 5), (262144, 6), (262144, 7), (4611686018427387904, 9), (2417851639229258349412352, 10), (16384, 14), (79228162514264337593543950336, 18)] [0, 2] hp)) 72 0 [(0, yR k0), (1, yI (p1)), (2, yI (p2)), (3, yI (p3))] [] hp
  refine yG.load xak rfl (fun _ _ => rfl) (v := yR k0) rfl rfl ?_
  refine yG.load xik rfl (fun _ _ => rfl) (v := yI (p2)) rfl rfl ?_
  refine yG.invVT (rest := []) A_hp.1 (bOb (d_G W) H_k0) rfl rfl rfl rfl (c_G_testBar W d A_hp.1 H_k0 (p2) (by omega) (by omega)) (fun hp8 e8 t8 => bP.thr2 (bTh.sub A_hp t8 (by decide) (by decide))) (fun rv hp9 q9 => ?_)
  obtain ⟨⟨rfl, R_z1⟩, e9⟩ := q9
  rw [e9]
  show yG _ _ _ _ _ _ _ _ _ _ [] _
  refine yG.load xik rfl (fun _ _ => rfl) (v := yI (p1)) rfl rfl ?_
  refine yG.num (c := 0) rfl (fun _ _ => rfl) (by decide) ?_
  refine yG.num (c := 3) rfl (fun _ _ => rfl) (by decide) ?_
  refine yG.invST (rest := []) rfl rfl rfl rfl (c_G_testWithin W (d + 1) A_hp.1 (p1) (0) (3) (by omega) (by omega) (by omega) (by omega) (by omega) (by omega)) (fun hp8 e8 t8 => bP.thr2 (bTh.sub A_hp t8 (by decide) (by decide))) (fun rv hp9 q9 => ?_)
  obtain ⟨⟨rfl, R_z2⟩, e9⟩ := q9
  rw [e9]
  show yG _ _ _ _ _ _ _ _ _ _ [] _
  refine yG.load xik rfl (fun _ _ => rfl) (v := yI (p3)) rfl rfl ?_
  refine yG.num (c := 0) rfl (fun _ _ => rfl) (by decide) ?_
  refine yG.num (c := 99) rfl (fun _ _ => rfl) (by decide) ?_
  refine yG.invST (rest := []) rfl rfl rfl rfl (c_G_testWithin W (d + 1) A_hp.1 (p3) (0) (99) (by omega) (by omega) (by omega) (by omega) (by omega) (by omega)) (fun hp8 e8 t8 => bP.thr2 (bTh.sub A_hp t8 (by decide) (by decide))) (fun rv hp9 q9 => ?_)
  obtain ⟨⟨rfl, R_z3⟩, e9⟩ := q9
  rw [e9]
  show yG _ _ _ _ _ _ _ _ _ _ [] _
  refine yG.load xak rfl (fun _ _ => rfl) (v := yR k0) rfl rfl ?_
  refine yG.getO A_hp.1 (w_G_net W H_k0) rfl rfl (fun r4 H_r4 O_r4 q_r4 => ?_)
  refine yG.load xik rfl (fun _ _ => rfl) (v := yI (p1)) rfl rfl ?_
  refine yG.load xik rfl (fun _ _ => rfl) (v := yI (p2)) rfl rfl ?_
  refine yG.num (c := -1) rfl (fun _ _ => rfl) (by decide) ?_
  refine yG.num (c := 0) rfl (fun _ _ => rfl) (by decide) ?_
  refine yG.load xik rfl (fun _ _ => rfl) (v := yI (p3)) rfl rfl ?_
  refine yG.invV (rest := []) A_hp.1 (bOb (d_Net W) H_r4) rfl rfl rfl rfl (c_Net_putShort W (d + 1) A_hp.1 M_bSh_hp H_r4 (p1) (p2) ((-1)) (0) (p3) (by omega) (by omega) (by omega) (by omega) (by omega) (by omega) (by omega) (by omega) (by omega) (by omega) (by omega)) (fun rv h5 q9 => ?_)
  obtain ⟨q9, M_bSh_h5⟩ := q9
  obtain ⟨⟨rfl, R_z6⟩, B_h5⟩ := q9
  have A_h5 := A_hp.tr B_h5 (by decide)
  show yG _ _ _ _ _ _ _ _ _ _ [] _
  refine yG.load xak rfl (fun _ _ => rfl) (v := yR k0) rfl rfl ?_
  refine yG.invV (rest := []) A_h5.1 (bOb (d_G W) H_k0) rfl rfl rfl rfl (c_G_changed W (d + 1) A_h5.1 H_k0) (fun rv h7 q9 => ?_)
  obtain ⟨⟨rfl, R_z8⟩, B_h7⟩ := q9
  have A_h7 := A_h5.tr B_h7 (by decide)
  have M_bSh_h7 := M_bSh_h5.fr B_h7 (by decide)
  show yG _ _ _ _ _ _ _ _ _ _ [] _
  refine yG.ret rfl (fun _ _ => rfl) ?_
  exact .inl (yP.void ⟨⟨⟨rfl, by omega⟩, A_h7⟩, M_bSh_h7⟩)
theorem c_G_shortOn {hp : xH} (W : bW G) (d : Nat) (hT : zTy G hp) (M_bSh : bSh G hp) {k0 : Nat} (H_k0 : bRo G 14 k0) (p1 p2 p3 p4 : Int) (h1l : (-2147483648) ≤ p1) (h1u : p1 ≤ 2147483647) (h2l : (-2147483648) ≤ p2) (h2u : p2 ≤ 2147483647) (h3l : (-2147483648) ≤ p3) (h3u : p3 ≤ 2147483647) (h4l : (-2147483648) ≤ p4) (h4u : p4 ≤ 2147483647) : bC (xcall 89 xfts xpools xms (d + 3)) 328 [yR k0, yI (p1), yI (p2), yI (p3), yI (p4)] hp (fun rv hp' => (fun rv hp' => (rv = none ∧ 0 ≤ p1 ∧ 0 ≤ 0 - p1 + 3 ∧ 0 ≤ p2 ∧ 0 ≤ 0 - p2 + 19 ∧ 0 ≤ p3 - 1 ∧ 0 ≤ 0 - p3 + 15 ∧ 0 ≤ p4 ∧ 0 ≤ 0 - p4 + 99) ∧ bAx G [(262144, 3), (37778931862957161971712, 4), (262144, 5), (262144, 6), (262144, 7), (4611686018427387904, 9), (2417851639229258349412352, 10), (16384, 14), (79228162514264337593543950336, 18)] hp hp') rv hp' ∧ bSh G hp') (bTh G [(262144, 3), (37778931862957161971712, 4), (262144, 5), (262144, 6), (262144, 7), (4611686018427387904, 9), (2417851639229258349412352, 10), (16384, 14), (79228162514264337593543950336, 18)] [0, 2] hp) := by
  have A_hp : bAx G [(262144, 3), (37778931862957161971712, 4), (262144, 5), (262144, 6), (262144, 7), (4611686018427387904, 9), (2417851639229258349412352, 10), (16384, 14), (79228162514264337593543950336, 18)] hp hp := bAx.rf hT
  have M_bSh_hp := M_bSh
  refine bC.of (M := (xt_X12_shortOn, (5, (0, (13, []))))) rfl rfl (N := 84) (yfuel (by decide)) ?_
  show yG 89 xfts (xcall 89 xfts xpools xms (d + 2)) (xpool xp_RX12) [] xt_X12_shortOn (bP 0 (fun rv hp' => (fun rv hp' => (rv = none ∧ 0 ≤ p1 ∧ 0 ≤ 0 - p1 + 3 ∧ 0 ≤ p2 ∧ 0 ≤ 0 - p2 + 19 ∧ 0 ≤ p3 - 1 ∧ 0 ≤ 0 - p3 + 15 ∧ 0 ≤ p4 ∧ 0 ≤ 0 - p4 + 99) ∧ bAx G [(262144, 3), (37778931862957161971712, 4), (262144, 5), (262144, 6), (262144, 7), (4611686018427387904, 9), (2417851639229258349412352, 10), (16384, 14), (79228162514264337593543950336, 18)] hp hp') rv hp' ∧ bSh G hp') (bTh G [(262144, 3), (37778931862957161971712, 4), (262144, 5), (262144, 6), (262144, 7), (4611686018427387904, 9), (2417851639229258349412352, 10), (16384, 14), (79228162514264337593543950336, 18)] [0, 2] hp)) 84 0 [(0, yR k0), (1, yI (p1)), (2, yI (p2)), (3, yI (p3)), (4, yI (p4))] [] hp
  refine yG.load xak rfl (fun _ _ => rfl) (v := yR k0) rfl rfl ?_
  refine yG.load xik rfl (fun _ _ => rfl) (v := yI (p2)) rfl rfl ?_
  refine yG.invVT (rest := []) A_hp.1 (bOb (d_G W) H_k0) rfl rfl rfl rfl (c_G_testLine W d A_hp.1 H_k0 (p2) (by omega) (by omega)) (fun hp8 e8 t8 => bP.thr2 (bTh.sub A_hp t8 (by decide) (by decide))) (fun rv hp9 q9 => ?_)
  obtain ⟨⟨rfl, R_z1⟩, e9⟩ := q9
  rw [e9]
  show yG _ _ _ _ _ _ _ _ _ _ [] _
  refine yG.load xik rfl (fun _ _ => rfl) (v := yI (p1)) rfl rfl ?_
  refine yG.num (c := 0) rfl (fun _ _ => rfl) (by decide) ?_
  refine yG.num (c := 3) rfl (fun _ _ => rfl) (by decide) ?_
  refine yG.invST (rest := []) rfl rfl rfl rfl (c_G_testWithin W (d + 1) A_hp.1 (p1) (0) (3) (by omega) (by omega) (by omega) (by omega) (by omega) (by omega)) (fun hp8 e8 t8 => bP.thr2 (bTh.sub A_hp t8 (by decide) (by decide))) (fun rv hp9 q9 => ?_)
  obtain ⟨⟨rfl, R_z2⟩, e9⟩ := q9
  rw [e9]
  show yG _ _ _ _ _ _ _ _ _ _ [] _
  refine yG.load xik rfl (fun _ _ => rfl) (v := yI (p3)) rfl rfl ?_
  refine yG.num (c := 1) rfl (fun _ _ => rfl) (by decide) ?_
  refine yG.num (c := 15) rfl (fun _ _ => rfl) (by decide) ?_
  refine yG.invST (rest := []) rfl rfl rfl rfl (c_G_testWithin W (d + 1) A_hp.1 (p3) (1) (15) (by omega) (by omega) (by omega) (by omega) (by omega) (by omega)) (fun hp8 e8 t8 => bP.thr2 (bTh.sub A_hp t8 (by decide) (by decide))) (fun rv hp9 q9 => ?_)
  obtain ⟨⟨rfl, R_z3⟩, e9⟩ := q9
  rw [e9]
  show yG _ _ _ _ _ _ _ _ _ _ [] _
  refine yG.load xik rfl (fun _ _ => rfl) (v := yI (p4)) rfl rfl ?_
  refine yG.num (c := 0) rfl (fun _ _ => rfl) (by decide) ?_
  refine yG.num (c := 99) rfl (fun _ _ => rfl) (by decide) ?_
  refine yG.invST (rest := []) rfl rfl rfl rfl (c_G_testWithin W (d + 1) A_hp.1 (p4) (0) (99) (by omega) (by omega) (by omega) (by omega) (by omega) (by omega)) (fun hp8 e8 t8 => bP.thr2 (bTh.sub A_hp t8 (by decide) (by decide))) (fun rv hp9 q9 => ?_)
  obtain ⟨⟨rfl, R_z4⟩, e9⟩ := q9
  rw [e9]
  show yG _ _ _ _ _ _ _ _ _ _ [] _
  refine yG.load xak rfl (fun _ _ => rfl) (v := yR k0) rfl rfl ?_
  refine yG.getO A_hp.1 (w_G_net W H_k0) rfl rfl (fun r5 H_r5 O_r5 q_r5 => ?_)
  refine yG.load xik rfl (fun _ _ => rfl) (v := yI (p1)) rfl rfl ?_
  refine yG.num (c := -1) rfl (fun _ _ => rfl) (by decide) ?_
  refine yG.load xik rfl (fun _ _ => rfl) (v := yI (p2)) rfl rfl ?_
  refine yG.load xik rfl (fun _ _ => rfl) (v := yI (p3)) rfl rfl ?_
  refine yG.load xik rfl (fun _ _ => rfl) (v := yI (p4)) rfl rfl ?_
  refine yG.invV (rest := []) A_hp.1 (bOb (d_Net W) H_r5) rfl rfl rfl rfl (c_Net_putShort W (d + 1) A_hp.1 M_bSh_hp H_r5 (p1) ((-1)) (p2) (p3) (p4) (by omega) (by omega) (by omega) (by omega) (by omega) (by omega) (by omega) (by omega) (by omega) (by omega) (by omega)) (fun rv h6 q9 => ?_)
  obtain ⟨q9, M_bSh_h6⟩ := q9
  obtain ⟨⟨rfl, R_z7⟩, B_h6⟩ := q9
  have A_h6 := A_hp.tr B_h6 (by decide)
  show yG _ _ _ _ _ _ _ _ _ _ [] _
  refine yG.load xak rfl (fun _ _ => rfl) (v := yR k0) rfl rfl ?_
  refine yG.invV (rest := []) A_h6.1 (bOb (d_G W) H_k0) rfl rfl rfl rfl (c_G_changed W (d + 1) A_h6.1 H_k0) (fun rv h8 q9 => ?_)
  obtain ⟨⟨rfl, R_z9⟩, B_h8⟩ := q9
  have A_h8 := A_h6.tr B_h8 (by decide)
  have M_bSh_h8 := M_bSh_h6.fr B_h8 (by decide)
  show yG _ _ _ _ _ _ _ _ _ _ [] _
  refine yG.ret rfl (fun _ _ => rfl) ?_
  exact .inl (yP.void ⟨⟨⟨rfl, by omega⟩, A_h8⟩, M_bSh_h8⟩)
theorem c_G_clearShort {hp : xH} (W : bW G) (d : Nat) (hT : zTy G hp) (M_bSh : bSh G hp) {k0 : Nat} (H_k0 : bRo G 14 k0) : yC (xcall 89 xfts xpools xms (d + 2)) 287 [yR k0] hp (fun rv hp' => (bQi G [(262144, 3), (37778931862957161971712, 4), (262144, 5), (262144, 6), (262144, 7), (4611686018427387904, 9), (2417851639229258349412352, 10), (16384, 14), (79228162514264337593543950336, 18)] hp 0 1 (fun _ => True)) rv hp' ∧ bSh G hp') := by
  have A_hp : bAx G [(262144, 3), (37778931862957161971712, 4), (262144, 5), (262144, 6), (262144, 7), (4611686018427387904, 9), (2417851639229258349412352, 10), (16384, 14), (79228162514264337593543950336, 18)] hp hp := bAx.rf hT
  have M_bSh_hp := M_bSh
  refine yC.of (M := (xt_X12_clearShort, (2, (4, (13, []))))) rfl rfl (N := 54) (yfuel (by decide)) ?_
  show yG 89 xfts (xcall 89 xfts xpools xms (d + 1)) (xpool xp_RX12) [] xt_X12_clearShort (yP 4 (fun rv hp' => (bQi G [(262144, 3), (37778931862957161971712, 4), (262144, 5), (262144, 6), (262144, 7), (4611686018427387904, 9), (2417851639229258349412352, 10), (16384, 14), (79228162514264337593543950336, 18)] hp 0 1 (fun _ => True)) rv hp' ∧ bSh G hp')) 54 0 [(0, yR k0)] [] hp
  refine yG.load xak rfl (fun _ _ => rfl) (v := yR k0) rfl rfl ?_
  refine yG.getO A_hp.1 (w_G_net W H_k0) rfl rfl (fun r1 H_r1 O_r1 q_r1 => ?_)
  obtain ⟨g2, e_g2⟩ : ∃ z : Int, z = ys hp r1 3 := ⟨_, rfl⟩
  obtain ⟨-, -, l_g2, u_g2⟩ := (w_Net_shortKind W H_r1).int A_hp.1
  refine yG.invV (rest := []) A_hp.1 (bOb (d_Net W) H_r1) rfl rfl rfl rfl (c_Net_hasShort W d A_hp.1 H_r1) (fun rv hp9 q9 => ?_)
  obtain ⟨⟨z3, rfl, l_z3, u_z3, R_z3⟩, e9⟩ := q9
  rw [e9]
  show yG _ _ _ _ _ _ _ _ _ _ (yI z3 :: []) _
  refine yG.store1 xik (L' := [(1, yI (z3)), (0, yR k0)]) rfl (fun _ _ => rfl) rfl rfl ?_
  refine yG.load xak rfl (fun _ _ => rfl) (v := yR k0) rfl rfl ?_
  refine yG.getS9 A_hp.1 (w_G_net W H_k0) q_r1 rfl rfl ?_
  refine yG.num (c := -1) rfl (fun _ _ => rfl) (by decide) ?_
  refine yG.num (c := -1) rfl (fun _ _ => rfl) (by decide) ?_
  refine yG.num (c := -1) rfl (fun _ _ => rfl) (by decide) ?_
  refine yG.num (c := 0) rfl (fun _ _ => rfl) (by decide) ?_
  refine yG.num (c := 0) rfl (fun _ _ => rfl) (by decide) ?_
  refine yG.invV (rest := []) A_hp.1 (bOb (d_Net W) H_r1) rfl rfl rfl rfl (c_Net_putShort W d A_hp.1 M_bSh_hp H_r1 ((-1)) ((-1)) ((-1)) (0) (0) (by omega) (by omega) (by omega) (by omega) (by omega) (by omega) (by omega) (by omega) (by omega) (by omega) (by omega)) (fun rv h4 q9 => ?_)
  obtain ⟨q9, M_bSh_h4⟩ := q9
  obtain ⟨⟨rfl, R_z5⟩, B_h4⟩ := q9
  have A_h4 := A_hp.tr B_h4 (by decide)
  have qq1 : zsl h4 k0 1 = yR r1 := (B_h4.sl H_k0 (by decide)).trans q_r1
  show yG _ _ _ _ _ _ _ _ _ _ [] _
  refine yG.load xak rfl (fun _ _ => rfl) (v := yR k0) rfl rfl ?_
  refine yG.invV (rest := []) A_h4.1 (bOb (d_G W) H_k0) rfl rfl rfl rfl (c_G_changed W d A_h4.1 H_k0) (fun rv h6 q9 => ?_)
  obtain ⟨⟨rfl, R_z7⟩, B_h6⟩ := q9
  have A_h6 := A_h4.tr B_h6 (by decide)
  have M_bSh_h6 := M_bSh_h4.fr B_h6 (by decide)
  have qq2 : zsl h6 k0 1 = yR r1 := (B_h6.sl H_k0 (by decide)).trans qq1
  show yG _ _ _ _ _ _ _ _ _ _ [] _
  refine yG.load xik rfl (fun _ _ => rfl) (v := yI (z3)) rfl rfl ?_
  refine yG.ret rfl (fun _ _ => rfl) ?_
  exact (yP.bool (by omega) ⟨⟨⟨z3, rfl, by omega, by omega, trivial⟩, A_h6⟩, M_bSh_h6⟩)
theorem c_G_into {hp : xH} (W : bW G) (d : Nat) (hT : zTy G hp) (M_bSh : bSh G hp) {k0 : Nat} (H_k0 : bRo G 14 k0) (p1 : Int) (h1l : (-2147483648) ≤ p1) (h1u : p1 ≤ 2147483647) : bC (xcall 89 xfts xpools xms (d + 8)) 305 [yR k0, yI (p1)] hp (bQi G [(34359738368, 1), (1133871366144, 2), (1099511627776, 3), (37778931862957161709568, 4), (37778931862957161709568, 5), (37778931864056673337344, 6), (37778931864073853206528, 7), (37778931864056673337344, 8), (2251799813685248, 9), (2251799813685248, 10), (2269391999729664, 11), (17592186044416, 12), (17592186044416, 13), (17592186060800, 14), (17592186044416, 15), (75560093550957335412736, 256)] hp (-1) 1 (fun z => 0 ≤ 0 - p1 + z + 3 ∧ 0 ≤ p1 - z + 1)) (bTh G [(34359738368, 1), (1133871366144, 2), (1099511627776, 3), (37778931862957161709568, 4), (37778931862957161709568, 5), (37778931864056673337344, 6), (37778931864073853206528, 7), (37778931864056673337344, 8), (2251799813685248, 9), (2251799813685248, 10), (2269391999729664, 11), (17592186044416, 12), (17592186044416, 13), (17592186060800, 14), (17592186044416, 15), (75560093550957335412736, 256)] [0] hp) := by
  have A_hp : bAx G [(34359738368, 1), (1133871366144, 2), (1099511627776, 3), (37778931862957161709568, 4), (37778931862957161709568, 5), (37778931864056673337344, 6), (37778931864073853206528, 7), (37778931864056673337344, 8), (2251799813685248, 9), (2251799813685248, 10), (2269391999729664, 11), (17592186044416, 12), (17592186044416, 13), (17592186060800, 14), (17592186044416, 15), (75560093550957335412736, 256)] hp hp := bAx.rf hT
  refine bC.of (M := (xt_X12_into, (2, (1, (13, []))))) rfl rfl (N := 48) (yfuel (by decide)) ?_
  show yG 89 xfts (xcall 89 xfts xpools xms (d + 7)) (xpool xp_RX12) [] xt_X12_into (bP 1 (bQi G [(34359738368, 1), (1133871366144, 2), (1099511627776, 3), (37778931862957161709568, 4), (37778931862957161709568, 5), (37778931864056673337344, 6), (37778931864073853206528, 7), (37778931864056673337344, 8), (2251799813685248, 9), (2251799813685248, 10), (2269391999729664, 11), (17592186044416, 12), (17592186044416, 13), (17592186060800, 14), (17592186044416, 15), (75560093550957335412736, 256)] hp (-1) 1 (fun z => 0 ≤ 0 - p1 + z + 3 ∧ 0 ≤ p1 - z + 1)) (bTh G [(34359738368, 1), (1133871366144, 2), (1099511627776, 3), (37778931862957161709568, 4), (37778931862957161709568, 5), (37778931864056673337344, 6), (37778931864073853206528, 7), (37778931864056673337344, 8), (2251799813685248, 9), (2251799813685248, 10), (2269391999729664, 11), (17592186044416, 12), (17592186044416, 13), (17592186060800, 14), (17592186044416, 15), (75560093550957335412736, 256)] [0] hp)) 48 0 [(0, yR k0), (1, yI (p1))] [] hp
  refine yG.load xik rfl (fun _ _ => rfl) (v := yI (p1)) rfl rfl ?_
  refine yG.num (c := 0) rfl (fun _ _ => rfl) (by decide) ?_
  refine yG.num (c := 2) rfl (fun _ _ => rfl) (by decide) ?_
  refine yG.invST (rest := []) rfl rfl rfl rfl (c_G_testWithin W (d + 6) A_hp.1 (p1) (0) (2) (by omega) (by omega) (by omega) (by omega) (by omega) (by omega)) (fun hp8 e8 t8 => bP.thr2 (bTh.sub A_hp t8 (by decide) (by decide))) (fun rv hp9 q9 => ?_)
  obtain ⟨⟨rfl, R_z1⟩, e9⟩ := q9
  rw [e9]
  show yG _ _ _ _ _ _ _ _ _ _ [] _
  refine yG.load xak rfl (fun _ _ => rfl) (v := yR k0) rfl rfl ?_
  refine yG.invV (rest := []) A_hp.1 (bOb (d_G W) H_k0) rfl rfl rfl rfl (c_G_shorted W d A_hp.1 M_bSh H_k0) (fun rv h2 q9 => ?_)
  obtain ⟨⟨r3, rfl, H_r3⟩, B_h2⟩ := q9
  have A_h2 := A_hp.tr B_h2 (by decide)
  show yG _ _ _ _ _ _ _ _ _ _ (yR r3 :: []) _
  refine yG.load xik rfl (fun _ _ => rfl) (v := yI (p1)) rfl rfl ?_
  refine yG.load xak rfl (fun _ _ => rfl) (v := yR k0) rfl rfl ?_
  refine yG.getO A_h2.1 (w_G_hand W H_k0) rfl rfl (fun r4 H_r4 O_r4 q_r4 => ?_)
  refine yG.invV (rest := []) A_h2.1 (bOb (d_Shorts W) H_r3) rfl rfl rfl rfl (c_Shorts_tellInto W (d + 4) A_h2.1 H_r3 H_r4 (p1) (by omega) (by omega)) (fun rv h5 q9 => ?_)
  obtain ⟨⟨rfl, R_z6⟩, B_h5⟩ := q9
  have A_h5 := A_h2.tr B_h5 (by decide)
  have qq1 : zsl h5 k0 5 = yR r4 := (B_h5.sl H_k0 (by decide)).trans q_r4
  show yG _ _ _ _ _ _ _ _ _ _ [] _
  refine yG.load xak rfl (fun _ _ => rfl) (v := yR k0) rfl rfl ?_
  refine yG.getS9 A_h5.1 (w_G_hand W H_k0) qq1 rfl rfl ?_
  refine yG.invV (rest := []) A_h5.1 (bOb (d_Hand W) H_r4) rfl rfl rfl rfl (c_Hand_made W (d + 5) A_h5.1 H_r4) (fun rv h7 q9 => ?_)
  obtain ⟨⟨z8, rfl, l_z8, u_z8, R_z8⟩, B_h7⟩ := q9
  have A_h7 := A_h5.tr B_h7 (by decide)
  have qq2 : zsl h7 k0 5 = yR r4 := (B_h7.sl H_k0 (by decide)).trans qq1
  show yG _ _ _ _ _ _ _ _ _ _ (yI z8 :: []) _
  refine yG.ret rfl (fun _ _ => rfl) ?_
  exact .inl (yP.int ⟨by omega, by omega⟩ ⟨⟨z8, rfl, by omega, by omega, by omega⟩, A_h7⟩)
theorem c_G_voltage {hp : xH} (W : bW G) (d : Nat) (hT : zTy G hp) (M_bSh : bSh G hp) {k0 : Nat} (H_k0 : bRo G 14 k0) (p1 p2 : Int) (h1l : (-2147483648) ≤ p1) (h1u : p1 ≤ 2147483647) (h2l : (-2147483648) ≤ p2) (h2u : p2 ≤ 2147483647) : bC (xcall 89 xfts xpools xms (d + 8)) 340 [yR k0, yI (p1), yI (p2)] hp (bQi G [(34359738368, 1), (1133871366144, 2), (1099511627776, 3), (37778931862957161709568, 4), (37778931862957161709568, 5), (37778931864056673337344, 6), (37778931864073853206528, 7), (37778931864056673337344, 8), (2251799813685248, 9), (2251799813685248, 10), (2269391999729664, 11), (17592186044416, 12), (17592186044416, 13), (17592186060800, 14), (17592186044416, 15), (1284485913165586510118912, 256)] hp (-1) 1 (fun z => 0 ≤ 0 - p1 + z + 16 ∧ 0 ≤ p1 - z + 1 ∧ 0 ≤ 0 - p2 + z + 5 ∧ 0 ≤ p2 - z + 1)) (bTh G [(34359738368, 1), (1133871366144, 2), (1099511627776, 3), (37778931862957161709568, 4), (37778931862957161709568, 5), (37778931864056673337344, 6), (37778931864073853206528, 7), (37778931864056673337344, 8), (2251799813685248, 9), (2251799813685248, 10), (2269391999729664, 11), (17592186044416, 12), (17592186044416, 13), (17592186060800, 14), (17592186044416, 15), (1284485913165586510118912, 256)] [0, 2] hp) := by
  have A_hp : bAx G [(34359738368, 1), (1133871366144, 2), (1099511627776, 3), (37778931862957161709568, 4), (37778931862957161709568, 5), (37778931864056673337344, 6), (37778931864073853206528, 7), (37778931864056673337344, 8), (2251799813685248, 9), (2251799813685248, 10), (2269391999729664, 11), (17592186044416, 12), (17592186044416, 13), (17592186060800, 14), (17592186044416, 15), (1284485913165586510118912, 256)] hp hp := bAx.rf hT
  refine bC.of (M := (xt_X12_voltage, (3, (1, (13, []))))) rfl rfl (N := 84) (yfuel (by decide)) ?_
  show yG 89 xfts (xcall 89 xfts xpools xms (d + 7)) (xpool xp_RX12) [] xt_X12_voltage (bP 1 (bQi G [(34359738368, 1), (1133871366144, 2), (1099511627776, 3), (37778931862957161709568, 4), (37778931862957161709568, 5), (37778931864056673337344, 6), (37778931864073853206528, 7), (37778931864056673337344, 8), (2251799813685248, 9), (2251799813685248, 10), (2269391999729664, 11), (17592186044416, 12), (17592186044416, 13), (17592186060800, 14), (17592186044416, 15), (1284485913165586510118912, 256)] hp (-1) 1 (fun z => 0 ≤ 0 - p1 + z + 16 ∧ 0 ≤ p1 - z + 1 ∧ 0 ≤ 0 - p2 + z + 5 ∧ 0 ≤ p2 - z + 1)) (bTh G [(34359738368, 1), (1133871366144, 2), (1099511627776, 3), (37778931862957161709568, 4), (37778931862957161709568, 5), (37778931864056673337344, 6), (37778931864073853206528, 7), (37778931864056673337344, 8), (2251799813685248, 9), (2251799813685248, 10), (2269391999729664, 11), (17592186044416, 12), (17592186044416, 13), (17592186060800, 14), (17592186044416, 15), (1284485913165586510118912, 256)] [0, 2] hp)) 84 0 [(0, yR k0), (1, yI (p1)), (2, yI (p2))] [] hp
  refine yG.load xak rfl (fun _ _ => rfl) (v := yR k0) rfl rfl ?_
  refine yG.load xik rfl (fun _ _ => rfl) (v := yI (p1)) rfl rfl ?_
  refine yG.invVT (rest := []) A_hp.1 (bOb (d_G W) H_k0) rfl rfl rfl rfl (c_G_testBar W (d + 5) A_hp.1 H_k0 (p1) (by omega) (by omega)) (fun hp8 e8 t8 => bP.thr2 (bTh.sub A_hp t8 (by decide) (by decide))) (fun rv hp9 q9 => ?_)
  obtain ⟨⟨rfl, R_z1⟩, e9⟩ := q9
  rw [e9]
  show yG _ _ _ _ _ _ _ _ _ _ [] _
  refine yG.load xik rfl (fun _ _ => rfl) (v := yI (p2)) rfl rfl ?_
  refine yG.num (c := 0) rfl (fun _ _ => rfl) (by decide) ?_
  refine yG.num (c := 4) rfl (fun _ _ => rfl) (by decide) ?_
  refine yG.invST (rest := []) rfl rfl rfl rfl (c_G_testWithin W (d + 6) A_hp.1 (p2) (0) (4) (by omega) (by omega) (by omega) (by omega) (by omega) (by omega)) (fun hp8 e8 t8 => bP.thr2 (bTh.sub A_hp t8 (by decide) (by decide))) (fun rv hp9 q9 => ?_)
  obtain ⟨⟨rfl, R_z2⟩, e9⟩ := q9
  rw [e9]
  show yG _ _ _ _ _ _ _ _ _ _ [] _
  refine yG.load xak rfl (fun _ _ => rfl) (v := yR k0) rfl rfl ?_
  refine yG.invV (rest := []) A_hp.1 (bOb (d_G W) H_k0) rfl rfl rfl rfl (c_G_shorted W d A_hp.1 M_bSh H_k0) (fun rv h3 q9 => ?_)
  obtain ⟨⟨r4, rfl, H_r4⟩, B_h3⟩ := q9
  have A_h3 := A_hp.tr B_h3 (by decide)
  show yG _ _ _ _ _ _ _ _ _ _ (yR r4 :: []) _
  refine yG.load xak rfl (fun _ _ => rfl) (v := yR k0) rfl rfl ?_
  refine yG.getO A_h3.1 (w_G_flow W H_k0) rfl rfl (fun r5 H_r5 O_r5 q_r5 => ?_)
  refine yG.getO A_h3.1 (w_Flow_shape W H_r5) rfl rfl (fun r6 H_r6 O_r6 q_r6 => ?_)
  refine yG.getO A_h3.1 (w_Shape_node W H_r6) rfl rfl (fun r7 H_r7 O_r7 q_r7 => ?_)
  refine yG.load xik rfl (fun _ _ => rfl) (v := yI (p1)) rfl rfl ?_
  refine yG.ialdF A_h3.1 (v_Shape_node W H_r7) rfl rfl (by omega) (by omega) (fun z8 e_z8 i_z8 l_z8 u_z8 => ?_)
  refine yG.invV (rest := []) A_h3.1 (bOb (d_Shorts W) H_r4) rfl rfl rfl rfl (c_Shorts_volts W (d + 3) A_h3.1 H_r4 (z8) (by omega) (by omega)) (fun rv h9 q9 => ?_)
  obtain ⟨⟨rfl, R_z10⟩, B_h9⟩ := q9
  have A_h9 := A_h3.tr B_h9 (by decide)
  show yG _ _ _ _ _ _ _ _ _ _ [] _
  refine yG.load xak rfl (fun _ _ => rfl) (v := yR k0) rfl rfl ?_
  refine yG.getO A_h9.1 (w_G_shorts W H_k0) rfl rfl (fun r11 H_r11 O_r11 q_r11 => ?_)
  refine yG.load xik rfl (fun _ _ => rfl) (v := yI (p2)) rfl rfl ?_
  refine yG.load xak rfl (fun _ _ => rfl) (v := yR k0) rfl rfl ?_
  refine yG.getO A_h9.1 (w_G_hand W H_k0) rfl rfl (fun r12 H_r12 O_r12 q_r12 => ?_)
  refine yG.invV (rest := []) A_h9.1 (bOb (d_Shorts W) H_r11) rfl rfl rfl rfl (c_Shorts_tell W (d + 2) A_h9.1 H_r11 H_r12 (p2) (by omega) (by omega)) (fun rv h13 q9 => ?_)
  obtain ⟨⟨rfl, R_z14⟩, B_h13⟩ := q9
  have A_h13 := A_h9.tr B_h13 (by decide)
  have qq1 : zsl h13 k0 5 = yR r12 := (B_h13.sl H_k0 (by decide)).trans q_r12
  show yG _ _ _ _ _ _ _ _ _ _ [] _
  refine yG.load xak rfl (fun _ _ => rfl) (v := yR k0) rfl rfl ?_
  refine yG.getS9 A_h13.1 (w_G_hand W H_k0) qq1 rfl rfl ?_
  refine yG.invV (rest := []) A_h13.1 (bOb (d_Hand W) H_r12) rfl rfl rfl rfl (c_Hand_made W (d + 5) A_h13.1 H_r12) (fun rv h15 q9 => ?_)
  obtain ⟨⟨z16, rfl, l_z16, u_z16, R_z16⟩, B_h15⟩ := q9
  have A_h15 := A_h13.tr B_h15 (by decide)
  have qq2 : zsl h15 k0 5 = yR r12 := (B_h15.sl H_k0 (by decide)).trans qq1
  show yG _ _ _ _ _ _ _ _ _ _ (yI z16 :: []) _
  refine yG.ret rfl (fun _ _ => rfl) ?_
  exact .inl (yP.int ⟨by omega, by omega⟩ ⟨⟨z16, rfl, by omega, by omega, by omega⟩, A_h15⟩)
theorem c_G_current {hp : xH} (W : bW G) (d : Nat) (hT : zTy G hp) (M_bSh : bSh G hp) {k0 : Nat} (H_k0 : bRo G 14 k0) (p1 p2 p3 : Int) (h1l : (-2147483648) ≤ p1) (h1u : p1 ≤ 2147483647) (h2l : (-2147483648) ≤ p2) (h2u : p2 ≤ 2147483647) (h3l : (-2147483648) ≤ p3) (h3u : p3 ≤ 2147483647) : bC (xcall 89 xfts xpools xms (d + 8)) 292 [yR k0, yI (p1), yI (p2), yI (p3)] hp (bQi G [(34359738368, 1), (1133871366144, 2), (1099511627776, 3), (37778931862957161709568, 4), (37778931862957161709568, 5), (37778931864056673337344, 6), (37778931864073853206528, 7), (37778931864056673337344, 8), (2251799813685248, 9), (2251799813685248, 10), (2269391999729664, 11), (17592186044416, 12), (17592186044416, 13), (17592186060800, 14), (17592186044416, 15), (1284485913165586510118912, 256)] hp (-1) 1 (fun z => 0 ≤ 0 - p1 + z + 20 ∧ 0 ≤ p1 - z + 1 ∧ 0 ≤ 0 - p2 + z + 2 ∧ 0 ≤ p2 - z + 1 ∧ 0 ≤ 0 - p3 + z + 5 ∧ 0 ≤ p3 - z + 1)) (bTh G [(34359738368, 1), (1133871366144, 2), (1099511627776, 3), (37778931862957161709568, 4), (37778931862957161709568, 5), (37778931864056673337344, 6), (37778931864073853206528, 7), (37778931864056673337344, 8), (2251799813685248, 9), (2251799813685248, 10), (2269391999729664, 11), (17592186044416, 12), (17592186044416, 13), (17592186060800, 14), (17592186044416, 15), (1284485913165586510118912, 256)] [0, 2] hp) := by
  have A_hp : bAx G [(34359738368, 1), (1133871366144, 2), (1099511627776, 3), (37778931862957161709568, 4), (37778931862957161709568, 5), (37778931864056673337344, 6), (37778931864073853206528, 7), (37778931864056673337344, 8), (2251799813685248, 9), (2251799813685248, 10), (2269391999729664, 11), (17592186044416, 12), (17592186044416, 13), (17592186060800, 14), (17592186044416, 15), (1284485913165586510118912, 256)] hp hp := bAx.rf hT
  refine bC.of (M := (xt_X12_current, (4, (1, (13, []))))) rfl rfl (N := 84) (yfuel (by decide)) ?_
  show yG 89 xfts (xcall 89 xfts xpools xms (d + 7)) (xpool xp_RX12) [] xt_X12_current (bP 1 (bQi G [(34359738368, 1), (1133871366144, 2), (1099511627776, 3), (37778931862957161709568, 4), (37778931862957161709568, 5), (37778931864056673337344, 6), (37778931864073853206528, 7), (37778931864056673337344, 8), (2251799813685248, 9), (2251799813685248, 10), (2269391999729664, 11), (17592186044416, 12), (17592186044416, 13), (17592186060800, 14), (17592186044416, 15), (1284485913165586510118912, 256)] hp (-1) 1 (fun z => 0 ≤ 0 - p1 + z + 20 ∧ 0 ≤ p1 - z + 1 ∧ 0 ≤ 0 - p2 + z + 2 ∧ 0 ≤ p2 - z + 1 ∧ 0 ≤ 0 - p3 + z + 5 ∧ 0 ≤ p3 - z + 1)) (bTh G [(34359738368, 1), (1133871366144, 2), (1099511627776, 3), (37778931862957161709568, 4), (37778931862957161709568, 5), (37778931864056673337344, 6), (37778931864073853206528, 7), (37778931864056673337344, 8), (2251799813685248, 9), (2251799813685248, 10), (2269391999729664, 11), (17592186044416, 12), (17592186044416, 13), (17592186060800, 14), (17592186044416, 15), (1284485913165586510118912, 256)] [0, 2] hp)) 84 0 [(0, yR k0), (1, yI (p1)), (2, yI (p2)), (3, yI (p3))] [] hp
  refine yG.load xak rfl (fun _ _ => rfl) (v := yR k0) rfl rfl ?_
  refine yG.load xik rfl (fun _ _ => rfl) (v := yI (p1)) rfl rfl ?_
  refine yG.invVT (rest := []) A_hp.1 (bOb (d_G W) H_k0) rfl rfl rfl rfl (c_G_testLine W (d + 5) A_hp.1 H_k0 (p1) (by omega) (by omega)) (fun hp8 e8 t8 => bP.thr2 (bTh.sub A_hp t8 (by decide) (by decide))) (fun rv hp9 q9 => ?_)
  obtain ⟨⟨rfl, R_z1⟩, e9⟩ := q9
  rw [e9]
  show yG _ _ _ _ _ _ _ _ _ _ [] _
  refine yG.load xik rfl (fun _ _ => rfl) (v := yI (p2)) rfl rfl ?_
  refine yG.num (c := 0) rfl (fun _ _ => rfl) (by decide) ?_
  refine yG.num (c := 1) rfl (fun _ _ => rfl) (by decide) ?_
  refine yG.invST (rest := []) rfl rfl rfl rfl (c_G_testWithin W (d + 6) A_hp.1 (p2) (0) (1) (by omega) (by omega) (by omega) (by omega) (by omega) (by omega)) (fun hp8 e8 t8 => bP.thr2 (bTh.sub A_hp t8 (by decide) (by decide))) (fun rv hp9 q9 => ?_)
  obtain ⟨⟨rfl, R_z2⟩, e9⟩ := q9
  rw [e9]
  show yG _ _ _ _ _ _ _ _ _ _ [] _
  refine yG.load xik rfl (fun _ _ => rfl) (v := yI (p3)) rfl rfl ?_
  refine yG.num (c := 0) rfl (fun _ _ => rfl) (by decide) ?_
  refine yG.num (c := 4) rfl (fun _ _ => rfl) (by decide) ?_
  refine yG.invST (rest := []) rfl rfl rfl rfl (c_G_testWithin W (d + 6) A_hp.1 (p3) (0) (4) (by omega) (by omega) (by omega) (by omega) (by omega) (by omega)) (fun hp8 e8 t8 => bP.thr2 (bTh.sub A_hp t8 (by decide) (by decide))) (fun rv hp9 q9 => ?_)
  obtain ⟨⟨rfl, R_z3⟩, e9⟩ := q9
  rw [e9]
  show yG _ _ _ _ _ _ _ _ _ _ [] _
  refine yG.load xak rfl (fun _ _ => rfl) (v := yR k0) rfl rfl ?_
  refine yG.invV (rest := []) A_hp.1 (bOb (d_G W) H_k0) rfl rfl rfl rfl (c_G_shorted W d A_hp.1 M_bSh H_k0) (fun rv h4 q9 => ?_)
  obtain ⟨⟨r5, rfl, H_r5⟩, B_h4⟩ := q9
  have A_h4 := A_hp.tr B_h4 (by decide)
  show yG _ _ _ _ _ _ _ _ _ _ (yR r5 :: []) _
  refine yG.load xik rfl (fun _ _ => rfl) (v := yI (p1)) rfl rfl ?_
  refine yG.load xik rfl (fun _ _ => rfl) (v := yI (p2)) rfl rfl ?_
  refine yG.invV (rest := []) A_h4.1 (bOb (d_Shorts W) H_r5) rfl rfl rfl rfl (c_Shorts_currents W (d + 3) A_h4.1 H_r5 (p1) (p2) (by omega) (by omega) (by omega) (by omega)) (fun rv h6 q9 => ?_)
  obtain ⟨⟨rfl, R_z7⟩, B_h6⟩ := q9
  have A_h6 := A_h4.tr B_h6 (by decide)
  show yG _ _ _ _ _ _ _ _ _ _ [] _
  refine yG.load xak rfl (fun _ _ => rfl) (v := yR k0) rfl rfl ?_
  refine yG.getO A_h6.1 (w_G_shorts W H_k0) rfl rfl (fun r8 H_r8 O_r8 q_r8 => ?_)
  refine yG.load xik rfl (fun _ _ => rfl) (v := yI (p3)) rfl rfl ?_
  refine yG.load xak rfl (fun _ _ => rfl) (v := yR k0) rfl rfl ?_
  refine yG.getO A_h6.1 (w_G_hand W H_k0) rfl rfl (fun r9 H_r9 O_r9 q_r9 => ?_)
  refine yG.invV (rest := []) A_h6.1 (bOb (d_Shorts W) H_r8) rfl rfl rfl rfl (c_Shorts_tell W (d + 2) A_h6.1 H_r8 H_r9 (p3) (by omega) (by omega)) (fun rv h10 q9 => ?_)
  obtain ⟨⟨rfl, R_z11⟩, B_h10⟩ := q9
  have A_h10 := A_h6.tr B_h10 (by decide)
  have qq1 : zsl h10 k0 5 = yR r9 := (B_h10.sl H_k0 (by decide)).trans q_r9
  show yG _ _ _ _ _ _ _ _ _ _ [] _
  refine yG.load xak rfl (fun _ _ => rfl) (v := yR k0) rfl rfl ?_
  refine yG.getS9 A_h10.1 (w_G_hand W H_k0) qq1 rfl rfl ?_
  refine yG.invV (rest := []) A_h10.1 (bOb (d_Hand W) H_r9) rfl rfl rfl rfl (c_Hand_made W (d + 5) A_h10.1 H_r9) (fun rv h12 q9 => ?_)
  obtain ⟨⟨z13, rfl, l_z13, u_z13, R_z13⟩, B_h12⟩ := q9
  have A_h12 := A_h10.tr B_h12 (by decide)
  have qq2 : zsl h12 k0 5 = yR r9 := (B_h12.sl H_k0 (by decide)).trans qq1
  show yG _ _ _ _ _ _ _ _ _ _ (yI z13 :: []) _
  refine yG.ret rfl (fun _ _ => rfl) ?_
  exact .inl (yP.int ⟨by omega, by omega⟩ ⟨⟨z13, rfl, by omega, by omega, by omega⟩, A_h12⟩)
theorem c_G_relay {hp : xH} (W : bW G) (d : Nat) (hT : zTy G hp) {k0 : Nat} (H_k0 : bRo G 14 k0) (p1 p2 p3 p4 : Int) (h1l : (-2147483648) ≤ p1) (h1u : p1 ≤ 2147483647) (h2l : (-2147483648) ≤ p2) (h2u : p2 ≤ 2147483647) (h3l : (-2147483648) ≤ p3) (h3u : p3 ≤ 2147483647) (h4l : (-2147483648) ≤ p4) (h4u : p4 ≤ 2147483647) : bC (xcall 89 xfts xpools xms (d + 3)) 317 [yR k0, yI (p1), yI (p2), yI (p3), yI (p4)] hp (bQi G [(37778931862957161709568, 4), (2417851639229258349412352, 7), (4611686018427387904, 9), (2417851639229258349412352, 10), (16384, 14), (79228162514264337593543950336, 18), (149906801632214017663565824, 256)] hp 0 16 (fun z => 0 ≤ 0 - p1 + z + 19 ∧ 0 ≤ p1 - z + 16 ∧ 0 ≤ 0 - p2 + z + 1 ∧ 0 ≤ p2 - z + 16 ∧ 0 ≤ 0 - p3 + z + 23 ∧ 0 ≤ p3 - z + 16 ∧ 0 ≤ 0 - p4 + z + 1 ∧ 0 ≤ p4 - z + 16)) (bTh G [(37778931862957161709568, 4), (2417851639229258349412352, 7), (4611686018427387904, 9), (2417851639229258349412352, 10), (16384, 14), (79228162514264337593543950336, 18), (149906801632214017663565824, 256)] [0, 1, 2] hp) := by
  have A_hp : bAx G [(37778931862957161709568, 4), (2417851639229258349412352, 7), (4611686018427387904, 9), (2417851639229258349412352, 10), (16384, 14), (79228162514264337593543950336, 18), (149906801632214017663565824, 256)] hp hp := bAx.rf hT
  refine bC.of (M := (xt_X12_relay, (5, (1, (13, []))))) rfl rfl (N := 93) (yfuel (by decide)) ?_
  show yG 89 xfts (xcall 89 xfts xpools xms (d + 2)) (xpool xp_RX12) [] xt_X12_relay (bP 1 (bQi G [(37778931862957161709568, 4), (2417851639229258349412352, 7), (4611686018427387904, 9), (2417851639229258349412352, 10), (16384, 14), (79228162514264337593543950336, 18), (149906801632214017663565824, 256)] hp 0 16 (fun z => 0 ≤ 0 - p1 + z + 19 ∧ 0 ≤ p1 - z + 16 ∧ 0 ≤ 0 - p2 + z + 1 ∧ 0 ≤ p2 - z + 16 ∧ 0 ≤ 0 - p3 + z + 23 ∧ 0 ≤ p3 - z + 16 ∧ 0 ≤ 0 - p4 + z + 1 ∧ 0 ≤ p4 - z + 16)) (bTh G [(37778931862957161709568, 4), (2417851639229258349412352, 7), (4611686018427387904, 9), (2417851639229258349412352, 10), (16384, 14), (79228162514264337593543950336, 18), (149906801632214017663565824, 256)] [0, 1, 2] hp)) 93 0 [(0, yR k0), (1, yI (p1)), (2, yI (p2)), (3, yI (p3)), (4, yI (p4))] [] hp
  refine yG.load xak rfl (fun _ _ => rfl) (v := yR k0) rfl rfl ?_
  refine yG.load xik rfl (fun _ _ => rfl) (v := yI (p1)) rfl rfl ?_
  refine yG.invVT (rest := []) A_hp.1 (bOb (d_G W) H_k0) rfl rfl rfl rfl (c_G_testLine W d A_hp.1 H_k0 (p1) (by omega) (by omega)) (fun hp8 e8 t8 => bP.thr2 (bTh.sub A_hp t8 (by decide) (by decide))) (fun rv hp9 q9 => ?_)
  obtain ⟨⟨rfl, R_z1⟩, e9⟩ := q9
  rw [e9]
  show yG _ _ _ _ _ _ _ _ _ _ [] _
  refine yG.load xak rfl (fun _ _ => rfl) (v := yR k0) rfl rfl ?_
  refine yG.load xik rfl (fun _ _ => rfl) (v := yI (p3)) rfl rfl ?_
  refine yG.invVT (rest := []) A_hp.1 (bOb (d_G W) H_k0) rfl rfl rfl rfl (c_G_testSwitch W d A_hp.1 H_k0 (p3) (by omega) (by omega)) (fun hp8 e8 t8 => bP.thr2 (bTh.sub A_hp t8 (by decide) (by decide))) (fun rv hp9 q9 => ?_)
  obtain ⟨⟨rfl, R_z2⟩, e9⟩ := q9
  rw [e9]
  show yG _ _ _ _ _ _ _ _ _ _ [] _
  refine yG.load xik rfl (fun _ _ => rfl) (v := yI (p2)) rfl rfl ?_
  refine yG.num (c := 0) rfl (fun _ _ => rfl) (by decide) ?_
  refine yG.num (c := 1) rfl (fun _ _ => rfl) (by decide) ?_
  refine yG.invST (rest := []) rfl rfl rfl rfl (c_G_testWithin W (d + 1) A_hp.1 (p2) (0) (1) (by omega) (by omega) (by omega) (by omega) (by omega) (by omega)) (fun hp8 e8 t8 => bP.thr2 (bTh.sub A_hp t8 (by decide) (by decide))) (fun rv hp9 q9 => ?_)
  obtain ⟨⟨rfl, R_z3⟩, e9⟩ := q9
  rw [e9]
  show yG _ _ _ _ _ _ _ _ _ _ [] _
  refine yG.load xik rfl (fun _ _ => rfl) (v := yI (p4)) rfl rfl ?_
  refine yG.num (c := 0) rfl (fun _ _ => rfl) (by decide) ?_
  refine yG.num (c := 1) rfl (fun _ _ => rfl) (by decide) ?_
  refine yG.invST (rest := []) rfl rfl rfl rfl (c_G_testWithin W (d + 1) A_hp.1 (p4) (0) (1) (by omega) (by omega) (by omega) (by omega) (by omega) (by omega)) (fun hp8 e8 t8 => bP.thr2 (bTh.sub A_hp t8 (by decide) (by decide))) (fun rv hp9 q9 => ?_)
  obtain ⟨⟨rfl, R_z4⟩, e9⟩ := q9
  rw [e9]
  show yG _ _ _ _ _ _ _ _ _ _ [] _
  refine yG.load xak rfl (fun _ _ => rfl) (v := yR k0) rfl rfl ?_
  refine yG.getO A_hp.1 (w_G_relays W H_k0) rfl rfl (fun r5 H_r5 O_r5 q_r5 => ?_)
  refine yG.getI A_hp.1 (w_Relays_count W H_r5) rfl rfl (fun z6 e_z6 i_z6 l_z6 u_z6 => ?_)
  refine yG.num (c := 16) rfl (fun _ _ => rfl) (by decide) ?_
  refine yG.icmp rfl (t := 46) rfl ⟨by omega, by omega⟩ ⟨by omega, by omega⟩ (fun c7 => ?_) (fun c7 => ?_)
  · have c7 : (z6 : Int) < 16 := c7
    refine yG.load xak rfl (fun _ _ => rfl) (v := yR k0) rfl rfl ?_
    refine yG.invV (rest := []) A_hp.1 (bOb (d_G W) H_k0) rfl rfl rfl rfl (c_G_changed W (d + 1) A_hp.1 H_k0) (fun rv h8 q9 => ?_)
    obtain ⟨⟨rfl, R_z9⟩, B_h8⟩ := q9
    have A_h8 := A_hp.tr B_h8 (by decide)
    have qq1 : zsl h8 k0 11 = yR r5 := (B_h8.sl H_k0 (by decide)).trans q_r5
    show yG _ _ _ _ _ _ _ _ _ _ [] _
    refine yG.load xak rfl (fun _ _ => rfl) (v := yR k0) rfl rfl ?_
    refine yG.getS9 A_h8.1 (w_G_relays W H_k0) qq1 rfl rfl ?_
    refine yG.load xik rfl (fun _ _ => rfl) (v := yI (p1)) rfl rfl ?_
    refine yG.load xik rfl (fun _ _ => rfl) (v := yI (p2)) rfl rfl ?_
    refine yG.load xik rfl (fun _ _ => rfl) (v := yI (p3)) rfl rfl ?_
    refine yG.load xik rfl (fun _ _ => rfl) (v := yI (p4)) rfl rfl ?_
    refine yG.invV (rest := []) A_h8.1 (bOb (d_Relays W) H_r5) rfl rfl rfl rfl (c_Relays_told W (d + 1) A_h8.1 H_r5 (p1) (p2) (p3) (p4) (by omega) (by omega) (by omega) (by omega) (by omega) (by omega) (by omega) (by omega)) (fun rv h10 q9 => ?_)
    obtain ⟨⟨z11, rfl, l_z11, u_z11, R_z11⟩, B_h10⟩ := q9
    have A_h10 := A_h8.tr B_h10 (by decide)
    have qq2 : zsl h10 k0 11 = yR r5 := (B_h10.sl H_k0 (by decide)).trans qq1
    show yG _ _ _ _ _ _ _ _ _ _ (yI z11 :: []) _
    refine yG.ret rfl (fun _ _ => rfl) ?_
    exact .inl (yP.int ⟨by omega, by omega⟩ ⟨⟨z11, rfl, by omega, by omega, by omega⟩, A_h10⟩)
  · have c7 : (z6 : Int) ≥ 16 := c7
    exact yG.newT (P := bP _ _ _) rfl rfl (bP.thr rfl ⟨by decide, hp, A_hp, rfl⟩)
theorem c_G_row {hp : xH} (W : bW G) (d : Nat) (hT : zTy G hp) {k0 : Nat} (H_k0 : bRo G 14 k0) (p1 p2 p3 : Int) (h1l : (-2147483648) ≤ p1) (h1u : p1 ≤ 2147483647) (h2l : (-2147483648) ≤ p2) (h2u : p2 ≤ 2147483647) (h3l : (-2147483648) ≤ p3) (h3u : p3 ≤ 2147483647) : bC (xcall 89 xfts xpools xms (d + 2)) 320 [yR k0, yI (p1), yI (p2), yI (p3)] hp (bQi G [(37778931862957161709568, 4), (4611686018427387904, 9), (2417851639229258349412352, 10), (16384, 14), (79228162514264337593543950336, 18), (541598767187353870268366848, 256)] hp 0 4 (fun z => 0 ≤ 0 - p1 + z + 15 ∧ 0 ≤ p1 - z + 4 ∧ 0 ≤ 0 - p2 + z + 99999 ∧ 0 ≤ p2 - z + 4 ∧ 0 ≤ 0 - p3 + z + 9999999 ∧ 0 ≤ p3 - z + 4)) (bTh G [(37778931862957161709568, 4), (4611686018427387904, 9), (2417851639229258349412352, 10), (16384, 14), (79228162514264337593543950336, 18), (541598767187353870268366848, 256)] [0, 1, 2] hp) := by
  have A_hp : bAx G [(37778931862957161709568, 4), (4611686018427387904, 9), (2417851639229258349412352, 10), (16384, 14), (79228162514264337593543950336, 18), (541598767187353870268366848, 256)] hp hp := bAx.rf hT
  refine bC.of (M := (xt_X12_row, (4, (1, (13, []))))) rfl rfl (N := 99) (yfuel (by decide)) ?_
  show yG 89 xfts (xcall 89 xfts xpools xms (d + 1)) (xpool xp_RX12) [] xt_X12_row (bP 1 (bQi G [(37778931862957161709568, 4), (4611686018427387904, 9), (2417851639229258349412352, 10), (16384, 14), (79228162514264337593543950336, 18), (541598767187353870268366848, 256)] hp 0 4 (fun z => 0 ≤ 0 - p1 + z + 15 ∧ 0 ≤ p1 - z + 4 ∧ 0 ≤ 0 - p2 + z + 99999 ∧ 0 ≤ p2 - z + 4 ∧ 0 ≤ 0 - p3 + z + 9999999 ∧ 0 ≤ p3 - z + 4)) (bTh G [(37778931862957161709568, 4), (4611686018427387904, 9), (2417851639229258349412352, 10), (16384, 14), (79228162514264337593543950336, 18), (541598767187353870268366848, 256)] [0, 1, 2] hp)) 99 0 [(0, yR k0), (1, yI (p1)), (2, yI (p2)), (3, yI (p3))] [] hp
  refine yG.load xik rfl (fun _ _ => rfl) (v := yI (p1)) rfl rfl ?_
  refine yG.ifz rfl (t := 15) rfl ⟨by omega, by omega⟩ (fun c1 => ?_) (fun c1 => ?_)
  · have c1 : (p1 : Int) < 0 := c1
    exact yG.newT (P := bP _ _ _) rfl rfl (bP.thr rfl ⟨by decide, hp, A_hp, rfl⟩)
  · have c1 : (p1 : Int) ≥ 0 := c1
    refine yG.load xik rfl (fun _ _ => rfl) (v := yI (p1)) rfl rfl ?_
    refine yG.load xak rfl (fun _ _ => rfl) (v := yR k0) rfl rfl ?_
    refine yG.getO A_hp.1 (w_G_relays W H_k0) rfl rfl (fun r2 H_r2 O_r2 q_r2 => ?_)
    refine yG.getI A_hp.1 (w_Relays_count W H_r2) rfl rfl (fun z3 e_z3 i_z3 l_z3 u_z3 => ?_)
    refine yG.icmp rfl (t := 26) rfl ⟨by omega, by omega⟩ ⟨by omega, by omega⟩ (fun c4 => ?_) (fun c4 => ?_)
    · have c4 : (p1 : Int) < z3 := c4
      refine yG.load xik rfl (fun _ _ => rfl) (v := yI (p2)) rfl rfl ?_
      refine yG.num (c := 0) rfl (fun _ _ => rfl) (by decide) ?_
      refine yG.num (c := 99999) rfl (fun _ _ => rfl) (by decide) ?_
      refine yG.invST (rest := []) rfl rfl rfl rfl (c_G_testWithin W d A_hp.1 (p2) (0) (99999) (by omega) (by omega) (by omega) (by omega) (by omega) (by omega)) (fun hp8 e8 t8 => bP.thr2 (bTh.sub A_hp t8 (by decide) (by decide))) (fun rv hp9 q9 => ?_)
      obtain ⟨⟨rfl, R_z5⟩, e9⟩ := q9
      rw [e9]
      show yG _ _ _ _ _ _ _ _ _ _ [] _
      refine yG.load xik rfl (fun _ _ => rfl) (v := yI (p3)) rfl rfl ?_
      refine yG.num (c := 0) rfl (fun _ _ => rfl) (by decide) ?_
      refine yG.num (c := 9999999) rfl (fun _ _ => rfl) (by decide) ?_
      refine yG.invST (rest := []) rfl rfl rfl rfl (c_G_testWithin W d A_hp.1 (p3) (0) (9999999) (by omega) (by omega) (by omega) (by omega) (by omega) (by omega)) (fun hp8 e8 t8 => bP.thr2 (bTh.sub A_hp t8 (by decide) (by decide))) (fun rv hp9 q9 => ?_)
      obtain ⟨⟨rfl, R_z6⟩, e9⟩ := q9
      rw [e9]
      show yG _ _ _ _ _ _ _ _ _ _ [] _
      refine yG.load xak rfl (fun _ _ => rfl) (v := yR k0) rfl rfl ?_
      refine yG.getS9 A_hp.1 (w_G_relays W H_k0) q_r2 rfl rfl ?_
      refine yG.getO A_hp.1 (w_Relays_rowCount W H_r2) rfl rfl (fun r7 H_r7 O_r7 q_r7 => ?_)
      refine yG.load xik rfl (fun _ _ => rfl) (v := yI (p1)) rfl rfl ?_
      refine yG.iald A_hp.1 (v_Relays_rowCount W H_r7) rfl (by omega) (by omega) (fun z8 e_z8 i_z8 l_z8 u_z8 => ?_)
      refine yG.num (c := 4) rfl (fun _ _ => rfl) (by decide) ?_
      refine yG.icmp rfl (t := 66) rfl ⟨by omega, by omega⟩ ⟨by omega, by omega⟩ (fun c9 => ?_) (fun c9 => ?_)
      · have c9 : (z8 : Int) < 4 := c9
        refine yG.load xak rfl (fun _ _ => rfl) (v := yR k0) rfl rfl ?_
        refine yG.invV (rest := []) A_hp.1 (bOb (d_G W) H_k0) rfl rfl rfl rfl (c_G_changed W d A_hp.1 H_k0) (fun rv h10 q9 => ?_)
        obtain ⟨⟨rfl, R_z11⟩, B_h10⟩ := q9
        have A_h10 := A_hp.tr B_h10 (by decide)
        have qq1 : zsl h10 k0 11 = yR r2 := (B_h10.sl H_k0 (by decide)).trans q_r2
        show yG _ _ _ _ _ _ _ _ _ _ [] _
        refine yG.load xak rfl (fun _ _ => rfl) (v := yR k0) rfl rfl ?_
        refine yG.getS9 A_h10.1 (w_G_relays W H_k0) qq1 rfl rfl ?_
        refine yG.load xik rfl (fun _ _ => rfl) (v := yI (p1)) rfl rfl ?_
        refine yG.load xik rfl (fun _ _ => rfl) (v := yI (p2)) rfl rfl ?_
        refine yG.load xik rfl (fun _ _ => rfl) (v := yI (p3)) rfl rfl ?_
        refine yG.invV (rest := []) A_h10.1 (bOb (d_Relays W) H_r2) rfl rfl rfl rfl (c_Relays_rowTold W d A_h10.1 H_r2 (p1) (p2) (p3) (by omega) (by omega) (by omega) (by omega) (by omega) (by omega)) (fun rv h12 q9 => ?_)
        obtain ⟨⟨z13, rfl, l_z13, u_z13, R_z13⟩, B_h12⟩ := q9
        have A_h12 := A_h10.tr B_h12 (by decide)
        have qq2 : zsl h12 k0 11 = yR r2 := (B_h12.sl H_k0 (by decide)).trans qq1
        show yG _ _ _ _ _ _ _ _ _ _ (yI z13 :: []) _
        refine yG.ret rfl (fun _ _ => rfl) ?_
        exact .inl (yP.int ⟨by omega, by omega⟩ ⟨⟨z13, rfl, by omega, by omega, by omega⟩, A_h12⟩)
      · have c9 : (z8 : Int) ≥ 4 := c9
        exact yG.newT (P := bP _ _ _) rfl rfl (bP.thr rfl ⟨by decide, hp, A_hp, rfl⟩)
    · have c4 : (p1 : Int) ≥ z3 := c4
      exact yG.newT (P := bP _ _ _) rfl rfl (bP.thr rfl ⟨by decide, hp, A_hp, rfl⟩)
theorem c_G_fails {hp : xH} (W : bW G) (d : Nat) (hT : zTy G hp) {k0 : Nat} (H_k0 : bRo G 14 k0) (p1 p2 : Int) (h1l : (-2147483648) ≤ p1) (h1u : p1 ≤ 2147483647) (h2l : 0 ≤ p2) (h2u : p2 ≤ 1) : bC (xcall 89 xfts xpools xms (d + 3)) 297 [yR k0, yI (p1), yI (p2)] hp (bQi G [(37778931862957161709568, 4), (4611686018427387904, 9), (2417851639229258349412352, 10), (16384, 14), (79228162514264337593543950336, 18), (618970019642690137449562112, 256)] hp 0 1 (fun z => (z = 1 → 0 ≤ p1 ∧ 0 ≤ 0 - p1 + 23) ∧ (z = 0 → 0 ≤ p1 ∧ 0 ≤ 0 - p1 + 23))) (bTh G [(37778931862957161709568, 4), (4611686018427387904, 9), (2417851639229258349412352, 10), (16384, 14), (79228162514264337593543950336, 18), (618970019642690137449562112, 256)] [2] hp) := by
  have A_hp : bAx G [(37778931862957161709568, 4), (4611686018427387904, 9), (2417851639229258349412352, 10), (16384, 14), (79228162514264337593543950336, 18), (618970019642690137449562112, 256)] hp hp := bAx.rf hT
  refine bC.of (M := (xt_X12_fails, (4, (4, (13, []))))) rfl rfl (N := 63) (yfuel (by decide)) ?_
  show yG 89 xfts (xcall 89 xfts xpools xms (d + 2)) (xpool xp_RX12) [] xt_X12_fails (bP 4 (bQi G [(37778931862957161709568, 4), (4611686018427387904, 9), (2417851639229258349412352, 10), (16384, 14), (79228162514264337593543950336, 18), (618970019642690137449562112, 256)] hp 0 1 (fun z => (z = 1 → 0 ≤ p1 ∧ 0 ≤ 0 - p1 + 23) ∧ (z = 0 → 0 ≤ p1 ∧ 0 ≤ 0 - p1 + 23))) (bTh G [(37778931862957161709568, 4), (4611686018427387904, 9), (2417851639229258349412352, 10), (16384, 14), (79228162514264337593543950336, 18), (618970019642690137449562112, 256)] [2] hp)) 63 0 [(0, yR k0), (1, yI (p1)), (2, yI (p2))] [] hp
  refine yG.load xak rfl (fun _ _ => rfl) (v := yR k0) rfl rfl ?_
  refine yG.load xik rfl (fun _ _ => rfl) (v := yI (p1)) rfl rfl ?_
  refine yG.invVT (rest := []) A_hp.1 (bOb (d_G W) H_k0) rfl rfl rfl rfl (c_G_testSwitch W d A_hp.1 H_k0 (p1) (by omega) (by omega)) (fun hp8 e8 t8 => bP.thr2 (bTh.sub A_hp t8 (by decide) (by decide))) (fun rv hp9 q9 => ?_)
  obtain ⟨⟨rfl, R_z1⟩, e9⟩ := q9
  rw [e9]
  show yG _ _ _ _ _ _ _ _ _ _ [] _
  refine yG.load xak rfl (fun _ _ => rfl) (v := yR k0) rfl rfl ?_
  refine yG.getO A_hp.1 (w_G_relays W H_k0) rfl rfl (fun r2 H_r2 O_r2 q_r2 => ?_)
  refine yG.getO A_hp.1 (w_Relays_failing W H_r2) rfl rfl (fun r3 H_r3 O_r3 q_r3 => ?_)
  refine yG.load xik rfl (fun _ _ => rfl) (v := yI (p1)) rfl rfl ?_
  refine yG.bald A_hp.1 (v_Relays_failing W H_r3) rfl (by omega) (by omega) (fun z4 e_z4 i_z4 l_z4 u_z4 => ?_)
  refine yG.store1 xik (L' := [(3, yI (z4)), (0, yR k0), (1, yI (p1)), (2, yI (p2))]) rfl (fun _ _ => rfl) rfl rfl ?_
  refine yG.load xak rfl (fun _ _ => rfl) (v := yR k0) rfl rfl ?_
  refine yG.getS9 A_hp.1 (w_G_relays W H_k0) q_r2 rfl rfl ?_
  refine yG.getS9 A_hp.1 (w_Relays_failing W H_r2) q_r3 rfl rfl ?_
  refine yG.load xik rfl (fun _ _ => rfl) (v := yI (p1)) rfl rfl ?_
  refine yG.load xik rfl (fun _ _ => rfl) (v := yI (p2)) rfl rfl ?_
  refine yG.bast A_hp.1 (v_Relays_failing W H_r3) (W.2.1 _ _ H_r3 (by decide) (by decide)) rfl (by omega) (by omega) ⟨by omega, by omega⟩ (by omega) (by omega) (fun h5 T_h5 b_h5 f_h5 y_h5 => ?_)
  have A_h5 := A_hp.put T_h5 b_h5 f_h5 H_r3 (bAll_ok (by decide) _)
  have qq1 : zsl h5 k0 11 = yR r2 := ((f_h5 k0 11).trans (if_neg (fun e => (bRo.ne H_k0 H_r3 (by decide)) e.1))).trans q_r2
  have qq2 : zsl h5 r2 8 = yR r3 := ((f_h5 r2 8).trans (if_neg (fun e => (bRo.ne H_r2 H_r3 (by decide)) e.1))).trans q_r3
  refine yG.load xak rfl (fun _ _ => rfl) (v := yR k0) rfl rfl ?_
  refine yG.invV (rest := []) A_h5.1 (bOb (d_G W) H_k0) rfl rfl rfl rfl (c_G_changed W (d + 1) A_h5.1 H_k0) (fun rv h6 q9 => ?_)
  obtain ⟨⟨rfl, R_z7⟩, B_h6⟩ := q9
  have A_h6 := A_h5.tr B_h6 (by decide)
  have qq3 : zsl h6 k0 11 = yR r2 := (B_h6.sl H_k0 (by decide)).trans qq1
  have qq4 : zsl h6 r2 8 = yR r3 := (B_h6.sl H_r2 (by decide)).trans qq2
  show yG _ _ _ _ _ _ _ _ _ _ [] _
  refine yG.load xik rfl (fun _ _ => rfl) (v := yI (z4)) rfl rfl ?_
  refine yG.ret rfl (fun _ _ => rfl) ?_
  exact .inl (yP.bool (by omega) ⟨⟨z4, rfl, by omega, by omega, by omega⟩, A_h6⟩)
theorem c_G_backup {hp : xH} (W : bW G) (d : Nat) (hT : zTy G hp) {k0 : Nat} (H_k0 : bRo G 14 k0) (p1 : Int) (h1l : (-2147483648) ≤ p1) (h1u : p1 ≤ 2147483647) : bC (xcall 89 xfts xpools xms (d + 2)) 280 [yR k0, yI (p1)] hp (bQi G [(37778931862957161709568, 4), (2417856250915276776800256, 9), (2417851639229258349412352, 10), (16384, 14), (79228162514264337593543950336, 18)] hp (-2147483648) 2147483647 (fun z => 0 ≤ 0 - p1 + z + 2157483647 ∧ 0 ≤ p1 - z + 2147483647)) (bTh G [(37778931862957161709568, 4), (2417856250915276776800256, 9), (2417851639229258349412352, 10), (16384, 14), (79228162514264337593543950336, 18)] [0] hp) := by
  have A_hp : bAx G [(37778931862957161709568, 4), (2417856250915276776800256, 9), (2417851639229258349412352, 10), (16384, 14), (79228162514264337593543950336, 18)] hp hp := bAx.rf hT
  refine bC.of (M := (xt_X12_backup, (3, (1, (13, []))))) rfl rfl (N := 54) (yfuel (by decide)) ?_
  show yG 89 xfts (xcall 89 xfts xpools xms (d + 1)) (xpool xp_RX12) [] xt_X12_backup (bP 1 (bQi G [(37778931862957161709568, 4), (2417856250915276776800256, 9), (2417851639229258349412352, 10), (16384, 14), (79228162514264337593543950336, 18)] hp (-2147483648) 2147483647 (fun z => 0 ≤ 0 - p1 + z + 2157483647 ∧ 0 ≤ p1 - z + 2147483647)) (bTh G [(37778931862957161709568, 4), (2417856250915276776800256, 9), (2417851639229258349412352, 10), (16384, 14), (79228162514264337593543950336, 18)] [0] hp)) 54 0 [(0, yR k0), (1, yI (p1))] [] hp
  refine yG.load xik rfl (fun _ _ => rfl) (v := yI (p1)) rfl rfl ?_
  refine yG.num (c := 0) rfl (fun _ _ => rfl) (by decide) ?_
  refine yG.num (c := 9999999) rfl (fun _ _ => rfl) (by decide) ?_
  refine yG.invST (rest := []) rfl rfl rfl rfl (c_G_testWithin W d A_hp.1 (p1) (0) (9999999) (by omega) (by omega) (by omega) (by omega) (by omega) (by omega)) (fun hp8 e8 t8 => bP.thr2 (bTh.sub A_hp t8 (by decide) (by decide))) (fun rv hp9 q9 => ?_)
  obtain ⟨⟨rfl, R_z1⟩, e9⟩ := q9
  rw [e9]
  show yG _ _ _ _ _ _ _ _ _ _ [] _
  refine yG.load xak rfl (fun _ _ => rfl) (v := yR k0) rfl rfl ?_
  refine yG.getO A_hp.1 (w_G_relays W H_k0) rfl rfl (fun r2 H_r2 O_r2 q_r2 => ?_)
  refine yG.getI A_hp.1 (w_Relays_later W H_r2) rfl rfl (fun z3 e_z3 i_z3 l_z3 u_z3 => ?_)
  refine yG.store1 xik (L' := [(2, yI (z3)), (0, yR k0), (1, yI (p1))]) rfl (fun _ _ => rfl) rfl rfl ?_
  refine yG.load xak rfl (fun _ _ => rfl) (v := yR k0) rfl rfl ?_
  refine yG.getS9 A_hp.1 (w_G_relays W H_k0) q_r2 rfl rfl ?_
  refine yG.load xik rfl (fun _ _ => rfl) (v := yI (p1)) rfl rfl ?_
  refine yG.putI A_hp.1 (w_Relays_later W H_r2) (W.2.1 _ _ H_r2 (by decide) (by decide)) rfl rfl (.inl rfl) ⟨by omega, by omega⟩ (by omega) (by omega) (fun h4 T_h4 b_h4 f_h4 y_h4 => ?_)
  have A_h4 := A_hp.put T_h4 b_h4 f_h4 H_r2 (by decide)
  have qq1 : zsl h4 k0 11 = yR r2 := ((f_h4 k0 11).trans (if_neg (fun e => (bRo.ne H_k0 H_r2 (by decide)) e.1))).trans q_r2
  refine yG.load xak rfl (fun _ _ => rfl) (v := yR k0) rfl rfl ?_
  refine yG.invV (rest := []) A_h4.1 (bOb (d_G W) H_k0) rfl rfl rfl rfl (c_G_changed W d A_h4.1 H_k0) (fun rv h5 q9 => ?_)
  obtain ⟨⟨rfl, R_z6⟩, B_h5⟩ := q9
  have A_h5 := A_h4.tr B_h5 (by decide)
  have qq2 : zsl h5 k0 11 = yR r2 := (B_h5.sl H_k0 (by decide)).trans qq1
  show yG _ _ _ _ _ _ _ _ _ _ [] _
  refine yG.load xik rfl (fun _ _ => rfl) (v := yI (z3)) rfl rfl ?_
  refine yG.ret rfl (fun _ _ => rfl) ?_
  exact .inl (yP.int ⟨by omega, by omega⟩ ⟨⟨z3, rfl, by omega, by omega, by omega⟩, A_h5⟩)
theorem c_G_met {hp : xH} (W : bW G) (d : Nat) (hT : zTy G hp) (M_bSh : bSh G hp) {k0 : Nat} (H_k0 : bRo G 14 k0) (p1 p2 : Int) (h1l : (-2147483648) ≤ p1) (h1u : p1 ≤ 2147483647) (h2l : (-2147483648) ≤ p2) (h2u : p2 ≤ 2147483647) : bC (xcall 89 xfts xpools xms (d + 8)) 308 [yR k0, yI (p1), yI (p2)] hp (bQi G [(34359738368, 1), (1133871366144, 2), (1099511627776, 3), (37778931862957161709568, 4), (37778931862957161709568, 5), (37778931864056673337344, 6), (37778931864056673337344, 7), (37778931864056673337344, 8), (2251799813685248, 9), (2251799813685248, 10), (2269391999729664, 11), (17592186044416, 12), (17592186044416, 13), (17592186060800, 14), (17592186044416, 15), (1284485913165586510118912, 256)] hp 0 1 (fun z => (z = 1 → 0 ≤ p1 ∧ 0 ≤ 0 - p1 + 15 ∧ 0 ≤ p2 ∧ 0 ≤ 0 - p2 + 3) ∧ (z = 0 → 0 ≤ p1 ∧ 0 ≤ 0 - p1 + 15 ∧ 0 ≤ p2 ∧ 0 ≤ 0 - p2 + 3))) (bTh G [(34359738368, 1), (1133871366144, 2), (1099511627776, 3), (37778931862957161709568, 4), (37778931862957161709568, 5), (37778931864056673337344, 6), (37778931864056673337344, 7), (37778931864056673337344, 8), (2251799813685248, 9), (2251799813685248, 10), (2269391999729664, 11), (17592186044416, 12), (17592186044416, 13), (17592186060800, 14), (17592186044416, 15), (1284485913165586510118912, 256)] [2] hp) := by
  have A_hp : bAx G [(34359738368, 1), (1133871366144, 2), (1099511627776, 3), (37778931862957161709568, 4), (37778931862957161709568, 5), (37778931864056673337344, 6), (37778931864056673337344, 7), (37778931864056673337344, 8), (2251799813685248, 9), (2251799813685248, 10), (2269391999729664, 11), (17592186044416, 12), (17592186044416, 13), (17592186060800, 14), (17592186044416, 15), (1284485913165586510118912, 256)] hp hp := bAx.rf hT
  refine bC.of (M := (xt_X12_met, (3, (4, (13, []))))) rfl rfl (N := 78) (yfuel (by decide)) ?_
  show yG 89 xfts (xcall 89 xfts xpools xms (d + 7)) (xpool xp_RX12) [] xt_X12_met (bP 4 (bQi G [(34359738368, 1), (1133871366144, 2), (1099511627776, 3), (37778931862957161709568, 4), (37778931862957161709568, 5), (37778931864056673337344, 6), (37778931864056673337344, 7), (37778931864056673337344, 8), (2251799813685248, 9), (2251799813685248, 10), (2269391999729664, 11), (17592186044416, 12), (17592186044416, 13), (17592186060800, 14), (17592186044416, 15), (1284485913165586510118912, 256)] hp 0 1 (fun z => (z = 1 → 0 ≤ p1 ∧ 0 ≤ 0 - p1 + 15 ∧ 0 ≤ p2 ∧ 0 ≤ 0 - p2 + 3) ∧ (z = 0 → 0 ≤ p1 ∧ 0 ≤ 0 - p1 + 15 ∧ 0 ≤ p2 ∧ 0 ≤ 0 - p2 + 3))) (bTh G [(34359738368, 1), (1133871366144, 2), (1099511627776, 3), (37778931862957161709568, 4), (37778931862957161709568, 5), (37778931864056673337344, 6), (37778931864056673337344, 7), (37778931864056673337344, 8), (2251799813685248, 9), (2251799813685248, 10), (2269391999729664, 11), (17592186044416, 12), (17592186044416, 13), (17592186060800, 14), (17592186044416, 15), (1284485913165586510118912, 256)] [2] hp)) 78 0 [(0, yR k0), (1, yI (p1)), (2, yI (p2))] [] hp
  refine yG.load xik rfl (fun _ _ => rfl) (v := yI (p1)) rfl rfl ?_
  refine yG.ifz rfl (t := 32) rfl ⟨by omega, by omega⟩ (fun c1 => ?_) (fun c1 => ?_)
  · have c1 : (p1 : Int) < 0 := c1
    exact yG.newT (P := bP _ _ _) rfl rfl (bP.thr rfl ⟨by decide, hp, A_hp, rfl⟩)
  · have c1 : (p1 : Int) ≥ 0 := c1
    refine yG.load xik rfl (fun _ _ => rfl) (v := yI (p1)) rfl rfl ?_
    refine yG.load xak rfl (fun _ _ => rfl) (v := yR k0) rfl rfl ?_
    refine yG.getO A_hp.1 (w_G_relays W H_k0) rfl rfl (fun r2 H_r2 O_r2 q_r2 => ?_)
    refine yG.getI A_hp.1 (w_Relays_count W H_r2) rfl rfl (fun z3 e_z3 i_z3 l_z3 u_z3 => ?_)
    refine yG.icmp rfl (t := 32) rfl ⟨by omega, by omega⟩ ⟨by omega, by omega⟩ (fun c4 => ?_) (fun c4 => ?_)
    · have c4 : (p1 : Int) ≥ z3 := c4
      exact yG.newT (P := bP _ _ _) rfl rfl (bP.thr rfl ⟨by decide, hp, A_hp, rfl⟩)
    · have c4 : (p1 : Int) < z3 := c4
      refine yG.load xik rfl (fun _ _ => rfl) (v := yI (p2)) rfl rfl ?_
      refine yG.ifz rfl (t := 32) rfl ⟨by omega, by omega⟩ (fun c5 => ?_) (fun c5 => ?_)
      · have c5 : (p2 : Int) < 0 := c5
        exact yG.newT (P := bP _ _ _) rfl rfl (bP.thr rfl ⟨by decide, hp, A_hp, rfl⟩)
      · have c5 : (p2 : Int) ≥ 0 := c5
        refine yG.load xik rfl (fun _ _ => rfl) (v := yI (p2)) rfl rfl ?_
        refine yG.load xak rfl (fun _ _ => rfl) (v := yR k0) rfl rfl ?_
        refine yG.getS9 A_hp.1 (w_G_relays W H_k0) q_r2 rfl rfl ?_
        refine yG.getO A_hp.1 (w_Relays_rowCount W H_r2) rfl rfl (fun r6 H_r6 O_r6 q_r6 => ?_)
        refine yG.load xik rfl (fun _ _ => rfl) (v := yI (p1)) rfl rfl ?_
        refine yG.iald A_hp.1 (v_Relays_rowCount W H_r6) rfl (by omega) (by omega) (fun z7 e_z7 i_z7 l_z7 u_z7 => ?_)
        refine yG.icmp rfl (t := 43) rfl ⟨by omega, by omega⟩ ⟨by omega, by omega⟩ (fun c8 => ?_) (fun c8 => ?_)
        · have c8 : (p2 : Int) < z7 := c8
          refine yG.load xak rfl (fun _ _ => rfl) (v := yR k0) rfl rfl ?_
          refine yG.getS9 A_hp.1 (w_G_relays W H_k0) q_r2 rfl rfl ?_
          refine yG.load xak rfl (fun _ _ => rfl) (v := yR k0) rfl rfl ?_
          refine yG.invV (rest := [yR r2]) A_hp.1 (bOb (d_G W) H_k0) rfl rfl rfl rfl (c_G_shorted W d A_hp.1 M_bSh H_k0) (fun rv h9 q9 => ?_)
          obtain ⟨⟨r10, rfl, H_r10⟩, B_h9⟩ := q9
          have A_h9 := A_hp.tr B_h9 (by decide)
          have qq1 : zsl h9 k0 11 = yR r2 := (B_h9.sl H_k0 (by decide)).trans q_r2
          show yG _ _ _ _ _ _ _ _ _ _ (yR r10 :: [yR r2]) _
          refine yG.load xik rfl (fun _ _ => rfl) (v := yI (p1)) rfl rfl ?_
          refine yG.load xik rfl (fun _ _ => rfl) (v := yI (p2)) rfl rfl ?_
          refine yG.invV (rest := []) A_h9.1 (bOb (d_Relays W) H_r2) rfl rfl rfl rfl (c_Relays_isMet W (d + 1) A_h9.1 H_r2 H_r10 (p1) (p2) (by omega) (by omega) (by omega) (by omega)) (fun rv h11 q9 => ?_)
          obtain ⟨⟨z12, rfl, l_z12, u_z12, R_z12⟩, B_h11⟩ := q9
          have A_h11 := A_h9.tr B_h11 (by decide)
          have qq2 : zsl h11 k0 11 = yR r2 := (B_h11.sl H_k0 (by decide)).trans qq1
          show yG _ _ _ _ _ _ _ _ _ _ (yI z12 :: []) _
          refine yG.ret rfl (fun _ _ => rfl) ?_
          exact .inl (yP.bool (by omega) ⟨⟨z12, rfl, by omega, by omega, by omega⟩, A_h11⟩)
        · have c8 : (p2 : Int) ≥ z7 := c8
          exact yG.newT (P := bP _ _ _) rfl rfl (bP.thr rfl ⟨by decide, hp, A_hp, rfl⟩)
theorem c_G_begin {hp : xH} (W : bW G) (d : Nat) (hT : zTy G hp) (M_bSh : bSh G hp) {k0 : Nat} (H_k0 : bRo G 14 k0) : bC (xcall 89 xfts xpools xms (d + 9)) 283 [yR k0] hp (fun rv hp' => (bQi G [(34359738368, 1), (1133871366144, 2), (1099511889920, 3), (37778931862957161971712, 4), (37778931862957161971712, 5), (37778931864056673599488, 6), (37778931864056673599488, 7), (37778931864056673337344, 8), (2251799813685248, 9), (2417851641481058163097600, 10), (2417851641481058163097600, 11), (2417851639229258349412352, 19), (18570385075193341948706947072, 256)] hp (-2147483648) 2147483647 (fun _ => True)) rv hp' ∧ bSh G hp') (bTh G [(34359738368, 1), (1133871366144, 2), (1099511889920, 3), (37778931862957161971712, 4), (37778931862957161971712, 5), (37778931864056673599488, 6), (37778931864056673599488, 7), (37778931864056673337344, 8), (2251799813685248, 9), (2417851641481058163097600, 10), (2417851641481058163097600, 11), (2417851639229258349412352, 19), (18570385075193341948706947072, 256)] [1] hp) := by
  have A_hp : bAx G [(34359738368, 1), (1133871366144, 2), (1099511889920, 3), (37778931862957161971712, 4), (37778931862957161971712, 5), (37778931864056673599488, 6), (37778931864056673599488, 7), (37778931864056673337344, 8), (2251799813685248, 9), (2417851641481058163097600, 10), (2417851641481058163097600, 11), (2417851639229258349412352, 19), (18570385075193341948706947072, 256)] hp hp := bAx.rf hT
  have M_bSh_hp := M_bSh
  refine bC.of (M := (xt_X12_begin, (1, (1, (13, []))))) rfl rfl (N := 36) (yfuel (by decide)) ?_
  show yG 89 xfts (xcall 89 xfts xpools xms (d + 8)) (xpool xp_RX12) [] xt_X12_begin (bP 1 (fun rv hp' => (bQi G [(34359738368, 1), (1133871366144, 2), (1099511889920, 3), (37778931862957161971712, 4), (37778931862957161971712, 5), (37778931864056673599488, 6), (37778931864056673599488, 7), (37778931864056673337344, 8), (2251799813685248, 9), (2417851641481058163097600, 10), (2417851641481058163097600, 11), (2417851639229258349412352, 19), (18570385075193341948706947072, 256)] hp (-2147483648) 2147483647 (fun _ => True)) rv hp' ∧ bSh G hp') (bTh G [(34359738368, 1), (1133871366144, 2), (1099511889920, 3), (37778931862957161971712, 4), (37778931862957161971712, 5), (37778931864056673599488, 6), (37778931864056673599488, 7), (37778931864056673337344, 8), (2251799813685248, 9), (2417851641481058163097600, 10), (2417851641481058163097600, 11), (2417851639229258349412352, 19), (18570385075193341948706947072, 256)] [1] hp)) 36 0 [(0, yR k0)] [] hp
  refine yG.load xak rfl (fun _ _ => rfl) (v := yR k0) rfl rfl ?_
  refine yG.getO A_hp.1 (w_G_net W H_k0) rfl rfl (fun r1 H_r1 O_r1 q_r1 => ?_)
  obtain ⟨g2, e_g2⟩ : ∃ z : Int, z = ys hp r1 3 := ⟨_, rfl⟩
  obtain ⟨-, -, l_g2, u_g2⟩ := (w_Net_shortKind W H_r1).int A_hp.1
  refine yG.invV (rest := []) A_hp.1 (bOb (d_Net W) H_r1) rfl rfl rfl rfl (c_Net_hasShort W (d + 7) A_hp.1 H_r1) (fun rv hp9 q9 => ?_)
  obtain ⟨⟨z3, rfl, l_z3, u_z3, R_z3⟩, e9⟩ := q9
  rw [e9]
  show yG _ _ _ _ _ _ _ _ _ _ (yI z3 :: []) _
  refine yG.ifz rfl (t := 21) rfl ⟨by omega, by omega⟩ (fun c4 => ?_) (fun c4 => ?_)
  · have c4 : (z3 : Int) ≠ 0 := c4
    refine yG.load xak rfl (fun _ _ => rfl) (v := yR k0) rfl rfl ?_
    refine yG.getO A_hp.1 (w_G_relays W H_k0) rfl rfl (fun r5 H_r5 O_r5 q_r5 => ?_)
    refine yG.load xak rfl (fun _ _ => rfl) (v := yR k0) rfl rfl ?_
    refine yG.getS9 A_hp.1 (w_G_net W H_k0) q_r1 rfl rfl ?_
    refine yG.invV (rest := []) A_hp.1 (bOb (d_Relays W) H_r5) rfl rfl rfl rfl (c_Relays_start W d A_hp.1 M_bSh_hp H_r5 H_r1) (fun rv h6 q9 => ?_)
    obtain ⟨q9, M_bSh_h6⟩ := q9
    obtain ⟨⟨z7, rfl, l_z7, u_z7, R_z7⟩, B_h6⟩ := q9
    have A_h6 := A_hp.tr B_h6 (by decide)
    have qq1 : zsl h6 k0 1 = yR r1 := (B_h6.sl H_k0 (by decide)).trans q_r1
    show yG _ _ _ _ _ _ _ _ _ _ (yI z7 :: []) _
    refine yG.ret rfl (fun _ _ => rfl) ?_
    exact .inl (yP.int ⟨by omega, by omega⟩ ⟨⟨⟨z7, rfl, by omega, by omega, trivial⟩, A_h6⟩, M_bSh_h6⟩)
  · have c4 : (z3 : Int) = 0 := c4
    exact yG.newT (P := bP _ _ _) rfl rfl (bP.thr rfl ⟨by decide, hp, A_hp, rfl⟩)
theorem c_G_run {hp : xH} (W : bW G) (d : Nat) (hT : zTy G hp) (M_bSh : bSh G hp) {k0 : Nat} (H_k0 : bRo G 14 k0) (p1 : Int) (h1l : (-2147483648) ≤ p1) (h1u : p1 ≤ 2147483647) : bC (xcall 89 xfts xpools xms (d + 9)) 322 [yR k0, yI (p1)] hp (bQi G [(34359738368, 1), (1133871366144, 2), (1099511627776, 3), (37778931862957161709568, 4), (37778931862957161709568, 5), (37778931864056673337344, 6), (37778931864056673337344, 7), (37778931864056673337344, 8), (2251799813685248, 9), (2251799813685248, 10), (2417851641481058163097600, 11), (2417851639229258349412352, 19), (58184466332325510741204402176, 256)] hp (-2147483648) 2147483647 (fun _ => True)) (bTh G [(34359738368, 1), (1133871366144, 2), (1099511627776, 3), (37778931862957161709568, 4), (37778931862957161709568, 5), (37778931864056673337344, 6), (37778931864056673337344, 7), (37778931864056673337344, 8), (2251799813685248, 9), (2251799813685248, 10), (2417851641481058163097600, 11), (2417851639229258349412352, 19), (58184466332325510741204402176, 256)] [0, 1] hp) := by
  have A_hp : bAx G [(34359738368, 1), (1133871366144, 2), (1099511627776, 3), (37778931862957161709568, 4), (37778931862957161709568, 5), (37778931864056673337344, 6), (37778931864056673337344, 7), (37778931864056673337344, 8), (2251799813685248, 9), (2251799813685248, 10), (2417851641481058163097600, 11), (2417851639229258349412352, 19), (58184466332325510741204402176, 256)] hp hp := bAx.rf hT
  refine bC.of (M := (xt_X12_run, (2, (1, (13, []))))) rfl rfl (N := 48) (yfuel (by decide)) ?_
  show yG 89 xfts (xcall 89 xfts xpools xms (d + 8)) (xpool xp_RX12) [] xt_X12_run (bP 1 (bQi G [(34359738368, 1), (1133871366144, 2), (1099511627776, 3), (37778931862957161709568, 4), (37778931862957161709568, 5), (37778931864056673337344, 6), (37778931864056673337344, 7), (37778931864056673337344, 8), (2251799813685248, 9), (2251799813685248, 10), (2417851641481058163097600, 11), (2417851639229258349412352, 19), (58184466332325510741204402176, 256)] hp (-2147483648) 2147483647 (fun _ => True)) (bTh G [(34359738368, 1), (1133871366144, 2), (1099511627776, 3), (37778931862957161709568, 4), (37778931862957161709568, 5), (37778931864056673337344, 6), (37778931864056673337344, 7), (37778931864056673337344, 8), (2251799813685248, 9), (2251799813685248, 10), (2417851641481058163097600, 11), (2417851639229258349412352, 19), (58184466332325510741204402176, 256)] [0, 1] hp)) 48 0 [(0, yR k0), (1, yI (p1))] [] hp
  refine yG.load xak rfl (fun _ _ => rfl) (v := yR k0) rfl rfl ?_
  refine yG.getO A_hp.1 (w_G_relays W H_k0) rfl rfl (fun r1 H_r1 O_r1 q_r1 => ?_)
  refine yG.getI A_hp.1 (w_Relays_running W H_r1) rfl rfl (fun z2 e_z2 i_z2 l_z2 u_z2 => ?_)
  refine yG.ifz rfl (t := 21) rfl ⟨by omega, by omega⟩ (fun c3 => ?_) (fun c3 => ?_)
  · have c3 : (z2 : Int) ≠ 0 := c3
    refine yG.load xik rfl (fun _ _ => rfl) (v := yI (p1)) rfl rfl ?_
    refine yG.load xak rfl (fun _ _ => rfl) (v := yR k0) rfl rfl ?_
    refine yG.getS9 A_hp.1 (w_G_relays W H_k0) q_r1 rfl rfl ?_
    refine yG.getI A_hp.1 (w_Relays_time W H_r1) rfl rfl (fun z4 e_z4 i_z4 l_z4 u_z4 => ?_)
    refine yG.icmp rfl (t := 43) rfl ⟨by omega, by omega⟩ ⟨by omega, by omega⟩ (fun c5 => ?_) (fun c5 => ?_)
    · have c5 : (p1 : Int) ≥ z4 := c5
      refine yG.load xak rfl (fun _ _ => rfl) (v := yR k0) rfl rfl ?_
      refine yG.getS9 A_hp.1 (w_G_relays W H_k0) q_r1 rfl rfl ?_
      refine yG.load xik rfl (fun _ _ => rfl) (v := yI (p1)) rfl rfl ?_
      refine yG.invV (rest := []) A_hp.1 (bOb (d_Relays W) H_r1) rfl rfl rfl rfl (c_Relays_advance W d A_hp.1 M_bSh H_r1 (p1) (by omega) (by omega)) (fun rv h6 q9 => ?_)
      obtain ⟨⟨z7, rfl, l_z7, u_z7, R_z7⟩, B_h6⟩ := q9
      have A_h6 := A_hp.tr B_h6 (by decide)
      have qq1 : zsl h6 k0 11 = yR r1 := (B_h6.sl H_k0 (by decide)).trans q_r1
      show yG _ _ _ _ _ _ _ _ _ _ (yI z7 :: []) _
      refine yG.ret rfl (fun _ _ => rfl) ?_
      exact .inl (yP.int ⟨by omega, by omega⟩ ⟨⟨z7, rfl, by omega, by omega, trivial⟩, A_h6⟩)
    · have c5 : (p1 : Int) < z4 := c5
      exact yG.newT (P := bP _ _ _) rfl rfl (bP.thr rfl ⟨by decide, hp, A_hp, rfl⟩)
  · have c3 : (z2 : Int) = 0 := c3
    exact yG.newT (P := bP _ _ _) rfl rfl (bP.thr rfl ⟨by decide, hp, A_hp, rfl⟩)
theorem c_G_opened {hp : xH} (W : bW G) (d : Nat) (hT : zTy G hp) {k0 : Nat} (H_k0 : bRo G 14 k0) (p1 p2 : Int) (h1l : (-2147483648) ≤ p1) (h1u : p1 ≤ 2147483647) (h2l : (-2147483648) ≤ p2) (h2u : p2 ≤ 2147483647) : yC (xcall 89 xfts xpools xms (d + 2)) 313 [yR k0, yI (p1), yI (p2)] hp (bQpi hp (-2147483648) 2147483647 (fun z => 0 ≤ 0 - p1 + z + 2147483671 ∧ 0 ≤ p1 - z + 2147483647 ∧ 0 ≤ 0 - p2 + z + 2147483649 ∧ 0 ≤ p2 - z + 2147483647)) := by
  have A_hp : bAx G [] hp hp := bAx.rf hT
  refine yC.of (M := (xt_X12_opened, (3, (1, (13, []))))) rfl rfl (N := 24) (yfuel (by decide)) ?_
  show yG 89 xfts (xcall 89 xfts xpools xms (d + 1)) (xpool xp_RX12) [] xt_X12_opened (yP 1 (bQpi hp (-2147483648) 2147483647 (fun z => 0 ≤ 0 - p1 + z + 2147483671 ∧ 0 ≤ p1 - z + 2147483647 ∧ 0 ≤ 0 - p2 + z + 2147483649 ∧ 0 ≤ p2 - z + 2147483647))) 24 0 [(0, yR k0), (1, yI (p1)), (2, yI (p2))] [] hp
  refine yG.load xak rfl (fun _ _ => rfl) (v := yR k0) rfl rfl ?_
  refine yG.getO A_hp.1 (w_G_relays W H_k0) rfl rfl (fun r1 H_r1 O_r1 q_r1 => ?_)
  refine yG.load xik rfl (fun _ _ => rfl) (v := yI (p1)) rfl rfl ?_
  refine yG.load xik rfl (fun _ _ => rfl) (v := yI (p2)) rfl rfl ?_
  refine yG.invV (rest := []) A_hp.1 (bOb (d_Relays W) H_r1) rfl rfl rfl rfl (c_Relays_openedAs W d A_hp.1 H_r1 (p1) (p2) (by omega) (by omega) (by omega) (by omega)) (fun rv hp9 q9 => ?_)
  obtain ⟨⟨z2, rfl, l_z2, u_z2, R_z2⟩, e9⟩ := q9
  rw [e9]
  show yG _ _ _ _ _ _ _ _ _ _ (yI z2 :: []) _
  refine yG.ret rfl (fun _ _ => rfl) ?_
  exact (yP.int ⟨by omega, by omega⟩ ⟨⟨z2, rfl, by omega, by omega, by omega⟩, rfl⟩)
theorem c_G_ordered {hp : xH} (W : bW G) (d : Nat) (hT : zTy G hp) {k0 : Nat} (H_k0 : bRo G 14 k0) (p1 : Int) (h1l : (-2147483648) ≤ p1) (h1u : p1 ≤ 2147483647) : yC (xcall 89 xfts xpools xms (d + 2)) 315 [yR k0, yI (p1)] hp (bQpi hp 0 1 (fun z => (z = 1 → 0 ≤ p1 ∧ 0 ≤ 0 - p1 + 23))) := by
  have A_hp : bAx G [] hp hp := bAx.rf hT
  refine yC.of (M := (xt_X12_ordered, (2, (4, (13, []))))) rfl rfl (N := 63) (yfuel (by decide)) ?_
  show yG 89 xfts (xcall 89 xfts xpools xms (d + 1)) (xpool xp_RX12) [] xt_X12_ordered (yP 4 (bQpi hp 0 1 (fun z => (z = 1 → 0 ≤ p1 ∧ 0 ≤ 0 - p1 + 23)))) 63 0 [(0, yR k0), (1, yI (p1))] [] hp
  refine yG.load xak rfl (fun _ _ => rfl) (v := yR k0) rfl rfl ?_
  refine yG.getO A_hp.1 (w_G_relays W H_k0) rfl rfl (fun r1 H_r1 O_r1 q_r1 => ?_)
  refine yG.getI A_hp.1 (w_Relays_running W H_r1) rfl rfl (fun z2 e_z2 i_z2 l_z2 u_z2 => ?_)
  refine yG.ifz rfl (t := 38) rfl ⟨by omega, by omega⟩ (fun c3 => ?_) (fun c3 => ?_)
  · have c3 : (z2 : Int) = 0 := c3
    refine yG.num (c := 0) rfl (fun _ _ => rfl) (by decide) ?_
    refine yG.ret rfl (fun _ _ => rfl) ?_
    exact (yP.bool (by omega) ⟨⟨0, rfl, by omega, by omega, by omega⟩, rfl⟩)
  · have c3 : (z2 : Int) ≠ 0 := c3
    refine yG.load xak rfl (fun _ _ => rfl) (v := yR k0) rfl rfl ?_
    refine yG.getO A_hp.1 (w_G_net W H_k0) rfl rfl (fun r4 H_r4 O_r4 q_r4 => ?_)
    refine yG.num (c := 1) rfl (fun _ _ => rfl) (by decide) ?_
    refine yG.load xik rfl (fun _ _ => rfl) (v := yI (p1)) rfl rfl ?_
    refine yG.invV (rest := []) A_hp.1 (bOb (d_Net W) H_r4) rfl rfl rfl rfl (c_Net_has_1 W d A_hp.1 H_r4 (p1) (by omega) (by omega)) (fun rv hp9 q9 => ?_)
    obtain ⟨⟨z5, rfl, l_z5, u_z5, R_z5⟩, e9⟩ := q9
    rw [e9]
    show yG _ _ _ _ _ _ _ _ _ _ (yI z5 :: []) _
    refine yG.ifz rfl (t := 38) rfl ⟨by omega, by omega⟩ (fun c6 => ?_) (fun c6 => ?_)
    · have c6 : (z5 : Int) = 0 := c6
      refine yG.num (c := 0) rfl (fun _ _ => rfl) (by decide) ?_
      refine yG.ret rfl (fun _ _ => rfl) ?_
      exact (yP.bool (by omega) ⟨⟨0, rfl, by omega, by omega, by omega⟩, rfl⟩)
    · have c6 : (z5 : Int) ≠ 0 := c6
      refine yG.load xak rfl (fun _ _ => rfl) (v := yR k0) rfl rfl ?_
      refine yG.getS9 A_hp.1 (w_G_relays W H_k0) q_r1 rfl rfl ?_
      refine yG.getO A_hp.1 (w_Relays_hasOrder W H_r1) rfl rfl (fun r7 H_r7 O_r7 q_r7 => ?_)
      refine yG.load xik rfl (fun _ _ => rfl) (v := yI (p1)) rfl rfl ?_
      refine yG.bald A_hp.1 (v_Relays_hasOrder W H_r7) rfl (by omega) (by omega) (fun z8 e_z8 i_z8 l_z8 u_z8 => ?_)
      refine yG.ifz rfl (t := 38) rfl ⟨by omega, by omega⟩ (fun c9 => ?_) (fun c9 => ?_)
      · have c9 : (z8 : Int) = 0 := c9
        refine yG.num (c := 0) rfl (fun _ _ => rfl) (by decide) ?_
        refine yG.ret rfl (fun _ _ => rfl) ?_
        exact (yP.bool (by omega) ⟨⟨0, rfl, by omega, by omega, by omega⟩, rfl⟩)
      · have c9 : (z8 : Int) ≠ 0 := c9
        refine yG.num (c := 1) rfl (fun _ _ => rfl) (by decide) ?_
        refine yG.goto rfl (t := 39) rfl ?_
        refine yG.ret rfl (fun _ _ => rfl) ?_
        exact (yP.bool (by omega) ⟨⟨1, rfl, by omega, by omega, by omega⟩, rfl⟩)
theorem c_G_dispatch {hp : xH} (W : bW G) (d : Nat) (hT : zTy G hp) {k0 : Nat} (H_k0 : bRo G 14 k0) : yC (xcall 89 xfts xpools xms (d + 9)) 293 [yR k0] hp (bQi G [(34359738368, 1), (1133871366144, 2), (79228162514264338693055578112, 3), (1099511627776, 6), (1099511627776, 7), (1099511627776, 8), (2251799813685248, 9), (79228162514266589393357635584, 10), (79228162514266606985543680000, 11), (17592186044416, 12), (17592186044416, 13), (17592186060800, 14), (17592186044416, 15), (79228162514264337593543950336, 18), (79228162514264337593543950336, 19), (40406362882277041997750426664960, 256)] hp 0 1 (fun _ => True)) := by
  have A_hp : bAx G [(34359738368, 1), (1133871366144, 2), (79228162514264338693055578112, 3), (1099511627776, 6), (1099511627776, 7), (1099511627776, 8), (2251799813685248, 9), (79228162514266589393357635584, 10), (79228162514266606985543680000, 11), (17592186044416, 12), (17592186044416, 13), (17592186060800, 14), (17592186044416, 15), (79228162514264337593543950336, 18), (79228162514264337593543950336, 19), (40406362882277041997750426664960, 256)] hp hp := bAx.rf hT
  refine yC.of (M := (xt_X12_dispatch, (1, (1, (13, []))))) rfl rfl (N := 45) (yfuel (by decide)) ?_
  show yG 89 xfts (xcall 89 xfts xpools xms (d + 8)) (xpool xp_RX12) [] xt_X12_dispatch (yP 1 (bQi G [(34359738368, 1), (1133871366144, 2), (79228162514264338693055578112, 3), (1099511627776, 6), (1099511627776, 7), (1099511627776, 8), (2251799813685248, 9), (79228162514266589393357635584, 10), (79228162514266606985543680000, 11), (17592186044416, 12), (17592186044416, 13), (17592186060800, 14), (17592186044416, 15), (79228162514264337593543950336, 18), (79228162514264337593543950336, 19), (40406362882277041997750426664960, 256)] hp 0 1 (fun _ => True))) 45 0 [(0, yR k0)] [] hp
  refine yG.load xak rfl (fun _ _ => rfl) (v := yR k0) rfl rfl ?_
  refine yG.invV (rest := []) A_hp.1 (bOb (d_G W) H_k0) rfl rfl rfl rfl (c_G_now W (d + 3) A_hp.1 H_k0) (fun rv h1 q9 => ?_)
  obtain ⟨⟨r2, rfl, H_r2⟩, B_h1⟩ := q9
  have A_h1 := A_hp.tr B_h1 (by decide)
  show yG _ _ _ _ _ _ _ _ _ _ (yR r2 :: []) _
  refine yG.step (pc' := 5) (stk' := []) rfl (fun _ _ => rfl) ?_
  refine yG.load xak rfl (fun _ _ => rfl) (v := yR k0) rfl rfl ?_
  refine yG.getO A_h1.1 (w_G_dispatch W H_k0) rfl rfl (fun r3 H_r3 O_r3 q_r3 => ?_)
  refine yG.invV (rest := []) A_h1.1 (bOb (d_Dispatch W) H_r3) rfl rfl rfl rfl (c_Dispatch_solve W d A_h1.1 H_r3) (fun rv h4 q9 => ?_)
  obtain ⟨⟨rfl, R_z5⟩, B_h4⟩ := q9
  have A_h4 := A_h1.tr B_h4 (by decide)
  have qq1 : zsl h4 k0 12 = yR r3 := (B_h4.sl H_k0 (by decide)).trans q_r3
  show yG _ _ _ _ _ _ _ _ _ _ [] _
  refine yG.load xak rfl (fun _ _ => rfl) (v := yR k0) rfl rfl ?_
  refine yG.getS9 A_h4.1 (w_G_dispatch W H_k0) qq1 rfl rfl ?_
  refine yG.getI A_h4.1 (w_Dispatch_found W H_r3) rfl rfl (fun z6 e_z6 i_z6 l_z6 u_z6 => ?_)
  refine yG.ifz rfl (t := 26) rfl ⟨by omega, by omega⟩ (fun c7 => ?_) (fun c7 => ?_)
  · have c7 : (z6 : Int) = 0 := c7
    refine yG.num (c := 0) rfl (fun _ _ => rfl) (by decide) ?_
    refine yG.ret rfl (fun _ _ => rfl) ?_
    exact (yP.int ⟨by omega, by omega⟩ ⟨⟨0, rfl, by omega, by omega, trivial⟩, A_h4⟩)
  · have c7 : (z6 : Int) ≠ 0 := c7
    refine yG.num (c := 1) rfl (fun _ _ => rfl) (by decide) ?_
    refine yG.goto rfl (t := 27) rfl ?_
    refine yG.ret rfl (fun _ _ => rfl) ?_
    exact (yP.int ⟨by omega, by omega⟩ ⟨⟨1, rfl, by omega, by omega, trivial⟩, A_h4⟩)
theorem c_G_cost {hp : xH} (W : bW G) (d : Nat) (hT : zTy G hp) {k0 : Nat} (H_k0 : bRo G 14 k0) : bC (xcall 89 xfts xpools xms (d + 9)) 288 [yR k0] hp (bQi G [(34359738368, 1), (1133871366144, 2), (79228162514264338693055578112, 3), (1099511627776, 6), (1116691496960, 7), (1099511627776, 8), (2251799813685248, 9), (79228162514266589393357635584, 10), (79228162514266606985543680000, 11), (17592186044416, 12), (17592186044416, 13), (17592186060800, 14), (17592186044416, 15), (79228162514264337593543950336, 18), (79228162514264337593543950336, 19), (40406362882277041997750426664960, 256)] hp (-1) 1 (fun _ => True)) (bTh G [(34359738368, 1), (1133871366144, 2), (79228162514264338693055578112, 3), (1099511627776, 6), (1116691496960, 7), (1099511627776, 8), (2251799813685248, 9), (79228162514266589393357635584, 10), (79228162514266606985543680000, 11), (17592186044416, 12), (17592186044416, 13), (17592186060800, 14), (17592186044416, 15), (79228162514264337593543950336, 18), (79228162514264337593543950336, 19), (40406362882277041997750426664960, 256)] [1] hp) := by
  have A_hp : bAx G [(34359738368, 1), (1133871366144, 2), (79228162514264338693055578112, 3), (1099511627776, 6), (1116691496960, 7), (1099511627776, 8), (2251799813685248, 9), (79228162514266589393357635584, 10), (79228162514266606985543680000, 11), (17592186044416, 12), (17592186044416, 13), (17592186060800, 14), (17592186044416, 15), (79228162514264337593543950336, 18), (79228162514264337593543950336, 19), (40406362882277041997750426664960, 256)] hp hp := bAx.rf hT
  refine bC.of (M := (xt_X12_cost, (1, (1, (13, []))))) rfl rfl (N := 57) (yfuel (by decide)) ?_
  show yG 89 xfts (xcall 89 xfts xpools xms (d + 8)) (xpool xp_RX12) [] xt_X12_cost (bP 1 (bQi G [(34359738368, 1), (1133871366144, 2), (79228162514264338693055578112, 3), (1099511627776, 6), (1116691496960, 7), (1099511627776, 8), (2251799813685248, 9), (79228162514266589393357635584, 10), (79228162514266606985543680000, 11), (17592186044416, 12), (17592186044416, 13), (17592186060800, 14), (17592186044416, 15), (79228162514264337593543950336, 18), (79228162514264337593543950336, 19), (40406362882277041997750426664960, 256)] hp (-1) 1 (fun _ => True)) (bTh G [(34359738368, 1), (1133871366144, 2), (79228162514264338693055578112, 3), (1099511627776, 6), (1116691496960, 7), (1099511627776, 8), (2251799813685248, 9), (79228162514266589393357635584, 10), (79228162514266606985543680000, 11), (17592186044416, 12), (17592186044416, 13), (17592186060800, 14), (17592186044416, 15), (79228162514264337593543950336, 18), (79228162514264337593543950336, 19), (40406362882277041997750426664960, 256)] [1] hp)) 57 0 [(0, yR k0)] [] hp
  refine yG.load xak rfl (fun _ _ => rfl) (v := yR k0) rfl rfl ?_
  refine yG.invV (rest := []) A_hp.1 (bOb (d_G W) H_k0) rfl rfl rfl rfl (c_G_now W (d + 3) A_hp.1 H_k0) (fun rv h1 q9 => ?_)
  obtain ⟨⟨r2, rfl, H_r2⟩, B_h1⟩ := q9
  have A_h1 := A_hp.tr B_h1 (by decide)
  show yG _ _ _ _ _ _ _ _ _ _ (yR r2 :: []) _
  refine yG.step (pc' := 5) (stk' := []) rfl (fun _ _ => rfl) ?_
  refine yG.load xak rfl (fun _ _ => rfl) (v := yR k0) rfl rfl ?_
  refine yG.getO A_h1.1 (w_G_dispatch W H_k0) rfl rfl (fun r3 H_r3 O_r3 q_r3 => ?_)
  refine yG.invV (rest := []) A_h1.1 (bOb (d_Dispatch W) H_r3) rfl rfl rfl rfl (c_Dispatch_solve W d A_h1.1 H_r3) (fun rv h4 q9 => ?_)
  obtain ⟨⟨rfl, R_z5⟩, B_h4⟩ := q9
  have A_h4 := A_h1.tr B_h4 (by decide)
  have qq1 : zsl h4 k0 12 = yR r3 := (B_h4.sl H_k0 (by decide)).trans q_r3
  show yG _ _ _ _ _ _ _ _ _ _ [] _
  refine yG.load xak rfl (fun _ _ => rfl) (v := yR k0) rfl rfl ?_
  refine yG.invVT (rest := []) A_h4.1 (bOb (d_G W) H_k0) rfl rfl rfl rfl (c_G_testDispatch W (d + 7) A_h4.1 H_k0) (fun hp8 e8 t8 => bP.thr2 (bTh.sub A_h4 t8 (by decide) (by decide))) (fun rv hp9 q9 => ?_)
  obtain ⟨⟨rfl, R_z6⟩, e9⟩ := q9
  rw [e9]
  show yG _ _ _ _ _ _ _ _ _ _ [] _
  refine yG.load xak rfl (fun _ _ => rfl) (v := yR k0) rfl rfl ?_
  refine yG.getS9 A_h4.1 (w_G_dispatch W H_k0) qq1 rfl rfl ?_
  refine yG.load xak rfl (fun _ _ => rfl) (v := yR k0) rfl rfl ?_
  refine yG.getO A_h4.1 (w_G_hand W H_k0) rfl rfl (fun r7 H_r7 O_r7 q_r7 => ?_)
  refine yG.invV (rest := []) A_h4.1 (bOb (d_Dispatch W) H_r3) rfl rfl rfl rfl (c_Dispatch_tellCost W (d + 4) A_h4.1 H_r3 H_r7) (fun rv h8 q9 => ?_)
  obtain ⟨⟨rfl, R_z9⟩, B_h8⟩ := q9
  have A_h8 := A_h4.tr B_h8 (by decide)
  have qq2 : zsl h8 k0 12 = yR r3 := (B_h8.sl H_k0 (by decide)).trans qq1
  have qq3 : zsl h8 k0 5 = yR r7 := (B_h8.sl H_k0 (by decide)).trans q_r7
  show yG _ _ _ _ _ _ _ _ _ _ [] _
  refine yG.load xak rfl (fun _ _ => rfl) (v := yR k0) rfl rfl ?_
  refine yG.getS9 A_h8.1 (w_G_hand W H_k0) qq3 rfl rfl ?_
  refine yG.invV (rest := []) A_h8.1 (bOb (d_Hand W) H_r7) rfl rfl rfl rfl (c_Hand_made W (d + 6) A_h8.1 H_r7) (fun rv h10 q9 => ?_)
  obtain ⟨⟨z11, rfl, l_z11, u_z11, R_z11⟩, B_h10⟩ := q9
  have A_h10 := A_h8.tr B_h10 (by decide)
  have qq4 : zsl h10 k0 12 = yR r3 := (B_h10.sl H_k0 (by decide)).trans qq2
  have qq5 : zsl h10 k0 5 = yR r7 := (B_h10.sl H_k0 (by decide)).trans qq3
  show yG _ _ _ _ _ _ _ _ _ _ (yI z11 :: []) _
  refine yG.ret rfl (fun _ _ => rfl) ?_
  exact .inl (yP.int ⟨by omega, by omega⟩ ⟨⟨z11, rfl, by omega, by omega, trivial⟩, A_h10⟩)
theorem c_G_sets {hp : xH} (W : bW G) (d : Nat) (hT : zTy G hp) {k0 : Nat} (H_k0 : bRo G 14 k0) (p1 : Int) (h1l : (-2147483648) ≤ p1) (h1u : p1 ≤ 2147483647) : bC (xcall 89 xfts xpools xms (d + 9)) 326 [yR k0, yI (p1)] hp (bQi G [(34359738368, 1), (1133871366144, 2), (79228162514264338693055578112, 3), (1099511627776, 6), (1116691496960, 7), (1099511627776, 8), (2251799813685248, 9), (79228162514266589393357635584, 10), (79228162514266606985543680000, 11), (17592186044416, 12), (17592186044416, 13), (17592186060800, 14), (17592186044416, 15), (79228162514264337593543950336, 18), (79228162514264337593543950336, 19), (40406362882277041997750426664960, 256)] hp (-1) 1 (fun z => 0 ≤ 0 - p1 + z + 6 ∧ 0 ≤ p1 - z + 1)) (bTh G [(34359738368, 1), (1133871366144, 2), (79228162514264338693055578112, 3), (1099511627776, 6), (1116691496960, 7), (1099511627776, 8), (2251799813685248, 9), (79228162514266589393357635584, 10), (79228162514266606985543680000, 11), (17592186044416, 12), (17592186044416, 13), (17592186060800, 14), (17592186044416, 15), (79228162514264337593543950336, 18), (79228162514264337593543950336, 19), (40406362882277041997750426664960, 256)] [1, 2] hp) := by
  have A_hp : bAx G [(34359738368, 1), (1133871366144, 2), (79228162514264338693055578112, 3), (1099511627776, 6), (1116691496960, 7), (1099511627776, 8), (2251799813685248, 9), (79228162514266589393357635584, 10), (79228162514266606985543680000, 11), (17592186044416, 12), (17592186044416, 13), (17592186060800, 14), (17592186044416, 15), (79228162514264337593543950336, 18), (79228162514264337593543950336, 19), (40406362882277041997750426664960, 256)] hp hp := bAx.rf hT
  refine bC.of (M := (xt_X12_sets, (2, (1, (13, []))))) rfl rfl (N := 69) (yfuel (by decide)) ?_
  show yG 89 xfts (xcall 89 xfts xpools xms (d + 8)) (xpool xp_RX12) [] xt_X12_sets (bP 1 (bQi G [(34359738368, 1), (1133871366144, 2), (79228162514264338693055578112, 3), (1099511627776, 6), (1116691496960, 7), (1099511627776, 8), (2251799813685248, 9), (79228162514266589393357635584, 10), (79228162514266606985543680000, 11), (17592186044416, 12), (17592186044416, 13), (17592186060800, 14), (17592186044416, 15), (79228162514264337593543950336, 18), (79228162514264337593543950336, 19), (40406362882277041997750426664960, 256)] hp (-1) 1 (fun z => 0 ≤ 0 - p1 + z + 6 ∧ 0 ≤ p1 - z + 1)) (bTh G [(34359738368, 1), (1133871366144, 2), (79228162514264338693055578112, 3), (1099511627776, 6), (1116691496960, 7), (1099511627776, 8), (2251799813685248, 9), (79228162514266589393357635584, 10), (79228162514266606985543680000, 11), (17592186044416, 12), (17592186044416, 13), (17592186060800, 14), (17592186044416, 15), (79228162514264337593543950336, 18), (79228162514264337593543950336, 19), (40406362882277041997750426664960, 256)] [1, 2] hp)) 69 0 [(0, yR k0), (1, yI (p1))] [] hp
  refine yG.load xak rfl (fun _ _ => rfl) (v := yR k0) rfl rfl ?_
  refine yG.load xik rfl (fun _ _ => rfl) (v := yI (p1)) rfl rfl ?_
  refine yG.invVT (rest := []) A_hp.1 (bOb (d_G W) H_k0) rfl rfl rfl rfl (c_G_testMachine W (d + 6) A_hp.1 H_k0 (p1) (by omega) (by omega)) (fun hp8 e8 t8 => bP.thr2 (bTh.sub A_hp t8 (by decide) (by decide))) (fun rv hp9 q9 => ?_)
  obtain ⟨⟨rfl, R_z1⟩, e9⟩ := q9
  rw [e9]
  show yG _ _ _ _ _ _ _ _ _ _ [] _
  refine yG.load xak rfl (fun _ _ => rfl) (v := yR k0) rfl rfl ?_
  refine yG.invV (rest := []) A_hp.1 (bOb (d_G W) H_k0) rfl rfl rfl rfl (c_G_now W (d + 3) A_hp.1 H_k0) (fun rv h2 q9 => ?_)
  obtain ⟨⟨r3, rfl, H_r3⟩, B_h2⟩ := q9
  have A_h2 := A_hp.tr B_h2 (by decide)
  show yG _ _ _ _ _ _ _ _ _ _ (yR r3 :: []) _
  refine yG.step (pc' := 10) (stk' := []) rfl (fun _ _ => rfl) ?_
  refine yG.load xak rfl (fun _ _ => rfl) (v := yR k0) rfl rfl ?_
  refine yG.getO A_h2.1 (w_G_dispatch W H_k0) rfl rfl (fun r4 H_r4 O_r4 q_r4 => ?_)
  refine yG.invV (rest := []) A_h2.1 (bOb (d_Dispatch W) H_r4) rfl rfl rfl rfl (c_Dispatch_solve W d A_h2.1 H_r4) (fun rv h5 q9 => ?_)
  obtain ⟨⟨rfl, R_z6⟩, B_h5⟩ := q9
  have A_h5 := A_h2.tr B_h5 (by decide)
  have qq1 : zsl h5 k0 12 = yR r4 := (B_h5.sl H_k0 (by decide)).trans q_r4
  show yG _ _ _ _ _ _ _ _ _ _ [] _
  refine yG.load xak rfl (fun _ _ => rfl) (v := yR k0) rfl rfl ?_
  refine yG.invVT (rest := []) A_h5.1 (bOb (d_G W) H_k0) rfl rfl rfl rfl (c_G_testDispatch W (d + 7) A_h5.1 H_k0) (fun hp8 e8 t8 => bP.thr2 (bTh.sub A_h5 t8 (by decide) (by decide))) (fun rv hp9 q9 => ?_)
  obtain ⟨⟨rfl, R_z7⟩, e9⟩ := q9
  rw [e9]
  show yG _ _ _ _ _ _ _ _ _ _ [] _
  refine yG.load xak rfl (fun _ _ => rfl) (v := yR k0) rfl rfl ?_
  refine yG.getS9 A_h5.1 (w_G_dispatch W H_k0) qq1 rfl rfl ?_
  refine yG.load xik rfl (fun _ _ => rfl) (v := yI (p1)) rfl rfl ?_
  refine yG.load xak rfl (fun _ _ => rfl) (v := yR k0) rfl rfl ?_
  refine yG.getO A_h5.1 (w_G_hand W H_k0) rfl rfl (fun r8 H_r8 O_r8 q_r8 => ?_)
  refine yG.invV (rest := []) A_h5.1 (bOb (d_Dispatch W) H_r4) rfl rfl rfl rfl (c_Dispatch_tellMachine W (d + 5) A_h5.1 H_r4 H_r8 (p1) (by omega) (by omega)) (fun rv h9 q9 => ?_)
  obtain ⟨⟨rfl, R_z10⟩, B_h9⟩ := q9
  have A_h9 := A_h5.tr B_h9 (by decide)
  have qq2 : zsl h9 k0 12 = yR r4 := (B_h9.sl H_k0 (by decide)).trans qq1
  have qq3 : zsl h9 k0 5 = yR r8 := (B_h9.sl H_k0 (by decide)).trans q_r8
  show yG _ _ _ _ _ _ _ _ _ _ [] _
  refine yG.load xak rfl (fun _ _ => rfl) (v := yR k0) rfl rfl ?_
  refine yG.getS9 A_h9.1 (w_G_hand W H_k0) qq3 rfl rfl ?_
  refine yG.invV (rest := []) A_h9.1 (bOb (d_Hand W) H_r8) rfl rfl rfl rfl (c_Hand_made W (d + 6) A_h9.1 H_r8) (fun rv h11 q9 => ?_)
  obtain ⟨⟨z12, rfl, l_z12, u_z12, R_z12⟩, B_h11⟩ := q9
  have A_h11 := A_h9.tr B_h11 (by decide)
  have qq4 : zsl h11 k0 12 = yR r4 := (B_h11.sl H_k0 (by decide)).trans qq2
  have qq5 : zsl h11 k0 5 = yR r8 := (B_h11.sl H_k0 (by decide)).trans qq3
  show yG _ _ _ _ _ _ _ _ _ _ (yI z12 :: []) _
  refine yG.ret rfl (fun _ _ => rfl) ?_
  exact .inl (yP.int ⟨by omega, by omega⟩ ⟨⟨z12, rfl, by omega, by omega, by omega⟩, A_h11⟩)
theorem c_G_price {hp : xH} (W : bW G) (d : Nat) (hT : zTy G hp) {k0 : Nat} (H_k0 : bRo G 14 k0) (p1 : Int) (h1l : (-2147483648) ≤ p1) (h1u : p1 ≤ 2147483647) : bC (xcall 89 xfts xpools xms (d + 9)) 316 [yR k0, yI (p1)] hp (bQi G [(34359738368, 1), (1133871366144, 2), (79228162514264338693055578112, 3), (1099511627776, 6), (1116691496960, 7), (1099511627776, 8), (2251799813685248, 9), (79228162514266589393357635584, 10), (79228162514266606985543680000, 11), (17592186044416, 12), (17592186044416, 13), (17592186060800, 14), (17592186044416, 15), (79228162514264337593543950336, 18), (79228162514264337593543950336, 19), (40406362882277041997750426664960, 256)] hp (-1) 1 (fun z => 0 ≤ 0 - p1 + z + 16 ∧ 0 ≤ p1 - z + 1)) (bTh G [(34359738368, 1), (1133871366144, 2), (79228162514264338693055578112, 3), (1099511627776, 6), (1116691496960, 7), (1099511627776, 8), (2251799813685248, 9), (79228162514266589393357635584, 10), (79228162514266606985543680000, 11), (17592186044416, 12), (17592186044416, 13), (17592186060800, 14), (17592186044416, 15), (79228162514264337593543950336, 18), (79228162514264337593543950336, 19), (40406362882277041997750426664960, 256)] [1, 2] hp) := by
  have A_hp : bAx G [(34359738368, 1), (1133871366144, 2), (79228162514264338693055578112, 3), (1099511627776, 6), (1116691496960, 7), (1099511627776, 8), (2251799813685248, 9), (79228162514266589393357635584, 10), (79228162514266606985543680000, 11), (17592186044416, 12), (17592186044416, 13), (17592186060800, 14), (17592186044416, 15), (79228162514264337593543950336, 18), (79228162514264337593543950336, 19), (40406362882277041997750426664960, 256)] hp hp := bAx.rf hT
  refine bC.of (M := (xt_X12_price, (3, (1, (13, []))))) rfl rfl (N := 117) (yfuel (by decide)) ?_
  show yG 89 xfts (xcall 89 xfts xpools xms (d + 8)) (xpool xp_RX12) [] xt_X12_price (bP 1 (bQi G [(34359738368, 1), (1133871366144, 2), (79228162514264338693055578112, 3), (1099511627776, 6), (1116691496960, 7), (1099511627776, 8), (2251799813685248, 9), (79228162514266589393357635584, 10), (79228162514266606985543680000, 11), (17592186044416, 12), (17592186044416, 13), (17592186060800, 14), (17592186044416, 15), (79228162514264337593543950336, 18), (79228162514264337593543950336, 19), (40406362882277041997750426664960, 256)] hp (-1) 1 (fun z => 0 ≤ 0 - p1 + z + 16 ∧ 0 ≤ p1 - z + 1)) (bTh G [(34359738368, 1), (1133871366144, 2), (79228162514264338693055578112, 3), (1099511627776, 6), (1116691496960, 7), (1099511627776, 8), (2251799813685248, 9), (79228162514266589393357635584, 10), (79228162514266606985543680000, 11), (17592186044416, 12), (17592186044416, 13), (17592186060800, 14), (17592186044416, 15), (79228162514264337593543950336, 18), (79228162514264337593543950336, 19), (40406362882277041997750426664960, 256)] [1, 2] hp)) 117 0 [(0, yR k0), (1, yI (p1))] [] hp
  refine yG.load xak rfl (fun _ _ => rfl) (v := yR k0) rfl rfl ?_
  refine yG.load xik rfl (fun _ _ => rfl) (v := yI (p1)) rfl rfl ?_
  refine yG.invVT (rest := []) A_hp.1 (bOb (d_G W) H_k0) rfl rfl rfl rfl (c_G_testBar W (d + 6) A_hp.1 H_k0 (p1) (by omega) (by omega)) (fun hp8 e8 t8 => bP.thr2 (bTh.sub A_hp t8 (by decide) (by decide))) (fun rv hp9 q9 => ?_)
  obtain ⟨⟨rfl, R_z1⟩, e9⟩ := q9
  rw [e9]
  show yG _ _ _ _ _ _ _ _ _ _ [] _
  refine yG.load xak rfl (fun _ _ => rfl) (v := yR k0) rfl rfl ?_
  refine yG.invV (rest := []) A_hp.1 (bOb (d_G W) H_k0) rfl rfl rfl rfl (c_G_now W (d + 3) A_hp.1 H_k0) (fun rv h2 q9 => ?_)
  obtain ⟨⟨r3, rfl, H_r3⟩, B_h2⟩ := q9
  have A_h2 := A_hp.tr B_h2 (by decide)
  show yG _ _ _ _ _ _ _ _ _ _ (yR r3 :: []) _
  refine yG.step (pc' := 10) (stk' := []) rfl (fun _ _ => rfl) ?_
  refine yG.load xak rfl (fun _ _ => rfl) (v := yR k0) rfl rfl ?_
  refine yG.getO A_h2.1 (w_G_dispatch W H_k0) rfl rfl (fun r4 H_r4 O_r4 q_r4 => ?_)
  refine yG.invV (rest := []) A_h2.1 (bOb (d_Dispatch W) H_r4) rfl rfl rfl rfl (c_Dispatch_solve W d A_h2.1 H_r4) (fun rv h5 q9 => ?_)
  obtain ⟨⟨rfl, R_z6⟩, B_h5⟩ := q9
  have A_h5 := A_h2.tr B_h5 (by decide)
  have qq1 : zsl h5 k0 12 = yR r4 := (B_h5.sl H_k0 (by decide)).trans q_r4
  show yG _ _ _ _ _ _ _ _ _ _ [] _
  refine yG.load xak rfl (fun _ _ => rfl) (v := yR k0) rfl rfl ?_
  refine yG.invVT (rest := []) A_h5.1 (bOb (d_G W) H_k0) rfl rfl rfl rfl (c_G_testDispatch W (d + 7) A_h5.1 H_k0) (fun hp8 e8 t8 => bP.thr2 (bTh.sub A_h5 t8 (by decide) (by decide))) (fun rv hp9 q9 => ?_)
  obtain ⟨⟨rfl, R_z7⟩, e9⟩ := q9
  rw [e9]
  show yG _ _ _ _ _ _ _ _ _ _ [] _
  refine yG.load xak rfl (fun _ _ => rfl) (v := yR k0) rfl rfl ?_
  refine yG.getO A_h5.1 (w_G_flow W H_k0) rfl rfl (fun r8 H_r8 O_r8 q_r8 => ?_)
  refine yG.getO A_h5.1 (w_Flow_shape W H_r8) rfl rfl (fun r9 H_r9 O_r9 q_r9 => ?_)
  refine yG.store1 xak (L' := [(2, yR r9), (0, yR k0), (1, yI (p1))]) rfl (fun _ _ => rfl) rfl rfl ?_
  refine yG.load xak rfl (fun _ _ => rfl) (v := yR r9) rfl rfl ?_
  refine yG.getO A_h5.1 (w_Shape_live W H_r9) rfl rfl (fun r10 H_r10 O_r10 q_r10 => ?_)
  refine yG.load xak rfl (fun _ _ => rfl) (v := yR r9) rfl rfl ?_
  refine yG.getO A_h5.1 (w_Shape_island W H_r9) rfl rfl (fun r11 H_r11 O_r11 q_r11 => ?_)
  refine yG.load xik rfl (fun _ _ => rfl) (v := yI (p1)) rfl rfl ?_
  refine yG.ialdF A_h5.1 (v_Shape_island W H_r11) rfl rfl (by omega) (by omega) (fun z12 e_z12 i_z12 l_z12 u_z12 => ?_)
  refine yG.bald A_h5.1 (v_Shape_live W H_r10) rfl (by omega) (by omega) (fun z13 e_z13 i_z13 l_z13 u_z13 => ?_)
  refine yG.ifz rfl (t := 54) rfl ⟨by omega, by omega⟩ (fun c14 => ?_) (fun c14 => ?_)
  · have c14 : (z13 : Int) = 0 := c14
    exact yG.newT (P := bP _ _ _) rfl rfl (bP.thr rfl ⟨by decide, h5, A_h5, rfl⟩)
  · have c14 : (z13 : Int) ≠ 0 := c14
    refine yG.load xak rfl (fun _ _ => rfl) (v := yR k0) rfl rfl ?_
    refine yG.getS9 A_h5.1 (w_G_dispatch W H_k0) qq1 rfl rfl ?_
    refine yG.load xik rfl (fun _ _ => rfl) (v := yI (p1)) rfl rfl ?_
    refine yG.invV (rest := []) A_h5.1 (bOb (d_Dispatch W) H_r4) rfl rfl rfl rfl (c_Dispatch_trial W (d + 1) A_h5.1 H_r4 (p1) (by omega) (by omega)) (fun rv h15 q9 => ?_)
    obtain ⟨⟨z16, rfl, l_z16, u_z16, R_z16⟩, B_h15⟩ := q9
    have A_h15 := A_h5.tr B_h15 (by decide)
    have qq2 : zsl h15 k0 12 = yR r4 := (B_h15.sl H_k0 (by decide)).trans qq1
    show yG _ _ _ _ _ _ _ _ _ _ (yI z16 :: []) _
    refine yG.ifz rfl (t := 65) rfl ⟨by omega, by omega⟩ (fun c17 => ?_) (fun c17 => ?_)
    · have c17 : (z16 : Int) ≠ 0 := c17
      refine yG.load xak rfl (fun _ _ => rfl) (v := yR k0) rfl rfl ?_
      refine yG.getS9 A_h15.1 (w_G_dispatch W H_k0) qq2 rfl rfl ?_
      refine yG.load xak rfl (fun _ _ => rfl) (v := yR k0) rfl rfl ?_
      refine yG.getO A_h15.1 (w_G_hand W H_k0) rfl rfl (fun r18 H_r18 O_r18 q_r18 => ?_)
      refine yG.invV (rest := []) A_h15.1 (bOb (d_Dispatch W) H_r4) rfl rfl rfl rfl (c_Dispatch_tellPrice W (d + 4) A_h15.1 H_r4 H_r18) (fun rv h19 q9 => ?_)
      obtain ⟨⟨rfl, R_z20⟩, B_h19⟩ := q9
      have A_h19 := A_h15.tr B_h19 (by decide)
      have qq3 : zsl h19 k0 12 = yR r4 := (B_h19.sl H_k0 (by decide)).trans qq2
      have qq4 : zsl h19 k0 5 = yR r18 := (B_h19.sl H_k0 (by decide)).trans q_r18
      show yG _ _ _ _ _ _ _ _ _ _ [] _
      refine yG.load xak rfl (fun _ _ => rfl) (v := yR k0) rfl rfl ?_
      refine yG.getS9 A_h19.1 (w_G_hand W H_k0) qq4 rfl rfl ?_
      refine yG.invV (rest := []) A_h19.1 (bOb (d_Hand W) H_r18) rfl rfl rfl rfl (c_Hand_made W (d + 6) A_h19.1 H_r18) (fun rv h21 q9 => ?_)
      obtain ⟨⟨z22, rfl, l_z22, u_z22, R_z22⟩, B_h21⟩ := q9
      have A_h21 := A_h19.tr B_h21 (by decide)
      have qq5 : zsl h21 k0 12 = yR r4 := (B_h21.sl H_k0 (by decide)).trans qq3
      have qq6 : zsl h21 k0 5 = yR r18 := (B_h21.sl H_k0 (by decide)).trans qq4
      show yG _ _ _ _ _ _ _ _ _ _ (yI z22 :: []) _
      refine yG.ret rfl (fun _ _ => rfl) ?_
      exact .inl (yP.int ⟨by omega, by omega⟩ ⟨⟨z22, rfl, by omega, by omega, by omega⟩, A_h21⟩)
    · have c17 : (z16 : Int) = 0 := c17
      exact yG.newT (P := bP _ _ _) rfl rfl (bP.thr rfl ⟨by decide, h15, A_h15, rfl⟩)
theorem c_G_order {hp : xH} (W : bW G) (d : Nat) (hT : zTy G hp) (M_bSt : bSt G hp) {k0 : Nat} (H_k0 : bRo G 14 k0) : yC (xcall 89 xfts xpools xms (d + 5)) 314 [yR k0] hp (fun rv hp' => (bQi G [(32768, 2), (32768, 3), (32768, 4), (32768, 5), (32768, 6), (162259276829213363391578010320896, 7), (162259276829213363391578010288128, 8), (162259276829213363391578010288128, 9), (1298074214633706907132624082305024, 256)] hp (-4001) 24 (fun _ => True)) rv hp' ∧ bSt G hp') := by
  have A_hp : bAx G [(32768, 2), (32768, 3), (32768, 4), (32768, 5), (32768, 6), (162259276829213363391578010320896, 7), (162259276829213363391578010288128, 8), (162259276829213363391578010288128, 9), (1298074214633706907132624082305024, 256)] hp hp := bAx.rf hT
  have M_bSt_hp := M_bSt
  refine yC.of (M := (xt_X12_order, (2, (1, (13, []))))) rfl rfl (N := 48) (yfuel (by decide)) ?_
  show yG 89 xfts (xcall 89 xfts xpools xms (d + 4)) (xpool xp_RX12) [] xt_X12_order (yP 1 (fun rv hp' => (bQi G [(32768, 2), (32768, 3), (32768, 4), (32768, 5), (32768, 6), (162259276829213363391578010320896, 7), (162259276829213363391578010288128, 8), (162259276829213363391578010288128, 9), (1298074214633706907132624082305024, 256)] hp (-4001) 24 (fun _ => True)) rv hp' ∧ bSt G hp')) 48 0 [(0, yR k0)] [] hp
  refine yG.load xak rfl (fun _ _ => rfl) (v := yR k0) rfl rfl ?_
  refine yG.getO A_hp.1 (w_G_rules W H_k0) rfl rfl (fun r1 H_r1 O_r1 q_r1 => ?_)
  refine yG.load xak rfl (fun _ _ => rfl) (v := yR k0) rfl rfl ?_
  refine yG.getO A_hp.1 (w_G_tape W H_k0) rfl rfl (fun r2 H_r2 O_r2 q_r2 => ?_)
  refine yG.load xak rfl (fun _ _ => rfl) (v := yR k0) rfl rfl ?_
  refine yG.getO A_hp.1 (w_G_net W H_k0) rfl rfl (fun r3 H_r3 O_r3 q_r3 => ?_)
  refine yG.invV (rest := []) A_hp.1 (bOb (d_Rules W) H_r1) rfl rfl rfl rfl (c_Rules_readOrder W d A_hp.1 M_bSt_hp H_r1 H_r2 H_r3) (fun rv h4 q9 => ?_)
  obtain ⟨q9, M_bSt_h4⟩ := q9
  obtain ⟨⟨z5, rfl, l_z5, u_z5, R_z5⟩, B_h4⟩ := q9
  have A_h4 := A_hp.tr B_h4 (by decide)
  have qq1 : zsl h4 k0 0 = yR r2 := (B_h4.sl H_k0 (by decide)).trans q_r2
  show yG _ _ _ _ _ _ _ _ _ _ (yI z5 :: []) _
  refine yG.store1 xik (L' := [(1, yI (z5)), (0, yR k0)]) rfl (fun _ _ => rfl) rfl rfl ?_
  refine yG.load xak rfl (fun _ _ => rfl) (v := yR k0) rfl rfl ?_
  refine yG.getS9 A_h4.1 (w_G_tape W H_k0) qq1 rfl rfl ?_
  refine yG.num (c := 0) rfl (fun _ _ => rfl) (by decide) ?_
  refine yG.putI A_h4.1 (w_Tape_length W H_r2) (W.2.1 _ _ H_r2 (by decide) (by decide)) rfl rfl (.inl rfl) ⟨by omega, by omega⟩ (by omega) (by omega) (fun h6 T_h6 b_h6 f_h6 y_h6 => ?_)
  have M_bSt_h6 := M_bSt_h4.fr (bAx.put (Wl := [(32768, 4)]) (bAx.rf A_h4.1) T_h6 b_h6 f_h6 H_r2 (by decide)) (by decide)
  have A_h6 := A_h4.put T_h6 b_h6 f_h6 H_r2 (by decide)
  have qq2 : zsl h6 k0 0 = yR r2 := ((f_h6 k0 0).trans (if_neg (fun e => (bRo.ne H_k0 H_r2 (by decide)) e.1))).trans qq1
  refine yG.load xik rfl (fun _ _ => rfl) (v := yI (z5)) rfl rfl ?_
  refine yG.ret rfl (fun _ _ => rfl) ?_
  exact (yP.int ⟨by omega, by omega⟩ ⟨⟨⟨z5, rfl, by omega, by omega, trivial⟩, A_h6⟩, M_bSt_h6⟩)
theorem c_G_barred {hp : xH} (W : bW G) (d : Nat) (hT : zTy G hp) (M_bSh : bSh G hp) (M_bSt : bSt G hp) (M_bCd : bCd G hp) {k0 : Nat} (H_k0 : bRo G 14 k0) (p1 : Int) (h1l : (-2147483648) ≤ p1) (h1u : p1 ≤ 2147483647) : bC (xcall 89 xfts xpools xms (d + 8)) 282 [yR k0, yI (p1)] hp (fun rv hp' => (bQi G [(34359738368, 1), (1133871366144, 2), (1099511889920, 3), (262144, 4), (262144, 5), (1099511889920, 6), (1099511889920, 7), (1099511627776, 8), (2251799813685248, 9), (162259276829213365643377823973376, 10), (41700634145107834393887348457734144, 11), (41700634145107834391635548644048896, 12), (41538374868278621028243970633760768, 13), (41538374868278621028243970633760768, 14), (41538374868278621028243970633760768, 15), (2229825047303290880, 256)] hp (-2147483648) 2147483647 (fun z => 0 ≤ 0 - p1 + z + 2147483649 ∧ 0 ≤ p1 - z + 2147483647)) rv hp' ∧ bSh G hp') (bTh G [(34359738368, 1), (1133871366144, 2), (1099511889920, 3), (262144, 4), (262144, 5), (1099511889920, 6), (1099511889920, 7), (1099511627776, 8), (2251799813685248, 9), (162259276829213365643377823973376, 10), (41700634145107834393887348457734144, 11), (41700634145107834391635548644048896, 12), (41538374868278621028243970633760768, 13), (41538374868278621028243970633760768, 14), (41538374868278621028243970633760768, 15), (2229825047303290880, 256)] [0] hp) := by
  have A_hp : bAx G [(34359738368, 1), (1133871366144, 2), (1099511889920, 3), (262144, 4), (262144, 5), (1099511889920, 6), (1099511889920, 7), (1099511627776, 8), (2251799813685248, 9), (162259276829213365643377823973376, 10), (41700634145107834393887348457734144, 11), (41700634145107834391635548644048896, 12), (41538374868278621028243970633760768, 13), (41538374868278621028243970633760768, 14), (41538374868278621028243970633760768, 15), (2229825047303290880, 256)] hp hp := bAx.rf hT
  have M_bSh_hp := M_bSh
  refine bC.of (M := (xt_X12_barred, (2, (1, (13, []))))) rfl rfl (N := 57) (yfuel (by decide)) ?_
  show yG 89 xfts (xcall 89 xfts xpools xms (d + 7)) (xpool xp_RX12) [] xt_X12_barred (bP 1 (fun rv hp' => (bQi G [(34359738368, 1), (1133871366144, 2), (1099511889920, 3), (262144, 4), (262144, 5), (1099511889920, 6), (1099511889920, 7), (1099511627776, 8), (2251799813685248, 9), (162259276829213365643377823973376, 10), (41700634145107834393887348457734144, 11), (41700634145107834391635548644048896, 12), (41538374868278621028243970633760768, 13), (41538374868278621028243970633760768, 14), (41538374868278621028243970633760768, 15), (2229825047303290880, 256)] hp (-2147483648) 2147483647 (fun z => 0 ≤ 0 - p1 + z + 2147483649 ∧ 0 ≤ p1 - z + 2147483647)) rv hp' ∧ bSh G hp') (bTh G [(34359738368, 1), (1133871366144, 2), (1099511889920, 3), (262144, 4), (262144, 5), (1099511889920, 6), (1099511889920, 7), (1099511627776, 8), (2251799813685248, 9), (162259276829213365643377823973376, 10), (41700634145107834393887348457734144, 11), (41700634145107834391635548644048896, 12), (41538374868278621028243970633760768, 13), (41538374868278621028243970633760768, 14), (41538374868278621028243970633760768, 15), (2229825047303290880, 256)] [0] hp)) 57 0 [(0, yR k0), (1, yI (p1))] [] hp
  refine yG.load xik rfl (fun _ _ => rfl) (v := yI (p1)) rfl rfl ?_
  refine yG.num (c := 0) rfl (fun _ _ => rfl) (by decide) ?_
  refine yG.num (c := 1) rfl (fun _ _ => rfl) (by decide) ?_
  refine yG.invST (rest := []) rfl rfl rfl rfl (c_G_testWithin W (d + 6) A_hp.1 (p1) (0) (1) (by omega) (by omega) (by omega) (by omega) (by omega) (by omega)) (fun hp8 e8 t8 => bP.thr2 (bTh.sub A_hp t8 (by decide) (by decide))) (fun rv hp9 q9 => ?_)
  obtain ⟨⟨rfl, R_z1⟩, e9⟩ := q9
  rw [e9]
  show yG _ _ _ _ _ _ _ _ _ _ [] _
  refine yG.load xak rfl (fun _ _ => rfl) (v := yR k0) rfl rfl ?_
  refine yG.getO A_hp.1 (w_G_rules W H_k0) rfl rfl (fun r2 H_r2 O_r2 q_r2 => ?_)
  refine yG.load xak rfl (fun _ _ => rfl) (v := yR k0) rfl rfl ?_
  refine yG.getO A_hp.1 (w_G_net W H_k0) rfl rfl (fun r3 H_r3 O_r3 q_r3 => ?_)
  refine yG.invV (rest := []) A_hp.1 (bOb (d_Rules W) H_r2) rfl rfl rfl rfl (c_Rules_follow W d A_hp.1 M_bSh_hp M_bSt M_bCd H_r2 H_r3) (fun rv h4 q9 => ?_)
  obtain ⟨q9, M_bSh_h4⟩ := q9
  obtain ⟨⟨r5, rfl, H_r5⟩, B_h4⟩ := q9
  have A_h4 := A_hp.tr B_h4 (by decide)
  have qq1 : zsl h4 k0 13 = yR r2 := (B_h4.sl H_k0 (by decide)).trans q_r2
  show yG _ _ _ _ _ _ _ _ _ _ (yR r5 :: []) _
  refine yG.step (pc' := 18) (stk' := []) rfl (fun _ _ => rfl) ?_
  refine yG.load xik rfl (fun _ _ => rfl) (v := yI (p1)) rfl rfl ?_
  refine yG.ifz rfl (t := 32) rfl ⟨by omega, by omega⟩ (fun c6 => ?_) (fun c6 => ?_)
  · have c6 : (p1 : Int) ≠ 0 := c6
    refine yG.load xak rfl (fun _ _ => rfl) (v := yR k0) rfl rfl ?_
    refine yG.getS9 A_h4.1 (w_G_rules W H_k0) qq1 rfl rfl ?_
    refine yG.getI A_h4.1 (w_Rules_stoppedBy W H_r2) rfl rfl (fun z7 e_z7 i_z7 l_z7 u_z7 => ?_)
    refine yG.ret rfl (fun _ _ => rfl) ?_
    exact .inl (yP.int ⟨by omega, by omega⟩ ⟨⟨⟨z7, rfl, by omega, by omega, by omega⟩, A_h4⟩, M_bSh_h4⟩)
  · have c6 : (p1 : Int) = 0 := c6
    refine yG.load xak rfl (fun _ _ => rfl) (v := yR k0) rfl rfl ?_
    refine yG.getS9 A_h4.1 (w_G_rules W H_k0) qq1 rfl rfl ?_
    refine yG.getI A_h4.1 (w_Rules_stopped W H_r2) rfl rfl (fun z8 e_z8 i_z8 l_z8 u_z8 => ?_)
    refine yG.goto rfl (t := 39) rfl ?_
    refine yG.ret rfl (fun _ _ => rfl) ?_
    exact .inl (yP.int ⟨by omega, by omega⟩ ⟨⟨⟨z8, rfl, by omega, by omega, by omega⟩, A_h4⟩, M_bSh_h4⟩)
theorem c_G_carry {hp : xH} (W : bW G) (d : Nat) (hT : zTy G hp) (M_bSh : bSh G hp) (M_bSt : bSt G hp) (M_bCd : bCd G hp) {k0 : Nat} (H_k0 : bRo G 14 k0) : yC (xcall 89 xfts xpools xms (d + 8)) 285 [yR k0] hp (fun rv hp' => (bQi G [(34359738368, 1), (1133871366144, 2), (1099511889920, 3), (37778931862957161971712, 4), (262144, 5), (1099511889920, 6), (1099511889920, 7), (1099511627776, 8), (4613937818241073152, 9), (162259279247065004872636173385728, 10), (41700634145107834393887348457734144, 11), (41700634145107834391635548644048896, 12), (41538374868278621028243970633760768, 13), (41538374868278621028243970633777152, 14), (41538374868278621028243970633760768, 15), (79228162514264337593543950336, 18), (2229825047303290880, 256)] hp 0 24 (fun _ => True)) rv hp' ∧ bSh G hp') := by
  have A_hp : bAx G [(34359738368, 1), (1133871366144, 2), (1099511889920, 3), (37778931862957161971712, 4), (262144, 5), (1099511889920, 6), (1099511889920, 7), (1099511627776, 8), (4613937818241073152, 9), (162259279247065004872636173385728, 10), (41700634145107834393887348457734144, 11), (41700634145107834391635548644048896, 12), (41538374868278621028243970633760768, 13), (41538374868278621028243970633777152, 14), (41538374868278621028243970633760768, 15), (79228162514264337593543950336, 18), (2229825047303290880, 256)] hp hp := bAx.rf hT
  have M_bSh_hp := M_bSh
  refine yC.of (M := (xt_X12_carry, (2, (1, (13, []))))) rfl rfl (N := 66) (yfuel (by decide)) ?_
  show yG 89 xfts (xcall 89 xfts xpools xms (d + 7)) (xpool xp_RX12) [] xt_X12_carry (yP 1 (fun rv hp' => (bQi G [(34359738368, 1), (1133871366144, 2), (1099511889920, 3), (37778931862957161971712, 4), (262144, 5), (1099511889920, 6), (1099511889920, 7), (1099511627776, 8), (4613937818241073152, 9), (162259279247065004872636173385728, 10), (41700634145107834393887348457734144, 11), (41700634145107834391635548644048896, 12), (41538374868278621028243970633760768, 13), (41538374868278621028243970633777152, 14), (41538374868278621028243970633760768, 15), (79228162514264337593543950336, 18), (2229825047303290880, 256)] hp 0 24 (fun _ => True)) rv hp' ∧ bSh G hp')) 66 0 [(0, yR k0)] [] hp
  refine yG.load xak rfl (fun _ _ => rfl) (v := yR k0) rfl rfl ?_
  refine yG.getO A_hp.1 (w_G_rules W H_k0) rfl rfl (fun r1 H_r1 O_r1 q_r1 => ?_)
  refine yG.load xak rfl (fun _ _ => rfl) (v := yR k0) rfl rfl ?_
  refine yG.getO A_hp.1 (w_G_net W H_k0) rfl rfl (fun r2 H_r2 O_r2 q_r2 => ?_)
  refine yG.invV (rest := []) A_hp.1 (bOb (d_Rules W) H_r1) rfl rfl rfl rfl (c_Rules_follow W d A_hp.1 M_bSh_hp M_bSt M_bCd H_r1 H_r2) (fun rv h3 q9 => ?_)
  obtain ⟨q9, M_bSh_h3⟩ := q9
  obtain ⟨⟨r4, rfl, H_r4⟩, B_h3⟩ := q9
  have A_h3 := A_hp.tr B_h3 (by decide)
  have qq1 : zsl h3 k0 13 = yR r1 := (B_h3.sl H_k0 (by decide)).trans q_r1
  have qq2 : zsl h3 k0 1 = yR r2 := (B_h3.sl H_k0 (by decide)).trans q_r2
  show yG _ _ _ _ _ _ _ _ _ _ (yR r4 :: []) _
  refine yG.store1 xak (L' := [(1, yR r4), (0, yR k0)]) rfl (fun _ _ => rfl) rfl rfl ?_
  refine yG.load xak rfl (fun _ _ => rfl) (v := yR k0) rfl rfl ?_
  refine yG.getS9 A_h3.1 (w_G_rules W H_k0) qq1 rfl rfl ?_
  refine yG.getI A_h3.1 (w_Rules_done W H_r1) rfl rfl (fun z5 e_z5 i_z5 l_z5 u_z5 => ?_)
  refine yG.ifz rfl (t := 34) rfl ⟨by omega, by omega⟩ (fun c6 => ?_) (fun c6 => ?_)
  · have c6 : (z5 : Int) ≤ 0 := c6
    refine yG.load xak rfl (fun _ _ => rfl) (v := yR k0) rfl rfl ?_
    refine yG.getS9 A_h3.1 (w_G_rules W H_k0) qq1 rfl rfl ?_
    refine yG.getI A_h3.1 (w_Rules_done W H_r1) rfl rfl (fun z7 e_z7 i_z7 l_z7 u_z7 => ?_)
    rw [show (z7 : Int) = z5 by omega]
    refine yG.ret rfl (fun _ _ => rfl) ?_
    exact (yP.int ⟨by omega, by omega⟩ ⟨⟨⟨z5, rfl, by omega, by omega, trivial⟩, A_h3⟩, M_bSh_h3⟩)
  · have c6 : (z5 : Int) > 0 := c6
    refine yG.load xak rfl (fun _ _ => rfl) (v := yR k0) rfl rfl ?_
    refine yG.getS9 A_h3.1 (w_G_net W H_k0) qq2 rfl rfl ?_
    refine yG.load xak rfl (fun _ _ => rfl) (v := yR r4) rfl rfl ?_
    refine yG.invV (rest := []) A_h3.1 (bOb (d_Net W) H_r2) rfl rfl rfl rfl (c_Net_copyValues W (d + 6) A_h3.1 H_r2 H_r4) (fun rv h8 q9 => ?_)
    obtain ⟨⟨rfl, R_z9⟩, B_h8⟩ := q9
    have A_h8 := A_h3.tr B_h8 (by decide)
    have M_bSh_h8 := M_bSh_h3.fr B_h8 (by decide)
    have qq3 : zsl h8 k0 13 = yR r1 := (B_h8.sl H_k0 (by decide)).trans qq1
    have qq4 : zsl h8 k0 1 = yR r2 := (B_h8.sl H_k0 (by decide)).trans qq2
    have : ys h8 r1 10 = ys h3 r1 10 := B_h8.ys H_r1 (by decide)
    show yG _ _ _ _ _ _ _ _ _ _ [] _
    refine yG.load xak rfl (fun _ _ => rfl) (v := yR k0) rfl rfl ?_
    refine yG.invV (rest := []) A_h8.1 (bOb (d_G W) H_k0) rfl rfl rfl rfl (c_G_changed W (d + 6) A_h8.1 H_k0) (fun rv h10 q9 => ?_)
    obtain ⟨⟨rfl, R_z11⟩, B_h10⟩ := q9
    have A_h10 := A_h8.tr B_h10 (by decide)
    have M_bSh_h10 := M_bSh_h8.fr B_h10 (by decide)
    have qq5 : zsl h10 k0 13 = yR r1 := (B_h10.sl H_k0 (by decide)).trans qq3
    have qq6 : zsl h10 k0 1 = yR r2 := (B_h10.sl H_k0 (by decide)).trans qq4
    have : ys h10 r1 10 = ys h8 r1 10 := B_h10.ys H_r1 (by decide)
    show yG _ _ _ _ _ _ _ _ _ _ [] _
    refine yG.load xak rfl (fun _ _ => rfl) (v := yR k0) rfl rfl ?_
    refine yG.getS9 A_h10.1 (w_G_rules W H_k0) qq5 rfl rfl ?_
    refine yG.getI A_h10.1 (w_Rules_done W H_r1) rfl rfl (fun z12 e_z12 i_z12 l_z12 u_z12 => ?_)
    rw [show (z12 : Int) = z5 by omega]
    refine yG.ret rfl (fun _ _ => rfl) ?_
    exact (yP.int ⟨by omega, by omega⟩ ⟨⟨⟨z5, rfl, by omega, by omega, trivial⟩, A_h10⟩, M_bSh_h10⟩)
theorem c_G_restore {hp : xH} (W : bW G) (d : Nat) (hT : zTy G hp) (M_bSh : bSh G hp) (M_bCd : bCd G hp) {k0 : Nat} (H_k0 : bRo G 14 k0) (p1 : Int) (h1l : (-2147483648) ≤ p1) (h1u : p1 ≤ 2147483647) : bC (xcall 89 xfts xpools xms (d + 9)) 319 [yR k0, yI (p1)] hp (fun rv hp' => (bQi G [(34359738368, 1), (1133871366144, 2), (1099511889920, 3), (262144, 4), (262144, 5), (1099511889920, 6), (1099511889920, 7), (1099511627776, 8), (2251799813685248, 9), (2251799813685248, 10), (41538374868278621030495770447446016, 11), (41538374868278621028243970633760768, 12), (41538374868278621028243970633760768, 13), (41700634145107834391635548644048896, 14), (41538374868278621028243970633760768, 15), (162259276829213363391578010288128, 17), (162259276829213363391578010288128, 19), (38942226439011209443803769772441600, 256)] hp 0 4 (fun z => 0 ≤ 0 - p1 + z + 3 ∧ 0 ≤ p1 - z + 3)) rv hp' ∧ bSh G hp') (bTh G [(34359738368, 1), (1133871366144, 2), (1099511889920, 3), (262144, 4), (262144, 5), (1099511889920, 6), (1099511889920, 7), (1099511627776, 8), (2251799813685248, 9), (2251799813685248, 10), (41538374868278621030495770447446016, 11), (41538374868278621028243970633760768, 12), (41538374868278621028243970633760768, 13), (41700634145107834391635548644048896, 14), (41538374868278621028243970633760768, 15), (162259276829213363391578010288128, 17), (162259276829213363391578010288128, 19), (38942226439011209443803769772441600, 256)] [0] hp) := by
  have A_hp : bAx G [(34359738368, 1), (1133871366144, 2), (1099511889920, 3), (262144, 4), (262144, 5), (1099511889920, 6), (1099511889920, 7), (1099511627776, 8), (2251799813685248, 9), (2251799813685248, 10), (41538374868278621030495770447446016, 11), (41538374868278621028243970633760768, 12), (41538374868278621028243970633760768, 13), (41700634145107834391635548644048896, 14), (41538374868278621028243970633760768, 15), (162259276829213363391578010288128, 17), (162259276829213363391578010288128, 19), (38942226439011209443803769772441600, 256)] hp hp := bAx.rf hT
  have M_bSh_hp := M_bSh
  refine bC.of (M := (xt_X12_restore, (2, (1, (13, []))))) rfl rfl (N := 48) (yfuel (by decide)) ?_
  show yG 89 xfts (xcall 89 xfts xpools xms (d + 8)) (xpool xp_RX12) [] xt_X12_restore (bP 1 (fun rv hp' => (bQi G [(34359738368, 1), (1133871366144, 2), (1099511889920, 3), (262144, 4), (262144, 5), (1099511889920, 6), (1099511889920, 7), (1099511627776, 8), (2251799813685248, 9), (2251799813685248, 10), (41538374868278621030495770447446016, 11), (41538374868278621028243970633760768, 12), (41538374868278621028243970633760768, 13), (41700634145107834391635548644048896, 14), (41538374868278621028243970633760768, 15), (162259276829213363391578010288128, 17), (162259276829213363391578010288128, 19), (38942226439011209443803769772441600, 256)] hp 0 4 (fun z => 0 ≤ 0 - p1 + z + 3 ∧ 0 ≤ p1 - z + 3)) rv hp' ∧ bSh G hp') (bTh G [(34359738368, 1), (1133871366144, 2), (1099511889920, 3), (262144, 4), (262144, 5), (1099511889920, 6), (1099511889920, 7), (1099511627776, 8), (2251799813685248, 9), (2251799813685248, 10), (41538374868278621030495770447446016, 11), (41538374868278621028243970633760768, 12), (41538374868278621028243970633760768, 13), (41700634145107834391635548644048896, 14), (41538374868278621028243970633760768, 15), (162259276829213363391578010288128, 17), (162259276829213363391578010288128, 19), (38942226439011209443803769772441600, 256)] [0] hp)) 48 0 [(0, yR k0), (1, yI (p1))] [] hp
  refine yG.load xik rfl (fun _ _ => rfl) (v := yI (p1)) rfl rfl ?_
  refine yG.num (c := 1) rfl (fun _ _ => rfl) (by decide) ?_
  refine yG.num (c := 3) rfl (fun _ _ => rfl) (by decide) ?_
  refine yG.invST (rest := []) rfl rfl rfl rfl (c_G_testWithin W (d + 7) A_hp.1 (p1) (1) (3) (by omega) (by omega) (by omega) (by omega) (by omega) (by omega)) (fun hp8 e8 t8 => bP.thr2 (bTh.sub A_hp t8 (by decide) (by decide))) (fun rv hp9 q9 => ?_)
  obtain ⟨⟨rfl, R_z1⟩, e9⟩ := q9
  rw [e9]
  show yG _ _ _ _ _ _ _ _ _ _ [] _
  refine yG.load xak rfl (fun _ _ => rfl) (v := yR k0) rfl rfl ?_
  refine yG.getO A_hp.1 (w_G_rules W H_k0) rfl rfl (fun r2 H_r2 O_r2 q_r2 => ?_)
  refine yG.load xak rfl (fun _ _ => rfl) (v := yR k0) rfl rfl ?_
  refine yG.getO A_hp.1 (w_G_net W H_k0) rfl rfl (fun r3 H_r3 O_r3 q_r3 => ?_)
  refine yG.invV (rest := []) A_hp.1 (bOb (d_Rules W) H_r2) rfl rfl rfl rfl (c_Rules_setOut W (d + 1) A_hp.1 M_bSh_hp H_r2 H_r3) (fun rv h4 q9 => ?_)
  obtain ⟨q9, M_bSh_h4⟩ := q9
  obtain ⟨⟨rfl, R_z5⟩, B_h4⟩ := q9
  have A_h4 := A_hp.tr B_h4 (by decide)
  have qq1 : zsl h4 k0 13 = yR r2 := (B_h4.sl H_k0 (by decide)).trans q_r2
  show yG _ _ _ _ _ _ _ _ _ _ [] _
  refine yG.load xak rfl (fun _ _ => rfl) (v := yR k0) rfl rfl ?_
  refine yG.getS9 A_h4.1 (w_G_rules W H_k0) qq1 rfl rfl ?_
  refine yG.load xik rfl (fun _ _ => rfl) (v := yI (p1)) rfl rfl ?_
  obtain ⟨r6, H_r6, q_r6⟩ := bFdO (w_Rules_choice W H_r2) A_h4.1
  refine yG.invV (rest := []) A_h4.1 (bOb (d_Rules W) H_r2) rfl rfl rfl rfl (c_Rules_bringBack W d A_h4.1 M_bSh_h4 (M_bCd.fr A_h4 (by decide)) H_r2 H_r6 q_r6 (p1) (by omega) (by omega)) (fun rv h7 q9 => ?_)
  obtain ⟨q9, M_bSh_h7⟩ := q9
  obtain ⟨⟨z8, rfl, l_z8, u_z8, R_z8⟩, B_h7⟩ := q9
  have A_h7 := A_h4.tr B_h7 (by decide)
  have qq2 : zsl h7 k0 13 = yR r2 := (B_h7.sl H_k0 (by decide)).trans qq1
  show yG _ _ _ _ _ _ _ _ _ _ (yI z8 :: []) _
  refine yG.ret rfl (fun _ _ => rfl) ?_
  exact .inl (yP.int ⟨by omega, by omega⟩ ⟨⟨⟨z8, rfl, by omega, by omega, by omega⟩, A_h7⟩, M_bSh_h7⟩)
theorem c_G_step {hp : xH} (W : bW G) (d : Nat) (hT : zTy G hp) {k0 : Nat} (H_k0 : bRo G 14 k0) (p1 : Int) (h1l : (-2147483648) ≤ p1) (h1u : p1 ≤ 2147483647) : yC (xcall 89 xfts xpools xms (d + 1)) 330 [yR k0, yI (p1)] hp (bQpi hp (-2147483648) 2147483647 (fun z => 0 ≤ 0 - p1 + z + 2147483651 ∧ 0 ≤ p1 - z + 2147483647)) := by
  have A_hp : bAx G [] hp hp := bAx.rf hT
  refine yC.of (M := (xt_X12_step, (2, (1, (13, []))))) rfl rfl (N := 48) (yfuel (by decide)) ?_
  show yG 89 xfts (xcall 89 xfts xpools xms d) (xpool xp_RX12) [] xt_X12_step (yP 1 (bQpi hp (-2147483648) 2147483647 (fun z => 0 ≤ 0 - p1 + z + 2147483651 ∧ 0 ≤ p1 - z + 2147483647))) 48 0 [(0, yR k0), (1, yI (p1))] [] hp
  refine yG.load xik rfl (fun _ _ => rfl) (v := yI (p1)) rfl rfl ?_
  refine yG.ifz rfl (t := 27) rfl ⟨by omega, by omega⟩ (fun c1 => ?_) (fun c1 => ?_)
  · have c1 : (p1 : Int) < 0 := c1
    refine yG.num (c := -1) rfl (fun _ _ => rfl) (by decide) ?_
    refine yG.ret rfl (fun _ _ => rfl) ?_
    exact (yP.int ⟨by omega, by omega⟩ ⟨⟨(-1), rfl, by omega, by omega, by omega⟩, rfl⟩)
  · have c1 : (p1 : Int) ≥ 0 := c1
    refine yG.load xik rfl (fun _ _ => rfl) (v := yI (p1)) rfl rfl ?_
    refine yG.load xak rfl (fun _ _ => rfl) (v := yR k0) rfl rfl ?_
    refine yG.getO A_hp.1 (w_G_rules W H_k0) rfl rfl (fun r2 H_r2 O_r2 q_r2 => ?_)
    refine yG.getI A_hp.1 (w_Rules_foundCount W H_r2) rfl rfl (fun z3 e_z3 i_z3 l_z3 u_z3 => ?_)
    refine yG.icmp rfl (t := 27) rfl ⟨by omega, by omega⟩ ⟨by omega, by omega⟩ (fun c4 => ?_) (fun c4 => ?_)
    · have c4 : (p1 : Int) ≥ z3 := c4
      refine yG.num (c := -1) rfl (fun _ _ => rfl) (by decide) ?_
      refine yG.ret rfl (fun _ _ => rfl) ?_
      exact (yP.int ⟨by omega, by omega⟩ ⟨⟨(-1), rfl, by omega, by omega, by omega⟩, rfl⟩)
    · have c4 : (p1 : Int) < z3 := c4
      refine yG.load xak rfl (fun _ _ => rfl) (v := yR k0) rfl rfl ?_
      refine yG.getS9 A_hp.1 (w_G_rules W H_k0) q_r2 rfl rfl ?_
      refine yG.getO A_hp.1 (w_Rules_found W H_r2) rfl rfl (fun r5 H_r5 O_r5 q_r5 => ?_)
      refine yG.load xik rfl (fun _ _ => rfl) (v := yI (p1)) rfl rfl ?_
      refine yG.iald A_hp.1 (v_Rules_found W H_r5) rfl (by omega) (by omega) (fun z6 e_z6 i_z6 l_z6 u_z6 => ?_)
      refine yG.goto rfl (t := 28) rfl ?_
      refine yG.ret rfl (fun _ _ => rfl) ?_
      exact (yP.int ⟨by omega, by omega⟩ ⟨⟨z6, rfl, by omega, by omega, by omega⟩, rfl⟩)
theorem c_G_get {hp : xH} (W : bW G) (d : Nat) (hT : zTy G hp) {k0 : Nat} (H_k0 : bRo G 14 k0) (p1 p2 p3 : Int) (h1l : (-2147483648) ≤ p1) (h1u : p1 ≤ 2147483647) (h2l : (-2147483648) ≤ p2) (h2u : p2 ≤ 2147483647) (h3l : (-2147483648) ≤ p3) (h3u : p3 ≤ 2147483647) : bC (xcall 89 xfts xpools xms (d + 2)) 302 [yR k0, yI (p1), yI (p2), yI (p3)] hp (bQpi hp 0 999999 (fun z => 0 ≤ 0 - p1 + z + 4 ∧ 0 ≤ p1 - z + 999998 ∧ 0 ≤ 0 - p2 + z + 23 ∧ 0 ≤ p2 - z + 999999 ∧ 0 ≤ 0 - p3 + z + 10 ∧ 0 ≤ p3 - z + 999999)) (bTh G [] [0, 2] hp) := by
  have A_hp : bAx G [] hp hp := bAx.rf hT
  refine bC.of (M := (xt_X12_get, (4, (1, (13, []))))) rfl rfl (N := 66) (yfuel (by decide)) ?_
  show yG 89 xfts (xcall 89 xfts xpools xms (d + 1)) (xpool xp_RX12) [] xt_X12_get (bP 1 (bQpi hp 0 999999 (fun z => 0 ≤ 0 - p1 + z + 4 ∧ 0 ≤ p1 - z + 999998 ∧ 0 ≤ 0 - p2 + z + 23 ∧ 0 ≤ p2 - z + 999999 ∧ 0 ≤ 0 - p3 + z + 10 ∧ 0 ≤ p3 - z + 999999)) (bTh G [] [0, 2] hp)) 66 0 [(0, yR k0), (1, yI (p1)), (2, yI (p2)), (3, yI (p3))] [] hp
  rcases (show p1 ≤ (-1) ∨ p1 ≥ 5 ∨ p1 = 0 ∨ p1 = 1 ∨ p1 = 2 ∨ p1 = 3 ∨ p1 = 4 by omega) with c1 | c1 | c1 | c1 | c1 | c1 | c1
  · skip
    refine yG.load xak rfl (fun _ _ => rfl) (v := yR k0) rfl rfl ?_
    refine yG.getO A_hp.1 (w_G_net W H_k0) rfl rfl (fun r2 H_r2 O_r2 q_r2 => ?_)
    refine yG.load xik rfl (fun _ _ => rfl) (v := yI (p1)) rfl rfl ?_
    refine yG.load xik rfl (fun _ _ => rfl) (v := yI (p2)) rfl rfl ?_
    refine yG.invV (rest := []) A_hp.1 (bOb (d_Net W) H_r2) rfl rfl rfl rfl (c_Net_has_z W d A_hp.1 H_r2 (p1) (p2) (by omega) (by omega) (by omega) (by omega)) (fun rv hp9 q9 => ?_)
    obtain ⟨⟨z3, rfl, l_z3, u_z3, R_z3⟩, e9⟩ := q9
    rw [e9]
    show yG _ _ _ _ _ _ _ _ _ _ (yI z3 :: []) _
    refine yG.ifz rfl (t := 22) rfl ⟨by omega, by omega⟩ (fun c4 => ?_) (fun c4 => ?_)
    · have c4 : (z3 : Int) ≠ 0 := c4
      exfalso; omega
    · have c4 : (z3 : Int) = 0 := c4
      exact yG.newT (P := bP _ _ _) rfl rfl (bP.thr rfl ⟨by decide, hp, A_hp, rfl⟩)
  · skip
    refine yG.load xak rfl (fun _ _ => rfl) (v := yR k0) rfl rfl ?_
    refine yG.getO A_hp.1 (w_G_net W H_k0) rfl rfl (fun r5 H_r5 O_r5 q_r5 => ?_)
    refine yG.load xik rfl (fun _ _ => rfl) (v := yI (p1)) rfl rfl ?_
    refine yG.load xik rfl (fun _ _ => rfl) (v := yI (p2)) rfl rfl ?_
    refine yG.invV (rest := []) A_hp.1 (bOb (d_Net W) H_r5) rfl rfl rfl rfl (c_Net_has_z W d A_hp.1 H_r5 (p1) (p2) (by omega) (by omega) (by omega) (by omega)) (fun rv hp9 q9 => ?_)
    obtain ⟨⟨z6, rfl, l_z6, u_z6, R_z6⟩, e9⟩ := q9
    rw [e9]
    show yG _ _ _ _ _ _ _ _ _ _ (yI z6 :: []) _
    refine yG.ifz rfl (t := 22) rfl ⟨by omega, by omega⟩ (fun c7 => ?_) (fun c7 => ?_)
    · have c7 : (z6 : Int) ≠ 0 := c7
      exfalso; omega
    · have c7 : (z6 : Int) = 0 := c7
      exact yG.newT (P := bP _ _ _) rfl rfl (bP.thr rfl ⟨by decide, hp, A_hp, rfl⟩)
  · subst c1
    refine yG.load xak rfl (fun _ _ => rfl) (v := yR k0) rfl rfl ?_
    refine yG.getO A_hp.1 (w_G_net W H_k0) rfl rfl (fun r8 H_r8 O_r8 q_r8 => ?_)
    refine yG.load xik rfl (fun _ _ => rfl) (v := yI (0)) rfl rfl ?_
    refine yG.load xik rfl (fun _ _ => rfl) (v := yI (p2)) rfl rfl ?_
    refine yG.invV (rest := []) A_hp.1 (bOb (d_Net W) H_r8) rfl rfl rfl rfl (c_Net_has_0 W d A_hp.1 H_r8 (p2) (by omega) (by omega)) (fun rv hp9 q9 => ?_)
    obtain ⟨⟨z9, rfl, l_z9, u_z9, R_z9⟩, e9⟩ := q9
    rw [e9]
    show yG _ _ _ _ _ _ _ _ _ _ (yI z9 :: []) _
    refine yG.ifz rfl (t := 22) rfl ⟨by omega, by omega⟩ (fun c10 => ?_) (fun c10 => ?_)
    · have c10 : (z9 : Int) ≠ 0 := c10
      refine yG.load xik rfl (fun _ _ => rfl) (v := yI (p3)) rfl rfl ?_
      refine yG.ifz rfl (t := 35) rfl ⟨by omega, by omega⟩ (fun c11 => ?_) (fun c11 => ?_)
      · have c11 : (p3 : Int) < 0 := c11
        exact yG.newT (P := bP _ _ _) rfl rfl (bP.thr rfl ⟨by decide, hp, A_hp, rfl⟩)
      · have c11 : (p3 : Int) ≥ 0 := c11
        refine yG.load xik rfl (fun _ _ => rfl) (v := yI (p3)) rfl rfl ?_
        refine yG.getS (c := 2) rfl rfl ?_
        refine yG.load xik rfl (fun _ _ => rfl) (v := yI (0)) rfl rfl ?_
        refine yG.ialdF A_hp.1 (v_S_Net_WIDTH W (s_S_Net_WIDTH W)) rfl rfl (by omega) (by omega) (fun z12 e_z12 i_z12 l_z12 u_z12 => ?_)
        obtain rfl : z12 = 1 := by omega
        refine yG.icmp rfl (t := 45) rfl ⟨by omega, by omega⟩ ⟨by omega, by omega⟩ (fun c13 => ?_) (fun c13 => ?_)
        · have c13 : (p3 : Int) < 1 := c13
          refine yG.load xak rfl (fun _ _ => rfl) (v := yR k0) rfl rfl ?_
          refine yG.getS9 A_hp.1 (w_G_net W H_k0) q_r8 rfl rfl ?_
          refine yG.load xik rfl (fun _ _ => rfl) (v := yI (0)) rfl rfl ?_
          refine yG.load xik rfl (fun _ _ => rfl) (v := yI (p2)) rfl rfl ?_
          refine yG.load xik rfl (fun _ _ => rfl) (v := yI (p3)) rfl rfl ?_
          refine yG.invV (rest := []) A_hp.1 (bOb (d_Net W) H_r8) rfl rfl rfl rfl (c_Net_at_0z W d A_hp.1 H_r8 (p2) (p3) (by omega) (by omega) (by omega) (by omega)) (fun rv hp9 q9 => ?_)
          obtain ⟨⟨z14, rfl, l_z14, u_z14, R_z14⟩, e9⟩ := q9
          rw [e9]
          show yG _ _ _ _ _ _ _ _ _ _ (yI z14 :: []) _
          refine yG.ret rfl (fun _ _ => rfl) ?_
          exact .inl (yP.int ⟨by omega, by omega⟩ ⟨⟨z14, rfl, by omega, by omega, by omega⟩, rfl⟩)
        · have c13 : (p3 : Int) ≥ 1 := c13
          exact yG.newT (P := bP _ _ _) rfl rfl (bP.thr rfl ⟨by decide, hp, A_hp, rfl⟩)
    · have c10 : (z9 : Int) = 0 := c10
      exact yG.newT (P := bP _ _ _) rfl rfl (bP.thr rfl ⟨by decide, hp, A_hp, rfl⟩)
  · subst c1
    refine yG.load xak rfl (fun _ _ => rfl) (v := yR k0) rfl rfl ?_
    refine yG.getO A_hp.1 (w_G_net W H_k0) rfl rfl (fun r15 H_r15 O_r15 q_r15 => ?_)
    refine yG.load xik rfl (fun _ _ => rfl) (v := yI (1)) rfl rfl ?_
    refine yG.load xik rfl (fun _ _ => rfl) (v := yI (p2)) rfl rfl ?_
    refine yG.invV (rest := []) A_hp.1 (bOb (d_Net W) H_r15) rfl rfl rfl rfl (c_Net_has_1 W d A_hp.1 H_r15 (p2) (by omega) (by omega)) (fun rv hp9 q9 => ?_)
    obtain ⟨⟨z16, rfl, l_z16, u_z16, R_z16⟩, e9⟩ := q9
    rw [e9]
    show yG _ _ _ _ _ _ _ _ _ _ (yI z16 :: []) _
    refine yG.ifz rfl (t := 22) rfl ⟨by omega, by omega⟩ (fun c17 => ?_) (fun c17 => ?_)
    · have c17 : (z16 : Int) ≠ 0 := c17
      refine yG.load xik rfl (fun _ _ => rfl) (v := yI (p3)) rfl rfl ?_
      refine yG.ifz rfl (t := 35) rfl ⟨by omega, by omega⟩ (fun c18 => ?_) (fun c18 => ?_)
      · have c18 : (p3 : Int) < 0 := c18
        exact yG.newT (P := bP _ _ _) rfl rfl (bP.thr rfl ⟨by decide, hp, A_hp, rfl⟩)
      · have c18 : (p3 : Int) ≥ 0 := c18
        refine yG.load xik rfl (fun _ _ => rfl) (v := yI (p3)) rfl rfl ?_
        refine yG.getS (c := 2) rfl rfl ?_
        refine yG.load xik rfl (fun _ _ => rfl) (v := yI (1)) rfl rfl ?_
        refine yG.ialdF A_hp.1 (v_S_Net_WIDTH W (s_S_Net_WIDTH W)) rfl rfl (by omega) (by omega) (fun z19 e_z19 i_z19 l_z19 u_z19 => ?_)
        obtain rfl : z19 = 5 := by omega
        refine yG.icmp rfl (t := 45) rfl ⟨by omega, by omega⟩ ⟨by omega, by omega⟩ (fun c20 => ?_) (fun c20 => ?_)
        · have c20 : (p3 : Int) < 5 := c20
          refine yG.load xak rfl (fun _ _ => rfl) (v := yR k0) rfl rfl ?_
          refine yG.getS9 A_hp.1 (w_G_net W H_k0) q_r15 rfl rfl ?_
          refine yG.load xik rfl (fun _ _ => rfl) (v := yI (1)) rfl rfl ?_
          refine yG.load xik rfl (fun _ _ => rfl) (v := yI (p2)) rfl rfl ?_
          refine yG.load xik rfl (fun _ _ => rfl) (v := yI (p3)) rfl rfl ?_
          refine yG.invV (rest := []) A_hp.1 (bOb (d_Net W) H_r15) rfl rfl rfl rfl (c_Net_at_1z W d A_hp.1 H_r15 (p2) (p3) (by omega) (by omega) (by omega) (by omega)) (fun rv hp9 q9 => ?_)
          obtain ⟨⟨z21, rfl, l_z21, u_z21, R_z21⟩, e9⟩ := q9
          rw [e9]
          show yG _ _ _ _ _ _ _ _ _ _ (yI z21 :: []) _
          refine yG.ret rfl (fun _ _ => rfl) ?_
          exact .inl (yP.int ⟨by omega, by omega⟩ ⟨⟨z21, rfl, by omega, by omega, by omega⟩, rfl⟩)
        · have c20 : (p3 : Int) ≥ 5 := c20
          exact yG.newT (P := bP _ _ _) rfl rfl (bP.thr rfl ⟨by decide, hp, A_hp, rfl⟩)
    · have c17 : (z16 : Int) = 0 := c17
      exact yG.newT (P := bP _ _ _) rfl rfl (bP.thr rfl ⟨by decide, hp, A_hp, rfl⟩)
  · subst c1
    refine yG.load xak rfl (fun _ _ => rfl) (v := yR k0) rfl rfl ?_
    refine yG.getO A_hp.1 (w_G_net W H_k0) rfl rfl (fun r22 H_r22 O_r22 q_r22 => ?_)
    refine yG.load xik rfl (fun _ _ => rfl) (v := yI (2)) rfl rfl ?_
    refine yG.load xik rfl (fun _ _ => rfl) (v := yI (p2)) rfl rfl ?_
    refine yG.invV (rest := []) A_hp.1 (bOb (d_Net W) H_r22) rfl rfl rfl rfl (c_Net_has_2 W d A_hp.1 H_r22 (p2) (by omega) (by omega)) (fun rv hp9 q9 => ?_)
    obtain ⟨⟨z23, rfl, l_z23, u_z23, R_z23⟩, e9⟩ := q9
    rw [e9]
    show yG _ _ _ _ _ _ _ _ _ _ (yI z23 :: []) _
    refine yG.ifz rfl (t := 22) rfl ⟨by omega, by omega⟩ (fun c24 => ?_) (fun c24 => ?_)
    · have c24 : (z23 : Int) ≠ 0 := c24
      refine yG.load xik rfl (fun _ _ => rfl) (v := yI (p3)) rfl rfl ?_
      refine yG.ifz rfl (t := 35) rfl ⟨by omega, by omega⟩ (fun c25 => ?_) (fun c25 => ?_)
      · have c25 : (p3 : Int) < 0 := c25
        exact yG.newT (P := bP _ _ _) rfl rfl (bP.thr rfl ⟨by decide, hp, A_hp, rfl⟩)
      · have c25 : (p3 : Int) ≥ 0 := c25
        refine yG.load xik rfl (fun _ _ => rfl) (v := yI (p3)) rfl rfl ?_
        refine yG.getS (c := 2) rfl rfl ?_
        refine yG.load xik rfl (fun _ _ => rfl) (v := yI (2)) rfl rfl ?_
        refine yG.ialdF A_hp.1 (v_S_Net_WIDTH W (s_S_Net_WIDTH W)) rfl rfl (by omega) (by omega) (fun z26 e_z26 i_z26 l_z26 u_z26 => ?_)
        obtain rfl : z26 = 6 := by omega
        refine yG.icmp rfl (t := 45) rfl ⟨by omega, by omega⟩ ⟨by omega, by omega⟩ (fun c27 => ?_) (fun c27 => ?_)
        · have c27 : (p3 : Int) < 6 := c27
          refine yG.load xak rfl (fun _ _ => rfl) (v := yR k0) rfl rfl ?_
          refine yG.getS9 A_hp.1 (w_G_net W H_k0) q_r22 rfl rfl ?_
          refine yG.load xik rfl (fun _ _ => rfl) (v := yI (2)) rfl rfl ?_
          refine yG.load xik rfl (fun _ _ => rfl) (v := yI (p2)) rfl rfl ?_
          refine yG.load xik rfl (fun _ _ => rfl) (v := yI (p3)) rfl rfl ?_
          refine yG.invV (rest := []) A_hp.1 (bOb (d_Net W) H_r22) rfl rfl rfl rfl (c_Net_at_2z W d A_hp.1 H_r22 (p2) (p3) (by omega) (by omega) (by omega) (by omega)) (fun rv hp9 q9 => ?_)
          obtain ⟨⟨z28, rfl, l_z28, u_z28, R_z28⟩, e9⟩ := q9
          rw [e9]
          show yG _ _ _ _ _ _ _ _ _ _ (yI z28 :: []) _
          refine yG.ret rfl (fun _ _ => rfl) ?_
          exact .inl (yP.int ⟨by omega, by omega⟩ ⟨⟨z28, rfl, by omega, by omega, by omega⟩, rfl⟩)
        · have c27 : (p3 : Int) ≥ 6 := c27
          exact yG.newT (P := bP _ _ _) rfl rfl (bP.thr rfl ⟨by decide, hp, A_hp, rfl⟩)
    · have c24 : (z23 : Int) = 0 := c24
      exact yG.newT (P := bP _ _ _) rfl rfl (bP.thr rfl ⟨by decide, hp, A_hp, rfl⟩)
  · subst c1
    refine yG.load xak rfl (fun _ _ => rfl) (v := yR k0) rfl rfl ?_
    refine yG.getO A_hp.1 (w_G_net W H_k0) rfl rfl (fun r29 H_r29 O_r29 q_r29 => ?_)
    refine yG.load xik rfl (fun _ _ => rfl) (v := yI (3)) rfl rfl ?_
    refine yG.load xik rfl (fun _ _ => rfl) (v := yI (p2)) rfl rfl ?_
    refine yG.invV (rest := []) A_hp.1 (bOb (d_Net W) H_r29) rfl rfl rfl rfl (c_Net_has_3 W d A_hp.1 H_r29 (p2) (by omega) (by omega)) (fun rv hp9 q9 => ?_)
    obtain ⟨⟨z30, rfl, l_z30, u_z30, R_z30⟩, e9⟩ := q9
    rw [e9]
    show yG _ _ _ _ _ _ _ _ _ _ (yI z30 :: []) _
    refine yG.ifz rfl (t := 22) rfl ⟨by omega, by omega⟩ (fun c31 => ?_) (fun c31 => ?_)
    · have c31 : (z30 : Int) ≠ 0 := c31
      refine yG.load xik rfl (fun _ _ => rfl) (v := yI (p3)) rfl rfl ?_
      refine yG.ifz rfl (t := 35) rfl ⟨by omega, by omega⟩ (fun c32 => ?_) (fun c32 => ?_)
      · have c32 : (p3 : Int) < 0 := c32
        exact yG.newT (P := bP _ _ _) rfl rfl (bP.thr rfl ⟨by decide, hp, A_hp, rfl⟩)
      · have c32 : (p3 : Int) ≥ 0 := c32
        refine yG.load xik rfl (fun _ _ => rfl) (v := yI (p3)) rfl rfl ?_
        refine yG.getS (c := 2) rfl rfl ?_
        refine yG.load xik rfl (fun _ _ => rfl) (v := yI (3)) rfl rfl ?_
        refine yG.ialdF A_hp.1 (v_S_Net_WIDTH W (s_S_Net_WIDTH W)) rfl rfl (by omega) (by omega) (fun z33 e_z33 i_z33 l_z33 u_z33 => ?_)
        obtain rfl : z33 = 11 := by omega
        refine yG.icmp rfl (t := 45) rfl ⟨by omega, by omega⟩ ⟨by omega, by omega⟩ (fun c34 => ?_) (fun c34 => ?_)
        · have c34 : (p3 : Int) < 11 := c34
          refine yG.load xak rfl (fun _ _ => rfl) (v := yR k0) rfl rfl ?_
          refine yG.getS9 A_hp.1 (w_G_net W H_k0) q_r29 rfl rfl ?_
          refine yG.load xik rfl (fun _ _ => rfl) (v := yI (3)) rfl rfl ?_
          refine yG.load xik rfl (fun _ _ => rfl) (v := yI (p2)) rfl rfl ?_
          refine yG.load xik rfl (fun _ _ => rfl) (v := yI (p3)) rfl rfl ?_
          refine yG.invV (rest := []) A_hp.1 (bOb (d_Net W) H_r29) rfl rfl rfl rfl (c_Net_at_3z W d A_hp.1 H_r29 (p2) (p3) (by omega) (by omega) (by omega) (by omega)) (fun rv hp9 q9 => ?_)
          obtain ⟨⟨z35, rfl, l_z35, u_z35, R_z35⟩, e9⟩ := q9
          rw [e9]
          show yG _ _ _ _ _ _ _ _ _ _ (yI z35 :: []) _
          refine yG.ret rfl (fun _ _ => rfl) ?_
          exact .inl (yP.int ⟨by omega, by omega⟩ ⟨⟨z35, rfl, by omega, by omega, by omega⟩, rfl⟩)
        · have c34 : (p3 : Int) ≥ 11 := c34
          exact yG.newT (P := bP _ _ _) rfl rfl (bP.thr rfl ⟨by decide, hp, A_hp, rfl⟩)
    · have c31 : (z30 : Int) = 0 := c31
      exact yG.newT (P := bP _ _ _) rfl rfl (bP.thr rfl ⟨by decide, hp, A_hp, rfl⟩)
  · subst c1
    refine yG.load xak rfl (fun _ _ => rfl) (v := yR k0) rfl rfl ?_
    refine yG.getO A_hp.1 (w_G_net W H_k0) rfl rfl (fun r36 H_r36 O_r36 q_r36 => ?_)
    refine yG.load xik rfl (fun _ _ => rfl) (v := yI (4)) rfl rfl ?_
    refine yG.load xik rfl (fun _ _ => rfl) (v := yI (p2)) rfl rfl ?_
    refine yG.invV (rest := []) A_hp.1 (bOb (d_Net W) H_r36) rfl rfl rfl rfl (c_Net_has_4 W d A_hp.1 H_r36 (p2) (by omega) (by omega)) (fun rv hp9 q9 => ?_)
    obtain ⟨⟨z37, rfl, l_z37, u_z37, R_z37⟩, e9⟩ := q9
    rw [e9]
    show yG _ _ _ _ _ _ _ _ _ _ (yI z37 :: []) _
    refine yG.ifz rfl (t := 22) rfl ⟨by omega, by omega⟩ (fun c38 => ?_) (fun c38 => ?_)
    · have c38 : (z37 : Int) ≠ 0 := c38
      refine yG.load xik rfl (fun _ _ => rfl) (v := yI (p3)) rfl rfl ?_
      refine yG.ifz rfl (t := 35) rfl ⟨by omega, by omega⟩ (fun c39 => ?_) (fun c39 => ?_)
      · have c39 : (p3 : Int) < 0 := c39
        exact yG.newT (P := bP _ _ _) rfl rfl (bP.thr rfl ⟨by decide, hp, A_hp, rfl⟩)
      · have c39 : (p3 : Int) ≥ 0 := c39
        refine yG.load xik rfl (fun _ _ => rfl) (v := yI (p3)) rfl rfl ?_
        refine yG.getS (c := 2) rfl rfl ?_
        refine yG.load xik rfl (fun _ _ => rfl) (v := yI (4)) rfl rfl ?_
        refine yG.ialdF A_hp.1 (v_S_Net_WIDTH W (s_S_Net_WIDTH W)) rfl rfl (by omega) (by omega) (fun z40 e_z40 i_z40 l_z40 u_z40 => ?_)
        obtain rfl : z40 = 2 := by omega
        refine yG.icmp rfl (t := 45) rfl ⟨by omega, by omega⟩ ⟨by omega, by omega⟩ (fun c41 => ?_) (fun c41 => ?_)
        · have c41 : (p3 : Int) < 2 := c41
          refine yG.load xak rfl (fun _ _ => rfl) (v := yR k0) rfl rfl ?_
          refine yG.getS9 A_hp.1 (w_G_net W H_k0) q_r36 rfl rfl ?_
          refine yG.load xik rfl (fun _ _ => rfl) (v := yI (4)) rfl rfl ?_
          refine yG.load xik rfl (fun _ _ => rfl) (v := yI (p2)) rfl rfl ?_
          refine yG.load xik rfl (fun _ _ => rfl) (v := yI (p3)) rfl rfl ?_
          refine yG.invV (rest := []) A_hp.1 (bOb (d_Net W) H_r36) rfl rfl rfl rfl (c_Net_at_4z W d A_hp.1 H_r36 (p2) (p3) (by omega) (by omega) (by omega) (by omega)) (fun rv hp9 q9 => ?_)
          obtain ⟨⟨z42, rfl, l_z42, u_z42, R_z42⟩, e9⟩ := q9
          rw [e9]
          show yG _ _ _ _ _ _ _ _ _ _ (yI z42 :: []) _
          refine yG.ret rfl (fun _ _ => rfl) ?_
          exact .inl (yP.int ⟨by omega, by omega⟩ ⟨⟨z42, rfl, by omega, by omega, by omega⟩, rfl⟩)
        · have c41 : (p3 : Int) ≥ 2 := c41
          exact yG.newT (P := bP _ _ _) rfl rfl (bP.thr rfl ⟨by decide, hp, A_hp, rfl⟩)
    · have c38 : (z37 : Int) = 0 := c38
      exact yG.newT (P := bP _ _ _) rfl rfl (bP.thr rfl ⟨by decide, hp, A_hp, rfl⟩)
theorem c_G_set {hp : xH} (W : bW G) (d : Nat) (hT : zTy G hp) {k0 : Nat} (H_k0 : bRo G 14 k0) (p1 p2 p3 p4 : Int) (h1l : (-2147483648) ≤ p1) (h1u : p1 ≤ 2147483647) (h2l : (-2147483648) ≤ p2) (h2u : p2 ≤ 2147483647) (h3l : (-2147483648) ≤ p3) (h3u : p3 ≤ 2147483647) (h4l : (-2147483648) ≤ p4) (h4u : p4 ≤ 2147483647) : bC (xcall 89 xfts xpools xms (d + 4)) 325 [yR k0, yI (p1), yI (p2), yI (p3), yI (p4)] hp (bQi G [(37778931862957161709568, 4), (4611686018427387904, 9), (2417851639229258349412352, 10), (16384, 14), (79228162514264337593543950336, 18), (1426063360, 256)] hp 0 999999 (fun z => 0 ≤ 0 - p1 + z + 4 ∧ 0 ≤ p1 - z + 999998 ∧ 0 ≤ 0 - p2 + z + 23 ∧ 0 ≤ p2 - z + 999999 ∧ 0 ≤ 0 - p3 + z + 9 ∧ 0 ≤ p3 - z + 999998 ∧ 0 ≤ 0 - p4 + z + 999999 ∧ 0 ≤ p4 - z + 999998)) (bTh G [(37778931862957161709568, 4), (4611686018427387904, 9), (2417851639229258349412352, 10), (16384, 14), (79228162514264337593543950336, 18), (1426063360, 256)] [0, 2] hp) := by
  have A_hp : bAx G [(37778931862957161709568, 4), (4611686018427387904, 9), (2417851639229258349412352, 10), (16384, 14), (79228162514264337593543950336, 18), (1426063360, 256)] hp hp := bAx.rf hT
  refine bC.of (M := (xt_X12_set, (6, (1, (13, []))))) rfl rfl (N := 102) (yfuel (by decide)) ?_
  show yG 89 xfts (xcall 89 xfts xpools xms (d + 3)) (xpool xp_RX12) [] xt_X12_set (bP 1 (bQi G [(37778931862957161709568, 4), (4611686018427387904, 9), (2417851639229258349412352, 10), (16384, 14), (79228162514264337593543950336, 18), (1426063360, 256)] hp 0 999999 (fun z => 0 ≤ 0 - p1 + z + 4 ∧ 0 ≤ p1 - z + 999998 ∧ 0 ≤ 0 - p2 + z + 23 ∧ 0 ≤ p2 - z + 999999 ∧ 0 ≤ 0 - p3 + z + 9 ∧ 0 ≤ p3 - z + 999998 ∧ 0 ≤ 0 - p4 + z + 999999 ∧ 0 ≤ p4 - z + 999998)) (bTh G [(37778931862957161709568, 4), (4611686018427387904, 9), (2417851639229258349412352, 10), (16384, 14), (79228162514264337593543950336, 18), (1426063360, 256)] [0, 2] hp)) 102 0 [(0, yR k0), (1, yI (p1)), (2, yI (p2)), (3, yI (p3)), (4, yI (p4))] [] hp
  rcases (show p1 ≤ (-1) ∨ p1 ≥ 5 ∨ p1 = 0 ∨ p1 = 1 ∨ p1 = 2 ∨ p1 = 3 ∨ p1 = 4 by omega) with c1 | c1 | c1 | c1 | c1 | c1 | c1
  · skip
    rcases (show p3 ≤ (-1) ∨ p3 ≥ 11 ∨ p3 = 0 ∨ p3 = 1 ∨ p3 = 2 ∨ p3 = 3 ∨ p3 = 4 ∨ p3 = 5 ∨ p3 = 6 ∨ p3 = 7 ∨ p3 = 8 ∨ p3 = 9 ∨ p3 = 10 by omega) with c2 | c2 | c2 | c2 | c2 | c2 | c2 | c2 | c2 | c2 | c2 | c2 | c2
    · skip
      refine yG.load xak rfl (fun _ _ => rfl) (v := yR k0) rfl rfl ?_
      refine yG.getO A_hp.1 (w_G_net W H_k0) rfl rfl (fun r3 H_r3 O_r3 q_r3 => ?_)
      refine yG.load xik rfl (fun _ _ => rfl) (v := yI (p1)) rfl rfl ?_
      refine yG.load xik rfl (fun _ _ => rfl) (v := yI (p2)) rfl rfl ?_
      refine yG.invV (rest := []) A_hp.1 (bOb (d_Net W) H_r3) rfl rfl rfl rfl (c_Net_has_z W (d + 2) A_hp.1 H_r3 (p1) (p2) (by omega) (by omega) (by omega) (by omega)) (fun rv hp9 q9 => ?_)
      obtain ⟨⟨z4, rfl, l_z4, u_z4, R_z4⟩, e9⟩ := q9
      rw [e9]
      show yG _ _ _ _ _ _ _ _ _ _ (yI z4 :: []) _
      refine yG.ifz rfl (t := 22) rfl ⟨by omega, by omega⟩ (fun c5 => ?_) (fun c5 => ?_)
      · have c5 : (z4 : Int) ≠ 0 := c5
        exfalso; omega
      · have c5 : (z4 : Int) = 0 := c5
        exact yG.newT (P := bP _ _ _) rfl rfl (bP.thr rfl ⟨by decide, hp, A_hp, rfl⟩)
    · skip
      refine yG.load xak rfl (fun _ _ => rfl) (v := yR k0) rfl rfl ?_
      refine yG.getO A_hp.1 (w_G_net W H_k0) rfl rfl (fun r6 H_r6 O_r6 q_r6 => ?_)
      refine yG.load xik rfl (fun _ _ => rfl) (v := yI (p1)) rfl rfl ?_
      refine yG.load xik rfl (fun _ _ => rfl) (v := yI (p2)) rfl rfl ?_
      refine yG.invV (rest := []) A_hp.1 (bOb (d_Net W) H_r6) rfl rfl rfl rfl (c_Net_has_z W (d + 2) A_hp.1 H_r6 (p1) (p2) (by omega) (by omega) (by omega) (by omega)) (fun rv hp9 q9 => ?_)
      obtain ⟨⟨z7, rfl, l_z7, u_z7, R_z7⟩, e9⟩ := q9
      rw [e9]
      show yG _ _ _ _ _ _ _ _ _ _ (yI z7 :: []) _
      refine yG.ifz rfl (t := 22) rfl ⟨by omega, by omega⟩ (fun c8 => ?_) (fun c8 => ?_)
      · have c8 : (z7 : Int) ≠ 0 := c8
        exfalso; omega
      · have c8 : (z7 : Int) = 0 := c8
        exact yG.newT (P := bP _ _ _) rfl rfl (bP.thr rfl ⟨by decide, hp, A_hp, rfl⟩)
    · subst c2
      refine yG.load xak rfl (fun _ _ => rfl) (v := yR k0) rfl rfl ?_
      refine yG.getO A_hp.1 (w_G_net W H_k0) rfl rfl (fun r9 H_r9 O_r9 q_r9 => ?_)
      refine yG.load xik rfl (fun _ _ => rfl) (v := yI (p1)) rfl rfl ?_
      refine yG.load xik rfl (fun _ _ => rfl) (v := yI (p2)) rfl rfl ?_
      refine yG.invV (rest := []) A_hp.1 (bOb (d_Net W) H_r9) rfl rfl rfl rfl (c_Net_has_z W (d + 2) A_hp.1 H_r9 (p1) (p2) (by omega) (by omega) (by omega) (by omega)) (fun rv hp9 q9 => ?_)
      obtain ⟨⟨z10, rfl, l_z10, u_z10, R_z10⟩, e9⟩ := q9
      rw [e9]
      show yG _ _ _ _ _ _ _ _ _ _ (yI z10 :: []) _
      refine yG.ifz rfl (t := 22) rfl ⟨by omega, by omega⟩ (fun c11 => ?_) (fun c11 => ?_)
      · have c11 : (z10 : Int) ≠ 0 := c11
        exfalso; omega
      · have c11 : (z10 : Int) = 0 := c11
        exact yG.newT (P := bP _ _ _) rfl rfl (bP.thr rfl ⟨by decide, hp, A_hp, rfl⟩)
    · subst c2
      refine yG.load xak rfl (fun _ _ => rfl) (v := yR k0) rfl rfl ?_
      refine yG.getO A_hp.1 (w_G_net W H_k0) rfl rfl (fun r12 H_r12 O_r12 q_r12 => ?_)
      refine yG.load xik rfl (fun _ _ => rfl) (v := yI (p1)) rfl rfl ?_
      refine yG.load xik rfl (fun _ _ => rfl) (v := yI (p2)) rfl rfl ?_
      refine yG.invV (rest := []) A_hp.1 (bOb (d_Net W) H_r12) rfl rfl rfl rfl (c_Net_has_z W (d + 2) A_hp.1 H_r12 (p1) (p2) (by omega) (by omega) (by omega) (by omega)) (fun rv hp9 q9 => ?_)
      obtain ⟨⟨z13, rfl, l_z13, u_z13, R_z13⟩, e9⟩ := q9
      rw [e9]
      show yG _ _ _ _ _ _ _ _ _ _ (yI z13 :: []) _
      refine yG.ifz rfl (t := 22) rfl ⟨by omega, by omega⟩ (fun c14 => ?_) (fun c14 => ?_)
      · have c14 : (z13 : Int) ≠ 0 := c14
        exfalso; omega
      · have c14 : (z13 : Int) = 0 := c14
        exact yG.newT (P := bP _ _ _) rfl rfl (bP.thr rfl ⟨by decide, hp, A_hp, rfl⟩)
    · subst c2
      refine yG.load xak rfl (fun _ _ => rfl) (v := yR k0) rfl rfl ?_
      refine yG.getO A_hp.1 (w_G_net W H_k0) rfl rfl (fun r15 H_r15 O_r15 q_r15 => ?_)
      refine yG.load xik rfl (fun _ _ => rfl) (v := yI (p1)) rfl rfl ?_
      refine yG.load xik rfl (fun _ _ => rfl) (v := yI (p2)) rfl rfl ?_
      refine yG.invV (rest := []) A_hp.1 (bOb (d_Net W) H_r15) rfl rfl rfl rfl (c_Net_has_z W (d + 2) A_hp.1 H_r15 (p1) (p2) (by omega) (by omega) (by omega) (by omega)) (fun rv hp9 q9 => ?_)
      obtain ⟨⟨z16, rfl, l_z16, u_z16, R_z16⟩, e9⟩ := q9
      rw [e9]
      show yG _ _ _ _ _ _ _ _ _ _ (yI z16 :: []) _
      refine yG.ifz rfl (t := 22) rfl ⟨by omega, by omega⟩ (fun c17 => ?_) (fun c17 => ?_)
      · have c17 : (z16 : Int) ≠ 0 := c17
        exfalso; omega
      · have c17 : (z16 : Int) = 0 := c17
        exact yG.newT (P := bP _ _ _) rfl rfl (bP.thr rfl ⟨by decide, hp, A_hp, rfl⟩)
    · subst c2
      refine yG.load xak rfl (fun _ _ => rfl) (v := yR k0) rfl rfl ?_
      refine yG.getO A_hp.1 (w_G_net W H_k0) rfl rfl (fun r18 H_r18 O_r18 q_r18 => ?_)
      refine yG.load xik rfl (fun _ _ => rfl) (v := yI (p1)) rfl rfl ?_
      refine yG.load xik rfl (fun _ _ => rfl) (v := yI (p2)) rfl rfl ?_
      refine yG.invV (rest := []) A_hp.1 (bOb (d_Net W) H_r18) rfl rfl rfl rfl (c_Net_has_z W (d + 2) A_hp.1 H_r18 (p1) (p2) (by omega) (by omega) (by omega) (by omega)) (fun rv hp9 q9 => ?_)
      obtain ⟨⟨z19, rfl, l_z19, u_z19, R_z19⟩, e9⟩ := q9
      rw [e9]
      show yG _ _ _ _ _ _ _ _ _ _ (yI z19 :: []) _
      refine yG.ifz rfl (t := 22) rfl ⟨by omega, by omega⟩ (fun c20 => ?_) (fun c20 => ?_)
      · have c20 : (z19 : Int) ≠ 0 := c20
        exfalso; omega
      · have c20 : (z19 : Int) = 0 := c20
        exact yG.newT (P := bP _ _ _) rfl rfl (bP.thr rfl ⟨by decide, hp, A_hp, rfl⟩)
    · subst c2
      refine yG.load xak rfl (fun _ _ => rfl) (v := yR k0) rfl rfl ?_
      refine yG.getO A_hp.1 (w_G_net W H_k0) rfl rfl (fun r21 H_r21 O_r21 q_r21 => ?_)
      refine yG.load xik rfl (fun _ _ => rfl) (v := yI (p1)) rfl rfl ?_
      refine yG.load xik rfl (fun _ _ => rfl) (v := yI (p2)) rfl rfl ?_
      refine yG.invV (rest := []) A_hp.1 (bOb (d_Net W) H_r21) rfl rfl rfl rfl (c_Net_has_z W (d + 2) A_hp.1 H_r21 (p1) (p2) (by omega) (by omega) (by omega) (by omega)) (fun rv hp9 q9 => ?_)
      obtain ⟨⟨z22, rfl, l_z22, u_z22, R_z22⟩, e9⟩ := q9
      rw [e9]
      show yG _ _ _ _ _ _ _ _ _ _ (yI z22 :: []) _
      refine yG.ifz rfl (t := 22) rfl ⟨by omega, by omega⟩ (fun c23 => ?_) (fun c23 => ?_)
      · have c23 : (z22 : Int) ≠ 0 := c23
        exfalso; omega
      · have c23 : (z22 : Int) = 0 := c23
        exact yG.newT (P := bP _ _ _) rfl rfl (bP.thr rfl ⟨by decide, hp, A_hp, rfl⟩)
    · subst c2
      refine yG.load xak rfl (fun _ _ => rfl) (v := yR k0) rfl rfl ?_
      refine yG.getO A_hp.1 (w_G_net W H_k0) rfl rfl (fun r24 H_r24 O_r24 q_r24 => ?_)
      refine yG.load xik rfl (fun _ _ => rfl) (v := yI (p1)) rfl rfl ?_
      refine yG.load xik rfl (fun _ _ => rfl) (v := yI (p2)) rfl rfl ?_
      refine yG.invV (rest := []) A_hp.1 (bOb (d_Net W) H_r24) rfl rfl rfl rfl (c_Net_has_z W (d + 2) A_hp.1 H_r24 (p1) (p2) (by omega) (by omega) (by omega) (by omega)) (fun rv hp9 q9 => ?_)
      obtain ⟨⟨z25, rfl, l_z25, u_z25, R_z25⟩, e9⟩ := q9
      rw [e9]
      show yG _ _ _ _ _ _ _ _ _ _ (yI z25 :: []) _
      refine yG.ifz rfl (t := 22) rfl ⟨by omega, by omega⟩ (fun c26 => ?_) (fun c26 => ?_)
      · have c26 : (z25 : Int) ≠ 0 := c26
        exfalso; omega
      · have c26 : (z25 : Int) = 0 := c26
        exact yG.newT (P := bP _ _ _) rfl rfl (bP.thr rfl ⟨by decide, hp, A_hp, rfl⟩)
    · subst c2
      refine yG.load xak rfl (fun _ _ => rfl) (v := yR k0) rfl rfl ?_
      refine yG.getO A_hp.1 (w_G_net W H_k0) rfl rfl (fun r27 H_r27 O_r27 q_r27 => ?_)
      refine yG.load xik rfl (fun _ _ => rfl) (v := yI (p1)) rfl rfl ?_
      refine yG.load xik rfl (fun _ _ => rfl) (v := yI (p2)) rfl rfl ?_
      refine yG.invV (rest := []) A_hp.1 (bOb (d_Net W) H_r27) rfl rfl rfl rfl (c_Net_has_z W (d + 2) A_hp.1 H_r27 (p1) (p2) (by omega) (by omega) (by omega) (by omega)) (fun rv hp9 q9 => ?_)
      obtain ⟨⟨z28, rfl, l_z28, u_z28, R_z28⟩, e9⟩ := q9
      rw [e9]
      show yG _ _ _ _ _ _ _ _ _ _ (yI z28 :: []) _
      refine yG.ifz rfl (t := 22) rfl ⟨by omega, by omega⟩ (fun c29 => ?_) (fun c29 => ?_)
      · have c29 : (z28 : Int) ≠ 0 := c29
        exfalso; omega
      · have c29 : (z28 : Int) = 0 := c29
        exact yG.newT (P := bP _ _ _) rfl rfl (bP.thr rfl ⟨by decide, hp, A_hp, rfl⟩)
    · subst c2
      refine yG.load xak rfl (fun _ _ => rfl) (v := yR k0) rfl rfl ?_
      refine yG.getO A_hp.1 (w_G_net W H_k0) rfl rfl (fun r30 H_r30 O_r30 q_r30 => ?_)
      refine yG.load xik rfl (fun _ _ => rfl) (v := yI (p1)) rfl rfl ?_
      refine yG.load xik rfl (fun _ _ => rfl) (v := yI (p2)) rfl rfl ?_
      refine yG.invV (rest := []) A_hp.1 (bOb (d_Net W) H_r30) rfl rfl rfl rfl (c_Net_has_z W (d + 2) A_hp.1 H_r30 (p1) (p2) (by omega) (by omega) (by omega) (by omega)) (fun rv hp9 q9 => ?_)
      obtain ⟨⟨z31, rfl, l_z31, u_z31, R_z31⟩, e9⟩ := q9
      rw [e9]
      show yG _ _ _ _ _ _ _ _ _ _ (yI z31 :: []) _
      refine yG.ifz rfl (t := 22) rfl ⟨by omega, by omega⟩ (fun c32 => ?_) (fun c32 => ?_)
      · have c32 : (z31 : Int) ≠ 0 := c32
        exfalso; omega
      · have c32 : (z31 : Int) = 0 := c32
        exact yG.newT (P := bP _ _ _) rfl rfl (bP.thr rfl ⟨by decide, hp, A_hp, rfl⟩)
    · subst c2
      refine yG.load xak rfl (fun _ _ => rfl) (v := yR k0) rfl rfl ?_
      refine yG.getO A_hp.1 (w_G_net W H_k0) rfl rfl (fun r33 H_r33 O_r33 q_r33 => ?_)
      refine yG.load xik rfl (fun _ _ => rfl) (v := yI (p1)) rfl rfl ?_
      refine yG.load xik rfl (fun _ _ => rfl) (v := yI (p2)) rfl rfl ?_
      refine yG.invV (rest := []) A_hp.1 (bOb (d_Net W) H_r33) rfl rfl rfl rfl (c_Net_has_z W (d + 2) A_hp.1 H_r33 (p1) (p2) (by omega) (by omega) (by omega) (by omega)) (fun rv hp9 q9 => ?_)
      obtain ⟨⟨z34, rfl, l_z34, u_z34, R_z34⟩, e9⟩ := q9
      rw [e9]
      show yG _ _ _ _ _ _ _ _ _ _ (yI z34 :: []) _
      refine yG.ifz rfl (t := 22) rfl ⟨by omega, by omega⟩ (fun c35 => ?_) (fun c35 => ?_)
      · have c35 : (z34 : Int) ≠ 0 := c35
        exfalso; omega
      · have c35 : (z34 : Int) = 0 := c35
        exact yG.newT (P := bP _ _ _) rfl rfl (bP.thr rfl ⟨by decide, hp, A_hp, rfl⟩)
    · subst c2
      refine yG.load xak rfl (fun _ _ => rfl) (v := yR k0) rfl rfl ?_
      refine yG.getO A_hp.1 (w_G_net W H_k0) rfl rfl (fun r36 H_r36 O_r36 q_r36 => ?_)
      refine yG.load xik rfl (fun _ _ => rfl) (v := yI (p1)) rfl rfl ?_
      refine yG.load xik rfl (fun _ _ => rfl) (v := yI (p2)) rfl rfl ?_
      refine yG.invV (rest := []) A_hp.1 (bOb (d_Net W) H_r36) rfl rfl rfl rfl (c_Net_has_z W (d + 2) A_hp.1 H_r36 (p1) (p2) (by omega) (by omega) (by omega) (by omega)) (fun rv hp9 q9 => ?_)
      obtain ⟨⟨z37, rfl, l_z37, u_z37, R_z37⟩, e9⟩ := q9
      rw [e9]
      show yG _ _ _ _ _ _ _ _ _ _ (yI z37 :: []) _
      refine yG.ifz rfl (t := 22) rfl ⟨by omega, by omega⟩ (fun c38 => ?_) (fun c38 => ?_)
      · have c38 : (z37 : Int) ≠ 0 := c38
        exfalso; omega
      · have c38 : (z37 : Int) = 0 := c38
        exact yG.newT (P := bP _ _ _) rfl rfl (bP.thr rfl ⟨by decide, hp, A_hp, rfl⟩)
    · subst c2
      refine yG.load xak rfl (fun _ _ => rfl) (v := yR k0) rfl rfl ?_
      refine yG.getO A_hp.1 (w_G_net W H_k0) rfl rfl (fun r39 H_r39 O_r39 q_r39 => ?_)
      refine yG.load xik rfl (fun _ _ => rfl) (v := yI (p1)) rfl rfl ?_
      refine yG.load xik rfl (fun _ _ => rfl) (v := yI (p2)) rfl rfl ?_
      refine yG.invV (rest := []) A_hp.1 (bOb (d_Net W) H_r39) rfl rfl rfl rfl (c_Net_has_z W (d + 2) A_hp.1 H_r39 (p1) (p2) (by omega) (by omega) (by omega) (by omega)) (fun rv hp9 q9 => ?_)
      obtain ⟨⟨z40, rfl, l_z40, u_z40, R_z40⟩, e9⟩ := q9
      rw [e9]
      show yG _ _ _ _ _ _ _ _ _ _ (yI z40 :: []) _
      refine yG.ifz rfl (t := 22) rfl ⟨by omega, by omega⟩ (fun c41 => ?_) (fun c41 => ?_)
      · have c41 : (z40 : Int) ≠ 0 := c41
        exfalso; omega
      · have c41 : (z40 : Int) = 0 := c41
        exact yG.newT (P := bP _ _ _) rfl rfl (bP.thr rfl ⟨by decide, hp, A_hp, rfl⟩)
  · skip
    rcases (show p3 ≤ (-1) ∨ p3 ≥ 11 ∨ p3 = 0 ∨ p3 = 1 ∨ p3 = 2 ∨ p3 = 3 ∨ p3 = 4 ∨ p3 = 5 ∨ p3 = 6 ∨ p3 = 7 ∨ p3 = 8 ∨ p3 = 9 ∨ p3 = 10 by omega) with c42 | c42 | c42 | c42 | c42 | c42 | c42 | c42 | c42 | c42 | c42 | c42 | c42
    · skip
      refine yG.load xak rfl (fun _ _ => rfl) (v := yR k0) rfl rfl ?_
      refine yG.getO A_hp.1 (w_G_net W H_k0) rfl rfl (fun r43 H_r43 O_r43 q_r43 => ?_)
      refine yG.load xik rfl (fun _ _ => rfl) (v := yI (p1)) rfl rfl ?_
      refine yG.load xik rfl (fun _ _ => rfl) (v := yI (p2)) rfl rfl ?_
      refine yG.invV (rest := []) A_hp.1 (bOb (d_Net W) H_r43) rfl rfl rfl rfl (c_Net_has_z W (d + 2) A_hp.1 H_r43 (p1) (p2) (by omega) (by omega) (by omega) (by omega)) (fun rv hp9 q9 => ?_)
      obtain ⟨⟨z44, rfl, l_z44, u_z44, R_z44⟩, e9⟩ := q9
      rw [e9]
      show yG _ _ _ _ _ _ _ _ _ _ (yI z44 :: []) _
      refine yG.ifz rfl (t := 22) rfl ⟨by omega, by omega⟩ (fun c45 => ?_) (fun c45 => ?_)
      · have c45 : (z44 : Int) ≠ 0 := c45
        exfalso; omega
      · have c45 : (z44 : Int) = 0 := c45
        exact yG.newT (P := bP _ _ _) rfl rfl (bP.thr rfl ⟨by decide, hp, A_hp, rfl⟩)
    · skip
      refine yG.load xak rfl (fun _ _ => rfl) (v := yR k0) rfl rfl ?_
      refine yG.getO A_hp.1 (w_G_net W H_k0) rfl rfl (fun r46 H_r46 O_r46 q_r46 => ?_)
      refine yG.load xik rfl (fun _ _ => rfl) (v := yI (p1)) rfl rfl ?_
      refine yG.load xik rfl (fun _ _ => rfl) (v := yI (p2)) rfl rfl ?_
      refine yG.invV (rest := []) A_hp.1 (bOb (d_Net W) H_r46) rfl rfl rfl rfl (c_Net_has_z W (d + 2) A_hp.1 H_r46 (p1) (p2) (by omega) (by omega) (by omega) (by omega)) (fun rv hp9 q9 => ?_)
      obtain ⟨⟨z47, rfl, l_z47, u_z47, R_z47⟩, e9⟩ := q9
      rw [e9]
      show yG _ _ _ _ _ _ _ _ _ _ (yI z47 :: []) _
      refine yG.ifz rfl (t := 22) rfl ⟨by omega, by omega⟩ (fun c48 => ?_) (fun c48 => ?_)
      · have c48 : (z47 : Int) ≠ 0 := c48
        exfalso; omega
      · have c48 : (z47 : Int) = 0 := c48
        exact yG.newT (P := bP _ _ _) rfl rfl (bP.thr rfl ⟨by decide, hp, A_hp, rfl⟩)
    · subst c42
      refine yG.load xak rfl (fun _ _ => rfl) (v := yR k0) rfl rfl ?_
      refine yG.getO A_hp.1 (w_G_net W H_k0) rfl rfl (fun r49 H_r49 O_r49 q_r49 => ?_)
      refine yG.load xik rfl (fun _ _ => rfl) (v := yI (p1)) rfl rfl ?_
      refine yG.load xik rfl (fun _ _ => rfl) (v := yI (p2)) rfl rfl ?_
      refine yG.invV (rest := []) A_hp.1 (bOb (d_Net W) H_r49) rfl rfl rfl rfl (c_Net_has_z W (d + 2) A_hp.1 H_r49 (p1) (p2) (by omega) (by omega) (by omega) (by omega)) (fun rv hp9 q9 => ?_)
      obtain ⟨⟨z50, rfl, l_z50, u_z50, R_z50⟩, e9⟩ := q9
      rw [e9]
      show yG _ _ _ _ _ _ _ _ _ _ (yI z50 :: []) _
      refine yG.ifz rfl (t := 22) rfl ⟨by omega, by omega⟩ (fun c51 => ?_) (fun c51 => ?_)
      · have c51 : (z50 : Int) ≠ 0 := c51
        exfalso; omega
      · have c51 : (z50 : Int) = 0 := c51
        exact yG.newT (P := bP _ _ _) rfl rfl (bP.thr rfl ⟨by decide, hp, A_hp, rfl⟩)
    · subst c42
      refine yG.load xak rfl (fun _ _ => rfl) (v := yR k0) rfl rfl ?_
      refine yG.getO A_hp.1 (w_G_net W H_k0) rfl rfl (fun r52 H_r52 O_r52 q_r52 => ?_)
      refine yG.load xik rfl (fun _ _ => rfl) (v := yI (p1)) rfl rfl ?_
      refine yG.load xik rfl (fun _ _ => rfl) (v := yI (p2)) rfl rfl ?_
      refine yG.invV (rest := []) A_hp.1 (bOb (d_Net W) H_r52) rfl rfl rfl rfl (c_Net_has_z W (d + 2) A_hp.1 H_r52 (p1) (p2) (by omega) (by omega) (by omega) (by omega)) (fun rv hp9 q9 => ?_)
      obtain ⟨⟨z53, rfl, l_z53, u_z53, R_z53⟩, e9⟩ := q9
      rw [e9]
      show yG _ _ _ _ _ _ _ _ _ _ (yI z53 :: []) _
      refine yG.ifz rfl (t := 22) rfl ⟨by omega, by omega⟩ (fun c54 => ?_) (fun c54 => ?_)
      · have c54 : (z53 : Int) ≠ 0 := c54
        exfalso; omega
      · have c54 : (z53 : Int) = 0 := c54
        exact yG.newT (P := bP _ _ _) rfl rfl (bP.thr rfl ⟨by decide, hp, A_hp, rfl⟩)
    · subst c42
      refine yG.load xak rfl (fun _ _ => rfl) (v := yR k0) rfl rfl ?_
      refine yG.getO A_hp.1 (w_G_net W H_k0) rfl rfl (fun r55 H_r55 O_r55 q_r55 => ?_)
      refine yG.load xik rfl (fun _ _ => rfl) (v := yI (p1)) rfl rfl ?_
      refine yG.load xik rfl (fun _ _ => rfl) (v := yI (p2)) rfl rfl ?_
      refine yG.invV (rest := []) A_hp.1 (bOb (d_Net W) H_r55) rfl rfl rfl rfl (c_Net_has_z W (d + 2) A_hp.1 H_r55 (p1) (p2) (by omega) (by omega) (by omega) (by omega)) (fun rv hp9 q9 => ?_)
      obtain ⟨⟨z56, rfl, l_z56, u_z56, R_z56⟩, e9⟩ := q9
      rw [e9]
      show yG _ _ _ _ _ _ _ _ _ _ (yI z56 :: []) _
      refine yG.ifz rfl (t := 22) rfl ⟨by omega, by omega⟩ (fun c57 => ?_) (fun c57 => ?_)
      · have c57 : (z56 : Int) ≠ 0 := c57
        exfalso; omega
      · have c57 : (z56 : Int) = 0 := c57
        exact yG.newT (P := bP _ _ _) rfl rfl (bP.thr rfl ⟨by decide, hp, A_hp, rfl⟩)
    · subst c42
      refine yG.load xak rfl (fun _ _ => rfl) (v := yR k0) rfl rfl ?_
      refine yG.getO A_hp.1 (w_G_net W H_k0) rfl rfl (fun r58 H_r58 O_r58 q_r58 => ?_)
      refine yG.load xik rfl (fun _ _ => rfl) (v := yI (p1)) rfl rfl ?_
      refine yG.load xik rfl (fun _ _ => rfl) (v := yI (p2)) rfl rfl ?_
      refine yG.invV (rest := []) A_hp.1 (bOb (d_Net W) H_r58) rfl rfl rfl rfl (c_Net_has_z W (d + 2) A_hp.1 H_r58 (p1) (p2) (by omega) (by omega) (by omega) (by omega)) (fun rv hp9 q9 => ?_)
      obtain ⟨⟨z59, rfl, l_z59, u_z59, R_z59⟩, e9⟩ := q9
      rw [e9]
      show yG _ _ _ _ _ _ _ _ _ _ (yI z59 :: []) _
      refine yG.ifz rfl (t := 22) rfl ⟨by omega, by omega⟩ (fun c60 => ?_) (fun c60 => ?_)
      · have c60 : (z59 : Int) ≠ 0 := c60
        exfalso; omega
      · have c60 : (z59 : Int) = 0 := c60
        exact yG.newT (P := bP _ _ _) rfl rfl (bP.thr rfl ⟨by decide, hp, A_hp, rfl⟩)
    · subst c42
      refine yG.load xak rfl (fun _ _ => rfl) (v := yR k0) rfl rfl ?_
      refine yG.getO A_hp.1 (w_G_net W H_k0) rfl rfl (fun r61 H_r61 O_r61 q_r61 => ?_)
      refine yG.load xik rfl (fun _ _ => rfl) (v := yI (p1)) rfl rfl ?_
      refine yG.load xik rfl (fun _ _ => rfl) (v := yI (p2)) rfl rfl ?_
      refine yG.invV (rest := []) A_hp.1 (bOb (d_Net W) H_r61) rfl rfl rfl rfl (c_Net_has_z W (d + 2) A_hp.1 H_r61 (p1) (p2) (by omega) (by omega) (by omega) (by omega)) (fun rv hp9 q9 => ?_)
      obtain ⟨⟨z62, rfl, l_z62, u_z62, R_z62⟩, e9⟩ := q9
      rw [e9]
      show yG _ _ _ _ _ _ _ _ _ _ (yI z62 :: []) _
      refine yG.ifz rfl (t := 22) rfl ⟨by omega, by omega⟩ (fun c63 => ?_) (fun c63 => ?_)
      · have c63 : (z62 : Int) ≠ 0 := c63
        exfalso; omega
      · have c63 : (z62 : Int) = 0 := c63
        exact yG.newT (P := bP _ _ _) rfl rfl (bP.thr rfl ⟨by decide, hp, A_hp, rfl⟩)
    · subst c42
      refine yG.load xak rfl (fun _ _ => rfl) (v := yR k0) rfl rfl ?_
      refine yG.getO A_hp.1 (w_G_net W H_k0) rfl rfl (fun r64 H_r64 O_r64 q_r64 => ?_)
      refine yG.load xik rfl (fun _ _ => rfl) (v := yI (p1)) rfl rfl ?_
      refine yG.load xik rfl (fun _ _ => rfl) (v := yI (p2)) rfl rfl ?_
      refine yG.invV (rest := []) A_hp.1 (bOb (d_Net W) H_r64) rfl rfl rfl rfl (c_Net_has_z W (d + 2) A_hp.1 H_r64 (p1) (p2) (by omega) (by omega) (by omega) (by omega)) (fun rv hp9 q9 => ?_)
      obtain ⟨⟨z65, rfl, l_z65, u_z65, R_z65⟩, e9⟩ := q9
      rw [e9]
      show yG _ _ _ _ _ _ _ _ _ _ (yI z65 :: []) _
      refine yG.ifz rfl (t := 22) rfl ⟨by omega, by omega⟩ (fun c66 => ?_) (fun c66 => ?_)
      · have c66 : (z65 : Int) ≠ 0 := c66
        exfalso; omega
      · have c66 : (z65 : Int) = 0 := c66
        exact yG.newT (P := bP _ _ _) rfl rfl (bP.thr rfl ⟨by decide, hp, A_hp, rfl⟩)
    · subst c42
      refine yG.load xak rfl (fun _ _ => rfl) (v := yR k0) rfl rfl ?_
      refine yG.getO A_hp.1 (w_G_net W H_k0) rfl rfl (fun r67 H_r67 O_r67 q_r67 => ?_)
      refine yG.load xik rfl (fun _ _ => rfl) (v := yI (p1)) rfl rfl ?_
      refine yG.load xik rfl (fun _ _ => rfl) (v := yI (p2)) rfl rfl ?_
      refine yG.invV (rest := []) A_hp.1 (bOb (d_Net W) H_r67) rfl rfl rfl rfl (c_Net_has_z W (d + 2) A_hp.1 H_r67 (p1) (p2) (by omega) (by omega) (by omega) (by omega)) (fun rv hp9 q9 => ?_)
      obtain ⟨⟨z68, rfl, l_z68, u_z68, R_z68⟩, e9⟩ := q9
      rw [e9]
      show yG _ _ _ _ _ _ _ _ _ _ (yI z68 :: []) _
      refine yG.ifz rfl (t := 22) rfl ⟨by omega, by omega⟩ (fun c69 => ?_) (fun c69 => ?_)
      · have c69 : (z68 : Int) ≠ 0 := c69
        exfalso; omega
      · have c69 : (z68 : Int) = 0 := c69
        exact yG.newT (P := bP _ _ _) rfl rfl (bP.thr rfl ⟨by decide, hp, A_hp, rfl⟩)
    · subst c42
      refine yG.load xak rfl (fun _ _ => rfl) (v := yR k0) rfl rfl ?_
      refine yG.getO A_hp.1 (w_G_net W H_k0) rfl rfl (fun r70 H_r70 O_r70 q_r70 => ?_)
      refine yG.load xik rfl (fun _ _ => rfl) (v := yI (p1)) rfl rfl ?_
      refine yG.load xik rfl (fun _ _ => rfl) (v := yI (p2)) rfl rfl ?_
      refine yG.invV (rest := []) A_hp.1 (bOb (d_Net W) H_r70) rfl rfl rfl rfl (c_Net_has_z W (d + 2) A_hp.1 H_r70 (p1) (p2) (by omega) (by omega) (by omega) (by omega)) (fun rv hp9 q9 => ?_)
      obtain ⟨⟨z71, rfl, l_z71, u_z71, R_z71⟩, e9⟩ := q9
      rw [e9]
      show yG _ _ _ _ _ _ _ _ _ _ (yI z71 :: []) _
      refine yG.ifz rfl (t := 22) rfl ⟨by omega, by omega⟩ (fun c72 => ?_) (fun c72 => ?_)
      · have c72 : (z71 : Int) ≠ 0 := c72
        exfalso; omega
      · have c72 : (z71 : Int) = 0 := c72
        exact yG.newT (P := bP _ _ _) rfl rfl (bP.thr rfl ⟨by decide, hp, A_hp, rfl⟩)
    · subst c42
      refine yG.load xak rfl (fun _ _ => rfl) (v := yR k0) rfl rfl ?_
      refine yG.getO A_hp.1 (w_G_net W H_k0) rfl rfl (fun r73 H_r73 O_r73 q_r73 => ?_)
      refine yG.load xik rfl (fun _ _ => rfl) (v := yI (p1)) rfl rfl ?_
      refine yG.load xik rfl (fun _ _ => rfl) (v := yI (p2)) rfl rfl ?_
      refine yG.invV (rest := []) A_hp.1 (bOb (d_Net W) H_r73) rfl rfl rfl rfl (c_Net_has_z W (d + 2) A_hp.1 H_r73 (p1) (p2) (by omega) (by omega) (by omega) (by omega)) (fun rv hp9 q9 => ?_)
      obtain ⟨⟨z74, rfl, l_z74, u_z74, R_z74⟩, e9⟩ := q9
      rw [e9]
      show yG _ _ _ _ _ _ _ _ _ _ (yI z74 :: []) _
      refine yG.ifz rfl (t := 22) rfl ⟨by omega, by omega⟩ (fun c75 => ?_) (fun c75 => ?_)
      · have c75 : (z74 : Int) ≠ 0 := c75
        exfalso; omega
      · have c75 : (z74 : Int) = 0 := c75
        exact yG.newT (P := bP _ _ _) rfl rfl (bP.thr rfl ⟨by decide, hp, A_hp, rfl⟩)
    · subst c42
      refine yG.load xak rfl (fun _ _ => rfl) (v := yR k0) rfl rfl ?_
      refine yG.getO A_hp.1 (w_G_net W H_k0) rfl rfl (fun r76 H_r76 O_r76 q_r76 => ?_)
      refine yG.load xik rfl (fun _ _ => rfl) (v := yI (p1)) rfl rfl ?_
      refine yG.load xik rfl (fun _ _ => rfl) (v := yI (p2)) rfl rfl ?_
      refine yG.invV (rest := []) A_hp.1 (bOb (d_Net W) H_r76) rfl rfl rfl rfl (c_Net_has_z W (d + 2) A_hp.1 H_r76 (p1) (p2) (by omega) (by omega) (by omega) (by omega)) (fun rv hp9 q9 => ?_)
      obtain ⟨⟨z77, rfl, l_z77, u_z77, R_z77⟩, e9⟩ := q9
      rw [e9]
      show yG _ _ _ _ _ _ _ _ _ _ (yI z77 :: []) _
      refine yG.ifz rfl (t := 22) rfl ⟨by omega, by omega⟩ (fun c78 => ?_) (fun c78 => ?_)
      · have c78 : (z77 : Int) ≠ 0 := c78
        exfalso; omega
      · have c78 : (z77 : Int) = 0 := c78
        exact yG.newT (P := bP _ _ _) rfl rfl (bP.thr rfl ⟨by decide, hp, A_hp, rfl⟩)
    · subst c42
      refine yG.load xak rfl (fun _ _ => rfl) (v := yR k0) rfl rfl ?_
      refine yG.getO A_hp.1 (w_G_net W H_k0) rfl rfl (fun r79 H_r79 O_r79 q_r79 => ?_)
      refine yG.load xik rfl (fun _ _ => rfl) (v := yI (p1)) rfl rfl ?_
      refine yG.load xik rfl (fun _ _ => rfl) (v := yI (p2)) rfl rfl ?_
      refine yG.invV (rest := []) A_hp.1 (bOb (d_Net W) H_r79) rfl rfl rfl rfl (c_Net_has_z W (d + 2) A_hp.1 H_r79 (p1) (p2) (by omega) (by omega) (by omega) (by omega)) (fun rv hp9 q9 => ?_)
      obtain ⟨⟨z80, rfl, l_z80, u_z80, R_z80⟩, e9⟩ := q9
      rw [e9]
      show yG _ _ _ _ _ _ _ _ _ _ (yI z80 :: []) _
      refine yG.ifz rfl (t := 22) rfl ⟨by omega, by omega⟩ (fun c81 => ?_) (fun c81 => ?_)
      · have c81 : (z80 : Int) ≠ 0 := c81
        exfalso; omega
      · have c81 : (z80 : Int) = 0 := c81
        exact yG.newT (P := bP _ _ _) rfl rfl (bP.thr rfl ⟨by decide, hp, A_hp, rfl⟩)
  · subst c1
    rcases (show p3 ≤ (-1) ∨ p3 ≥ 11 ∨ p3 = 0 ∨ p3 = 1 ∨ p3 = 2 ∨ p3 = 3 ∨ p3 = 4 ∨ p3 = 5 ∨ p3 = 6 ∨ p3 = 7 ∨ p3 = 8 ∨ p3 = 9 ∨ p3 = 10 by omega) with c82 | c82 | c82 | c82 | c82 | c82 | c82 | c82 | c82 | c82 | c82 | c82 | c82
    · skip
      refine yG.load xak rfl (fun _ _ => rfl) (v := yR k0) rfl rfl ?_
      refine yG.getO A_hp.1 (w_G_net W H_k0) rfl rfl (fun r83 H_r83 O_r83 q_r83 => ?_)
      refine yG.load xik rfl (fun _ _ => rfl) (v := yI (0)) rfl rfl ?_
      refine yG.load xik rfl (fun _ _ => rfl) (v := yI (p2)) rfl rfl ?_
      refine yG.invV (rest := []) A_hp.1 (bOb (d_Net W) H_r83) rfl rfl rfl rfl (c_Net_has_0 W (d + 2) A_hp.1 H_r83 (p2) (by omega) (by omega)) (fun rv hp9 q9 => ?_)
      obtain ⟨⟨z84, rfl, l_z84, u_z84, R_z84⟩, e9⟩ := q9
      rw [e9]
      show yG _ _ _ _ _ _ _ _ _ _ (yI z84 :: []) _
      refine yG.ifz rfl (t := 22) rfl ⟨by omega, by omega⟩ (fun c85 => ?_) (fun c85 => ?_)
      · have c85 : (z84 : Int) ≠ 0 := c85
        refine yG.load xak rfl (fun _ _ => rfl) (v := yR k0) rfl rfl ?_
        refine yG.getS9 A_hp.1 (w_G_net W H_k0) q_r83 rfl rfl ?_
        refine yG.load xik rfl (fun _ _ => rfl) (v := yI (0)) rfl rfl ?_
        refine yG.load xik rfl (fun _ _ => rfl) (v := yI (p2)) rfl rfl ?_
        refine yG.load xik rfl (fun _ _ => rfl) (v := yI (p3)) rfl rfl ?_
        refine yG.load xik rfl (fun _ _ => rfl) (v := yI (p4)) rfl rfl ?_
        refine yG.invV (rest := []) A_hp.1 (bOb (d_Net W) H_r83) rfl rfl rfl rfl (c_Net_allows_0_l W (d + 2) A_hp.1 H_r83 (p2) (p3) (p4) (by omega) (by omega) (by omega) (by omega) (by omega) (by omega)) (fun rv hp9 q9 => ?_)
        obtain ⟨⟨z86, rfl, l_z86, u_z86, R_z86⟩, e9⟩ := q9
        rw [e9]
        show yG _ _ _ _ _ _ _ _ _ _ (yI z86 :: []) _
        refine yG.ifz rfl (t := 47) rfl ⟨by omega, by omega⟩ (fun c87 => ?_) (fun c87 => ?_)
        · have c87 : (z86 : Int) ≠ 0 := c87
          exfalso; omega
        · have c87 : (z86 : Int) = 0 := c87
          exact yG.newT (P := bP _ _ _) rfl rfl (bP.thr rfl ⟨by decide, hp, A_hp, rfl⟩)
      · have c85 : (z84 : Int) = 0 := c85
        exact yG.newT (P := bP _ _ _) rfl rfl (bP.thr rfl ⟨by decide, hp, A_hp, rfl⟩)
    · skip
      refine yG.load xak rfl (fun _ _ => rfl) (v := yR k0) rfl rfl ?_
      refine yG.getO A_hp.1 (w_G_net W H_k0) rfl rfl (fun r88 H_r88 O_r88 q_r88 => ?_)
      refine yG.load xik rfl (fun _ _ => rfl) (v := yI (0)) rfl rfl ?_
      refine yG.load xik rfl (fun _ _ => rfl) (v := yI (p2)) rfl rfl ?_
      refine yG.invV (rest := []) A_hp.1 (bOb (d_Net W) H_r88) rfl rfl rfl rfl (c_Net_has_0 W (d + 2) A_hp.1 H_r88 (p2) (by omega) (by omega)) (fun rv hp9 q9 => ?_)
      obtain ⟨⟨z89, rfl, l_z89, u_z89, R_z89⟩, e9⟩ := q9
      rw [e9]
      show yG _ _ _ _ _ _ _ _ _ _ (yI z89 :: []) _
      refine yG.ifz rfl (t := 22) rfl ⟨by omega, by omega⟩ (fun c90 => ?_) (fun c90 => ?_)
      · have c90 : (z89 : Int) ≠ 0 := c90
        refine yG.load xak rfl (fun _ _ => rfl) (v := yR k0) rfl rfl ?_
        refine yG.getS9 A_hp.1 (w_G_net W H_k0) q_r88 rfl rfl ?_
        refine yG.load xik rfl (fun _ _ => rfl) (v := yI (0)) rfl rfl ?_
        refine yG.load xik rfl (fun _ _ => rfl) (v := yI (p2)) rfl rfl ?_
        refine yG.load xik rfl (fun _ _ => rfl) (v := yI (p3)) rfl rfl ?_
        refine yG.load xik rfl (fun _ _ => rfl) (v := yI (p4)) rfl rfl ?_
        refine yG.invV (rest := []) A_hp.1 (bOb (d_Net W) H_r88) rfl rfl rfl rfl (c_Net_allows_0_h W (d + 2) A_hp.1 H_r88 (p2) (p3) (p4) (by omega) (by omega) (by omega) (by omega) (by omega) (by omega)) (fun rv hp9 q9 => ?_)
        obtain ⟨⟨z91, rfl, l_z91, u_z91, R_z91⟩, e9⟩ := q9
        rw [e9]
        show yG _ _ _ _ _ _ _ _ _ _ (yI z91 :: []) _
        refine yG.ifz rfl (t := 47) rfl ⟨by omega, by omega⟩ (fun c92 => ?_) (fun c92 => ?_)
        · have c92 : (z91 : Int) ≠ 0 := c92
          exfalso; omega
        · have c92 : (z91 : Int) = 0 := c92
          exact yG.newT (P := bP _ _ _) rfl rfl (bP.thr rfl ⟨by decide, hp, A_hp, rfl⟩)
      · have c90 : (z89 : Int) = 0 := c90
        exact yG.newT (P := bP _ _ _) rfl rfl (bP.thr rfl ⟨by decide, hp, A_hp, rfl⟩)
    · subst c82
      refine yG.load xak rfl (fun _ _ => rfl) (v := yR k0) rfl rfl ?_
      refine yG.getO A_hp.1 (w_G_net W H_k0) rfl rfl (fun r93 H_r93 O_r93 q_r93 => ?_)
      refine yG.load xik rfl (fun _ _ => rfl) (v := yI (0)) rfl rfl ?_
      refine yG.load xik rfl (fun _ _ => rfl) (v := yI (p2)) rfl rfl ?_
      refine yG.invV (rest := []) A_hp.1 (bOb (d_Net W) H_r93) rfl rfl rfl rfl (c_Net_has_0 W (d + 2) A_hp.1 H_r93 (p2) (by omega) (by omega)) (fun rv hp9 q9 => ?_)
      obtain ⟨⟨z94, rfl, l_z94, u_z94, R_z94⟩, e9⟩ := q9
      rw [e9]
      show yG _ _ _ _ _ _ _ _ _ _ (yI z94 :: []) _
      refine yG.ifz rfl (t := 22) rfl ⟨by omega, by omega⟩ (fun c95 => ?_) (fun c95 => ?_)
      · have c95 : (z94 : Int) ≠ 0 := c95
        refine yG.load xak rfl (fun _ _ => rfl) (v := yR k0) rfl rfl ?_
        refine yG.getS9 A_hp.1 (w_G_net W H_k0) q_r93 rfl rfl ?_
        refine yG.load xik rfl (fun _ _ => rfl) (v := yI (0)) rfl rfl ?_
        refine yG.load xik rfl (fun _ _ => rfl) (v := yI (p2)) rfl rfl ?_
        refine yG.load xik rfl (fun _ _ => rfl) (v := yI (0)) rfl rfl ?_
        refine yG.load xik rfl (fun _ _ => rfl) (v := yI (p4)) rfl rfl ?_
        refine yG.invV (rest := []) A_hp.1 (bOb (d_Net W) H_r93) rfl rfl rfl rfl (c_Net_allows_0_0 W (d + 2) A_hp.1 H_r93 (p2) (p4) (by omega) (by omega) (by omega) (by omega)) (fun rv hp9 q9 => ?_)
        obtain ⟨⟨z96, rfl, l_z96, u_z96, R_z96⟩, e9⟩ := q9
        rw [e9]
        show yG _ _ _ _ _ _ _ _ _ _ (yI z96 :: []) _
        refine yG.ifz rfl (t := 47) rfl ⟨by omega, by omega⟩ (fun c97 => ?_) (fun c97 => ?_)
        · have c97 : (z96 : Int) ≠ 0 := c97
          exfalso; omega
        · have c97 : (z96 : Int) = 0 := c97
          exact yG.newT (P := bP _ _ _) rfl rfl (bP.thr rfl ⟨by decide, hp, A_hp, rfl⟩)
      · have c95 : (z94 : Int) = 0 := c95
        exact yG.newT (P := bP _ _ _) rfl rfl (bP.thr rfl ⟨by decide, hp, A_hp, rfl⟩)
    · subst c82
      refine yG.load xak rfl (fun _ _ => rfl) (v := yR k0) rfl rfl ?_
      refine yG.getO A_hp.1 (w_G_net W H_k0) rfl rfl (fun r98 H_r98 O_r98 q_r98 => ?_)
      refine yG.load xik rfl (fun _ _ => rfl) (v := yI (0)) rfl rfl ?_
      refine yG.load xik rfl (fun _ _ => rfl) (v := yI (p2)) rfl rfl ?_
      refine yG.invV (rest := []) A_hp.1 (bOb (d_Net W) H_r98) rfl rfl rfl rfl (c_Net_has_0 W (d + 2) A_hp.1 H_r98 (p2) (by omega) (by omega)) (fun rv hp9 q9 => ?_)
      obtain ⟨⟨z99, rfl, l_z99, u_z99, R_z99⟩, e9⟩ := q9
      rw [e9]
      show yG _ _ _ _ _ _ _ _ _ _ (yI z99 :: []) _
      refine yG.ifz rfl (t := 22) rfl ⟨by omega, by omega⟩ (fun c100 => ?_) (fun c100 => ?_)
      · have c100 : (z99 : Int) ≠ 0 := c100
        refine yG.load xak rfl (fun _ _ => rfl) (v := yR k0) rfl rfl ?_
        refine yG.getS9 A_hp.1 (w_G_net W H_k0) q_r98 rfl rfl ?_
        refine yG.load xik rfl (fun _ _ => rfl) (v := yI (0)) rfl rfl ?_
        refine yG.load xik rfl (fun _ _ => rfl) (v := yI (p2)) rfl rfl ?_
        refine yG.load xik rfl (fun _ _ => rfl) (v := yI (1)) rfl rfl ?_
        refine yG.load xik rfl (fun _ _ => rfl) (v := yI (p4)) rfl rfl ?_
        refine yG.invV (rest := []) A_hp.1 (bOb (d_Net W) H_r98) rfl rfl rfl rfl (c_Net_allows_0_1 W (d + 2) A_hp.1 H_r98 (p2) (p4) (by omega) (by omega) (by omega) (by omega)) (fun rv hp9 q9 => ?_)
        obtain ⟨⟨z101, rfl, l_z101, u_z101, R_z101⟩, e9⟩ := q9
        rw [e9]
        show yG _ _ _ _ _ _ _ _ _ _ (yI z101 :: []) _
        refine yG.ifz rfl (t := 47) rfl ⟨by omega, by omega⟩ (fun c102 => ?_) (fun c102 => ?_)
        · have c102 : (z101 : Int) ≠ 0 := c102
          exfalso; omega
        · have c102 : (z101 : Int) = 0 := c102
          exact yG.newT (P := bP _ _ _) rfl rfl (bP.thr rfl ⟨by decide, hp, A_hp, rfl⟩)
      · have c100 : (z99 : Int) = 0 := c100
        exact yG.newT (P := bP _ _ _) rfl rfl (bP.thr rfl ⟨by decide, hp, A_hp, rfl⟩)
    · subst c82
      refine yG.load xak rfl (fun _ _ => rfl) (v := yR k0) rfl rfl ?_
      refine yG.getO A_hp.1 (w_G_net W H_k0) rfl rfl (fun r103 H_r103 O_r103 q_r103 => ?_)
      refine yG.load xik rfl (fun _ _ => rfl) (v := yI (0)) rfl rfl ?_
      refine yG.load xik rfl (fun _ _ => rfl) (v := yI (p2)) rfl rfl ?_
      refine yG.invV (rest := []) A_hp.1 (bOb (d_Net W) H_r103) rfl rfl rfl rfl (c_Net_has_0 W (d + 2) A_hp.1 H_r103 (p2) (by omega) (by omega)) (fun rv hp9 q9 => ?_)
      obtain ⟨⟨z104, rfl, l_z104, u_z104, R_z104⟩, e9⟩ := q9
      rw [e9]
      show yG _ _ _ _ _ _ _ _ _ _ (yI z104 :: []) _
      refine yG.ifz rfl (t := 22) rfl ⟨by omega, by omega⟩ (fun c105 => ?_) (fun c105 => ?_)
      · have c105 : (z104 : Int) ≠ 0 := c105
        refine yG.load xak rfl (fun _ _ => rfl) (v := yR k0) rfl rfl ?_
        refine yG.getS9 A_hp.1 (w_G_net W H_k0) q_r103 rfl rfl ?_
        refine yG.load xik rfl (fun _ _ => rfl) (v := yI (0)) rfl rfl ?_
        refine yG.load xik rfl (fun _ _ => rfl) (v := yI (p2)) rfl rfl ?_
        refine yG.load xik rfl (fun _ _ => rfl) (v := yI (2)) rfl rfl ?_
        refine yG.load xik rfl (fun _ _ => rfl) (v := yI (p4)) rfl rfl ?_
        refine yG.invV (rest := []) A_hp.1 (bOb (d_Net W) H_r103) rfl rfl rfl rfl (c_Net_allows_0_2 W (d + 2) A_hp.1 H_r103 (p2) (p4) (by omega) (by omega) (by omega) (by omega)) (fun rv hp9 q9 => ?_)
        obtain ⟨⟨z106, rfl, l_z106, u_z106, R_z106⟩, e9⟩ := q9
        rw [e9]
        show yG _ _ _ _ _ _ _ _ _ _ (yI z106 :: []) _
        refine yG.ifz rfl (t := 47) rfl ⟨by omega, by omega⟩ (fun c107 => ?_) (fun c107 => ?_)
        · have c107 : (z106 : Int) ≠ 0 := c107
          exfalso; omega
        · have c107 : (z106 : Int) = 0 := c107
          exact yG.newT (P := bP _ _ _) rfl rfl (bP.thr rfl ⟨by decide, hp, A_hp, rfl⟩)
      · have c105 : (z104 : Int) = 0 := c105
        exact yG.newT (P := bP _ _ _) rfl rfl (bP.thr rfl ⟨by decide, hp, A_hp, rfl⟩)
    · subst c82
      refine yG.load xak rfl (fun _ _ => rfl) (v := yR k0) rfl rfl ?_
      refine yG.getO A_hp.1 (w_G_net W H_k0) rfl rfl (fun r108 H_r108 O_r108 q_r108 => ?_)
      refine yG.load xik rfl (fun _ _ => rfl) (v := yI (0)) rfl rfl ?_
      refine yG.load xik rfl (fun _ _ => rfl) (v := yI (p2)) rfl rfl ?_
      refine yG.invV (rest := []) A_hp.1 (bOb (d_Net W) H_r108) rfl rfl rfl rfl (c_Net_has_0 W (d + 2) A_hp.1 H_r108 (p2) (by omega) (by omega)) (fun rv hp9 q9 => ?_)
      obtain ⟨⟨z109, rfl, l_z109, u_z109, R_z109⟩, e9⟩ := q9
      rw [e9]
      show yG _ _ _ _ _ _ _ _ _ _ (yI z109 :: []) _
      refine yG.ifz rfl (t := 22) rfl ⟨by omega, by omega⟩ (fun c110 => ?_) (fun c110 => ?_)
      · have c110 : (z109 : Int) ≠ 0 := c110
        refine yG.load xak rfl (fun _ _ => rfl) (v := yR k0) rfl rfl ?_
        refine yG.getS9 A_hp.1 (w_G_net W H_k0) q_r108 rfl rfl ?_
        refine yG.load xik rfl (fun _ _ => rfl) (v := yI (0)) rfl rfl ?_
        refine yG.load xik rfl (fun _ _ => rfl) (v := yI (p2)) rfl rfl ?_
        refine yG.load xik rfl (fun _ _ => rfl) (v := yI (3)) rfl rfl ?_
        refine yG.load xik rfl (fun _ _ => rfl) (v := yI (p4)) rfl rfl ?_
        refine yG.invV (rest := []) A_hp.1 (bOb (d_Net W) H_r108) rfl rfl rfl rfl (c_Net_allows_0_3 W (d + 2) A_hp.1 H_r108 (p2) (p4) (by omega) (by omega) (by omega) (by omega)) (fun rv hp9 q9 => ?_)
        obtain ⟨⟨z111, rfl, l_z111, u_z111, R_z111⟩, e9⟩ := q9
        rw [e9]
        show yG _ _ _ _ _ _ _ _ _ _ (yI z111 :: []) _
        refine yG.ifz rfl (t := 47) rfl ⟨by omega, by omega⟩ (fun c112 => ?_) (fun c112 => ?_)
        · have c112 : (z111 : Int) ≠ 0 := c112
          exfalso; omega
        · have c112 : (z111 : Int) = 0 := c112
          exact yG.newT (P := bP _ _ _) rfl rfl (bP.thr rfl ⟨by decide, hp, A_hp, rfl⟩)
      · have c110 : (z109 : Int) = 0 := c110
        exact yG.newT (P := bP _ _ _) rfl rfl (bP.thr rfl ⟨by decide, hp, A_hp, rfl⟩)
    · subst c82
      refine yG.load xak rfl (fun _ _ => rfl) (v := yR k0) rfl rfl ?_
      refine yG.getO A_hp.1 (w_G_net W H_k0) rfl rfl (fun r113 H_r113 O_r113 q_r113 => ?_)
      refine yG.load xik rfl (fun _ _ => rfl) (v := yI (0)) rfl rfl ?_
      refine yG.load xik rfl (fun _ _ => rfl) (v := yI (p2)) rfl rfl ?_
      refine yG.invV (rest := []) A_hp.1 (bOb (d_Net W) H_r113) rfl rfl rfl rfl (c_Net_has_0 W (d + 2) A_hp.1 H_r113 (p2) (by omega) (by omega)) (fun rv hp9 q9 => ?_)
      obtain ⟨⟨z114, rfl, l_z114, u_z114, R_z114⟩, e9⟩ := q9
      rw [e9]
      show yG _ _ _ _ _ _ _ _ _ _ (yI z114 :: []) _
      refine yG.ifz rfl (t := 22) rfl ⟨by omega, by omega⟩ (fun c115 => ?_) (fun c115 => ?_)
      · have c115 : (z114 : Int) ≠ 0 := c115
        refine yG.load xak rfl (fun _ _ => rfl) (v := yR k0) rfl rfl ?_
        refine yG.getS9 A_hp.1 (w_G_net W H_k0) q_r113 rfl rfl ?_
        refine yG.load xik rfl (fun _ _ => rfl) (v := yI (0)) rfl rfl ?_
        refine yG.load xik rfl (fun _ _ => rfl) (v := yI (p2)) rfl rfl ?_
        refine yG.load xik rfl (fun _ _ => rfl) (v := yI (4)) rfl rfl ?_
        refine yG.load xik rfl (fun _ _ => rfl) (v := yI (p4)) rfl rfl ?_
        refine yG.invV (rest := []) A_hp.1 (bOb (d_Net W) H_r113) rfl rfl rfl rfl (c_Net_allows_0_4 W (d + 2) A_hp.1 H_r113 (p2) (p4) (by omega) (by omega) (by omega) (by omega)) (fun rv hp9 q9 => ?_)
        obtain ⟨⟨z116, rfl, l_z116, u_z116, R_z116⟩, e9⟩ := q9
        rw [e9]
        show yG _ _ _ _ _ _ _ _ _ _ (yI z116 :: []) _
        refine yG.ifz rfl (t := 47) rfl ⟨by omega, by omega⟩ (fun c117 => ?_) (fun c117 => ?_)
        · have c117 : (z116 : Int) ≠ 0 := c117
          exfalso; omega
        · have c117 : (z116 : Int) = 0 := c117
          exact yG.newT (P := bP _ _ _) rfl rfl (bP.thr rfl ⟨by decide, hp, A_hp, rfl⟩)
      · have c115 : (z114 : Int) = 0 := c115
        exact yG.newT (P := bP _ _ _) rfl rfl (bP.thr rfl ⟨by decide, hp, A_hp, rfl⟩)
    · subst c82
      refine yG.load xak rfl (fun _ _ => rfl) (v := yR k0) rfl rfl ?_
      refine yG.getO A_hp.1 (w_G_net W H_k0) rfl rfl (fun r118 H_r118 O_r118 q_r118 => ?_)
      refine yG.load xik rfl (fun _ _ => rfl) (v := yI (0)) rfl rfl ?_
      refine yG.load xik rfl (fun _ _ => rfl) (v := yI (p2)) rfl rfl ?_
      refine yG.invV (rest := []) A_hp.1 (bOb (d_Net W) H_r118) rfl rfl rfl rfl (c_Net_has_0 W (d + 2) A_hp.1 H_r118 (p2) (by omega) (by omega)) (fun rv hp9 q9 => ?_)
      obtain ⟨⟨z119, rfl, l_z119, u_z119, R_z119⟩, e9⟩ := q9
      rw [e9]
      show yG _ _ _ _ _ _ _ _ _ _ (yI z119 :: []) _
      refine yG.ifz rfl (t := 22) rfl ⟨by omega, by omega⟩ (fun c120 => ?_) (fun c120 => ?_)
      · have c120 : (z119 : Int) ≠ 0 := c120
        refine yG.load xak rfl (fun _ _ => rfl) (v := yR k0) rfl rfl ?_
        refine yG.getS9 A_hp.1 (w_G_net W H_k0) q_r118 rfl rfl ?_
        refine yG.load xik rfl (fun _ _ => rfl) (v := yI (0)) rfl rfl ?_
        refine yG.load xik rfl (fun _ _ => rfl) (v := yI (p2)) rfl rfl ?_
        refine yG.load xik rfl (fun _ _ => rfl) (v := yI (5)) rfl rfl ?_
        refine yG.load xik rfl (fun _ _ => rfl) (v := yI (p4)) rfl rfl ?_
        refine yG.invV (rest := []) A_hp.1 (bOb (d_Net W) H_r118) rfl rfl rfl rfl (c_Net_allows_0_5 W (d + 2) A_hp.1 H_r118 (p2) (p4) (by omega) (by omega) (by omega) (by omega)) (fun rv hp9 q9 => ?_)
        obtain ⟨⟨z121, rfl, l_z121, u_z121, R_z121⟩, e9⟩ := q9
        rw [e9]
        show yG _ _ _ _ _ _ _ _ _ _ (yI z121 :: []) _
        refine yG.ifz rfl (t := 47) rfl ⟨by omega, by omega⟩ (fun c122 => ?_) (fun c122 => ?_)
        · have c122 : (z121 : Int) ≠ 0 := c122
          exfalso; omega
        · have c122 : (z121 : Int) = 0 := c122
          exact yG.newT (P := bP _ _ _) rfl rfl (bP.thr rfl ⟨by decide, hp, A_hp, rfl⟩)
      · have c120 : (z119 : Int) = 0 := c120
        exact yG.newT (P := bP _ _ _) rfl rfl (bP.thr rfl ⟨by decide, hp, A_hp, rfl⟩)
    · subst c82
      refine yG.load xak rfl (fun _ _ => rfl) (v := yR k0) rfl rfl ?_
      refine yG.getO A_hp.1 (w_G_net W H_k0) rfl rfl (fun r123 H_r123 O_r123 q_r123 => ?_)
      refine yG.load xik rfl (fun _ _ => rfl) (v := yI (0)) rfl rfl ?_
      refine yG.load xik rfl (fun _ _ => rfl) (v := yI (p2)) rfl rfl ?_
      refine yG.invV (rest := []) A_hp.1 (bOb (d_Net W) H_r123) rfl rfl rfl rfl (c_Net_has_0 W (d + 2) A_hp.1 H_r123 (p2) (by omega) (by omega)) (fun rv hp9 q9 => ?_)
      obtain ⟨⟨z124, rfl, l_z124, u_z124, R_z124⟩, e9⟩ := q9
      rw [e9]
      show yG _ _ _ _ _ _ _ _ _ _ (yI z124 :: []) _
      refine yG.ifz rfl (t := 22) rfl ⟨by omega, by omega⟩ (fun c125 => ?_) (fun c125 => ?_)
      · have c125 : (z124 : Int) ≠ 0 := c125
        refine yG.load xak rfl (fun _ _ => rfl) (v := yR k0) rfl rfl ?_
        refine yG.getS9 A_hp.1 (w_G_net W H_k0) q_r123 rfl rfl ?_
        refine yG.load xik rfl (fun _ _ => rfl) (v := yI (0)) rfl rfl ?_
        refine yG.load xik rfl (fun _ _ => rfl) (v := yI (p2)) rfl rfl ?_
        refine yG.load xik rfl (fun _ _ => rfl) (v := yI (6)) rfl rfl ?_
        refine yG.load xik rfl (fun _ _ => rfl) (v := yI (p4)) rfl rfl ?_
        refine yG.invV (rest := []) A_hp.1 (bOb (d_Net W) H_r123) rfl rfl rfl rfl (c_Net_allows_0_6 W (d + 2) A_hp.1 H_r123 (p2) (p4) (by omega) (by omega) (by omega) (by omega)) (fun rv hp9 q9 => ?_)
        obtain ⟨⟨z126, rfl, l_z126, u_z126, R_z126⟩, e9⟩ := q9
        rw [e9]
        show yG _ _ _ _ _ _ _ _ _ _ (yI z126 :: []) _
        refine yG.ifz rfl (t := 47) rfl ⟨by omega, by omega⟩ (fun c127 => ?_) (fun c127 => ?_)
        · have c127 : (z126 : Int) ≠ 0 := c127
          exfalso; omega
        · have c127 : (z126 : Int) = 0 := c127
          exact yG.newT (P := bP _ _ _) rfl rfl (bP.thr rfl ⟨by decide, hp, A_hp, rfl⟩)
      · have c125 : (z124 : Int) = 0 := c125
        exact yG.newT (P := bP _ _ _) rfl rfl (bP.thr rfl ⟨by decide, hp, A_hp, rfl⟩)
    · subst c82
      refine yG.load xak rfl (fun _ _ => rfl) (v := yR k0) rfl rfl ?_
      refine yG.getO A_hp.1 (w_G_net W H_k0) rfl rfl (fun r128 H_r128 O_r128 q_r128 => ?_)
      refine yG.load xik rfl (fun _ _ => rfl) (v := yI (0)) rfl rfl ?_
      refine yG.load xik rfl (fun _ _ => rfl) (v := yI (p2)) rfl rfl ?_
      refine yG.invV (rest := []) A_hp.1 (bOb (d_Net W) H_r128) rfl rfl rfl rfl (c_Net_has_0 W (d + 2) A_hp.1 H_r128 (p2) (by omega) (by omega)) (fun rv hp9 q9 => ?_)
      obtain ⟨⟨z129, rfl, l_z129, u_z129, R_z129⟩, e9⟩ := q9
      rw [e9]
      show yG _ _ _ _ _ _ _ _ _ _ (yI z129 :: []) _
      refine yG.ifz rfl (t := 22) rfl ⟨by omega, by omega⟩ (fun c130 => ?_) (fun c130 => ?_)
      · have c130 : (z129 : Int) ≠ 0 := c130
        refine yG.load xak rfl (fun _ _ => rfl) (v := yR k0) rfl rfl ?_
        refine yG.getS9 A_hp.1 (w_G_net W H_k0) q_r128 rfl rfl ?_
        refine yG.load xik rfl (fun _ _ => rfl) (v := yI (0)) rfl rfl ?_
        refine yG.load xik rfl (fun _ _ => rfl) (v := yI (p2)) rfl rfl ?_
        refine yG.load xik rfl (fun _ _ => rfl) (v := yI (7)) rfl rfl ?_
        refine yG.load xik rfl (fun _ _ => rfl) (v := yI (p4)) rfl rfl ?_
        refine yG.invV (rest := []) A_hp.1 (bOb (d_Net W) H_r128) rfl rfl rfl rfl (c_Net_allows_0_7 W (d + 2) A_hp.1 H_r128 (p2) (p4) (by omega) (by omega) (by omega) (by omega)) (fun rv hp9 q9 => ?_)
        obtain ⟨⟨z131, rfl, l_z131, u_z131, R_z131⟩, e9⟩ := q9
        rw [e9]
        show yG _ _ _ _ _ _ _ _ _ _ (yI z131 :: []) _
        refine yG.ifz rfl (t := 47) rfl ⟨by omega, by omega⟩ (fun c132 => ?_) (fun c132 => ?_)
        · have c132 : (z131 : Int) ≠ 0 := c132
          exfalso; omega
        · have c132 : (z131 : Int) = 0 := c132
          exact yG.newT (P := bP _ _ _) rfl rfl (bP.thr rfl ⟨by decide, hp, A_hp, rfl⟩)
      · have c130 : (z129 : Int) = 0 := c130
        exact yG.newT (P := bP _ _ _) rfl rfl (bP.thr rfl ⟨by decide, hp, A_hp, rfl⟩)
    · subst c82
      refine yG.load xak rfl (fun _ _ => rfl) (v := yR k0) rfl rfl ?_
      refine yG.getO A_hp.1 (w_G_net W H_k0) rfl rfl (fun r133 H_r133 O_r133 q_r133 => ?_)
      refine yG.load xik rfl (fun _ _ => rfl) (v := yI (0)) rfl rfl ?_
      refine yG.load xik rfl (fun _ _ => rfl) (v := yI (p2)) rfl rfl ?_
      refine yG.invV (rest := []) A_hp.1 (bOb (d_Net W) H_r133) rfl rfl rfl rfl (c_Net_has_0 W (d + 2) A_hp.1 H_r133 (p2) (by omega) (by omega)) (fun rv hp9 q9 => ?_)
      obtain ⟨⟨z134, rfl, l_z134, u_z134, R_z134⟩, e9⟩ := q9
      rw [e9]
      show yG _ _ _ _ _ _ _ _ _ _ (yI z134 :: []) _
      refine yG.ifz rfl (t := 22) rfl ⟨by omega, by omega⟩ (fun c135 => ?_) (fun c135 => ?_)
      · have c135 : (z134 : Int) ≠ 0 := c135
        refine yG.load xak rfl (fun _ _ => rfl) (v := yR k0) rfl rfl ?_
        refine yG.getS9 A_hp.1 (w_G_net W H_k0) q_r133 rfl rfl ?_
        refine yG.load xik rfl (fun _ _ => rfl) (v := yI (0)) rfl rfl ?_
        refine yG.load xik rfl (fun _ _ => rfl) (v := yI (p2)) rfl rfl ?_
        refine yG.load xik rfl (fun _ _ => rfl) (v := yI (8)) rfl rfl ?_
        refine yG.load xik rfl (fun _ _ => rfl) (v := yI (p4)) rfl rfl ?_
        refine yG.invV (rest := []) A_hp.1 (bOb (d_Net W) H_r133) rfl rfl rfl rfl (c_Net_allows_0_8 W (d + 2) A_hp.1 H_r133 (p2) (p4) (by omega) (by omega) (by omega) (by omega)) (fun rv hp9 q9 => ?_)
        obtain ⟨⟨z136, rfl, l_z136, u_z136, R_z136⟩, e9⟩ := q9
        rw [e9]
        show yG _ _ _ _ _ _ _ _ _ _ (yI z136 :: []) _
        refine yG.ifz rfl (t := 47) rfl ⟨by omega, by omega⟩ (fun c137 => ?_) (fun c137 => ?_)
        · have c137 : (z136 : Int) ≠ 0 := c137
          exfalso; omega
        · have c137 : (z136 : Int) = 0 := c137
          exact yG.newT (P := bP _ _ _) rfl rfl (bP.thr rfl ⟨by decide, hp, A_hp, rfl⟩)
      · have c135 : (z134 : Int) = 0 := c135
        exact yG.newT (P := bP _ _ _) rfl rfl (bP.thr rfl ⟨by decide, hp, A_hp, rfl⟩)
    · subst c82
      refine yG.load xak rfl (fun _ _ => rfl) (v := yR k0) rfl rfl ?_
      refine yG.getO A_hp.1 (w_G_net W H_k0) rfl rfl (fun r138 H_r138 O_r138 q_r138 => ?_)
      refine yG.load xik rfl (fun _ _ => rfl) (v := yI (0)) rfl rfl ?_
      refine yG.load xik rfl (fun _ _ => rfl) (v := yI (p2)) rfl rfl ?_
      refine yG.invV (rest := []) A_hp.1 (bOb (d_Net W) H_r138) rfl rfl rfl rfl (c_Net_has_0 W (d + 2) A_hp.1 H_r138 (p2) (by omega) (by omega)) (fun rv hp9 q9 => ?_)
      obtain ⟨⟨z139, rfl, l_z139, u_z139, R_z139⟩, e9⟩ := q9
      rw [e9]
      show yG _ _ _ _ _ _ _ _ _ _ (yI z139 :: []) _
      refine yG.ifz rfl (t := 22) rfl ⟨by omega, by omega⟩ (fun c140 => ?_) (fun c140 => ?_)
      · have c140 : (z139 : Int) ≠ 0 := c140
        refine yG.load xak rfl (fun _ _ => rfl) (v := yR k0) rfl rfl ?_
        refine yG.getS9 A_hp.1 (w_G_net W H_k0) q_r138 rfl rfl ?_
        refine yG.load xik rfl (fun _ _ => rfl) (v := yI (0)) rfl rfl ?_
        refine yG.load xik rfl (fun _ _ => rfl) (v := yI (p2)) rfl rfl ?_
        refine yG.load xik rfl (fun _ _ => rfl) (v := yI (9)) rfl rfl ?_
        refine yG.load xik rfl (fun _ _ => rfl) (v := yI (p4)) rfl rfl ?_
        refine yG.invV (rest := []) A_hp.1 (bOb (d_Net W) H_r138) rfl rfl rfl rfl (c_Net_allows_0_9 W (d + 2) A_hp.1 H_r138 (p2) (p4) (by omega) (by omega) (by omega) (by omega)) (fun rv hp9 q9 => ?_)
        obtain ⟨⟨z141, rfl, l_z141, u_z141, R_z141⟩, e9⟩ := q9
        rw [e9]
        show yG _ _ _ _ _ _ _ _ _ _ (yI z141 :: []) _
        refine yG.ifz rfl (t := 47) rfl ⟨by omega, by omega⟩ (fun c142 => ?_) (fun c142 => ?_)
        · have c142 : (z141 : Int) ≠ 0 := c142
          exfalso; omega
        · have c142 : (z141 : Int) = 0 := c142
          exact yG.newT (P := bP _ _ _) rfl rfl (bP.thr rfl ⟨by decide, hp, A_hp, rfl⟩)
      · have c140 : (z139 : Int) = 0 := c140
        exact yG.newT (P := bP _ _ _) rfl rfl (bP.thr rfl ⟨by decide, hp, A_hp, rfl⟩)
    · subst c82
      refine yG.load xak rfl (fun _ _ => rfl) (v := yR k0) rfl rfl ?_
      refine yG.getO A_hp.1 (w_G_net W H_k0) rfl rfl (fun r143 H_r143 O_r143 q_r143 => ?_)
      refine yG.load xik rfl (fun _ _ => rfl) (v := yI (0)) rfl rfl ?_
      refine yG.load xik rfl (fun _ _ => rfl) (v := yI (p2)) rfl rfl ?_
      refine yG.invV (rest := []) A_hp.1 (bOb (d_Net W) H_r143) rfl rfl rfl rfl (c_Net_has_0 W (d + 2) A_hp.1 H_r143 (p2) (by omega) (by omega)) (fun rv hp9 q9 => ?_)
      obtain ⟨⟨z144, rfl, l_z144, u_z144, R_z144⟩, e9⟩ := q9
      rw [e9]
      show yG _ _ _ _ _ _ _ _ _ _ (yI z144 :: []) _
      refine yG.ifz rfl (t := 22) rfl ⟨by omega, by omega⟩ (fun c145 => ?_) (fun c145 => ?_)
      · have c145 : (z144 : Int) ≠ 0 := c145
        refine yG.load xak rfl (fun _ _ => rfl) (v := yR k0) rfl rfl ?_
        refine yG.getS9 A_hp.1 (w_G_net W H_k0) q_r143 rfl rfl ?_
        refine yG.load xik rfl (fun _ _ => rfl) (v := yI (0)) rfl rfl ?_
        refine yG.load xik rfl (fun _ _ => rfl) (v := yI (p2)) rfl rfl ?_
        refine yG.load xik rfl (fun _ _ => rfl) (v := yI (10)) rfl rfl ?_
        refine yG.load xik rfl (fun _ _ => rfl) (v := yI (p4)) rfl rfl ?_
        refine yG.invV (rest := []) A_hp.1 (bOb (d_Net W) H_r143) rfl rfl rfl rfl (c_Net_allows_0_10 W (d + 2) A_hp.1 H_r143 (p2) (p4) (by omega) (by omega) (by omega) (by omega)) (fun rv hp9 q9 => ?_)
        obtain ⟨⟨z146, rfl, l_z146, u_z146, R_z146⟩, e9⟩ := q9
        rw [e9]
        show yG _ _ _ _ _ _ _ _ _ _ (yI z146 :: []) _
        refine yG.ifz rfl (t := 47) rfl ⟨by omega, by omega⟩ (fun c147 => ?_) (fun c147 => ?_)
        · have c147 : (z146 : Int) ≠ 0 := c147
          exfalso; omega
        · have c147 : (z146 : Int) = 0 := c147
          exact yG.newT (P := bP _ _ _) rfl rfl (bP.thr rfl ⟨by decide, hp, A_hp, rfl⟩)
      · have c145 : (z144 : Int) = 0 := c145
        exact yG.newT (P := bP _ _ _) rfl rfl (bP.thr rfl ⟨by decide, hp, A_hp, rfl⟩)
  · subst c1
    rcases (show p3 ≤ (-1) ∨ p3 ≥ 11 ∨ p3 = 0 ∨ p3 = 1 ∨ p3 = 2 ∨ p3 = 3 ∨ p3 = 4 ∨ p3 = 5 ∨ p3 = 6 ∨ p3 = 7 ∨ p3 = 8 ∨ p3 = 9 ∨ p3 = 10 by omega) with c148 | c148 | c148 | c148 | c148 | c148 | c148 | c148 | c148 | c148 | c148 | c148 | c148
    · skip
      refine yG.load xak rfl (fun _ _ => rfl) (v := yR k0) rfl rfl ?_
      refine yG.getO A_hp.1 (w_G_net W H_k0) rfl rfl (fun r149 H_r149 O_r149 q_r149 => ?_)
      refine yG.load xik rfl (fun _ _ => rfl) (v := yI (1)) rfl rfl ?_
      refine yG.load xik rfl (fun _ _ => rfl) (v := yI (p2)) rfl rfl ?_
      refine yG.invV (rest := []) A_hp.1 (bOb (d_Net W) H_r149) rfl rfl rfl rfl (c_Net_has_1 W (d + 2) A_hp.1 H_r149 (p2) (by omega) (by omega)) (fun rv hp9 q9 => ?_)
      obtain ⟨⟨z150, rfl, l_z150, u_z150, R_z150⟩, e9⟩ := q9
      rw [e9]
      show yG _ _ _ _ _ _ _ _ _ _ (yI z150 :: []) _
      refine yG.ifz rfl (t := 22) rfl ⟨by omega, by omega⟩ (fun c151 => ?_) (fun c151 => ?_)
      · have c151 : (z150 : Int) ≠ 0 := c151
        refine yG.load xak rfl (fun _ _ => rfl) (v := yR k0) rfl rfl ?_
        refine yG.getS9 A_hp.1 (w_G_net W H_k0) q_r149 rfl rfl ?_
        refine yG.load xik rfl (fun _ _ => rfl) (v := yI (1)) rfl rfl ?_
        refine yG.load xik rfl (fun _ _ => rfl) (v := yI (p2)) rfl rfl ?_
        refine yG.load xik rfl (fun _ _ => rfl) (v := yI (p3)) rfl rfl ?_
        refine yG.load xik rfl (fun _ _ => rfl) (v := yI (p4)) rfl rfl ?_
        refine yG.invV (rest := []) A_hp.1 (bOb (d_Net W) H_r149) rfl rfl rfl rfl (c_Net_allows_1_l W (d + 2) A_hp.1 H_r149 (p2) (p3) (p4) (by omega) (by omega) (by omega) (by omega) (by omega) (by omega)) (fun rv hp9 q9 => ?_)
        obtain ⟨⟨z152, rfl, l_z152, u_z152, R_z152⟩, e9⟩ := q9
        rw [e9]
        show yG _ _ _ _ _ _ _ _ _ _ (yI z152 :: []) _
        refine yG.ifz rfl (t := 47) rfl ⟨by omega, by omega⟩ (fun c153 => ?_) (fun c153 => ?_)
        · have c153 : (z152 : Int) ≠ 0 := c153
          exfalso; omega
        · have c153 : (z152 : Int) = 0 := c153
          exact yG.newT (P := bP _ _ _) rfl rfl (bP.thr rfl ⟨by decide, hp, A_hp, rfl⟩)
      · have c151 : (z150 : Int) = 0 := c151
        exact yG.newT (P := bP _ _ _) rfl rfl (bP.thr rfl ⟨by decide, hp, A_hp, rfl⟩)
    · skip
      refine yG.load xak rfl (fun _ _ => rfl) (v := yR k0) rfl rfl ?_
      refine yG.getO A_hp.1 (w_G_net W H_k0) rfl rfl (fun r154 H_r154 O_r154 q_r154 => ?_)
      refine yG.load xik rfl (fun _ _ => rfl) (v := yI (1)) rfl rfl ?_
      refine yG.load xik rfl (fun _ _ => rfl) (v := yI (p2)) rfl rfl ?_
      refine yG.invV (rest := []) A_hp.1 (bOb (d_Net W) H_r154) rfl rfl rfl rfl (c_Net_has_1 W (d + 2) A_hp.1 H_r154 (p2) (by omega) (by omega)) (fun rv hp9 q9 => ?_)
      obtain ⟨⟨z155, rfl, l_z155, u_z155, R_z155⟩, e9⟩ := q9
      rw [e9]
      show yG _ _ _ _ _ _ _ _ _ _ (yI z155 :: []) _
      refine yG.ifz rfl (t := 22) rfl ⟨by omega, by omega⟩ (fun c156 => ?_) (fun c156 => ?_)
      · have c156 : (z155 : Int) ≠ 0 := c156
        refine yG.load xak rfl (fun _ _ => rfl) (v := yR k0) rfl rfl ?_
        refine yG.getS9 A_hp.1 (w_G_net W H_k0) q_r154 rfl rfl ?_
        refine yG.load xik rfl (fun _ _ => rfl) (v := yI (1)) rfl rfl ?_
        refine yG.load xik rfl (fun _ _ => rfl) (v := yI (p2)) rfl rfl ?_
        refine yG.load xik rfl (fun _ _ => rfl) (v := yI (p3)) rfl rfl ?_
        refine yG.load xik rfl (fun _ _ => rfl) (v := yI (p4)) rfl rfl ?_
        refine yG.invV (rest := []) A_hp.1 (bOb (d_Net W) H_r154) rfl rfl rfl rfl (c_Net_allows_1_h W (d + 2) A_hp.1 H_r154 (p2) (p3) (p4) (by omega) (by omega) (by omega) (by omega) (by omega) (by omega)) (fun rv hp9 q9 => ?_)
        obtain ⟨⟨z157, rfl, l_z157, u_z157, R_z157⟩, e9⟩ := q9
        rw [e9]
        show yG _ _ _ _ _ _ _ _ _ _ (yI z157 :: []) _
        refine yG.ifz rfl (t := 47) rfl ⟨by omega, by omega⟩ (fun c158 => ?_) (fun c158 => ?_)
        · have c158 : (z157 : Int) ≠ 0 := c158
          exfalso; omega
        · have c158 : (z157 : Int) = 0 := c158
          exact yG.newT (P := bP _ _ _) rfl rfl (bP.thr rfl ⟨by decide, hp, A_hp, rfl⟩)
      · have c156 : (z155 : Int) = 0 := c156
        exact yG.newT (P := bP _ _ _) rfl rfl (bP.thr rfl ⟨by decide, hp, A_hp, rfl⟩)
    · subst c148
      refine yG.load xak rfl (fun _ _ => rfl) (v := yR k0) rfl rfl ?_
      refine yG.getO A_hp.1 (w_G_net W H_k0) rfl rfl (fun r159 H_r159 O_r159 q_r159 => ?_)
      refine yG.load xik rfl (fun _ _ => rfl) (v := yI (1)) rfl rfl ?_
      refine yG.load xik rfl (fun _ _ => rfl) (v := yI (p2)) rfl rfl ?_
      refine yG.invV (rest := []) A_hp.1 (bOb (d_Net W) H_r159) rfl rfl rfl rfl (c_Net_has_1 W (d + 2) A_hp.1 H_r159 (p2) (by omega) (by omega)) (fun rv hp9 q9 => ?_)
      obtain ⟨⟨z160, rfl, l_z160, u_z160, R_z160⟩, e9⟩ := q9
      rw [e9]
      show yG _ _ _ _ _ _ _ _ _ _ (yI z160 :: []) _
      refine yG.ifz rfl (t := 22) rfl ⟨by omega, by omega⟩ (fun c161 => ?_) (fun c161 => ?_)
      · have c161 : (z160 : Int) ≠ 0 := c161
        refine yG.load xak rfl (fun _ _ => rfl) (v := yR k0) rfl rfl ?_
        refine yG.getS9 A_hp.1 (w_G_net W H_k0) q_r159 rfl rfl ?_
        refine yG.load xik rfl (fun _ _ => rfl) (v := yI (1)) rfl rfl ?_
        refine yG.load xik rfl (fun _ _ => rfl) (v := yI (p2)) rfl rfl ?_
        refine yG.load xik rfl (fun _ _ => rfl) (v := yI (0)) rfl rfl ?_
        refine yG.load xik rfl (fun _ _ => rfl) (v := yI (p4)) rfl rfl ?_
        refine yG.invV (rest := []) A_hp.1 (bOb (d_Net W) H_r159) rfl rfl rfl rfl (c_Net_allows_1_0 W (d + 1) A_hp.1 H_r159 (p2) (p4) (by omega) (by omega) (by omega) (by omega)) (fun rv hp9 q9 => ?_)
        obtain ⟨⟨z162, rfl, l_z162, u_z162, R_z162⟩, e9⟩ := q9
        rw [e9]
        show yG _ _ _ _ _ _ _ _ _ _ (yI z162 :: []) _
        refine yG.ifz rfl (t := 47) rfl ⟨by omega, by omega⟩ (fun c163 => ?_) (fun c163 => ?_)
        · have c163 : (z162 : Int) ≠ 0 := c163
          refine yG.load xak rfl (fun _ _ => rfl) (v := yR k0) rfl rfl ?_
          refine yG.getS9 A_hp.1 (w_G_net W H_k0) q_r159 rfl rfl ?_
          refine yG.load xik rfl (fun _ _ => rfl) (v := yI (1)) rfl rfl ?_
          refine yG.load xik rfl (fun _ _ => rfl) (v := yI (p2)) rfl rfl ?_
          refine yG.load xik rfl (fun _ _ => rfl) (v := yI (0)) rfl rfl ?_
          refine yG.invV (rest := []) A_hp.1 (bOb (d_Net W) H_r159) rfl rfl rfl rfl (c_Net_at_1_0 W (d + 2) A_hp.1 H_r159 (p2) (by omega) (by omega)) (fun rv hp9 q9 => ?_)
          obtain ⟨⟨z164, rfl, l_z164, u_z164, R_z164⟩, e9⟩ := q9
          rw [e9]
          show yG _ _ _ _ _ _ _ _ _ _ (yI z164 :: []) _
          refine yG.store1 xik (L' := [(5, yI (z164)), (0, yR k0), (1, yI (1)), (2, yI (p2)), (3, yI (0)), (4, yI (p4))]) rfl (fun _ _ => rfl) rfl rfl ?_
          refine yG.load xak rfl (fun _ _ => rfl) (v := yR k0) rfl rfl ?_
          refine yG.getS9 A_hp.1 (w_G_net W H_k0) q_r159 rfl rfl ?_
          refine yG.load xik rfl (fun _ _ => rfl) (v := yI (1)) rfl rfl ?_
          refine yG.load xik rfl (fun _ _ => rfl) (v := yI (p2)) rfl rfl ?_
          refine yG.load xik rfl (fun _ _ => rfl) (v := yI (0)) rfl rfl ?_
          refine yG.load xik rfl (fun _ _ => rfl) (v := yI (p4)) rfl rfl ?_
          refine yG.invV (rest := []) A_hp.1 (bOb (d_Net W) H_r159) rfl rfl rfl rfl (c_Net_put_1_0 W (d + 2) A_hp.1 H_r159 (p2) (p4) (by omega) (by omega) (by omega) (by omega)) (fun rv h165 q9 => ?_)
          obtain ⟨⟨rfl, R_z166⟩, B_h165⟩ := q9
          have A_h165 := A_hp.tr B_h165 (by decide)
          have qq1 : zsl h165 k0 1 = yR r159 := (B_h165.sl H_k0 (by decide)).trans q_r159
          show yG _ _ _ _ _ _ _ _ _ _ [] _
          refine yG.load xak rfl (fun _ _ => rfl) (v := yR k0) rfl rfl ?_
          refine yG.invV (rest := []) A_h165.1 (bOb (d_G W) H_k0) rfl rfl rfl rfl (c_G_changed W (d + 2) A_h165.1 H_k0) (fun rv h167 q9 => ?_)
          obtain ⟨⟨rfl, R_z168⟩, B_h167⟩ := q9
          have A_h167 := A_h165.tr B_h167 (by decide)
          have qq2 : zsl h167 k0 1 = yR r159 := (B_h167.sl H_k0 (by decide)).trans qq1
          show yG _ _ _ _ _ _ _ _ _ _ [] _
          refine yG.load xik rfl (fun _ _ => rfl) (v := yI (z164)) rfl rfl ?_
          refine yG.ret rfl (fun _ _ => rfl) ?_
          exact .inl (yP.int ⟨by omega, by omega⟩ ⟨⟨z164, rfl, by omega, by omega, by omega⟩, A_h167⟩)
        · have c163 : (z162 : Int) = 0 := c163
          exact yG.newT (P := bP _ _ _) rfl rfl (bP.thr rfl ⟨by decide, hp, A_hp, rfl⟩)
      · have c161 : (z160 : Int) = 0 := c161
        exact yG.newT (P := bP _ _ _) rfl rfl (bP.thr rfl ⟨by decide, hp, A_hp, rfl⟩)
    · subst c148
      refine yG.load xak rfl (fun _ _ => rfl) (v := yR k0) rfl rfl ?_
      refine yG.getO A_hp.1 (w_G_net W H_k0) rfl rfl (fun r169 H_r169 O_r169 q_r169 => ?_)
      refine yG.load xik rfl (fun _ _ => rfl) (v := yI (1)) rfl rfl ?_
      refine yG.load xik rfl (fun _ _ => rfl) (v := yI (p2)) rfl rfl ?_
      refine yG.invV (rest := []) A_hp.1 (bOb (d_Net W) H_r169) rfl rfl rfl rfl (c_Net_has_1 W (d + 2) A_hp.1 H_r169 (p2) (by omega) (by omega)) (fun rv hp9 q9 => ?_)
      obtain ⟨⟨z170, rfl, l_z170, u_z170, R_z170⟩, e9⟩ := q9
      rw [e9]
      show yG _ _ _ _ _ _ _ _ _ _ (yI z170 :: []) _
      refine yG.ifz rfl (t := 22) rfl ⟨by omega, by omega⟩ (fun c171 => ?_) (fun c171 => ?_)
      · have c171 : (z170 : Int) ≠ 0 := c171
        refine yG.load xak rfl (fun _ _ => rfl) (v := yR k0) rfl rfl ?_
        refine yG.getS9 A_hp.1 (w_G_net W H_k0) q_r169 rfl rfl ?_
        refine yG.load xik rfl (fun _ _ => rfl) (v := yI (1)) rfl rfl ?_
        refine yG.load xik rfl (fun _ _ => rfl) (v := yI (p2)) rfl rfl ?_
        refine yG.load xik rfl (fun _ _ => rfl) (v := yI (1)) rfl rfl ?_
        refine yG.load xik rfl (fun _ _ => rfl) (v := yI (p4)) rfl rfl ?_
        refine yG.invV (rest := []) A_hp.1 (bOb (d_Net W) H_r169) rfl rfl rfl rfl (c_Net_allows_1_1 W (d + 1) A_hp.1 H_r169 (p2) (p4) (by omega) (by omega) (by omega) (by omega)) (fun rv hp9 q9 => ?_)
        obtain ⟨⟨z172, rfl, l_z172, u_z172, R_z172⟩, e9⟩ := q9
        rw [e9]
        show yG _ _ _ _ _ _ _ _ _ _ (yI z172 :: []) _
        refine yG.ifz rfl (t := 47) rfl ⟨by omega, by omega⟩ (fun c173 => ?_) (fun c173 => ?_)
        · have c173 : (z172 : Int) ≠ 0 := c173
          refine yG.load xak rfl (fun _ _ => rfl) (v := yR k0) rfl rfl ?_
          refine yG.getS9 A_hp.1 (w_G_net W H_k0) q_r169 rfl rfl ?_
          refine yG.load xik rfl (fun _ _ => rfl) (v := yI (1)) rfl rfl ?_
          refine yG.load xik rfl (fun _ _ => rfl) (v := yI (p2)) rfl rfl ?_
          refine yG.load xik rfl (fun _ _ => rfl) (v := yI (1)) rfl rfl ?_
          refine yG.invV (rest := []) A_hp.1 (bOb (d_Net W) H_r169) rfl rfl rfl rfl (c_Net_at_1_1 W (d + 2) A_hp.1 H_r169 (p2) (by omega) (by omega)) (fun rv hp9 q9 => ?_)
          obtain ⟨⟨z174, rfl, l_z174, u_z174, R_z174⟩, e9⟩ := q9
          rw [e9]
          show yG _ _ _ _ _ _ _ _ _ _ (yI z174 :: []) _
          refine yG.store1 xik (L' := [(5, yI (z174)), (0, yR k0), (1, yI (1)), (2, yI (p2)), (3, yI (1)), (4, yI (p4))]) rfl (fun _ _ => rfl) rfl rfl ?_
          refine yG.load xak rfl (fun _ _ => rfl) (v := yR k0) rfl rfl ?_
          refine yG.getS9 A_hp.1 (w_G_net W H_k0) q_r169 rfl rfl ?_
          refine yG.load xik rfl (fun _ _ => rfl) (v := yI (1)) rfl rfl ?_
          refine yG.load xik rfl (fun _ _ => rfl) (v := yI (p2)) rfl rfl ?_
          refine yG.load xik rfl (fun _ _ => rfl) (v := yI (1)) rfl rfl ?_
          refine yG.load xik rfl (fun _ _ => rfl) (v := yI (p4)) rfl rfl ?_
          refine yG.invV (rest := []) A_hp.1 (bOb (d_Net W) H_r169) rfl rfl rfl rfl (c_Net_put_1_1 W (d + 2) A_hp.1 H_r169 (p2) (p4) (by omega) (by omega) (by omega) (by omega)) (fun rv h175 q9 => ?_)
          obtain ⟨⟨rfl, R_z176⟩, B_h175⟩ := q9
          have A_h175 := A_hp.tr B_h175 (by decide)
          have qq3 : zsl h175 k0 1 = yR r169 := (B_h175.sl H_k0 (by decide)).trans q_r169
          show yG _ _ _ _ _ _ _ _ _ _ [] _
          refine yG.load xak rfl (fun _ _ => rfl) (v := yR k0) rfl rfl ?_
          refine yG.invV (rest := []) A_h175.1 (bOb (d_G W) H_k0) rfl rfl rfl rfl (c_G_changed W (d + 2) A_h175.1 H_k0) (fun rv h177 q9 => ?_)
          obtain ⟨⟨rfl, R_z178⟩, B_h177⟩ := q9
          have A_h177 := A_h175.tr B_h177 (by decide)
          have qq4 : zsl h177 k0 1 = yR r169 := (B_h177.sl H_k0 (by decide)).trans qq3
          show yG _ _ _ _ _ _ _ _ _ _ [] _
          refine yG.load xik rfl (fun _ _ => rfl) (v := yI (z174)) rfl rfl ?_
          refine yG.ret rfl (fun _ _ => rfl) ?_
          exact .inl (yP.int ⟨by omega, by omega⟩ ⟨⟨z174, rfl, by omega, by omega, by omega⟩, A_h177⟩)
        · have c173 : (z172 : Int) = 0 := c173
          exact yG.newT (P := bP _ _ _) rfl rfl (bP.thr rfl ⟨by decide, hp, A_hp, rfl⟩)
      · have c171 : (z170 : Int) = 0 := c171
        exact yG.newT (P := bP _ _ _) rfl rfl (bP.thr rfl ⟨by decide, hp, A_hp, rfl⟩)
    · subst c148
      refine yG.load xak rfl (fun _ _ => rfl) (v := yR k0) rfl rfl ?_
      refine yG.getO A_hp.1 (w_G_net W H_k0) rfl rfl (fun r179 H_r179 O_r179 q_r179 => ?_)
      refine yG.load xik rfl (fun _ _ => rfl) (v := yI (1)) rfl rfl ?_
      refine yG.load xik rfl (fun _ _ => rfl) (v := yI (p2)) rfl rfl ?_
      refine yG.invV (rest := []) A_hp.1 (bOb (d_Net W) H_r179) rfl rfl rfl rfl (c_Net_has_1 W (d + 2) A_hp.1 H_r179 (p2) (by omega) (by omega)) (fun rv hp9 q9 => ?_)
      obtain ⟨⟨z180, rfl, l_z180, u_z180, R_z180⟩, e9⟩ := q9
      rw [e9]
      show yG _ _ _ _ _ _ _ _ _ _ (yI z180 :: []) _
      refine yG.ifz rfl (t := 22) rfl ⟨by omega, by omega⟩ (fun c181 => ?_) (fun c181 => ?_)
      · have c181 : (z180 : Int) ≠ 0 := c181
        refine yG.load xak rfl (fun _ _ => rfl) (v := yR k0) rfl rfl ?_
        refine yG.getS9 A_hp.1 (w_G_net W H_k0) q_r179 rfl rfl ?_
        refine yG.load xik rfl (fun _ _ => rfl) (v := yI (1)) rfl rfl ?_
        refine yG.load xik rfl (fun _ _ => rfl) (v := yI (p2)) rfl rfl ?_
        refine yG.load xik rfl (fun _ _ => rfl) (v := yI (2)) rfl rfl ?_
        refine yG.load xik rfl (fun _ _ => rfl) (v := yI (p4)) rfl rfl ?_
        refine yG.invV (rest := []) A_hp.1 (bOb (d_Net W) H_r179) rfl rfl rfl rfl (c_Net_allows_1_2 W (d + 2) A_hp.1 H_r179 (p2) (p4) (by omega) (by omega) (by omega) (by omega)) (fun rv hp9 q9 => ?_)
        obtain ⟨⟨z182, rfl, l_z182, u_z182, R_z182⟩, e9⟩ := q9
        rw [e9]
        show yG _ _ _ _ _ _ _ _ _ _ (yI z182 :: []) _
        refine yG.ifz rfl (t := 47) rfl ⟨by omega, by omega⟩ (fun c183 => ?_) (fun c183 => ?_)
        · have c183 : (z182 : Int) ≠ 0 := c183
          exfalso; omega
        · have c183 : (z182 : Int) = 0 := c183
          exact yG.newT (P := bP _ _ _) rfl rfl (bP.thr rfl ⟨by decide, hp, A_hp, rfl⟩)
      · have c181 : (z180 : Int) = 0 := c181
        exact yG.newT (P := bP _ _ _) rfl rfl (bP.thr rfl ⟨by decide, hp, A_hp, rfl⟩)
    · subst c148
      refine yG.load xak rfl (fun _ _ => rfl) (v := yR k0) rfl rfl ?_
      refine yG.getO A_hp.1 (w_G_net W H_k0) rfl rfl (fun r184 H_r184 O_r184 q_r184 => ?_)
      refine yG.load xik rfl (fun _ _ => rfl) (v := yI (1)) rfl rfl ?_
      refine yG.load xik rfl (fun _ _ => rfl) (v := yI (p2)) rfl rfl ?_
      refine yG.invV (rest := []) A_hp.1 (bOb (d_Net W) H_r184) rfl rfl rfl rfl (c_Net_has_1 W (d + 2) A_hp.1 H_r184 (p2) (by omega) (by omega)) (fun rv hp9 q9 => ?_)
      obtain ⟨⟨z185, rfl, l_z185, u_z185, R_z185⟩, e9⟩ := q9
      rw [e9]
      show yG _ _ _ _ _ _ _ _ _ _ (yI z185 :: []) _
      refine yG.ifz rfl (t := 22) rfl ⟨by omega, by omega⟩ (fun c186 => ?_) (fun c186 => ?_)
      · have c186 : (z185 : Int) ≠ 0 := c186
        refine yG.load xak rfl (fun _ _ => rfl) (v := yR k0) rfl rfl ?_
        refine yG.getS9 A_hp.1 (w_G_net W H_k0) q_r184 rfl rfl ?_
        refine yG.load xik rfl (fun _ _ => rfl) (v := yI (1)) rfl rfl ?_
        refine yG.load xik rfl (fun _ _ => rfl) (v := yI (p2)) rfl rfl ?_
        refine yG.load xik rfl (fun _ _ => rfl) (v := yI (3)) rfl rfl ?_
        refine yG.load xik rfl (fun _ _ => rfl) (v := yI (p4)) rfl rfl ?_
        refine yG.invV (rest := []) A_hp.1 (bOb (d_Net W) H_r184) rfl rfl rfl rfl (c_Net_allows_1_3 W (d + 2) A_hp.1 H_r184 (p2) (p4) (by omega) (by omega) (by omega) (by omega)) (fun rv hp9 q9 => ?_)
        obtain ⟨⟨z187, rfl, l_z187, u_z187, R_z187⟩, e9⟩ := q9
        rw [e9]
        show yG _ _ _ _ _ _ _ _ _ _ (yI z187 :: []) _
        refine yG.ifz rfl (t := 47) rfl ⟨by omega, by omega⟩ (fun c188 => ?_) (fun c188 => ?_)
        · have c188 : (z187 : Int) ≠ 0 := c188
          exfalso; omega
        · have c188 : (z187 : Int) = 0 := c188
          exact yG.newT (P := bP _ _ _) rfl rfl (bP.thr rfl ⟨by decide, hp, A_hp, rfl⟩)
      · have c186 : (z185 : Int) = 0 := c186
        exact yG.newT (P := bP _ _ _) rfl rfl (bP.thr rfl ⟨by decide, hp, A_hp, rfl⟩)
    · subst c148
      refine yG.load xak rfl (fun _ _ => rfl) (v := yR k0) rfl rfl ?_
      refine yG.getO A_hp.1 (w_G_net W H_k0) rfl rfl (fun r189 H_r189 O_r189 q_r189 => ?_)
      refine yG.load xik rfl (fun _ _ => rfl) (v := yI (1)) rfl rfl ?_
      refine yG.load xik rfl (fun _ _ => rfl) (v := yI (p2)) rfl rfl ?_
      refine yG.invV (rest := []) A_hp.1 (bOb (d_Net W) H_r189) rfl rfl rfl rfl (c_Net_has_1 W (d + 2) A_hp.1 H_r189 (p2) (by omega) (by omega)) (fun rv hp9 q9 => ?_)
      obtain ⟨⟨z190, rfl, l_z190, u_z190, R_z190⟩, e9⟩ := q9
      rw [e9]
      show yG _ _ _ _ _ _ _ _ _ _ (yI z190 :: []) _
      refine yG.ifz rfl (t := 22) rfl ⟨by omega, by omega⟩ (fun c191 => ?_) (fun c191 => ?_)
      · have c191 : (z190 : Int) ≠ 0 := c191
        refine yG.load xak rfl (fun _ _ => rfl) (v := yR k0) rfl rfl ?_
        refine yG.getS9 A_hp.1 (w_G_net W H_k0) q_r189 rfl rfl ?_
        refine yG.load xik rfl (fun _ _ => rfl) (v := yI (1)) rfl rfl ?_
        refine yG.load xik rfl (fun _ _ => rfl) (v := yI (p2)) rfl rfl ?_
        refine yG.load xik rfl (fun _ _ => rfl) (v := yI (4)) rfl rfl ?_
        refine yG.load xik rfl (fun _ _ => rfl) (v := yI (p4)) rfl rfl ?_
        refine yG.invV (rest := []) A_hp.1 (bOb (d_Net W) H_r189) rfl rfl rfl rfl (c_Net_allows_1_4 W (d + 2) A_hp.1 H_r189 (p2) (p4) (by omega) (by omega) (by omega) (by omega)) (fun rv hp9 q9 => ?_)
        obtain ⟨⟨z192, rfl, l_z192, u_z192, R_z192⟩, e9⟩ := q9
        rw [e9]
        show yG _ _ _ _ _ _ _ _ _ _ (yI z192 :: []) _
        refine yG.ifz rfl (t := 47) rfl ⟨by omega, by omega⟩ (fun c193 => ?_) (fun c193 => ?_)
        · have c193 : (z192 : Int) ≠ 0 := c193
          exfalso; omega
        · have c193 : (z192 : Int) = 0 := c193
          exact yG.newT (P := bP _ _ _) rfl rfl (bP.thr rfl ⟨by decide, hp, A_hp, rfl⟩)
      · have c191 : (z190 : Int) = 0 := c191
        exact yG.newT (P := bP _ _ _) rfl rfl (bP.thr rfl ⟨by decide, hp, A_hp, rfl⟩)
    · subst c148
      refine yG.load xak rfl (fun _ _ => rfl) (v := yR k0) rfl rfl ?_
      refine yG.getO A_hp.1 (w_G_net W H_k0) rfl rfl (fun r194 H_r194 O_r194 q_r194 => ?_)
      refine yG.load xik rfl (fun _ _ => rfl) (v := yI (1)) rfl rfl ?_
      refine yG.load xik rfl (fun _ _ => rfl) (v := yI (p2)) rfl rfl ?_
      refine yG.invV (rest := []) A_hp.1 (bOb (d_Net W) H_r194) rfl rfl rfl rfl (c_Net_has_1 W (d + 2) A_hp.1 H_r194 (p2) (by omega) (by omega)) (fun rv hp9 q9 => ?_)
      obtain ⟨⟨z195, rfl, l_z195, u_z195, R_z195⟩, e9⟩ := q9
      rw [e9]
      show yG _ _ _ _ _ _ _ _ _ _ (yI z195 :: []) _
      refine yG.ifz rfl (t := 22) rfl ⟨by omega, by omega⟩ (fun c196 => ?_) (fun c196 => ?_)
      · have c196 : (z195 : Int) ≠ 0 := c196
        refine yG.load xak rfl (fun _ _ => rfl) (v := yR k0) rfl rfl ?_
        refine yG.getS9 A_hp.1 (w_G_net W H_k0) q_r194 rfl rfl ?_
        refine yG.load xik rfl (fun _ _ => rfl) (v := yI (1)) rfl rfl ?_
        refine yG.load xik rfl (fun _ _ => rfl) (v := yI (p2)) rfl rfl ?_
        refine yG.load xik rfl (fun _ _ => rfl) (v := yI (5)) rfl rfl ?_
        refine yG.load xik rfl (fun _ _ => rfl) (v := yI (p4)) rfl rfl ?_
        refine yG.invV (rest := []) A_hp.1 (bOb (d_Net W) H_r194) rfl rfl rfl rfl (c_Net_allows_1_5 W (d + 2) A_hp.1 H_r194 (p2) (p4) (by omega) (by omega) (by omega) (by omega)) (fun rv hp9 q9 => ?_)
        obtain ⟨⟨z197, rfl, l_z197, u_z197, R_z197⟩, e9⟩ := q9
        rw [e9]
        show yG _ _ _ _ _ _ _ _ _ _ (yI z197 :: []) _
        refine yG.ifz rfl (t := 47) rfl ⟨by omega, by omega⟩ (fun c198 => ?_) (fun c198 => ?_)
        · have c198 : (z197 : Int) ≠ 0 := c198
          exfalso; omega
        · have c198 : (z197 : Int) = 0 := c198
          exact yG.newT (P := bP _ _ _) rfl rfl (bP.thr rfl ⟨by decide, hp, A_hp, rfl⟩)
      · have c196 : (z195 : Int) = 0 := c196
        exact yG.newT (P := bP _ _ _) rfl rfl (bP.thr rfl ⟨by decide, hp, A_hp, rfl⟩)
    · subst c148
      refine yG.load xak rfl (fun _ _ => rfl) (v := yR k0) rfl rfl ?_
      refine yG.getO A_hp.1 (w_G_net W H_k0) rfl rfl (fun r199 H_r199 O_r199 q_r199 => ?_)
      refine yG.load xik rfl (fun _ _ => rfl) (v := yI (1)) rfl rfl ?_
      refine yG.load xik rfl (fun _ _ => rfl) (v := yI (p2)) rfl rfl ?_
      refine yG.invV (rest := []) A_hp.1 (bOb (d_Net W) H_r199) rfl rfl rfl rfl (c_Net_has_1 W (d + 2) A_hp.1 H_r199 (p2) (by omega) (by omega)) (fun rv hp9 q9 => ?_)
      obtain ⟨⟨z200, rfl, l_z200, u_z200, R_z200⟩, e9⟩ := q9
      rw [e9]
      show yG _ _ _ _ _ _ _ _ _ _ (yI z200 :: []) _
      refine yG.ifz rfl (t := 22) rfl ⟨by omega, by omega⟩ (fun c201 => ?_) (fun c201 => ?_)
      · have c201 : (z200 : Int) ≠ 0 := c201
        refine yG.load xak rfl (fun _ _ => rfl) (v := yR k0) rfl rfl ?_
        refine yG.getS9 A_hp.1 (w_G_net W H_k0) q_r199 rfl rfl ?_
        refine yG.load xik rfl (fun _ _ => rfl) (v := yI (1)) rfl rfl ?_
        refine yG.load xik rfl (fun _ _ => rfl) (v := yI (p2)) rfl rfl ?_
        refine yG.load xik rfl (fun _ _ => rfl) (v := yI (6)) rfl rfl ?_
        refine yG.load xik rfl (fun _ _ => rfl) (v := yI (p4)) rfl rfl ?_
        refine yG.invV (rest := []) A_hp.1 (bOb (d_Net W) H_r199) rfl rfl rfl rfl (c_Net_allows_1_6 W (d + 2) A_hp.1 H_r199 (p2) (p4) (by omega) (by omega) (by omega) (by omega)) (fun rv hp9 q9 => ?_)
        obtain ⟨⟨z202, rfl, l_z202, u_z202, R_z202⟩, e9⟩ := q9
        rw [e9]
        show yG _ _ _ _ _ _ _ _ _ _ (yI z202 :: []) _
        refine yG.ifz rfl (t := 47) rfl ⟨by omega, by omega⟩ (fun c203 => ?_) (fun c203 => ?_)
        · have c203 : (z202 : Int) ≠ 0 := c203
          exfalso; omega
        · have c203 : (z202 : Int) = 0 := c203
          exact yG.newT (P := bP _ _ _) rfl rfl (bP.thr rfl ⟨by decide, hp, A_hp, rfl⟩)
      · have c201 : (z200 : Int) = 0 := c201
        exact yG.newT (P := bP _ _ _) rfl rfl (bP.thr rfl ⟨by decide, hp, A_hp, rfl⟩)
    · subst c148
      refine yG.load xak rfl (fun _ _ => rfl) (v := yR k0) rfl rfl ?_
      refine yG.getO A_hp.1 (w_G_net W H_k0) rfl rfl (fun r204 H_r204 O_r204 q_r204 => ?_)
      refine yG.load xik rfl (fun _ _ => rfl) (v := yI (1)) rfl rfl ?_
      refine yG.load xik rfl (fun _ _ => rfl) (v := yI (p2)) rfl rfl ?_
      refine yG.invV (rest := []) A_hp.1 (bOb (d_Net W) H_r204) rfl rfl rfl rfl (c_Net_has_1 W (d + 2) A_hp.1 H_r204 (p2) (by omega) (by omega)) (fun rv hp9 q9 => ?_)
      obtain ⟨⟨z205, rfl, l_z205, u_z205, R_z205⟩, e9⟩ := q9
      rw [e9]
      show yG _ _ _ _ _ _ _ _ _ _ (yI z205 :: []) _
      refine yG.ifz rfl (t := 22) rfl ⟨by omega, by omega⟩ (fun c206 => ?_) (fun c206 => ?_)
      · have c206 : (z205 : Int) ≠ 0 := c206
        refine yG.load xak rfl (fun _ _ => rfl) (v := yR k0) rfl rfl ?_
        refine yG.getS9 A_hp.1 (w_G_net W H_k0) q_r204 rfl rfl ?_
        refine yG.load xik rfl (fun _ _ => rfl) (v := yI (1)) rfl rfl ?_
        refine yG.load xik rfl (fun _ _ => rfl) (v := yI (p2)) rfl rfl ?_
        refine yG.load xik rfl (fun _ _ => rfl) (v := yI (7)) rfl rfl ?_
        refine yG.load xik rfl (fun _ _ => rfl) (v := yI (p4)) rfl rfl ?_
        refine yG.invV (rest := []) A_hp.1 (bOb (d_Net W) H_r204) rfl rfl rfl rfl (c_Net_allows_1_7 W (d + 2) A_hp.1 H_r204 (p2) (p4) (by omega) (by omega) (by omega) (by omega)) (fun rv hp9 q9 => ?_)
        obtain ⟨⟨z207, rfl, l_z207, u_z207, R_z207⟩, e9⟩ := q9
        rw [e9]
        show yG _ _ _ _ _ _ _ _ _ _ (yI z207 :: []) _
        refine yG.ifz rfl (t := 47) rfl ⟨by omega, by omega⟩ (fun c208 => ?_) (fun c208 => ?_)
        · have c208 : (z207 : Int) ≠ 0 := c208
          exfalso; omega
        · have c208 : (z207 : Int) = 0 := c208
          exact yG.newT (P := bP _ _ _) rfl rfl (bP.thr rfl ⟨by decide, hp, A_hp, rfl⟩)
      · have c206 : (z205 : Int) = 0 := c206
        exact yG.newT (P := bP _ _ _) rfl rfl (bP.thr rfl ⟨by decide, hp, A_hp, rfl⟩)
    · subst c148
      refine yG.load xak rfl (fun _ _ => rfl) (v := yR k0) rfl rfl ?_
      refine yG.getO A_hp.1 (w_G_net W H_k0) rfl rfl (fun r209 H_r209 O_r209 q_r209 => ?_)
      refine yG.load xik rfl (fun _ _ => rfl) (v := yI (1)) rfl rfl ?_
      refine yG.load xik rfl (fun _ _ => rfl) (v := yI (p2)) rfl rfl ?_
      refine yG.invV (rest := []) A_hp.1 (bOb (d_Net W) H_r209) rfl rfl rfl rfl (c_Net_has_1 W (d + 2) A_hp.1 H_r209 (p2) (by omega) (by omega)) (fun rv hp9 q9 => ?_)
      obtain ⟨⟨z210, rfl, l_z210, u_z210, R_z210⟩, e9⟩ := q9
      rw [e9]
      show yG _ _ _ _ _ _ _ _ _ _ (yI z210 :: []) _
      refine yG.ifz rfl (t := 22) rfl ⟨by omega, by omega⟩ (fun c211 => ?_) (fun c211 => ?_)
      · have c211 : (z210 : Int) ≠ 0 := c211
        refine yG.load xak rfl (fun _ _ => rfl) (v := yR k0) rfl rfl ?_
        refine yG.getS9 A_hp.1 (w_G_net W H_k0) q_r209 rfl rfl ?_
        refine yG.load xik rfl (fun _ _ => rfl) (v := yI (1)) rfl rfl ?_
        refine yG.load xik rfl (fun _ _ => rfl) (v := yI (p2)) rfl rfl ?_
        refine yG.load xik rfl (fun _ _ => rfl) (v := yI (8)) rfl rfl ?_
        refine yG.load xik rfl (fun _ _ => rfl) (v := yI (p4)) rfl rfl ?_
        refine yG.invV (rest := []) A_hp.1 (bOb (d_Net W) H_r209) rfl rfl rfl rfl (c_Net_allows_1_8 W (d + 2) A_hp.1 H_r209 (p2) (p4) (by omega) (by omega) (by omega) (by omega)) (fun rv hp9 q9 => ?_)
        obtain ⟨⟨z212, rfl, l_z212, u_z212, R_z212⟩, e9⟩ := q9
        rw [e9]
        show yG _ _ _ _ _ _ _ _ _ _ (yI z212 :: []) _
        refine yG.ifz rfl (t := 47) rfl ⟨by omega, by omega⟩ (fun c213 => ?_) (fun c213 => ?_)
        · have c213 : (z212 : Int) ≠ 0 := c213
          exfalso; omega
        · have c213 : (z212 : Int) = 0 := c213
          exact yG.newT (P := bP _ _ _) rfl rfl (bP.thr rfl ⟨by decide, hp, A_hp, rfl⟩)
      · have c211 : (z210 : Int) = 0 := c211
        exact yG.newT (P := bP _ _ _) rfl rfl (bP.thr rfl ⟨by decide, hp, A_hp, rfl⟩)
    · subst c148
      refine yG.load xak rfl (fun _ _ => rfl) (v := yR k0) rfl rfl ?_
      refine yG.getO A_hp.1 (w_G_net W H_k0) rfl rfl (fun r214 H_r214 O_r214 q_r214 => ?_)
      refine yG.load xik rfl (fun _ _ => rfl) (v := yI (1)) rfl rfl ?_
      refine yG.load xik rfl (fun _ _ => rfl) (v := yI (p2)) rfl rfl ?_
      refine yG.invV (rest := []) A_hp.1 (bOb (d_Net W) H_r214) rfl rfl rfl rfl (c_Net_has_1 W (d + 2) A_hp.1 H_r214 (p2) (by omega) (by omega)) (fun rv hp9 q9 => ?_)
      obtain ⟨⟨z215, rfl, l_z215, u_z215, R_z215⟩, e9⟩ := q9
      rw [e9]
      show yG _ _ _ _ _ _ _ _ _ _ (yI z215 :: []) _
      refine yG.ifz rfl (t := 22) rfl ⟨by omega, by omega⟩ (fun c216 => ?_) (fun c216 => ?_)
      · have c216 : (z215 : Int) ≠ 0 := c216
        refine yG.load xak rfl (fun _ _ => rfl) (v := yR k0) rfl rfl ?_
        refine yG.getS9 A_hp.1 (w_G_net W H_k0) q_r214 rfl rfl ?_
        refine yG.load xik rfl (fun _ _ => rfl) (v := yI (1)) rfl rfl ?_
        refine yG.load xik rfl (fun _ _ => rfl) (v := yI (p2)) rfl rfl ?_
        refine yG.load xik rfl (fun _ _ => rfl) (v := yI (9)) rfl rfl ?_
        refine yG.load xik rfl (fun _ _ => rfl) (v := yI (p4)) rfl rfl ?_
        refine yG.invV (rest := []) A_hp.1 (bOb (d_Net W) H_r214) rfl rfl rfl rfl (c_Net_allows_1_9 W (d + 2) A_hp.1 H_r214 (p2) (p4) (by omega) (by omega) (by omega) (by omega)) (fun rv hp9 q9 => ?_)
        obtain ⟨⟨z217, rfl, l_z217, u_z217, R_z217⟩, e9⟩ := q9
        rw [e9]
        show yG _ _ _ _ _ _ _ _ _ _ (yI z217 :: []) _
        refine yG.ifz rfl (t := 47) rfl ⟨by omega, by omega⟩ (fun c218 => ?_) (fun c218 => ?_)
        · have c218 : (z217 : Int) ≠ 0 := c218
          exfalso; omega
        · have c218 : (z217 : Int) = 0 := c218
          exact yG.newT (P := bP _ _ _) rfl rfl (bP.thr rfl ⟨by decide, hp, A_hp, rfl⟩)
      · have c216 : (z215 : Int) = 0 := c216
        exact yG.newT (P := bP _ _ _) rfl rfl (bP.thr rfl ⟨by decide, hp, A_hp, rfl⟩)
    · subst c148
      refine yG.load xak rfl (fun _ _ => rfl) (v := yR k0) rfl rfl ?_
      refine yG.getO A_hp.1 (w_G_net W H_k0) rfl rfl (fun r219 H_r219 O_r219 q_r219 => ?_)
      refine yG.load xik rfl (fun _ _ => rfl) (v := yI (1)) rfl rfl ?_
      refine yG.load xik rfl (fun _ _ => rfl) (v := yI (p2)) rfl rfl ?_
      refine yG.invV (rest := []) A_hp.1 (bOb (d_Net W) H_r219) rfl rfl rfl rfl (c_Net_has_1 W (d + 2) A_hp.1 H_r219 (p2) (by omega) (by omega)) (fun rv hp9 q9 => ?_)
      obtain ⟨⟨z220, rfl, l_z220, u_z220, R_z220⟩, e9⟩ := q9
      rw [e9]
      show yG _ _ _ _ _ _ _ _ _ _ (yI z220 :: []) _
      refine yG.ifz rfl (t := 22) rfl ⟨by omega, by omega⟩ (fun c221 => ?_) (fun c221 => ?_)
      · have c221 : (z220 : Int) ≠ 0 := c221
        refine yG.load xak rfl (fun _ _ => rfl) (v := yR k0) rfl rfl ?_
        refine yG.getS9 A_hp.1 (w_G_net W H_k0) q_r219 rfl rfl ?_
        refine yG.load xik rfl (fun _ _ => rfl) (v := yI (1)) rfl rfl ?_
        refine yG.load xik rfl (fun _ _ => rfl) (v := yI (p2)) rfl rfl ?_
        refine yG.load xik rfl (fun _ _ => rfl) (v := yI (10)) rfl rfl ?_
        refine yG.load xik rfl (fun _ _ => rfl) (v := yI (p4)) rfl rfl ?_
        refine yG.invV (rest := []) A_hp.1 (bOb (d_Net W) H_r219) rfl rfl rfl rfl (c_Net_allows_1_10 W (d + 2) A_hp.1 H_r219 (p2) (p4) (by omega) (by omega) (by omega) (by omega)) (fun rv hp9 q9 => ?_)
        obtain ⟨⟨z222, rfl, l_z222, u_z222, R_z222⟩, e9⟩ := q9
        rw [e9]
        show yG _ _ _ _ _ _ _ _ _ _ (yI z222 :: []) _
        refine yG.ifz rfl (t := 47) rfl ⟨by omega, by omega⟩ (fun c223 => ?_) (fun c223 => ?_)
        · have c223 : (z222 : Int) ≠ 0 := c223
          exfalso; omega
        · have c223 : (z222 : Int) = 0 := c223
          exact yG.newT (P := bP _ _ _) rfl rfl (bP.thr rfl ⟨by decide, hp, A_hp, rfl⟩)
      · have c221 : (z220 : Int) = 0 := c221
        exact yG.newT (P := bP _ _ _) rfl rfl (bP.thr rfl ⟨by decide, hp, A_hp, rfl⟩)
  · subst c1
    rcases (show p3 ≤ (-1) ∨ p3 ≥ 11 ∨ p3 = 0 ∨ p3 = 1 ∨ p3 = 2 ∨ p3 = 3 ∨ p3 = 4 ∨ p3 = 5 ∨ p3 = 6 ∨ p3 = 7 ∨ p3 = 8 ∨ p3 = 9 ∨ p3 = 10 by omega) with c224 | c224 | c224 | c224 | c224 | c224 | c224 | c224 | c224 | c224 | c224 | c224 | c224
    · skip
      refine yG.load xak rfl (fun _ _ => rfl) (v := yR k0) rfl rfl ?_
      refine yG.getO A_hp.1 (w_G_net W H_k0) rfl rfl (fun r225 H_r225 O_r225 q_r225 => ?_)
      refine yG.load xik rfl (fun _ _ => rfl) (v := yI (2)) rfl rfl ?_
      refine yG.load xik rfl (fun _ _ => rfl) (v := yI (p2)) rfl rfl ?_
      refine yG.invV (rest := []) A_hp.1 (bOb (d_Net W) H_r225) rfl rfl rfl rfl (c_Net_has_2 W (d + 2) A_hp.1 H_r225 (p2) (by omega) (by omega)) (fun rv hp9 q9 => ?_)
      obtain ⟨⟨z226, rfl, l_z226, u_z226, R_z226⟩, e9⟩ := q9
      rw [e9]
      show yG _ _ _ _ _ _ _ _ _ _ (yI z226 :: []) _
      refine yG.ifz rfl (t := 22) rfl ⟨by omega, by omega⟩ (fun c227 => ?_) (fun c227 => ?_)
      · have c227 : (z226 : Int) ≠ 0 := c227
        refine yG.load xak rfl (fun _ _ => rfl) (v := yR k0) rfl rfl ?_
        refine yG.getS9 A_hp.1 (w_G_net W H_k0) q_r225 rfl rfl ?_
        refine yG.load xik rfl (fun _ _ => rfl) (v := yI (2)) rfl rfl ?_
        refine yG.load xik rfl (fun _ _ => rfl) (v := yI (p2)) rfl rfl ?_
        refine yG.load xik rfl (fun _ _ => rfl) (v := yI (p3)) rfl rfl ?_
        refine yG.load xik rfl (fun _ _ => rfl) (v := yI (p4)) rfl rfl ?_
        refine yG.invV (rest := []) A_hp.1 (bOb (d_Net W) H_r225) rfl rfl rfl rfl (c_Net_allows_2_l W (d + 2) A_hp.1 H_r225 (p2) (p3) (p4) (by omega) (by omega) (by omega) (by omega) (by omega) (by omega)) (fun rv hp9 q9 => ?_)
        obtain ⟨⟨z228, rfl, l_z228, u_z228, R_z228⟩, e9⟩ := q9
        rw [e9]
        show yG _ _ _ _ _ _ _ _ _ _ (yI z228 :: []) _
        refine yG.ifz rfl (t := 47) rfl ⟨by omega, by omega⟩ (fun c229 => ?_) (fun c229 => ?_)
        · have c229 : (z228 : Int) ≠ 0 := c229
          exfalso; omega
        · have c229 : (z228 : Int) = 0 := c229
          exact yG.newT (P := bP _ _ _) rfl rfl (bP.thr rfl ⟨by decide, hp, A_hp, rfl⟩)
      · have c227 : (z226 : Int) = 0 := c227
        exact yG.newT (P := bP _ _ _) rfl rfl (bP.thr rfl ⟨by decide, hp, A_hp, rfl⟩)
    · skip
      refine yG.load xak rfl (fun _ _ => rfl) (v := yR k0) rfl rfl ?_
      refine yG.getO A_hp.1 (w_G_net W H_k0) rfl rfl (fun r230 H_r230 O_r230 q_r230 => ?_)
      refine yG.load xik rfl (fun _ _ => rfl) (v := yI (2)) rfl rfl ?_
      refine yG.load xik rfl (fun _ _ => rfl) (v := yI (p2)) rfl rfl ?_
      refine yG.invV (rest := []) A_hp.1 (bOb (d_Net W) H_r230) rfl rfl rfl rfl (c_Net_has_2 W (d + 2) A_hp.1 H_r230 (p2) (by omega) (by omega)) (fun rv hp9 q9 => ?_)
      obtain ⟨⟨z231, rfl, l_z231, u_z231, R_z231⟩, e9⟩ := q9
      rw [e9]
      show yG _ _ _ _ _ _ _ _ _ _ (yI z231 :: []) _
      refine yG.ifz rfl (t := 22) rfl ⟨by omega, by omega⟩ (fun c232 => ?_) (fun c232 => ?_)
      · have c232 : (z231 : Int) ≠ 0 := c232
        refine yG.load xak rfl (fun _ _ => rfl) (v := yR k0) rfl rfl ?_
        refine yG.getS9 A_hp.1 (w_G_net W H_k0) q_r230 rfl rfl ?_
        refine yG.load xik rfl (fun _ _ => rfl) (v := yI (2)) rfl rfl ?_
        refine yG.load xik rfl (fun _ _ => rfl) (v := yI (p2)) rfl rfl ?_
        refine yG.load xik rfl (fun _ _ => rfl) (v := yI (p3)) rfl rfl ?_
        refine yG.load xik rfl (fun _ _ => rfl) (v := yI (p4)) rfl rfl ?_
        refine yG.invV (rest := []) A_hp.1 (bOb (d_Net W) H_r230) rfl rfl rfl rfl (c_Net_allows_2_h W (d + 2) A_hp.1 H_r230 (p2) (p3) (p4) (by omega) (by omega) (by omega) (by omega) (by omega) (by omega)) (fun rv hp9 q9 => ?_)
        obtain ⟨⟨z233, rfl, l_z233, u_z233, R_z233⟩, e9⟩ := q9
        rw [e9]
        show yG _ _ _ _ _ _ _ _ _ _ (yI z233 :: []) _
        refine yG.ifz rfl (t := 47) rfl ⟨by omega, by omega⟩ (fun c234 => ?_) (fun c234 => ?_)
        · have c234 : (z233 : Int) ≠ 0 := c234
          exfalso; omega
        · have c234 : (z233 : Int) = 0 := c234
          exact yG.newT (P := bP _ _ _) rfl rfl (bP.thr rfl ⟨by decide, hp, A_hp, rfl⟩)
      · have c232 : (z231 : Int) = 0 := c232
        exact yG.newT (P := bP _ _ _) rfl rfl (bP.thr rfl ⟨by decide, hp, A_hp, rfl⟩)
    · subst c224
      refine yG.load xak rfl (fun _ _ => rfl) (v := yR k0) rfl rfl ?_
      refine yG.getO A_hp.1 (w_G_net W H_k0) rfl rfl (fun r235 H_r235 O_r235 q_r235 => ?_)
      refine yG.load xik rfl (fun _ _ => rfl) (v := yI (2)) rfl rfl ?_
      refine yG.load xik rfl (fun _ _ => rfl) (v := yI (p2)) rfl rfl ?_
      refine yG.invV (rest := []) A_hp.1 (bOb (d_Net W) H_r235) rfl rfl rfl rfl (c_Net_has_2 W (d + 2) A_hp.1 H_r235 (p2) (by omega) (by omega)) (fun rv hp9 q9 => ?_)
      obtain ⟨⟨z236, rfl, l_z236, u_z236, R_z236⟩, e9⟩ := q9
      rw [e9]
      show yG _ _ _ _ _ _ _ _ _ _ (yI z236 :: []) _
      refine yG.ifz rfl (t := 22) rfl ⟨by omega, by omega⟩ (fun c237 => ?_) (fun c237 => ?_)
      · have c237 : (z236 : Int) ≠ 0 := c237
        refine yG.load xak rfl (fun _ _ => rfl) (v := yR k0) rfl rfl ?_
        refine yG.getS9 A_hp.1 (w_G_net W H_k0) q_r235 rfl rfl ?_
        refine yG.load xik rfl (fun _ _ => rfl) (v := yI (2)) rfl rfl ?_
        refine yG.load xik rfl (fun _ _ => rfl) (v := yI (p2)) rfl rfl ?_
        refine yG.load xik rfl (fun _ _ => rfl) (v := yI (0)) rfl rfl ?_
        refine yG.load xik rfl (fun _ _ => rfl) (v := yI (p4)) rfl rfl ?_
        refine yG.invV (rest := []) A_hp.1 (bOb (d_Net W) H_r235) rfl rfl rfl rfl (c_Net_allows_2_0 W (d + 1) A_hp.1 H_r235 (p2) (p4) (by omega) (by omega) (by omega) (by omega)) (fun rv hp9 q9 => ?_)
        obtain ⟨⟨z238, rfl, l_z238, u_z238, R_z238⟩, e9⟩ := q9
        rw [e9]
        show yG _ _ _ _ _ _ _ _ _ _ (yI z238 :: []) _
        refine yG.ifz rfl (t := 47) rfl ⟨by omega, by omega⟩ (fun c239 => ?_) (fun c239 => ?_)
        · have c239 : (z238 : Int) ≠ 0 := c239
          refine yG.load xak rfl (fun _ _ => rfl) (v := yR k0) rfl rfl ?_
          refine yG.getS9 A_hp.1 (w_G_net W H_k0) q_r235 rfl rfl ?_
          refine yG.load xik rfl (fun _ _ => rfl) (v := yI (2)) rfl rfl ?_
          refine yG.load xik rfl (fun _ _ => rfl) (v := yI (p2)) rfl rfl ?_
          refine yG.load xik rfl (fun _ _ => rfl) (v := yI (0)) rfl rfl ?_
          refine yG.invV (rest := []) A_hp.1 (bOb (d_Net W) H_r235) rfl rfl rfl rfl (c_Net_at_2_0 W (d + 2) A_hp.1 H_r235 (p2) (by omega) (by omega)) (fun rv hp9 q9 => ?_)
          obtain ⟨⟨z240, rfl, l_z240, u_z240, R_z240⟩, e9⟩ := q9
          rw [e9]
          show yG _ _ _ _ _ _ _ _ _ _ (yI z240 :: []) _
          refine yG.store1 xik (L' := [(5, yI (z240)), (0, yR k0), (1, yI (2)), (2, yI (p2)), (3, yI (0)), (4, yI (p4))]) rfl (fun _ _ => rfl) rfl rfl ?_
          refine yG.load xak rfl (fun _ _ => rfl) (v := yR k0) rfl rfl ?_
          refine yG.getS9 A_hp.1 (w_G_net W H_k0) q_r235 rfl rfl ?_
          refine yG.load xik rfl (fun _ _ => rfl) (v := yI (2)) rfl rfl ?_
          refine yG.load xik rfl (fun _ _ => rfl) (v := yI (p2)) rfl rfl ?_
          refine yG.load xik rfl (fun _ _ => rfl) (v := yI (0)) rfl rfl ?_
          refine yG.load xik rfl (fun _ _ => rfl) (v := yI (p4)) rfl rfl ?_
          refine yG.invV (rest := []) A_hp.1 (bOb (d_Net W) H_r235) rfl rfl rfl rfl (c_Net_put_2_0 W (d + 2) A_hp.1 H_r235 (p2) (p4) (by omega) (by omega) (by omega) (by omega)) (fun rv h241 q9 => ?_)
          obtain ⟨⟨rfl, R_z242⟩, B_h241⟩ := q9
          have A_h241 := A_hp.tr B_h241 (by decide)
          have qq5 : zsl h241 k0 1 = yR r235 := (B_h241.sl H_k0 (by decide)).trans q_r235
          show yG _ _ _ _ _ _ _ _ _ _ [] _
          refine yG.load xak rfl (fun _ _ => rfl) (v := yR k0) rfl rfl ?_
          refine yG.invV (rest := []) A_h241.1 (bOb (d_G W) H_k0) rfl rfl rfl rfl (c_G_changed W (d + 2) A_h241.1 H_k0) (fun rv h243 q9 => ?_)
          obtain ⟨⟨rfl, R_z244⟩, B_h243⟩ := q9
          have A_h243 := A_h241.tr B_h243 (by decide)
          have qq6 : zsl h243 k0 1 = yR r235 := (B_h243.sl H_k0 (by decide)).trans qq5
          show yG _ _ _ _ _ _ _ _ _ _ [] _
          refine yG.load xik rfl (fun _ _ => rfl) (v := yI (z240)) rfl rfl ?_
          refine yG.ret rfl (fun _ _ => rfl) ?_
          exact .inl (yP.int ⟨by omega, by omega⟩ ⟨⟨z240, rfl, by omega, by omega, by omega⟩, A_h243⟩)
        · have c239 : (z238 : Int) = 0 := c239
          exact yG.newT (P := bP _ _ _) rfl rfl (bP.thr rfl ⟨by decide, hp, A_hp, rfl⟩)
      · have c237 : (z236 : Int) = 0 := c237
        exact yG.newT (P := bP _ _ _) rfl rfl (bP.thr rfl ⟨by decide, hp, A_hp, rfl⟩)
    · subst c224
      refine yG.load xak rfl (fun _ _ => rfl) (v := yR k0) rfl rfl ?_
      refine yG.getO A_hp.1 (w_G_net W H_k0) rfl rfl (fun r245 H_r245 O_r245 q_r245 => ?_)
      refine yG.load xik rfl (fun _ _ => rfl) (v := yI (2)) rfl rfl ?_
      refine yG.load xik rfl (fun _ _ => rfl) (v := yI (p2)) rfl rfl ?_
      refine yG.invV (rest := []) A_hp.1 (bOb (d_Net W) H_r245) rfl rfl rfl rfl (c_Net_has_2 W (d + 2) A_hp.1 H_r245 (p2) (by omega) (by omega)) (fun rv hp9 q9 => ?_)
      obtain ⟨⟨z246, rfl, l_z246, u_z246, R_z246⟩, e9⟩ := q9
      rw [e9]
      show yG _ _ _ _ _ _ _ _ _ _ (yI z246 :: []) _
      refine yG.ifz rfl (t := 22) rfl ⟨by omega, by omega⟩ (fun c247 => ?_) (fun c247 => ?_)
      · have c247 : (z246 : Int) ≠ 0 := c247
        refine yG.load xak rfl (fun _ _ => rfl) (v := yR k0) rfl rfl ?_
        refine yG.getS9 A_hp.1 (w_G_net W H_k0) q_r245 rfl rfl ?_
        refine yG.load xik rfl (fun _ _ => rfl) (v := yI (2)) rfl rfl ?_
        refine yG.load xik rfl (fun _ _ => rfl) (v := yI (p2)) rfl rfl ?_
        refine yG.load xik rfl (fun _ _ => rfl) (v := yI (1)) rfl rfl ?_
        refine yG.load xik rfl (fun _ _ => rfl) (v := yI (p4)) rfl rfl ?_
        refine yG.invV (rest := []) A_hp.1 (bOb (d_Net W) H_r245) rfl rfl rfl rfl (c_Net_allows_2_1 W (d + 1) A_hp.1 H_r245 (p2) (p4) (by omega) (by omega) (by omega) (by omega)) (fun rv hp9 q9 => ?_)
        obtain ⟨⟨z248, rfl, l_z248, u_z248, R_z248⟩, e9⟩ := q9
        rw [e9]
        show yG _ _ _ _ _ _ _ _ _ _ (yI z248 :: []) _
        refine yG.ifz rfl (t := 47) rfl ⟨by omega, by omega⟩ (fun c249 => ?_) (fun c249 => ?_)
        · have c249 : (z248 : Int) ≠ 0 := c249
          refine yG.load xak rfl (fun _ _ => rfl) (v := yR k0) rfl rfl ?_
          refine yG.getS9 A_hp.1 (w_G_net W H_k0) q_r245 rfl rfl ?_
          refine yG.load xik rfl (fun _ _ => rfl) (v := yI (2)) rfl rfl ?_
          refine yG.load xik rfl (fun _ _ => rfl) (v := yI (p2)) rfl rfl ?_
          refine yG.load xik rfl (fun _ _ => rfl) (v := yI (1)) rfl rfl ?_
          refine yG.invV (rest := []) A_hp.1 (bOb (d_Net W) H_r245) rfl rfl rfl rfl (c_Net_at_2_1 W (d + 2) A_hp.1 H_r245 (p2) (by omega) (by omega)) (fun rv hp9 q9 => ?_)
          obtain ⟨⟨z250, rfl, l_z250, u_z250, R_z250⟩, e9⟩ := q9
          rw [e9]
          show yG _ _ _ _ _ _ _ _ _ _ (yI z250 :: []) _
          refine yG.store1 xik (L' := [(5, yI (z250)), (0, yR k0), (1, yI (2)), (2, yI (p2)), (3, yI (1)), (4, yI (p4))]) rfl (fun _ _ => rfl) rfl rfl ?_
          refine yG.load xak rfl (fun _ _ => rfl) (v := yR k0) rfl rfl ?_
          refine yG.getS9 A_hp.1 (w_G_net W H_k0) q_r245 rfl rfl ?_
          refine yG.load xik rfl (fun _ _ => rfl) (v := yI (2)) rfl rfl ?_
          refine yG.load xik rfl (fun _ _ => rfl) (v := yI (p2)) rfl rfl ?_
          refine yG.load xik rfl (fun _ _ => rfl) (v := yI (1)) rfl rfl ?_
          refine yG.load xik rfl (fun _ _ => rfl) (v := yI (p4)) rfl rfl ?_
          refine yG.invV (rest := []) A_hp.1 (bOb (d_Net W) H_r245) rfl rfl rfl rfl (c_Net_put_2_1 W (d + 2) A_hp.1 H_r245 (p2) (p4) (by omega) (by omega) (by omega) (by omega)) (fun rv h251 q9 => ?_)
          obtain ⟨⟨rfl, R_z252⟩, B_h251⟩ := q9
          have A_h251 := A_hp.tr B_h251 (by decide)
          have qq7 : zsl h251 k0 1 = yR r245 := (B_h251.sl H_k0 (by decide)).trans q_r245
          show yG _ _ _ _ _ _ _ _ _ _ [] _
          refine yG.load xak rfl (fun _ _ => rfl) (v := yR k0) rfl rfl ?_
          refine yG.invV (rest := []) A_h251.1 (bOb (d_G W) H_k0) rfl rfl rfl rfl (c_G_changed W (d + 2) A_h251.1 H_k0) (fun rv h253 q9 => ?_)
          obtain ⟨⟨rfl, R_z254⟩, B_h253⟩ := q9
          have A_h253 := A_h251.tr B_h253 (by decide)
          have qq8 : zsl h253 k0 1 = yR r245 := (B_h253.sl H_k0 (by decide)).trans qq7
          show yG _ _ _ _ _ _ _ _ _ _ [] _
          refine yG.load xik rfl (fun _ _ => rfl) (v := yI (z250)) rfl rfl ?_
          refine yG.ret rfl (fun _ _ => rfl) ?_
          exact .inl (yP.int ⟨by omega, by omega⟩ ⟨⟨z250, rfl, by omega, by omega, by omega⟩, A_h253⟩)
        · have c249 : (z248 : Int) = 0 := c249
          exact yG.newT (P := bP _ _ _) rfl rfl (bP.thr rfl ⟨by decide, hp, A_hp, rfl⟩)
      · have c247 : (z246 : Int) = 0 := c247
        exact yG.newT (P := bP _ _ _) rfl rfl (bP.thr rfl ⟨by decide, hp, A_hp, rfl⟩)
    · subst c224
      refine yG.load xak rfl (fun _ _ => rfl) (v := yR k0) rfl rfl ?_
      refine yG.getO A_hp.1 (w_G_net W H_k0) rfl rfl (fun r255 H_r255 O_r255 q_r255 => ?_)
      refine yG.load xik rfl (fun _ _ => rfl) (v := yI (2)) rfl rfl ?_
      refine yG.load xik rfl (fun _ _ => rfl) (v := yI (p2)) rfl rfl ?_
      refine yG.invV (rest := []) A_hp.1 (bOb (d_Net W) H_r255) rfl rfl rfl rfl (c_Net_has_2 W (d + 2) A_hp.1 H_r255 (p2) (by omega) (by omega)) (fun rv hp9 q9 => ?_)
      obtain ⟨⟨z256, rfl, l_z256, u_z256, R_z256⟩, e9⟩ := q9
      rw [e9]
      show yG _ _ _ _ _ _ _ _ _ _ (yI z256 :: []) _
      refine yG.ifz rfl (t := 22) rfl ⟨by omega, by omega⟩ (fun c257 => ?_) (fun c257 => ?_)
      · have c257 : (z256 : Int) ≠ 0 := c257
        refine yG.load xak rfl (fun _ _ => rfl) (v := yR k0) rfl rfl ?_
        refine yG.getS9 A_hp.1 (w_G_net W H_k0) q_r255 rfl rfl ?_
        refine yG.load xik rfl (fun _ _ => rfl) (v := yI (2)) rfl rfl ?_
        refine yG.load xik rfl (fun _ _ => rfl) (v := yI (p2)) rfl rfl ?_
        refine yG.load xik rfl (fun _ _ => rfl) (v := yI (2)) rfl rfl ?_
        refine yG.load xik rfl (fun _ _ => rfl) (v := yI (p4)) rfl rfl ?_
        refine yG.invV (rest := []) A_hp.1 (bOb (d_Net W) H_r255) rfl rfl rfl rfl (c_Net_allows_2_2 W (d + 1) A_hp.1 H_r255 (p2) (p4) (by omega) (by omega) (by omega) (by omega)) (fun rv hp9 q9 => ?_)
        obtain ⟨⟨z258, rfl, l_z258, u_z258, R_z258⟩, e9⟩ := q9
        rw [e9]
        show yG _ _ _ _ _ _ _ _ _ _ (yI z258 :: []) _
        refine yG.ifz rfl (t := 47) rfl ⟨by omega, by omega⟩ (fun c259 => ?_) (fun c259 => ?_)
        · have c259 : (z258 : Int) ≠ 0 := c259
          refine yG.load xak rfl (fun _ _ => rfl) (v := yR k0) rfl rfl ?_
          refine yG.getS9 A_hp.1 (w_G_net W H_k0) q_r255 rfl rfl ?_
          refine yG.load xik rfl (fun _ _ => rfl) (v := yI (2)) rfl rfl ?_
          refine yG.load xik rfl (fun _ _ => rfl) (v := yI (p2)) rfl rfl ?_
          refine yG.load xik rfl (fun _ _ => rfl) (v := yI (2)) rfl rfl ?_
          refine yG.invV (rest := []) A_hp.1 (bOb (d_Net W) H_r255) rfl rfl rfl rfl (c_Net_at_2_2 W (d + 2) A_hp.1 H_r255 (p2) (by omega) (by omega)) (fun rv hp9 q9 => ?_)
          obtain ⟨⟨z260, rfl, l_z260, u_z260, R_z260⟩, e9⟩ := q9
          rw [e9]
          show yG _ _ _ _ _ _ _ _ _ _ (yI z260 :: []) _
          refine yG.store1 xik (L' := [(5, yI (z260)), (0, yR k0), (1, yI (2)), (2, yI (p2)), (3, yI (2)), (4, yI (p4))]) rfl (fun _ _ => rfl) rfl rfl ?_
          refine yG.load xak rfl (fun _ _ => rfl) (v := yR k0) rfl rfl ?_
          refine yG.getS9 A_hp.1 (w_G_net W H_k0) q_r255 rfl rfl ?_
          refine yG.load xik rfl (fun _ _ => rfl) (v := yI (2)) rfl rfl ?_
          refine yG.load xik rfl (fun _ _ => rfl) (v := yI (p2)) rfl rfl ?_
          refine yG.load xik rfl (fun _ _ => rfl) (v := yI (2)) rfl rfl ?_
          refine yG.load xik rfl (fun _ _ => rfl) (v := yI (p4)) rfl rfl ?_
          refine yG.invV (rest := []) A_hp.1 (bOb (d_Net W) H_r255) rfl rfl rfl rfl (c_Net_put_2_2 W (d + 2) A_hp.1 H_r255 (p2) (p4) (by omega) (by omega) (by omega) (by omega)) (fun rv h261 q9 => ?_)
          obtain ⟨⟨rfl, R_z262⟩, B_h261⟩ := q9
          have A_h261 := A_hp.tr B_h261 (by decide)
          have qq9 : zsl h261 k0 1 = yR r255 := (B_h261.sl H_k0 (by decide)).trans q_r255
          show yG _ _ _ _ _ _ _ _ _ _ [] _
          refine yG.load xak rfl (fun _ _ => rfl) (v := yR k0) rfl rfl ?_
          refine yG.invV (rest := []) A_h261.1 (bOb (d_G W) H_k0) rfl rfl rfl rfl (c_G_changed W (d + 2) A_h261.1 H_k0) (fun rv h263 q9 => ?_)
          obtain ⟨⟨rfl, R_z264⟩, B_h263⟩ := q9
          have A_h263 := A_h261.tr B_h263 (by decide)
          have qq10 : zsl h263 k0 1 = yR r255 := (B_h263.sl H_k0 (by decide)).trans qq9
          show yG _ _ _ _ _ _ _ _ _ _ [] _
          refine yG.load xik rfl (fun _ _ => rfl) (v := yI (z260)) rfl rfl ?_
          refine yG.ret rfl (fun _ _ => rfl) ?_
          exact .inl (yP.int ⟨by omega, by omega⟩ ⟨⟨z260, rfl, by omega, by omega, by omega⟩, A_h263⟩)
        · have c259 : (z258 : Int) = 0 := c259
          exact yG.newT (P := bP _ _ _) rfl rfl (bP.thr rfl ⟨by decide, hp, A_hp, rfl⟩)
      · have c257 : (z256 : Int) = 0 := c257
        exact yG.newT (P := bP _ _ _) rfl rfl (bP.thr rfl ⟨by decide, hp, A_hp, rfl⟩)
    · subst c224
      refine yG.load xak rfl (fun _ _ => rfl) (v := yR k0) rfl rfl ?_
      refine yG.getO A_hp.1 (w_G_net W H_k0) rfl rfl (fun r265 H_r265 O_r265 q_r265 => ?_)
      refine yG.load xik rfl (fun _ _ => rfl) (v := yI (2)) rfl rfl ?_
      refine yG.load xik rfl (fun _ _ => rfl) (v := yI (p2)) rfl rfl ?_
      refine yG.invV (rest := []) A_hp.1 (bOb (d_Net W) H_r265) rfl rfl rfl rfl (c_Net_has_2 W (d + 2) A_hp.1 H_r265 (p2) (by omega) (by omega)) (fun rv hp9 q9 => ?_)
      obtain ⟨⟨z266, rfl, l_z266, u_z266, R_z266⟩, e9⟩ := q9
      rw [e9]
      show yG _ _ _ _ _ _ _ _ _ _ (yI z266 :: []) _
      refine yG.ifz rfl (t := 22) rfl ⟨by omega, by omega⟩ (fun c267 => ?_) (fun c267 => ?_)
      · have c267 : (z266 : Int) ≠ 0 := c267
        refine yG.load xak rfl (fun _ _ => rfl) (v := yR k0) rfl rfl ?_
        refine yG.getS9 A_hp.1 (w_G_net W H_k0) q_r265 rfl rfl ?_
        refine yG.load xik rfl (fun _ _ => rfl) (v := yI (2)) rfl rfl ?_
        refine yG.load xik rfl (fun _ _ => rfl) (v := yI (p2)) rfl rfl ?_
        refine yG.load xik rfl (fun _ _ => rfl) (v := yI (3)) rfl rfl ?_
        refine yG.load xik rfl (fun _ _ => rfl) (v := yI (p4)) rfl rfl ?_
        refine yG.invV (rest := []) A_hp.1 (bOb (d_Net W) H_r265) rfl rfl rfl rfl (c_Net_allows_2_3 W (d + 1) A_hp.1 H_r265 (p2) (p4) (by omega) (by omega) (by omega) (by omega)) (fun rv hp9 q9 => ?_)
        obtain ⟨⟨z268, rfl, l_z268, u_z268, R_z268⟩, e9⟩ := q9
        rw [e9]
        show yG _ _ _ _ _ _ _ _ _ _ (yI z268 :: []) _
        refine yG.ifz rfl (t := 47) rfl ⟨by omega, by omega⟩ (fun c269 => ?_) (fun c269 => ?_)
        · have c269 : (z268 : Int) ≠ 0 := c269
          refine yG.load xak rfl (fun _ _ => rfl) (v := yR k0) rfl rfl ?_
          refine yG.getS9 A_hp.1 (w_G_net W H_k0) q_r265 rfl rfl ?_
          refine yG.load xik rfl (fun _ _ => rfl) (v := yI (2)) rfl rfl ?_
          refine yG.load xik rfl (fun _ _ => rfl) (v := yI (p2)) rfl rfl ?_
          refine yG.load xik rfl (fun _ _ => rfl) (v := yI (3)) rfl rfl ?_
          refine yG.invV (rest := []) A_hp.1 (bOb (d_Net W) H_r265) rfl rfl rfl rfl (c_Net_at_2_3 W (d + 2) A_hp.1 H_r265 (p2) (by omega) (by omega)) (fun rv hp9 q9 => ?_)
          obtain ⟨⟨z270, rfl, l_z270, u_z270, R_z270⟩, e9⟩ := q9
          rw [e9]
          show yG _ _ _ _ _ _ _ _ _ _ (yI z270 :: []) _
          refine yG.store1 xik (L' := [(5, yI (z270)), (0, yR k0), (1, yI (2)), (2, yI (p2)), (3, yI (3)), (4, yI (p4))]) rfl (fun _ _ => rfl) rfl rfl ?_
          refine yG.load xak rfl (fun _ _ => rfl) (v := yR k0) rfl rfl ?_
          refine yG.getS9 A_hp.1 (w_G_net W H_k0) q_r265 rfl rfl ?_
          refine yG.load xik rfl (fun _ _ => rfl) (v := yI (2)) rfl rfl ?_
          refine yG.load xik rfl (fun _ _ => rfl) (v := yI (p2)) rfl rfl ?_
          refine yG.load xik rfl (fun _ _ => rfl) (v := yI (3)) rfl rfl ?_
          refine yG.load xik rfl (fun _ _ => rfl) (v := yI (p4)) rfl rfl ?_
          refine yG.invV (rest := []) A_hp.1 (bOb (d_Net W) H_r265) rfl rfl rfl rfl (c_Net_put_2_3 W (d + 2) A_hp.1 H_r265 (p2) (p4) (by omega) (by omega) (by omega) (by omega)) (fun rv h271 q9 => ?_)
          obtain ⟨⟨rfl, R_z272⟩, B_h271⟩ := q9
          have A_h271 := A_hp.tr B_h271 (by decide)
          have qq11 : zsl h271 k0 1 = yR r265 := (B_h271.sl H_k0 (by decide)).trans q_r265
          show yG _ _ _ _ _ _ _ _ _ _ [] _
          refine yG.load xak rfl (fun _ _ => rfl) (v := yR k0) rfl rfl ?_
          refine yG.invV (rest := []) A_h271.1 (bOb (d_G W) H_k0) rfl rfl rfl rfl (c_G_changed W (d + 2) A_h271.1 H_k0) (fun rv h273 q9 => ?_)
          obtain ⟨⟨rfl, R_z274⟩, B_h273⟩ := q9
          have A_h273 := A_h271.tr B_h273 (by decide)
          have qq12 : zsl h273 k0 1 = yR r265 := (B_h273.sl H_k0 (by decide)).trans qq11
          show yG _ _ _ _ _ _ _ _ _ _ [] _
          refine yG.load xik rfl (fun _ _ => rfl) (v := yI (z270)) rfl rfl ?_
          refine yG.ret rfl (fun _ _ => rfl) ?_
          exact .inl (yP.int ⟨by omega, by omega⟩ ⟨⟨z270, rfl, by omega, by omega, by omega⟩, A_h273⟩)
        · have c269 : (z268 : Int) = 0 := c269
          exact yG.newT (P := bP _ _ _) rfl rfl (bP.thr rfl ⟨by decide, hp, A_hp, rfl⟩)
      · have c267 : (z266 : Int) = 0 := c267
        exact yG.newT (P := bP _ _ _) rfl rfl (bP.thr rfl ⟨by decide, hp, A_hp, rfl⟩)
    · subst c224
      refine yG.load xak rfl (fun _ _ => rfl) (v := yR k0) rfl rfl ?_
      refine yG.getO A_hp.1 (w_G_net W H_k0) rfl rfl (fun r275 H_r275 O_r275 q_r275 => ?_)
      refine yG.load xik rfl (fun _ _ => rfl) (v := yI (2)) rfl rfl ?_
      refine yG.load xik rfl (fun _ _ => rfl) (v := yI (p2)) rfl rfl ?_
      refine yG.invV (rest := []) A_hp.1 (bOb (d_Net W) H_r275) rfl rfl rfl rfl (c_Net_has_2 W (d + 2) A_hp.1 H_r275 (p2) (by omega) (by omega)) (fun rv hp9 q9 => ?_)
      obtain ⟨⟨z276, rfl, l_z276, u_z276, R_z276⟩, e9⟩ := q9
      rw [e9]
      show yG _ _ _ _ _ _ _ _ _ _ (yI z276 :: []) _
      refine yG.ifz rfl (t := 22) rfl ⟨by omega, by omega⟩ (fun c277 => ?_) (fun c277 => ?_)
      · have c277 : (z276 : Int) ≠ 0 := c277
        refine yG.load xak rfl (fun _ _ => rfl) (v := yR k0) rfl rfl ?_
        refine yG.getS9 A_hp.1 (w_G_net W H_k0) q_r275 rfl rfl ?_
        refine yG.load xik rfl (fun _ _ => rfl) (v := yI (2)) rfl rfl ?_
        refine yG.load xik rfl (fun _ _ => rfl) (v := yI (p2)) rfl rfl ?_
        refine yG.load xik rfl (fun _ _ => rfl) (v := yI (4)) rfl rfl ?_
        refine yG.load xik rfl (fun _ _ => rfl) (v := yI (p4)) rfl rfl ?_
        refine yG.invV (rest := []) A_hp.1 (bOb (d_Net W) H_r275) rfl rfl rfl rfl (c_Net_allows_2_4 W (d + 2) A_hp.1 H_r275 (p2) (p4) (by omega) (by omega) (by omega) (by omega)) (fun rv hp9 q9 => ?_)
        obtain ⟨⟨z278, rfl, l_z278, u_z278, R_z278⟩, e9⟩ := q9
        rw [e9]
        show yG _ _ _ _ _ _ _ _ _ _ (yI z278 :: []) _
        refine yG.ifz rfl (t := 47) rfl ⟨by omega, by omega⟩ (fun c279 => ?_) (fun c279 => ?_)
        · have c279 : (z278 : Int) ≠ 0 := c279
          exfalso; omega
        · have c279 : (z278 : Int) = 0 := c279
          exact yG.newT (P := bP _ _ _) rfl rfl (bP.thr rfl ⟨by decide, hp, A_hp, rfl⟩)
      · have c277 : (z276 : Int) = 0 := c277
        exact yG.newT (P := bP _ _ _) rfl rfl (bP.thr rfl ⟨by decide, hp, A_hp, rfl⟩)
    · subst c224
      refine yG.load xak rfl (fun _ _ => rfl) (v := yR k0) rfl rfl ?_
      refine yG.getO A_hp.1 (w_G_net W H_k0) rfl rfl (fun r280 H_r280 O_r280 q_r280 => ?_)
      refine yG.load xik rfl (fun _ _ => rfl) (v := yI (2)) rfl rfl ?_
      refine yG.load xik rfl (fun _ _ => rfl) (v := yI (p2)) rfl rfl ?_
      refine yG.invV (rest := []) A_hp.1 (bOb (d_Net W) H_r280) rfl rfl rfl rfl (c_Net_has_2 W (d + 2) A_hp.1 H_r280 (p2) (by omega) (by omega)) (fun rv hp9 q9 => ?_)
      obtain ⟨⟨z281, rfl, l_z281, u_z281, R_z281⟩, e9⟩ := q9
      rw [e9]
      show yG _ _ _ _ _ _ _ _ _ _ (yI z281 :: []) _
      refine yG.ifz rfl (t := 22) rfl ⟨by omega, by omega⟩ (fun c282 => ?_) (fun c282 => ?_)
      · have c282 : (z281 : Int) ≠ 0 := c282
        refine yG.load xak rfl (fun _ _ => rfl) (v := yR k0) rfl rfl ?_
        refine yG.getS9 A_hp.1 (w_G_net W H_k0) q_r280 rfl rfl ?_
        refine yG.load xik rfl (fun _ _ => rfl) (v := yI (2)) rfl rfl ?_
        refine yG.load xik rfl (fun _ _ => rfl) (v := yI (p2)) rfl rfl ?_
        refine yG.load xik rfl (fun _ _ => rfl) (v := yI (5)) rfl rfl ?_
        refine yG.load xik rfl (fun _ _ => rfl) (v := yI (p4)) rfl rfl ?_
        refine yG.invV (rest := []) A_hp.1 (bOb (d_Net W) H_r280) rfl rfl rfl rfl (c_Net_allows_2_5 W (d + 2) A_hp.1 H_r280 (p2) (p4) (by omega) (by omega) (by omega) (by omega)) (fun rv hp9 q9 => ?_)
        obtain ⟨⟨z283, rfl, l_z283, u_z283, R_z283⟩, e9⟩ := q9
        rw [e9]
        show yG _ _ _ _ _ _ _ _ _ _ (yI z283 :: []) _
        refine yG.ifz rfl (t := 47) rfl ⟨by omega, by omega⟩ (fun c284 => ?_) (fun c284 => ?_)
        · have c284 : (z283 : Int) ≠ 0 := c284
          exfalso; omega
        · have c284 : (z283 : Int) = 0 := c284
          exact yG.newT (P := bP _ _ _) rfl rfl (bP.thr rfl ⟨by decide, hp, A_hp, rfl⟩)
      · have c282 : (z281 : Int) = 0 := c282
        exact yG.newT (P := bP _ _ _) rfl rfl (bP.thr rfl ⟨by decide, hp, A_hp, rfl⟩)
    · subst c224
      refine yG.load xak rfl (fun _ _ => rfl) (v := yR k0) rfl rfl ?_
      refine yG.getO A_hp.1 (w_G_net W H_k0) rfl rfl (fun r285 H_r285 O_r285 q_r285 => ?_)
      refine yG.load xik rfl (fun _ _ => rfl) (v := yI (2)) rfl rfl ?_
      refine yG.load xik rfl (fun _ _ => rfl) (v := yI (p2)) rfl rfl ?_
      refine yG.invV (rest := []) A_hp.1 (bOb (d_Net W) H_r285) rfl rfl rfl rfl (c_Net_has_2 W (d + 2) A_hp.1 H_r285 (p2) (by omega) (by omega)) (fun rv hp9 q9 => ?_)
      obtain ⟨⟨z286, rfl, l_z286, u_z286, R_z286⟩, e9⟩ := q9
      rw [e9]
      show yG _ _ _ _ _ _ _ _ _ _ (yI z286 :: []) _
      refine yG.ifz rfl (t := 22) rfl ⟨by omega, by omega⟩ (fun c287 => ?_) (fun c287 => ?_)
      · have c287 : (z286 : Int) ≠ 0 := c287
        refine yG.load xak rfl (fun _ _ => rfl) (v := yR k0) rfl rfl ?_
        refine yG.getS9 A_hp.1 (w_G_net W H_k0) q_r285 rfl rfl ?_
        refine yG.load xik rfl (fun _ _ => rfl) (v := yI (2)) rfl rfl ?_
        refine yG.load xik rfl (fun _ _ => rfl) (v := yI (p2)) rfl rfl ?_
        refine yG.load xik rfl (fun _ _ => rfl) (v := yI (6)) rfl rfl ?_
        refine yG.load xik rfl (fun _ _ => rfl) (v := yI (p4)) rfl rfl ?_
        refine yG.invV (rest := []) A_hp.1 (bOb (d_Net W) H_r285) rfl rfl rfl rfl (c_Net_allows_2_6 W (d + 2) A_hp.1 H_r285 (p2) (p4) (by omega) (by omega) (by omega) (by omega)) (fun rv hp9 q9 => ?_)
        obtain ⟨⟨z288, rfl, l_z288, u_z288, R_z288⟩, e9⟩ := q9
        rw [e9]
        show yG _ _ _ _ _ _ _ _ _ _ (yI z288 :: []) _
        refine yG.ifz rfl (t := 47) rfl ⟨by omega, by omega⟩ (fun c289 => ?_) (fun c289 => ?_)
        · have c289 : (z288 : Int) ≠ 0 := c289
          exfalso; omega
        · have c289 : (z288 : Int) = 0 := c289
          exact yG.newT (P := bP _ _ _) rfl rfl (bP.thr rfl ⟨by decide, hp, A_hp, rfl⟩)
      · have c287 : (z286 : Int) = 0 := c287
        exact yG.newT (P := bP _ _ _) rfl rfl (bP.thr rfl ⟨by decide, hp, A_hp, rfl⟩)
    · subst c224
      refine yG.load xak rfl (fun _ _ => rfl) (v := yR k0) rfl rfl ?_
      refine yG.getO A_hp.1 (w_G_net W H_k0) rfl rfl (fun r290 H_r290 O_r290 q_r290 => ?_)
      refine yG.load xik rfl (fun _ _ => rfl) (v := yI (2)) rfl rfl ?_
      refine yG.load xik rfl (fun _ _ => rfl) (v := yI (p2)) rfl rfl ?_
      refine yG.invV (rest := []) A_hp.1 (bOb (d_Net W) H_r290) rfl rfl rfl rfl (c_Net_has_2 W (d + 2) A_hp.1 H_r290 (p2) (by omega) (by omega)) (fun rv hp9 q9 => ?_)
      obtain ⟨⟨z291, rfl, l_z291, u_z291, R_z291⟩, e9⟩ := q9
      rw [e9]
      show yG _ _ _ _ _ _ _ _ _ _ (yI z291 :: []) _
      refine yG.ifz rfl (t := 22) rfl ⟨by omega, by omega⟩ (fun c292 => ?_) (fun c292 => ?_)
      · have c292 : (z291 : Int) ≠ 0 := c292
        refine yG.load xak rfl (fun _ _ => rfl) (v := yR k0) rfl rfl ?_
        refine yG.getS9 A_hp.1 (w_G_net W H_k0) q_r290 rfl rfl ?_
        refine yG.load xik rfl (fun _ _ => rfl) (v := yI (2)) rfl rfl ?_
        refine yG.load xik rfl (fun _ _ => rfl) (v := yI (p2)) rfl rfl ?_
        refine yG.load xik rfl (fun _ _ => rfl) (v := yI (7)) rfl rfl ?_
        refine yG.load xik rfl (fun _ _ => rfl) (v := yI (p4)) rfl rfl ?_
        refine yG.invV (rest := []) A_hp.1 (bOb (d_Net W) H_r290) rfl rfl rfl rfl (c_Net_allows_2_7 W (d + 2) A_hp.1 H_r290 (p2) (p4) (by omega) (by omega) (by omega) (by omega)) (fun rv hp9 q9 => ?_)
        obtain ⟨⟨z293, rfl, l_z293, u_z293, R_z293⟩, e9⟩ := q9
        rw [e9]
        show yG _ _ _ _ _ _ _ _ _ _ (yI z293 :: []) _
        refine yG.ifz rfl (t := 47) rfl ⟨by omega, by omega⟩ (fun c294 => ?_) (fun c294 => ?_)
        · have c294 : (z293 : Int) ≠ 0 := c294
          exfalso; omega
        · have c294 : (z293 : Int) = 0 := c294
          exact yG.newT (P := bP _ _ _) rfl rfl (bP.thr rfl ⟨by decide, hp, A_hp, rfl⟩)
      · have c292 : (z291 : Int) = 0 := c292
        exact yG.newT (P := bP _ _ _) rfl rfl (bP.thr rfl ⟨by decide, hp, A_hp, rfl⟩)
    · subst c224
      refine yG.load xak rfl (fun _ _ => rfl) (v := yR k0) rfl rfl ?_
      refine yG.getO A_hp.1 (w_G_net W H_k0) rfl rfl (fun r295 H_r295 O_r295 q_r295 => ?_)
      refine yG.load xik rfl (fun _ _ => rfl) (v := yI (2)) rfl rfl ?_
      refine yG.load xik rfl (fun _ _ => rfl) (v := yI (p2)) rfl rfl ?_
      refine yG.invV (rest := []) A_hp.1 (bOb (d_Net W) H_r295) rfl rfl rfl rfl (c_Net_has_2 W (d + 2) A_hp.1 H_r295 (p2) (by omega) (by omega)) (fun rv hp9 q9 => ?_)
      obtain ⟨⟨z296, rfl, l_z296, u_z296, R_z296⟩, e9⟩ := q9
      rw [e9]
      show yG _ _ _ _ _ _ _ _ _ _ (yI z296 :: []) _
      refine yG.ifz rfl (t := 22) rfl ⟨by omega, by omega⟩ (fun c297 => ?_) (fun c297 => ?_)
      · have c297 : (z296 : Int) ≠ 0 := c297
        refine yG.load xak rfl (fun _ _ => rfl) (v := yR k0) rfl rfl ?_
        refine yG.getS9 A_hp.1 (w_G_net W H_k0) q_r295 rfl rfl ?_
        refine yG.load xik rfl (fun _ _ => rfl) (v := yI (2)) rfl rfl ?_
        refine yG.load xik rfl (fun _ _ => rfl) (v := yI (p2)) rfl rfl ?_
        refine yG.load xik rfl (fun _ _ => rfl) (v := yI (8)) rfl rfl ?_
        refine yG.load xik rfl (fun _ _ => rfl) (v := yI (p4)) rfl rfl ?_
        refine yG.invV (rest := []) A_hp.1 (bOb (d_Net W) H_r295) rfl rfl rfl rfl (c_Net_allows_2_8 W (d + 2) A_hp.1 H_r295 (p2) (p4) (by omega) (by omega) (by omega) (by omega)) (fun rv hp9 q9 => ?_)
        obtain ⟨⟨z298, rfl, l_z298, u_z298, R_z298⟩, e9⟩ := q9
        rw [e9]
        show yG _ _ _ _ _ _ _ _ _ _ (yI z298 :: []) _
        refine yG.ifz rfl (t := 47) rfl ⟨by omega, by omega⟩ (fun c299 => ?_) (fun c299 => ?_)
        · have c299 : (z298 : Int) ≠ 0 := c299
          exfalso; omega
        · have c299 : (z298 : Int) = 0 := c299
          exact yG.newT (P := bP _ _ _) rfl rfl (bP.thr rfl ⟨by decide, hp, A_hp, rfl⟩)
      · have c297 : (z296 : Int) = 0 := c297
        exact yG.newT (P := bP _ _ _) rfl rfl (bP.thr rfl ⟨by decide, hp, A_hp, rfl⟩)
    · subst c224
      refine yG.load xak rfl (fun _ _ => rfl) (v := yR k0) rfl rfl ?_
      refine yG.getO A_hp.1 (w_G_net W H_k0) rfl rfl (fun r300 H_r300 O_r300 q_r300 => ?_)
      refine yG.load xik rfl (fun _ _ => rfl) (v := yI (2)) rfl rfl ?_
      refine yG.load xik rfl (fun _ _ => rfl) (v := yI (p2)) rfl rfl ?_
      refine yG.invV (rest := []) A_hp.1 (bOb (d_Net W) H_r300) rfl rfl rfl rfl (c_Net_has_2 W (d + 2) A_hp.1 H_r300 (p2) (by omega) (by omega)) (fun rv hp9 q9 => ?_)
      obtain ⟨⟨z301, rfl, l_z301, u_z301, R_z301⟩, e9⟩ := q9
      rw [e9]
      show yG _ _ _ _ _ _ _ _ _ _ (yI z301 :: []) _
      refine yG.ifz rfl (t := 22) rfl ⟨by omega, by omega⟩ (fun c302 => ?_) (fun c302 => ?_)
      · have c302 : (z301 : Int) ≠ 0 := c302
        refine yG.load xak rfl (fun _ _ => rfl) (v := yR k0) rfl rfl ?_
        refine yG.getS9 A_hp.1 (w_G_net W H_k0) q_r300 rfl rfl ?_
        refine yG.load xik rfl (fun _ _ => rfl) (v := yI (2)) rfl rfl ?_
        refine yG.load xik rfl (fun _ _ => rfl) (v := yI (p2)) rfl rfl ?_
        refine yG.load xik rfl (fun _ _ => rfl) (v := yI (9)) rfl rfl ?_
        refine yG.load xik rfl (fun _ _ => rfl) (v := yI (p4)) rfl rfl ?_
        refine yG.invV (rest := []) A_hp.1 (bOb (d_Net W) H_r300) rfl rfl rfl rfl (c_Net_allows_2_9 W (d + 2) A_hp.1 H_r300 (p2) (p4) (by omega) (by omega) (by omega) (by omega)) (fun rv hp9 q9 => ?_)
        obtain ⟨⟨z303, rfl, l_z303, u_z303, R_z303⟩, e9⟩ := q9
        rw [e9]
        show yG _ _ _ _ _ _ _ _ _ _ (yI z303 :: []) _
        refine yG.ifz rfl (t := 47) rfl ⟨by omega, by omega⟩ (fun c304 => ?_) (fun c304 => ?_)
        · have c304 : (z303 : Int) ≠ 0 := c304
          exfalso; omega
        · have c304 : (z303 : Int) = 0 := c304
          exact yG.newT (P := bP _ _ _) rfl rfl (bP.thr rfl ⟨by decide, hp, A_hp, rfl⟩)
      · have c302 : (z301 : Int) = 0 := c302
        exact yG.newT (P := bP _ _ _) rfl rfl (bP.thr rfl ⟨by decide, hp, A_hp, rfl⟩)
    · subst c224
      refine yG.load xak rfl (fun _ _ => rfl) (v := yR k0) rfl rfl ?_
      refine yG.getO A_hp.1 (w_G_net W H_k0) rfl rfl (fun r305 H_r305 O_r305 q_r305 => ?_)
      refine yG.load xik rfl (fun _ _ => rfl) (v := yI (2)) rfl rfl ?_
      refine yG.load xik rfl (fun _ _ => rfl) (v := yI (p2)) rfl rfl ?_
      refine yG.invV (rest := []) A_hp.1 (bOb (d_Net W) H_r305) rfl rfl rfl rfl (c_Net_has_2 W (d + 2) A_hp.1 H_r305 (p2) (by omega) (by omega)) (fun rv hp9 q9 => ?_)
      obtain ⟨⟨z306, rfl, l_z306, u_z306, R_z306⟩, e9⟩ := q9
      rw [e9]
      show yG _ _ _ _ _ _ _ _ _ _ (yI z306 :: []) _
      refine yG.ifz rfl (t := 22) rfl ⟨by omega, by omega⟩ (fun c307 => ?_) (fun c307 => ?_)
      · have c307 : (z306 : Int) ≠ 0 := c307
        refine yG.load xak rfl (fun _ _ => rfl) (v := yR k0) rfl rfl ?_
        refine yG.getS9 A_hp.1 (w_G_net W H_k0) q_r305 rfl rfl ?_
        refine yG.load xik rfl (fun _ _ => rfl) (v := yI (2)) rfl rfl ?_
        refine yG.load xik rfl (fun _ _ => rfl) (v := yI (p2)) rfl rfl ?_
        refine yG.load xik rfl (fun _ _ => rfl) (v := yI (10)) rfl rfl ?_
        refine yG.load xik rfl (fun _ _ => rfl) (v := yI (p4)) rfl rfl ?_
        refine yG.invV (rest := []) A_hp.1 (bOb (d_Net W) H_r305) rfl rfl rfl rfl (c_Net_allows_2_10 W (d + 2) A_hp.1 H_r305 (p2) (p4) (by omega) (by omega) (by omega) (by omega)) (fun rv hp9 q9 => ?_)
        obtain ⟨⟨z308, rfl, l_z308, u_z308, R_z308⟩, e9⟩ := q9
        rw [e9]
        show yG _ _ _ _ _ _ _ _ _ _ (yI z308 :: []) _
        refine yG.ifz rfl (t := 47) rfl ⟨by omega, by omega⟩ (fun c309 => ?_) (fun c309 => ?_)
        · have c309 : (z308 : Int) ≠ 0 := c309
          exfalso; omega
        · have c309 : (z308 : Int) = 0 := c309
          exact yG.newT (P := bP _ _ _) rfl rfl (bP.thr rfl ⟨by decide, hp, A_hp, rfl⟩)
      · have c307 : (z306 : Int) = 0 := c307
        exact yG.newT (P := bP _ _ _) rfl rfl (bP.thr rfl ⟨by decide, hp, A_hp, rfl⟩)
  · subst c1
    rcases (show p3 ≤ (-1) ∨ p3 ≥ 11 ∨ p3 = 0 ∨ p3 = 1 ∨ p3 = 2 ∨ p3 = 3 ∨ p3 = 4 ∨ p3 = 5 ∨ p3 = 6 ∨ p3 = 7 ∨ p3 = 8 ∨ p3 = 9 ∨ p3 = 10 by omega) with c310 | c310 | c310 | c310 | c310 | c310 | c310 | c310 | c310 | c310 | c310 | c310 | c310
    · skip
      refine yG.load xak rfl (fun _ _ => rfl) (v := yR k0) rfl rfl ?_
      refine yG.getO A_hp.1 (w_G_net W H_k0) rfl rfl (fun r311 H_r311 O_r311 q_r311 => ?_)
      refine yG.load xik rfl (fun _ _ => rfl) (v := yI (3)) rfl rfl ?_
      refine yG.load xik rfl (fun _ _ => rfl) (v := yI (p2)) rfl rfl ?_
      refine yG.invV (rest := []) A_hp.1 (bOb (d_Net W) H_r311) rfl rfl rfl rfl (c_Net_has_3 W (d + 2) A_hp.1 H_r311 (p2) (by omega) (by omega)) (fun rv hp9 q9 => ?_)
      obtain ⟨⟨z312, rfl, l_z312, u_z312, R_z312⟩, e9⟩ := q9
      rw [e9]
      show yG _ _ _ _ _ _ _ _ _ _ (yI z312 :: []) _
      refine yG.ifz rfl (t := 22) rfl ⟨by omega, by omega⟩ (fun c313 => ?_) (fun c313 => ?_)
      · have c313 : (z312 : Int) ≠ 0 := c313
        refine yG.load xak rfl (fun _ _ => rfl) (v := yR k0) rfl rfl ?_
        refine yG.getS9 A_hp.1 (w_G_net W H_k0) q_r311 rfl rfl ?_
        refine yG.load xik rfl (fun _ _ => rfl) (v := yI (3)) rfl rfl ?_
        refine yG.load xik rfl (fun _ _ => rfl) (v := yI (p2)) rfl rfl ?_
        refine yG.load xik rfl (fun _ _ => rfl) (v := yI (p3)) rfl rfl ?_
        refine yG.load xik rfl (fun _ _ => rfl) (v := yI (p4)) rfl rfl ?_
        refine yG.invV (rest := []) A_hp.1 (bOb (d_Net W) H_r311) rfl rfl rfl rfl (c_Net_allows_3_l W (d + 2) A_hp.1 H_r311 (p2) (p3) (p4) (by omega) (by omega) (by omega) (by omega) (by omega) (by omega)) (fun rv hp9 q9 => ?_)
        obtain ⟨⟨z314, rfl, l_z314, u_z314, R_z314⟩, e9⟩ := q9
        rw [e9]
        show yG _ _ _ _ _ _ _ _ _ _ (yI z314 :: []) _
        refine yG.ifz rfl (t := 47) rfl ⟨by omega, by omega⟩ (fun c315 => ?_) (fun c315 => ?_)
        · have c315 : (z314 : Int) ≠ 0 := c315
          exfalso; omega
        · have c315 : (z314 : Int) = 0 := c315
          exact yG.newT (P := bP _ _ _) rfl rfl (bP.thr rfl ⟨by decide, hp, A_hp, rfl⟩)
      · have c313 : (z312 : Int) = 0 := c313
        exact yG.newT (P := bP _ _ _) rfl rfl (bP.thr rfl ⟨by decide, hp, A_hp, rfl⟩)
    · skip
      refine yG.load xak rfl (fun _ _ => rfl) (v := yR k0) rfl rfl ?_
      refine yG.getO A_hp.1 (w_G_net W H_k0) rfl rfl (fun r316 H_r316 O_r316 q_r316 => ?_)
      refine yG.load xik rfl (fun _ _ => rfl) (v := yI (3)) rfl rfl ?_
      refine yG.load xik rfl (fun _ _ => rfl) (v := yI (p2)) rfl rfl ?_
      refine yG.invV (rest := []) A_hp.1 (bOb (d_Net W) H_r316) rfl rfl rfl rfl (c_Net_has_3 W (d + 2) A_hp.1 H_r316 (p2) (by omega) (by omega)) (fun rv hp9 q9 => ?_)
      obtain ⟨⟨z317, rfl, l_z317, u_z317, R_z317⟩, e9⟩ := q9
      rw [e9]
      show yG _ _ _ _ _ _ _ _ _ _ (yI z317 :: []) _
      refine yG.ifz rfl (t := 22) rfl ⟨by omega, by omega⟩ (fun c318 => ?_) (fun c318 => ?_)
      · have c318 : (z317 : Int) ≠ 0 := c318
        refine yG.load xak rfl (fun _ _ => rfl) (v := yR k0) rfl rfl ?_
        refine yG.getS9 A_hp.1 (w_G_net W H_k0) q_r316 rfl rfl ?_
        refine yG.load xik rfl (fun _ _ => rfl) (v := yI (3)) rfl rfl ?_
        refine yG.load xik rfl (fun _ _ => rfl) (v := yI (p2)) rfl rfl ?_
        refine yG.load xik rfl (fun _ _ => rfl) (v := yI (p3)) rfl rfl ?_
        refine yG.load xik rfl (fun _ _ => rfl) (v := yI (p4)) rfl rfl ?_
        refine yG.invV (rest := []) A_hp.1 (bOb (d_Net W) H_r316) rfl rfl rfl rfl (c_Net_allows_3_h W (d + 2) A_hp.1 H_r316 (p2) (p3) (p4) (by omega) (by omega) (by omega) (by omega) (by omega) (by omega)) (fun rv hp9 q9 => ?_)
        obtain ⟨⟨z319, rfl, l_z319, u_z319, R_z319⟩, e9⟩ := q9
        rw [e9]
        show yG _ _ _ _ _ _ _ _ _ _ (yI z319 :: []) _
        refine yG.ifz rfl (t := 47) rfl ⟨by omega, by omega⟩ (fun c320 => ?_) (fun c320 => ?_)
        · have c320 : (z319 : Int) ≠ 0 := c320
          exfalso; omega
        · have c320 : (z319 : Int) = 0 := c320
          exact yG.newT (P := bP _ _ _) rfl rfl (bP.thr rfl ⟨by decide, hp, A_hp, rfl⟩)
      · have c318 : (z317 : Int) = 0 := c318
        exact yG.newT (P := bP _ _ _) rfl rfl (bP.thr rfl ⟨by decide, hp, A_hp, rfl⟩)
    · subst c310
      refine yG.load xak rfl (fun _ _ => rfl) (v := yR k0) rfl rfl ?_
      refine yG.getO A_hp.1 (w_G_net W H_k0) rfl rfl (fun r321 H_r321 O_r321 q_r321 => ?_)
      refine yG.load xik rfl (fun _ _ => rfl) (v := yI (3)) rfl rfl ?_
      refine yG.load xik rfl (fun _ _ => rfl) (v := yI (p2)) rfl rfl ?_
      refine yG.invV (rest := []) A_hp.1 (bOb (d_Net W) H_r321) rfl rfl rfl rfl (c_Net_has_3 W (d + 2) A_hp.1 H_r321 (p2) (by omega) (by omega)) (fun rv hp9 q9 => ?_)
      obtain ⟨⟨z322, rfl, l_z322, u_z322, R_z322⟩, e9⟩ := q9
      rw [e9]
      show yG _ _ _ _ _ _ _ _ _ _ (yI z322 :: []) _
      refine yG.ifz rfl (t := 22) rfl ⟨by omega, by omega⟩ (fun c323 => ?_) (fun c323 => ?_)
      · have c323 : (z322 : Int) ≠ 0 := c323
        refine yG.load xak rfl (fun _ _ => rfl) (v := yR k0) rfl rfl ?_
        refine yG.getS9 A_hp.1 (w_G_net W H_k0) q_r321 rfl rfl ?_
        refine yG.load xik rfl (fun _ _ => rfl) (v := yI (3)) rfl rfl ?_
        refine yG.load xik rfl (fun _ _ => rfl) (v := yI (p2)) rfl rfl ?_
        refine yG.load xik rfl (fun _ _ => rfl) (v := yI (0)) rfl rfl ?_
        refine yG.load xik rfl (fun _ _ => rfl) (v := yI (p4)) rfl rfl ?_
        refine yG.invV (rest := []) A_hp.1 (bOb (d_Net W) H_r321) rfl rfl rfl rfl (c_Net_allows_3_0 W d A_hp.1 H_r321 (p2) (p4) (by omega) (by omega) (by omega) (by omega)) (fun rv hp9 q9 => ?_)
        obtain ⟨⟨z324, rfl, l_z324, u_z324, R_z324⟩, e9⟩ := q9
        rw [e9]
        show yG _ _ _ _ _ _ _ _ _ _ (yI z324 :: []) _
        refine yG.ifz rfl (t := 47) rfl ⟨by omega, by omega⟩ (fun c325 => ?_) (fun c325 => ?_)
        · have c325 : (z324 : Int) ≠ 0 := c325
          refine yG.load xak rfl (fun _ _ => rfl) (v := yR k0) rfl rfl ?_
          refine yG.getS9 A_hp.1 (w_G_net W H_k0) q_r321 rfl rfl ?_
          refine yG.load xik rfl (fun _ _ => rfl) (v := yI (3)) rfl rfl ?_
          refine yG.load xik rfl (fun _ _ => rfl) (v := yI (p2)) rfl rfl ?_
          refine yG.load xik rfl (fun _ _ => rfl) (v := yI (0)) rfl rfl ?_
          refine yG.invV (rest := []) A_hp.1 (bOb (d_Net W) H_r321) rfl rfl rfl rfl (c_Net_at_3_0 W (d + 2) A_hp.1 H_r321 (p2) (by omega) (by omega)) (fun rv hp9 q9 => ?_)
          obtain ⟨⟨z326, rfl, l_z326, u_z326, R_z326⟩, e9⟩ := q9
          rw [e9]
          show yG _ _ _ _ _ _ _ _ _ _ (yI z326 :: []) _
          refine yG.store1 xik (L' := [(5, yI (z326)), (0, yR k0), (1, yI (3)), (2, yI (p2)), (3, yI (0)), (4, yI (p4))]) rfl (fun _ _ => rfl) rfl rfl ?_
          refine yG.load xak rfl (fun _ _ => rfl) (v := yR k0) rfl rfl ?_
          refine yG.getS9 A_hp.1 (w_G_net W H_k0) q_r321 rfl rfl ?_
          refine yG.load xik rfl (fun _ _ => rfl) (v := yI (3)) rfl rfl ?_
          refine yG.load xik rfl (fun _ _ => rfl) (v := yI (p2)) rfl rfl ?_
          refine yG.load xik rfl (fun _ _ => rfl) (v := yI (0)) rfl rfl ?_
          refine yG.load xik rfl (fun _ _ => rfl) (v := yI (p4)) rfl rfl ?_
          refine yG.invV (rest := []) A_hp.1 (bOb (d_Net W) H_r321) rfl rfl rfl rfl (c_Net_put_3_0 W (d + 2) A_hp.1 H_r321 (p2) (p4) (by omega) (by omega) (by omega) (by omega)) (fun rv h327 q9 => ?_)
          obtain ⟨⟨rfl, R_z328⟩, B_h327⟩ := q9
          have A_h327 := A_hp.tr B_h327 (by decide)
          have qq13 : zsl h327 k0 1 = yR r321 := (B_h327.sl H_k0 (by decide)).trans q_r321
          show yG _ _ _ _ _ _ _ _ _ _ [] _
          refine yG.load xak rfl (fun _ _ => rfl) (v := yR k0) rfl rfl ?_
          refine yG.invV (rest := []) A_h327.1 (bOb (d_G W) H_k0) rfl rfl rfl rfl (c_G_changed W (d + 2) A_h327.1 H_k0) (fun rv h329 q9 => ?_)
          obtain ⟨⟨rfl, R_z330⟩, B_h329⟩ := q9
          have A_h329 := A_h327.tr B_h329 (by decide)
          have qq14 : zsl h329 k0 1 = yR r321 := (B_h329.sl H_k0 (by decide)).trans qq13
          show yG _ _ _ _ _ _ _ _ _ _ [] _
          refine yG.load xik rfl (fun _ _ => rfl) (v := yI (z326)) rfl rfl ?_
          refine yG.ret rfl (fun _ _ => rfl) ?_
          exact .inl (yP.int ⟨by omega, by omega⟩ ⟨⟨z326, rfl, by omega, by omega, by omega⟩, A_h329⟩)
        · have c325 : (z324 : Int) = 0 := c325
          exact yG.newT (P := bP _ _ _) rfl rfl (bP.thr rfl ⟨by decide, hp, A_hp, rfl⟩)
      · have c323 : (z322 : Int) = 0 := c323
        exact yG.newT (P := bP _ _ _) rfl rfl (bP.thr rfl ⟨by decide, hp, A_hp, rfl⟩)
    · subst c310
      refine yG.load xak rfl (fun _ _ => rfl) (v := yR k0) rfl rfl ?_
      refine yG.getO A_hp.1 (w_G_net W H_k0) rfl rfl (fun r331 H_r331 O_r331 q_r331 => ?_)
      refine yG.load xik rfl (fun _ _ => rfl) (v := yI (3)) rfl rfl ?_
      refine yG.load xik rfl (fun _ _ => rfl) (v := yI (p2)) rfl rfl ?_
      refine yG.invV (rest := []) A_hp.1 (bOb (d_Net W) H_r331) rfl rfl rfl rfl (c_Net_has_3 W (d + 2) A_hp.1 H_r331 (p2) (by omega) (by omega)) (fun rv hp9 q9 => ?_)
      obtain ⟨⟨z332, rfl, l_z332, u_z332, R_z332⟩, e9⟩ := q9
      rw [e9]
      show yG _ _ _ _ _ _ _ _ _ _ (yI z332 :: []) _
      refine yG.ifz rfl (t := 22) rfl ⟨by omega, by omega⟩ (fun c333 => ?_) (fun c333 => ?_)
      · have c333 : (z332 : Int) ≠ 0 := c333
        refine yG.load xak rfl (fun _ _ => rfl) (v := yR k0) rfl rfl ?_
        refine yG.getS9 A_hp.1 (w_G_net W H_k0) q_r331 rfl rfl ?_
        refine yG.load xik rfl (fun _ _ => rfl) (v := yI (3)) rfl rfl ?_
        refine yG.load xik rfl (fun _ _ => rfl) (v := yI (p2)) rfl rfl ?_
        refine yG.load xik rfl (fun _ _ => rfl) (v := yI (1)) rfl rfl ?_
        refine yG.load xik rfl (fun _ _ => rfl) (v := yI (p4)) rfl rfl ?_
        refine yG.invV (rest := []) A_hp.1 (bOb (d_Net W) H_r331) rfl rfl rfl rfl (c_Net_allows_3_1 W d A_hp.1 H_r331 (p2) (p4) (by omega) (by omega) (by omega) (by omega)) (fun rv hp9 q9 => ?_)
        obtain ⟨⟨z334, rfl, l_z334, u_z334, R_z334⟩, e9⟩ := q9
        rw [e9]
        show yG _ _ _ _ _ _ _ _ _ _ (yI z334 :: []) _
        refine yG.ifz rfl (t := 47) rfl ⟨by omega, by omega⟩ (fun c335 => ?_) (fun c335 => ?_)
        · have c335 : (z334 : Int) ≠ 0 := c335
          refine yG.load xak rfl (fun _ _ => rfl) (v := yR k0) rfl rfl ?_
          refine yG.getS9 A_hp.1 (w_G_net W H_k0) q_r331 rfl rfl ?_
          refine yG.load xik rfl (fun _ _ => rfl) (v := yI (3)) rfl rfl ?_
          refine yG.load xik rfl (fun _ _ => rfl) (v := yI (p2)) rfl rfl ?_
          refine yG.load xik rfl (fun _ _ => rfl) (v := yI (1)) rfl rfl ?_
          refine yG.invV (rest := []) A_hp.1 (bOb (d_Net W) H_r331) rfl rfl rfl rfl (c_Net_at_3_1 W (d + 2) A_hp.1 H_r331 (p2) (by omega) (by omega)) (fun rv hp9 q9 => ?_)
          obtain ⟨⟨z336, rfl, l_z336, u_z336, R_z336⟩, e9⟩ := q9
          rw [e9]
          show yG _ _ _ _ _ _ _ _ _ _ (yI z336 :: []) _
          refine yG.store1 xik (L' := [(5, yI (z336)), (0, yR k0), (1, yI (3)), (2, yI (p2)), (3, yI (1)), (4, yI (p4))]) rfl (fun _ _ => rfl) rfl rfl ?_
          refine yG.load xak rfl (fun _ _ => rfl) (v := yR k0) rfl rfl ?_
          refine yG.getS9 A_hp.1 (w_G_net W H_k0) q_r331 rfl rfl ?_
          refine yG.load xik rfl (fun _ _ => rfl) (v := yI (3)) rfl rfl ?_
          refine yG.load xik rfl (fun _ _ => rfl) (v := yI (p2)) rfl rfl ?_
          refine yG.load xik rfl (fun _ _ => rfl) (v := yI (1)) rfl rfl ?_
          refine yG.load xik rfl (fun _ _ => rfl) (v := yI (p4)) rfl rfl ?_
          refine yG.invV (rest := []) A_hp.1 (bOb (d_Net W) H_r331) rfl rfl rfl rfl (c_Net_put_3_1 W (d + 2) A_hp.1 H_r331 (p2) (p4) (by omega) (by omega) (by omega) (by omega)) (fun rv h337 q9 => ?_)
          obtain ⟨⟨rfl, R_z338⟩, B_h337⟩ := q9
          have A_h337 := A_hp.tr B_h337 (by decide)
          have qq15 : zsl h337 k0 1 = yR r331 := (B_h337.sl H_k0 (by decide)).trans q_r331
          show yG _ _ _ _ _ _ _ _ _ _ [] _
          refine yG.load xak rfl (fun _ _ => rfl) (v := yR k0) rfl rfl ?_
          refine yG.invV (rest := []) A_h337.1 (bOb (d_G W) H_k0) rfl rfl rfl rfl (c_G_changed W (d + 2) A_h337.1 H_k0) (fun rv h339 q9 => ?_)
          obtain ⟨⟨rfl, R_z340⟩, B_h339⟩ := q9
          have A_h339 := A_h337.tr B_h339 (by decide)
          have qq16 : zsl h339 k0 1 = yR r331 := (B_h339.sl H_k0 (by decide)).trans qq15
          show yG _ _ _ _ _ _ _ _ _ _ [] _
          refine yG.load xik rfl (fun _ _ => rfl) (v := yI (z336)) rfl rfl ?_
          refine yG.ret rfl (fun _ _ => rfl) ?_
          exact .inl (yP.int ⟨by omega, by omega⟩ ⟨⟨z336, rfl, by omega, by omega, by omega⟩, A_h339⟩)
        · have c335 : (z334 : Int) = 0 := c335
          exact yG.newT (P := bP _ _ _) rfl rfl (bP.thr rfl ⟨by decide, hp, A_hp, rfl⟩)
      · have c333 : (z332 : Int) = 0 := c333
        exact yG.newT (P := bP _ _ _) rfl rfl (bP.thr rfl ⟨by decide, hp, A_hp, rfl⟩)
    · subst c310
      refine yG.load xak rfl (fun _ _ => rfl) (v := yR k0) rfl rfl ?_
      refine yG.getO A_hp.1 (w_G_net W H_k0) rfl rfl (fun r341 H_r341 O_r341 q_r341 => ?_)
      refine yG.load xik rfl (fun _ _ => rfl) (v := yI (3)) rfl rfl ?_
      refine yG.load xik rfl (fun _ _ => rfl) (v := yI (p2)) rfl rfl ?_
      refine yG.invV (rest := []) A_hp.1 (bOb (d_Net W) H_r341) rfl rfl rfl rfl (c_Net_has_3 W (d + 2) A_hp.1 H_r341 (p2) (by omega) (by omega)) (fun rv hp9 q9 => ?_)
      obtain ⟨⟨z342, rfl, l_z342, u_z342, R_z342⟩, e9⟩ := q9
      rw [e9]
      show yG _ _ _ _ _ _ _ _ _ _ (yI z342 :: []) _
      refine yG.ifz rfl (t := 22) rfl ⟨by omega, by omega⟩ (fun c343 => ?_) (fun c343 => ?_)
      · have c343 : (z342 : Int) ≠ 0 := c343
        refine yG.load xak rfl (fun _ _ => rfl) (v := yR k0) rfl rfl ?_
        refine yG.getS9 A_hp.1 (w_G_net W H_k0) q_r341 rfl rfl ?_
        refine yG.load xik rfl (fun _ _ => rfl) (v := yI (3)) rfl rfl ?_
        refine yG.load xik rfl (fun _ _ => rfl) (v := yI (p2)) rfl rfl ?_
        refine yG.load xik rfl (fun _ _ => rfl) (v := yI (2)) rfl rfl ?_
        refine yG.load xik rfl (fun _ _ => rfl) (v := yI (p4)) rfl rfl ?_
        refine yG.invV (rest := []) A_hp.1 (bOb (d_Net W) H_r341) rfl rfl rfl rfl (c_Net_allows_3_2 W d A_hp.1 H_r341 (p2) (p4) (by omega) (by omega) (by omega) (by omega)) (fun rv hp9 q9 => ?_)
        obtain ⟨⟨z344, rfl, l_z344, u_z344, R_z344⟩, e9⟩ := q9
        rw [e9]
        show yG _ _ _ _ _ _ _ _ _ _ (yI z344 :: []) _
        refine yG.ifz rfl (t := 47) rfl ⟨by omega, by omega⟩ (fun c345 => ?_) (fun c345 => ?_)
        · have c345 : (z344 : Int) ≠ 0 := c345
          refine yG.load xak rfl (fun _ _ => rfl) (v := yR k0) rfl rfl ?_
          refine yG.getS9 A_hp.1 (w_G_net W H_k0) q_r341 rfl rfl ?_
          refine yG.load xik rfl (fun _ _ => rfl) (v := yI (3)) rfl rfl ?_
          refine yG.load xik rfl (fun _ _ => rfl) (v := yI (p2)) rfl rfl ?_
          refine yG.load xik rfl (fun _ _ => rfl) (v := yI (2)) rfl rfl ?_
          refine yG.invV (rest := []) A_hp.1 (bOb (d_Net W) H_r341) rfl rfl rfl rfl (c_Net_at_3_2 W (d + 2) A_hp.1 H_r341 (p2) (by omega) (by omega)) (fun rv hp9 q9 => ?_)
          obtain ⟨⟨z346, rfl, l_z346, u_z346, R_z346⟩, e9⟩ := q9
          rw [e9]
          show yG _ _ _ _ _ _ _ _ _ _ (yI z346 :: []) _
          refine yG.store1 xik (L' := [(5, yI (z346)), (0, yR k0), (1, yI (3)), (2, yI (p2)), (3, yI (2)), (4, yI (p4))]) rfl (fun _ _ => rfl) rfl rfl ?_
          refine yG.load xak rfl (fun _ _ => rfl) (v := yR k0) rfl rfl ?_
          refine yG.getS9 A_hp.1 (w_G_net W H_k0) q_r341 rfl rfl ?_
          refine yG.load xik rfl (fun _ _ => rfl) (v := yI (3)) rfl rfl ?_
          refine yG.load xik rfl (fun _ _ => rfl) (v := yI (p2)) rfl rfl ?_
          refine yG.load xik rfl (fun _ _ => rfl) (v := yI (2)) rfl rfl ?_
          refine yG.load xik rfl (fun _ _ => rfl) (v := yI (p4)) rfl rfl ?_
          refine yG.invV (rest := []) A_hp.1 (bOb (d_Net W) H_r341) rfl rfl rfl rfl (c_Net_put_3_2 W (d + 2) A_hp.1 H_r341 (p2) (p4) (by omega) (by omega) (by omega) (by omega)) (fun rv h347 q9 => ?_)
          obtain ⟨⟨rfl, R_z348⟩, B_h347⟩ := q9
          have A_h347 := A_hp.tr B_h347 (by decide)
          have qq17 : zsl h347 k0 1 = yR r341 := (B_h347.sl H_k0 (by decide)).trans q_r341
          show yG _ _ _ _ _ _ _ _ _ _ [] _
          refine yG.load xak rfl (fun _ _ => rfl) (v := yR k0) rfl rfl ?_
          refine yG.invV (rest := []) A_h347.1 (bOb (d_G W) H_k0) rfl rfl rfl rfl (c_G_changed W (d + 2) A_h347.1 H_k0) (fun rv h349 q9 => ?_)
          obtain ⟨⟨rfl, R_z350⟩, B_h349⟩ := q9
          have A_h349 := A_h347.tr B_h349 (by decide)
          have qq18 : zsl h349 k0 1 = yR r341 := (B_h349.sl H_k0 (by decide)).trans qq17
          show yG _ _ _ _ _ _ _ _ _ _ [] _
          refine yG.load xik rfl (fun _ _ => rfl) (v := yI (z346)) rfl rfl ?_
          refine yG.ret rfl (fun _ _ => rfl) ?_
          exact .inl (yP.int ⟨by omega, by omega⟩ ⟨⟨z346, rfl, by omega, by omega, by omega⟩, A_h349⟩)
        · have c345 : (z344 : Int) = 0 := c345
          exact yG.newT (P := bP _ _ _) rfl rfl (bP.thr rfl ⟨by decide, hp, A_hp, rfl⟩)
      · have c343 : (z342 : Int) = 0 := c343
        exact yG.newT (P := bP _ _ _) rfl rfl (bP.thr rfl ⟨by decide, hp, A_hp, rfl⟩)
    · subst c310
      refine yG.load xak rfl (fun _ _ => rfl) (v := yR k0) rfl rfl ?_
      refine yG.getO A_hp.1 (w_G_net W H_k0) rfl rfl (fun r351 H_r351 O_r351 q_r351 => ?_)
      refine yG.load xik rfl (fun _ _ => rfl) (v := yI (3)) rfl rfl ?_
      refine yG.load xik rfl (fun _ _ => rfl) (v := yI (p2)) rfl rfl ?_
      refine yG.invV (rest := []) A_hp.1 (bOb (d_Net W) H_r351) rfl rfl rfl rfl (c_Net_has_3 W (d + 2) A_hp.1 H_r351 (p2) (by omega) (by omega)) (fun rv hp9 q9 => ?_)
      obtain ⟨⟨z352, rfl, l_z352, u_z352, R_z352⟩, e9⟩ := q9
      rw [e9]
      show yG _ _ _ _ _ _ _ _ _ _ (yI z352 :: []) _
      refine yG.ifz rfl (t := 22) rfl ⟨by omega, by omega⟩ (fun c353 => ?_) (fun c353 => ?_)
      · have c353 : (z352 : Int) ≠ 0 := c353
        refine yG.load xak rfl (fun _ _ => rfl) (v := yR k0) rfl rfl ?_
        refine yG.getS9 A_hp.1 (w_G_net W H_k0) q_r351 rfl rfl ?_
        refine yG.load xik rfl (fun _ _ => rfl) (v := yI (3)) rfl rfl ?_
        refine yG.load xik rfl (fun _ _ => rfl) (v := yI (p2)) rfl rfl ?_
        refine yG.load xik rfl (fun _ _ => rfl) (v := yI (3)) rfl rfl ?_
        refine yG.load xik rfl (fun _ _ => rfl) (v := yI (p4)) rfl rfl ?_
        refine yG.invV (rest := []) A_hp.1 (bOb (d_Net W) H_r351) rfl rfl rfl rfl (c_Net_allows_3_3 W d A_hp.1 H_r351 (p2) (p4) (by omega) (by omega) (by omega) (by omega)) (fun rv hp9 q9 => ?_)
        obtain ⟨⟨z354, rfl, l_z354, u_z354, R_z354⟩, e9⟩ := q9
        rw [e9]
        show yG _ _ _ _ _ _ _ _ _ _ (yI z354 :: []) _
        refine yG.ifz rfl (t := 47) rfl ⟨by omega, by omega⟩ (fun c355 => ?_) (fun c355 => ?_)
        · have c355 : (z354 : Int) ≠ 0 := c355
          refine yG.load xak rfl (fun _ _ => rfl) (v := yR k0) rfl rfl ?_
          refine yG.getS9 A_hp.1 (w_G_net W H_k0) q_r351 rfl rfl ?_
          refine yG.load xik rfl (fun _ _ => rfl) (v := yI (3)) rfl rfl ?_
          refine yG.load xik rfl (fun _ _ => rfl) (v := yI (p2)) rfl rfl ?_
          refine yG.load xik rfl (fun _ _ => rfl) (v := yI (3)) rfl rfl ?_
          refine yG.invV (rest := []) A_hp.1 (bOb (d_Net W) H_r351) rfl rfl rfl rfl (c_Net_at_3_3 W (d + 2) A_hp.1 H_r351 (p2) (by omega) (by omega)) (fun rv hp9 q9 => ?_)
          obtain ⟨⟨z356, rfl, l_z356, u_z356, R_z356⟩, e9⟩ := q9
          rw [e9]
          show yG _ _ _ _ _ _ _ _ _ _ (yI z356 :: []) _
          refine yG.store1 xik (L' := [(5, yI (z356)), (0, yR k0), (1, yI (3)), (2, yI (p2)), (3, yI (3)), (4, yI (p4))]) rfl (fun _ _ => rfl) rfl rfl ?_
          refine yG.load xak rfl (fun _ _ => rfl) (v := yR k0) rfl rfl ?_
          refine yG.getS9 A_hp.1 (w_G_net W H_k0) q_r351 rfl rfl ?_
          refine yG.load xik rfl (fun _ _ => rfl) (v := yI (3)) rfl rfl ?_
          refine yG.load xik rfl (fun _ _ => rfl) (v := yI (p2)) rfl rfl ?_
          refine yG.load xik rfl (fun _ _ => rfl) (v := yI (3)) rfl rfl ?_
          refine yG.load xik rfl (fun _ _ => rfl) (v := yI (p4)) rfl rfl ?_
          refine yG.invV (rest := []) A_hp.1 (bOb (d_Net W) H_r351) rfl rfl rfl rfl (c_Net_put_3_3 W (d + 2) A_hp.1 H_r351 (p2) (p4) (by omega) (by omega) (by omega) (by omega)) (fun rv h357 q9 => ?_)
          obtain ⟨⟨rfl, R_z358⟩, B_h357⟩ := q9
          have A_h357 := A_hp.tr B_h357 (by decide)
          have qq19 : zsl h357 k0 1 = yR r351 := (B_h357.sl H_k0 (by decide)).trans q_r351
          show yG _ _ _ _ _ _ _ _ _ _ [] _
          refine yG.load xak rfl (fun _ _ => rfl) (v := yR k0) rfl rfl ?_
          refine yG.invV (rest := []) A_h357.1 (bOb (d_G W) H_k0) rfl rfl rfl rfl (c_G_changed W (d + 2) A_h357.1 H_k0) (fun rv h359 q9 => ?_)
          obtain ⟨⟨rfl, R_z360⟩, B_h359⟩ := q9
          have A_h359 := A_h357.tr B_h359 (by decide)
          have qq20 : zsl h359 k0 1 = yR r351 := (B_h359.sl H_k0 (by decide)).trans qq19
          show yG _ _ _ _ _ _ _ _ _ _ [] _
          refine yG.load xik rfl (fun _ _ => rfl) (v := yI (z356)) rfl rfl ?_
          refine yG.ret rfl (fun _ _ => rfl) ?_
          exact .inl (yP.int ⟨by omega, by omega⟩ ⟨⟨z356, rfl, by omega, by omega, by omega⟩, A_h359⟩)
        · have c355 : (z354 : Int) = 0 := c355
          exact yG.newT (P := bP _ _ _) rfl rfl (bP.thr rfl ⟨by decide, hp, A_hp, rfl⟩)
      · have c353 : (z352 : Int) = 0 := c353
        exact yG.newT (P := bP _ _ _) rfl rfl (bP.thr rfl ⟨by decide, hp, A_hp, rfl⟩)
    · subst c310
      refine yG.load xak rfl (fun _ _ => rfl) (v := yR k0) rfl rfl ?_
      refine yG.getO A_hp.1 (w_G_net W H_k0) rfl rfl (fun r361 H_r361 O_r361 q_r361 => ?_)
      refine yG.load xik rfl (fun _ _ => rfl) (v := yI (3)) rfl rfl ?_
      refine yG.load xik rfl (fun _ _ => rfl) (v := yI (p2)) rfl rfl ?_
      refine yG.invV (rest := []) A_hp.1 (bOb (d_Net W) H_r361) rfl rfl rfl rfl (c_Net_has_3 W (d + 2) A_hp.1 H_r361 (p2) (by omega) (by omega)) (fun rv hp9 q9 => ?_)
      obtain ⟨⟨z362, rfl, l_z362, u_z362, R_z362⟩, e9⟩ := q9
      rw [e9]
      show yG _ _ _ _ _ _ _ _ _ _ (yI z362 :: []) _
      refine yG.ifz rfl (t := 22) rfl ⟨by omega, by omega⟩ (fun c363 => ?_) (fun c363 => ?_)
      · have c363 : (z362 : Int) ≠ 0 := c363
        refine yG.load xak rfl (fun _ _ => rfl) (v := yR k0) rfl rfl ?_
        refine yG.getS9 A_hp.1 (w_G_net W H_k0) q_r361 rfl rfl ?_
        refine yG.load xik rfl (fun _ _ => rfl) (v := yI (3)) rfl rfl ?_
        refine yG.load xik rfl (fun _ _ => rfl) (v := yI (p2)) rfl rfl ?_
        refine yG.load xik rfl (fun _ _ => rfl) (v := yI (4)) rfl rfl ?_
        refine yG.load xik rfl (fun _ _ => rfl) (v := yI (p4)) rfl rfl ?_
        refine yG.invV (rest := []) A_hp.1 (bOb (d_Net W) H_r361) rfl rfl rfl rfl (c_Net_allows_3_4 W d A_hp.1 H_r361 (p2) (p4) (by omega) (by omega) (by omega) (by omega)) (fun rv hp9 q9 => ?_)
        obtain ⟨⟨z364, rfl, l_z364, u_z364, R_z364⟩, e9⟩ := q9
        rw [e9]
        show yG _ _ _ _ _ _ _ _ _ _ (yI z364 :: []) _
        refine yG.ifz rfl (t := 47) rfl ⟨by omega, by omega⟩ (fun c365 => ?_) (fun c365 => ?_)
        · have c365 : (z364 : Int) ≠ 0 := c365
          refine yG.load xak rfl (fun _ _ => rfl) (v := yR k0) rfl rfl ?_
          refine yG.getS9 A_hp.1 (w_G_net W H_k0) q_r361 rfl rfl ?_
          refine yG.load xik rfl (fun _ _ => rfl) (v := yI (3)) rfl rfl ?_
          refine yG.load xik rfl (fun _ _ => rfl) (v := yI (p2)) rfl rfl ?_
          refine yG.load xik rfl (fun _ _ => rfl) (v := yI (4)) rfl rfl ?_
          refine yG.invV (rest := []) A_hp.1 (bOb (d_Net W) H_r361) rfl rfl rfl rfl (c_Net_at_3_4 W (d + 2) A_hp.1 H_r361 (p2) (by omega) (by omega)) (fun rv hp9 q9 => ?_)
          obtain ⟨⟨z366, rfl, l_z366, u_z366, R_z366⟩, e9⟩ := q9
          rw [e9]
          show yG _ _ _ _ _ _ _ _ _ _ (yI z366 :: []) _
          refine yG.store1 xik (L' := [(5, yI (z366)), (0, yR k0), (1, yI (3)), (2, yI (p2)), (3, yI (4)), (4, yI (p4))]) rfl (fun _ _ => rfl) rfl rfl ?_
          refine yG.load xak rfl (fun _ _ => rfl) (v := yR k0) rfl rfl ?_
          refine yG.getS9 A_hp.1 (w_G_net W H_k0) q_r361 rfl rfl ?_
          refine yG.load xik rfl (fun _ _ => rfl) (v := yI (3)) rfl rfl ?_
          refine yG.load xik rfl (fun _ _ => rfl) (v := yI (p2)) rfl rfl ?_
          refine yG.load xik rfl (fun _ _ => rfl) (v := yI (4)) rfl rfl ?_
          refine yG.load xik rfl (fun _ _ => rfl) (v := yI (p4)) rfl rfl ?_
          refine yG.invV (rest := []) A_hp.1 (bOb (d_Net W) H_r361) rfl rfl rfl rfl (c_Net_put_3_4 W (d + 2) A_hp.1 H_r361 (p2) (p4) (by omega) (by omega) (by omega) (by omega)) (fun rv h367 q9 => ?_)
          obtain ⟨⟨rfl, R_z368⟩, B_h367⟩ := q9
          have A_h367 := A_hp.tr B_h367 (by decide)
          have qq21 : zsl h367 k0 1 = yR r361 := (B_h367.sl H_k0 (by decide)).trans q_r361
          show yG _ _ _ _ _ _ _ _ _ _ [] _
          refine yG.load xak rfl (fun _ _ => rfl) (v := yR k0) rfl rfl ?_
          refine yG.invV (rest := []) A_h367.1 (bOb (d_G W) H_k0) rfl rfl rfl rfl (c_G_changed W (d + 2) A_h367.1 H_k0) (fun rv h369 q9 => ?_)
          obtain ⟨⟨rfl, R_z370⟩, B_h369⟩ := q9
          have A_h369 := A_h367.tr B_h369 (by decide)
          have qq22 : zsl h369 k0 1 = yR r361 := (B_h369.sl H_k0 (by decide)).trans qq21
          show yG _ _ _ _ _ _ _ _ _ _ [] _
          refine yG.load xik rfl (fun _ _ => rfl) (v := yI (z366)) rfl rfl ?_
          refine yG.ret rfl (fun _ _ => rfl) ?_
          exact .inl (yP.int ⟨by omega, by omega⟩ ⟨⟨z366, rfl, by omega, by omega, by omega⟩, A_h369⟩)
        · have c365 : (z364 : Int) = 0 := c365
          exact yG.newT (P := bP _ _ _) rfl rfl (bP.thr rfl ⟨by decide, hp, A_hp, rfl⟩)
      · have c363 : (z362 : Int) = 0 := c363
        exact yG.newT (P := bP _ _ _) rfl rfl (bP.thr rfl ⟨by decide, hp, A_hp, rfl⟩)
    · subst c310
      refine yG.load xak rfl (fun _ _ => rfl) (v := yR k0) rfl rfl ?_
      refine yG.getO A_hp.1 (w_G_net W H_k0) rfl rfl (fun r371 H_r371 O_r371 q_r371 => ?_)
      refine yG.load xik rfl (fun _ _ => rfl) (v := yI (3)) rfl rfl ?_
      refine yG.load xik rfl (fun _ _ => rfl) (v := yI (p2)) rfl rfl ?_
      refine yG.invV (rest := []) A_hp.1 (bOb (d_Net W) H_r371) rfl rfl rfl rfl (c_Net_has_3 W (d + 2) A_hp.1 H_r371 (p2) (by omega) (by omega)) (fun rv hp9 q9 => ?_)
      obtain ⟨⟨z372, rfl, l_z372, u_z372, R_z372⟩, e9⟩ := q9
      rw [e9]
      show yG _ _ _ _ _ _ _ _ _ _ (yI z372 :: []) _
      refine yG.ifz rfl (t := 22) rfl ⟨by omega, by omega⟩ (fun c373 => ?_) (fun c373 => ?_)
      · have c373 : (z372 : Int) ≠ 0 := c373
        refine yG.load xak rfl (fun _ _ => rfl) (v := yR k0) rfl rfl ?_
        refine yG.getS9 A_hp.1 (w_G_net W H_k0) q_r371 rfl rfl ?_
        refine yG.load xik rfl (fun _ _ => rfl) (v := yI (3)) rfl rfl ?_
        refine yG.load xik rfl (fun _ _ => rfl) (v := yI (p2)) rfl rfl ?_
        refine yG.load xik rfl (fun _ _ => rfl) (v := yI (5)) rfl rfl ?_
        refine yG.load xik rfl (fun _ _ => rfl) (v := yI (p4)) rfl rfl ?_
        refine yG.invV (rest := []) A_hp.1 (bOb (d_Net W) H_r371) rfl rfl rfl rfl (c_Net_allows_3_5 W d A_hp.1 H_r371 (p2) (p4) (by omega) (by omega) (by omega) (by omega)) (fun rv hp9 q9 => ?_)
        obtain ⟨⟨z374, rfl, l_z374, u_z374, R_z374⟩, e9⟩ := q9
        rw [e9]
        show yG _ _ _ _ _ _ _ _ _ _ (yI z374 :: []) _
        refine yG.ifz rfl (t := 47) rfl ⟨by omega, by omega⟩ (fun c375 => ?_) (fun c375 => ?_)
        · have c375 : (z374 : Int) ≠ 0 := c375
          refine yG.load xak rfl (fun _ _ => rfl) (v := yR k0) rfl rfl ?_
          refine yG.getS9 A_hp.1 (w_G_net W H_k0) q_r371 rfl rfl ?_
          refine yG.load xik rfl (fun _ _ => rfl) (v := yI (3)) rfl rfl ?_
          refine yG.load xik rfl (fun _ _ => rfl) (v := yI (p2)) rfl rfl ?_
          refine yG.load xik rfl (fun _ _ => rfl) (v := yI (5)) rfl rfl ?_
          refine yG.invV (rest := []) A_hp.1 (bOb (d_Net W) H_r371) rfl rfl rfl rfl (c_Net_at_3_5 W (d + 2) A_hp.1 H_r371 (p2) (by omega) (by omega)) (fun rv hp9 q9 => ?_)
          obtain ⟨⟨z376, rfl, l_z376, u_z376, R_z376⟩, e9⟩ := q9
          rw [e9]
          show yG _ _ _ _ _ _ _ _ _ _ (yI z376 :: []) _
          refine yG.store1 xik (L' := [(5, yI (z376)), (0, yR k0), (1, yI (3)), (2, yI (p2)), (3, yI (5)), (4, yI (p4))]) rfl (fun _ _ => rfl) rfl rfl ?_
          refine yG.load xak rfl (fun _ _ => rfl) (v := yR k0) rfl rfl ?_
          refine yG.getS9 A_hp.1 (w_G_net W H_k0) q_r371 rfl rfl ?_
          refine yG.load xik rfl (fun _ _ => rfl) (v := yI (3)) rfl rfl ?_
          refine yG.load xik rfl (fun _ _ => rfl) (v := yI (p2)) rfl rfl ?_
          refine yG.load xik rfl (fun _ _ => rfl) (v := yI (5)) rfl rfl ?_
          refine yG.load xik rfl (fun _ _ => rfl) (v := yI (p4)) rfl rfl ?_
          refine yG.invV (rest := []) A_hp.1 (bOb (d_Net W) H_r371) rfl rfl rfl rfl (c_Net_put_3_5 W (d + 2) A_hp.1 H_r371 (p2) (p4) (by omega) (by omega) (by omega) (by omega)) (fun rv h377 q9 => ?_)
          obtain ⟨⟨rfl, R_z378⟩, B_h377⟩ := q9
          have A_h377 := A_hp.tr B_h377 (by decide)
          have qq23 : zsl h377 k0 1 = yR r371 := (B_h377.sl H_k0 (by decide)).trans q_r371
          show yG _ _ _ _ _ _ _ _ _ _ [] _
          refine yG.load xak rfl (fun _ _ => rfl) (v := yR k0) rfl rfl ?_
          refine yG.invV (rest := []) A_h377.1 (bOb (d_G W) H_k0) rfl rfl rfl rfl (c_G_changed W (d + 2) A_h377.1 H_k0) (fun rv h379 q9 => ?_)
          obtain ⟨⟨rfl, R_z380⟩, B_h379⟩ := q9
          have A_h379 := A_h377.tr B_h379 (by decide)
          have qq24 : zsl h379 k0 1 = yR r371 := (B_h379.sl H_k0 (by decide)).trans qq23
          show yG _ _ _ _ _ _ _ _ _ _ [] _
          refine yG.load xik rfl (fun _ _ => rfl) (v := yI (z376)) rfl rfl ?_
          refine yG.ret rfl (fun _ _ => rfl) ?_
          exact .inl (yP.int ⟨by omega, by omega⟩ ⟨⟨z376, rfl, by omega, by omega, by omega⟩, A_h379⟩)
        · have c375 : (z374 : Int) = 0 := c375
          exact yG.newT (P := bP _ _ _) rfl rfl (bP.thr rfl ⟨by decide, hp, A_hp, rfl⟩)
      · have c373 : (z372 : Int) = 0 := c373
        exact yG.newT (P := bP _ _ _) rfl rfl (bP.thr rfl ⟨by decide, hp, A_hp, rfl⟩)
    · subst c310
      refine yG.load xak rfl (fun _ _ => rfl) (v := yR k0) rfl rfl ?_
      refine yG.getO A_hp.1 (w_G_net W H_k0) rfl rfl (fun r381 H_r381 O_r381 q_r381 => ?_)
      refine yG.load xik rfl (fun _ _ => rfl) (v := yI (3)) rfl rfl ?_
      refine yG.load xik rfl (fun _ _ => rfl) (v := yI (p2)) rfl rfl ?_
      refine yG.invV (rest := []) A_hp.1 (bOb (d_Net W) H_r381) rfl rfl rfl rfl (c_Net_has_3 W (d + 2) A_hp.1 H_r381 (p2) (by omega) (by omega)) (fun rv hp9 q9 => ?_)
      obtain ⟨⟨z382, rfl, l_z382, u_z382, R_z382⟩, e9⟩ := q9
      rw [e9]
      show yG _ _ _ _ _ _ _ _ _ _ (yI z382 :: []) _
      refine yG.ifz rfl (t := 22) rfl ⟨by omega, by omega⟩ (fun c383 => ?_) (fun c383 => ?_)
      · have c383 : (z382 : Int) ≠ 0 := c383
        refine yG.load xak rfl (fun _ _ => rfl) (v := yR k0) rfl rfl ?_
        refine yG.getS9 A_hp.1 (w_G_net W H_k0) q_r381 rfl rfl ?_
        refine yG.load xik rfl (fun _ _ => rfl) (v := yI (3)) rfl rfl ?_
        refine yG.load xik rfl (fun _ _ => rfl) (v := yI (p2)) rfl rfl ?_
        refine yG.load xik rfl (fun _ _ => rfl) (v := yI (6)) rfl rfl ?_
        refine yG.load xik rfl (fun _ _ => rfl) (v := yI (p4)) rfl rfl ?_
        refine yG.invV (rest := []) A_hp.1 (bOb (d_Net W) H_r381) rfl rfl rfl rfl (c_Net_allows_3_6 W d A_hp.1 H_r381 (p2) (p4) (by omega) (by omega) (by omega) (by omega)) (fun rv hp9 q9 => ?_)
        obtain ⟨⟨z384, rfl, l_z384, u_z384, R_z384⟩, e9⟩ := q9
        rw [e9]
        show yG _ _ _ _ _ _ _ _ _ _ (yI z384 :: []) _
        refine yG.ifz rfl (t := 47) rfl ⟨by omega, by omega⟩ (fun c385 => ?_) (fun c385 => ?_)
        · have c385 : (z384 : Int) ≠ 0 := c385
          refine yG.load xak rfl (fun _ _ => rfl) (v := yR k0) rfl rfl ?_
          refine yG.getS9 A_hp.1 (w_G_net W H_k0) q_r381 rfl rfl ?_
          refine yG.load xik rfl (fun _ _ => rfl) (v := yI (3)) rfl rfl ?_
          refine yG.load xik rfl (fun _ _ => rfl) (v := yI (p2)) rfl rfl ?_
          refine yG.load xik rfl (fun _ _ => rfl) (v := yI (6)) rfl rfl ?_
          refine yG.invV (rest := []) A_hp.1 (bOb (d_Net W) H_r381) rfl rfl rfl rfl (c_Net_at_3_6 W (d + 2) A_hp.1 H_r381 (p2) (by omega) (by omega)) (fun rv hp9 q9 => ?_)
          obtain ⟨⟨z386, rfl, l_z386, u_z386, R_z386⟩, e9⟩ := q9
          rw [e9]
          show yG _ _ _ _ _ _ _ _ _ _ (yI z386 :: []) _
          refine yG.store1 xik (L' := [(5, yI (z386)), (0, yR k0), (1, yI (3)), (2, yI (p2)), (3, yI (6)), (4, yI (p4))]) rfl (fun _ _ => rfl) rfl rfl ?_
          refine yG.load xak rfl (fun _ _ => rfl) (v := yR k0) rfl rfl ?_
          refine yG.getS9 A_hp.1 (w_G_net W H_k0) q_r381 rfl rfl ?_
          refine yG.load xik rfl (fun _ _ => rfl) (v := yI (3)) rfl rfl ?_
          refine yG.load xik rfl (fun _ _ => rfl) (v := yI (p2)) rfl rfl ?_
          refine yG.load xik rfl (fun _ _ => rfl) (v := yI (6)) rfl rfl ?_
          refine yG.load xik rfl (fun _ _ => rfl) (v := yI (p4)) rfl rfl ?_
          refine yG.invV (rest := []) A_hp.1 (bOb (d_Net W) H_r381) rfl rfl rfl rfl (c_Net_put_3_6 W (d + 2) A_hp.1 H_r381 (p2) (p4) (by omega) (by omega) (by omega) (by omega)) (fun rv h387 q9 => ?_)
          obtain ⟨⟨rfl, R_z388⟩, B_h387⟩ := q9
          have A_h387 := A_hp.tr B_h387 (by decide)
          have qq25 : zsl h387 k0 1 = yR r381 := (B_h387.sl H_k0 (by decide)).trans q_r381
          show yG _ _ _ _ _ _ _ _ _ _ [] _
          refine yG.load xak rfl (fun _ _ => rfl) (v := yR k0) rfl rfl ?_
          refine yG.invV (rest := []) A_h387.1 (bOb (d_G W) H_k0) rfl rfl rfl rfl (c_G_changed W (d + 2) A_h387.1 H_k0) (fun rv h389 q9 => ?_)
          obtain ⟨⟨rfl, R_z390⟩, B_h389⟩ := q9
          have A_h389 := A_h387.tr B_h389 (by decide)
          have qq26 : zsl h389 k0 1 = yR r381 := (B_h389.sl H_k0 (by decide)).trans qq25
          show yG _ _ _ _ _ _ _ _ _ _ [] _
          refine yG.load xik rfl (fun _ _ => rfl) (v := yI (z386)) rfl rfl ?_
          refine yG.ret rfl (fun _ _ => rfl) ?_
          exact .inl (yP.int ⟨by omega, by omega⟩ ⟨⟨z386, rfl, by omega, by omega, by omega⟩, A_h389⟩)
        · have c385 : (z384 : Int) = 0 := c385
          exact yG.newT (P := bP _ _ _) rfl rfl (bP.thr rfl ⟨by decide, hp, A_hp, rfl⟩)
      · have c383 : (z382 : Int) = 0 := c383
        exact yG.newT (P := bP _ _ _) rfl rfl (bP.thr rfl ⟨by decide, hp, A_hp, rfl⟩)
    · subst c310
      refine yG.load xak rfl (fun _ _ => rfl) (v := yR k0) rfl rfl ?_
      refine yG.getO A_hp.1 (w_G_net W H_k0) rfl rfl (fun r391 H_r391 O_r391 q_r391 => ?_)
      refine yG.load xik rfl (fun _ _ => rfl) (v := yI (3)) rfl rfl ?_
      refine yG.load xik rfl (fun _ _ => rfl) (v := yI (p2)) rfl rfl ?_
      refine yG.invV (rest := []) A_hp.1 (bOb (d_Net W) H_r391) rfl rfl rfl rfl (c_Net_has_3 W (d + 2) A_hp.1 H_r391 (p2) (by omega) (by omega)) (fun rv hp9 q9 => ?_)
      obtain ⟨⟨z392, rfl, l_z392, u_z392, R_z392⟩, e9⟩ := q9
      rw [e9]
      show yG _ _ _ _ _ _ _ _ _ _ (yI z392 :: []) _
      refine yG.ifz rfl (t := 22) rfl ⟨by omega, by omega⟩ (fun c393 => ?_) (fun c393 => ?_)
      · have c393 : (z392 : Int) ≠ 0 := c393
        refine yG.load xak rfl (fun _ _ => rfl) (v := yR k0) rfl rfl ?_
        refine yG.getS9 A_hp.1 (w_G_net W H_k0) q_r391 rfl rfl ?_
        refine yG.load xik rfl (fun _ _ => rfl) (v := yI (3)) rfl rfl ?_
        refine yG.load xik rfl (fun _ _ => rfl) (v := yI (p2)) rfl rfl ?_
        refine yG.load xik rfl (fun _ _ => rfl) (v := yI (7)) rfl rfl ?_
        refine yG.load xik rfl (fun _ _ => rfl) (v := yI (p4)) rfl rfl ?_
        refine yG.invV (rest := []) A_hp.1 (bOb (d_Net W) H_r391) rfl rfl rfl rfl (c_Net_allows_3_7 W d A_hp.1 H_r391 (p2) (p4) (by omega) (by omega) (by omega) (by omega)) (fun rv hp9 q9 => ?_)
        obtain ⟨⟨z394, rfl, l_z394, u_z394, R_z394⟩, e9⟩ := q9
        rw [e9]
        show yG _ _ _ _ _ _ _ _ _ _ (yI z394 :: []) _
        refine yG.ifz rfl (t := 47) rfl ⟨by omega, by omega⟩ (fun c395 => ?_) (fun c395 => ?_)
        · have c395 : (z394 : Int) ≠ 0 := c395
          refine yG.load xak rfl (fun _ _ => rfl) (v := yR k0) rfl rfl ?_
          refine yG.getS9 A_hp.1 (w_G_net W H_k0) q_r391 rfl rfl ?_
          refine yG.load xik rfl (fun _ _ => rfl) (v := yI (3)) rfl rfl ?_
          refine yG.load xik rfl (fun _ _ => rfl) (v := yI (p2)) rfl rfl ?_
          refine yG.load xik rfl (fun _ _ => rfl) (v := yI (7)) rfl rfl ?_
          refine yG.invV (rest := []) A_hp.1 (bOb (d_Net W) H_r391) rfl rfl rfl rfl (c_Net_at_3_7 W (d + 2) A_hp.1 H_r391 (p2) (by omega) (by omega)) (fun rv hp9 q9 => ?_)
          obtain ⟨⟨z396, rfl, l_z396, u_z396, R_z396⟩, e9⟩ := q9
          rw [e9]
          show yG _ _ _ _ _ _ _ _ _ _ (yI z396 :: []) _
          refine yG.store1 xik (L' := [(5, yI (z396)), (0, yR k0), (1, yI (3)), (2, yI (p2)), (3, yI (7)), (4, yI (p4))]) rfl (fun _ _ => rfl) rfl rfl ?_
          refine yG.load xak rfl (fun _ _ => rfl) (v := yR k0) rfl rfl ?_
          refine yG.getS9 A_hp.1 (w_G_net W H_k0) q_r391 rfl rfl ?_
          refine yG.load xik rfl (fun _ _ => rfl) (v := yI (3)) rfl rfl ?_
          refine yG.load xik rfl (fun _ _ => rfl) (v := yI (p2)) rfl rfl ?_
          refine yG.load xik rfl (fun _ _ => rfl) (v := yI (7)) rfl rfl ?_
          refine yG.load xik rfl (fun _ _ => rfl) (v := yI (p4)) rfl rfl ?_
          refine yG.invV (rest := []) A_hp.1 (bOb (d_Net W) H_r391) rfl rfl rfl rfl (c_Net_put_3_7 W (d + 2) A_hp.1 H_r391 (p2) (p4) (by omega) (by omega) (by omega) (by omega)) (fun rv h397 q9 => ?_)
          obtain ⟨⟨rfl, R_z398⟩, B_h397⟩ := q9
          have A_h397 := A_hp.tr B_h397 (by decide)
          have qq27 : zsl h397 k0 1 = yR r391 := (B_h397.sl H_k0 (by decide)).trans q_r391
          show yG _ _ _ _ _ _ _ _ _ _ [] _
          refine yG.load xak rfl (fun _ _ => rfl) (v := yR k0) rfl rfl ?_
          refine yG.invV (rest := []) A_h397.1 (bOb (d_G W) H_k0) rfl rfl rfl rfl (c_G_changed W (d + 2) A_h397.1 H_k0) (fun rv h399 q9 => ?_)
          obtain ⟨⟨rfl, R_z400⟩, B_h399⟩ := q9
          have A_h399 := A_h397.tr B_h399 (by decide)
          have qq28 : zsl h399 k0 1 = yR r391 := (B_h399.sl H_k0 (by decide)).trans qq27
          show yG _ _ _ _ _ _ _ _ _ _ [] _
          refine yG.load xik rfl (fun _ _ => rfl) (v := yI (z396)) rfl rfl ?_
          refine yG.ret rfl (fun _ _ => rfl) ?_
          exact .inl (yP.int ⟨by omega, by omega⟩ ⟨⟨z396, rfl, by omega, by omega, by omega⟩, A_h399⟩)
        · have c395 : (z394 : Int) = 0 := c395
          exact yG.newT (P := bP _ _ _) rfl rfl (bP.thr rfl ⟨by decide, hp, A_hp, rfl⟩)
      · have c393 : (z392 : Int) = 0 := c393
        exact yG.newT (P := bP _ _ _) rfl rfl (bP.thr rfl ⟨by decide, hp, A_hp, rfl⟩)
    · subst c310
      refine yG.load xak rfl (fun _ _ => rfl) (v := yR k0) rfl rfl ?_
      refine yG.getO A_hp.1 (w_G_net W H_k0) rfl rfl (fun r401 H_r401 O_r401 q_r401 => ?_)
      refine yG.load xik rfl (fun _ _ => rfl) (v := yI (3)) rfl rfl ?_
      refine yG.load xik rfl (fun _ _ => rfl) (v := yI (p2)) rfl rfl ?_
      refine yG.invV (rest := []) A_hp.1 (bOb (d_Net W) H_r401) rfl rfl rfl rfl (c_Net_has_3 W (d + 2) A_hp.1 H_r401 (p2) (by omega) (by omega)) (fun rv hp9 q9 => ?_)
      obtain ⟨⟨z402, rfl, l_z402, u_z402, R_z402⟩, e9⟩ := q9
      rw [e9]
      show yG _ _ _ _ _ _ _ _ _ _ (yI z402 :: []) _
      refine yG.ifz rfl (t := 22) rfl ⟨by omega, by omega⟩ (fun c403 => ?_) (fun c403 => ?_)
      · have c403 : (z402 : Int) ≠ 0 := c403
        refine yG.load xak rfl (fun _ _ => rfl) (v := yR k0) rfl rfl ?_
        refine yG.getS9 A_hp.1 (w_G_net W H_k0) q_r401 rfl rfl ?_
        refine yG.load xik rfl (fun _ _ => rfl) (v := yI (3)) rfl rfl ?_
        refine yG.load xik rfl (fun _ _ => rfl) (v := yI (p2)) rfl rfl ?_
        refine yG.load xik rfl (fun _ _ => rfl) (v := yI (8)) rfl rfl ?_
        refine yG.load xik rfl (fun _ _ => rfl) (v := yI (p4)) rfl rfl ?_
        refine yG.invV (rest := []) A_hp.1 (bOb (d_Net W) H_r401) rfl rfl rfl rfl (c_Net_allows_3_8 W d A_hp.1 H_r401 (p2) (p4) (by omega) (by omega) (by omega) (by omega)) (fun rv hp9 q9 => ?_)
        obtain ⟨⟨z404, rfl, l_z404, u_z404, R_z404⟩, e9⟩ := q9
        rw [e9]
        show yG _ _ _ _ _ _ _ _ _ _ (yI z404 :: []) _
        refine yG.ifz rfl (t := 47) rfl ⟨by omega, by omega⟩ (fun c405 => ?_) (fun c405 => ?_)
        · have c405 : (z404 : Int) ≠ 0 := c405
          refine yG.load xak rfl (fun _ _ => rfl) (v := yR k0) rfl rfl ?_
          refine yG.getS9 A_hp.1 (w_G_net W H_k0) q_r401 rfl rfl ?_
          refine yG.load xik rfl (fun _ _ => rfl) (v := yI (3)) rfl rfl ?_
          refine yG.load xik rfl (fun _ _ => rfl) (v := yI (p2)) rfl rfl ?_
          refine yG.load xik rfl (fun _ _ => rfl) (v := yI (8)) rfl rfl ?_
          refine yG.invV (rest := []) A_hp.1 (bOb (d_Net W) H_r401) rfl rfl rfl rfl (c_Net_at_3_8 W (d + 2) A_hp.1 H_r401 (p2) (by omega) (by omega)) (fun rv hp9 q9 => ?_)
          obtain ⟨⟨z406, rfl, l_z406, u_z406, R_z406⟩, e9⟩ := q9
          rw [e9]
          show yG _ _ _ _ _ _ _ _ _ _ (yI z406 :: []) _
          refine yG.store1 xik (L' := [(5, yI (z406)), (0, yR k0), (1, yI (3)), (2, yI (p2)), (3, yI (8)), (4, yI (p4))]) rfl (fun _ _ => rfl) rfl rfl ?_
          refine yG.load xak rfl (fun _ _ => rfl) (v := yR k0) rfl rfl ?_
          refine yG.getS9 A_hp.1 (w_G_net W H_k0) q_r401 rfl rfl ?_
          refine yG.load xik rfl (fun _ _ => rfl) (v := yI (3)) rfl rfl ?_
          refine yG.load xik rfl (fun _ _ => rfl) (v := yI (p2)) rfl rfl ?_
          refine yG.load xik rfl (fun _ _ => rfl) (v := yI (8)) rfl rfl ?_
          refine yG.load xik rfl (fun _ _ => rfl) (v := yI (p4)) rfl rfl ?_
          refine yG.invV (rest := []) A_hp.1 (bOb (d_Net W) H_r401) rfl rfl rfl rfl (c_Net_put_3_8 W (d + 2) A_hp.1 H_r401 (p2) (p4) (by omega) (by omega) (by omega) (by omega)) (fun rv h407 q9 => ?_)
          obtain ⟨⟨rfl, R_z408⟩, B_h407⟩ := q9
          have A_h407 := A_hp.tr B_h407 (by decide)
          have qq29 : zsl h407 k0 1 = yR r401 := (B_h407.sl H_k0 (by decide)).trans q_r401
          show yG _ _ _ _ _ _ _ _ _ _ [] _
          refine yG.load xak rfl (fun _ _ => rfl) (v := yR k0) rfl rfl ?_
          refine yG.invV (rest := []) A_h407.1 (bOb (d_G W) H_k0) rfl rfl rfl rfl (c_G_changed W (d + 2) A_h407.1 H_k0) (fun rv h409 q9 => ?_)
          obtain ⟨⟨rfl, R_z410⟩, B_h409⟩ := q9
          have A_h409 := A_h407.tr B_h409 (by decide)
          have qq30 : zsl h409 k0 1 = yR r401 := (B_h409.sl H_k0 (by decide)).trans qq29
          show yG _ _ _ _ _ _ _ _ _ _ [] _
          refine yG.load xik rfl (fun _ _ => rfl) (v := yI (z406)) rfl rfl ?_
          refine yG.ret rfl (fun _ _ => rfl) ?_
          exact .inl (yP.int ⟨by omega, by omega⟩ ⟨⟨z406, rfl, by omega, by omega, by omega⟩, A_h409⟩)
        · have c405 : (z404 : Int) = 0 := c405
          exact yG.newT (P := bP _ _ _) rfl rfl (bP.thr rfl ⟨by decide, hp, A_hp, rfl⟩)
      · have c403 : (z402 : Int) = 0 := c403
        exact yG.newT (P := bP _ _ _) rfl rfl (bP.thr rfl ⟨by decide, hp, A_hp, rfl⟩)
    · subst c310
      refine yG.load xak rfl (fun _ _ => rfl) (v := yR k0) rfl rfl ?_
      refine yG.getO A_hp.1 (w_G_net W H_k0) rfl rfl (fun r411 H_r411 O_r411 q_r411 => ?_)
      refine yG.load xik rfl (fun _ _ => rfl) (v := yI (3)) rfl rfl ?_
      refine yG.load xik rfl (fun _ _ => rfl) (v := yI (p2)) rfl rfl ?_
      refine yG.invV (rest := []) A_hp.1 (bOb (d_Net W) H_r411) rfl rfl rfl rfl (c_Net_has_3 W (d + 2) A_hp.1 H_r411 (p2) (by omega) (by omega)) (fun rv hp9 q9 => ?_)
      obtain ⟨⟨z412, rfl, l_z412, u_z412, R_z412⟩, e9⟩ := q9
      rw [e9]
      show yG _ _ _ _ _ _ _ _ _ _ (yI z412 :: []) _
      refine yG.ifz rfl (t := 22) rfl ⟨by omega, by omega⟩ (fun c413 => ?_) (fun c413 => ?_)
      · have c413 : (z412 : Int) ≠ 0 := c413
        refine yG.load xak rfl (fun _ _ => rfl) (v := yR k0) rfl rfl ?_
        refine yG.getS9 A_hp.1 (w_G_net W H_k0) q_r411 rfl rfl ?_
        refine yG.load xik rfl (fun _ _ => rfl) (v := yI (3)) rfl rfl ?_
        refine yG.load xik rfl (fun _ _ => rfl) (v := yI (p2)) rfl rfl ?_
        refine yG.load xik rfl (fun _ _ => rfl) (v := yI (9)) rfl rfl ?_
        refine yG.load xik rfl (fun _ _ => rfl) (v := yI (p4)) rfl rfl ?_
        refine yG.invV (rest := []) A_hp.1 (bOb (d_Net W) H_r411) rfl rfl rfl rfl (c_Net_allows_3_9 W d A_hp.1 H_r411 (p2) (p4) (by omega) (by omega) (by omega) (by omega)) (fun rv hp9 q9 => ?_)
        obtain ⟨⟨z414, rfl, l_z414, u_z414, R_z414⟩, e9⟩ := q9
        rw [e9]
        show yG _ _ _ _ _ _ _ _ _ _ (yI z414 :: []) _
        refine yG.ifz rfl (t := 47) rfl ⟨by omega, by omega⟩ (fun c415 => ?_) (fun c415 => ?_)
        · have c415 : (z414 : Int) ≠ 0 := c415
          refine yG.load xak rfl (fun _ _ => rfl) (v := yR k0) rfl rfl ?_
          refine yG.getS9 A_hp.1 (w_G_net W H_k0) q_r411 rfl rfl ?_
          refine yG.load xik rfl (fun _ _ => rfl) (v := yI (3)) rfl rfl ?_
          refine yG.load xik rfl (fun _ _ => rfl) (v := yI (p2)) rfl rfl ?_
          refine yG.load xik rfl (fun _ _ => rfl) (v := yI (9)) rfl rfl ?_
          refine yG.invV (rest := []) A_hp.1 (bOb (d_Net W) H_r411) rfl rfl rfl rfl (c_Net_at_3_9 W (d + 2) A_hp.1 H_r411 (p2) (by omega) (by omega)) (fun rv hp9 q9 => ?_)
          obtain ⟨⟨z416, rfl, l_z416, u_z416, R_z416⟩, e9⟩ := q9
          rw [e9]
          show yG _ _ _ _ _ _ _ _ _ _ (yI z416 :: []) _
          refine yG.store1 xik (L' := [(5, yI (z416)), (0, yR k0), (1, yI (3)), (2, yI (p2)), (3, yI (9)), (4, yI (p4))]) rfl (fun _ _ => rfl) rfl rfl ?_
          refine yG.load xak rfl (fun _ _ => rfl) (v := yR k0) rfl rfl ?_
          refine yG.getS9 A_hp.1 (w_G_net W H_k0) q_r411 rfl rfl ?_
          refine yG.load xik rfl (fun _ _ => rfl) (v := yI (3)) rfl rfl ?_
          refine yG.load xik rfl (fun _ _ => rfl) (v := yI (p2)) rfl rfl ?_
          refine yG.load xik rfl (fun _ _ => rfl) (v := yI (9)) rfl rfl ?_
          refine yG.load xik rfl (fun _ _ => rfl) (v := yI (p4)) rfl rfl ?_
          refine yG.invV (rest := []) A_hp.1 (bOb (d_Net W) H_r411) rfl rfl rfl rfl (c_Net_put_3_9 W (d + 2) A_hp.1 H_r411 (p2) (p4) (by omega) (by omega) (by omega) (by omega)) (fun rv h417 q9 => ?_)
          obtain ⟨⟨rfl, R_z418⟩, B_h417⟩ := q9
          have A_h417 := A_hp.tr B_h417 (by decide)
          have qq31 : zsl h417 k0 1 = yR r411 := (B_h417.sl H_k0 (by decide)).trans q_r411
          show yG _ _ _ _ _ _ _ _ _ _ [] _
          refine yG.load xak rfl (fun _ _ => rfl) (v := yR k0) rfl rfl ?_
          refine yG.invV (rest := []) A_h417.1 (bOb (d_G W) H_k0) rfl rfl rfl rfl (c_G_changed W (d + 2) A_h417.1 H_k0) (fun rv h419 q9 => ?_)
          obtain ⟨⟨rfl, R_z420⟩, B_h419⟩ := q9
          have A_h419 := A_h417.tr B_h419 (by decide)
          have qq32 : zsl h419 k0 1 = yR r411 := (B_h419.sl H_k0 (by decide)).trans qq31
          show yG _ _ _ _ _ _ _ _ _ _ [] _
          refine yG.load xik rfl (fun _ _ => rfl) (v := yI (z416)) rfl rfl ?_
          refine yG.ret rfl (fun _ _ => rfl) ?_
          exact .inl (yP.int ⟨by omega, by omega⟩ ⟨⟨z416, rfl, by omega, by omega, by omega⟩, A_h419⟩)
        · have c415 : (z414 : Int) = 0 := c415
          exact yG.newT (P := bP _ _ _) rfl rfl (bP.thr rfl ⟨by decide, hp, A_hp, rfl⟩)
      · have c413 : (z412 : Int) = 0 := c413
        exact yG.newT (P := bP _ _ _) rfl rfl (bP.thr rfl ⟨by decide, hp, A_hp, rfl⟩)
    · subst c310
      refine yG.load xak rfl (fun _ _ => rfl) (v := yR k0) rfl rfl ?_
      refine yG.getO A_hp.1 (w_G_net W H_k0) rfl rfl (fun r421 H_r421 O_r421 q_r421 => ?_)
      refine yG.load xik rfl (fun _ _ => rfl) (v := yI (3)) rfl rfl ?_
      refine yG.load xik rfl (fun _ _ => rfl) (v := yI (p2)) rfl rfl ?_
      refine yG.invV (rest := []) A_hp.1 (bOb (d_Net W) H_r421) rfl rfl rfl rfl (c_Net_has_3 W (d + 2) A_hp.1 H_r421 (p2) (by omega) (by omega)) (fun rv hp9 q9 => ?_)
      obtain ⟨⟨z422, rfl, l_z422, u_z422, R_z422⟩, e9⟩ := q9
      rw [e9]
      show yG _ _ _ _ _ _ _ _ _ _ (yI z422 :: []) _
      refine yG.ifz rfl (t := 22) rfl ⟨by omega, by omega⟩ (fun c423 => ?_) (fun c423 => ?_)
      · have c423 : (z422 : Int) ≠ 0 := c423
        refine yG.load xak rfl (fun _ _ => rfl) (v := yR k0) rfl rfl ?_
        refine yG.getS9 A_hp.1 (w_G_net W H_k0) q_r421 rfl rfl ?_
        refine yG.load xik rfl (fun _ _ => rfl) (v := yI (3)) rfl rfl ?_
        refine yG.load xik rfl (fun _ _ => rfl) (v := yI (p2)) rfl rfl ?_
        refine yG.load xik rfl (fun _ _ => rfl) (v := yI (10)) rfl rfl ?_
        refine yG.load xik rfl (fun _ _ => rfl) (v := yI (p4)) rfl rfl ?_
        refine yG.invV (rest := []) A_hp.1 (bOb (d_Net W) H_r421) rfl rfl rfl rfl (c_Net_allows_3_10 W (d + 2) A_hp.1 H_r421 (p2) (p4) (by omega) (by omega) (by omega) (by omega)) (fun rv hp9 q9 => ?_)
        obtain ⟨⟨z424, rfl, l_z424, u_z424, R_z424⟩, e9⟩ := q9
        rw [e9]
        show yG _ _ _ _ _ _ _ _ _ _ (yI z424 :: []) _
        refine yG.ifz rfl (t := 47) rfl ⟨by omega, by omega⟩ (fun c425 => ?_) (fun c425 => ?_)
        · have c425 : (z424 : Int) ≠ 0 := c425
          exfalso; omega
        · have c425 : (z424 : Int) = 0 := c425
          exact yG.newT (P := bP _ _ _) rfl rfl (bP.thr rfl ⟨by decide, hp, A_hp, rfl⟩)
      · have c423 : (z422 : Int) = 0 := c423
        exact yG.newT (P := bP _ _ _) rfl rfl (bP.thr rfl ⟨by decide, hp, A_hp, rfl⟩)
  · subst c1
    rcases (show p3 ≤ (-1) ∨ p3 ≥ 11 ∨ p3 = 0 ∨ p3 = 1 ∨ p3 = 2 ∨ p3 = 3 ∨ p3 = 4 ∨ p3 = 5 ∨ p3 = 6 ∨ p3 = 7 ∨ p3 = 8 ∨ p3 = 9 ∨ p3 = 10 by omega) with c426 | c426 | c426 | c426 | c426 | c426 | c426 | c426 | c426 | c426 | c426 | c426 | c426
    · skip
      refine yG.load xak rfl (fun _ _ => rfl) (v := yR k0) rfl rfl ?_
      refine yG.getO A_hp.1 (w_G_net W H_k0) rfl rfl (fun r427 H_r427 O_r427 q_r427 => ?_)
      refine yG.load xik rfl (fun _ _ => rfl) (v := yI (4)) rfl rfl ?_
      refine yG.load xik rfl (fun _ _ => rfl) (v := yI (p2)) rfl rfl ?_
      refine yG.invV (rest := []) A_hp.1 (bOb (d_Net W) H_r427) rfl rfl rfl rfl (c_Net_has_4 W (d + 2) A_hp.1 H_r427 (p2) (by omega) (by omega)) (fun rv hp9 q9 => ?_)
      obtain ⟨⟨z428, rfl, l_z428, u_z428, R_z428⟩, e9⟩ := q9
      rw [e9]
      show yG _ _ _ _ _ _ _ _ _ _ (yI z428 :: []) _
      refine yG.ifz rfl (t := 22) rfl ⟨by omega, by omega⟩ (fun c429 => ?_) (fun c429 => ?_)
      · have c429 : (z428 : Int) ≠ 0 := c429
        refine yG.load xak rfl (fun _ _ => rfl) (v := yR k0) rfl rfl ?_
        refine yG.getS9 A_hp.1 (w_G_net W H_k0) q_r427 rfl rfl ?_
        refine yG.load xik rfl (fun _ _ => rfl) (v := yI (4)) rfl rfl ?_
        refine yG.load xik rfl (fun _ _ => rfl) (v := yI (p2)) rfl rfl ?_
        refine yG.load xik rfl (fun _ _ => rfl) (v := yI (p3)) rfl rfl ?_
        refine yG.load xik rfl (fun _ _ => rfl) (v := yI (p4)) rfl rfl ?_
        refine yG.invV (rest := []) A_hp.1 (bOb (d_Net W) H_r427) rfl rfl rfl rfl (c_Net_allows_4_l W (d + 2) A_hp.1 H_r427 (p2) (p3) (p4) (by omega) (by omega) (by omega) (by omega) (by omega) (by omega)) (fun rv hp9 q9 => ?_)
        obtain ⟨⟨z430, rfl, l_z430, u_z430, R_z430⟩, e9⟩ := q9
        rw [e9]
        show yG _ _ _ _ _ _ _ _ _ _ (yI z430 :: []) _
        refine yG.ifz rfl (t := 47) rfl ⟨by omega, by omega⟩ (fun c431 => ?_) (fun c431 => ?_)
        · have c431 : (z430 : Int) ≠ 0 := c431
          exfalso; omega
        · have c431 : (z430 : Int) = 0 := c431
          exact yG.newT (P := bP _ _ _) rfl rfl (bP.thr rfl ⟨by decide, hp, A_hp, rfl⟩)
      · have c429 : (z428 : Int) = 0 := c429
        exact yG.newT (P := bP _ _ _) rfl rfl (bP.thr rfl ⟨by decide, hp, A_hp, rfl⟩)
    · skip
      refine yG.load xak rfl (fun _ _ => rfl) (v := yR k0) rfl rfl ?_
      refine yG.getO A_hp.1 (w_G_net W H_k0) rfl rfl (fun r432 H_r432 O_r432 q_r432 => ?_)
      refine yG.load xik rfl (fun _ _ => rfl) (v := yI (4)) rfl rfl ?_
      refine yG.load xik rfl (fun _ _ => rfl) (v := yI (p2)) rfl rfl ?_
      refine yG.invV (rest := []) A_hp.1 (bOb (d_Net W) H_r432) rfl rfl rfl rfl (c_Net_has_4 W (d + 2) A_hp.1 H_r432 (p2) (by omega) (by omega)) (fun rv hp9 q9 => ?_)
      obtain ⟨⟨z433, rfl, l_z433, u_z433, R_z433⟩, e9⟩ := q9
      rw [e9]
      show yG _ _ _ _ _ _ _ _ _ _ (yI z433 :: []) _
      refine yG.ifz rfl (t := 22) rfl ⟨by omega, by omega⟩ (fun c434 => ?_) (fun c434 => ?_)
      · have c434 : (z433 : Int) ≠ 0 := c434
        refine yG.load xak rfl (fun _ _ => rfl) (v := yR k0) rfl rfl ?_
        refine yG.getS9 A_hp.1 (w_G_net W H_k0) q_r432 rfl rfl ?_
        refine yG.load xik rfl (fun _ _ => rfl) (v := yI (4)) rfl rfl ?_
        refine yG.load xik rfl (fun _ _ => rfl) (v := yI (p2)) rfl rfl ?_
        refine yG.load xik rfl (fun _ _ => rfl) (v := yI (p3)) rfl rfl ?_
        refine yG.load xik rfl (fun _ _ => rfl) (v := yI (p4)) rfl rfl ?_
        refine yG.invV (rest := []) A_hp.1 (bOb (d_Net W) H_r432) rfl rfl rfl rfl (c_Net_allows_4_h W (d + 2) A_hp.1 H_r432 (p2) (p3) (p4) (by omega) (by omega) (by omega) (by omega) (by omega) (by omega)) (fun rv hp9 q9 => ?_)
        obtain ⟨⟨z435, rfl, l_z435, u_z435, R_z435⟩, e9⟩ := q9
        rw [e9]
        show yG _ _ _ _ _ _ _ _ _ _ (yI z435 :: []) _
        refine yG.ifz rfl (t := 47) rfl ⟨by omega, by omega⟩ (fun c436 => ?_) (fun c436 => ?_)
        · have c436 : (z435 : Int) ≠ 0 := c436
          exfalso; omega
        · have c436 : (z435 : Int) = 0 := c436
          exact yG.newT (P := bP _ _ _) rfl rfl (bP.thr rfl ⟨by decide, hp, A_hp, rfl⟩)
      · have c434 : (z433 : Int) = 0 := c434
        exact yG.newT (P := bP _ _ _) rfl rfl (bP.thr rfl ⟨by decide, hp, A_hp, rfl⟩)
    · subst c426
      refine yG.load xak rfl (fun _ _ => rfl) (v := yR k0) rfl rfl ?_
      refine yG.getO A_hp.1 (w_G_net W H_k0) rfl rfl (fun r437 H_r437 O_r437 q_r437 => ?_)
      refine yG.load xik rfl (fun _ _ => rfl) (v := yI (4)) rfl rfl ?_
      refine yG.load xik rfl (fun _ _ => rfl) (v := yI (p2)) rfl rfl ?_
      refine yG.invV (rest := []) A_hp.1 (bOb (d_Net W) H_r437) rfl rfl rfl rfl (c_Net_has_4 W (d + 2) A_hp.1 H_r437 (p2) (by omega) (by omega)) (fun rv hp9 q9 => ?_)
      obtain ⟨⟨z438, rfl, l_z438, u_z438, R_z438⟩, e9⟩ := q9
      rw [e9]
      show yG _ _ _ _ _ _ _ _ _ _ (yI z438 :: []) _
      refine yG.ifz rfl (t := 22) rfl ⟨by omega, by omega⟩ (fun c439 => ?_) (fun c439 => ?_)
      · have c439 : (z438 : Int) ≠ 0 := c439
        refine yG.load xak rfl (fun _ _ => rfl) (v := yR k0) rfl rfl ?_
        refine yG.getS9 A_hp.1 (w_G_net W H_k0) q_r437 rfl rfl ?_
        refine yG.load xik rfl (fun _ _ => rfl) (v := yI (4)) rfl rfl ?_
        refine yG.load xik rfl (fun _ _ => rfl) (v := yI (p2)) rfl rfl ?_
        refine yG.load xik rfl (fun _ _ => rfl) (v := yI (0)) rfl rfl ?_
        refine yG.load xik rfl (fun _ _ => rfl) (v := yI (p4)) rfl rfl ?_
        refine yG.invV (rest := []) A_hp.1 (bOb (d_Net W) H_r437) rfl rfl rfl rfl (c_Net_allows_4_0 W (d + 1) A_hp.1 H_r437 (p2) (p4) (by omega) (by omega) (by omega) (by omega)) (fun rv hp9 q9 => ?_)
        obtain ⟨⟨z440, rfl, l_z440, u_z440, R_z440⟩, e9⟩ := q9
        rw [e9]
        show yG _ _ _ _ _ _ _ _ _ _ (yI z440 :: []) _
        refine yG.ifz rfl (t := 47) rfl ⟨by omega, by omega⟩ (fun c441 => ?_) (fun c441 => ?_)
        · have c441 : (z440 : Int) ≠ 0 := c441
          refine yG.load xak rfl (fun _ _ => rfl) (v := yR k0) rfl rfl ?_
          refine yG.getS9 A_hp.1 (w_G_net W H_k0) q_r437 rfl rfl ?_
          refine yG.load xik rfl (fun _ _ => rfl) (v := yI (4)) rfl rfl ?_
          refine yG.load xik rfl (fun _ _ => rfl) (v := yI (p2)) rfl rfl ?_
          refine yG.load xik rfl (fun _ _ => rfl) (v := yI (0)) rfl rfl ?_
          refine yG.invV (rest := []) A_hp.1 (bOb (d_Net W) H_r437) rfl rfl rfl rfl (c_Net_at_4_0 W (d + 2) A_hp.1 H_r437 (p2) (by omega) (by omega)) (fun rv hp9 q9 => ?_)
          obtain ⟨⟨z442, rfl, l_z442, u_z442, R_z442⟩, e9⟩ := q9
          rw [e9]
          show yG _ _ _ _ _ _ _ _ _ _ (yI z442 :: []) _
          refine yG.store1 xik (L' := [(5, yI (z442)), (0, yR k0), (1, yI (4)), (2, yI (p2)), (3, yI (0)), (4, yI (p4))]) rfl (fun _ _ => rfl) rfl rfl ?_
          refine yG.load xak rfl (fun _ _ => rfl) (v := yR k0) rfl rfl ?_
          refine yG.getS9 A_hp.1 (w_G_net W H_k0) q_r437 rfl rfl ?_
          refine yG.load xik rfl (fun _ _ => rfl) (v := yI (4)) rfl rfl ?_
          refine yG.load xik rfl (fun _ _ => rfl) (v := yI (p2)) rfl rfl ?_
          refine yG.load xik rfl (fun _ _ => rfl) (v := yI (0)) rfl rfl ?_
          refine yG.load xik rfl (fun _ _ => rfl) (v := yI (p4)) rfl rfl ?_
          refine yG.invV (rest := []) A_hp.1 (bOb (d_Net W) H_r437) rfl rfl rfl rfl (c_Net_put_4_0 W (d + 2) A_hp.1 H_r437 (p2) (p4) (by omega) (by omega) (by omega) (by omega)) (fun rv h443 q9 => ?_)
          obtain ⟨⟨rfl, R_z444⟩, B_h443⟩ := q9
          have A_h443 := A_hp.tr B_h443 (by decide)
          have qq33 : zsl h443 k0 1 = yR r437 := (B_h443.sl H_k0 (by decide)).trans q_r437
          show yG _ _ _ _ _ _ _ _ _ _ [] _
          refine yG.load xak rfl (fun _ _ => rfl) (v := yR k0) rfl rfl ?_
          refine yG.invV (rest := []) A_h443.1 (bOb (d_G W) H_k0) rfl rfl rfl rfl (c_G_changed W (d + 2) A_h443.1 H_k0) (fun rv h445 q9 => ?_)
          obtain ⟨⟨rfl, R_z446⟩, B_h445⟩ := q9
          have A_h445 := A_h443.tr B_h445 (by decide)
          have qq34 : zsl h445 k0 1 = yR r437 := (B_h445.sl H_k0 (by decide)).trans qq33
          show yG _ _ _ _ _ _ _ _ _ _ [] _
          refine yG.load xik rfl (fun _ _ => rfl) (v := yI (z442)) rfl rfl ?_
          refine yG.ret rfl (fun _ _ => rfl) ?_
          exact .inl (yP.int ⟨by omega, by omega⟩ ⟨⟨z442, rfl, by omega, by omega, by omega⟩, A_h445⟩)
        · have c441 : (z440 : Int) = 0 := c441
          exact yG.newT (P := bP _ _ _) rfl rfl (bP.thr rfl ⟨by decide, hp, A_hp, rfl⟩)
      · have c439 : (z438 : Int) = 0 := c439
        exact yG.newT (P := bP _ _ _) rfl rfl (bP.thr rfl ⟨by decide, hp, A_hp, rfl⟩)
    · subst c426
      refine yG.load xak rfl (fun _ _ => rfl) (v := yR k0) rfl rfl ?_
      refine yG.getO A_hp.1 (w_G_net W H_k0) rfl rfl (fun r447 H_r447 O_r447 q_r447 => ?_)
      refine yG.load xik rfl (fun _ _ => rfl) (v := yI (4)) rfl rfl ?_
      refine yG.load xik rfl (fun _ _ => rfl) (v := yI (p2)) rfl rfl ?_
      refine yG.invV (rest := []) A_hp.1 (bOb (d_Net W) H_r447) rfl rfl rfl rfl (c_Net_has_4 W (d + 2) A_hp.1 H_r447 (p2) (by omega) (by omega)) (fun rv hp9 q9 => ?_)
      obtain ⟨⟨z448, rfl, l_z448, u_z448, R_z448⟩, e9⟩ := q9
      rw [e9]
      show yG _ _ _ _ _ _ _ _ _ _ (yI z448 :: []) _
      refine yG.ifz rfl (t := 22) rfl ⟨by omega, by omega⟩ (fun c449 => ?_) (fun c449 => ?_)
      · have c449 : (z448 : Int) ≠ 0 := c449
        refine yG.load xak rfl (fun _ _ => rfl) (v := yR k0) rfl rfl ?_
        refine yG.getS9 A_hp.1 (w_G_net W H_k0) q_r447 rfl rfl ?_
        refine yG.load xik rfl (fun _ _ => rfl) (v := yI (4)) rfl rfl ?_
        refine yG.load xik rfl (fun _ _ => rfl) (v := yI (p2)) rfl rfl ?_
        refine yG.load xik rfl (fun _ _ => rfl) (v := yI (1)) rfl rfl ?_
        refine yG.load xik rfl (fun _ _ => rfl) (v := yI (p4)) rfl rfl ?_
        refine yG.invV (rest := []) A_hp.1 (bOb (d_Net W) H_r447) rfl rfl rfl rfl (c_Net_allows_4_1 W (d + 2) A_hp.1 H_r447 (p2) (p4) (by omega) (by omega) (by omega) (by omega)) (fun rv hp9 q9 => ?_)
        obtain ⟨⟨z450, rfl, l_z450, u_z450, R_z450⟩, e9⟩ := q9
        rw [e9]
        show yG _ _ _ _ _ _ _ _ _ _ (yI z450 :: []) _
        refine yG.ifz rfl (t := 47) rfl ⟨by omega, by omega⟩ (fun c451 => ?_) (fun c451 => ?_)
        · have c451 : (z450 : Int) ≠ 0 := c451
          exfalso; omega
        · have c451 : (z450 : Int) = 0 := c451
          exact yG.newT (P := bP _ _ _) rfl rfl (bP.thr rfl ⟨by decide, hp, A_hp, rfl⟩)
      · have c449 : (z448 : Int) = 0 := c449
        exact yG.newT (P := bP _ _ _) rfl rfl (bP.thr rfl ⟨by decide, hp, A_hp, rfl⟩)
    · subst c426
      refine yG.load xak rfl (fun _ _ => rfl) (v := yR k0) rfl rfl ?_
      refine yG.getO A_hp.1 (w_G_net W H_k0) rfl rfl (fun r452 H_r452 O_r452 q_r452 => ?_)
      refine yG.load xik rfl (fun _ _ => rfl) (v := yI (4)) rfl rfl ?_
      refine yG.load xik rfl (fun _ _ => rfl) (v := yI (p2)) rfl rfl ?_
      refine yG.invV (rest := []) A_hp.1 (bOb (d_Net W) H_r452) rfl rfl rfl rfl (c_Net_has_4 W (d + 2) A_hp.1 H_r452 (p2) (by omega) (by omega)) (fun rv hp9 q9 => ?_)
      obtain ⟨⟨z453, rfl, l_z453, u_z453, R_z453⟩, e9⟩ := q9
      rw [e9]
      show yG _ _ _ _ _ _ _ _ _ _ (yI z453 :: []) _
      refine yG.ifz rfl (t := 22) rfl ⟨by omega, by omega⟩ (fun c454 => ?_) (fun c454 => ?_)
      · have c454 : (z453 : Int) ≠ 0 := c454
        refine yG.load xak rfl (fun _ _ => rfl) (v := yR k0) rfl rfl ?_
        refine yG.getS9 A_hp.1 (w_G_net W H_k0) q_r452 rfl rfl ?_
        refine yG.load xik rfl (fun _ _ => rfl) (v := yI (4)) rfl rfl ?_
        refine yG.load xik rfl (fun _ _ => rfl) (v := yI (p2)) rfl rfl ?_
        refine yG.load xik rfl (fun _ _ => rfl) (v := yI (2)) rfl rfl ?_
        refine yG.load xik rfl (fun _ _ => rfl) (v := yI (p4)) rfl rfl ?_
        refine yG.invV (rest := []) A_hp.1 (bOb (d_Net W) H_r452) rfl rfl rfl rfl (c_Net_allows_4_2 W (d + 2) A_hp.1 H_r452 (p2) (p4) (by omega) (by omega) (by omega) (by omega)) (fun rv hp9 q9 => ?_)
        obtain ⟨⟨z455, rfl, l_z455, u_z455, R_z455⟩, e9⟩ := q9
        rw [e9]
        show yG _ _ _ _ _ _ _ _ _ _ (yI z455 :: []) _
        refine yG.ifz rfl (t := 47) rfl ⟨by omega, by omega⟩ (fun c456 => ?_) (fun c456 => ?_)
        · have c456 : (z455 : Int) ≠ 0 := c456
          exfalso; omega
        · have c456 : (z455 : Int) = 0 := c456
          exact yG.newT (P := bP _ _ _) rfl rfl (bP.thr rfl ⟨by decide, hp, A_hp, rfl⟩)
      · have c454 : (z453 : Int) = 0 := c454
        exact yG.newT (P := bP _ _ _) rfl rfl (bP.thr rfl ⟨by decide, hp, A_hp, rfl⟩)
    · subst c426
      refine yG.load xak rfl (fun _ _ => rfl) (v := yR k0) rfl rfl ?_
      refine yG.getO A_hp.1 (w_G_net W H_k0) rfl rfl (fun r457 H_r457 O_r457 q_r457 => ?_)
      refine yG.load xik rfl (fun _ _ => rfl) (v := yI (4)) rfl rfl ?_
      refine yG.load xik rfl (fun _ _ => rfl) (v := yI (p2)) rfl rfl ?_
      refine yG.invV (rest := []) A_hp.1 (bOb (d_Net W) H_r457) rfl rfl rfl rfl (c_Net_has_4 W (d + 2) A_hp.1 H_r457 (p2) (by omega) (by omega)) (fun rv hp9 q9 => ?_)
      obtain ⟨⟨z458, rfl, l_z458, u_z458, R_z458⟩, e9⟩ := q9
      rw [e9]
      show yG _ _ _ _ _ _ _ _ _ _ (yI z458 :: []) _
      refine yG.ifz rfl (t := 22) rfl ⟨by omega, by omega⟩ (fun c459 => ?_) (fun c459 => ?_)
      · have c459 : (z458 : Int) ≠ 0 := c459
        refine yG.load xak rfl (fun _ _ => rfl) (v := yR k0) rfl rfl ?_
        refine yG.getS9 A_hp.1 (w_G_net W H_k0) q_r457 rfl rfl ?_
        refine yG.load xik rfl (fun _ _ => rfl) (v := yI (4)) rfl rfl ?_
        refine yG.load xik rfl (fun _ _ => rfl) (v := yI (p2)) rfl rfl ?_
        refine yG.load xik rfl (fun _ _ => rfl) (v := yI (3)) rfl rfl ?_
        refine yG.load xik rfl (fun _ _ => rfl) (v := yI (p4)) rfl rfl ?_
        refine yG.invV (rest := []) A_hp.1 (bOb (d_Net W) H_r457) rfl rfl rfl rfl (c_Net_allows_4_3 W (d + 2) A_hp.1 H_r457 (p2) (p4) (by omega) (by omega) (by omega) (by omega)) (fun rv hp9 q9 => ?_)
        obtain ⟨⟨z460, rfl, l_z460, u_z460, R_z460⟩, e9⟩ := q9
        rw [e9]
        show yG _ _ _ _ _ _ _ _ _ _ (yI z460 :: []) _
        refine yG.ifz rfl (t := 47) rfl ⟨by omega, by omega⟩ (fun c461 => ?_) (fun c461 => ?_)
        · have c461 : (z460 : Int) ≠ 0 := c461
          exfalso; omega
        · have c461 : (z460 : Int) = 0 := c461
          exact yG.newT (P := bP _ _ _) rfl rfl (bP.thr rfl ⟨by decide, hp, A_hp, rfl⟩)
      · have c459 : (z458 : Int) = 0 := c459
        exact yG.newT (P := bP _ _ _) rfl rfl (bP.thr rfl ⟨by decide, hp, A_hp, rfl⟩)
    · subst c426
      refine yG.load xak rfl (fun _ _ => rfl) (v := yR k0) rfl rfl ?_
      refine yG.getO A_hp.1 (w_G_net W H_k0) rfl rfl (fun r462 H_r462 O_r462 q_r462 => ?_)
      refine yG.load xik rfl (fun _ _ => rfl) (v := yI (4)) rfl rfl ?_
      refine yG.load xik rfl (fun _ _ => rfl) (v := yI (p2)) rfl rfl ?_
      refine yG.invV (rest := []) A_hp.1 (bOb (d_Net W) H_r462) rfl rfl rfl rfl (c_Net_has_4 W (d + 2) A_hp.1 H_r462 (p2) (by omega) (by omega)) (fun rv hp9 q9 => ?_)
      obtain ⟨⟨z463, rfl, l_z463, u_z463, R_z463⟩, e9⟩ := q9
      rw [e9]
      show yG _ _ _ _ _ _ _ _ _ _ (yI z463 :: []) _
      refine yG.ifz rfl (t := 22) rfl ⟨by omega, by omega⟩ (fun c464 => ?_) (fun c464 => ?_)
      · have c464 : (z463 : Int) ≠ 0 := c464
        refine yG.load xak rfl (fun _ _ => rfl) (v := yR k0) rfl rfl ?_
        refine yG.getS9 A_hp.1 (w_G_net W H_k0) q_r462 rfl rfl ?_
        refine yG.load xik rfl (fun _ _ => rfl) (v := yI (4)) rfl rfl ?_
        refine yG.load xik rfl (fun _ _ => rfl) (v := yI (p2)) rfl rfl ?_
        refine yG.load xik rfl (fun _ _ => rfl) (v := yI (4)) rfl rfl ?_
        refine yG.load xik rfl (fun _ _ => rfl) (v := yI (p4)) rfl rfl ?_
        refine yG.invV (rest := []) A_hp.1 (bOb (d_Net W) H_r462) rfl rfl rfl rfl (c_Net_allows_4_4 W (d + 2) A_hp.1 H_r462 (p2) (p4) (by omega) (by omega) (by omega) (by omega)) (fun rv hp9 q9 => ?_)
        obtain ⟨⟨z465, rfl, l_z465, u_z465, R_z465⟩, e9⟩ := q9
        rw [e9]
        show yG _ _ _ _ _ _ _ _ _ _ (yI z465 :: []) _
        refine yG.ifz rfl (t := 47) rfl ⟨by omega, by omega⟩ (fun c466 => ?_) (fun c466 => ?_)
        · have c466 : (z465 : Int) ≠ 0 := c466
          exfalso; omega
        · have c466 : (z465 : Int) = 0 := c466
          exact yG.newT (P := bP _ _ _) rfl rfl (bP.thr rfl ⟨by decide, hp, A_hp, rfl⟩)
      · have c464 : (z463 : Int) = 0 := c464
        exact yG.newT (P := bP _ _ _) rfl rfl (bP.thr rfl ⟨by decide, hp, A_hp, rfl⟩)
    · subst c426
      refine yG.load xak rfl (fun _ _ => rfl) (v := yR k0) rfl rfl ?_
      refine yG.getO A_hp.1 (w_G_net W H_k0) rfl rfl (fun r467 H_r467 O_r467 q_r467 => ?_)
      refine yG.load xik rfl (fun _ _ => rfl) (v := yI (4)) rfl rfl ?_
      refine yG.load xik rfl (fun _ _ => rfl) (v := yI (p2)) rfl rfl ?_
      refine yG.invV (rest := []) A_hp.1 (bOb (d_Net W) H_r467) rfl rfl rfl rfl (c_Net_has_4 W (d + 2) A_hp.1 H_r467 (p2) (by omega) (by omega)) (fun rv hp9 q9 => ?_)
      obtain ⟨⟨z468, rfl, l_z468, u_z468, R_z468⟩, e9⟩ := q9
      rw [e9]
      show yG _ _ _ _ _ _ _ _ _ _ (yI z468 :: []) _
      refine yG.ifz rfl (t := 22) rfl ⟨by omega, by omega⟩ (fun c469 => ?_) (fun c469 => ?_)
      · have c469 : (z468 : Int) ≠ 0 := c469
        refine yG.load xak rfl (fun _ _ => rfl) (v := yR k0) rfl rfl ?_
        refine yG.getS9 A_hp.1 (w_G_net W H_k0) q_r467 rfl rfl ?_
        refine yG.load xik rfl (fun _ _ => rfl) (v := yI (4)) rfl rfl ?_
        refine yG.load xik rfl (fun _ _ => rfl) (v := yI (p2)) rfl rfl ?_
        refine yG.load xik rfl (fun _ _ => rfl) (v := yI (5)) rfl rfl ?_
        refine yG.load xik rfl (fun _ _ => rfl) (v := yI (p4)) rfl rfl ?_
        refine yG.invV (rest := []) A_hp.1 (bOb (d_Net W) H_r467) rfl rfl rfl rfl (c_Net_allows_4_5 W (d + 2) A_hp.1 H_r467 (p2) (p4) (by omega) (by omega) (by omega) (by omega)) (fun rv hp9 q9 => ?_)
        obtain ⟨⟨z470, rfl, l_z470, u_z470, R_z470⟩, e9⟩ := q9
        rw [e9]
        show yG _ _ _ _ _ _ _ _ _ _ (yI z470 :: []) _
        refine yG.ifz rfl (t := 47) rfl ⟨by omega, by omega⟩ (fun c471 => ?_) (fun c471 => ?_)
        · have c471 : (z470 : Int) ≠ 0 := c471
          exfalso; omega
        · have c471 : (z470 : Int) = 0 := c471
          exact yG.newT (P := bP _ _ _) rfl rfl (bP.thr rfl ⟨by decide, hp, A_hp, rfl⟩)
      · have c469 : (z468 : Int) = 0 := c469
        exact yG.newT (P := bP _ _ _) rfl rfl (bP.thr rfl ⟨by decide, hp, A_hp, rfl⟩)
    · subst c426
      refine yG.load xak rfl (fun _ _ => rfl) (v := yR k0) rfl rfl ?_
      refine yG.getO A_hp.1 (w_G_net W H_k0) rfl rfl (fun r472 H_r472 O_r472 q_r472 => ?_)
      refine yG.load xik rfl (fun _ _ => rfl) (v := yI (4)) rfl rfl ?_
      refine yG.load xik rfl (fun _ _ => rfl) (v := yI (p2)) rfl rfl ?_
      refine yG.invV (rest := []) A_hp.1 (bOb (d_Net W) H_r472) rfl rfl rfl rfl (c_Net_has_4 W (d + 2) A_hp.1 H_r472 (p2) (by omega) (by omega)) (fun rv hp9 q9 => ?_)
      obtain ⟨⟨z473, rfl, l_z473, u_z473, R_z473⟩, e9⟩ := q9
      rw [e9]
      show yG _ _ _ _ _ _ _ _ _ _ (yI z473 :: []) _
      refine yG.ifz rfl (t := 22) rfl ⟨by omega, by omega⟩ (fun c474 => ?_) (fun c474 => ?_)
      · have c474 : (z473 : Int) ≠ 0 := c474
        refine yG.load xak rfl (fun _ _ => rfl) (v := yR k0) rfl rfl ?_
        refine yG.getS9 A_hp.1 (w_G_net W H_k0) q_r472 rfl rfl ?_
        refine yG.load xik rfl (fun _ _ => rfl) (v := yI (4)) rfl rfl ?_
        refine yG.load xik rfl (fun _ _ => rfl) (v := yI (p2)) rfl rfl ?_
        refine yG.load xik rfl (fun _ _ => rfl) (v := yI (6)) rfl rfl ?_
        refine yG.load xik rfl (fun _ _ => rfl) (v := yI (p4)) rfl rfl ?_
        refine yG.invV (rest := []) A_hp.1 (bOb (d_Net W) H_r472) rfl rfl rfl rfl (c_Net_allows_4_6 W (d + 2) A_hp.1 H_r472 (p2) (p4) (by omega) (by omega) (by omega) (by omega)) (fun rv hp9 q9 => ?_)
        obtain ⟨⟨z475, rfl, l_z475, u_z475, R_z475⟩, e9⟩ := q9
        rw [e9]
        show yG _ _ _ _ _ _ _ _ _ _ (yI z475 :: []) _
        refine yG.ifz rfl (t := 47) rfl ⟨by omega, by omega⟩ (fun c476 => ?_) (fun c476 => ?_)
        · have c476 : (z475 : Int) ≠ 0 := c476
          exfalso; omega
        · have c476 : (z475 : Int) = 0 := c476
          exact yG.newT (P := bP _ _ _) rfl rfl (bP.thr rfl ⟨by decide, hp, A_hp, rfl⟩)
      · have c474 : (z473 : Int) = 0 := c474
        exact yG.newT (P := bP _ _ _) rfl rfl (bP.thr rfl ⟨by decide, hp, A_hp, rfl⟩)
    · subst c426
      refine yG.load xak rfl (fun _ _ => rfl) (v := yR k0) rfl rfl ?_
      refine yG.getO A_hp.1 (w_G_net W H_k0) rfl rfl (fun r477 H_r477 O_r477 q_r477 => ?_)
      refine yG.load xik rfl (fun _ _ => rfl) (v := yI (4)) rfl rfl ?_
      refine yG.load xik rfl (fun _ _ => rfl) (v := yI (p2)) rfl rfl ?_
      refine yG.invV (rest := []) A_hp.1 (bOb (d_Net W) H_r477) rfl rfl rfl rfl (c_Net_has_4 W (d + 2) A_hp.1 H_r477 (p2) (by omega) (by omega)) (fun rv hp9 q9 => ?_)
      obtain ⟨⟨z478, rfl, l_z478, u_z478, R_z478⟩, e9⟩ := q9
      rw [e9]
      show yG _ _ _ _ _ _ _ _ _ _ (yI z478 :: []) _
      refine yG.ifz rfl (t := 22) rfl ⟨by omega, by omega⟩ (fun c479 => ?_) (fun c479 => ?_)
      · have c479 : (z478 : Int) ≠ 0 := c479
        refine yG.load xak rfl (fun _ _ => rfl) (v := yR k0) rfl rfl ?_
        refine yG.getS9 A_hp.1 (w_G_net W H_k0) q_r477 rfl rfl ?_
        refine yG.load xik rfl (fun _ _ => rfl) (v := yI (4)) rfl rfl ?_
        refine yG.load xik rfl (fun _ _ => rfl) (v := yI (p2)) rfl rfl ?_
        refine yG.load xik rfl (fun _ _ => rfl) (v := yI (7)) rfl rfl ?_
        refine yG.load xik rfl (fun _ _ => rfl) (v := yI (p4)) rfl rfl ?_
        refine yG.invV (rest := []) A_hp.1 (bOb (d_Net W) H_r477) rfl rfl rfl rfl (c_Net_allows_4_7 W (d + 2) A_hp.1 H_r477 (p2) (p4) (by omega) (by omega) (by omega) (by omega)) (fun rv hp9 q9 => ?_)
        obtain ⟨⟨z480, rfl, l_z480, u_z480, R_z480⟩, e9⟩ := q9
        rw [e9]
        show yG _ _ _ _ _ _ _ _ _ _ (yI z480 :: []) _
        refine yG.ifz rfl (t := 47) rfl ⟨by omega, by omega⟩ (fun c481 => ?_) (fun c481 => ?_)
        · have c481 : (z480 : Int) ≠ 0 := c481
          exfalso; omega
        · have c481 : (z480 : Int) = 0 := c481
          exact yG.newT (P := bP _ _ _) rfl rfl (bP.thr rfl ⟨by decide, hp, A_hp, rfl⟩)
      · have c479 : (z478 : Int) = 0 := c479
        exact yG.newT (P := bP _ _ _) rfl rfl (bP.thr rfl ⟨by decide, hp, A_hp, rfl⟩)
    · subst c426
      refine yG.load xak rfl (fun _ _ => rfl) (v := yR k0) rfl rfl ?_
      refine yG.getO A_hp.1 (w_G_net W H_k0) rfl rfl (fun r482 H_r482 O_r482 q_r482 => ?_)
      refine yG.load xik rfl (fun _ _ => rfl) (v := yI (4)) rfl rfl ?_
      refine yG.load xik rfl (fun _ _ => rfl) (v := yI (p2)) rfl rfl ?_
      refine yG.invV (rest := []) A_hp.1 (bOb (d_Net W) H_r482) rfl rfl rfl rfl (c_Net_has_4 W (d + 2) A_hp.1 H_r482 (p2) (by omega) (by omega)) (fun rv hp9 q9 => ?_)
      obtain ⟨⟨z483, rfl, l_z483, u_z483, R_z483⟩, e9⟩ := q9
      rw [e9]
      show yG _ _ _ _ _ _ _ _ _ _ (yI z483 :: []) _
      refine yG.ifz rfl (t := 22) rfl ⟨by omega, by omega⟩ (fun c484 => ?_) (fun c484 => ?_)
      · have c484 : (z483 : Int) ≠ 0 := c484
        refine yG.load xak rfl (fun _ _ => rfl) (v := yR k0) rfl rfl ?_
        refine yG.getS9 A_hp.1 (w_G_net W H_k0) q_r482 rfl rfl ?_
        refine yG.load xik rfl (fun _ _ => rfl) (v := yI (4)) rfl rfl ?_
        refine yG.load xik rfl (fun _ _ => rfl) (v := yI (p2)) rfl rfl ?_
        refine yG.load xik rfl (fun _ _ => rfl) (v := yI (8)) rfl rfl ?_
        refine yG.load xik rfl (fun _ _ => rfl) (v := yI (p4)) rfl rfl ?_
        refine yG.invV (rest := []) A_hp.1 (bOb (d_Net W) H_r482) rfl rfl rfl rfl (c_Net_allows_4_8 W (d + 2) A_hp.1 H_r482 (p2) (p4) (by omega) (by omega) (by omega) (by omega)) (fun rv hp9 q9 => ?_)
        obtain ⟨⟨z485, rfl, l_z485, u_z485, R_z485⟩, e9⟩ := q9
        rw [e9]
        show yG _ _ _ _ _ _ _ _ _ _ (yI z485 :: []) _
        refine yG.ifz rfl (t := 47) rfl ⟨by omega, by omega⟩ (fun c486 => ?_) (fun c486 => ?_)
        · have c486 : (z485 : Int) ≠ 0 := c486
          exfalso; omega
        · have c486 : (z485 : Int) = 0 := c486
          exact yG.newT (P := bP _ _ _) rfl rfl (bP.thr rfl ⟨by decide, hp, A_hp, rfl⟩)
      · have c484 : (z483 : Int) = 0 := c484
        exact yG.newT (P := bP _ _ _) rfl rfl (bP.thr rfl ⟨by decide, hp, A_hp, rfl⟩)
    · subst c426
      refine yG.load xak rfl (fun _ _ => rfl) (v := yR k0) rfl rfl ?_
      refine yG.getO A_hp.1 (w_G_net W H_k0) rfl rfl (fun r487 H_r487 O_r487 q_r487 => ?_)
      refine yG.load xik rfl (fun _ _ => rfl) (v := yI (4)) rfl rfl ?_
      refine yG.load xik rfl (fun _ _ => rfl) (v := yI (p2)) rfl rfl ?_
      refine yG.invV (rest := []) A_hp.1 (bOb (d_Net W) H_r487) rfl rfl rfl rfl (c_Net_has_4 W (d + 2) A_hp.1 H_r487 (p2) (by omega) (by omega)) (fun rv hp9 q9 => ?_)
      obtain ⟨⟨z488, rfl, l_z488, u_z488, R_z488⟩, e9⟩ := q9
      rw [e9]
      show yG _ _ _ _ _ _ _ _ _ _ (yI z488 :: []) _
      refine yG.ifz rfl (t := 22) rfl ⟨by omega, by omega⟩ (fun c489 => ?_) (fun c489 => ?_)
      · have c489 : (z488 : Int) ≠ 0 := c489
        refine yG.load xak rfl (fun _ _ => rfl) (v := yR k0) rfl rfl ?_
        refine yG.getS9 A_hp.1 (w_G_net W H_k0) q_r487 rfl rfl ?_
        refine yG.load xik rfl (fun _ _ => rfl) (v := yI (4)) rfl rfl ?_
        refine yG.load xik rfl (fun _ _ => rfl) (v := yI (p2)) rfl rfl ?_
        refine yG.load xik rfl (fun _ _ => rfl) (v := yI (9)) rfl rfl ?_
        refine yG.load xik rfl (fun _ _ => rfl) (v := yI (p4)) rfl rfl ?_
        refine yG.invV (rest := []) A_hp.1 (bOb (d_Net W) H_r487) rfl rfl rfl rfl (c_Net_allows_4_9 W (d + 2) A_hp.1 H_r487 (p2) (p4) (by omega) (by omega) (by omega) (by omega)) (fun rv hp9 q9 => ?_)
        obtain ⟨⟨z490, rfl, l_z490, u_z490, R_z490⟩, e9⟩ := q9
        rw [e9]
        show yG _ _ _ _ _ _ _ _ _ _ (yI z490 :: []) _
        refine yG.ifz rfl (t := 47) rfl ⟨by omega, by omega⟩ (fun c491 => ?_) (fun c491 => ?_)
        · have c491 : (z490 : Int) ≠ 0 := c491
          exfalso; omega
        · have c491 : (z490 : Int) = 0 := c491
          exact yG.newT (P := bP _ _ _) rfl rfl (bP.thr rfl ⟨by decide, hp, A_hp, rfl⟩)
      · have c489 : (z488 : Int) = 0 := c489
        exact yG.newT (P := bP _ _ _) rfl rfl (bP.thr rfl ⟨by decide, hp, A_hp, rfl⟩)
    · subst c426
      refine yG.load xak rfl (fun _ _ => rfl) (v := yR k0) rfl rfl ?_
      refine yG.getO A_hp.1 (w_G_net W H_k0) rfl rfl (fun r492 H_r492 O_r492 q_r492 => ?_)
      refine yG.load xik rfl (fun _ _ => rfl) (v := yI (4)) rfl rfl ?_
      refine yG.load xik rfl (fun _ _ => rfl) (v := yI (p2)) rfl rfl ?_
      refine yG.invV (rest := []) A_hp.1 (bOb (d_Net W) H_r492) rfl rfl rfl rfl (c_Net_has_4 W (d + 2) A_hp.1 H_r492 (p2) (by omega) (by omega)) (fun rv hp9 q9 => ?_)
      obtain ⟨⟨z493, rfl, l_z493, u_z493, R_z493⟩, e9⟩ := q9
      rw [e9]
      show yG _ _ _ _ _ _ _ _ _ _ (yI z493 :: []) _
      refine yG.ifz rfl (t := 22) rfl ⟨by omega, by omega⟩ (fun c494 => ?_) (fun c494 => ?_)
      · have c494 : (z493 : Int) ≠ 0 := c494
        refine yG.load xak rfl (fun _ _ => rfl) (v := yR k0) rfl rfl ?_
        refine yG.getS9 A_hp.1 (w_G_net W H_k0) q_r492 rfl rfl ?_
        refine yG.load xik rfl (fun _ _ => rfl) (v := yI (4)) rfl rfl ?_
        refine yG.load xik rfl (fun _ _ => rfl) (v := yI (p2)) rfl rfl ?_
        refine yG.load xik rfl (fun _ _ => rfl) (v := yI (10)) rfl rfl ?_
        refine yG.load xik rfl (fun _ _ => rfl) (v := yI (p4)) rfl rfl ?_
        refine yG.invV (rest := []) A_hp.1 (bOb (d_Net W) H_r492) rfl rfl rfl rfl (c_Net_allows_4_10 W (d + 2) A_hp.1 H_r492 (p2) (p4) (by omega) (by omega) (by omega) (by omega)) (fun rv hp9 q9 => ?_)
        obtain ⟨⟨z495, rfl, l_z495, u_z495, R_z495⟩, e9⟩ := q9
        rw [e9]
        show yG _ _ _ _ _ _ _ _ _ _ (yI z495 :: []) _
        refine yG.ifz rfl (t := 47) rfl ⟨by omega, by omega⟩ (fun c496 => ?_) (fun c496 => ?_)
        · have c496 : (z495 : Int) ≠ 0 := c496
          exfalso; omega
        · have c496 : (z495 : Int) = 0 := c496
          exact yG.newT (P := bP _ _ _) rfl rfl (bP.thr rfl ⟨by decide, hp, A_hp, rfl⟩)
      · have c494 : (z493 : Int) = 0 := c494
        exact yG.newT (P := bP _ _ _) rfl rfl (bP.thr rfl ⟨by decide, hp, A_hp, rfl⟩)
end BCalls
