/-! ===== the reference: numbers from residues ===== -/
section MBase
variable {G : zW}
theorem c_GModel_in_y {hp : xH} (W : mW G) (d : Nat) (hT : zTy G hp) (p0 p2 p4 : Int) (h0l : (-9223372036854775808) ≤ p0) (h0u : p0 ≤ 9223372036854775807) (h2l : (-9223372036854775808) ≤ p2) (h2u : p2 ≤ 9223372036854775807) (h4l : (-9223372036854775808) ≤ p4) (h4u : p4 ≤ 9223372036854775807) (f90 : 0 ≤ p0 - p2) (f91 : 0 ≤ 0 - p0 + p4) : yC (xcall 89 xfts xpools xms (d + 1)) 416 [yJ (p0), yJ (p2), yJ (p4)] hp (bQpi hp 1 1 (fun _ => True)) := by
  have A_hp : bAx G [] hp hp := bAx.rf hT
  refine yC.of (M := (xt_X13_in, (6, (4, (14, []))))) rfl rfl (N := 39) (yfuel (by decide)) ?_
  show yG 89 xfts (xcall 89 xfts xpools xms d) (xpool xp_RX13) [] xt_X13_in (yP 4 (bQpi hp 1 1 (fun _ => True))) 39 0 [(0, yJ (p0)), (2, yJ (p2)), (4, yJ (p4))] [] hp
  refine yG.load xlk2 rfl (fun _ _ => rfl) (v := yJ (p0)) rfl rfl ?_
  refine yG.load xlk2 rfl (fun _ _ => rfl) (v := yJ (p2)) rfl rfl ?_
  refine yG.lcmp rfl ⟨by omega, by omega⟩ ⟨by omega, by omega⟩ (fun z1 e_z1 => ?_)
  refine yG.ifz rfl (t := 17) rfl ⟨by omega, by omega⟩ (fun c2 => ?_) (fun c2 => ?_)
  · have c2 : (z1 : Int) < 0 := c2
    exfalso; omega
  · have c2 : (z1 : Int) ≥ 0 := c2
    refine yG.load xlk2 rfl (fun _ _ => rfl) (v := yJ (p0)) rfl rfl ?_
    refine yG.load xlk2 rfl (fun _ _ => rfl) (v := yJ (p4)) rfl rfl ?_
    refine yG.lcmp rfl ⟨by omega, by omega⟩ ⟨by omega, by omega⟩ (fun z3 e_z3 => ?_)
    refine yG.ifz rfl (t := 17) rfl ⟨by omega, by omega⟩ (fun c4 => ?_) (fun c4 => ?_)
    · have c4 : (z3 : Int) > 0 := c4
      exfalso; omega
    · have c4 : (z3 : Int) ≤ 0 := c4
      refine yG.num (c := 1) rfl (fun _ _ => rfl) (by decide) ?_
      refine yG.goto rfl (t := 18) rfl ?_
      refine yG.ret rfl (fun _ _ => rfl) ?_
      exact (yP.bool (by omega) ⟨⟨1, rfl, by omega, by omega, trivial⟩, rfl⟩)
theorem c_GModel_in_l {hp : xH} (W : mW G) (d : Nat) (hT : zTy G hp) (p0 p2 p4 : Int) (h0l : (-9223372036854775808) ≤ p0) (h0u : p0 ≤ 9223372036854775807) (h2l : (-9223372036854775808) ≤ p2) (h2u : p2 ≤ 9223372036854775807) (h4l : (-9223372036854775808) ≤ p4) (h4u : p4 ≤ 9223372036854775807) (f90 : 0 ≤ 0 - p0 + p2 - 1) : yC (xcall 89 xfts xpools xms (d + 1)) 416 [yJ (p0), yJ (p2), yJ (p4)] hp (bQpi hp 0 0 (fun _ => True)) := by
  have A_hp : bAx G [] hp hp := bAx.rf hT
  refine yC.of (M := (xt_X13_in, (6, (4, (14, []))))) rfl rfl (N := 24) (yfuel (by decide)) ?_
  show yG 89 xfts (xcall 89 xfts xpools xms d) (xpool xp_RX13) [] xt_X13_in (yP 4 (bQpi hp 0 0 (fun _ => True))) 24 0 [(0, yJ (p0)), (2, yJ (p2)), (4, yJ (p4))] [] hp
  refine yG.load xlk2 rfl (fun _ _ => rfl) (v := yJ (p0)) rfl rfl ?_
  refine yG.load xlk2 rfl (fun _ _ => rfl) (v := yJ (p2)) rfl rfl ?_
  refine yG.lcmp rfl ⟨by omega, by omega⟩ ⟨by omega, by omega⟩ (fun z1 e_z1 => ?_)
  refine yG.ifz rfl (t := 17) rfl ⟨by omega, by omega⟩ (fun c2 => ?_) (fun c2 => ?_)
  · have c2 : (z1 : Int) < 0 := c2
    refine yG.num (c := 0) rfl (fun _ _ => rfl) (by decide) ?_
    refine yG.ret rfl (fun _ _ => rfl) ?_
    exact (yP.bool (by omega) ⟨⟨0, rfl, by omega, by omega, trivial⟩, rfl⟩)
  · have c2 : (z1 : Int) ≥ 0 := c2
    exfalso; omega
theorem c_GModel_in_h {hp : xH} (W : mW G) (d : Nat) (hT : zTy G hp) (p0 p2 p4 : Int) (h0l : (-9223372036854775808) ≤ p0) (h0u : p0 ≤ 9223372036854775807) (h2l : (-9223372036854775808) ≤ p2) (h2u : p2 ≤ 9223372036854775807) (h4l : (-9223372036854775808) ≤ p4) (h4u : p4 ≤ 9223372036854775807) (f90 : 0 ≤ p0 - p4 - 1) : yC (xcall 89 xfts xpools xms (d + 1)) 416 [yJ (p0), yJ (p2), yJ (p4)] hp (bQpi hp 0 0 (fun _ => True)) := by
  have A_hp : bAx G [] hp hp := bAx.rf hT
  refine yC.of (M := (xt_X13_in, (6, (4, (14, []))))) rfl rfl (N := 36) (yfuel (by decide)) ?_
  show yG 89 xfts (xcall 89 xfts xpools xms d) (xpool xp_RX13) [] xt_X13_in (yP 4 (bQpi hp 0 0 (fun _ => True))) 36 0 [(0, yJ (p0)), (2, yJ (p2)), (4, yJ (p4))] [] hp
  refine yG.load xlk2 rfl (fun _ _ => rfl) (v := yJ (p0)) rfl rfl ?_
  refine yG.load xlk2 rfl (fun _ _ => rfl) (v := yJ (p2)) rfl rfl ?_
  refine yG.lcmp rfl ⟨by omega, by omega⟩ ⟨by omega, by omega⟩ (fun z1 e_z1 => ?_)
  refine yG.ifz rfl (t := 17) rfl ⟨by omega, by omega⟩ (fun c2 => ?_) (fun c2 => ?_)
  · have c2 : (z1 : Int) < 0 := c2
    refine yG.num (c := 0) rfl (fun _ _ => rfl) (by decide) ?_
    refine yG.ret rfl (fun _ _ => rfl) ?_
    exact (yP.bool (by omega) ⟨⟨0, rfl, by omega, by omega, trivial⟩, rfl⟩)
  · have c2 : (z1 : Int) ≥ 0 := c2
    refine yG.load xlk2 rfl (fun _ _ => rfl) (v := yJ (p0)) rfl rfl ?_
    refine yG.load xlk2 rfl (fun _ _ => rfl) (v := yJ (p4)) rfl rfl ?_
    refine yG.lcmp rfl ⟨by omega, by omega⟩ ⟨by omega, by omega⟩ (fun z3 e_z3 => ?_)
    refine yG.ifz rfl (t := 17) rfl ⟨by omega, by omega⟩ (fun c4 => ?_) (fun c4 => ?_)
    · have c4 : (z3 : Int) > 0 := c4
      refine yG.num (c := 0) rfl (fun _ _ => rfl) (by decide) ?_
      refine yG.ret rfl (fun _ _ => rfl) ?_
      exact (yP.bool (by omega) ⟨⟨0, rfl, by omega, by omega, trivial⟩, rfl⟩)
    · have c4 : (z3 : Int) ≤ 0 := c4
      exfalso; omega
theorem c_GModel_of_v1_3 {hp : xH} (W : mW G) (d : Nat) (hT : zTy G hp) (H_2073 : bRo G 116 2073) (p2 : Int) (h2l : 0 ≤ p2) (h2u : p2 ≤ 23) : yC (xcall 89 xfts xpools xms (d + 2)) 471 [yR 2073, yI (1), yI (p2), yI (3)] hp (bQpi hp 0 15 (fun z => z = ys hp 2089 (267 + 11 * p2 : Int).toNat)) := by
  have A_hp : bAx G [] hp hp := bAx.rf hT
  refine yC.of (M := (xt_X13_of, (4, (1, (14, []))))) rfl rfl (N := 30) (yfuel (by decide)) ?_
  show yG 89 xfts (xcall 89 xfts xpools xms (d + 1)) (xpool xp_RX13) [] xt_X13_of (yP 1 (bQpi hp 0 15 (fun z => z = ys hp 2089 (267 + 11 * p2 : Int).toNat))) 30 0 [(0, yR 2073), (1, yI (1)), (2, yI (p2)), (3, yI (3))] [] hp
  refine yG.load xak rfl (fun _ _ => rfl) (v := yR 2073) rfl rfl ?_
  refine yG.getO A_hp.1 (w_M_field W H_2073) rfl rfl (fun r1 H_r1 O_r1 q_r1 => ?_)
  obtain rfl := u_M_field W H_r1
  refine yG.load xik rfl (fun _ _ => rfl) (v := yI (1)) rfl rfl ?_
  refine yG.load xik rfl (fun _ _ => rfl) (v := yI (p2)) rfl rfl ?_
  refine yG.load xik rfl (fun _ _ => rfl) (v := yI (3)) rfl rfl ?_
  refine yG.invS (rest := [yR 2089]) rfl rfl rfl rfl (c_GModel_f W d A_hp.1 (1) (p2) (3) (by omega) (by omega) (by omega) (by omega) (by omega) (by omega)) (fun rv hp9 q9 => ?_)
  obtain ⟨⟨z2, rfl, l_z2, u_z2, R_z2⟩, e9⟩ := q9
  rw [e9]
  show yG _ _ _ _ _ _ _ _ _ _ (yI z2 :: [yR 2089]) _
  refine yG.ialdF A_hp.1 (v_M_field W H_r1) (lo := 0) (hi := 15) ((yfT_ix (s := 1) (k := 3) (by omega) (by omega) (by omega) (by decide)).trans rfl) rfl (by omega) (by omega) (fun z3 e_z3 i_z3 l_z3 u_z3 => ?_)
  refine yG.ret rfl (fun _ _ => rfl) ?_
  exact (yP.int ⟨by omega, by omega⟩ ⟨⟨z3, rfl, by omega, by omega, by rw [e_z3]; congr 1; omega⟩, rfl⟩)
theorem c_GModel_of_v1_4 {hp : xH} (W : mW G) (d : Nat) (hT : zTy G hp) (H_2073 : bRo G 116 2073) (p2 : Int) (h2l : 0 ≤ p2) (h2u : p2 ≤ 23) : yC (xcall 89 xfts xpools xms (d + 2)) 471 [yR 2073, yI (1), yI (p2), yI (4)] hp (bQpi hp 0 15 (fun z => z = ys hp 2089 (268 + 11 * p2 : Int).toNat)) := by
  have A_hp : bAx G [] hp hp := bAx.rf hT
  refine yC.of (M := (xt_X13_of, (4, (1, (14, []))))) rfl rfl (N := 30) (yfuel (by decide)) ?_
  show yG 89 xfts (xcall 89 xfts xpools xms (d + 1)) (xpool xp_RX13) [] xt_X13_of (yP 1 (bQpi hp 0 15 (fun z => z = ys hp 2089 (268 + 11 * p2 : Int).toNat))) 30 0 [(0, yR 2073), (1, yI (1)), (2, yI (p2)), (3, yI (4))] [] hp
  refine yG.load xak rfl (fun _ _ => rfl) (v := yR 2073) rfl rfl ?_
  refine yG.getO A_hp.1 (w_M_field W H_2073) rfl rfl (fun r1 H_r1 O_r1 q_r1 => ?_)
  obtain rfl := u_M_field W H_r1
  refine yG.load xik rfl (fun _ _ => rfl) (v := yI (1)) rfl rfl ?_
  refine yG.load xik rfl (fun _ _ => rfl) (v := yI (p2)) rfl rfl ?_
  refine yG.load xik rfl (fun _ _ => rfl) (v := yI (4)) rfl rfl ?_
  refine yG.invS (rest := [yR 2089]) rfl rfl rfl rfl (c_GModel_f W d A_hp.1 (1) (p2) (4) (by omega) (by omega) (by omega) (by omega) (by omega) (by omega)) (fun rv hp9 q9 => ?_)
  obtain ⟨⟨z2, rfl, l_z2, u_z2, R_z2⟩, e9⟩ := q9
  rw [e9]
  show yG _ _ _ _ _ _ _ _ _ _ (yI z2 :: [yR 2089]) _
  refine yG.ialdF A_hp.1 (v_M_field W H_r1) (lo := 0) (hi := 15) ((yfT_ix (s := 1) (k := 4) (by omega) (by omega) (by omega) (by decide)).trans rfl) rfl (by omega) (by omega) (fun z3 e_z3 i_z3 l_z3 u_z3 => ?_)
  refine yG.ret rfl (fun _ _ => rfl) ?_
  exact (yP.int ⟨by omega, by omega⟩ ⟨⟨z3, rfl, by omega, by omega, by rw [e_z3]; congr 1; omega⟩, rfl⟩)
theorem c_GModel_of_v2_4 {hp : xH} (W : mW G) (d : Nat) (hT : zTy G hp) (H_2073 : bRo G 116 2073) (p2 : Int) (h2l : 0 ≤ p2) (h2u : p2 ≤ 23) : yC (xcall 89 xfts xpools xms (d + 2)) 471 [yR 2073, yI (2), yI (p2), yI (4)] hp (bQpi hp 0 15 (fun z => z = ys hp 2089 (532 + 11 * p2 : Int).toNat)) := by
  have A_hp : bAx G [] hp hp := bAx.rf hT
  refine yC.of (M := (xt_X13_of, (4, (1, (14, []))))) rfl rfl (N := 30) (yfuel (by decide)) ?_
  show yG 89 xfts (xcall 89 xfts xpools xms (d + 1)) (xpool xp_RX13) [] xt_X13_of (yP 1 (bQpi hp 0 15 (fun z => z = ys hp 2089 (532 + 11 * p2 : Int).toNat))) 30 0 [(0, yR 2073), (1, yI (2)), (2, yI (p2)), (3, yI (4))] [] hp
  refine yG.load xak rfl (fun _ _ => rfl) (v := yR 2073) rfl rfl ?_
  refine yG.getO A_hp.1 (w_M_field W H_2073) rfl rfl (fun r1 H_r1 O_r1 q_r1 => ?_)
  obtain rfl := u_M_field W H_r1
  refine yG.load xik rfl (fun _ _ => rfl) (v := yI (2)) rfl rfl ?_
  refine yG.load xik rfl (fun _ _ => rfl) (v := yI (p2)) rfl rfl ?_
  refine yG.load xik rfl (fun _ _ => rfl) (v := yI (4)) rfl rfl ?_
  refine yG.invS (rest := [yR 2089]) rfl rfl rfl rfl (c_GModel_f W d A_hp.1 (2) (p2) (4) (by omega) (by omega) (by omega) (by omega) (by omega) (by omega)) (fun rv hp9 q9 => ?_)
  obtain ⟨⟨z2, rfl, l_z2, u_z2, R_z2⟩, e9⟩ := q9
  rw [e9]
  show yG _ _ _ _ _ _ _ _ _ _ (yI z2 :: [yR 2089]) _
  refine yG.ialdF A_hp.1 (v_M_field W H_r1) (lo := 0) (hi := 15) ((yfT_ix (s := 2) (k := 4) (by omega) (by omega) (by omega) (by decide)).trans rfl) rfl (by omega) (by omega) (fun z3 e_z3 i_z3 l_z3 u_z3 => ?_)
  refine yG.ret rfl (fun _ _ => rfl) ?_
  exact (yP.int ⟨by omega, by omega⟩ ⟨⟨z3, rfl, by omega, by omega, by rw [e_z3]; congr 1; omega⟩, rfl⟩)
theorem c_GModel_of_v2_5 {hp : xH} (W : mW G) (d : Nat) (hT : zTy G hp) (H_2073 : bRo G 116 2073) (p2 : Int) (h2l : 0 ≤ p2) (h2u : p2 ≤ 23) : yC (xcall 89 xfts xpools xms (d + 2)) 471 [yR 2073, yI (2), yI (p2), yI (5)] hp (bQpi hp 0 15 (fun z => z = ys hp 2089 (533 + 11 * p2 : Int).toNat)) := by
  have A_hp : bAx G [] hp hp := bAx.rf hT
  refine yC.of (M := (xt_X13_of, (4, (1, (14, []))))) rfl rfl (N := 30) (yfuel (by decide)) ?_
  show yG 89 xfts (xcall 89 xfts xpools xms (d + 1)) (xpool xp_RX13) [] xt_X13_of (yP 1 (bQpi hp 0 15 (fun z => z = ys hp 2089 (533 + 11 * p2 : Int).toNat))) 30 0 [(0, yR 2073), (1, yI (2)), (2, yI (p2)), (3, yI (5))] [] hp
  refine yG.load xak rfl (fun _ _ => rfl) (v := yR 2073) rfl rfl ?_
  refine yG.getO A_hp.1 (w_M_field W H_2073) rfl rfl (fun r1 H_r1 O_r1 q_r1 => ?_)
  obtain rfl := u_M_field W H_r1
  refine yG.load xik rfl (fun _ _ => rfl) (v := yI (2)) rfl rfl ?_
  refine yG.load xik rfl (fun _ _ => rfl) (v := yI (p2)) rfl rfl ?_
  refine yG.load xik rfl (fun _ _ => rfl) (v := yI (5)) rfl rfl ?_
  refine yG.invS (rest := [yR 2089]) rfl rfl rfl rfl (c_GModel_f W d A_hp.1 (2) (p2) (5) (by omega) (by omega) (by omega) (by omega) (by omega) (by omega)) (fun rv hp9 q9 => ?_)
  obtain ⟨⟨z2, rfl, l_z2, u_z2, R_z2⟩, e9⟩ := q9
  rw [e9]
  show yG _ _ _ _ _ _ _ _ _ _ (yI z2 :: [yR 2089]) _
  refine yG.ialdF A_hp.1 (v_M_field W H_r1) (lo := 0) (hi := 15) ((yfT_ix (s := 2) (k := 5) (by omega) (by omega) (by omega) (by decide)).trans rfl) rfl (by omega) (by omega) (fun z3 e_z3 i_z3 l_z3 u_z3 => ?_)
  refine yG.ret rfl (fun _ _ => rfl) ?_
  exact (yP.int ⟨by omega, by omega⟩ ⟨⟨z3, rfl, by omega, by omega, by rw [e_z3]; congr 1; omega⟩, rfl⟩)
theorem c_GModel_of_v3_10 {hp : xH} (W : mW G) (d : Nat) (hT : zTy G hp) (H_2073 : bRo G 116 2073) (p2 : Int) (h2l : 0 ≤ p2) (h2u : p2 ≤ 23) : yC (xcall 89 xfts xpools xms (d + 2)) 471 [yR 2073, yI (3), yI (p2), yI (10)] hp (bQpi hp 0 15 (fun z => z = ys hp 2089 (802 + 11 * p2 : Int).toNat)) := by
  have A_hp : bAx G [] hp hp := bAx.rf hT
  refine yC.of (M := (xt_X13_of, (4, (1, (14, []))))) rfl rfl (N := 30) (yfuel (by decide)) ?_
  show yG 89 xfts (xcall 89 xfts xpools xms (d + 1)) (xpool xp_RX13) [] xt_X13_of (yP 1 (bQpi hp 0 15 (fun z => z = ys hp 2089 (802 + 11 * p2 : Int).toNat))) 30 0 [(0, yR 2073), (1, yI (3)), (2, yI (p2)), (3, yI (10))] [] hp
  refine yG.load xak rfl (fun _ _ => rfl) (v := yR 2073) rfl rfl ?_
  refine yG.getO A_hp.1 (w_M_field W H_2073) rfl rfl (fun r1 H_r1 O_r1 q_r1 => ?_)
  obtain rfl := u_M_field W H_r1
  refine yG.load xik rfl (fun _ _ => rfl) (v := yI (3)) rfl rfl ?_
  refine yG.load xik rfl (fun _ _ => rfl) (v := yI (p2)) rfl rfl ?_
  refine yG.load xik rfl (fun _ _ => rfl) (v := yI (10)) rfl rfl ?_
  refine yG.invS (rest := [yR 2089]) rfl rfl rfl rfl (c_GModel_f W d A_hp.1 (3) (p2) (10) (by omega) (by omega) (by omega) (by omega) (by omega) (by omega)) (fun rv hp9 q9 => ?_)
  obtain ⟨⟨z2, rfl, l_z2, u_z2, R_z2⟩, e9⟩ := q9
  rw [e9]
  show yG _ _ _ _ _ _ _ _ _ _ (yI z2 :: [yR 2089]) _
  refine yG.ialdF A_hp.1 (v_M_field W H_r1) (lo := 0) (hi := 15) ((yfT_ix (s := 3) (k := 10) (by omega) (by omega) (by omega) (by decide)).trans rfl) rfl (by omega) (by omega) (fun z3 e_z3 i_z3 l_z3 u_z3 => ?_)
  refine yG.ret rfl (fun _ _ => rfl) ?_
  exact (yP.int ⟨by omega, by omega⟩ ⟨⟨z3, rfl, by omega, by omega, by rw [e_z3]; congr 1; omega⟩, rfl⟩)
theorem c_GModel_of_v4_1 {hp : xH} (W : mW G) (d : Nat) (hT : zTy G hp) (H_2073 : bRo G 116 2073) (p2 : Int) (h2l : 0 ≤ p2) (h2u : p2 ≤ 23) : yC (xcall 89 xfts xpools xms (d + 2)) 471 [yR 2073, yI (4), yI (p2), yI (1)] hp (bQpi hp 0 15 (fun z => z = ys hp 2089 (1057 + 11 * p2 : Int).toNat)) := by
  have A_hp : bAx G [] hp hp := bAx.rf hT
  refine yC.of (M := (xt_X13_of, (4, (1, (14, []))))) rfl rfl (N := 30) (yfuel (by decide)) ?_
  show yG 89 xfts (xcall 89 xfts xpools xms (d + 1)) (xpool xp_RX13) [] xt_X13_of (yP 1 (bQpi hp 0 15 (fun z => z = ys hp 2089 (1057 + 11 * p2 : Int).toNat))) 30 0 [(0, yR 2073), (1, yI (4)), (2, yI (p2)), (3, yI (1))] [] hp
  refine yG.load xak rfl (fun _ _ => rfl) (v := yR 2073) rfl rfl ?_
  refine yG.getO A_hp.1 (w_M_field W H_2073) rfl rfl (fun r1 H_r1 O_r1 q_r1 => ?_)
  obtain rfl := u_M_field W H_r1
  refine yG.load xik rfl (fun _ _ => rfl) (v := yI (4)) rfl rfl ?_
  refine yG.load xik rfl (fun _ _ => rfl) (v := yI (p2)) rfl rfl ?_
  refine yG.load xik rfl (fun _ _ => rfl) (v := yI (1)) rfl rfl ?_
  refine yG.invS (rest := [yR 2089]) rfl rfl rfl rfl (c_GModel_f W d A_hp.1 (4) (p2) (1) (by omega) (by omega) (by omega) (by omega) (by omega) (by omega)) (fun rv hp9 q9 => ?_)
  obtain ⟨⟨z2, rfl, l_z2, u_z2, R_z2⟩, e9⟩ := q9
  rw [e9]
  show yG _ _ _ _ _ _ _ _ _ _ (yI z2 :: [yR 2089]) _
  refine yG.ialdF A_hp.1 (v_M_field W H_r1) (lo := 0) (hi := 15) ((yfT_ix (s := 4) (k := 1) (by omega) (by omega) (by omega) (by decide)).trans rfl) rfl (by omega) (by omega) (fun z3 e_z3 i_z3 l_z3 u_z3 => ?_)
  refine yG.ret rfl (fun _ _ => rfl) ?_
  exact (yP.int ⟨by omega, by omega⟩ ⟨⟨z3, rfl, by omega, by omega, by rw [e_z3]; congr 1; omega⟩, rfl⟩)
theorem c_GModel_fromResidues_F {hp : xH} (W : mW G) (d : Nat) (hT : zTy G hp) (M_bRg : bRg G hp) (H_2073 : bRo G 116 2073) (p1 p2 : Int) (h1l : 0 ≤ p1) (h1u : p1 ≤ 51) (h2l : 0 ≤ p2) (h2u : p2 ≤ 179) (q0l : 1 ≤ ys hp 2073 10) (q0u : ys hp 2073 10 ≤ 7) : yC (xcall 89 xfts xpools xms (d + 3)) 408 [yR 2073, yI (p1), yI (p2)] hp (fun rv hp' => (fun rv hp' => (rv = none ∧ True) ∧ bAx G [(191242677893554771214035240797834575872, 256)] hp hp') rv hp' ∧ bRg G hp') := by
  have A_hp : bAx G [(191242677893554771214035240797834575872, 256)] hp hp := bAx.rf hT
  have M_bRg_hp := M_bRg
  have H : ∀ m : Nat, (∀ a3 : Int, ∀ gg0 : Int, ∀ hq, bAx G [(191242677893554771214035240797834575872, 256)] hp hq → bRg G hq → ys hq 2073 10 = gg0 → 0 ≤ a3 → (-7) ≤ 0 - a3 → 1 ≤ gg0 → (-7) ≤ 0 - gg0 → 0 ≤ p1 → (-51) ≤ 0 - p1 → 0 ≤ p2 → (-179) ≤ 0 - p2 → 0 ≤ 0 - a3 + gg0 → 0 - 22 * a3 + 175 < (m : Int) → yG 89 xfts (xcall 89 xfts xpools xms (d + 2)) (xpool xp_RX13) [] xt_X13_fromResidues (yP 0 (fun rv hp' => (fun rv hp' => (rv = none ∧ True) ∧ bAx G [(191242677893554771214035240797834575872, 256)] hp hp') rv hp' ∧ bRg G hp')) (38 * m) 2 [(0, yR 2073), (1, yI (p1)), (2, yI (p2)), (3, yI (a3))] [] hq) ∧ (∀ a3 : Int, ∀ a4 : Int, ∀ a6 : Int, ∀ a8 : Int, ∀ gg0 : Int, ∀ hq, bAx G [(191242677893554771214035240797834575872, 256)] hp hq → bRg G hq → ys hq 2073 10 = gg0 → 0 ≤ a3 → (-6) ≤ 0 - a3 → 2147482801 ≤ a4 → (-2147483647) ≤ 0 - a4 → 0 ≤ a6 → (-2147483647) ≤ 0 - a6 → 0 ≤ a8 → (-6) ≤ 0 - a8 → 1 ≤ gg0 → (-7) ≤ 0 - gg0 → 0 ≤ p1 → (-51) ≤ 0 - p1 → 0 ≤ p2 → (-179) ≤ 0 - p2 → 0 ≤ a3 - a8 → 1 ≤ 0 - a3 + gg0 → 0 - 22 * a3 - 3 * a8 + 174 < (m : Int) → yG 89 xfts (xcall 89 xfts xpools xms (d + 2)) (xpool xp_RX13) [] xt_X13_fromResidues (yP 0 (fun rv hp' => (fun rv hp' => (rv = none ∧ True) ∧ bAx G [(191242677893554771214035240797834575872, 256)] hp hp') rv hp' ∧ bRg G hp')) (38 * m) 40 [(0, yR 2073), (1, yI (p1)), (2, yI (p2)), (3, yI (a3)), (4, yJ (a4)), (6, yJ (a6)), (8, yI (a8))] [] hq) ∧ (∀ a3 : Int, ∀ a4 : Int, ∀ a6 : Int, ∀ a8 : Int, ∀ a9 : Int, ∀ gg0 : Int, ∀ hq, bAx G [(191242677893554771214035240797834575872, 256)] hp hq → bRg G hq → ys hq 2073 10 = gg0 → 1 ≤ a3 → (-6) ≤ 0 - a3 → 2147482801 ≤ a4 → (-2147483647) ≤ 0 - a4 → 0 ≤ a6 → (-2147483647) ≤ 0 - a6 → 0 ≤ a8 → (-5) ≤ 0 - a8 → 0 ≤ a9 → (-1599) ≤ 0 - a9 → 2 ≤ gg0 → (-7) ≤ 0 - gg0 → 0 ≤ p1 → (-51) ≤ 0 - p1 → 0 ≤ p2 → (-179) ≤ 0 - p2 → 1 ≤ a3 - a8 → 1 ≤ 0 - a3 + gg0 → 0 - 22 * a3 - 3 * a8 + 173 < (m : Int) → yG 89 xfts (xcall 89 xfts xpools xms (d + 2)) (xpool xp_RX13) [] xt_X13_fromResidues (yP 0 (fun rv hp' => (fun rv hp' => (rv = none ∧ True) ∧ bAx G [(191242677893554771214035240797834575872, 256)] hp hp') rv hp' ∧ bRg G hp')) (38 * m) 102 [(0, yR 2073), (1, yI (p1)), (2, yI (p2)), (3, yI (a3)), (4, yJ (a4)), (6, yJ (a6)), (8, yI (a8)), (9, yI (a9))] [] hq) ∧ (∀ a3 : Int, ∀ gg0 : Int, ∀ hq, bAx G [(191242677893554771214035240797834575872, 256)] hp hq → bRg G hq → ys hq 2073 10 = gg0 → (-1) ≤ a3 → (-5) ≤ 0 - a3 → 1 ≤ gg0 → (-7) ≤ 0 - gg0 → 0 ≤ p1 → (-51) ≤ 0 - p1 → 0 ≤ p2 → (-179) ≤ 0 - p2 → 2 ≤ 0 - a3 + gg0 → yBd hq (p1 : Int).toNat ((31 * (gg0 - 1 - a3) : Int).toNat) → 0 ≤ yval hq (p1 : Int).toNat → yBd hq 260 ((31 * (gg0 - 1 - a3) : Int).toNat) → 0 ≤ yval hq 260 → 2 * a3 + 3 < (m : Int) → yG 89 xfts (xcall 89 xfts xpools xms (d + 2)) (xpool xp_RX13) [] xt_X13_fromResidues (yP 0 (fun rv hp' => (fun rv hp' => (rv = none ∧ True) ∧ bAx G [(191242677893554771214035240797834575872, 256)] hp hp') rv hp' ∧ bRg G hp')) (38 * m) 200 [(0, yR 2073), (1, yI (p1)), (3, yI (a3))] [] hq) := by
    intro m
    induction m with
    | zero =>
      refine ⟨?_, ?_, ?_, ?_⟩ <;> (intros; exfalso; omega)
    | succ m ih =>
      obtain ⟨i_2, i_40, i_102, i_200⟩ := ih
      refine ⟨?_, ?_, ?_, ?_⟩
      · intro a3 gg0 hq A_hq M_bRg_hq E_0 f0 f1 f2 f3 f4 f5 f6 f7 f8 hm
        refine yG.mono (N := 38 * m + 38) ?_ (by omega)
        obtain ⟨-, -, g_0l, g_0u⟩ := (w_M_usedCount W H_2073).int A_hq.1
        refine yG.load xik rfl (fun _ _ => rfl) (v := yI (a3)) rfl rfl ?_
        refine yG.load xak rfl (fun _ _ => rfl) (v := yR 2073) rfl rfl ?_
        refine yG.getI A_hq.1 (w_M_usedCount W H_2073) rfl rfl (fun z1 e_z1 i_z1 l_z1 u_z1 => ?_)
        rw [show (z1 : Int) = gg0 by omega]
        refine yG.icmp rfl (t := 154) rfl ⟨by omega, by omega⟩ ⟨by omega, by omega⟩ (fun c2 => ?_) (fun c2 => ?_)
        · have c2 : (a3 : Int) ≥ gg0 := c2
          refine yG.load xak rfl (fun _ _ => rfl) (v := yR 2073) rfl rfl ?_
          refine yG.load xik rfl (fun _ _ => rfl) (v := yI (p1)) rfl rfl ?_
          refine yG.load xak rfl (fun _ _ => rfl) (v := yR 2073) rfl rfl ?_
          refine yG.getO A_hq.1 (w_M_mixed W H_2073) rfl rfl (fun r3 H_r3 O_r3 q_r3 => ?_)
          obtain rfl := u_M_mixed W H_r3
          refine yG.load xak rfl (fun _ _ => rfl) (v := yR 2073) rfl rfl ?_
          refine yG.getI A_hq.1 (w_M_usedCount W H_2073) rfl rfl (fun z4 e_z4 i_z4 l_z4 u_z4 => ?_)
          rw [show (z4 : Int) = gg0 by omega]
          refine yG.num (c := 1) rfl (fun _ _ => rfl) (by decide) ?_
          refine yG.isub rfl ?_
          refine yG.lald A_hq.1 (v_M_mixed W H_r3) rfl (by omega) (by omega) (fun z5 e_z5 i_z5 l_z5 u_z5 => ?_)
          refine yG.invV (rest := []) A_hq.1 (bOb (d_M W) H_2073) rfl rfl rfl rfl (r_put W (d + 1) A_hq.1 M_bRg_hq H_2073 (r := (p1)) (v := (z5)) (x := 31) ⟨by omega, by omega⟩ (yEb (c := 2147483648) (by decide) (by omega) (by omega)) (by decide) (bTb_ge (a := 0) (b := 52) (by decide) (by omega) (by omega))) (fun rv h6 q9 => ?_)
          obtain ⟨rfl, B_h6, M_bRg_h6, Y_h6, V_h6, S_h6⟩ := q9
          have P_h6 : 0 ≤ yval h6 (p1 : Int).toNat := by rw [V_h6]; omega
          have A_h6 := A_hq.tr B_h6 (by decide)
          have : ys h6 2073 10 = ys hq 2073 10 := B_h6.ys H_2073 (by decide)
          show yG _ _ _ _ _ _ _ _ _ _ [] _
          refine yG.load xak rfl (fun _ _ => rfl) (v := yR 2073) rfl rfl ?_
          refine yG.num (c := 260) rfl (fun _ _ => rfl) (by decide) ?_
          refine yG.getS (c := 14) rfl rfl ?_
          refine yG.load xak rfl (fun _ _ => rfl) (v := yR 2073) rfl rfl ?_
          refine yG.getO A_h6.1 (w_M_used W H_2073) rfl rfl (fun r7 H_r7 O_r7 q_r7 => ?_)
          obtain rfl := u_M_used W H_r7
          refine yG.load xak rfl (fun _ _ => rfl) (v := yR 2073) rfl rfl ?_
          refine yG.getI A_h6.1 (w_M_usedCount W H_2073) rfl rfl (fun z8 e_z8 i_z8 l_z8 u_z8 => ?_)
          rw [show (z8 : Int) = gg0 by omega]
          refine yG.num (c := 1) rfl (fun _ _ => rfl) (by decide) ?_
          refine yG.isub rfl ?_
          refine yG.iald A_h6.1 (v_M_used W H_r7) rfl (by omega) (by omega) (fun z9 e_z9 i_z9 l_z9 u_z9 => ?_)
          refine yG.iald A_h6.1 (v_M_PRIME W (s_M_PRIME W)) rfl (by omega) (by omega) (fun z10 e_z10 i_z10 l_z10 u_z10 => ?_)
          refine yG.i2l rfl ⟨by omega, by omega⟩ ?_
          refine yG.invV (rest := []) A_h6.1 (bOb (d_M W) H_2073) rfl rfl rfl rfl (r_put W (d + 1) A_h6.1 M_bRg_h6 H_2073 (r := (260)) (v := (z10)) (x := 31) ⟨by omega, by omega⟩ (yEb (c := 2147483648) (by decide) (by omega) (by omega)) (by decide) (bTb_ge (a := 260) (b := 261) (by decide) (by omega) (by omega))) (fun rv h11 q9 => ?_)
          obtain ⟨rfl, B_h11, M_bRg_h11, Y_h11, V_h11, S_h11⟩ := q9
          have P_h11 : 0 ≤ yval h11 (260 : Int).toNat := by rw [V_h11]; omega
          have A_h11 := A_h6.tr B_h11 (by decide)
          have : ys h11 2073 10 = ys h6 2073 10 := B_h11.ys H_2073 (by decide)
          show yG _ _ _ _ _ _ _ _ _ _ [] _
          refine yG.load xak rfl (fun _ _ => rfl) (v := yR 2073) rfl rfl ?_
          refine yG.getI A_h11.1 (w_M_usedCount W H_2073) rfl rfl (fun z12 e_z12 i_z12 l_z12 u_z12 => ?_)
          rw [show (z12 : Int) = gg0 by omega]
          refine yG.num (c := 2) rfl (fun _ _ => rfl) (by decide) ?_
          refine yG.isub rfl ?_
          obtain ⟨z13, e_z13⟩ : ∃ z : Int, z = gg0 - 2 := ⟨_, rfl⟩
          rw [← e_z13]
          refine yG.store1 xik (L' := [(3, yI (z13)), (0, yR 2073), (1, yI (p1)), (2, yI (p2))]) rfl (fun _ _ => rfl) rfl rfl ?_
          exact yG.mono (yG.sub (i_200 (z13) (ys h11 2073 10) h11 A_h11 M_bRg_h11  rfl (by omega) (by omega) (by omega) (by omega) (by omega) (by omega) (by omega) (by omega) (by omega) ((Y_h6.same W.y A_h6.1 (by omega) (S_h11 (p1 : Int).toNat (by omega) trivial)).mono (by omega)) (yPos W A_h6.1 (by omega) P_h6 (S_h11 (p1 : Int).toNat (by omega) trivial)) (Y_h11.mono (by omega)) P_h11 (by omega)) (ySub.cons rfl (ySub.cons rfl (ySub.cons rfl (ySub.nil))))) (by omega)
        · have c2 : (a3 : Int) < gg0 := c2
          refine yG.getS (c := 14) rfl rfl ?_
          refine yG.load xak rfl (fun _ _ => rfl) (v := yR 2073) rfl rfl ?_
          refine yG.getO A_hq.1 (w_M_used W H_2073) rfl rfl (fun r14 H_r14 O_r14 q_r14 => ?_)
          obtain rfl := u_M_used W H_r14
          refine yG.load xik rfl (fun _ _ => rfl) (v := yI (a3)) rfl rfl ?_
          refine yG.iald A_hq.1 (v_M_used W H_r14) rfl (by omega) (by omega) (fun z15 e_z15 i_z15 l_z15 u_z15 => ?_)
          refine yG.iald A_hq.1 (v_M_PRIME W (s_M_PRIME W)) rfl (by omega) (by omega) (fun z16 e_z16 i_z16 l_z16 u_z16 => ?_)
          refine yG.i2l rfl ⟨by omega, by omega⟩ ?_
          refine yG.store2 xlk2 (L' := [(4, yJ (z16)), (0, yR 2073), (1, yI (p1)), (2, yI (p2)), (3, yI (a3))]) rfl (fun _ _ => rfl) rfl rfl ?_
          refine yG.load xak rfl (fun _ _ => rfl) (v := yR 2073) rfl rfl ?_
          refine yG.getO A_hq.1 (w_M_residue W H_2073) rfl rfl (fun r17 H_r17 O_r17 q_r17 => ?_)
          obtain rfl := u_M_residue W H_r17
          refine yG.num (c := 180) rfl (fun _ _ => rfl) (by decide) ?_
          refine yG.load xik rfl (fun _ _ => rfl) (v := yI (a3)) rfl rfl ?_
          refine yG.imul rfl ?_
          refine yG.load xik rfl (fun _ _ => rfl) (v := yI (p2)) rfl rfl ?_
          refine yG.iadd rfl ?_
          refine yG.lald A_hq.1 (v_M_residue W H_r17) rfl (by omega) (by omega) (fun z18 e_z18 i_z18 l_z18 u_z18 => ?_)
          refine yG.store2 xlk2 (L' := [(6, yJ (z18)), (4, yJ (z16)), (0, yR 2073), (1, yI (p1)), (2, yI (p2)), (3, yI (a3))]) rfl (fun _ _ => rfl) rfl rfl ?_
          refine yG.num (c := 0) rfl (fun _ _ => rfl) (by decide) ?_
          refine yG.store1 xik (L' := [(8, yI (0)), (6, yJ (z18)), (4, yJ (z16)), (0, yR 2073), (1, yI (p1)), (2, yI (p2)), (3, yI (a3))]) rfl (fun _ _ => rfl) rfl rfl ?_
          exact yG.mono (yG.sub (i_40 (a3) (z16) (z18) (0) (ys hq 2073 10) hq A_hq M_bRg_hq  rfl (by omega) (by omega) (by omega) (by omega) (by omega) (by omega) (by omega) (by omega) (by omega) (by omega) (by omega) (by omega) (by omega) (by omega) (by omega) (by omega) (by omega)) (ySub.cons rfl (ySub.cons rfl (ySub.cons rfl (ySub.cons rfl (ySub.cons rfl (ySub.cons rfl (ySub.cons rfl (ySub.nil))))))))) (by omega)
      · intro a3 a4 a6 a8 gg0 hq A_hq M_bRg_hq E_0 f0 f1 f2 f3 f4 f5 f6 f7 f8 f9 f10 f11 f12 f13 f14 f15 hm
        refine yG.mono (N := 38 * m + 38) ?_ (by omega)
        obtain ⟨-, -, g_0l, g_0u⟩ := (w_M_usedCount W H_2073).int A_hq.1
        refine yG.load xik rfl (fun _ _ => rfl) (v := yI (a8)) rfl rfl ?_
        refine yG.load xik rfl (fun _ _ => rfl) (v := yI (a3)) rfl rfl ?_
        refine yG.icmp rfl (t := 140) rfl ⟨by omega, by omega⟩ ⟨by omega, by omega⟩ (fun c1 => ?_) (fun c1 => ?_)
        · have c1 : (a8 : Int) ≥ a3 := c1
          refine yG.load xak rfl (fun _ _ => rfl) (v := yR 2073) rfl rfl ?_
          refine yG.getO A_hq.1 (w_M_mixed W H_2073) rfl rfl (fun r2 H_r2 O_r2 q_r2 => ?_)
          obtain rfl := u_M_mixed W H_r2
          refine yG.load xik rfl (fun _ _ => rfl) (v := yI (a3)) rfl rfl ?_
          refine yG.load xlk2 rfl (fun _ _ => rfl) (v := yJ (a6)) rfl rfl ?_
          refine yG.last A_hq.1 (v_M_mixed W H_r2) (W.2.1 _ _ H_r2 (by decide) (by decide)) rfl (by omega) (by omega) ⟨by omega, by omega⟩ (by omega) (by omega) (fun h3 T_h3 b_h3 f_h3 y_h3 => ?_)
          have M_bRg_h3 := M_bRg_hq.fr (bAx.put (Wl := [(170141183460469231731687303715884105728, 256)]) (bAx.rf A_hq.1) T_h3 b_h3 f_h3 H_r2 (bAll_ok (by decide) _)) (by decide)
          have A_h3 := A_hq.put T_h3 b_h3 f_h3 H_r2 (bAll_ok (by decide) _)
          have : ys h3 2073 10 = ys hq 2073 10 := (y_h3 2073 10).trans (if_neg (fun e => (bRo.ne H_2073 H_r2 (by decide)) e.1))
          refine yG.iinc rfl (a := a3) rfl (L' := [(3, yI (a3 + 1)), (0, yR 2073), (1, yI (p1)), (2, yI (p2)), (4, yJ (a4)), (6, yJ (a6)), (8, yI (a8))]) rfl ?_
          refine yG.goto rfl (t := 2) rfl ?_
          exact yG.mono (yG.sub (i_2 (a3 + 1) (ys h3 2073 10) h3 A_h3 M_bRg_h3  rfl (by omega) (by omega) (by omega) (by omega) (by omega) (by omega) (by omega) (by omega) (by omega) (by omega)) (ySub.cons rfl (ySub.cons rfl (ySub.cons rfl (ySub.cons rfl (ySub.nil)))))) (by omega)
        · have c1 : (a8 : Int) < a3 := c1
          refine yG.num (c := 40) rfl (fun _ _ => rfl) (by decide) ?_
          refine yG.load xak rfl (fun _ _ => rfl) (v := yR 2073) rfl rfl ?_
          refine yG.getO A_hq.1 (w_M_used W H_2073) rfl rfl (fun r4 H_r4 O_r4 q_r4 => ?_)
          obtain rfl := u_M_used W H_r4
          refine yG.load xik rfl (fun _ _ => rfl) (v := yI (a8)) rfl rfl ?_
          refine yG.iald A_hq.1 (v_M_used W H_r4) rfl (by omega) (by omega) (fun z5 e_z5 i_z5 l_z5 u_z5 => ?_)
          refine yG.imul rfl ?_
          refine yG.load xak rfl (fun _ _ => rfl) (v := yR 2073) rfl rfl ?_
          refine yG.getS9 A_hq.1 (w_M_used W H_2073) q_r4 rfl rfl ?_
          refine yG.load xik rfl (fun _ _ => rfl) (v := yI (a3)) rfl rfl ?_
          refine yG.iald A_hq.1 (v_M_used W H_r4) rfl (by omega) (by omega) (fun z6 e_z6 i_z6 l_z6 u_z6 => ?_)
          refine yG.iadd rfl ?_
          obtain ⟨z7, e_z7⟩ : ∃ z : Int, z = (40 * z5) + z6 := ⟨_, rfl⟩
          rw [← e_z7]
          refine yG.store1 xik (L' := [(9, yI (z7)), (0, yR 2073), (1, yI (p1)), (2, yI (p2)), (3, yI (a3)), (4, yJ (a4)), (6, yJ (a6)), (8, yI (a8))]) rfl (fun _ _ => rfl) rfl rfl ?_
          refine yG.load xak rfl (fun _ _ => rfl) (v := yR 2073) rfl rfl ?_
          refine yG.getO A_hq.1 (w_M_inverseOf W H_2073) rfl rfl (fun r8 H_r8 O_r8 q_r8 => ?_)
          obtain rfl := u_M_inverseOf W H_r8
          refine yG.load xik rfl (fun _ _ => rfl) (v := yI (z7)) rfl rfl ?_
          refine yG.lald A_hq.1 (v_M_inverseOf W H_r8) rfl (by omega) (by omega) (fun z9 e_z9 i_z9 l_z9 u_z9 => ?_)
          refine yG.numl (c := 0) rfl (fun _ _ => rfl) (by decide) ?_
          refine yG.lcmp rfl ⟨by omega, by omega⟩ ⟨by omega, by omega⟩ (fun z10 e_z10 => ?_)
          refine yG.ifz rfl (t := 102) rfl ⟨by omega, by omega⟩ (fun c11 => ?_) (fun c11 => ?_)
          · have c11 : (z10 : Int) ≠ 0 := c11
            exact yG.mono (yG.sub (i_102 (a3) (a4) (a6) (a8) (z7) (ys hq 2073 10) hq A_hq M_bRg_hq  rfl (by omega) (by omega) (by omega) (by omega) (by omega) (by omega) (by omega) (by omega) (by omega) (by omega) (by omega) (by omega) (by omega) (by omega) (by omega) (by omega) (by omega) (by omega) (by omega)) (ySub.cons rfl (ySub.cons rfl (ySub.cons rfl (ySub.cons rfl (ySub.cons rfl (ySub.cons rfl (ySub.cons rfl (ySub.cons rfl (ySub.nil)))))))))) (by omega)
          · have c11 : (z10 : Int) = 0 := c11
            refine yG.load xak rfl (fun _ _ => rfl) (v := yR 2073) rfl rfl ?_
            refine yG.getS9 A_hq.1 (w_M_inverseOf W H_2073) q_r8 rfl rfl ?_
            refine yG.load xik rfl (fun _ _ => rfl) (v := yI (z7)) rfl rfl ?_
            refine yG.load xak rfl (fun _ _ => rfl) (v := yR 2073) rfl rfl ?_
            refine yG.getS (c := 14) rfl rfl ?_
            refine yG.load xak rfl (fun _ _ => rfl) (v := yR 2073) rfl rfl ?_
            refine yG.getS9 A_hq.1 (w_M_used W H_2073) q_r4 rfl rfl ?_
            refine yG.load xik rfl (fun _ _ => rfl) (v := yI (a8)) rfl rfl ?_
            refine yG.iald A_hq.1 (v_M_used W H_r4) rfl (by omega) (by omega) (fun z12 e_z12 i_z12 l_z12 u_z12 => ?_)
            rw [show (z12 : Int) = z5 by omega]
            refine yG.iald A_hq.1 (v_M_PRIME W (s_M_PRIME W)) rfl (by omega) (by omega) (fun z13 e_z13 i_z13 l_z13 u_z13 => ?_)
            refine yG.i2l rfl ⟨by omega, by omega⟩ ?_
            refine yG.load xlk2 rfl (fun _ _ => rfl) (v := yJ (a4)) rfl rfl ?_
            refine yG.invV (rest := [yI (z7), yR 2080]) A_hq.1 (bOb (d_M W) H_2073) rfl rfl rfl rfl (c_GModel_inverse W (d + 1) A_hq.1 H_2073 (z13) (a4) (by omega) (by omega) (by omega) (by omega)) (fun rv hp9 q9 => ?_)
            obtain ⟨⟨z14, rfl, l_z14, u_z14, R_z14⟩, e9⟩ := q9
            rw [e9]
            show yG _ _ _ _ _ _ _ _ _ _ (yJ z14 :: [yI (z7), yR 2080]) _
            refine yG.last A_hq.1 (v_M_inverseOf W H_r8) (W.2.1 _ _ H_r8 (by decide) (by decide)) rfl (by omega) (by omega) ⟨by omega, by omega⟩ (by omega) (by omega) (fun h15 T_h15 b_h15 f_h15 y_h15 => ?_)
            have M_bRg_h15 := M_bRg_hq.fr (bAx.put (Wl := [(10633823966279326983230456482242756608, 256)]) (bAx.rf A_hq.1) T_h15 b_h15 f_h15 H_r8 (bAll_ok (by decide) _)) (by decide)
            have A_h15 := A_hq.put T_h15 b_h15 f_h15 H_r8 (bAll_ok (by decide) _)
            have : ys h15 2073 10 = ys hq 2073 10 := (y_h15 2073 10).trans (if_neg (fun e => (bRo.ne H_2073 H_r8 (by decide)) e.1))
            have qq1 : zsl h15 2073 9 = yR 2082 := ((f_h15 2073 9).trans (if_neg (fun e => (bRo.ne H_2073 H_r8 (by decide)) e.1))).trans q_r4
            have : ys h15 2082 (a8 : Int).toNat = ys hq 2082 (a8 : Int).toNat := (y_h15 2082 (a8 : Int).toNat).trans (if_neg (fun e => (bRo.ne H_r4 H_r8 (by decide)) e.1))
            have qq2 : zsl h15 2073 7 = yR 2080 := ((f_h15 2073 7).trans (if_neg (fun e => (bRo.ne H_2073 H_r8 (by decide)) e.1))).trans q_r8
            exact yG.mono (yG.sub (i_102 (a3) (a4) (a6) (a8) (z7) (ys h15 2073 10) h15 A_h15 M_bRg_h15  rfl (by omega) (by omega) (by omega) (by omega) (by omega) (by omega) (by omega) (by omega) (by omega) (by omega) (by omega) (by omega) (by omega) (by omega) (by omega) (by omega) (by omega) (by omega) (by omega)) (ySub.cons rfl (ySub.cons rfl (ySub.cons rfl (ySub.cons rfl (ySub.cons rfl (ySub.cons rfl (ySub.cons rfl (ySub.cons rfl (ySub.nil)))))))))) (by omega)
      · intro a3 a4 a6 a8 a9 gg0 hq A_hq M_bRg_hq E_0 f0 f1 f2 f3 f4 f5 f6 f7 f8 f9 f10 f11 f12 f13 f14 f15 f16 f17 hm
        refine yG.mono (N := 38 * m + 38) ?_ (by omega)
        obtain ⟨-, -, g_0l, g_0u⟩ := (w_M_usedCount W H_2073).int A_hq.1
        refine yG.load xlk2 rfl (fun _ _ => rfl) (v := yJ (a6)) rfl rfl ?_
        refine yG.load xak rfl (fun _ _ => rfl) (v := yR 2073) rfl rfl ?_
        refine yG.getO A_hq.1 (w_M_mixed W H_2073) rfl rfl (fun r1 H_r1 O_r1 q_r1 => ?_)
        obtain rfl := u_M_mixed W H_r1
        refine yG.load xik rfl (fun _ _ => rfl) (v := yI (a8)) rfl rfl ?_
        refine yG.lald A_hq.1 (v_M_mixed W H_r1) rfl (by omega) (by omega) (fun z2 e_z2 i_z2 l_z2 u_z2 => ?_)
        refine yG.load xlk2 rfl (fun _ _ => rfl) (v := yJ (a4)) rfl rfl ?_
        refine yG.lrem rfl ⟨by omega, by omega⟩ ⟨by omega, by omega⟩ (by omega) (by omega) ?_
        obtain ⟨z3, e_z3⟩ : ∃ z : Int, z = (z2) % (a4) := ⟨_, rfl⟩
        rw [← e_z3]
        have b_z3 : 0 ≤ z3 ∧ z3 < a4 := e_z3 ▸ ⟨Int.emod_nonneg _ (by omega), Int.emod_lt_of_pos _ (by omega)⟩
        refine yG.lsub rfl ?_
        refine yG.load xlk2 rfl (fun _ _ => rfl) (v := yJ (a4)) rfl rfl ?_
        refine yG.ladd rfl ?_
        refine yG.load xlk2 rfl (fun _ _ => rfl) (v := yJ (a4)) rfl rfl ?_
        refine yG.lrem rfl ⟨by omega, by omega⟩ ⟨by omega, by omega⟩ (by omega) (by omega) ?_
        obtain ⟨z4, e_z4⟩ : ∃ z : Int, z = ((a6 - z3) + a4) % (a4) := ⟨_, rfl⟩
        rw [← e_z4]
        have b_z4 : 0 ≤ z4 ∧ z4 < a4 := e_z4 ▸ ⟨Int.emod_nonneg _ (by omega), Int.emod_lt_of_pos _ (by omega)⟩
        refine yG.load xak rfl (fun _ _ => rfl) (v := yR 2073) rfl rfl ?_
        refine yG.getO A_hq.1 (w_M_inverseOf W H_2073) rfl rfl (fun r5 H_r5 O_r5 q_r5 => ?_)
        obtain rfl := u_M_inverseOf W H_r5
        refine yG.load xik rfl (fun _ _ => rfl) (v := yI (a9)) rfl rfl ?_
        refine yG.lald A_hq.1 (v_M_inverseOf W H_r5) rfl (by omega) (by omega) (fun z6 e_z6 i_z6 l_z6 u_z6 => ?_)
        refine yG.lmul rfl ?_
        obtain ⟨z7, e_z7⟩ : ∃ z : Int, z = z4 * z6 := ⟨_, rfl⟩
        rw [← e_z7]
        have b_z7 : 0 ≤ z7 ∧ z7 ≤ 4611686011984936962 := e_z7 ▸ ymulb (A := 2147483646) (B := 2147483647) (by omega) (by omega) (by omega) (by omega) (by decide)
        have b2_z7 : z7 ≤ 2147483646 * z6 := e_z7 ▸ bmulx (by omega) (by omega)
        have b3_z7 : z7 ≤ 2147483647 * z4 := e_z7 ▸ bmuly (by omega) (by omega)
        refine yG.load xlk2 rfl (fun _ _ => rfl) (v := yJ (a4)) rfl rfl ?_
        refine yG.lrem rfl ⟨by omega, by omega⟩ ⟨by omega, by omega⟩ (by omega) (by omega) ?_
        obtain ⟨z8, e_z8⟩ : ∃ z : Int, z = (z7) % (a4) := ⟨_, rfl⟩
        rw [← e_z8]
        have b_z8 : 0 ≤ z8 ∧ z8 < a4 := e_z8 ▸ ⟨Int.emod_nonneg _ (by omega), Int.emod_lt_of_pos _ (by omega)⟩
        refine yG.store2 xlk2 (L' := [(6, yJ (z8)), (0, yR 2073), (1, yI (p1)), (2, yI (p2)), (3, yI (a3)), (4, yJ (a4)), (8, yI (a8)), (9, yI (a9))]) rfl (fun _ _ => rfl) rfl rfl ?_
        refine yG.iinc rfl (a := a8) rfl (L' := [(8, yI (a8 + 1)), (6, yJ (z8)), (0, yR 2073), (1, yI (p1)), (2, yI (p2)), (3, yI (a3)), (4, yJ (a4)), (9, yI (a9))]) rfl ?_
        refine yG.goto rfl (t := 40) rfl ?_
        exact yG.mono (yG.sub (i_40 (a3) (a4) (z8) (a8 + 1) (ys hq 2073 10) hq A_hq M_bRg_hq  rfl (by omega) (by omega) (by omega) (by omega) (by omega) (by omega) (by omega) (by omega) (by omega) (by omega) (by omega) (by omega) (by omega) (by omega) (by omega) (by omega) (by omega)) (ySub.cons rfl (ySub.cons rfl (ySub.cons rfl (ySub.cons rfl (ySub.cons rfl (ySub.cons rfl (ySub.cons rfl (ySub.nil))))))))) (by omega)
      · intro a3 gg0 hq A_hq M_bRg_hq E_0 f0 f1 f2 f3 f4 f5 f6 f7 f8 rc200_p1 rd200_p1 rc200_260 rd200_260 hm
        refine yG.mono (N := 38 * m + 38) ?_ (by omega)
        obtain ⟨-, -, g_0l, g_0u⟩ := (w_M_usedCount W H_2073).int A_hq.1
        refine yG.load xik rfl (fun _ _ => rfl) (v := yI (a3)) rfl rfl ?_
        refine yG.ifz rfl (t := 251) rfl ⟨by omega, by omega⟩ (fun c1 => ?_) (fun c1 => ?_)
        · have c1 : (a3 : Int) < 0 := c1
          refine yG.load xak rfl (fun _ _ => rfl) (v := yR 2073) rfl rfl ?_
          refine yG.num (c := 261) rfl (fun _ _ => rfl) (by decide) ?_
          refine yG.load xik rfl (fun _ _ => rfl) (v := yI (p1)) rfl rfl ?_
          refine yG.load xik rfl (fun _ _ => rfl) (v := yI (p1)) rfl rfl ?_
          refine yG.num (c := 1) rfl (fun _ _ => rfl) (by decide) ?_
          refine yG.invV (rest := []) A_hq.1 (bOb (d_M W) H_2073) rfl rfl rfl rfl (r_plus W d A_hq.1 M_bRg_hq H_2073 (r := (261)) (p := (p1)) (q := (p1)) (t := (1)) (x := 217) ⟨by omega, by omega⟩ ⟨by omega, by omega⟩ ⟨by omega, by omega⟩ (by omega) (rc200_p1.mono (by omega)) (rc200_p1.mono (by omega)) (by decide) (bTb_ge (a := 261) (b := 262) (by decide) (by omega) (by omega))) (fun rv h2 q9 => ?_)
          obtain ⟨rfl, B_h2, M_bRg_h2, Y_h2, V_h2, S_h2⟩ := q9
          have A_h2 := A_hq.tr B_h2 (by decide)
          have : ys h2 2073 10 = ys hq 2073 10 := B_h2.ys H_2073 (by decide)
          show yG _ _ _ _ _ _ _ _ _ _ [] _
          refine yG.load xak rfl (fun _ _ => rfl) (v := yR 2073) rfl rfl ?_
          refine yG.num (c := 261) rfl (fun _ _ => rfl) (by decide) ?_
          refine yG.num (c := 260) rfl (fun _ _ => rfl) (by decide) ?_
          refine yG.invV (rest := []) A_h2.1 (bOb (d_M W) H_2073) rfl rfl rfl rfl (r_compareSizes W (d + 1) A_h2.1 M_bRg_h2 H_2073 (p := (261)) (q := (260)) ⟨by omega, by omega⟩ ⟨by omega, by omega⟩) (fun rv hp9 q9 => ?_)
          obtain ⟨e9, z3, rfl, g_z3⟩ := q9
          rw [e9]
          have l_z3 : -1 ≤ z3 ∧ z3 ≤ 1 := by unfold ysgn at g_z3; omega
          show yG _ _ _ _ _ _ _ _ _ _ (yI z3 :: []) _
          refine yG.ifz rfl (t := 284) rfl ⟨by omega, by omega⟩ (fun c4 => ?_) (fun c4 => ?_)
          · have c4 : (z3 : Int) ≤ 0 := c4
            refine yG.ret rfl (fun _ _ => rfl) ?_
            exact (yP.void ⟨⟨⟨rfl, trivial⟩, A_h2⟩, M_bRg_h2⟩)
          · have c4 : (z3 : Int) > 0 := c4
            refine yG.load xak rfl (fun _ _ => rfl) (v := yR 2073) rfl rfl ?_
            refine yG.load xik rfl (fun _ _ => rfl) (v := yI (p1)) rfl rfl ?_
            refine yG.load xik rfl (fun _ _ => rfl) (v := yI (p1)) rfl rfl ?_
            refine yG.num (c := 260) rfl (fun _ _ => rfl) (by decide) ?_
            refine yG.num (c := -1) rfl (fun _ _ => rfl) (by decide) ?_
            refine yG.invV (rest := []) A_h2.1 (bOb (d_M W) H_2073) rfl rfl rfl rfl (r_minus W d A_h2.1 M_bRg_h2 H_2073 (r := (p1)) (p := (p1)) (q := (260)) (x := 217) ⟨by omega, by omega⟩ ⟨by omega, by omega⟩ ⟨by omega, by omega⟩ ((rc200_p1.same W.y A_hq.1 (by omega) (S_h2 (p1 : Int).toNat (by omega) trivial)).mono (by omega)) ((rc200_260.same W.y A_hq.1 (by decide) (S_h2 260 (by omega) trivial)).mono (by omega)) (yPos W A_hq.1 (by omega) rd200_p1 (S_h2 (p1 : Int).toNat (by omega) trivial)) (yPos W A_hq.1 (by decide) rd200_260 (S_h2 260 (by omega) trivial)) (by decide) (bTb_ge (a := 0) (b := 52) (by decide) (by omega) (by omega))) (fun rv h5 q9 => ?_)
            obtain ⟨rfl, B_h5, M_bRg_h5, Y_h5, V_h5, S_h5⟩ := q9
            have A_h5 := A_h2.tr B_h5 (by decide)
            have : ys h5 2073 10 = ys h2 2073 10 := B_h5.ys H_2073 (by decide)
            show yG _ _ _ _ _ _ _ _ _ _ [] _
            refine yG.ret rfl (fun _ _ => rfl) ?_
            exact (yP.void ⟨⟨⟨rfl, trivial⟩, A_h5⟩, M_bRg_h5⟩)
        · have c1 : (a3 : Int) ≥ 0 := c1
          refine yG.load xak rfl (fun _ _ => rfl) (v := yR 2073) rfl rfl ?_
          refine yG.load xik rfl (fun _ _ => rfl) (v := yI (p1)) rfl rfl ?_
          refine yG.getS (c := 14) rfl rfl ?_
          refine yG.load xak rfl (fun _ _ => rfl) (v := yR 2073) rfl rfl ?_
          refine yG.getO A_hq.1 (w_M_used W H_2073) rfl rfl (fun r6 H_r6 O_r6 q_r6 => ?_)
          obtain rfl := u_M_used W H_r6
          refine yG.load xik rfl (fun _ _ => rfl) (v := yI (a3)) rfl rfl ?_
          refine yG.iald A_hq.1 (v_M_used W H_r6) rfl (by omega) (by omega) (fun z7 e_z7 i_z7 l_z7 u_z7 => ?_)
          refine yG.iald A_hq.1 (v_M_PRIME W (s_M_PRIME W)) rfl (by omega) (by omega) (fun z8 e_z8 i_z8 l_z8 u_z8 => ?_)
          refine yG.i2l rfl ⟨by omega, by omega⟩ ?_
          refine yG.load xak rfl (fun _ _ => rfl) (v := yR 2073) rfl rfl ?_
          refine yG.getO A_hq.1 (w_M_mixed W H_2073) rfl rfl (fun r9 H_r9 O_r9 q_r9 => ?_)
          obtain rfl := u_M_mixed W H_r9
          refine yG.load xik rfl (fun _ _ => rfl) (v := yI (a3)) rfl rfl ?_
          refine yG.lald A_hq.1 (v_M_mixed W H_r9) rfl (by omega) (by omega) (fun z10 e_z10 i_z10 l_z10 u_z10 => ?_)
          refine yG.invV (rest := []) A_hq.1 (bOb (d_M W) H_2073) rfl rfl rfl rfl (r_stretch W d A_hq.1 M_bRg_hq H_2073 (r := (p1)) (b := (z8)) (m := (z10)) (x := (31 * (gg0 - 1 - a3) : Int).toNat) ⟨by omega, by omega⟩ rc200_p1 ⟨by omega, by omega⟩ ⟨by omega, by omega⟩ (by omega) (Nat.le_trans (show (31 * (gg0 - 1 - a3) : Int).toNat + 31 ≤ 217 by omega) (bTb_ge (a := 0) (b := 52) (by decide) (by omega) (by omega)))) (fun rv h11 q9 => ?_)
          obtain ⟨rfl, B_h11, M_bRg_h11, Y_h11, V_h11, S_h11⟩ := q9
          have P_h11 : 0 ≤ yval h11 (p1 : Int).toNat := by rw [V_h11]; exact r_strpos W A_hq.1 (by omega) (by omega) (by omega)
          have A_h11 := A_hq.tr B_h11 (by decide)
          have : ys h11 2073 10 = ys hq 2073 10 := B_h11.ys H_2073 (by decide)
          have qq1 : zsl h11 2073 9 = yR 2082 := (B_h11.sl H_2073 (by decide)).trans q_r6
          have : ys h11 2082 (a3 : Int).toNat = ys hq 2082 (a3 : Int).toNat := B_h11.ys H_r6 (bNo_ok (by decide) _)
          have : ys h11 14 (z7 : Int).toNat = ys hq 14 (z7 : Int).toNat := B_h11.ys (s_M_PRIME W) (bNo_ok (by decide) _)
          show yG _ _ _ _ _ _ _ _ _ _ [] _
          refine yG.load xak rfl (fun _ _ => rfl) (v := yR 2073) rfl rfl ?_
          refine yG.num (c := 260) rfl (fun _ _ => rfl) (by decide) ?_
          refine yG.getS (c := 14) rfl rfl ?_
          refine yG.load xak rfl (fun _ _ => rfl) (v := yR 2073) rfl rfl ?_
          refine yG.getS9 A_h11.1 (w_M_used W H_2073) qq1 rfl rfl ?_
          refine yG.load xik rfl (fun _ _ => rfl) (v := yI (a3)) rfl rfl ?_
          refine yG.iald A_h11.1 (v_M_used W H_r6) rfl (by omega) (by omega) (fun z12 e_z12 i_z12 l_z12 u_z12 => ?_)
          rw [show (z12 : Int) = z7 by omega]
          refine yG.iald A_h11.1 (v_M_PRIME W (s_M_PRIME W)) rfl (by omega) (by omega) (fun z13 e_z13 i_z13 l_z13 u_z13 => ?_)
          rw [show (z13 : Int) = z8 by omega]
          refine yG.i2l rfl ⟨by omega, by omega⟩ ?_
          refine yG.numl (c := 0) rfl (fun _ _ => rfl) (by decide) ?_
          refine yG.invV (rest := []) A_h11.1 (bOb (d_M W) H_2073) rfl rfl rfl rfl (r_stretch W d A_h11.1 M_bRg_h11 H_2073 (r := (260)) (b := (z8)) (m := (0)) (x := (31 * (gg0 - 1 - a3) : Int).toNat) ⟨by omega, by omega⟩ (rc200_260.same W.y A_hq.1 (by decide) (S_h11 260 (by omega) trivial)) ⟨by omega, by omega⟩ ⟨by omega, by omega⟩ (by omega) (Nat.le_trans (show (31 * (gg0 - 1 - a3) : Int).toNat + 31 ≤ 7654 by omega) (bTb_ge (a := 260) (b := 261) (by decide) (by omega) (by omega)))) (fun rv h14 q9 => ?_)
          obtain ⟨rfl, B_h14, M_bRg_h14, Y_h14, V_h14, S_h14⟩ := q9
          have P_h14 : 0 ≤ yval h14 (260 : Int).toNat := by rw [V_h14]; exact r_strpos W A_h11.1 (by omega) (by omega) (by omega)
          have A_h14 := A_h11.tr B_h14 (by decide)
          have : ys h14 2073 10 = ys h11 2073 10 := B_h14.ys H_2073 (by decide)
          have qq2 : zsl h14 2073 9 = yR 2082 := (B_h14.sl H_2073 (by decide)).trans qq1
          have : ys h14 2082 (a3 : Int).toNat = ys h11 2082 (a3 : Int).toNat := B_h14.ys H_r6 (bNo_ok (by decide) _)
          have : ys h14 14 (z7 : Int).toNat = ys h11 14 (z7 : Int).toNat := B_h14.ys (s_M_PRIME W) (bNo_ok (by decide) _)
          show yG _ _ _ _ _ _ _ _ _ _ [] _
          refine yG.iinc rfl (a := a3) rfl (L' := [(3, yI (a3 + (-1))), (0, yR 2073), (1, yI (p1))]) rfl ?_
          refine yG.goto rfl (t := 200) rfl ?_
          exact yG.mono (yG.sub (i_200 (a3 + (-1)) (ys h14 2073 10) h14 A_h14 M_bRg_h14  rfl (by omega) (by omega) (by omega) (by omega) (by omega) (by omega) (by omega) (by omega) (by omega) ((Y_h11.same W.y A_h11.1 (by omega) (S_h14 (p1 : Int).toNat (by omega) trivial)).mono (by omega)) (yPos W A_h11.1 (by omega) P_h11 (S_h14 (p1 : Int).toNat (by omega) trivial)) (Y_h14.mono (by omega)) P_h14 (by omega)) (ySub.cons rfl (ySub.cons rfl (ySub.cons rfl (ySub.nil))))) (by omega)
  refine yC.of (M := (xt_X13_fromResidues, (10, (0, (14, []))))) rfl rfl (N := 6764) (yfuel (by decide)) ?_
  show yG 89 xfts (xcall 89 xfts xpools xms (d + 2)) (xpool xp_RX13) [] xt_X13_fromResidues (yP 0 (fun rv hp' => (fun rv hp' => (rv = none ∧ True) ∧ bAx G [(191242677893554771214035240797834575872, 256)] hp hp') rv hp' ∧ bRg G hp')) 6764 0 [(0, yR 2073), (1, yI (p1)), (2, yI (p2))] [] hp
  obtain ⟨i_2, i_40, i_102, i_200⟩ := H 177
  obtain ⟨gg0, E_0⟩ : ∃ z : Int, ys hp 2073 10 = z := ⟨_, rfl⟩
  obtain ⟨-, -, g_0l, g_0u⟩ := (w_M_usedCount W H_2073).int hT
  refine yG.num (c := 0) rfl (fun _ _ => rfl) (by decide) ?_
  refine yG.store1 xik (L' := [(3, yI (0)), (0, yR 2073), (1, yI (p1)), (2, yI (p2))]) rfl (fun _ _ => rfl) rfl rfl ?_
  exact yG.mono (yG.sub (i_2 (0) (ys hp 2073 10) hp A_hp M_bRg_hp  rfl (by omega) (by omega) (by omega) (by omega) (by omega) (by omega) (by omega) (by omega) (by omega) (by omega)) (ySub.cons rfl (ySub.cons rfl (ySub.cons rfl (ySub.cons rfl (ySub.nil)))))) (by omega)
theorem c_GModel_fromResidues_E {hp : xH} (W : mW G) (d : Nat) (hT : zTy G hp) (M_bRg : bRg G hp) (H_2073 : bRo G 116 2073) (p1 p2 : Int) (h1l : 52 ≤ p1) (h1u : p1 ≤ 147) (h2l : 0 ≤ p2) (h2u : p2 ≤ 179) (q0l : 18 ≤ ys hp 2073 10) (q0u : ys hp 2073 10 ≤ 18) : yC (xcall 89 xfts xpools xms (d + 3)) 408 [yR 2073, yI (p1), yI (p2)] hp (fun rv hp' => (fun rv hp' => (rv = none ∧ True) ∧ bAx G [(191242677893554771214035240797834575872, 256)] hp hp') rv hp' ∧ bRg G hp') := by
  have A_hp : bAx G [(191242677893554771214035240797834575872, 256)] hp hp := bAx.rf hT
  have M_bRg_hp := M_bRg
  have H : ∀ m : Nat, (∀ a3 : Int, ∀ gg0 : Int, ∀ hq, bAx G [(191242677893554771214035240797834575872, 256)] hp hq → bRg G hq → ys hq 2073 10 = gg0 → 0 ≤ a3 → (-18) ≤ 0 - a3 → 18 ≤ gg0 → (-18) ≤ 0 - gg0 → 52 ≤ p1 → (-147) ≤ 0 - p1 → 0 ≤ p2 → (-179) ≤ 0 - p2 → 0 - 55 * a3 + 1044 < (m : Int) → yG 89 xfts (xcall 89 xfts xpools xms (d + 2)) (xpool xp_RX13) [] xt_X13_fromResidues (yP 0 (fun rv hp' => (fun rv hp' => (rv = none ∧ True) ∧ bAx G [(191242677893554771214035240797834575872, 256)] hp hp') rv hp' ∧ bRg G hp')) (38 * m) 2 [(0, yR 2073), (1, yI (p1)), (2, yI (p2)), (3, yI (a3))] [] hq) ∧ (∀ a3 : Int, ∀ a4 : Int, ∀ a6 : Int, ∀ a8 : Int, ∀ gg0 : Int, ∀ hq, bAx G [(191242677893554771214035240797834575872, 256)] hp hq → bRg G hq → ys hq 2073 10 = gg0 → 0 ≤ a3 → (-17) ≤ 0 - a3 → 2147482801 ≤ a4 → (-2147483647) ≤ 0 - a4 → 0 ≤ a6 → (-2147483647) ≤ 0 - a6 → 0 ≤ a8 → (-17) ≤ 0 - a8 → 18 ≤ gg0 → (-18) ≤ 0 - gg0 → 52 ≤ p1 → (-147) ≤ 0 - p1 → 0 ≤ p2 → (-179) ≤ 0 - p2 → 0 ≤ a3 - a8 → 0 - 55 * a3 - 3 * a8 + 1043 < (m : Int) → yG 89 xfts (xcall 89 xfts xpools xms (d + 2)) (xpool xp_RX13) [] xt_X13_fromResidues (yP 0 (fun rv hp' => (fun rv hp' => (rv = none ∧ True) ∧ bAx G [(191242677893554771214035240797834575872, 256)] hp hp') rv hp' ∧ bRg G hp')) (38 * m) 40 [(0, yR 2073), (1, yI (p1)), (2, yI (p2)), (3, yI (a3)), (4, yJ (a4)), (6, yJ (a6)), (8, yI (a8))] [] hq) ∧ (∀ a3 : Int, ∀ a4 : Int, ∀ a6 : Int, ∀ a8 : Int, ∀ a9 : Int, ∀ gg0 : Int, ∀ hq, bAx G [(191242677893554771214035240797834575872, 256)] hp hq → bRg G hq → ys hq 2073 10 = gg0 → 1 ≤ a3 → (-17) ≤ 0 - a3 → 2147482801 ≤ a4 → (-2147483647) ≤ 0 - a4 → 0 ≤ a6 → (-2147483647) ≤ 0 - a6 → 0 ≤ a8 → (-16) ≤ 0 - a8 → 0 ≤ a9 → (-1599) ≤ 0 - a9 → 18 ≤ gg0 → (-18) ≤ 0 - gg0 → 52 ≤ p1 → (-147) ≤ 0 - p1 → 0 ≤ p2 → (-179) ≤ 0 - p2 → 1 ≤ a3 - a8 → 0 - 55 * a3 - 3 * a8 + 1042 < (m : Int) → yG 89 xfts (xcall 89 xfts xpools xms (d + 2)) (xpool xp_RX13) [] xt_X13_fromResidues (yP 0 (fun rv hp' => (fun rv hp' => (rv = none ∧ True) ∧ bAx G [(191242677893554771214035240797834575872, 256)] hp hp') rv hp' ∧ bRg G hp')) (38 * m) 102 [(0, yR 2073), (1, yI (p1)), (2, yI (p2)), (3, yI (a3)), (4, yJ (a4)), (6, yJ (a6)), (8, yI (a8)), (9, yI (a9))] [] hq) ∧ (∀ a3 : Int, ∀ gg0 : Int, ∀ hq, bAx G [(191242677893554771214035240797834575872, 256)] hp hq → bRg G hq → ys hq 2073 10 = gg0 → (-1) ≤ a3 → (-16) ≤ 0 - a3 → 18 ≤ gg0 → (-18) ≤ 0 - gg0 → 52 ≤ p1 → (-147) ≤ 0 - p1 → 0 ≤ p2 → (-179) ≤ 0 - p2 → yBd hq (p1 : Int).toNat ((31 * (gg0 - 1 - a3) : Int).toNat) → 0 ≤ yval hq (p1 : Int).toNat → yBd hq 260 ((31 * (gg0 - 1 - a3) : Int).toNat) → 0 ≤ yval hq 260 → 2 * a3 + 3 < (m : Int) → yG 89 xfts (xcall 89 xfts xpools xms (d + 2)) (xpool xp_RX13) [] xt_X13_fromResidues (yP 0 (fun rv hp' => (fun rv hp' => (rv = none ∧ True) ∧ bAx G [(191242677893554771214035240797834575872, 256)] hp hp') rv hp' ∧ bRg G hp')) (38 * m) 200 [(0, yR 2073), (1, yI (p1)), (3, yI (a3))] [] hq) := by
    intro m
    induction m with
    | zero =>
      refine ⟨?_, ?_, ?_, ?_⟩ <;> (intros; exfalso; omega)
    | succ m ih =>
      obtain ⟨i_2, i_40, i_102, i_200⟩ := ih
      refine ⟨?_, ?_, ?_, ?_⟩
      · intro a3 gg0 hq A_hq M_bRg_hq E_0 f0 f1 f2 f3 f4 f5 f6 f7 hm
        refine yG.mono (N := 38 * m + 38) ?_ (by omega)
        obtain ⟨-, -, g_0l, g_0u⟩ := (w_M_usedCount W H_2073).int A_hq.1
        refine yG.load xik rfl (fun _ _ => rfl) (v := yI (a3)) rfl rfl ?_
        refine yG.load xak rfl (fun _ _ => rfl) (v := yR 2073) rfl rfl ?_
        refine yG.getI A_hq.1 (w_M_usedCount W H_2073) rfl rfl (fun z1 e_z1 i_z1 l_z1 u_z1 => ?_)
        rw [show (z1 : Int) = gg0 by omega]
        refine yG.icmp rfl (t := 154) rfl ⟨by omega, by omega⟩ ⟨by omega, by omega⟩ (fun c2 => ?_) (fun c2 => ?_)
        · have c2 : (a3 : Int) ≥ gg0 := c2
          refine yG.load xak rfl (fun _ _ => rfl) (v := yR 2073) rfl rfl ?_
          refine yG.load xik rfl (fun _ _ => rfl) (v := yI (p1)) rfl rfl ?_
          refine yG.load xak rfl (fun _ _ => rfl) (v := yR 2073) rfl rfl ?_
          refine yG.getO A_hq.1 (w_M_mixed W H_2073) rfl rfl (fun r3 H_r3 O_r3 q_r3 => ?_)
          obtain rfl := u_M_mixed W H_r3
          refine yG.load xak rfl (fun _ _ => rfl) (v := yR 2073) rfl rfl ?_
          refine yG.getI A_hq.1 (w_M_usedCount W H_2073) rfl rfl (fun z4 e_z4 i_z4 l_z4 u_z4 => ?_)
          rw [show (z4 : Int) = gg0 by omega]
          refine yG.num (c := 1) rfl (fun _ _ => rfl) (by decide) ?_
          refine yG.isub rfl ?_
          refine yG.lald A_hq.1 (v_M_mixed W H_r3) rfl (by omega) (by omega) (fun z5 e_z5 i_z5 l_z5 u_z5 => ?_)
          refine yG.invV (rest := []) A_hq.1 (bOb (d_M W) H_2073) rfl rfl rfl rfl (r_put W (d + 1) A_hq.1 M_bRg_hq H_2073 (r := (p1)) (v := (z5)) (x := 31) ⟨by omega, by omega⟩ (yEb (c := 2147483648) (by decide) (by omega) (by omega)) (by decide) (bTb_ge (a := 52) (b := 148) (by decide) (by omega) (by omega))) (fun rv h6 q9 => ?_)
          obtain ⟨rfl, B_h6, M_bRg_h6, Y_h6, V_h6, S_h6⟩ := q9
          have P_h6 : 0 ≤ yval h6 (p1 : Int).toNat := by rw [V_h6]; omega
          have A_h6 := A_hq.tr B_h6 (by decide)
          have : ys h6 2073 10 = ys hq 2073 10 := B_h6.ys H_2073 (by decide)
          show yG _ _ _ _ _ _ _ _ _ _ [] _
          refine yG.load xak rfl (fun _ _ => rfl) (v := yR 2073) rfl rfl ?_
          refine yG.num (c := 260) rfl (fun _ _ => rfl) (by decide) ?_
          refine yG.getS (c := 14) rfl rfl ?_
          refine yG.load xak rfl (fun _ _ => rfl) (v := yR 2073) rfl rfl ?_
          refine yG.getO A_h6.1 (w_M_used W H_2073) rfl rfl (fun r7 H_r7 O_r7 q_r7 => ?_)
          obtain rfl := u_M_used W H_r7
          refine yG.load xak rfl (fun _ _ => rfl) (v := yR 2073) rfl rfl ?_
          refine yG.getI A_h6.1 (w_M_usedCount W H_2073) rfl rfl (fun z8 e_z8 i_z8 l_z8 u_z8 => ?_)
          rw [show (z8 : Int) = gg0 by omega]
          refine yG.num (c := 1) rfl (fun _ _ => rfl) (by decide) ?_
          refine yG.isub rfl ?_
          refine yG.iald A_h6.1 (v_M_used W H_r7) rfl (by omega) (by omega) (fun z9 e_z9 i_z9 l_z9 u_z9 => ?_)
          refine yG.iald A_h6.1 (v_M_PRIME W (s_M_PRIME W)) rfl (by omega) (by omega) (fun z10 e_z10 i_z10 l_z10 u_z10 => ?_)
          refine yG.i2l rfl ⟨by omega, by omega⟩ ?_
          refine yG.invV (rest := []) A_h6.1 (bOb (d_M W) H_2073) rfl rfl rfl rfl (r_put W (d + 1) A_h6.1 M_bRg_h6 H_2073 (r := (260)) (v := (z10)) (x := 31) ⟨by omega, by omega⟩ (yEb (c := 2147483648) (by decide) (by omega) (by omega)) (by decide) (bTb_ge (a := 260) (b := 261) (by decide) (by omega) (by omega))) (fun rv h11 q9 => ?_)
          obtain ⟨rfl, B_h11, M_bRg_h11, Y_h11, V_h11, S_h11⟩ := q9
          have P_h11 : 0 ≤ yval h11 (260 : Int).toNat := by rw [V_h11]; omega
          have A_h11 := A_h6.tr B_h11 (by decide)
          have : ys h11 2073 10 = ys h6 2073 10 := B_h11.ys H_2073 (by decide)
          show yG _ _ _ _ _ _ _ _ _ _ [] _
          refine yG.load xak rfl (fun _ _ => rfl) (v := yR 2073) rfl rfl ?_
          refine yG.getI A_h11.1 (w_M_usedCount W H_2073) rfl rfl (fun z12 e_z12 i_z12 l_z12 u_z12 => ?_)
          rw [show (z12 : Int) = gg0 by omega]
          refine yG.num (c := 2) rfl (fun _ _ => rfl) (by decide) ?_
          refine yG.isub rfl ?_
          obtain ⟨z13, e_z13⟩ : ∃ z : Int, z = gg0 - 2 := ⟨_, rfl⟩
          rw [← e_z13]
          refine yG.store1 xik (L' := [(3, yI (z13)), (0, yR 2073), (1, yI (p1)), (2, yI (p2))]) rfl (fun _ _ => rfl) rfl rfl ?_
          exact yG.mono (yG.sub (i_200 (z13) (ys h11 2073 10) h11 A_h11 M_bRg_h11  rfl (by omega) (by omega) (by omega) (by omega) (by omega) (by omega) (by omega) (by omega) ((Y_h6.same W.y A_h6.1 (by omega) (S_h11 (p1 : Int).toNat (by omega) trivial)).mono (by omega)) (yPos W A_h6.1 (by omega) P_h6 (S_h11 (p1 : Int).toNat (by omega) trivial)) (Y_h11.mono (by omega)) P_h11 (by omega)) (ySub.cons rfl (ySub.cons rfl (ySub.cons rfl (ySub.nil))))) (by omega)
        · have c2 : (a3 : Int) < gg0 := c2
          refine yG.getS (c := 14) rfl rfl ?_
          refine yG.load xak rfl (fun _ _ => rfl) (v := yR 2073) rfl rfl ?_
          refine yG.getO A_hq.1 (w_M_used W H_2073) rfl rfl (fun r14 H_r14 O_r14 q_r14 => ?_)
          obtain rfl := u_M_used W H_r14
          refine yG.load xik rfl (fun _ _ => rfl) (v := yI (a3)) rfl rfl ?_
          refine yG.iald A_hq.1 (v_M_used W H_r14) rfl (by omega) (by omega) (fun z15 e_z15 i_z15 l_z15 u_z15 => ?_)
          refine yG.iald A_hq.1 (v_M_PRIME W (s_M_PRIME W)) rfl (by omega) (by omega) (fun z16 e_z16 i_z16 l_z16 u_z16 => ?_)
          refine yG.i2l rfl ⟨by omega, by omega⟩ ?_
          refine yG.store2 xlk2 (L' := [(4, yJ (z16)), (0, yR 2073), (1, yI (p1)), (2, yI (p2)), (3, yI (a3))]) rfl (fun _ _ => rfl) rfl rfl ?_
          refine yG.load xak rfl (fun _ _ => rfl) (v := yR 2073) rfl rfl ?_
          refine yG.getO A_hq.1 (w_M_residue W H_2073) rfl rfl (fun r17 H_r17 O_r17 q_r17 => ?_)
          obtain rfl := u_M_residue W H_r17
          refine yG.num (c := 180) rfl (fun _ _ => rfl) (by decide) ?_
          refine yG.load xik rfl (fun _ _ => rfl) (v := yI (a3)) rfl rfl ?_
          refine yG.imul rfl ?_
          refine yG.load xik rfl (fun _ _ => rfl) (v := yI (p2)) rfl rfl ?_
          refine yG.iadd rfl ?_
          refine yG.lald A_hq.1 (v_M_residue W H_r17) rfl (by omega) (by omega) (fun z18 e_z18 i_z18 l_z18 u_z18 => ?_)
          refine yG.store2 xlk2 (L' := [(6, yJ (z18)), (4, yJ (z16)), (0, yR 2073), (1, yI (p1)), (2, yI (p2)), (3, yI (a3))]) rfl (fun _ _ => rfl) rfl rfl ?_
          refine yG.num (c := 0) rfl (fun _ _ => rfl) (by decide) ?_
          refine yG.store1 xik (L' := [(8, yI (0)), (6, yJ (z18)), (4, yJ (z16)), (0, yR 2073), (1, yI (p1)), (2, yI (p2)), (3, yI (a3))]) rfl (fun _ _ => rfl) rfl rfl ?_
          exact yG.mono (yG.sub (i_40 (a3) (z16) (z18) (0) (ys hq 2073 10) hq A_hq M_bRg_hq  rfl (by omega) (by omega) (by omega) (by omega) (by omega) (by omega) (by omega) (by omega) (by omega) (by omega) (by omega) (by omega) (by omega) (by omega) (by omega) (by omega)) (ySub.cons rfl (ySub.cons rfl (ySub.cons rfl (ySub.cons rfl (ySub.cons rfl (ySub.cons rfl (ySub.cons rfl (ySub.nil))))))))) (by omega)
      · intro a3 a4 a6 a8 gg0 hq A_hq M_bRg_hq E_0 f0 f1 f2 f3 f4 f5 f6 f7 f8 f9 f10 f11 f12 f13 f14 hm
        refine yG.mono (N := 38 * m + 38) ?_ (by omega)
        obtain ⟨-, -, g_0l, g_0u⟩ := (w_M_usedCount W H_2073).int A_hq.1
        refine yG.load xik rfl (fun _ _ => rfl) (v := yI (a8)) rfl rfl ?_
        refine yG.load xik rfl (fun _ _ => rfl) (v := yI (a3)) rfl rfl ?_
        refine yG.icmp rfl (t := 140) rfl ⟨by omega, by omega⟩ ⟨by omega, by omega⟩ (fun c1 => ?_) (fun c1 => ?_)
        · have c1 : (a8 : Int) ≥ a3 := c1
          refine yG.load xak rfl (fun _ _ => rfl) (v := yR 2073) rfl rfl ?_
          refine yG.getO A_hq.1 (w_M_mixed W H_2073) rfl rfl (fun r2 H_r2 O_r2 q_r2 => ?_)
          obtain rfl := u_M_mixed W H_r2
          refine yG.load xik rfl (fun _ _ => rfl) (v := yI (a3)) rfl rfl ?_
          refine yG.load xlk2 rfl (fun _ _ => rfl) (v := yJ (a6)) rfl rfl ?_
          refine yG.last A_hq.1 (v_M_mixed W H_r2) (W.2.1 _ _ H_r2 (by decide) (by decide)) rfl (by omega) (by omega) ⟨by omega, by omega⟩ (by omega) (by omega) (fun h3 T_h3 b_h3 f_h3 y_h3 => ?_)
          have M_bRg_h3 := M_bRg_hq.fr (bAx.put (Wl := [(170141183460469231731687303715884105728, 256)]) (bAx.rf A_hq.1) T_h3 b_h3 f_h3 H_r2 (bAll_ok (by decide) _)) (by decide)
          have A_h3 := A_hq.put T_h3 b_h3 f_h3 H_r2 (bAll_ok (by decide) _)
          have : ys h3 2073 10 = ys hq 2073 10 := (y_h3 2073 10).trans (if_neg (fun e => (bRo.ne H_2073 H_r2 (by decide)) e.1))
          refine yG.iinc rfl (a := a3) rfl (L' := [(3, yI (a3 + 1)), (0, yR 2073), (1, yI (p1)), (2, yI (p2)), (4, yJ (a4)), (6, yJ (a6)), (8, yI (a8))]) rfl ?_
          refine yG.goto rfl (t := 2) rfl ?_
          exact yG.mono (yG.sub (i_2 (a3 + 1) (ys h3 2073 10) h3 A_h3 M_bRg_h3  rfl (by omega) (by omega) (by omega) (by omega) (by omega) (by omega) (by omega) (by omega) (by omega)) (ySub.cons rfl (ySub.cons rfl (ySub.cons rfl (ySub.cons rfl (ySub.nil)))))) (by omega)
        · have c1 : (a8 : Int) < a3 := c1
          refine yG.num (c := 40) rfl (fun _ _ => rfl) (by decide) ?_
          refine yG.load xak rfl (fun _ _ => rfl) (v := yR 2073) rfl rfl ?_
          refine yG.getO A_hq.1 (w_M_used W H_2073) rfl rfl (fun r4 H_r4 O_r4 q_r4 => ?_)
          obtain rfl := u_M_used W H_r4
          refine yG.load xik rfl (fun _ _ => rfl) (v := yI (a8)) rfl rfl ?_
          refine yG.iald A_hq.1 (v_M_used W H_r4) rfl (by omega) (by omega) (fun z5 e_z5 i_z5 l_z5 u_z5 => ?_)
          refine yG.imul rfl ?_
          refine yG.load xak rfl (fun _ _ => rfl) (v := yR 2073) rfl rfl ?_
          refine yG.getS9 A_hq.1 (w_M_used W H_2073) q_r4 rfl rfl ?_
          refine yG.load xik rfl (fun _ _ => rfl) (v := yI (a3)) rfl rfl ?_
          refine yG.iald A_hq.1 (v_M_used W H_r4) rfl (by omega) (by omega) (fun z6 e_z6 i_z6 l_z6 u_z6 => ?_)
          refine yG.iadd rfl ?_
          obtain ⟨z7, e_z7⟩ : ∃ z : Int, z = (40 * z5) + z6 := ⟨_, rfl⟩
          rw [← e_z7]
          refine yG.store1 xik (L' := [(9, yI (z7)), (0, yR 2073), (1, yI (p1)), (2, yI (p2)), (3, yI (a3)), (4, yJ (a4)), (6, yJ (a6)), (8, yI (a8))]) rfl (fun _ _ => rfl) rfl rfl ?_
          refine yG.load xak rfl (fun _ _ => rfl) (v := yR 2073) rfl rfl ?_
          refine yG.getO A_hq.1 (w_M_inverseOf W H_2073) rfl rfl (fun r8 H_r8 O_r8 q_r8 => ?_)
          obtain rfl := u_M_inverseOf W H_r8
          refine yG.load xik rfl (fun _ _ => rfl) (v := yI (z7)) rfl rfl ?_
          refine yG.lald A_hq.1 (v_M_inverseOf W H_r8) rfl (by omega) (by omega) (fun z9 e_z9 i_z9 l_z9 u_z9 => ?_)
          refine yG.numl (c := 0) rfl (fun _ _ => rfl) (by decide) ?_
          refine yG.lcmp rfl ⟨by omega, by omega⟩ ⟨by omega, by omega⟩ (fun z10 e_z10 => ?_)
          refine yG.ifz rfl (t := 102) rfl ⟨by omega, by omega⟩ (fun c11 => ?_) (fun c11 => ?_)
          · have c11 : (z10 : Int) ≠ 0 := c11
            exact yG.mono (yG.sub (i_102 (a3) (a4) (a6) (a8) (z7) (ys hq 2073 10) hq A_hq M_bRg_hq  rfl (by omega) (by omega) (by omega) (by omega) (by omega) (by omega) (by omega) (by omega) (by omega) (by omega) (by omega) (by omega) (by omega) (by omega) (by omega) (by omega) (by omega) (by omega)) (ySub.cons rfl (ySub.cons rfl (ySub.cons rfl (ySub.cons rfl (ySub.cons rfl (ySub.cons rfl (ySub.cons rfl (ySub.cons rfl (ySub.nil)))))))))) (by omega)
          · have c11 : (z10 : Int) = 0 := c11
            refine yG.load xak rfl (fun _ _ => rfl) (v := yR 2073) rfl rfl ?_
            refine yG.getS9 A_hq.1 (w_M_inverseOf W H_2073) q_r8 rfl rfl ?_
            refine yG.load xik rfl (fun _ _ => rfl) (v := yI (z7)) rfl rfl ?_
            refine yG.load xak rfl (fun _ _ => rfl) (v := yR 2073) rfl rfl ?_
            refine yG.getS (c := 14) rfl rfl ?_
            refine yG.load xak rfl (fun _ _ => rfl) (v := yR 2073) rfl rfl ?_
            refine yG.getS9 A_hq.1 (w_M_used W H_2073) q_r4 rfl rfl ?_
            refine yG.load xik rfl (fun _ _ => rfl) (v := yI (a8)) rfl rfl ?_
            refine yG.iald A_hq.1 (v_M_used W H_r4) rfl (by omega) (by omega) (fun z12 e_z12 i_z12 l_z12 u_z12 => ?_)
            rw [show (z12 : Int) = z5 by omega]
            refine yG.iald A_hq.1 (v_M_PRIME W (s_M_PRIME W)) rfl (by omega) (by omega) (fun z13 e_z13 i_z13 l_z13 u_z13 => ?_)
            refine yG.i2l rfl ⟨by omega, by omega⟩ ?_
            refine yG.load xlk2 rfl (fun _ _ => rfl) (v := yJ (a4)) rfl rfl ?_
            refine yG.invV (rest := [yI (z7), yR 2080]) A_hq.1 (bOb (d_M W) H_2073) rfl rfl rfl rfl (c_GModel_inverse W (d + 1) A_hq.1 H_2073 (z13) (a4) (by omega) (by omega) (by omega) (by omega)) (fun rv hp9 q9 => ?_)
            obtain ⟨⟨z14, rfl, l_z14, u_z14, R_z14⟩, e9⟩ := q9
            rw [e9]
            show yG _ _ _ _ _ _ _ _ _ _ (yJ z14 :: [yI (z7), yR 2080]) _
            refine yG.last A_hq.1 (v_M_inverseOf W H_r8) (W.2.1 _ _ H_r8 (by decide) (by decide)) rfl (by omega) (by omega) ⟨by omega, by omega⟩ (by omega) (by omega) (fun h15 T_h15 b_h15 f_h15 y_h15 => ?_)
            have M_bRg_h15 := M_bRg_hq.fr (bAx.put (Wl := [(10633823966279326983230456482242756608, 256)]) (bAx.rf A_hq.1) T_h15 b_h15 f_h15 H_r8 (bAll_ok (by decide) _)) (by decide)
            have A_h15 := A_hq.put T_h15 b_h15 f_h15 H_r8 (bAll_ok (by decide) _)
            have : ys h15 2073 10 = ys hq 2073 10 := (y_h15 2073 10).trans (if_neg (fun e => (bRo.ne H_2073 H_r8 (by decide)) e.1))
            have qq1 : zsl h15 2073 9 = yR 2082 := ((f_h15 2073 9).trans (if_neg (fun e => (bRo.ne H_2073 H_r8 (by decide)) e.1))).trans q_r4
            have : ys h15 2082 (a8 : Int).toNat = ys hq 2082 (a8 : Int).toNat := (y_h15 2082 (a8 : Int).toNat).trans (if_neg (fun e => (bRo.ne H_r4 H_r8 (by decide)) e.1))
            have qq2 : zsl h15 2073 7 = yR 2080 := ((f_h15 2073 7).trans (if_neg (fun e => (bRo.ne H_2073 H_r8 (by decide)) e.1))).trans q_r8
            exact yG.mono (yG.sub (i_102 (a3) (a4) (a6) (a8) (z7) (ys h15 2073 10) h15 A_h15 M_bRg_h15  rfl (by omega) (by omega) (by omega) (by omega) (by omega) (by omega) (by omega) (by omega) (by omega) (by omega) (by omega) (by omega) (by omega) (by omega) (by omega) (by omega) (by omega) (by omega)) (ySub.cons rfl (ySub.cons rfl (ySub.cons rfl (ySub.cons rfl (ySub.cons rfl (ySub.cons rfl (ySub.cons rfl (ySub.cons rfl (ySub.nil)))))))))) (by omega)
      · intro a3 a4 a6 a8 a9 gg0 hq A_hq M_bRg_hq E_0 f0 f1 f2 f3 f4 f5 f6 f7 f8 f9 f10 f11 f12 f13 f14 f15 f16 hm
        refine yG.mono (N := 38 * m + 38) ?_ (by omega)
        obtain ⟨-, -, g_0l, g_0u⟩ := (w_M_usedCount W H_2073).int A_hq.1
        refine yG.load xlk2 rfl (fun _ _ => rfl) (v := yJ (a6)) rfl rfl ?_
        refine yG.load xak rfl (fun _ _ => rfl) (v := yR 2073) rfl rfl ?_
        refine yG.getO A_hq.1 (w_M_mixed W H_2073) rfl rfl (fun r1 H_r1 O_r1 q_r1 => ?_)
        obtain rfl := u_M_mixed W H_r1
        refine yG.load xik rfl (fun _ _ => rfl) (v := yI (a8)) rfl rfl ?_
        refine yG.lald A_hq.1 (v_M_mixed W H_r1) rfl (by omega) (by omega) (fun z2 e_z2 i_z2 l_z2 u_z2 => ?_)
        refine yG.load xlk2 rfl (fun _ _ => rfl) (v := yJ (a4)) rfl rfl ?_
        refine yG.lrem rfl ⟨by omega, by omega⟩ ⟨by omega, by omega⟩ (by omega) (by omega) ?_
        obtain ⟨z3, e_z3⟩ : ∃ z : Int, z = (z2) % (a4) := ⟨_, rfl⟩
        rw [← e_z3]
        have b_z3 : 0 ≤ z3 ∧ z3 < a4 := e_z3 ▸ ⟨Int.emod_nonneg _ (by omega), Int.emod_lt_of_pos _ (by omega)⟩
        refine yG.lsub rfl ?_
        refine yG.load xlk2 rfl (fun _ _ => rfl) (v := yJ (a4)) rfl rfl ?_
        refine yG.ladd rfl ?_
        refine yG.load xlk2 rfl (fun _ _ => rfl) (v := yJ (a4)) rfl rfl ?_
        refine yG.lrem rfl ⟨by omega, by omega⟩ ⟨by omega, by omega⟩ (by omega) (by omega) ?_
        obtain ⟨z4, e_z4⟩ : ∃ z : Int, z = ((a6 - z3) + a4) % (a4) := ⟨_, rfl⟩
        rw [← e_z4]
        have b_z4 : 0 ≤ z4 ∧ z4 < a4 := e_z4 ▸ ⟨Int.emod_nonneg _ (by omega), Int.emod_lt_of_pos _ (by omega)⟩
        refine yG.load xak rfl (fun _ _ => rfl) (v := yR 2073) rfl rfl ?_
        refine yG.getO A_hq.1 (w_M_inverseOf W H_2073) rfl rfl (fun r5 H_r5 O_r5 q_r5 => ?_)
        obtain rfl := u_M_inverseOf W H_r5
        refine yG.load xik rfl (fun _ _ => rfl) (v := yI (a9)) rfl rfl ?_
        refine yG.lald A_hq.1 (v_M_inverseOf W H_r5) rfl (by omega) (by omega) (fun z6 e_z6 i_z6 l_z6 u_z6 => ?_)
        refine yG.lmul rfl ?_
        obtain ⟨z7, e_z7⟩ : ∃ z : Int, z = z4 * z6 := ⟨_, rfl⟩
        rw [← e_z7]
        have b_z7 : 0 ≤ z7 ∧ z7 ≤ 4611686011984936962 := e_z7 ▸ ymulb (A := 2147483646) (B := 2147483647) (by omega) (by omega) (by omega) (by omega) (by decide)
        have b2_z7 : z7 ≤ 2147483646 * z6 := e_z7 ▸ bmulx (by omega) (by omega)
        have b3_z7 : z7 ≤ 2147483647 * z4 := e_z7 ▸ bmuly (by omega) (by omega)
        refine yG.load xlk2 rfl (fun _ _ => rfl) (v := yJ (a4)) rfl rfl ?_
        refine yG.lrem rfl ⟨by omega, by omega⟩ ⟨by omega, by omega⟩ (by omega) (by omega) ?_
        obtain ⟨z8, e_z8⟩ : ∃ z : Int, z = (z7) % (a4) := ⟨_, rfl⟩
        rw [← e_z8]
        have b_z8 : 0 ≤ z8 ∧ z8 < a4 := e_z8 ▸ ⟨Int.emod_nonneg _ (by omega), Int.emod_lt_of_pos _ (by omega)⟩
        refine yG.store2 xlk2 (L' := [(6, yJ (z8)), (0, yR 2073), (1, yI (p1)), (2, yI (p2)), (3, yI (a3)), (4, yJ (a4)), (8, yI (a8)), (9, yI (a9))]) rfl (fun _ _ => rfl) rfl rfl ?_
        refine yG.iinc rfl (a := a8) rfl (L' := [(8, yI (a8 + 1)), (6, yJ (z8)), (0, yR 2073), (1, yI (p1)), (2, yI (p2)), (3, yI (a3)), (4, yJ (a4)), (9, yI (a9))]) rfl ?_
        refine yG.goto rfl (t := 40) rfl ?_
        exact yG.mono (yG.sub (i_40 (a3) (a4) (z8) (a8 + 1) (ys hq 2073 10) hq A_hq M_bRg_hq  rfl (by omega) (by omega) (by omega) (by omega) (by omega) (by omega) (by omega) (by omega) (by omega) (by omega) (by omega) (by omega) (by omega) (by omega) (by omega) (by omega)) (ySub.cons rfl (ySub.cons rfl (ySub.cons rfl (ySub.cons rfl (ySub.cons rfl (ySub.cons rfl (ySub.cons rfl (ySub.nil))))))))) (by omega)
      · intro a3 gg0 hq A_hq M_bRg_hq E_0 f0 f1 f2 f3 f4 f5 f6 f7 rc200_p1 rd200_p1 rc200_260 rd200_260 hm
        refine yG.mono (N := 38 * m + 38) ?_ (by omega)
        obtain ⟨-, -, g_0l, g_0u⟩ := (w_M_usedCount W H_2073).int A_hq.1
        refine yG.load xik rfl (fun _ _ => rfl) (v := yI (a3)) rfl rfl ?_
        refine yG.ifz rfl (t := 251) rfl ⟨by omega, by omega⟩ (fun c1 => ?_) (fun c1 => ?_)
        · have c1 : (a3 : Int) < 0 := c1
          refine yG.load xak rfl (fun _ _ => rfl) (v := yR 2073) rfl rfl ?_
          refine yG.num (c := 261) rfl (fun _ _ => rfl) (by decide) ?_
          refine yG.load xik rfl (fun _ _ => rfl) (v := yI (p1)) rfl rfl ?_
          refine yG.load xik rfl (fun _ _ => rfl) (v := yI (p1)) rfl rfl ?_
          refine yG.num (c := 1) rfl (fun _ _ => rfl) (by decide) ?_
          refine yG.invV (rest := []) A_hq.1 (bOb (d_M W) H_2073) rfl rfl rfl rfl (r_plus W d A_hq.1 M_bRg_hq H_2073 (r := (261)) (p := (p1)) (q := (p1)) (t := (1)) (x := 558) ⟨by omega, by omega⟩ ⟨by omega, by omega⟩ ⟨by omega, by omega⟩ (by omega) (rc200_p1.mono (by omega)) (rc200_p1.mono (by omega)) (by decide) (bTb_ge (a := 261) (b := 262) (by decide) (by omega) (by omega))) (fun rv h2 q9 => ?_)
          obtain ⟨rfl, B_h2, M_bRg_h2, Y_h2, V_h2, S_h2⟩ := q9
          have A_h2 := A_hq.tr B_h2 (by decide)
          have : ys h2 2073 10 = ys hq 2073 10 := B_h2.ys H_2073 (by decide)
          show yG _ _ _ _ _ _ _ _ _ _ [] _
          refine yG.load xak rfl (fun _ _ => rfl) (v := yR 2073) rfl rfl ?_
          refine yG.num (c := 261) rfl (fun _ _ => rfl) (by decide) ?_
          refine yG.num (c := 260) rfl (fun _ _ => rfl) (by decide) ?_
          refine yG.invV (rest := []) A_h2.1 (bOb (d_M W) H_2073) rfl rfl rfl rfl (r_compareSizes W (d + 1) A_h2.1 M_bRg_h2 H_2073 (p := (261)) (q := (260)) ⟨by omega, by omega⟩ ⟨by omega, by omega⟩) (fun rv hp9 q9 => ?_)
          obtain ⟨e9, z3, rfl, g_z3⟩ := q9
          rw [e9]
          have l_z3 : -1 ≤ z3 ∧ z3 ≤ 1 := by unfold ysgn at g_z3; omega
          show yG _ _ _ _ _ _ _ _ _ _ (yI z3 :: []) _
          refine yG.ifz rfl (t := 284) rfl ⟨by omega, by omega⟩ (fun c4 => ?_) (fun c4 => ?_)
          · have c4 : (z3 : Int) ≤ 0 := c4
            refine yG.ret rfl (fun _ _ => rfl) ?_
            exact (yP.void ⟨⟨⟨rfl, trivial⟩, A_h2⟩, M_bRg_h2⟩)
          · have c4 : (z3 : Int) > 0 := c4
            refine yG.load xak rfl (fun _ _ => rfl) (v := yR 2073) rfl rfl ?_
            refine yG.load xik rfl (fun _ _ => rfl) (v := yI (p1)) rfl rfl ?_
            refine yG.load xik rfl (fun _ _ => rfl) (v := yI (p1)) rfl rfl ?_
            refine yG.num (c := 260) rfl (fun _ _ => rfl) (by decide) ?_
            refine yG.num (c := -1) rfl (fun _ _ => rfl) (by decide) ?_
            refine yG.invV (rest := []) A_h2.1 (bOb (d_M W) H_2073) rfl rfl rfl rfl (r_minus W d A_h2.1 M_bRg_h2 H_2073 (r := (p1)) (p := (p1)) (q := (260)) (x := 558) ⟨by omega, by omega⟩ ⟨by omega, by omega⟩ ⟨by omega, by omega⟩ ((rc200_p1.same W.y A_hq.1 (by omega) (S_h2 (p1 : Int).toNat (by omega) trivial)).mono (by omega)) ((rc200_260.same W.y A_hq.1 (by decide) (S_h2 260 (by omega) trivial)).mono (by omega)) (yPos W A_hq.1 (by omega) rd200_p1 (S_h2 (p1 : Int).toNat (by omega) trivial)) (yPos W A_hq.1 (by decide) rd200_260 (S_h2 260 (by omega) trivial)) (by decide) (bTb_ge (a := 52) (b := 148) (by decide) (by omega) (by omega))) (fun rv h5 q9 => ?_)
            obtain ⟨rfl, B_h5, M_bRg_h5, Y_h5, V_h5, S_h5⟩ := q9
            have A_h5 := A_h2.tr B_h5 (by decide)
            have : ys h5 2073 10 = ys h2 2073 10 := B_h5.ys H_2073 (by decide)
            show yG _ _ _ _ _ _ _ _ _ _ [] _
            refine yG.ret rfl (fun _ _ => rfl) ?_
            exact (yP.void ⟨⟨⟨rfl, trivial⟩, A_h5⟩, M_bRg_h5⟩)
        · have c1 : (a3 : Int) ≥ 0 := c1
          refine yG.load xak rfl (fun _ _ => rfl) (v := yR 2073) rfl rfl ?_
          refine yG.load xik rfl (fun _ _ => rfl) (v := yI (p1)) rfl rfl ?_
          refine yG.getS (c := 14) rfl rfl ?_
          refine yG.load xak rfl (fun _ _ => rfl) (v := yR 2073) rfl rfl ?_
          refine yG.getO A_hq.1 (w_M_used W H_2073) rfl rfl (fun r6 H_r6 O_r6 q_r6 => ?_)
          obtain rfl := u_M_used W H_r6
          refine yG.load xik rfl (fun _ _ => rfl) (v := yI (a3)) rfl rfl ?_
          refine yG.iald A_hq.1 (v_M_used W H_r6) rfl (by omega) (by omega) (fun z7 e_z7 i_z7 l_z7 u_z7 => ?_)
          refine yG.iald A_hq.1 (v_M_PRIME W (s_M_PRIME W)) rfl (by omega) (by omega) (fun z8 e_z8 i_z8 l_z8 u_z8 => ?_)
          refine yG.i2l rfl ⟨by omega, by omega⟩ ?_
          refine yG.load xak rfl (fun _ _ => rfl) (v := yR 2073) rfl rfl ?_
          refine yG.getO A_hq.1 (w_M_mixed W H_2073) rfl rfl (fun r9 H_r9 O_r9 q_r9 => ?_)
          obtain rfl := u_M_mixed W H_r9
          refine yG.load xik rfl (fun _ _ => rfl) (v := yI (a3)) rfl rfl ?_
          refine yG.lald A_hq.1 (v_M_mixed W H_r9) rfl (by omega) (by omega) (fun z10 e_z10 i_z10 l_z10 u_z10 => ?_)
          refine yG.invV (rest := []) A_hq.1 (bOb (d_M W) H_2073) rfl rfl rfl rfl (r_stretch W d A_hq.1 M_bRg_hq H_2073 (r := (p1)) (b := (z8)) (m := (z10)) (x := (31 * (gg0 - 1 - a3) : Int).toNat) ⟨by omega, by omega⟩ rc200_p1 ⟨by omega, by omega⟩ ⟨by omega, by omega⟩ (by omega) (Nat.le_trans (show (31 * (gg0 - 1 - a3) : Int).toNat + 31 ≤ 558 by omega) (bTb_ge (a := 52) (b := 148) (by decide) (by omega) (by omega)))) (fun rv h11 q9 => ?_)
          obtain ⟨rfl, B_h11, M_bRg_h11, Y_h11, V_h11, S_h11⟩ := q9
          have P_h11 : 0 ≤ yval h11 (p1 : Int).toNat := by rw [V_h11]; exact r_strpos W A_hq.1 (by omega) (by omega) (by omega)
          have A_h11 := A_hq.tr B_h11 (by decide)
          have : ys h11 2073 10 = ys hq 2073 10 := B_h11.ys H_2073 (by decide)
          have qq1 : zsl h11 2073 9 = yR 2082 := (B_h11.sl H_2073 (by decide)).trans q_r6
          have : ys h11 2082 (a3 : Int).toNat = ys hq 2082 (a3 : Int).toNat := B_h11.ys H_r6 (bNo_ok (by decide) _)
          have : ys h11 14 (z7 : Int).toNat = ys hq 14 (z7 : Int).toNat := B_h11.ys (s_M_PRIME W) (bNo_ok (by decide) _)
          show yG _ _ _ _ _ _ _ _ _ _ [] _
          refine yG.load xak rfl (fun _ _ => rfl) (v := yR 2073) rfl rfl ?_
          refine yG.num (c := 260) rfl (fun _ _ => rfl) (by decide) ?_
          refine yG.getS (c := 14) rfl rfl ?_
          refine yG.load xak rfl (fun _ _ => rfl) (v := yR 2073) rfl rfl ?_
          refine yG.getS9 A_h11.1 (w_M_used W H_2073) qq1 rfl rfl ?_
          refine yG.load xik rfl (fun _ _ => rfl) (v := yI (a3)) rfl rfl ?_
          refine yG.iald A_h11.1 (v_M_used W H_r6) rfl (by omega) (by omega) (fun z12 e_z12 i_z12 l_z12 u_z12 => ?_)
          rw [show (z12 : Int) = z7 by omega]
          refine yG.iald A_h11.1 (v_M_PRIME W (s_M_PRIME W)) rfl (by omega) (by omega) (fun z13 e_z13 i_z13 l_z13 u_z13 => ?_)
          rw [show (z13 : Int) = z8 by omega]
          refine yG.i2l rfl ⟨by omega, by omega⟩ ?_
          refine yG.numl (c := 0) rfl (fun _ _ => rfl) (by decide) ?_
          refine yG.invV (rest := []) A_h11.1 (bOb (d_M W) H_2073) rfl rfl rfl rfl (r_stretch W d A_h11.1 M_bRg_h11 H_2073 (r := (260)) (b := (z8)) (m := (0)) (x := (31 * (gg0 - 1 - a3) : Int).toNat) ⟨by omega, by omega⟩ (rc200_260.same W.y A_hq.1 (by decide) (S_h11 260 (by omega) trivial)) ⟨by omega, by omega⟩ ⟨by omega, by omega⟩ (by omega) (Nat.le_trans (show (31 * (gg0 - 1 - a3) : Int).toNat + 31 ≤ 7654 by omega) (bTb_ge (a := 260) (b := 261) (by decide) (by omega) (by omega)))) (fun rv h14 q9 => ?_)
          obtain ⟨rfl, B_h14, M_bRg_h14, Y_h14, V_h14, S_h14⟩ := q9
          have P_h14 : 0 ≤ yval h14 (260 : Int).toNat := by rw [V_h14]; exact r_strpos W A_h11.1 (by omega) (by omega) (by omega)
          have A_h14 := A_h11.tr B_h14 (by decide)
          have : ys h14 2073 10 = ys h11 2073 10 := B_h14.ys H_2073 (by decide)
          have qq2 : zsl h14 2073 9 = yR 2082 := (B_h14.sl H_2073 (by decide)).trans qq1
          have : ys h14 2082 (a3 : Int).toNat = ys h11 2082 (a3 : Int).toNat := B_h14.ys H_r6 (bNo_ok (by decide) _)
          have : ys h14 14 (z7 : Int).toNat = ys h11 14 (z7 : Int).toNat := B_h14.ys (s_M_PRIME W) (bNo_ok (by decide) _)
          show yG _ _ _ _ _ _ _ _ _ _ [] _
          refine yG.iinc rfl (a := a3) rfl (L' := [(3, yI (a3 + (-1))), (0, yR 2073), (1, yI (p1))]) rfl ?_
          refine yG.goto rfl (t := 200) rfl ?_
          exact yG.mono (yG.sub (i_200 (a3 + (-1)) (ys h14 2073 10) h14 A_h14 M_bRg_h14  rfl (by omega) (by omega) (by omega) (by omega) (by omega) (by omega) (by omega) (by omega) ((Y_h11.same W.y A_h11.1 (by omega) (S_h14 (p1 : Int).toNat (by omega) trivial)).mono (by omega)) (yPos W A_h11.1 (by omega) P_h11 (S_h14 (p1 : Int).toNat (by omega) trivial)) (Y_h14.mono (by omega)) P_h14 (by omega)) (ySub.cons rfl (ySub.cons rfl (ySub.cons rfl (ySub.nil))))) (by omega)
  refine yC.of (M := (xt_X13_fromResidues, (10, (0, (14, []))))) rfl rfl (N := 39786) (yfuel (by decide)) ?_
  show yG 89 xfts (xcall 89 xfts xpools xms (d + 2)) (xpool xp_RX13) [] xt_X13_fromResidues (yP 0 (fun rv hp' => (fun rv hp' => (rv = none ∧ True) ∧ bAx G [(191242677893554771214035240797834575872, 256)] hp hp') rv hp' ∧ bRg G hp')) 39786 0 [(0, yR 2073), (1, yI (p1)), (2, yI (p2))] [] hp
  obtain ⟨i_2, i_40, i_102, i_200⟩ := H 1046
  obtain ⟨gg0, E_0⟩ : ∃ z : Int, ys hp 2073 10 = z := ⟨_, rfl⟩
  obtain ⟨-, -, g_0l, g_0u⟩ := (w_M_usedCount W H_2073).int hT
  refine yG.num (c := 0) rfl (fun _ _ => rfl) (by decide) ?_
  refine yG.store1 xik (L' := [(3, yI (0)), (0, yR 2073), (1, yI (p1)), (2, yI (p2))]) rfl (fun _ _ => rfl) rfl rfl ?_
  exact yG.mono (yG.sub (i_2 (0) (ys hp 2073 10) hp A_hp M_bRg_hp  rfl (by omega) (by omega) (by omega) (by omega) (by omega) (by omega) (by omega) (by omega) (by omega)) (ySub.cons rfl (ySub.cons rfl (ySub.cons rfl (ySub.cons rfl (ySub.nil)))))) (by omega)
theorem c_GModel_fromResidues_S {hp : xH} (W : mW G) (d : Nat) (hT : zTy G hp) (M_bRg : bRg G hp) (H_2073 : bRo G 116 2073) (p1 p2 : Int) (h1l : 148 ≤ p1) (h1u : p1 ≤ 183) (h2l : 0 ≤ p2) (h2u : p2 ≤ 179) (q0l : 1 ≤ ys hp 2073 10) (q0u : ys hp 2073 10 ≤ 10) : yC (xcall 89 xfts xpools xms (d + 3)) 408 [yR 2073, yI (p1), yI (p2)] hp (fun rv hp' => (fun rv hp' => (rv = none ∧ True) ∧ bAx G [(191242677893554771214035240797834575872, 256)] hp hp') rv hp' ∧ bRg G hp') := by
  have A_hp : bAx G [(191242677893554771214035240797834575872, 256)] hp hp := bAx.rf hT
  have M_bRg_hp := M_bRg
  have H : ∀ m : Nat, (∀ a3 : Int, ∀ gg0 : Int, ∀ hq, bAx G [(191242677893554771214035240797834575872, 256)] hp hq → bRg G hq → ys hq 2073 10 = gg0 → 0 ≤ a3 → (-10) ≤ 0 - a3 → 1 ≤ gg0 → (-10) ≤ 0 - gg0 → 148 ≤ p1 → (-183) ≤ 0 - p1 → 0 ≤ p2 → (-179) ≤ 0 - p2 → 0 ≤ 0 - a3 + gg0 → 0 - 31 * a3 + 340 < (m : Int) → yG 89 xfts (xcall 89 xfts xpools xms (d + 2)) (xpool xp_RX13) [] xt_X13_fromResidues (yP 0 (fun rv hp' => (fun rv hp' => (rv = none ∧ True) ∧ bAx G [(191242677893554771214035240797834575872, 256)] hp hp') rv hp' ∧ bRg G hp')) (38 * m) 2 [(0, yR 2073), (1, yI (p1)), (2, yI (p2)), (3, yI (a3))] [] hq) ∧ (∀ a3 : Int, ∀ a4 : Int, ∀ a6 : Int, ∀ a8 : Int, ∀ gg0 : Int, ∀ hq, bAx G [(191242677893554771214035240797834575872, 256)] hp hq → bRg G hq → ys hq 2073 10 = gg0 → 0 ≤ a3 → (-9) ≤ 0 - a3 → 2147482801 ≤ a4 → (-2147483647) ≤ 0 - a4 → 0 ≤ a6 → (-2147483647) ≤ 0 - a6 → 0 ≤ a8 → (-9) ≤ 0 - a8 → 1 ≤ gg0 → (-10) ≤ 0 - gg0 → 148 ≤ p1 → (-183) ≤ 0 - p1 → 0 ≤ p2 → (-179) ≤ 0 - p2 → 0 ≤ a3 - a8 → 1 ≤ 0 - a3 + gg0 → 0 - 31 * a3 - 3 * a8 + 339 < (m : Int) → yG 89 xfts (xcall 89 xfts xpools xms (d + 2)) (xpool xp_RX13) [] xt_X13_fromResidues (yP 0 (fun rv hp' => (fun rv hp' => (rv = none ∧ True) ∧ bAx G [(191242677893554771214035240797834575872, 256)] hp hp') rv hp' ∧ bRg G hp')) (38 * m) 40 [(0, yR 2073), (1, yI (p1)), (2, yI (p2)), (3, yI (a3)), (4, yJ (a4)), (6, yJ (a6)), (8, yI (a8))] [] hq) ∧ (∀ a3 : Int, ∀ a4 : Int, ∀ a6 : Int, ∀ a8 : Int, ∀ a9 : Int, ∀ gg0 : Int, ∀ hq, bAx G [(191242677893554771214035240797834575872, 256)] hp hq → bRg G hq → ys hq 2073 10 = gg0 → 1 ≤ a3 → (-9) ≤ 0 - a3 → 2147482801 ≤ a4 → (-2147483647) ≤ 0 - a4 → 0 ≤ a6 → (-2147483647) ≤ 0 - a6 → 0 ≤ a8 → (-8) ≤ 0 - a8 → 0 ≤ a9 → (-1599) ≤ 0 - a9 → 2 ≤ gg0 → (-10) ≤ 0 - gg0 → 148 ≤ p1 → (-183) ≤ 0 - p1 → 0 ≤ p2 → (-179) ≤ 0 - p2 → 1 ≤ a3 - a8 → 1 ≤ 0 - a3 + gg0 → 0 - 31 * a3 - 3 * a8 + 338 < (m : Int) → yG 89 xfts (xcall 89 xfts xpools xms (d + 2)) (xpool xp_RX13) [] xt_X13_fromResidues (yP 0 (fun rv hp' => (fun rv hp' => (rv = none ∧ True) ∧ bAx G [(191242677893554771214035240797834575872, 256)] hp hp') rv hp' ∧ bRg G hp')) (38 * m) 102 [(0, yR 2073), (1, yI (p1)), (2, yI (p2)), (3, yI (a3)), (4, yJ (a4)), (6, yJ (a6)), (8, yI (a8)), (9, yI (a9))] [] hq) ∧ (∀ a3 : Int, ∀ gg0 : Int, ∀ hq, bAx G [(191242677893554771214035240797834575872, 256)] hp hq → bRg G hq → ys hq 2073 10 = gg0 → (-1) ≤ a3 → (-8) ≤ 0 - a3 → 1 ≤ gg0 → (-10) ≤ 0 - gg0 → 148 ≤ p1 → (-183) ≤ 0 - p1 → 0 ≤ p2 → (-179) ≤ 0 - p2 → 2 ≤ 0 - a3 + gg0 → yBd hq (p1 : Int).toNat ((31 * (gg0 - 1 - a3) : Int).toNat) → 0 ≤ yval hq (p1 : Int).toNat → yBd hq 260 ((31 * (gg0 - 1 - a3) : Int).toNat) → 0 ≤ yval hq 260 → 2 * a3 + 3 < (m : Int) → yG 89 xfts (xcall 89 xfts xpools xms (d + 2)) (xpool xp_RX13) [] xt_X13_fromResidues (yP 0 (fun rv hp' => (fun rv hp' => (rv = none ∧ True) ∧ bAx G [(191242677893554771214035240797834575872, 256)] hp hp') rv hp' ∧ bRg G hp')) (38 * m) 200 [(0, yR 2073), (1, yI (p1)), (3, yI (a3))] [] hq) := by
    intro m
    induction m with
    | zero =>
      refine ⟨?_, ?_, ?_, ?_⟩ <;> (intros; exfalso; omega)
    | succ m ih =>
      obtain ⟨i_2, i_40, i_102, i_200⟩ := ih
      refine ⟨?_, ?_, ?_, ?_⟩
      · intro a3 gg0 hq A_hq M_bRg_hq E_0 f0 f1 f2 f3 f4 f5 f6 f7 f8 hm
        refine yG.mono (N := 38 * m + 38) ?_ (by omega)
        obtain ⟨-, -, g_0l, g_0u⟩ := (w_M_usedCount W H_2073).int A_hq.1
        refine yG.load xik rfl (fun _ _ => rfl) (v := yI (a3)) rfl rfl ?_
        refine yG.load xak rfl (fun _ _ => rfl) (v := yR 2073) rfl rfl ?_
        refine yG.getI A_hq.1 (w_M_usedCount W H_2073) rfl rfl (fun z1 e_z1 i_z1 l_z1 u_z1 => ?_)
        rw [show (z1 : Int) = gg0 by omega]
        refine yG.icmp rfl (t := 154) rfl ⟨by omega, by omega⟩ ⟨by omega, by omega⟩ (fun c2 => ?_) (fun c2 => ?_)
        · have c2 : (a3 : Int) ≥ gg0 := c2
          refine yG.load xak rfl (fun _ _ => rfl) (v := yR 2073) rfl rfl ?_
          refine yG.load xik rfl (fun _ _ => rfl) (v := yI (p1)) rfl rfl ?_
          refine yG.load xak rfl (fun _ _ => rfl) (v := yR 2073) rfl rfl ?_
          refine yG.getO A_hq.1 (w_M_mixed W H_2073) rfl rfl (fun r3 H_r3 O_r3 q_r3 => ?_)
          obtain rfl := u_M_mixed W H_r3
          refine yG.load xak rfl (fun _ _ => rfl) (v := yR 2073) rfl rfl ?_
          refine yG.getI A_hq.1 (w_M_usedCount W H_2073) rfl rfl (fun z4 e_z4 i_z4 l_z4 u_z4 => ?_)
          rw [show (z4 : Int) = gg0 by omega]
          refine yG.num (c := 1) rfl (fun _ _ => rfl) (by decide) ?_
          refine yG.isub rfl ?_
          refine yG.lald A_hq.1 (v_M_mixed W H_r3) rfl (by omega) (by omega) (fun z5 e_z5 i_z5 l_z5 u_z5 => ?_)
          refine yG.invV (rest := []) A_hq.1 (bOb (d_M W) H_2073) rfl rfl rfl rfl (r_put W (d + 1) A_hq.1 M_bRg_hq H_2073 (r := (p1)) (v := (z5)) (x := 31) ⟨by omega, by omega⟩ (yEb (c := 2147483648) (by decide) (by omega) (by omega)) (by decide) (bTb_ge (a := 148) (b := 184) (by decide) (by omega) (by omega))) (fun rv h6 q9 => ?_)
          obtain ⟨rfl, B_h6, M_bRg_h6, Y_h6, V_h6, S_h6⟩ := q9
          have P_h6 : 0 ≤ yval h6 (p1 : Int).toNat := by rw [V_h6]; omega
          have A_h6 := A_hq.tr B_h6 (by decide)
          have : ys h6 2073 10 = ys hq 2073 10 := B_h6.ys H_2073 (by decide)
          show yG _ _ _ _ _ _ _ _ _ _ [] _
          refine yG.load xak rfl (fun _ _ => rfl) (v := yR 2073) rfl rfl ?_
          refine yG.num (c := 260) rfl (fun _ _ => rfl) (by decide) ?_
          refine yG.getS (c := 14) rfl rfl ?_
          refine yG.load xak rfl (fun _ _ => rfl) (v := yR 2073) rfl rfl ?_
          refine yG.getO A_h6.1 (w_M_used W H_2073) rfl rfl (fun r7 H_r7 O_r7 q_r7 => ?_)
          obtain rfl := u_M_used W H_r7
          refine yG.load xak rfl (fun _ _ => rfl) (v := yR 2073) rfl rfl ?_
          refine yG.getI A_h6.1 (w_M_usedCount W H_2073) rfl rfl (fun z8 e_z8 i_z8 l_z8 u_z8 => ?_)
          rw [show (z8 : Int) = gg0 by omega]
          refine yG.num (c := 1) rfl (fun _ _ => rfl) (by decide) ?_
          refine yG.isub rfl ?_
          refine yG.iald A_h6.1 (v_M_used W H_r7) rfl (by omega) (by omega) (fun z9 e_z9 i_z9 l_z9 u_z9 => ?_)
          refine yG.iald A_h6.1 (v_M_PRIME W (s_M_PRIME W)) rfl (by omega) (by omega) (fun z10 e_z10 i_z10 l_z10 u_z10 => ?_)
          refine yG.i2l rfl ⟨by omega, by omega⟩ ?_
          refine yG.invV (rest := []) A_h6.1 (bOb (d_M W) H_2073) rfl rfl rfl rfl (r_put W (d + 1) A_h6.1 M_bRg_h6 H_2073 (r := (260)) (v := (z10)) (x := 31) ⟨by omega, by omega⟩ (yEb (c := 2147483648) (by decide) (by omega) (by omega)) (by decide) (bTb_ge (a := 260) (b := 261) (by decide) (by omega) (by omega))) (fun rv h11 q9 => ?_)
          obtain ⟨rfl, B_h11, M_bRg_h11, Y_h11, V_h11, S_h11⟩ := q9
          have P_h11 : 0 ≤ yval h11 (260 : Int).toNat := by rw [V_h11]; omega
          have A_h11 := A_h6.tr B_h11 (by decide)
          have : ys h11 2073 10 = ys h6 2073 10 := B_h11.ys H_2073 (by decide)
          show yG _ _ _ _ _ _ _ _ _ _ [] _
          refine yG.load xak rfl (fun _ _ => rfl) (v := yR 2073) rfl rfl ?_
          refine yG.getI A_h11.1 (w_M_usedCount W H_2073) rfl rfl (fun z12 e_z12 i_z12 l_z12 u_z12 => ?_)
          rw [show (z12 : Int) = gg0 by omega]
          refine yG.num (c := 2) rfl (fun _ _ => rfl) (by decide) ?_
          refine yG.isub rfl ?_
          obtain ⟨z13, e_z13⟩ : ∃ z : Int, z = gg0 - 2 := ⟨_, rfl⟩
          rw [← e_z13]
          refine yG.store1 xik (L' := [(3, yI (z13)), (0, yR 2073), (1, yI (p1)), (2, yI (p2))]) rfl (fun _ _ => rfl) rfl rfl ?_
          exact yG.mono (yG.sub (i_200 (z13) (ys h11 2073 10) h11 A_h11 M_bRg_h11  rfl (by omega) (by omega) (by omega) (by omega) (by omega) (by omega) (by omega) (by omega) (by omega) ((Y_h6.same W.y A_h6.1 (by omega) (S_h11 (p1 : Int).toNat (by omega) trivial)).mono (by omega)) (yPos W A_h6.1 (by omega) P_h6 (S_h11 (p1 : Int).toNat (by omega) trivial)) (Y_h11.mono (by omega)) P_h11 (by omega)) (ySub.cons rfl (ySub.cons rfl (ySub.cons rfl (ySub.nil))))) (by omega)
        · have c2 : (a3 : Int) < gg0 := c2
          refine yG.getS (c := 14) rfl rfl ?_
          refine yG.load xak rfl (fun _ _ => rfl) (v := yR 2073) rfl rfl ?_
          refine yG.getO A_hq.1 (w_M_used W H_2073) rfl rfl (fun r14 H_r14 O_r14 q_r14 => ?_)
          obtain rfl := u_M_used W H_r14
          refine yG.load xik rfl (fun _ _ => rfl) (v := yI (a3)) rfl rfl ?_
          refine yG.iald A_hq.1 (v_M_used W H_r14) rfl (by omega) (by omega) (fun z15 e_z15 i_z15 l_z15 u_z15 => ?_)
          refine yG.iald A_hq.1 (v_M_PRIME W (s_M_PRIME W)) rfl (by omega) (by omega) (fun z16 e_z16 i_z16 l_z16 u_z16 => ?_)
          refine yG.i2l rfl ⟨by omega, by omega⟩ ?_
          refine yG.store2 xlk2 (L' := [(4, yJ (z16)), (0, yR 2073), (1, yI (p1)), (2, yI (p2)), (3, yI (a3))]) rfl (fun _ _ => rfl) rfl rfl ?_
          refine yG.load xak rfl (fun _ _ => rfl) (v := yR 2073) rfl rfl ?_
          refine yG.getO A_hq.1 (w_M_residue W H_2073) rfl rfl (fun r17 H_r17 O_r17 q_r17 => ?_)
          obtain rfl := u_M_residue W H_r17
          refine yG.num (c := 180) rfl (fun _ _ => rfl) (by decide) ?_
          refine yG.load xik rfl (fun _ _ => rfl) (v := yI (a3)) rfl rfl ?_
          refine yG.imul rfl ?_
          refine yG.load xik rfl (fun _ _ => rfl) (v := yI (p2)) rfl rfl ?_
          refine yG.iadd rfl ?_
          refine yG.lald A_hq.1 (v_M_residue W H_r17) rfl (by omega) (by omega) (fun z18 e_z18 i_z18 l_z18 u_z18 => ?_)
          refine yG.store2 xlk2 (L' := [(6, yJ (z18)), (4, yJ (z16)), (0, yR 2073), (1, yI (p1)), (2, yI (p2)), (3, yI (a3))]) rfl (fun _ _ => rfl) rfl rfl ?_
          refine yG.num (c := 0) rfl (fun _ _ => rfl) (by decide) ?_
          refine yG.store1 xik (L' := [(8, yI (0)), (6, yJ (z18)), (4, yJ (z16)), (0, yR 2073), (1, yI (p1)), (2, yI (p2)), (3, yI (a3))]) rfl (fun _ _ => rfl) rfl rfl ?_
          exact yG.mono (yG.sub (i_40 (a3) (z16) (z18) (0) (ys hq 2073 10) hq A_hq M_bRg_hq  rfl (by omega) (by omega) (by omega) (by omega) (by omega) (by omega) (by omega) (by omega) (by omega) (by omega) (by omega) (by omega) (by omega) (by omega) (by omega) (by omega) (by omega)) (ySub.cons rfl (ySub.cons rfl (ySub.cons rfl (ySub.cons rfl (ySub.cons rfl (ySub.cons rfl (ySub.cons rfl (ySub.nil))))))))) (by omega)
      · intro a3 a4 a6 a8 gg0 hq A_hq M_bRg_hq E_0 f0 f1 f2 f3 f4 f5 f6 f7 f8 f9 f10 f11 f12 f13 f14 f15 hm
        refine yG.mono (N := 38 * m + 38) ?_ (by omega)
        obtain ⟨-, -, g_0l, g_0u⟩ := (w_M_usedCount W H_2073).int A_hq.1
        refine yG.load xik rfl (fun _ _ => rfl) (v := yI (a8)) rfl rfl ?_
        refine yG.load xik rfl (fun _ _ => rfl) (v := yI (a3)) rfl rfl ?_
        refine yG.icmp rfl (t := 140) rfl ⟨by omega, by omega⟩ ⟨by omega, by omega⟩ (fun c1 => ?_) (fun c1 => ?_)
        · have c1 : (a8 : Int) ≥ a3 := c1
          refine yG.load xak rfl (fun _ _ => rfl) (v := yR 2073) rfl rfl ?_
          refine yG.getO A_hq.1 (w_M_mixed W H_2073) rfl rfl (fun r2 H_r2 O_r2 q_r2 => ?_)
          obtain rfl := u_M_mixed W H_r2
          refine yG.load xik rfl (fun _ _ => rfl) (v := yI (a3)) rfl rfl ?_
          refine yG.load xlk2 rfl (fun _ _ => rfl) (v := yJ (a6)) rfl rfl ?_
          refine yG.last A_hq.1 (v_M_mixed W H_r2) (W.2.1 _ _ H_r2 (by decide) (by decide)) rfl (by omega) (by omega) ⟨by omega, by omega⟩ (by omega) (by omega) (fun h3 T_h3 b_h3 f_h3 y_h3 => ?_)
          have M_bRg_h3 := M_bRg_hq.fr (bAx.put (Wl := [(170141183460469231731687303715884105728, 256)]) (bAx.rf A_hq.1) T_h3 b_h3 f_h3 H_r2 (bAll_ok (by decide) _)) (by decide)
          have A_h3 := A_hq.put T_h3 b_h3 f_h3 H_r2 (bAll_ok (by decide) _)
          have : ys h3 2073 10 = ys hq 2073 10 := (y_h3 2073 10).trans (if_neg (fun e => (bRo.ne H_2073 H_r2 (by decide)) e.1))
          refine yG.iinc rfl (a := a3) rfl (L' := [(3, yI (a3 + 1)), (0, yR 2073), (1, yI (p1)), (2, yI (p2)), (4, yJ (a4)), (6, yJ (a6)), (8, yI (a8))]) rfl ?_
          refine yG.goto rfl (t := 2) rfl ?_
          exact yG.mono (yG.sub (i_2 (a3 + 1) (ys h3 2073 10) h3 A_h3 M_bRg_h3  rfl (by omega) (by omega) (by omega) (by omega) (by omega) (by omega) (by omega) (by omega) (by omega) (by omega)) (ySub.cons rfl (ySub.cons rfl (ySub.cons rfl (ySub.cons rfl (ySub.nil)))))) (by omega)
        · have c1 : (a8 : Int) < a3 := c1
          refine yG.num (c := 40) rfl (fun _ _ => rfl) (by decide) ?_
          refine yG.load xak rfl (fun _ _ => rfl) (v := yR 2073) rfl rfl ?_
          refine yG.getO A_hq.1 (w_M_used W H_2073) rfl rfl (fun r4 H_r4 O_r4 q_r4 => ?_)
          obtain rfl := u_M_used W H_r4
          refine yG.load xik rfl (fun _ _ => rfl) (v := yI (a8)) rfl rfl ?_
          refine yG.iald A_hq.1 (v_M_used W H_r4) rfl (by omega) (by omega) (fun z5 e_z5 i_z5 l_z5 u_z5 => ?_)
          refine yG.imul rfl ?_
          refine yG.load xak rfl (fun _ _ => rfl) (v := yR 2073) rfl rfl ?_
          refine yG.getS9 A_hq.1 (w_M_used W H_2073) q_r4 rfl rfl ?_
          refine yG.load xik rfl (fun _ _ => rfl) (v := yI (a3)) rfl rfl ?_
          refine yG.iald A_hq.1 (v_M_used W H_r4) rfl (by omega) (by omega) (fun z6 e_z6 i_z6 l_z6 u_z6 => ?_)
          refine yG.iadd rfl ?_
          obtain ⟨z7, e_z7⟩ : ∃ z : Int, z = (40 * z5) + z6 := ⟨_, rfl⟩
          rw [← e_z7]
          refine yG.store1 xik (L' := [(9, yI (z7)), (0, yR 2073), (1, yI (p1)), (2, yI (p2)), (3, yI (a3)), (4, yJ (a4)), (6, yJ (a6)), (8, yI (a8))]) rfl (fun _ _ => rfl) rfl rfl ?_
          refine yG.load xak rfl (fun _ _ => rfl) (v := yR 2073) rfl rfl ?_
          refine yG.getO A_hq.1 (w_M_inverseOf W H_2073) rfl rfl (fun r8 H_r8 O_r8 q_r8 => ?_)
          obtain rfl := u_M_inverseOf W H_r8
          refine yG.load xik rfl (fun _ _ => rfl) (v := yI (z7)) rfl rfl ?_
          refine yG.lald A_hq.1 (v_M_inverseOf W H_r8) rfl (by omega) (by omega) (fun z9 e_z9 i_z9 l_z9 u_z9 => ?_)
          refine yG.numl (c := 0) rfl (fun _ _ => rfl) (by decide) ?_
          refine yG.lcmp rfl ⟨by omega, by omega⟩ ⟨by omega, by omega⟩ (fun z10 e_z10 => ?_)
          refine yG.ifz rfl (t := 102) rfl ⟨by omega, by omega⟩ (fun c11 => ?_) (fun c11 => ?_)
          · have c11 : (z10 : Int) ≠ 0 := c11
            exact yG.mono (yG.sub (i_102 (a3) (a4) (a6) (a8) (z7) (ys hq 2073 10) hq A_hq M_bRg_hq  rfl (by omega) (by omega) (by omega) (by omega) (by omega) (by omega) (by omega) (by omega) (by omega) (by omega) (by omega) (by omega) (by omega) (by omega) (by omega) (by omega) (by omega) (by omega) (by omega)) (ySub.cons rfl (ySub.cons rfl (ySub.cons rfl (ySub.cons rfl (ySub.cons rfl (ySub.cons rfl (ySub.cons rfl (ySub.cons rfl (ySub.nil)))))))))) (by omega)
          · have c11 : (z10 : Int) = 0 := c11
            refine yG.load xak rfl (fun _ _ => rfl) (v := yR 2073) rfl rfl ?_
            refine yG.getS9 A_hq.1 (w_M_inverseOf W H_2073) q_r8 rfl rfl ?_
            refine yG.load xik rfl (fun _ _ => rfl) (v := yI (z7)) rfl rfl ?_
            refine yG.load xak rfl (fun _ _ => rfl) (v := yR 2073) rfl rfl ?_
            refine yG.getS (c := 14) rfl rfl ?_
            refine yG.load xak rfl (fun _ _ => rfl) (v := yR 2073) rfl rfl ?_
            refine yG.getS9 A_hq.1 (w_M_used W H_2073) q_r4 rfl rfl ?_
            refine yG.load xik rfl (fun _ _ => rfl) (v := yI (a8)) rfl rfl ?_
            refine yG.iald A_hq.1 (v_M_used W H_r4) rfl (by omega) (by omega) (fun z12 e_z12 i_z12 l_z12 u_z12 => ?_)
            rw [show (z12 : Int) = z5 by omega]
            refine yG.iald A_hq.1 (v_M_PRIME W (s_M_PRIME W)) rfl (by omega) (by omega) (fun z13 e_z13 i_z13 l_z13 u_z13 => ?_)
            refine yG.i2l rfl ⟨by omega, by omega⟩ ?_
            refine yG.load xlk2 rfl (fun _ _ => rfl) (v := yJ (a4)) rfl rfl ?_
            refine yG.invV (rest := [yI (z7), yR 2080]) A_hq.1 (bOb (d_M W) H_2073) rfl rfl rfl rfl (c_GModel_inverse W (d + 1) A_hq.1 H_2073 (z13) (a4) (by omega) (by omega) (by omega) (by omega)) (fun rv hp9 q9 => ?_)
            obtain ⟨⟨z14, rfl, l_z14, u_z14, R_z14⟩, e9⟩ := q9
            rw [e9]
            show yG _ _ _ _ _ _ _ _ _ _ (yJ z14 :: [yI (z7), yR 2080]) _
            refine yG.last A_hq.1 (v_M_inverseOf W H_r8) (W.2.1 _ _ H_r8 (by decide) (by decide)) rfl (by omega) (by omega) ⟨by omega, by omega⟩ (by omega) (by omega) (fun h15 T_h15 b_h15 f_h15 y_h15 => ?_)
            have M_bRg_h15 := M_bRg_hq.fr (bAx.put (Wl := [(10633823966279326983230456482242756608, 256)]) (bAx.rf A_hq.1) T_h15 b_h15 f_h15 H_r8 (bAll_ok (by decide) _)) (by decide)
            have A_h15 := A_hq.put T_h15 b_h15 f_h15 H_r8 (bAll_ok (by decide) _)
            have : ys h15 2073 10 = ys hq 2073 10 := (y_h15 2073 10).trans (if_neg (fun e => (bRo.ne H_2073 H_r8 (by decide)) e.1))
            have qq1 : zsl h15 2073 9 = yR 2082 := ((f_h15 2073 9).trans (if_neg (fun e => (bRo.ne H_2073 H_r8 (by decide)) e.1))).trans q_r4
            have : ys h15 2082 (a8 : Int).toNat = ys hq 2082 (a8 : Int).toNat := (y_h15 2082 (a8 : Int).toNat).trans (if_neg (fun e => (bRo.ne H_r4 H_r8 (by decide)) e.1))
            have qq2 : zsl h15 2073 7 = yR 2080 := ((f_h15 2073 7).trans (if_neg (fun e => (bRo.ne H_2073 H_r8 (by decide)) e.1))).trans q_r8
            exact yG.mono (yG.sub (i_102 (a3) (a4) (a6) (a8) (z7) (ys h15 2073 10) h15 A_h15 M_bRg_h15  rfl (by omega) (by omega) (by omega) (by omega) (by omega) (by omega) (by omega) (by omega) (by omega) (by omega) (by omega) (by omega) (by omega) (by omega) (by omega) (by omega) (by omega) (by omega) (by omega)) (ySub.cons rfl (ySub.cons rfl (ySub.cons rfl (ySub.cons rfl (ySub.cons rfl (ySub.cons rfl (ySub.cons rfl (ySub.cons rfl (ySub.nil)))))))))) (by omega)
      · intro a3 a4 a6 a8 a9 gg0 hq A_hq M_bRg_hq E_0 f0 f1 f2 f3 f4 f5 f6 f7 f8 f9 f10 f11 f12 f13 f14 f15 f16 f17 hm
        refine yG.mono (N := 38 * m + 38) ?_ (by omega)
        obtain ⟨-, -, g_0l, g_0u⟩ := (w_M_usedCount W H_2073).int A_hq.1
        refine yG.load xlk2 rfl (fun _ _ => rfl) (v := yJ (a6)) rfl rfl ?_
        refine yG.load xak rfl (fun _ _ => rfl) (v := yR 2073) rfl rfl ?_
        refine yG.getO A_hq.1 (w_M_mixed W H_2073) rfl rfl (fun r1 H_r1 O_r1 q_r1 => ?_)
        obtain rfl := u_M_mixed W H_r1
        refine yG.load xik rfl (fun _ _ => rfl) (v := yI (a8)) rfl rfl ?_
        refine yG.lald A_hq.1 (v_M_mixed W H_r1) rfl (by omega) (by omega) (fun z2 e_z2 i_z2 l_z2 u_z2 => ?_)
        refine yG.load xlk2 rfl (fun _ _ => rfl) (v := yJ (a4)) rfl rfl ?_
        refine yG.lrem rfl ⟨by omega, by omega⟩ ⟨by omega, by omega⟩ (by omega) (by omega) ?_
        obtain ⟨z3, e_z3⟩ : ∃ z : Int, z = (z2) % (a4) := ⟨_, rfl⟩
        rw [← e_z3]
        have b_z3 : 0 ≤ z3 ∧ z3 < a4 := e_z3 ▸ ⟨Int.emod_nonneg _ (by omega), Int.emod_lt_of_pos _ (by omega)⟩
        refine yG.lsub rfl ?_
        refine yG.load xlk2 rfl (fun _ _ => rfl) (v := yJ (a4)) rfl rfl ?_
        refine yG.ladd rfl ?_
        refine yG.load xlk2 rfl (fun _ _ => rfl) (v := yJ (a4)) rfl rfl ?_
        refine yG.lrem rfl ⟨by omega, by omega⟩ ⟨by omega, by omega⟩ (by omega) (by omega) ?_
        obtain ⟨z4, e_z4⟩ : ∃ z : Int, z = ((a6 - z3) + a4) % (a4) := ⟨_, rfl⟩
        rw [← e_z4]
        have b_z4 : 0 ≤ z4 ∧ z4 < a4 := e_z4 ▸ ⟨Int.emod_nonneg _ (by omega), Int.emod_lt_of_pos _ (by omega)⟩
        refine yG.load xak rfl (fun _ _ => rfl) (v := yR 2073) rfl rfl ?_
        refine yG.getO A_hq.1 (w_M_inverseOf W H_2073) rfl rfl (fun r5 H_r5 O_r5 q_r5 => ?_)
        obtain rfl := u_M_inverseOf W H_r5
        refine yG.load xik rfl (fun _ _ => rfl) (v := yI (a9)) rfl rfl ?_
        refine yG.lald A_hq.1 (v_M_inverseOf W H_r5) rfl (by omega) (by omega) (fun z6 e_z6 i_z6 l_z6 u_z6 => ?_)
        refine yG.lmul rfl ?_
        obtain ⟨z7, e_z7⟩ : ∃ z : Int, z = z4 * z6 := ⟨_, rfl⟩
        rw [← e_z7]
        have b_z7 : 0 ≤ z7 ∧ z7 ≤ 4611686011984936962 := e_z7 ▸ ymulb (A := 2147483646) (B := 2147483647) (by omega) (by omega) (by omega) (by omega) (by decide)
        have b2_z7 : z7 ≤ 2147483646 * z6 := e_z7 ▸ bmulx (by omega) (by omega)
        have b3_z7 : z7 ≤ 2147483647 * z4 := e_z7 ▸ bmuly (by omega) (by omega)
        refine yG.load xlk2 rfl (fun _ _ => rfl) (v := yJ (a4)) rfl rfl ?_
        refine yG.lrem rfl ⟨by omega, by omega⟩ ⟨by omega, by omega⟩ (by omega) (by omega) ?_
        obtain ⟨z8, e_z8⟩ : ∃ z : Int, z = (z7) % (a4) := ⟨_, rfl⟩
        rw [← e_z8]
        have b_z8 : 0 ≤ z8 ∧ z8 < a4 := e_z8 ▸ ⟨Int.emod_nonneg _ (by omega), Int.emod_lt_of_pos _ (by omega)⟩
        refine yG.store2 xlk2 (L' := [(6, yJ (z8)), (0, yR 2073), (1, yI (p1)), (2, yI (p2)), (3, yI (a3)), (4, yJ (a4)), (8, yI (a8)), (9, yI (a9))]) rfl (fun _ _ => rfl) rfl rfl ?_
        refine yG.iinc rfl (a := a8) rfl (L' := [(8, yI (a8 + 1)), (6, yJ (z8)), (0, yR 2073), (1, yI (p1)), (2, yI (p2)), (3, yI (a3)), (4, yJ (a4)), (9, yI (a9))]) rfl ?_
        refine yG.goto rfl (t := 40) rfl ?_
        exact yG.mono (yG.sub (i_40 (a3) (a4) (z8) (a8 + 1) (ys hq 2073 10) hq A_hq M_bRg_hq  rfl (by omega) (by omega) (by omega) (by omega) (by omega) (by omega) (by omega) (by omega) (by omega) (by omega) (by omega) (by omega) (by omega) (by omega) (by omega) (by omega) (by omega)) (ySub.cons rfl (ySub.cons rfl (ySub.cons rfl (ySub.cons rfl (ySub.cons rfl (ySub.cons rfl (ySub.cons rfl (ySub.nil))))))))) (by omega)
      · intro a3 gg0 hq A_hq M_bRg_hq E_0 f0 f1 f2 f3 f4 f5 f6 f7 f8 rc200_p1 rd200_p1 rc200_260 rd200_260 hm
        refine yG.mono (N := 38 * m + 38) ?_ (by omega)
        obtain ⟨-, -, g_0l, g_0u⟩ := (w_M_usedCount W H_2073).int A_hq.1
        refine yG.load xik rfl (fun _ _ => rfl) (v := yI (a3)) rfl rfl ?_
        refine yG.ifz rfl (t := 251) rfl ⟨by omega, by omega⟩ (fun c1 => ?_) (fun c1 => ?_)
        · have c1 : (a3 : Int) < 0 := c1
          refine yG.load xak rfl (fun _ _ => rfl) (v := yR 2073) rfl rfl ?_
          refine yG.num (c := 261) rfl (fun _ _ => rfl) (by decide) ?_
          refine yG.load xik rfl (fun _ _ => rfl) (v := yI (p1)) rfl rfl ?_
          refine yG.load xik rfl (fun _ _ => rfl) (v := yI (p1)) rfl rfl ?_
          refine yG.num (c := 1) rfl (fun _ _ => rfl) (by decide) ?_
          refine yG.invV (rest := []) A_hq.1 (bOb (d_M W) H_2073) rfl rfl rfl rfl (r_plus W d A_hq.1 M_bRg_hq H_2073 (r := (261)) (p := (p1)) (q := (p1)) (t := (1)) (x := 310) ⟨by omega, by omega⟩ ⟨by omega, by omega⟩ ⟨by omega, by omega⟩ (by omega) (rc200_p1.mono (by omega)) (rc200_p1.mono (by omega)) (by decide) (bTb_ge (a := 261) (b := 262) (by decide) (by omega) (by omega))) (fun rv h2 q9 => ?_)
          obtain ⟨rfl, B_h2, M_bRg_h2, Y_h2, V_h2, S_h2⟩ := q9
          have A_h2 := A_hq.tr B_h2 (by decide)
          have : ys h2 2073 10 = ys hq 2073 10 := B_h2.ys H_2073 (by decide)
          show yG _ _ _ _ _ _ _ _ _ _ [] _
          refine yG.load xak rfl (fun _ _ => rfl) (v := yR 2073) rfl rfl ?_
          refine yG.num (c := 261) rfl (fun _ _ => rfl) (by decide) ?_
          refine yG.num (c := 260) rfl (fun _ _ => rfl) (by decide) ?_
          refine yG.invV (rest := []) A_h2.1 (bOb (d_M W) H_2073) rfl rfl rfl rfl (r_compareSizes W (d + 1) A_h2.1 M_bRg_h2 H_2073 (p := (261)) (q := (260)) ⟨by omega, by omega⟩ ⟨by omega, by omega⟩) (fun rv hp9 q9 => ?_)
          obtain ⟨e9, z3, rfl, g_z3⟩ := q9
          rw [e9]
          have l_z3 : -1 ≤ z3 ∧ z3 ≤ 1 := by unfold ysgn at g_z3; omega
          show yG _ _ _ _ _ _ _ _ _ _ (yI z3 :: []) _
          refine yG.ifz rfl (t := 284) rfl ⟨by omega, by omega⟩ (fun c4 => ?_) (fun c4 => ?_)
          · have c4 : (z3 : Int) ≤ 0 := c4
            refine yG.ret rfl (fun _ _ => rfl) ?_
            exact (yP.void ⟨⟨⟨rfl, trivial⟩, A_h2⟩, M_bRg_h2⟩)
          · have c4 : (z3 : Int) > 0 := c4
            refine yG.load xak rfl (fun _ _ => rfl) (v := yR 2073) rfl rfl ?_
            refine yG.load xik rfl (fun _ _ => rfl) (v := yI (p1)) rfl rfl ?_
            refine yG.load xik rfl (fun _ _ => rfl) (v := yI (p1)) rfl rfl ?_
            refine yG.num (c := 260) rfl (fun _ _ => rfl) (by decide) ?_
            refine yG.num (c := -1) rfl (fun _ _ => rfl) (by decide) ?_
            refine yG.invV (rest := []) A_h2.1 (bOb (d_M W) H_2073) rfl rfl rfl rfl (r_minus W d A_h2.1 M_bRg_h2 H_2073 (r := (p1)) (p := (p1)) (q := (260)) (x := 310) ⟨by omega, by omega⟩ ⟨by omega, by omega⟩ ⟨by omega, by omega⟩ ((rc200_p1.same W.y A_hq.1 (by omega) (S_h2 (p1 : Int).toNat (by omega) trivial)).mono (by omega)) ((rc200_260.same W.y A_hq.1 (by decide) (S_h2 260 (by omega) trivial)).mono (by omega)) (yPos W A_hq.1 (by omega) rd200_p1 (S_h2 (p1 : Int).toNat (by omega) trivial)) (yPos W A_hq.1 (by decide) rd200_260 (S_h2 260 (by omega) trivial)) (by decide) (bTb_ge (a := 148) (b := 184) (by decide) (by omega) (by omega))) (fun rv h5 q9 => ?_)
            obtain ⟨rfl, B_h5, M_bRg_h5, Y_h5, V_h5, S_h5⟩ := q9
            have A_h5 := A_h2.tr B_h5 (by decide)
            have : ys h5 2073 10 = ys h2 2073 10 := B_h5.ys H_2073 (by decide)
            show yG _ _ _ _ _ _ _ _ _ _ [] _
            refine yG.ret rfl (fun _ _ => rfl) ?_
            exact (yP.void ⟨⟨⟨rfl, trivial⟩, A_h5⟩, M_bRg_h5⟩)
        · have c1 : (a3 : Int) ≥ 0 := c1
          refine yG.load xak rfl (fun _ _ => rfl) (v := yR 2073) rfl rfl ?_
          refine yG.load xik rfl (fun _ _ => rfl) (v := yI (p1)) rfl rfl ?_
          refine yG.getS (c := 14) rfl rfl ?_
          refine yG.load xak rfl (fun _ _ => rfl) (v := yR 2073) rfl rfl ?_
          refine yG.getO A_hq.1 (w_M_used W H_2073) rfl rfl (fun r6 H_r6 O_r6 q_r6 => ?_)
          obtain rfl := u_M_used W H_r6
          refine yG.load xik rfl (fun _ _ => rfl) (v := yI (a3)) rfl rfl ?_
          refine yG.iald A_hq.1 (v_M_used W H_r6) rfl (by omega) (by omega) (fun z7 e_z7 i_z7 l_z7 u_z7 => ?_)
          refine yG.iald A_hq.1 (v_M_PRIME W (s_M_PRIME W)) rfl (by omega) (by omega) (fun z8 e_z8 i_z8 l_z8 u_z8 => ?_)
          refine yG.i2l rfl ⟨by omega, by omega⟩ ?_
          refine yG.load xak rfl (fun _ _ => rfl) (v := yR 2073) rfl rfl ?_
          refine yG.getO A_hq.1 (w_M_mixed W H_2073) rfl rfl (fun r9 H_r9 O_r9 q_r9 => ?_)
          obtain rfl := u_M_mixed W H_r9
          refine yG.load xik rfl (fun _ _ => rfl) (v := yI (a3)) rfl rfl ?_
          refine yG.lald A_hq.1 (v_M_mixed W H_r9) rfl (by omega) (by omega) (fun z10 e_z10 i_z10 l_z10 u_z10 => ?_)
          refine yG.invV (rest := []) A_hq.1 (bOb (d_M W) H_2073) rfl rfl rfl rfl (r_stretch W d A_hq.1 M_bRg_hq H_2073 (r := (p1)) (b := (z8)) (m := (z10)) (x := (31 * (gg0 - 1 - a3) : Int).toNat) ⟨by omega, by omega⟩ rc200_p1 ⟨by omega, by omega⟩ ⟨by omega, by omega⟩ (by omega) (Nat.le_trans (show (31 * (gg0 - 1 - a3) : Int).toNat + 31 ≤ 310 by omega) (bTb_ge (a := 148) (b := 184) (by decide) (by omega) (by omega)))) (fun rv h11 q9 => ?_)
          obtain ⟨rfl, B_h11, M_bRg_h11, Y_h11, V_h11, S_h11⟩ := q9
          have P_h11 : 0 ≤ yval h11 (p1 : Int).toNat := by rw [V_h11]; exact r_strpos W A_hq.1 (by omega) (by omega) (by omega)
          have A_h11 := A_hq.tr B_h11 (by decide)
          have : ys h11 2073 10 = ys hq 2073 10 := B_h11.ys H_2073 (by decide)
          have qq1 : zsl h11 2073 9 = yR 2082 := (B_h11.sl H_2073 (by decide)).trans q_r6
          have : ys h11 2082 (a3 : Int).toNat = ys hq 2082 (a3 : Int).toNat := B_h11.ys H_r6 (bNo_ok (by decide) _)
          have : ys h11 14 (z7 : Int).toNat = ys hq 14 (z7 : Int).toNat := B_h11.ys (s_M_PRIME W) (bNo_ok (by decide) _)
          show yG _ _ _ _ _ _ _ _ _ _ [] _
          refine yG.load xak rfl (fun _ _ => rfl) (v := yR 2073) rfl rfl ?_
          refine yG.num (c := 260) rfl (fun _ _ => rfl) (by decide) ?_
          refine yG.getS (c := 14) rfl rfl ?_
          refine yG.load xak rfl (fun _ _ => rfl) (v := yR 2073) rfl rfl ?_
          refine yG.getS9 A_h11.1 (w_M_used W H_2073) qq1 rfl rfl ?_
          refine yG.load xik rfl (fun _ _ => rfl) (v := yI (a3)) rfl rfl ?_
          refine yG.iald A_h11.1 (v_M_used W H_r6) rfl (by omega) (by omega) (fun z12 e_z12 i_z12 l_z12 u_z12 => ?_)
          rw [show (z12 : Int) = z7 by omega]
          refine yG.iald A_h11.1 (v_M_PRIME W (s_M_PRIME W)) rfl (by omega) (by omega) (fun z13 e_z13 i_z13 l_z13 u_z13 => ?_)
          rw [show (z13 : Int) = z8 by omega]
          refine yG.i2l rfl ⟨by omega, by omega⟩ ?_
          refine yG.numl (c := 0) rfl (fun _ _ => rfl) (by decide) ?_
          refine yG.invV (rest := []) A_h11.1 (bOb (d_M W) H_2073) rfl rfl rfl rfl (r_stretch W d A_h11.1 M_bRg_h11 H_2073 (r := (260)) (b := (z8)) (m := (0)) (x := (31 * (gg0 - 1 - a3) : Int).toNat) ⟨by omega, by omega⟩ (rc200_260.same W.y A_hq.1 (by decide) (S_h11 260 (by omega) trivial)) ⟨by omega, by omega⟩ ⟨by omega, by omega⟩ (by omega) (Nat.le_trans (show (31 * (gg0 - 1 - a3) : Int).toNat + 31 ≤ 7654 by omega) (bTb_ge (a := 260) (b := 261) (by decide) (by omega) (by omega)))) (fun rv h14 q9 => ?_)
          obtain ⟨rfl, B_h14, M_bRg_h14, Y_h14, V_h14, S_h14⟩ := q9
          have P_h14 : 0 ≤ yval h14 (260 : Int).toNat := by rw [V_h14]; exact r_strpos W A_h11.1 (by omega) (by omega) (by omega)
          have A_h14 := A_h11.tr B_h14 (by decide)
          have : ys h14 2073 10 = ys h11 2073 10 := B_h14.ys H_2073 (by decide)
          have qq2 : zsl h14 2073 9 = yR 2082 := (B_h14.sl H_2073 (by decide)).trans qq1
          have : ys h14 2082 (a3 : Int).toNat = ys h11 2082 (a3 : Int).toNat := B_h14.ys H_r6 (bNo_ok (by decide) _)
          have : ys h14 14 (z7 : Int).toNat = ys h11 14 (z7 : Int).toNat := B_h14.ys (s_M_PRIME W) (bNo_ok (by decide) _)
          show yG _ _ _ _ _ _ _ _ _ _ [] _
          refine yG.iinc rfl (a := a3) rfl (L' := [(3, yI (a3 + (-1))), (0, yR 2073), (1, yI (p1))]) rfl ?_
          refine yG.goto rfl (t := 200) rfl ?_
          exact yG.mono (yG.sub (i_200 (a3 + (-1)) (ys h14 2073 10) h14 A_h14 M_bRg_h14  rfl (by omega) (by omega) (by omega) (by omega) (by omega) (by omega) (by omega) (by omega) (by omega) ((Y_h11.same W.y A_h11.1 (by omega) (S_h14 (p1 : Int).toNat (by omega) trivial)).mono (by omega)) (yPos W A_h11.1 (by omega) P_h11 (S_h14 (p1 : Int).toNat (by omega) trivial)) (Y_h14.mono (by omega)) P_h14 (by omega)) (ySub.cons rfl (ySub.cons rfl (ySub.cons rfl (ySub.nil))))) (by omega)
  refine yC.of (M := (xt_X13_fromResidues, (10, (0, (14, []))))) rfl rfl (N := 13034) (yfuel (by decide)) ?_
  show yG 89 xfts (xcall 89 xfts xpools xms (d + 2)) (xpool xp_RX13) [] xt_X13_fromResidues (yP 0 (fun rv hp' => (fun rv hp' => (rv = none ∧ True) ∧ bAx G [(191242677893554771214035240797834575872, 256)] hp hp') rv hp' ∧ bRg G hp')) 13034 0 [(0, yR 2073), (1, yI (p1)), (2, yI (p2))] [] hp
  obtain ⟨i_2, i_40, i_102, i_200⟩ := H 342
  obtain ⟨gg0, E_0⟩ : ∃ z : Int, ys hp 2073 10 = z := ⟨_, rfl⟩
  obtain ⟨-, -, g_0l, g_0u⟩ := (w_M_usedCount W H_2073).int hT
  refine yG.num (c := 0) rfl (fun _ _ => rfl) (by decide) ?_
  refine yG.store1 xik (L' := [(3, yI (0)), (0, yR 2073), (1, yI (p1)), (2, yI (p2))]) rfl (fun _ _ => rfl) rfl rfl ?_
  exact yG.mono (yG.sub (i_2 (0) (ys hp 2073 10) hp A_hp M_bRg_hp  rfl (by omega) (by omega) (by omega) (by omega) (by omega) (by omega) (by omega) (by omega) (by omega) (by omega)) (ySub.cons rfl (ySub.cons rfl (ySub.cons rfl (ySub.cons rfl (ySub.nil)))))) (by omega)
theorem c_GModel_fromResidues_H {hp : xH} (W : mW G) (d : Nat) (hT : zTy G hp) (M_bRg : bRg G hp) (H_2073 : bRo G 116 2073) (p1 p2 : Int) (h1l : 3252 ≤ p1) (h1u : p1 ≤ 3411) (h2l : 0 ≤ p2) (h2u : p2 ≤ 179) (q0l : 1 ≤ ys hp 2073 10) (q0u : ys hp 2073 10 ≤ 7) : yC (xcall 89 xfts xpools xms (d + 3)) 408 [yR 2073, yI (p1), yI (p2)] hp (fun rv hp' => (fun rv hp' => (rv = none ∧ True) ∧ bAx G [(191242677893554771214035240797834575872, 256)] hp hp') rv hp' ∧ bRg G hp') := by
  have A_hp : bAx G [(191242677893554771214035240797834575872, 256)] hp hp := bAx.rf hT
  have M_bRg_hp := M_bRg
  have H : ∀ m : Nat, (∀ a3 : Int, ∀ gg0 : Int, ∀ hq, bAx G [(191242677893554771214035240797834575872, 256)] hp hq → bRg G hq → ys hq 2073 10 = gg0 → 0 ≤ a3 → (-7) ≤ 0 - a3 → 1 ≤ gg0 → (-7) ≤ 0 - gg0 → 3252 ≤ p1 → (-3411) ≤ 0 - p1 → 0 ≤ p2 → (-179) ≤ 0 - p2 → 0 ≤ 0 - a3 + gg0 → 0 - 22 * a3 + 175 < (m : Int) → yG 89 xfts (xcall 89 xfts xpools xms (d + 2)) (xpool xp_RX13) [] xt_X13_fromResidues (yP 0 (fun rv hp' => (fun rv hp' => (rv = none ∧ True) ∧ bAx G [(191242677893554771214035240797834575872, 256)] hp hp') rv hp' ∧ bRg G hp')) (38 * m) 2 [(0, yR 2073), (1, yI (p1)), (2, yI (p2)), (3, yI (a3))] [] hq) ∧ (∀ a3 : Int, ∀ a4 : Int, ∀ a6 : Int, ∀ a8 : Int, ∀ gg0 : Int, ∀ hq, bAx G [(191242677893554771214035240797834575872, 256)] hp hq → bRg G hq → ys hq 2073 10 = gg0 → 0 ≤ a3 → (-6) ≤ 0 - a3 → 2147482801 ≤ a4 → (-2147483647) ≤ 0 - a4 → 0 ≤ a6 → (-2147483647) ≤ 0 - a6 → 0 ≤ a8 → (-6) ≤ 0 - a8 → 1 ≤ gg0 → (-7) ≤ 0 - gg0 → 3252 ≤ p1 → (-3411) ≤ 0 - p1 → 0 ≤ p2 → (-179) ≤ 0 - p2 → 0 ≤ a3 - a8 → 1 ≤ 0 - a3 + gg0 → 0 - 22 * a3 - 3 * a8 + 174 < (m : Int) → yG 89 xfts (xcall 89 xfts xpools xms (d + 2)) (xpool xp_RX13) [] xt_X13_fromResidues (yP 0 (fun rv hp' => (fun rv hp' => (rv = none ∧ True) ∧ bAx G [(191242677893554771214035240797834575872, 256)] hp hp') rv hp' ∧ bRg G hp')) (38 * m) 40 [(0, yR 2073), (1, yI (p1)), (2, yI (p2)), (3, yI (a3)), (4, yJ (a4)), (6, yJ (a6)), (8, yI (a8))] [] hq) ∧ (∀ a3 : Int, ∀ a4 : Int, ∀ a6 : Int, ∀ a8 : Int, ∀ a9 : Int, ∀ gg0 : Int, ∀ hq, bAx G [(191242677893554771214035240797834575872, 256)] hp hq → bRg G hq → ys hq 2073 10 = gg0 → 1 ≤ a3 → (-6) ≤ 0 - a3 → 2147482801 ≤ a4 → (-2147483647) ≤ 0 - a4 → 0 ≤ a6 → (-2147483647) ≤ 0 - a6 → 0 ≤ a8 → (-5) ≤ 0 - a8 → 0 ≤ a9 → (-1599) ≤ 0 - a9 → 2 ≤ gg0 → (-7) ≤ 0 - gg0 → 3252 ≤ p1 → (-3411) ≤ 0 - p1 → 0 ≤ p2 → (-179) ≤ 0 - p2 → 1 ≤ a3 - a8 → 1 ≤ 0 - a3 + gg0 → 0 - 22 * a3 - 3 * a8 + 173 < (m : Int) → yG 89 xfts (xcall 89 xfts xpools xms (d + 2)) (xpool xp_RX13) [] xt_X13_fromResidues (yP 0 (fun rv hp' => (fun rv hp' => (rv = none ∧ True) ∧ bAx G [(191242677893554771214035240797834575872, 256)] hp hp') rv hp' ∧ bRg G hp')) (38 * m) 102 [(0, yR 2073), (1, yI (p1)), (2, yI (p2)), (3, yI (a3)), (4, yJ (a4)), (6, yJ (a6)), (8, yI (a8)), (9, yI (a9))] [] hq) ∧ (∀ a3 : Int, ∀ gg0 : Int, ∀ hq, bAx G [(191242677893554771214035240797834575872, 256)] hp hq → bRg G hq → ys hq 2073 10 = gg0 → (-1) ≤ a3 → (-5) ≤ 0 - a3 → 1 ≤ gg0 → (-7) ≤ 0 - gg0 → 3252 ≤ p1 → (-3411) ≤ 0 - p1 → 0 ≤ p2 → (-179) ≤ 0 - p2 → 2 ≤ 0 - a3 + gg0 → yBd hq (p1 : Int).toNat ((31 * (gg0 - 1 - a3) : Int).toNat) → 0 ≤ yval hq (p1 : Int).toNat → yBd hq 260 ((31 * (gg0 - 1 - a3) : Int).toNat) → 0 ≤ yval hq 260 → 2 * a3 + 3 < (m : Int) → yG 89 xfts (xcall 89 xfts xpools xms (d + 2)) (xpool xp_RX13) [] xt_X13_fromResidues (yP 0 (fun rv hp' => (fun rv hp' => (rv = none ∧ True) ∧ bAx G [(191242677893554771214035240797834575872, 256)] hp hp') rv hp' ∧ bRg G hp')) (38 * m) 200 [(0, yR 2073), (1, yI (p1)), (3, yI (a3))] [] hq) := by
    intro m
    induction m with
    | zero =>
      refine ⟨?_, ?_, ?_, ?_⟩ <;> (intros; exfalso; omega)
    | succ m ih =>
      obtain ⟨i_2, i_40, i_102, i_200⟩ := ih
      refine ⟨?_, ?_, ?_, ?_⟩
      · intro a3 gg0 hq A_hq M_bRg_hq E_0 f0 f1 f2 f3 f4 f5 f6 f7 f8 hm
        refine yG.mono (N := 38 * m + 38) ?_ (by omega)
        obtain ⟨-, -, g_0l, g_0u⟩ := (w_M_usedCount W H_2073).int A_hq.1
        refine yG.load xik rfl (fun _ _ => rfl) (v := yI (a3)) rfl rfl ?_
        refine yG.load xak rfl (fun _ _ => rfl) (v := yR 2073) rfl rfl ?_
        refine yG.getI A_hq.1 (w_M_usedCount W H_2073) rfl rfl (fun z1 e_z1 i_z1 l_z1 u_z1 => ?_)
        rw [show (z1 : Int) = gg0 by omega]
        refine yG.icmp rfl (t := 154) rfl ⟨by omega, by omega⟩ ⟨by omega, by omega⟩ (fun c2 => ?_) (fun c2 => ?_)
        · have c2 : (a3 : Int) ≥ gg0 := c2
          refine yG.load xak rfl (fun _ _ => rfl) (v := yR 2073) rfl rfl ?_
          refine yG.load xik rfl (fun _ _ => rfl) (v := yI (p1)) rfl rfl ?_
          refine yG.load xak rfl (fun _ _ => rfl) (v := yR 2073) rfl rfl ?_
          refine yG.getO A_hq.1 (w_M_mixed W H_2073) rfl rfl (fun r3 H_r3 O_r3 q_r3 => ?_)
          obtain rfl := u_M_mixed W H_r3
          refine yG.load xak rfl (fun _ _ => rfl) (v := yR 2073) rfl rfl ?_
          refine yG.getI A_hq.1 (w_M_usedCount W H_2073) rfl rfl (fun z4 e_z4 i_z4 l_z4 u_z4 => ?_)
          rw [show (z4 : Int) = gg0 by omega]
          refine yG.num (c := 1) rfl (fun _ _ => rfl) (by decide) ?_
          refine yG.isub rfl ?_
          refine yG.lald A_hq.1 (v_M_mixed W H_r3) rfl (by omega) (by omega) (fun z5 e_z5 i_z5 l_z5 u_z5 => ?_)
          refine yG.invV (rest := []) A_hq.1 (bOb (d_M W) H_2073) rfl rfl rfl rfl (r_put W (d + 1) A_hq.1 M_bRg_hq H_2073 (r := (p1)) (v := (z5)) (x := 31) ⟨by omega, by omega⟩ (yEb (c := 2147483648) (by decide) (by omega) (by omega)) (by decide) (bTb_ge (a := 3252) (b := 3412) (by decide) (by omega) (by omega))) (fun rv h6 q9 => ?_)
          obtain ⟨rfl, B_h6, M_bRg_h6, Y_h6, V_h6, S_h6⟩ := q9
          have P_h6 : 0 ≤ yval h6 (p1 : Int).toNat := by rw [V_h6]; omega
          have A_h6 := A_hq.tr B_h6 (by decide)
          have : ys h6 2073 10 = ys hq 2073 10 := B_h6.ys H_2073 (by decide)
          show yG _ _ _ _ _ _ _ _ _ _ [] _
          refine yG.load xak rfl (fun _ _ => rfl) (v := yR 2073) rfl rfl ?_
          refine yG.num (c := 260) rfl (fun _ _ => rfl) (by decide) ?_
          refine yG.getS (c := 14) rfl rfl ?_
          refine yG.load xak rfl (fun _ _ => rfl) (v := yR 2073) rfl rfl ?_
          refine yG.getO A_h6.1 (w_M_used W H_2073) rfl rfl (fun r7 H_r7 O_r7 q_r7 => ?_)
          obtain rfl := u_M_used W H_r7
          refine yG.load xak rfl (fun _ _ => rfl) (v := yR 2073) rfl rfl ?_
          refine yG.getI A_h6.1 (w_M_usedCount W H_2073) rfl rfl (fun z8 e_z8 i_z8 l_z8 u_z8 => ?_)
          rw [show (z8 : Int) = gg0 by omega]
          refine yG.num (c := 1) rfl (fun _ _ => rfl) (by decide) ?_
          refine yG.isub rfl ?_
          refine yG.iald A_h6.1 (v_M_used W H_r7) rfl (by omega) (by omega) (fun z9 e_z9 i_z9 l_z9 u_z9 => ?_)
          refine yG.iald A_h6.1 (v_M_PRIME W (s_M_PRIME W)) rfl (by omega) (by omega) (fun z10 e_z10 i_z10 l_z10 u_z10 => ?_)
          refine yG.i2l rfl ⟨by omega, by omega⟩ ?_
          refine yG.invV (rest := []) A_h6.1 (bOb (d_M W) H_2073) rfl rfl rfl rfl (r_put W (d + 1) A_h6.1 M_bRg_h6 H_2073 (r := (260)) (v := (z10)) (x := 31) ⟨by omega, by omega⟩ (yEb (c := 2147483648) (by decide) (by omega) (by omega)) (by decide) (bTb_ge (a := 260) (b := 261) (by decide) (by omega) (by omega))) (fun rv h11 q9 => ?_)
          obtain ⟨rfl, B_h11, M_bRg_h11, Y_h11, V_h11, S_h11⟩ := q9
          have P_h11 : 0 ≤ yval h11 (260 : Int).toNat := by rw [V_h11]; omega
          have A_h11 := A_h6.tr B_h11 (by decide)
          have : ys h11 2073 10 = ys h6 2073 10 := B_h11.ys H_2073 (by decide)
          show yG _ _ _ _ _ _ _ _ _ _ [] _
          refine yG.load xak rfl (fun _ _ => rfl) (v := yR 2073) rfl rfl ?_
          refine yG.getI A_h11.1 (w_M_usedCount W H_2073) rfl rfl (fun z12 e_z12 i_z12 l_z12 u_z12 => ?_)
          rw [show (z12 : Int) = gg0 by omega]
          refine yG.num (c := 2) rfl (fun _ _ => rfl) (by decide) ?_
          refine yG.isub rfl ?_
          obtain ⟨z13, e_z13⟩ : ∃ z : Int, z = gg0 - 2 := ⟨_, rfl⟩
          rw [← e_z13]
          refine yG.store1 xik (L' := [(3, yI (z13)), (0, yR 2073), (1, yI (p1)), (2, yI (p2))]) rfl (fun _ _ => rfl) rfl rfl ?_
          exact yG.mono (yG.sub (i_200 (z13) (ys h11 2073 10) h11 A_h11 M_bRg_h11  rfl (by omega) (by omega) (by omega) (by omega) (by omega) (by omega) (by omega) (by omega) (by omega) ((Y_h6.same W.y A_h6.1 (by omega) (S_h11 (p1 : Int).toNat (by omega) trivial)).mono (by omega)) (yPos W A_h6.1 (by omega) P_h6 (S_h11 (p1 : Int).toNat (by omega) trivial)) (Y_h11.mono (by omega)) P_h11 (by omega)) (ySub.cons rfl (ySub.cons rfl (ySub.cons rfl (ySub.nil))))) (by omega)
        · have c2 : (a3 : Int) < gg0 := c2
          refine yG.getS (c := 14) rfl rfl ?_
          refine yG.load xak rfl (fun _ _ => rfl) (v := yR 2073) rfl rfl ?_
          refine yG.getO A_hq.1 (w_M_used W H_2073) rfl rfl (fun r14 H_r14 O_r14 q_r14 => ?_)
          obtain rfl := u_M_used W H_r14
          refine yG.load xik rfl (fun _ _ => rfl) (v := yI (a3)) rfl rfl ?_
          refine yG.iald A_hq.1 (v_M_used W H_r14) rfl (by omega) (by omega) (fun z15 e_z15 i_z15 l_z15 u_z15 => ?_)
          refine yG.iald A_hq.1 (v_M_PRIME W (s_M_PRIME W)) rfl (by omega) (by omega) (fun z16 e_z16 i_z16 l_z16 u_z16 => ?_)
          refine yG.i2l rfl ⟨by omega, by omega⟩ ?_
          refine yG.store2 xlk2 (L' := [(4, yJ (z16)), (0, yR 2073), (1, yI (p1)), (2, yI (p2)), (3, yI (a3))]) rfl (fun _ _ => rfl) rfl rfl ?_
          refine yG.load xak rfl (fun _ _ => rfl) (v := yR 2073) rfl rfl ?_
          refine yG.getO A_hq.1 (w_M_residue W H_2073) rfl rfl (fun r17 H_r17 O_r17 q_r17 => ?_)
          obtain rfl := u_M_residue W H_r17
          refine yG.num (c := 180) rfl (fun _ _ => rfl) (by decide) ?_
          refine yG.load xik rfl (fun _ _ => rfl) (v := yI (a3)) rfl rfl ?_
          refine yG.imul rfl ?_
          refine yG.load xik rfl (fun _ _ => rfl) (v := yI (p2)) rfl rfl ?_
          refine yG.iadd rfl ?_
          refine yG.lald A_hq.1 (v_M_residue W H_r17) rfl (by omega) (by omega) (fun z18 e_z18 i_z18 l_z18 u_z18 => ?_)
          refine yG.store2 xlk2 (L' := [(6, yJ (z18)), (4, yJ (z16)), (0, yR 2073), (1, yI (p1)), (2, yI (p2)), (3, yI (a3))]) rfl (fun _ _ => rfl) rfl rfl ?_
          refine yG.num (c := 0) rfl (fun _ _ => rfl) (by decide) ?_
          refine yG.store1 xik (L' := [(8, yI (0)), (6, yJ (z18)), (4, yJ (z16)), (0, yR 2073), (1, yI (p1)), (2, yI (p2)), (3, yI (a3))]) rfl (fun _ _ => rfl) rfl rfl ?_
          exact yG.mono (yG.sub (i_40 (a3) (z16) (z18) (0) (ys hq 2073 10) hq A_hq M_bRg_hq  rfl (by omega) (by omega) (by omega) (by omega) (by omega) (by omega) (by omega) (by omega) (by omega) (by omega) (by omega) (by omega) (by omega) (by omega) (by omega) (by omega) (by omega)) (ySub.cons rfl (ySub.cons rfl (ySub.cons rfl (ySub.cons rfl (ySub.cons rfl (ySub.cons rfl (ySub.cons rfl (ySub.nil))))))))) (by omega)
      · intro a3 a4 a6 a8 gg0 hq A_hq M_bRg_hq E_0 f0 f1 f2 f3 f4 f5 f6 f7 f8 f9 f10 f11 f12 f13 f14 f15 hm
        refine yG.mono (N := 38 * m + 38) ?_ (by omega)
        obtain ⟨-, -, g_0l, g_0u⟩ := (w_M_usedCount W H_2073).int A_hq.1
        refine yG.load xik rfl (fun _ _ => rfl) (v := yI (a8)) rfl rfl ?_
        refine yG.load xik rfl (fun _ _ => rfl) (v := yI (a3)) rfl rfl ?_
        refine yG.icmp rfl (t := 140) rfl ⟨by omega, by omega⟩ ⟨by omega, by omega⟩ (fun c1 => ?_) (fun c1 => ?_)
        · have c1 : (a8 : Int) ≥ a3 := c1
          refine yG.load xak rfl (fun _ _ => rfl) (v := yR 2073) rfl rfl ?_
          refine yG.getO A_hq.1 (w_M_mixed W H_2073) rfl rfl (fun r2 H_r2 O_r2 q_r2 => ?_)
          obtain rfl := u_M_mixed W H_r2
          refine yG.load xik rfl (fun _ _ => rfl) (v := yI (a3)) rfl rfl ?_
          refine yG.load xlk2 rfl (fun _ _ => rfl) (v := yJ (a6)) rfl rfl ?_
          refine yG.last A_hq.1 (v_M_mixed W H_r2) (W.2.1 _ _ H_r2 (by decide) (by decide)) rfl (by omega) (by omega) ⟨by omega, by omega⟩ (by omega) (by omega) (fun h3 T_h3 b_h3 f_h3 y_h3 => ?_)
          have M_bRg_h3 := M_bRg_hq.fr (bAx.put (Wl := [(170141183460469231731687303715884105728, 256)]) (bAx.rf A_hq.1) T_h3 b_h3 f_h3 H_r2 (bAll_ok (by decide) _)) (by decide)
          have A_h3 := A_hq.put T_h3 b_h3 f_h3 H_r2 (bAll_ok (by decide) _)
          have : ys h3 2073 10 = ys hq 2073 10 := (y_h3 2073 10).trans (if_neg (fun e => (bRo.ne H_2073 H_r2 (by decide)) e.1))
          refine yG.iinc rfl (a := a3) rfl (L' := [(3, yI (a3 + 1)), (0, yR 2073), (1, yI (p1)), (2, yI (p2)), (4, yJ (a4)), (6, yJ (a6)), (8, yI (a8))]) rfl ?_
          refine yG.goto rfl (t := 2) rfl ?_
          exact yG.mono (yG.sub (i_2 (a3 + 1) (ys h3 2073 10) h3 A_h3 M_bRg_h3  rfl (by omega) (by omega) (by omega) (by omega) (by omega) (by omega) (by omega) (by omega) (by omega) (by omega)) (ySub.cons rfl (ySub.cons rfl (ySub.cons rfl (ySub.cons rfl (ySub.nil)))))) (by omega)
        · have c1 : (a8 : Int) < a3 := c1
          refine yG.num (c := 40) rfl (fun _ _ => rfl) (by decide) ?_
          refine yG.load xak rfl (fun _ _ => rfl) (v := yR 2073) rfl rfl ?_
          refine yG.getO A_hq.1 (w_M_used W H_2073) rfl rfl (fun r4 H_r4 O_r4 q_r4 => ?_)
          obtain rfl := u_M_used W H_r4
          refine yG.load xik rfl (fun _ _ => rfl) (v := yI (a8)) rfl rfl ?_
          refine yG.iald A_hq.1 (v_M_used W H_r4) rfl (by omega) (by omega) (fun z5 e_z5 i_z5 l_z5 u_z5 => ?_)
          refine yG.imul rfl ?_
          refine yG.load xak rfl (fun _ _ => rfl) (v := yR 2073) rfl rfl ?_
          refine yG.getS9 A_hq.1 (w_M_used W H_2073) q_r4 rfl rfl ?_
          refine yG.load xik rfl (fun _ _ => rfl) (v := yI (a3)) rfl rfl ?_
          refine yG.iald A_hq.1 (v_M_used W H_r4) rfl (by omega) (by omega) (fun z6 e_z6 i_z6 l_z6 u_z6 => ?_)
          refine yG.iadd rfl ?_
          obtain ⟨z7, e_z7⟩ : ∃ z : Int, z = (40 * z5) + z6 := ⟨_, rfl⟩
          rw [← e_z7]
          refine yG.store1 xik (L' := [(9, yI (z7)), (0, yR 2073), (1, yI (p1)), (2, yI (p2)), (3, yI (a3)), (4, yJ (a4)), (6, yJ (a6)), (8, yI (a8))]) rfl (fun _ _ => rfl) rfl rfl ?_
          refine yG.load xak rfl (fun _ _ => rfl) (v := yR 2073) rfl rfl ?_
          refine yG.getO A_hq.1 (w_M_inverseOf W H_2073) rfl rfl (fun r8 H_r8 O_r8 q_r8 => ?_)
          obtain rfl := u_M_inverseOf W H_r8
          refine yG.load xik rfl (fun _ _ => rfl) (v := yI (z7)) rfl rfl ?_
          refine yG.lald A_hq.1 (v_M_inverseOf W H_r8) rfl (by omega) (by omega) (fun z9 e_z9 i_z9 l_z9 u_z9 => ?_)
          refine yG.numl (c := 0) rfl (fun _ _ => rfl) (by decide) ?_
          refine yG.lcmp rfl ⟨by omega, by omega⟩ ⟨by omega, by omega⟩ (fun z10 e_z10 => ?_)
          refine yG.ifz rfl (t := 102) rfl ⟨by omega, by omega⟩ (fun c11 => ?_) (fun c11 => ?_)
          · have c11 : (z10 : Int) ≠ 0 := c11
            exact yG.mono (yG.sub (i_102 (a3) (a4) (a6) (a8) (z7) (ys hq 2073 10) hq A_hq M_bRg_hq  rfl (by omega) (by omega) (by omega) (by omega) (by omega) (by omega) (by omega) (by omega) (by omega) (by omega) (by omega) (by omega) (by omega) (by omega) (by omega) (by omega) (by omega) (by omega) (by omega)) (ySub.cons rfl (ySub.cons rfl (ySub.cons rfl (ySub.cons rfl (ySub.cons rfl (ySub.cons rfl (ySub.cons rfl (ySub.cons rfl (ySub.nil)))))))))) (by omega)
          · have c11 : (z10 : Int) = 0 := c11
            refine yG.load xak rfl (fun _ _ => rfl) (v := yR 2073) rfl rfl ?_
            refine yG.getS9 A_hq.1 (w_M_inverseOf W H_2073) q_r8 rfl rfl ?_
            refine yG.load xik rfl (fun _ _ => rfl) (v := yI (z7)) rfl rfl ?_
            refine yG.load xak rfl (fun _ _ => rfl) (v := yR 2073) rfl rfl ?_
            refine yG.getS (c := 14) rfl rfl ?_
            refine yG.load xak rfl (fun _ _ => rfl) (v := yR 2073) rfl rfl ?_
            refine yG.getS9 A_hq.1 (w_M_used W H_2073) q_r4 rfl rfl ?_
            refine yG.load xik rfl (fun _ _ => rfl) (v := yI (a8)) rfl rfl ?_
            refine yG.iald A_hq.1 (v_M_used W H_r4) rfl (by omega) (by omega) (fun z12 e_z12 i_z12 l_z12 u_z12 => ?_)
            rw [show (z12 : Int) = z5 by omega]
            refine yG.iald A_hq.1 (v_M_PRIME W (s_M_PRIME W)) rfl (by omega) (by omega) (fun z13 e_z13 i_z13 l_z13 u_z13 => ?_)
            refine yG.i2l rfl ⟨by omega, by omega⟩ ?_
            refine yG.load xlk2 rfl (fun _ _ => rfl) (v := yJ (a4)) rfl rfl ?_
            refine yG.invV (rest := [yI (z7), yR 2080]) A_hq.1 (bOb (d_M W) H_2073) rfl rfl rfl rfl (c_GModel_inverse W (d + 1) A_hq.1 H_2073 (z13) (a4) (by omega) (by omega) (by omega) (by omega)) (fun rv hp9 q9 => ?_)
            obtain ⟨⟨z14, rfl, l_z14, u_z14, R_z14⟩, e9⟩ := q9
            rw [e9]
            show yG _ _ _ _ _ _ _ _ _ _ (yJ z14 :: [yI (z7), yR 2080]) _
            refine yG.last A_hq.1 (v_M_inverseOf W H_r8) (W.2.1 _ _ H_r8 (by decide) (by decide)) rfl (by omega) (by omega) ⟨by omega, by omega⟩ (by omega) (by omega) (fun h15 T_h15 b_h15 f_h15 y_h15 => ?_)
            have M_bRg_h15 := M_bRg_hq.fr (bAx.put (Wl := [(10633823966279326983230456482242756608, 256)]) (bAx.rf A_hq.1) T_h15 b_h15 f_h15 H_r8 (bAll_ok (by decide) _)) (by decide)
            have A_h15 := A_hq.put T_h15 b_h15 f_h15 H_r8 (bAll_ok (by decide) _)
            have : ys h15 2073 10 = ys hq 2073 10 := (y_h15 2073 10).trans (if_neg (fun e => (bRo.ne H_2073 H_r8 (by decide)) e.1))
            have qq1 : zsl h15 2073 9 = yR 2082 := ((f_h15 2073 9).trans (if_neg (fun e => (bRo.ne H_2073 H_r8 (by decide)) e.1))).trans q_r4
            have : ys h15 2082 (a8 : Int).toNat = ys hq 2082 (a8 : Int).toNat := (y_h15 2082 (a8 : Int).toNat).trans (if_neg (fun e => (bRo.ne H_r4 H_r8 (by decide)) e.1))
            have qq2 : zsl h15 2073 7 = yR 2080 := ((f_h15 2073 7).trans (if_neg (fun e => (bRo.ne H_2073 H_r8 (by decide)) e.1))).trans q_r8
            exact yG.mono (yG.sub (i_102 (a3) (a4) (a6) (a8) (z7) (ys h15 2073 10) h15 A_h15 M_bRg_h15  rfl (by omega) (by omega) (by omega) (by omega) (by omega) (by omega) (by omega) (by omega) (by omega) (by omega) (by omega) (by omega) (by omega) (by omega) (by omega) (by omega) (by omega) (by omega) (by omega)) (ySub.cons rfl (ySub.cons rfl (ySub.cons rfl (ySub.cons rfl (ySub.cons rfl (ySub.cons rfl (ySub.cons rfl (ySub.cons rfl (ySub.nil)))))))))) (by omega)
      · intro a3 a4 a6 a8 a9 gg0 hq A_hq M_bRg_hq E_0 f0 f1 f2 f3 f4 f5 f6 f7 f8 f9 f10 f11 f12 f13 f14 f15 f16 f17 hm
        refine yG.mono (N := 38 * m + 38) ?_ (by omega)
        obtain ⟨-, -, g_0l, g_0u⟩ := (w_M_usedCount W H_2073).int A_hq.1
        refine yG.load xlk2 rfl (fun _ _ => rfl) (v := yJ (a6)) rfl rfl ?_
        refine yG.load xak rfl (fun _ _ => rfl) (v := yR 2073) rfl rfl ?_
        refine yG.getO A_hq.1 (w_M_mixed W H_2073) rfl rfl (fun r1 H_r1 O_r1 q_r1 => ?_)
        obtain rfl := u_M_mixed W H_r1
        refine yG.load xik rfl (fun _ _ => rfl) (v := yI (a8)) rfl rfl ?_
        refine yG.lald A_hq.1 (v_M_mixed W H_r1) rfl (by omega) (by omega) (fun z2 e_z2 i_z2 l_z2 u_z2 => ?_)
        refine yG.load xlk2 rfl (fun _ _ => rfl) (v := yJ (a4)) rfl rfl ?_
        refine yG.lrem rfl ⟨by omega, by omega⟩ ⟨by omega, by omega⟩ (by omega) (by omega) ?_
        obtain ⟨z3, e_z3⟩ : ∃ z : Int, z = (z2) % (a4) := ⟨_, rfl⟩
        rw [← e_z3]
        have b_z3 : 0 ≤ z3 ∧ z3 < a4 := e_z3 ▸ ⟨Int.emod_nonneg _ (by omega), Int.emod_lt_of_pos _ (by omega)⟩
        refine yG.lsub rfl ?_
        refine yG.load xlk2 rfl (fun _ _ => rfl) (v := yJ (a4)) rfl rfl ?_
        refine yG.ladd rfl ?_
        refine yG.load xlk2 rfl (fun _ _ => rfl) (v := yJ (a4)) rfl rfl ?_
        refine yG.lrem rfl ⟨by omega, by omega⟩ ⟨by omega, by omega⟩ (by omega) (by omega) ?_
        obtain ⟨z4, e_z4⟩ : ∃ z : Int, z = ((a6 - z3) + a4) % (a4) := ⟨_, rfl⟩
        rw [← e_z4]
        have b_z4 : 0 ≤ z4 ∧ z4 < a4 := e_z4 ▸ ⟨Int.emod_nonneg _ (by omega), Int.emod_lt_of_pos _ (by omega)⟩
        refine yG.load xak rfl (fun _ _ => rfl) (v := yR 2073) rfl rfl ?_
        refine yG.getO A_hq.1 (w_M_inverseOf W H_2073) rfl rfl (fun r5 H_r5 O_r5 q_r5 => ?_)
        obtain rfl := u_M_inverseOf W H_r5
        refine yG.load xik rfl (fun _ _ => rfl) (v := yI (a9)) rfl rfl ?_
        refine yG.lald A_hq.1 (v_M_inverseOf W H_r5) rfl (by omega) (by omega) (fun z6 e_z6 i_z6 l_z6 u_z6 => ?_)
        refine yG.lmul rfl ?_
        obtain ⟨z7, e_z7⟩ : ∃ z : Int, z = z4 * z6 := ⟨_, rfl⟩
        rw [← e_z7]
        have b_z7 : 0 ≤ z7 ∧ z7 ≤ 4611686011984936962 := e_z7 ▸ ymulb (A := 2147483646) (B := 2147483647) (by omega) (by omega) (by omega) (by omega) (by decide)
        have b2_z7 : z7 ≤ 2147483646 * z6 := e_z7 ▸ bmulx (by omega) (by omega)
        have b3_z7 : z7 ≤ 2147483647 * z4 := e_z7 ▸ bmuly (by omega) (by omega)
        refine yG.load xlk2 rfl (fun _ _ => rfl) (v := yJ (a4)) rfl rfl ?_
        refine yG.lrem rfl ⟨by omega, by omega⟩ ⟨by omega, by omega⟩ (by omega) (by omega) ?_
        obtain ⟨z8, e_z8⟩ : ∃ z : Int, z = (z7) % (a4) := ⟨_, rfl⟩
        rw [← e_z8]
        have b_z8 : 0 ≤ z8 ∧ z8 < a4 := e_z8 ▸ ⟨Int.emod_nonneg _ (by omega), Int.emod_lt_of_pos _ (by omega)⟩
        refine yG.store2 xlk2 (L' := [(6, yJ (z8)), (0, yR 2073), (1, yI (p1)), (2, yI (p2)), (3, yI (a3)), (4, yJ (a4)), (8, yI (a8)), (9, yI (a9))]) rfl (fun _ _ => rfl) rfl rfl ?_
        refine yG.iinc rfl (a := a8) rfl (L' := [(8, yI (a8 + 1)), (6, yJ (z8)), (0, yR 2073), (1, yI (p1)), (2, yI (p2)), (3, yI (a3)), (4, yJ (a4)), (9, yI (a9))]) rfl ?_
        refine yG.goto rfl (t := 40) rfl ?_
        exact yG.mono (yG.sub (i_40 (a3) (a4) (z8) (a8 + 1) (ys hq 2073 10) hq A_hq M_bRg_hq  rfl (by omega) (by omega) (by omega) (by omega) (by omega) (by omega) (by omega) (by omega) (by omega) (by omega) (by omega) (by omega) (by omega) (by omega) (by omega) (by omega) (by omega)) (ySub.cons rfl (ySub.cons rfl (ySub.cons rfl (ySub.cons rfl (ySub.cons rfl (ySub.cons rfl (ySub.cons rfl (ySub.nil))))))))) (by omega)
      · intro a3 gg0 hq A_hq M_bRg_hq E_0 f0 f1 f2 f3 f4 f5 f6 f7 f8 rc200_p1 rd200_p1 rc200_260 rd200_260 hm
        refine yG.mono (N := 38 * m + 38) ?_ (by omega)
        obtain ⟨-, -, g_0l, g_0u⟩ := (w_M_usedCount W H_2073).int A_hq.1
        refine yG.load xik rfl (fun _ _ => rfl) (v := yI (a3)) rfl rfl ?_
        refine yG.ifz rfl (t := 251) rfl ⟨by omega, by omega⟩ (fun c1 => ?_) (fun c1 => ?_)
        · have c1 : (a3 : Int) < 0 := c1
          refine yG.load xak rfl (fun _ _ => rfl) (v := yR 2073) rfl rfl ?_
          refine yG.num (c := 261) rfl (fun _ _ => rfl) (by decide) ?_
          refine yG.load xik rfl (fun _ _ => rfl) (v := yI (p1)) rfl rfl ?_
          refine yG.load xik rfl (fun _ _ => rfl) (v := yI (p1)) rfl rfl ?_
          refine yG.num (c := 1) rfl (fun _ _ => rfl) (by decide) ?_
          refine yG.invV (rest := []) A_hq.1 (bOb (d_M W) H_2073) rfl rfl rfl rfl (r_plus W d A_hq.1 M_bRg_hq H_2073 (r := (261)) (p := (p1)) (q := (p1)) (t := (1)) (x := 217) ⟨by omega, by omega⟩ ⟨by omega, by omega⟩ ⟨by omega, by omega⟩ (by omega) (rc200_p1.mono (by omega)) (rc200_p1.mono (by omega)) (by decide) (bTb_ge (a := 261) (b := 262) (by decide) (by omega) (by omega))) (fun rv h2 q9 => ?_)
          obtain ⟨rfl, B_h2, M_bRg_h2, Y_h2, V_h2, S_h2⟩ := q9
          have A_h2 := A_hq.tr B_h2 (by decide)
          have : ys h2 2073 10 = ys hq 2073 10 := B_h2.ys H_2073 (by decide)
          show yG _ _ _ _ _ _ _ _ _ _ [] _
          refine yG.load xak rfl (fun _ _ => rfl) (v := yR 2073) rfl rfl ?_
          refine yG.num (c := 261) rfl (fun _ _ => rfl) (by decide) ?_
          refine yG.num (c := 260) rfl (fun _ _ => rfl) (by decide) ?_
          refine yG.invV (rest := []) A_h2.1 (bOb (d_M W) H_2073) rfl rfl rfl rfl (r_compareSizes W (d + 1) A_h2.1 M_bRg_h2 H_2073 (p := (261)) (q := (260)) ⟨by omega, by omega⟩ ⟨by omega, by omega⟩) (fun rv hp9 q9 => ?_)
          obtain ⟨e9, z3, rfl, g_z3⟩ := q9
          rw [e9]
          have l_z3 : -1 ≤ z3 ∧ z3 ≤ 1 := by unfold ysgn at g_z3; omega
          show yG _ _ _ _ _ _ _ _ _ _ (yI z3 :: []) _
          refine yG.ifz rfl (t := 284) rfl ⟨by omega, by omega⟩ (fun c4 => ?_) (fun c4 => ?_)
          · have c4 : (z3 : Int) ≤ 0 := c4
            refine yG.ret rfl (fun _ _ => rfl) ?_
            exact (yP.void ⟨⟨⟨rfl, trivial⟩, A_h2⟩, M_bRg_h2⟩)
          · have c4 : (z3 : Int) > 0 := c4
            refine yG.load xak rfl (fun _ _ => rfl) (v := yR 2073) rfl rfl ?_
            refine yG.load xik rfl (fun _ _ => rfl) (v := yI (p1)) rfl rfl ?_
            refine yG.load xik rfl (fun _ _ => rfl) (v := yI (p1)) rfl rfl ?_
            refine yG.num (c := 260) rfl (fun _ _ => rfl) (by decide) ?_
            refine yG.num (c := -1) rfl (fun _ _ => rfl) (by decide) ?_
            refine yG.invV (rest := []) A_h2.1 (bOb (d_M W) H_2073) rfl rfl rfl rfl (r_minus W d A_h2.1 M_bRg_h2 H_2073 (r := (p1)) (p := (p1)) (q := (260)) (x := 217) ⟨by omega, by omega⟩ ⟨by omega, by omega⟩ ⟨by omega, by omega⟩ ((rc200_p1.same W.y A_hq.1 (by omega) (S_h2 (p1 : Int).toNat (by omega) trivial)).mono (by omega)) ((rc200_260.same W.y A_hq.1 (by decide) (S_h2 260 (by omega) trivial)).mono (by omega)) (yPos W A_hq.1 (by omega) rd200_p1 (S_h2 (p1 : Int).toNat (by omega) trivial)) (yPos W A_hq.1 (by decide) rd200_260 (S_h2 260 (by omega) trivial)) (by decide) (bTb_ge (a := 3252) (b := 3412) (by decide) (by omega) (by omega))) (fun rv h5 q9 => ?_)
            obtain ⟨rfl, B_h5, M_bRg_h5, Y_h5, V_h5, S_h5⟩ := q9
            have A_h5 := A_h2.tr B_h5 (by decide)
            have : ys h5 2073 10 = ys h2 2073 10 := B_h5.ys H_2073 (by decide)
            show yG _ _ _ _ _ _ _ _ _ _ [] _
            refine yG.ret rfl (fun _ _ => rfl) ?_
            exact (yP.void ⟨⟨⟨rfl, trivial⟩, A_h5⟩, M_bRg_h5⟩)
        · have c1 : (a3 : Int) ≥ 0 := c1
          refine yG.load xak rfl (fun _ _ => rfl) (v := yR 2073) rfl rfl ?_
          refine yG.load xik rfl (fun _ _ => rfl) (v := yI (p1)) rfl rfl ?_
          refine yG.getS (c := 14) rfl rfl ?_
          refine yG.load xak rfl (fun _ _ => rfl) (v := yR 2073) rfl rfl ?_
          refine yG.getO A_hq.1 (w_M_used W H_2073) rfl rfl (fun r6 H_r6 O_r6 q_r6 => ?_)
          obtain rfl := u_M_used W H_r6
          refine yG.load xik rfl (fun _ _ => rfl) (v := yI (a3)) rfl rfl ?_
          refine yG.iald A_hq.1 (v_M_used W H_r6) rfl (by omega) (by omega) (fun z7 e_z7 i_z7 l_z7 u_z7 => ?_)
          refine yG.iald A_hq.1 (v_M_PRIME W (s_M_PRIME W)) rfl (by omega) (by omega) (fun z8 e_z8 i_z8 l_z8 u_z8 => ?_)
          refine yG.i2l rfl ⟨by omega, by omega⟩ ?_
          refine yG.load xak rfl (fun _ _ => rfl) (v := yR 2073) rfl rfl ?_
          refine yG.getO A_hq.1 (w_M_mixed W H_2073) rfl rfl (fun r9 H_r9 O_r9 q_r9 => ?_)
          obtain rfl := u_M_mixed W H_r9
          refine yG.load xik rfl (fun _ _ => rfl) (v := yI (a3)) rfl rfl ?_
          refine yG.lald A_hq.1 (v_M_mixed W H_r9) rfl (by omega) (by omega) (fun z10 e_z10 i_z10 l_z10 u_z10 => ?_)
          refine yG.invV (rest := []) A_hq.1 (bOb (d_M W) H_2073) rfl rfl rfl rfl (r_stretch W d A_hq.1 M_bRg_hq H_2073 (r := (p1)) (b := (z8)) (m := (z10)) (x := (31 * (gg0 - 1 - a3) : Int).toNat) ⟨by omega, by omega⟩ rc200_p1 ⟨by omega, by omega⟩ ⟨by omega, by omega⟩ (by omega) (Nat.le_trans (show (31 * (gg0 - 1 - a3) : Int).toNat + 31 ≤ 217 by omega) (bTb_ge (a := 3252) (b := 3412) (by decide) (by omega) (by omega)))) (fun rv h11 q9 => ?_)
          obtain ⟨rfl, B_h11, M_bRg_h11, Y_h11, V_h11, S_h11⟩ := q9
          have P_h11 : 0 ≤ yval h11 (p1 : Int).toNat := by rw [V_h11]; exact r_strpos W A_hq.1 (by omega) (by omega) (by omega)
          have A_h11 := A_hq.tr B_h11 (by decide)
          have : ys h11 2073 10 = ys hq 2073 10 := B_h11.ys H_2073 (by decide)
          have qq1 : zsl h11 2073 9 = yR 2082 := (B_h11.sl H_2073 (by decide)).trans q_r6
          have : ys h11 2082 (a3 : Int).toNat = ys hq 2082 (a3 : Int).toNat := B_h11.ys H_r6 (bNo_ok (by decide) _)
          have : ys h11 14 (z7 : Int).toNat = ys hq 14 (z7 : Int).toNat := B_h11.ys (s_M_PRIME W) (bNo_ok (by decide) _)
          show yG _ _ _ _ _ _ _ _ _ _ [] _
          refine yG.load xak rfl (fun _ _ => rfl) (v := yR 2073) rfl rfl ?_
          refine yG.num (c := 260) rfl (fun _ _ => rfl) (by decide) ?_
          refine yG.getS (c := 14) rfl rfl ?_
          refine yG.load xak rfl (fun _ _ => rfl) (v := yR 2073) rfl rfl ?_
          refine yG.getS9 A_h11.1 (w_M_used W H_2073) qq1 rfl rfl ?_
          refine yG.load xik rfl (fun _ _ => rfl) (v := yI (a3)) rfl rfl ?_
          refine yG.iald A_h11.1 (v_M_used W H_r6) rfl (by omega) (by omega) (fun z12 e_z12 i_z12 l_z12 u_z12 => ?_)
          rw [show (z12 : Int) = z7 by omega]
          refine yG.iald A_h11.1 (v_M_PRIME W (s_M_PRIME W)) rfl (by omega) (by omega) (fun z13 e_z13 i_z13 l_z13 u_z13 => ?_)
          rw [show (z13 : Int) = z8 by omega]
          refine yG.i2l rfl ⟨by omega, by omega⟩ ?_
          refine yG.numl (c := 0) rfl (fun _ _ => rfl) (by decide) ?_
          refine yG.invV (rest := []) A_h11.1 (bOb (d_M W) H_2073) rfl rfl rfl rfl (r_stretch W d A_h11.1 M_bRg_h11 H_2073 (r := (260)) (b := (z8)) (m := (0)) (x := (31 * (gg0 - 1 - a3) : Int).toNat) ⟨by omega, by omega⟩ (rc200_260.same W.y A_hq.1 (by decide) (S_h11 260 (by omega) trivial)) ⟨by omega, by omega⟩ ⟨by omega, by omega⟩ (by omega) (Nat.le_trans (show (31 * (gg0 - 1 - a3) : Int).toNat + 31 ≤ 7654 by omega) (bTb_ge (a := 260) (b := 261) (by decide) (by omega) (by omega)))) (fun rv h14 q9 => ?_)
          obtain ⟨rfl, B_h14, M_bRg_h14, Y_h14, V_h14, S_h14⟩ := q9
          have P_h14 : 0 ≤ yval h14 (260 : Int).toNat := by rw [V_h14]; exact r_strpos W A_h11.1 (by omega) (by omega) (by omega)
          have A_h14 := A_h11.tr B_h14 (by decide)
          have : ys h14 2073 10 = ys h11 2073 10 := B_h14.ys H_2073 (by decide)
          have qq2 : zsl h14 2073 9 = yR 2082 := (B_h14.sl H_2073 (by decide)).trans qq1
          have : ys h14 2082 (a3 : Int).toNat = ys h11 2082 (a3 : Int).toNat := B_h14.ys H_r6 (bNo_ok (by decide) _)
          have : ys h14 14 (z7 : Int).toNat = ys h11 14 (z7 : Int).toNat := B_h14.ys (s_M_PRIME W) (bNo_ok (by decide) _)
          show yG _ _ _ _ _ _ _ _ _ _ [] _
          refine yG.iinc rfl (a := a3) rfl (L' := [(3, yI (a3 + (-1))), (0, yR 2073), (1, yI (p1))]) rfl ?_
          refine yG.goto rfl (t := 200) rfl ?_
          exact yG.mono (yG.sub (i_200 (a3 + (-1)) (ys h14 2073 10) h14 A_h14 M_bRg_h14  rfl (by omega) (by omega) (by omega) (by omega) (by omega) (by omega) (by omega) (by omega) (by omega) ((Y_h11.same W.y A_h11.1 (by omega) (S_h14 (p1 : Int).toNat (by omega) trivial)).mono (by omega)) (yPos W A_h11.1 (by omega) P_h11 (S_h14 (p1 : Int).toNat (by omega) trivial)) (Y_h14.mono (by omega)) P_h14 (by omega)) (ySub.cons rfl (ySub.cons rfl (ySub.cons rfl (ySub.nil))))) (by omega)
  refine yC.of (M := (xt_X13_fromResidues, (10, (0, (14, []))))) rfl rfl (N := 6764) (yfuel (by decide)) ?_
  show yG 89 xfts (xcall 89 xfts xpools xms (d + 2)) (xpool xp_RX13) [] xt_X13_fromResidues (yP 0 (fun rv hp' => (fun rv hp' => (rv = none ∧ True) ∧ bAx G [(191242677893554771214035240797834575872, 256)] hp hp') rv hp' ∧ bRg G hp')) 6764 0 [(0, yR 2073), (1, yI (p1)), (2, yI (p2))] [] hp
  obtain ⟨i_2, i_40, i_102, i_200⟩ := H 177
  obtain ⟨gg0, E_0⟩ : ∃ z : Int, ys hp 2073 10 = z := ⟨_, rfl⟩
  obtain ⟨-, -, g_0l, g_0u⟩ := (w_M_usedCount W H_2073).int hT
  refine yG.num (c := 0) rfl (fun _ _ => rfl) (by decide) ?_
  refine yG.store1 xik (L' := [(3, yI (0)), (0, yR 2073), (1, yI (p1)), (2, yI (p2))]) rfl (fun _ _ => rfl) rfl rfl ?_
  exact yG.mono (yG.sub (i_2 (0) (ys hp 2073 10) hp A_hp M_bRg_hp  rfl (by omega) (by omega) (by omega) (by omega) (by omega) (by omega) (by omega) (by omega) (by omega) (by omega)) (ySub.cons rfl (ySub.cons rfl (ySub.cons rfl (ySub.cons rfl (ySub.nil)))))) (by omega)
theorem c_GModel_usePrime_r {hp : xH} (W : mW G) (d : Nat) (hT : zTy G hp) (H_2073 : bRo G 116 2073) (p1 : Int) (h1l : 0 ≤ p1) (h1u : p1 ≤ 39) (q0l : 0 ≤ ys hp 2073 10) (q0u : ys hp 2073 10 ≤ 39) : yC (xcall 89 xfts xpools xms (d + 1)) 537 [yR 2073, yI (p1)] hp (fun rv hp' => (fun rv hp' => (rv = none ∧ True) ∧ bAx G [(83076749736557242056487941267521536, 10), (42535295865117307932921825928971026432, 256)] hp hp') rv hp' ∧ (ys hp' 2073 10 = ys hp 2073 10 + 1)) := by
  have A_hp : bAx G [(83076749736557242056487941267521536, 10), (42535295865117307932921825928971026432, 256)] hp hp := bAx.rf hT
  refine yC.of (M := (xt_X13_usePrime, (2, (0, (14, []))))) rfl rfl (N := 45) (yfuel (by decide)) ?_
  show yG 89 xfts (xcall 89 xfts xpools xms d) (xpool xp_RX13) [] xt_X13_usePrime (yP 0 (fun rv hp' => (fun rv hp' => (rv = none ∧ True) ∧ bAx G [(83076749736557242056487941267521536, 10), (42535295865117307932921825928971026432, 256)] hp hp') rv hp' ∧ (ys hp' 2073 10 = ys hp 2073 10 + 1))) 45 0 [(0, yR 2073), (1, yI (p1))] [] hp
  obtain ⟨gg0, E_0⟩ : ∃ z : Int, ys hp 2073 10 = z := ⟨_, rfl⟩
  obtain ⟨-, -, g_0l, g_0u⟩ := (w_M_usedCount W H_2073).int hT
  refine yG.load xak rfl (fun _ _ => rfl) (v := yR 2073) rfl rfl ?_
  refine yG.getO A_hp.1 (w_M_used W H_2073) rfl rfl (fun r1 H_r1 O_r1 q_r1 => ?_)
  obtain rfl := u_M_used W H_r1
  refine yG.load xak rfl (fun _ _ => rfl) (v := yR 2073) rfl rfl ?_
  refine yG.getI A_hp.1 (w_M_usedCount W H_2073) rfl rfl (fun z2 e_z2 i_z2 l_z2 u_z2 => ?_)
  rw [show (z2 : Int) = gg0 by omega]
  refine yG.load xik rfl (fun _ _ => rfl) (v := yI (p1)) rfl rfl ?_
  refine yG.iast A_hp.1 (v_M_used W H_r1) (W.2.1 _ _ H_r1 (by decide) (by decide)) rfl (by omega) (by omega) ⟨by omega, by omega⟩ (by omega) (by omega) (fun h3 T_h3 b_h3 f_h3 y_h3 => ?_)
  have A_h3 := A_hp.put T_h3 b_h3 f_h3 H_r1 (bAll_ok (by decide) _)
  have : ys h3 2073 10 = ys hp 2073 10 := (y_h3 2073 10).trans (if_neg (fun e => (bRo.ne H_2073 H_r1 (by decide)) e.1))
  refine yG.load xak rfl (fun _ _ => rfl) (v := yR 2073) rfl rfl ?_
  refine yG.step (pc' := 12) (stk' := [yR 2073, yR 2073]) rfl (fun _ _ => rfl) ?_
  refine yG.getI A_h3.1 (w_M_usedCount W H_2073) rfl rfl (fun z4 e_z4 i_z4 l_z4 u_z4 => ?_)
  rw [show (z4 : Int) = gg0 by omega]
  refine yG.num (c := 1) rfl (fun _ _ => rfl) (by decide) ?_
  refine yG.iadd rfl ?_
  refine yG.putI A_h3.1 (w_M_usedCount W H_2073) (W.2.1 _ _ H_2073 (by decide) (by decide)) rfl rfl (.inl rfl) ⟨by omega, by omega⟩ (by omega) (by omega) (fun h5 T_h5 b_h5 f_h5 y_h5 => ?_)
  have A_h5 := A_h3.put T_h5 b_h5 f_h5 H_2073 (by decide)
  have : ys h5 2073 10 = gg0 + 1 := (y_h5 2073 10).trans (if_pos ⟨rfl, rfl⟩)
  refine yG.ret rfl (fun _ _ => rfl) ?_
  exact (yP.void ⟨⟨⟨rfl, trivial⟩, A_h5⟩, by omega⟩)
end MBase
