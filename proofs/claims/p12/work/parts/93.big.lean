/-! ===== the class: its whole numbers, printed by a program ===== -/
section BBig
variable {G : zW}
theorem c_J9_absJ {hp : xH} (W : bW G) (d : Nat) (hT : zTy G hp) (p0 : Int) (h0l : (-9223372036854775808) ≤ p0) (h0u : p0 ≤ 9223372036854775807) : yC (xcall 89 xfts xpools xms (d + 1)) 8 [yJ (p0)] hp (bQpj hp (-9223372036854775808) 9223372036854775807 (fun z => 0 ≤ 0 - p0 + z + 9223372036854775807)) := by
  have A_hp : bAx G [] hp hp := bAx.rf hT
  refine yC.of (M := (xt_J9_abs_067f4, (2, (2, (19, []))))) rfl rfl (N := 30) (yfuel (by decide)) ?_
  show yG 89 xfts (xcall 89 xfts xpools xms d) (xpool xp_RJ9) [] xt_J9_abs_067f4 (yP 2 (bQpj hp (-9223372036854775808) 9223372036854775807 (fun z => 0 ≤ 0 - p0 + z + 9223372036854775807))) 30 0 [(0, yJ (p0))] [] hp
  refine yG.load xlk2 rfl (fun _ _ => rfl) (v := yJ (p0)) rfl rfl ?_
  refine yG.numl (c := 0) rfl (fun _ _ => rfl) (by decide) ?_
  refine yG.lcmp rfl ⟨by omega, by omega⟩ ⟨by omega, by omega⟩ (fun z1 e_z1 => ?_)
  refine yG.ifz rfl (t := 11) rfl ⟨by omega, by omega⟩ (fun c2 => ?_) (fun c2 => ?_)
  · have c2 : (z1 : Int) ≥ 0 := c2
    refine yG.load xlk2 rfl (fun _ _ => rfl) (v := yJ (p0)) rfl rfl ?_
    refine yG.ret rfl (fun _ _ => rfl) ?_
    exact (yP.long ⟨by omega, by omega⟩ ⟨⟨p0, rfl, by omega, by omega, by omega⟩, rfl⟩)
  · have c2 : (z1 : Int) < 0 := c2
    refine yG.load xlk2 rfl (fun _ _ => rfl) (v := yJ (p0)) rfl rfl ?_
    refine yG.lneg rfl ?_
    refine yG.goto rfl (t := 12) rfl ?_
    refine yG.ret rfl (fun _ _ => rfl) ?_
    obtain ⟨z3, e_z3, l_z3, u_z3⟩ := ywJ (-(p0))
    rw [e_z3]
    exact (yP.long ⟨by omega, by omega⟩ ⟨⟨z3, rfl, by omega, by omega, by omega⟩, rfl⟩)
theorem c_J9_maxI {hp : xH} (W : bW G) (d : Nat) (hT : zTy G hp) (p0 p1 : Int) (h0l : (-2147483648) ≤ p0) (h0u : p0 ≤ 2147483647) (h1l : (-2147483648) ≤ p1) (h1u : p1 ≤ 2147483647) : yC (xcall 89 xfts xpools xms (d + 1)) 9 [yI (p0), yI (p1)] hp (bQpi hp (-2147483648) 2147483647 (fun z => 0 ≤ 0 - p0 + z ∧ 0 ≤ 0 - p1 + z ∧ (z = p0 ∨ z = p1))) := by
  have A_hp : bAx G [] hp hp := bAx.rf hT
  refine yC.of (M := (xt_J9_max_7cf53, (2, (1, (19, []))))) rfl rfl (N := 24) (yfuel (by decide)) ?_
  show yG 89 xfts (xcall 89 xfts xpools xms d) (xpool xp_RJ9) [] xt_J9_max_7cf53 (yP 1 (bQpi hp (-2147483648) 2147483647 (fun z => 0 ≤ 0 - p0 + z ∧ 0 ≤ 0 - p1 + z ∧ (z = p0 ∨ z = p1)))) 24 0 [(0, yI (p0)), (1, yI (p1))] [] hp
  refine yG.load xik rfl (fun _ _ => rfl) (v := yI (p0)) rfl rfl ?_
  refine yG.load xik rfl (fun _ _ => rfl) (v := yI (p1)) rfl rfl ?_
  refine yG.icmp rfl (t := 9) rfl ⟨by omega, by omega⟩ ⟨by omega, by omega⟩ (fun c1 => ?_) (fun c1 => ?_)
  · have c1 : (p0 : Int) < p1 := c1
    refine yG.load xik rfl (fun _ _ => rfl) (v := yI (p1)) rfl rfl ?_
    refine yG.ret rfl (fun _ _ => rfl) ?_
    exact (yP.int ⟨by omega, by omega⟩ ⟨⟨p1, rfl, by omega, by omega, by omega⟩, rfl⟩)
  · have c1 : (p0 : Int) ≥ p1 := c1
    refine yG.load xik rfl (fun _ _ => rfl) (v := yI (p0)) rfl rfl ?_
    refine yG.goto rfl (t := 10) rfl ?_
    refine yG.ret rfl (fun _ _ => rfl) ?_
    exact (yP.int ⟨by omega, by omega⟩ ⟨⟨p0, rfl, by omega, by omega, by omega⟩, rfl⟩)
theorem c_J9_minI {hp : xH} (W : bW G) (d : Nat) (hT : zTy G hp) (p0 p1 : Int) (h0l : (-2147483648) ≤ p0) (h0u : p0 ≤ 2147483647) (h1l : (-2147483648) ≤ p1) (h1u : p1 ≤ 2147483647) : yC (xcall 89 xfts xpools xms (d + 1)) 11 [yI (p0), yI (p1)] hp (bQpi hp (-2147483648) 2147483647 (fun z => 0 ≤ p0 - z ∧ 0 ≤ p1 - z ∧ (z = p0 ∨ z = p1))) := by
  have A_hp : bAx G [] hp hp := bAx.rf hT
  refine yC.of (M := (xt_J9_min_7cf53, (2, (1, (19, []))))) rfl rfl (N := 24) (yfuel (by decide)) ?_
  show yG 89 xfts (xcall 89 xfts xpools xms d) (xpool xp_RJ9) [] xt_J9_min_7cf53 (yP 1 (bQpi hp (-2147483648) 2147483647 (fun z => 0 ≤ p0 - z ∧ 0 ≤ p1 - z ∧ (z = p0 ∨ z = p1)))) 24 0 [(0, yI (p0)), (1, yI (p1))] [] hp
  refine yG.load xik rfl (fun _ _ => rfl) (v := yI (p0)) rfl rfl ?_
  refine yG.load xik rfl (fun _ _ => rfl) (v := yI (p1)) rfl rfl ?_
  refine yG.icmp rfl (t := 9) rfl ⟨by omega, by omega⟩ ⟨by omega, by omega⟩ (fun c1 => ?_) (fun c1 => ?_)
  · have c1 : (p0 : Int) > p1 := c1
    refine yG.load xik rfl (fun _ _ => rfl) (v := yI (p1)) rfl rfl ?_
    refine yG.ret rfl (fun _ _ => rfl) ?_
    exact (yP.int ⟨by omega, by omega⟩ ⟨⟨p1, rfl, by omega, by omega, by omega⟩, rfl⟩)
  · have c1 : (p0 : Int) ≤ p1 := c1
    refine yG.load xik rfl (fun _ _ => rfl) (v := yI (p0)) rfl rfl ?_
    refine yG.goto rfl (t := 10) rfl ?_
    refine yG.ret rfl (fun _ _ => rfl) ?_
    exact (yP.int ⟨by omega, by omega⟩ ⟨⟨p0, rfl, by omega, by omega, by omega⟩, rfl⟩)
theorem c_J9_maxJ {hp : xH} (W : bW G) (d : Nat) (hT : zTy G hp) (p0 p2 : Int) (h0l : (-9223372036854775808) ≤ p0) (h0u : p0 ≤ 9223372036854775807) (h2l : (-9223372036854775808) ≤ p2) (h2u : p2 ≤ 9223372036854775807) : yC (xcall 89 xfts xpools xms (d + 1)) 10 [yJ (p0), yJ (p2)] hp (bQpj hp (-9223372036854775808) 9223372036854775807 (fun z => 0 ≤ 0 - p0 + z ∧ 0 ≤ 0 - p2 + z ∧ (z = p0 ∨ z = p2))) := by
  have A_hp : bAx G [] hp hp := bAx.rf hT
  refine yC.of (M := (xt_J9_max_f86c9, (4, (2, (19, []))))) rfl rfl (N := 27) (yfuel (by decide)) ?_
  show yG 89 xfts (xcall 89 xfts xpools xms d) (xpool xp_RJ9) [] xt_J9_max_f86c9 (yP 2 (bQpj hp (-9223372036854775808) 9223372036854775807 (fun z => 0 ≤ 0 - p0 + z ∧ 0 ≤ 0 - p2 + z ∧ (z = p0 ∨ z = p2)))) 27 0 [(0, yJ (p0)), (2, yJ (p2))] [] hp
  refine yG.load xlk2 rfl (fun _ _ => rfl) (v := yJ (p0)) rfl rfl ?_
  refine yG.load xlk2 rfl (fun _ _ => rfl) (v := yJ (p2)) rfl rfl ?_
  refine yG.lcmp rfl ⟨by omega, by omega⟩ ⟨by omega, by omega⟩ (fun z1 e_z1 => ?_)
  refine yG.ifz rfl (t := 10) rfl ⟨by omega, by omega⟩ (fun c2 => ?_) (fun c2 => ?_)
  · have c2 : (z1 : Int) < 0 := c2
    refine yG.load xlk2 rfl (fun _ _ => rfl) (v := yJ (p2)) rfl rfl ?_
    refine yG.ret rfl (fun _ _ => rfl) ?_
    exact (yP.long ⟨by omega, by omega⟩ ⟨⟨p2, rfl, by omega, by omega, by omega⟩, rfl⟩)
  · have c2 : (z1 : Int) ≥ 0 := c2
    refine yG.load xlk2 rfl (fun _ _ => rfl) (v := yJ (p0)) rfl rfl ?_
    refine yG.goto rfl (t := 11) rfl ?_
    refine yG.ret rfl (fun _ _ => rfl) ?_
    exact (yP.long ⟨by omega, by omega⟩ ⟨⟨p0, rfl, by omega, by omega, by omega⟩, rfl⟩)
theorem c_J9_minJ {hp : xH} (W : bW G) (d : Nat) (hT : zTy G hp) (p0 p2 : Int) (h0l : (-9223372036854775808) ≤ p0) (h0u : p0 ≤ 9223372036854775807) (h2l : (-9223372036854775808) ≤ p2) (h2u : p2 ≤ 9223372036854775807) : yC (xcall 89 xfts xpools xms (d + 1)) 12 [yJ (p0), yJ (p2)] hp (bQpj hp (-9223372036854775808) 9223372036854775807 (fun z => 0 ≤ p0 - z ∧ 0 ≤ p2 - z ∧ (z = p0 ∨ z = p2))) := by
  have A_hp : bAx G [] hp hp := bAx.rf hT
  refine yC.of (M := (xt_J9_min_f86c9, (4, (2, (19, []))))) rfl rfl (N := 27) (yfuel (by decide)) ?_
  show yG 89 xfts (xcall 89 xfts xpools xms d) (xpool xp_RJ9) [] xt_J9_min_f86c9 (yP 2 (bQpj hp (-9223372036854775808) 9223372036854775807 (fun z => 0 ≤ p0 - z ∧ 0 ≤ p2 - z ∧ (z = p0 ∨ z = p2)))) 27 0 [(0, yJ (p0)), (2, yJ (p2))] [] hp
  refine yG.load xlk2 rfl (fun _ _ => rfl) (v := yJ (p0)) rfl rfl ?_
  refine yG.load xlk2 rfl (fun _ _ => rfl) (v := yJ (p2)) rfl rfl ?_
  refine yG.lcmp rfl ⟨by omega, by omega⟩ ⟨by omega, by omega⟩ (fun z1 e_z1 => ?_)
  refine yG.ifz rfl (t := 10) rfl ⟨by omega, by omega⟩ (fun c2 => ?_) (fun c2 => ?_)
  · have c2 : (z1 : Int) > 0 := c2
    refine yG.load xlk2 rfl (fun _ _ => rfl) (v := yJ (p2)) rfl rfl ?_
    refine yG.ret rfl (fun _ _ => rfl) ?_
    exact (yP.long ⟨by omega, by omega⟩ ⟨⟨p2, rfl, by omega, by omega, by omega⟩, rfl⟩)
  · have c2 : (z1 : Int) ≤ 0 := c2
    refine yG.load xlk2 rfl (fun _ _ => rfl) (v := yJ (p0)) rfl rfl ?_
    refine yG.goto rfl (t := 11) rfl ?_
    refine yG.ret rfl (fun _ _ => rfl) ?_
    exact (yP.long ⟨by omega, by omega⟩ ⟨⟨p0, rfl, by omega, by omega, by omega⟩, rfl⟩)
theorem c_J6_compareI {hp : xH} (W : bW G) (d : Nat) (hT : zTy G hp) (p0 p1 : Int) (h0l : (-2147483648) ≤ p0) (h0u : p0 ≤ 2147483647) (h1l : (-2147483648) ≤ p1) (h1u : p1 ≤ 2147483647) : yC (xcall 89 xfts xpools xms (d + 1)) 7 [yI (p0), yI (p1)] hp (bQpi hp (-1) 1 (fun z => 0 ≤ 0 - p0 + z + 2147483647 ∧ 0 ≤ p0 - z + 2147483648)) := by
  have A_hp : bAx G [] hp hp := bAx.rf hT
  refine yC.of (M := (xt_J6_compare_7cf53, (2, (1, (18, []))))) rfl rfl (N := 33) (yfuel (by decide)) ?_
  show yG 89 xfts (xcall 89 xfts xpools xms d) (xpool xp_RJ6) [] xt_J6_compare_7cf53 (yP 1 (bQpi hp (-1) 1 (fun z => 0 ≤ 0 - p0 + z + 2147483647 ∧ 0 ≤ p0 - z + 2147483648))) 33 0 [(0, yI (p0)), (1, yI (p1))] [] hp
  refine yG.load xik rfl (fun _ _ => rfl) (v := yI (p0)) rfl rfl ?_
  refine yG.load xik rfl (fun _ _ => rfl) (v := yI (p1)) rfl rfl ?_
  refine yG.icmp rfl (t := 9) rfl ⟨by omega, by omega⟩ ⟨by omega, by omega⟩ (fun c1 => ?_) (fun c1 => ?_)
  · have c1 : (p0 : Int) ≥ p1 := c1
    refine yG.load xik rfl (fun _ _ => rfl) (v := yI (p0)) rfl rfl ?_
    refine yG.load xik rfl (fun _ _ => rfl) (v := yI (p1)) rfl rfl ?_
    refine yG.icmp rfl (t := 18) rfl ⟨by omega, by omega⟩ ⟨by omega, by omega⟩ (fun c2 => ?_) (fun c2 => ?_)
    · have c2 : (p0 : Int) ≠ p1 := c2
      refine yG.num (c := 1) rfl (fun _ _ => rfl) (by decide) ?_
      refine yG.ret rfl (fun _ _ => rfl) ?_
      exact (yP.int ⟨by omega, by omega⟩ ⟨⟨1, rfl, by omega, by omega, by omega⟩, rfl⟩)
    · have c2 : (p0 : Int) = p1 := c2
      refine yG.num (c := 0) rfl (fun _ _ => rfl) (by decide) ?_
      refine yG.goto rfl (t := 19) rfl ?_
      refine yG.ret rfl (fun _ _ => rfl) ?_
      exact (yP.int ⟨by omega, by omega⟩ ⟨⟨0, rfl, by omega, by omega, by omega⟩, rfl⟩)
  · have c1 : (p0 : Int) < p1 := c1
    refine yG.num (c := -1) rfl (fun _ _ => rfl) (by decide) ?_
    refine yG.goto rfl (t := 19) rfl ?_
    refine yG.ret rfl (fun _ _ => rfl) ?_
    exact (yP.int ⟨by omega, by omega⟩ ⟨⟨(-1), rfl, by omega, by omega, by omega⟩, rfl⟩)
theorem c_Big_sign {hp : xH} (W : bW G) (d : Nat) (hT : zTy G hp) {k0 : Nat} (H_k0 : bRo G 35 k0) : yC (xcall 89 xfts xpools xms (d + 1)) 68 [yR k0] hp (bQpi hp (-1) 1 (fun _ => True)) := by
  have A_hp : bAx G [] hp hp := bAx.rf hT
  obtain ⟨n_k0, N_k0⟩ : ∃ n : Int, n = ((zat G k0 : Nat) : Int) := ⟨_, rfl⟩
  have L_k0 := n_Big W H_k0
  refine yC.of (M := (xt_X0_sign, (1, (1, (1, []))))) rfl rfl (N := 33) (yfuel (by decide)) ?_
  show yG 89 xfts (xcall 89 xfts xpools xms d) (xpool xp_RX0) [] xt_X0_sign (yP 1 (bQpi hp (-1) 1 (fun _ => True))) 33 0 [(0, yR k0)] [] hp
  refine yG.load xak rfl (fun _ _ => rfl) (v := yR k0) rfl rfl ?_
  refine yG.getN A_hp.1 (w_Big_size W H_k0) rfl rfl (fun z1 e_z1 i_z1 l_z1 u_z1 => ?_)
  refine yG.ifz rfl (t := 11) rfl ⟨by omega, by omega⟩ (fun c2 => ?_) (fun c2 => ?_)
  · have c2 : (z1 : Int) ≠ 0 := c2
    refine yG.load xak rfl (fun _ _ => rfl) (v := yR k0) rfl rfl ?_
    refine yG.getI A_hp.1 (w_Big_minus W H_k0) rfl rfl (fun z3 e_z3 i_z3 l_z3 u_z3 => ?_)
    refine yG.ifz rfl (t := 22) rfl ⟨by omega, by omega⟩ (fun c4 => ?_) (fun c4 => ?_)
    · have c4 : (z3 : Int) = 0 := c4
      refine yG.num (c := 1) rfl (fun _ _ => rfl) (by decide) ?_
      refine yG.ret rfl (fun _ _ => rfl) ?_
      exact (yP.int ⟨by omega, by omega⟩ ⟨⟨1, rfl, by omega, by omega, trivial⟩, rfl⟩)
    · have c4 : (z3 : Int) ≠ 0 := c4
      refine yG.num (c := -1) rfl (fun _ _ => rfl) (by decide) ?_
      refine yG.goto rfl (t := 23) rfl ?_
      refine yG.ret rfl (fun _ _ => rfl) ?_
      exact (yP.int ⟨by omega, by omega⟩ ⟨⟨(-1), rfl, by omega, by omega, trivial⟩, rfl⟩)
  · have c2 : (z1 : Int) = 0 := c2
    refine yG.num (c := 0) rfl (fun _ _ => rfl) (by decide) ?_
    refine yG.goto rfl (t := 23) rfl ?_
    refine yG.ret rfl (fun _ _ => rfl) ?_
    exact (yP.int ⟨by omega, by omega⟩ ⟨⟨0, rfl, by omega, by omega, trivial⟩, rfl⟩)
theorem c_Big_isSmall {hp : xH} (W : bW G) (d : Nat) (hT : zTy G hp) {k0 : Nat} (H_k0 : bRo G 35 k0) : yC (xcall 89 xfts xpools xms (d + 1)) 56 [yR k0] hp (bQpi hp 0 1 (fun _ => True)) := by
  have A_hp : bAx G [] hp hp := bAx.rf hT
  obtain ⟨n_k0, N_k0⟩ : ∃ n : Int, n = ((zat G k0 : Nat) : Int) := ⟨_, rfl⟩
  have L_k0 := n_Big W H_k0
  refine yC.of (M := (xt_X0_isSmall, (1, (4, (1, []))))) rfl rfl (N := 27) (yfuel (by decide)) ?_
  show yG 89 xfts (xcall 89 xfts xpools xms d) (xpool xp_RX0) [] xt_X0_isSmall (yP 4 (bQpi hp 0 1 (fun _ => True))) 27 0 [(0, yR k0)] [] hp
  refine yG.load xak rfl (fun _ _ => rfl) (v := yR k0) rfl rfl ?_
  refine yG.getN A_hp.1 (w_Big_size W H_k0) rfl rfl (fun z1 e_z1 i_z1 l_z1 u_z1 => ?_)
  refine yG.num (c := 2) rfl (fun _ _ => rfl) (by decide) ?_
  refine yG.icmp rfl (t := 12) rfl ⟨by omega, by omega⟩ ⟨by omega, by omega⟩ (fun c2 => ?_) (fun c2 => ?_)
  · have c2 : (z1 : Int) > 2 := c2
    refine yG.num (c := 0) rfl (fun _ _ => rfl) (by decide) ?_
    refine yG.ret rfl (fun _ _ => rfl) ?_
    exact (yP.bool (by omega) ⟨⟨0, rfl, by omega, by omega, trivial⟩, rfl⟩)
  · have c2 : (z1 : Int) ≤ 2 := c2
    refine yG.num (c := 1) rfl (fun _ _ => rfl) (by decide) ?_
    refine yG.goto rfl (t := 13) rfl ?_
    refine yG.ret rfl (fun _ _ => rfl) ?_
    exact (yP.bool (by omega) ⟨⟨1, rfl, by omega, by omega, trivial⟩, rfl⟩)
theorem c_Big_small {hp : xH} (W : bW G) (d : Nat) (hT : zTy G hp) {k0 : Nat} (H_k0 : bRo G 35 k0) : yC (xcall 89 xfts xpools xms (d + 1)) 69 [yR k0] hp (bQpj hp (-9223372036854775808) 9223372036854775807 (fun z => 0 ≤ 0 - ((zat G k0 : Nat) : Int) + z + 96 ∧ 0 ≤ ((zat G k0 : Nat) : Int) - z + 1152921504606846963)) := by
  have A_hp : bAx G [] hp hp := bAx.rf hT
  obtain ⟨n_k0, N_k0⟩ : ∃ n : Int, n = ((zat G k0 : Nat) : Int) := ⟨_, rfl⟩
  have L_k0 := n_Big W H_k0
  refine yC.of (M := (xt_X0_small, (1, (2, (1, []))))) rfl rfl (N := 63) (yfuel (by decide)) ?_
  show yG 89 xfts (xcall 89 xfts xpools xms d) (xpool xp_RX0) [] xt_X0_small (yP 2 (bQpj hp (-9223372036854775808) 9223372036854775807 (fun z => 0 ≤ 0 - ((zat G k0 : Nat) : Int) + z + 96 ∧ 0 ≤ ((zat G k0 : Nat) : Int) - z + 1152921504606846963))) 63 0 [(0, yR k0)] [] hp
  refine yG.load xak rfl (fun _ _ => rfl) (v := yR k0) rfl rfl ?_
  refine yG.getN A_hp.1 (w_Big_size W H_k0) rfl rfl (fun z1 e_z1 i_z1 l_z1 u_z1 => ?_)
  refine yG.ifz rfl (t := 11) rfl ⟨by omega, by omega⟩ (fun c2 => ?_) (fun c2 => ?_)
  · have c2 : (z1 : Int) ≠ 0 := c2
    refine yG.load xak rfl (fun _ _ => rfl) (v := yR k0) rfl rfl ?_
    refine yG.getN A_hp.1 (w_Big_size W H_k0) rfl rfl (fun z3 e_z3 i_z3 l_z3 u_z3 => ?_)
    refine yG.num (c := 1) rfl (fun _ _ => rfl) (by decide) ?_
    refine yG.icmp rfl (t := 28) rfl ⟨by omega, by omega⟩ ⟨by omega, by omega⟩ (fun c4 => ?_) (fun c4 => ?_)
    · have c4 : (z3 : Int) ≠ 1 := c4
      refine yG.load xak rfl (fun _ _ => rfl) (v := yR k0) rfl rfl ?_
      refine yG.getO A_hp.1 (w_Big_limb W H_k0) rfl rfl (fun r5 H_r5 O_r5 q_r5 => ?_)
      have O_r5 := O_r5 rfl
      refine yG.num (c := 1) rfl (fun _ _ => rfl) (by decide) ?_
      refine yG.lald A_hp.1 (v_Big_limb W H_r5) rfl (by omega) (by omega) (fun z6 e_z6 i_z6 l_z6 u_z6 => ?_)
      refine yG.num (c := 30) rfl (fun _ _ => rfl) (by decide) ?_
      refine yG.bit64 rfl (fun _ _ => rfl) (fun z7 e_z7 l_z7 u_z7 => ?_)
      have b_z7 : z7 = (z6) * 2 ^ 30 := by rw [e_z7]; exact bshl (n := 30) (by omega) (by omega) (by decide) (by decide)
      subst b_z7
      clear e_z7 l_z7 u_z7
      refine yG.load xak rfl (fun _ _ => rfl) (v := yR k0) rfl rfl ?_
      refine yG.getS9 A_hp.1 (w_Big_limb W H_k0) q_r5 rfl rfl ?_
      refine yG.num (c := 0) rfl (fun _ _ => rfl) (by decide) ?_
      refine yG.lald A_hp.1 (v_Big_limb W H_r5) rfl (by omega) (by omega) (fun z8 e_z8 i_z8 l_z8 u_z8 => ?_)
      refine yG.bit64 rfl (fun _ _ => rfl) (fun z9 e_z9 l_z9 u_z9 => ?_)
      have b_z9 : z9 = (z6) * 2 ^ 30 + z8 := by rw [e_z9]; exact blor (by omega) (by omega) (by omega) (by omega)
      refine yG.ret rfl (fun _ _ => rfl) ?_
      exact (yP.long ⟨by omega, by omega⟩ ⟨⟨z9, rfl, by omega, by omega, by omega⟩, rfl⟩)
    · have c4 : (z3 : Int) = 1 := c4
      refine yG.load xak rfl (fun _ _ => rfl) (v := yR k0) rfl rfl ?_
      refine yG.getO A_hp.1 (w_Big_limb W H_k0) rfl rfl (fun r10 H_r10 O_r10 q_r10 => ?_)
      have O_r10 := O_r10 rfl
      refine yG.num (c := 0) rfl (fun _ _ => rfl) (by decide) ?_
      refine yG.lald A_hp.1 (v_Big_limb W H_r10) rfl (by omega) (by omega) (fun z11 e_z11 i_z11 l_z11 u_z11 => ?_)
      refine yG.goto rfl (t := 44) rfl ?_
      refine yG.ret rfl (fun _ _ => rfl) ?_
      exact (yP.long ⟨by omega, by omega⟩ ⟨⟨z11, rfl, by omega, by omega, by omega⟩, rfl⟩)
  · have c2 : (z1 : Int) = 0 := c2
    refine yG.numl (c := 0) rfl (fun _ _ => rfl) (by decide) ?_
    refine yG.goto rfl (t := 44) rfl ?_
    refine yG.ret rfl (fun _ _ => rfl) ?_
    exact (yP.long ⟨by omega, by omega⟩ ⟨⟨0, rfl, by omega, by omega, by omega⟩, rfl⟩)
theorem c_Big_put {hp : xH} (W : bW G) (d : Nat) (hT : zTy G hp) {k0 : Nat} (H_k0 : bRo G 35 k0) (p1 : Int) (h1l : (-9223372036854775808) ≤ p1) (h1u : p1 ≤ 9223372036854775807) : yC (xcall 89 xfts xpools xms (d + 2)) 64 [yR k0, yJ (p1)] hp (fun rv hp' => (rv = none ∧ True) ∧ bAx G [(34359738368, 1), (34359738368, 2), (68719476736, 256)] hp hp') := by
  have A_hp : bAx G [(34359738368, 1), (34359738368, 2), (68719476736, 256)] hp hp := bAx.rf hT
  obtain ⟨n_k0, N_k0⟩ : ∃ n : Int, n = ((zat G k0 : Nat) : Int) := ⟨_, rfl⟩
  have L_k0 := n_Big W H_k0
  have H : ∀ m : Nat, (∀ a3 : Int, ∀ hq, bAx G [(34359738368, 1), (34359738368, 2), (68719476736, 256)] hp hq → (-9223372036854775808) ≤ a3 → (-9223372036854775807) ≤ 0 - a3 → (-9223372036854775808) ≤ p1 → (-9223372036854775807) ≤ 0 - p1 → 12 ≤ n_k0 → (-96) ≤ 0 - n_k0 → (-9223372036854775807) ≤ a3 - p1 → 2 * a3 + 18446744073709551617 < (m : Int) → yG 89 xfts (xcall 89 xfts xpools xms (d + 1)) (xpool xp_RX0) [] xt_X0_put (yP 0 (fun rv hp' => (rv = none ∧ True) ∧ bAx G [(34359738368, 1), (34359738368, 2), (68719476736, 256)] hp hp')) (31 * m) 25 [(0, yR k0), (3, yJ (a3))] [] hq) := by
    intro m
    induction m with
    | zero =>
      intros; exfalso; omega
    | succ m ih =>
      have i_25 := ih
      clear ih
      intro a3 hq A_hq f0 f1 f2 f3 f4 f5 f6 hm
      refine yG.mono (N := 31 * m + 31) ?_ (by omega)
      refine yG.load xlk2 rfl (fun _ _ => rfl) (v := yJ (a3)) rfl rfl ?_
      refine yG.numl (c := 0) rfl (fun _ _ => rfl) (by decide) ?_
      refine yG.lcmp rfl ⟨by omega, by omega⟩ ⟨by omega, by omega⟩ (fun z1 e_z1 => ?_)
      refine yG.ifz rfl (t := 75) rfl ⟨by omega, by omega⟩ (fun c2 => ?_) (fun c2 => ?_)
      · have c2 : (z1 : Int) ≤ 0 := c2
        refine yG.ret rfl (fun _ _ => rfl) ?_
        exact (yP.void ⟨⟨rfl, trivial⟩, A_hq⟩)
      · have c2 : (z1 : Int) > 0 := c2
        refine yG.load xak rfl (fun _ _ => rfl) (v := yR k0) rfl rfl ?_
        refine yG.getN A_hq.1 (w_Big_size W H_k0) rfl rfl (fun z3 e_z3 i_z3 l_z3 u_z3 => ?_)
        refine yG.load xak rfl (fun _ _ => rfl) (v := yR k0) rfl rfl ?_
        refine yG.getO A_hq.1 (w_Big_limb W H_k0) rfl rfl (fun r4 H_r4 O_r4 q_r4 => ?_)
        have O_r4 := O_r4 rfl
        refine yG.alenF A_hq.1 (v_Big_limb W H_r4).yIF rfl ?_
        obtain ⟨z5, e_z5⟩ : ∃ z : Int, z = ((zat G r4 : Nat) : Int) := ⟨_, rfl⟩
        rw [← e_z5]
        refine yG.icmp rfl (t := 75) rfl ⟨by omega, by omega⟩ ⟨by omega, by omega⟩ (fun c6 => ?_) (fun c6 => ?_)
        · have c6 : (z3 : Int) ≥ z5 := c6
          refine yG.ret rfl (fun _ _ => rfl) ?_
          exact (yP.void ⟨⟨rfl, trivial⟩, A_hq⟩)
        · have c6 : (z3 : Int) < z5 := c6
          refine yG.load xak rfl (fun _ _ => rfl) (v := yR k0) rfl rfl ?_
          refine yG.getS9 A_hq.1 (w_Big_limb W H_k0) q_r4 rfl rfl ?_
          refine yG.load xak rfl (fun _ _ => rfl) (v := yR k0) rfl rfl ?_
          refine yG.getN A_hq.1 (w_Big_size W H_k0) rfl rfl (fun z7 e_z7 i_z7 l_z7 u_z7 => ?_)
          refine yG.load xlk2 rfl (fun _ _ => rfl) (v := yJ (a3)) rfl rfl ?_
          refine yG.numl (c := 1073741823) rfl (fun _ _ => rfl) (by decide) ?_
          refine yG.bit64 rfl (fun _ _ => rfl) (fun z8 e_z8 l_z8 u_z8 => ?_)
          have b_z8 : 0 ≤ z8 ∧ z8 ≤ 1073741823 := by rw [e_z8]; exact yland ⟨by decide, by decide⟩ (by decide)
          refine yG.last A_hq.1 (v_Big_limb W H_r4) (W.2.1 _ _ H_r4 (by decide) (by decide)) rfl (by omega) (by omega) ⟨by omega, by omega⟩ (by omega) (by omega) (fun h9 T_h9 b_h9 f_h9 y_h9 => ?_)
          have A_h9 := A_hq.put T_h9 b_h9 f_h9 H_r4 (bAll_ok (by decide) _)
          have : ys h9 k0 1 = ys hq k0 1 := (y_h9 k0 1).trans (if_neg (fun e => (bRo.ne H_k0 H_r4 (by decide)) e.1))
          have qq1 : zsl h9 k0 0 = yR r4 := ((f_h9 k0 0).trans (if_neg (fun e => (bRo.ne H_k0 H_r4 (by decide)) e.1))).trans q_r4
          refine yG.load xak rfl (fun _ _ => rfl) (v := yR k0) rfl rfl ?_
          refine yG.step (pc' := 59) (stk' := [yR k0, yR k0]) rfl (fun _ _ => rfl) ?_
          refine yG.getN A_h9.1 (w_Big_size W H_k0) rfl rfl (fun z10 e_z10 i_z10 l_z10 u_z10 => ?_)
          refine yG.num (c := 1) rfl (fun _ _ => rfl) (by decide) ?_
          refine yG.iadd rfl ?_
          refine yG.putN A_h9.1 (w_Big_size W H_k0) (W.2.1 _ _ H_k0 (by decide) (by decide)) rfl rfl rfl ⟨by omega, by omega⟩ (by omega) (by omega) (fun h11 T_h11 b_h11 f_h11 y_h11 => ?_)
          have A_h11 := A_h9.put T_h11 b_h11 f_h11 H_k0 (by decide)
          have qq2 : zsl h11 k0 0 = yR r4 := ((f_h11 k0 0).trans (if_neg (fun e => absurd e.2 (by decide)))).trans qq1
          have : ys h11 k0 1 = z10 + 1 := (y_h11 k0 1).trans (if_pos ⟨rfl, rfl⟩)
          refine yG.load xlk2 rfl (fun _ _ => rfl) (v := yJ (a3)) rfl rfl ?_
          refine yG.num (c := 30) rfl (fun _ _ => rfl) (by decide) ?_
          refine yG.bit64 rfl (fun _ _ => rfl) (fun z12 e_z12 l_z12 u_z12 => ?_)
          have b_z12 : z12 = ((zc64 (a3) : Nat) : Int) / 1073741824 := by rw [e_z12]; exact blushr (n := 30) (by decide) (by decide) (by decide)
          have c_z12 : zc64 (a3) < 18446744073709551616 := by unfold zc64; omega
          have d_z12 : ((zc64 (a3) : Nat) : Int) = a3 := by unfold zc64; omega
          refine yG.store2 xlk2 (L' := [(3, yJ (z12)), (0, yR k0)]) rfl (fun _ _ => rfl) rfl rfl ?_
          refine yG.goto rfl (t := 25) rfl ?_
          exact yG.mono (yG.sub (i_25 (z12)  h11 A_h11   (by omega) (by omega) (by omega) (by omega) (by omega) (by omega) (by omega) (by omega)) (ySub.cons rfl (ySub.cons rfl (ySub.nil)))) (by omega)
  refine yC.of (M := (xt_X0_put, (5, (0, (1, []))))) rfl rfl (N := 1143698132569992200254) (yfuel (by decide)) ?_
  show yG 89 xfts (xcall 89 xfts xpools xms (d + 1)) (xpool xp_RX0) [] xt_X0_put (yP 0 (fun rv hp' => (rv = none ∧ True) ∧ bAx G [(34359738368, 1), (34359738368, 2), (68719476736, 256)] hp hp')) 1143698132569992200254 0 [(0, yR k0), (1, yJ (p1))] [] hp
  have i_25 := H 36893488147419103233
  refine yG.load xak rfl (fun _ _ => rfl) (v := yR k0) rfl rfl ?_
  refine yG.load xlk2 rfl (fun _ _ => rfl) (v := yJ (p1)) rfl rfl ?_
  refine yG.numl (c := 0) rfl (fun _ _ => rfl) (by decide) ?_
  refine yG.lcmp rfl ⟨by omega, by omega⟩ ⟨by omega, by omega⟩ (fun z1 e_z1 => ?_)
  refine yG.ifz rfl (t := 11) rfl ⟨by omega, by omega⟩ (fun c2 => ?_) (fun c2 => ?_)
  · have c2 : (z1 : Int) ≥ 0 := c2
    refine yG.num (c := 0) rfl (fun _ _ => rfl) (by decide) ?_
    refine yG.putI A_hp.1 (w_Big_minus W H_k0) (W.2.1 _ _ H_k0 (by decide) (by decide)) rfl rfl (.inr ⟨rfl, rfl, rfl⟩) ⟨by omega, by omega⟩ (by omega) (by omega) (fun h3 T_h3 b_h3 f_h3 y_h3 => ?_)
    have A_h3 := A_hp.put T_h3 b_h3 f_h3 H_k0 (by decide)
    refine yG.load xak rfl (fun _ _ => rfl) (v := yR k0) rfl rfl ?_
    refine yG.num (c := 0) rfl (fun _ _ => rfl) (by decide) ?_
    refine yG.putN A_h3.1 (w_Big_size W H_k0) (W.2.1 _ _ H_k0 (by decide) (by decide)) rfl rfl rfl ⟨by omega, by omega⟩ (by omega) (by omega) (fun h4 T_h4 b_h4 f_h4 y_h4 => ?_)
    have A_h4 := A_h3.put T_h4 b_h4 f_h4 H_k0 (by decide)
    refine yG.load xlk2 rfl (fun _ _ => rfl) (v := yJ (p1)) rfl rfl ?_
    refine yG.invS (rest := []) rfl rfl rfl rfl (c_J9_absJ W d A_h4.1 (p1) (by omega) (by omega)) (fun rv hp9 q9 => ?_)
    obtain ⟨⟨z5, rfl, l_z5, u_z5, R_z5⟩, e9⟩ := q9
    rw [e9]
    show yG _ _ _ _ _ _ _ _ _ _ (yJ z5 :: []) _
    refine yG.store2 xlk2 (L' := [(3, yJ (z5)), (0, yR k0), (1, yJ (p1))]) rfl (fun _ _ => rfl) rfl rfl ?_
    exact yG.mono (yG.sub (i_25 (z5)  h4 A_h4   (by omega) (by omega) (by omega) (by omega) (by omega) (by omega) (by omega) (by omega)) (ySub.cons rfl (ySub.cons rfl (ySub.nil)))) (by omega)
  · have c2 : (z1 : Int) < 0 := c2
    refine yG.num (c := 1) rfl (fun _ _ => rfl) (by decide) ?_
    refine yG.goto rfl (t := 12) rfl ?_
    refine yG.putI A_hp.1 (w_Big_minus W H_k0) (W.2.1 _ _ H_k0 (by decide) (by decide)) rfl rfl (.inr ⟨rfl, rfl, rfl⟩) ⟨by omega, by omega⟩ (by omega) (by omega) (fun h6 T_h6 b_h6 f_h6 y_h6 => ?_)
    have A_h6 := A_hp.put T_h6 b_h6 f_h6 H_k0 (by decide)
    refine yG.load xak rfl (fun _ _ => rfl) (v := yR k0) rfl rfl ?_
    refine yG.num (c := 0) rfl (fun _ _ => rfl) (by decide) ?_
    refine yG.putN A_h6.1 (w_Big_size W H_k0) (W.2.1 _ _ H_k0 (by decide) (by decide)) rfl rfl rfl ⟨by omega, by omega⟩ (by omega) (by omega) (fun h7 T_h7 b_h7 f_h7 y_h7 => ?_)
    have A_h7 := A_h6.put T_h7 b_h7 f_h7 H_k0 (by decide)
    refine yG.load xlk2 rfl (fun _ _ => rfl) (v := yJ (p1)) rfl rfl ?_
    refine yG.invS (rest := []) rfl rfl rfl rfl (c_J9_absJ W d A_h7.1 (p1) (by omega) (by omega)) (fun rv hp9 q9 => ?_)
    obtain ⟨⟨z8, rfl, l_z8, u_z8, R_z8⟩, e9⟩ := q9
    rw [e9]
    show yG _ _ _ _ _ _ _ _ _ _ (yJ z8 :: []) _
    refine yG.store2 xlk2 (L' := [(3, yJ (z8)), (0, yR k0), (1, yJ (p1))]) rfl (fun _ _ => rfl) rfl rfl ?_
    exact yG.mono (yG.sub (i_25 (z8)  h7 A_h7   (by omega) (by omega) (by omega) (by omega) (by omega) (by omega) (by omega) (by omega)) (ySub.cons rfl (ySub.cons rfl (ySub.nil)))) (by omega)
theorem c_Big_negate {hp : xH} (W : bW G) (d : Nat) (hT : zTy G hp) {k0 : Nat} (H_k0 : bRo G 35 k0) : yC (xcall 89 xfts xpools xms (d + 1)) 62 [yR k0] hp (fun rv hp' => (rv = none ∧ True) ∧ bAx G [(34359738368, 2)] hp hp') := by
  have A_hp : bAx G [(34359738368, 2)] hp hp := bAx.rf hT
  obtain ⟨n_k0, N_k0⟩ : ∃ n : Int, n = ((zat G k0 : Nat) : Int) := ⟨_, rfl⟩
  have L_k0 := n_Big W H_k0
  refine yC.of (M := (xt_X0_negate, (1, (0, (1, []))))) rfl rfl (N := 39) (yfuel (by decide)) ?_
  show yG 89 xfts (xcall 89 xfts xpools xms d) (xpool xp_RX0) [] xt_X0_negate (yP 0 (fun rv hp' => (rv = none ∧ True) ∧ bAx G [(34359738368, 2)] hp hp')) 39 0 [(0, yR k0)] [] hp
  refine yG.load xak rfl (fun _ _ => rfl) (v := yR k0) rfl rfl ?_
  refine yG.load xak rfl (fun _ _ => rfl) (v := yR k0) rfl rfl ?_
  refine yG.getN A_hp.1 (w_Big_size W H_k0) rfl rfl (fun z1 e_z1 i_z1 l_z1 u_z1 => ?_)
  refine yG.ifz rfl (t := 19) rfl ⟨by omega, by omega⟩ (fun c2 => ?_) (fun c2 => ?_)
  · have c2 : (z1 : Int) ≤ 0 := c2
    refine yG.num (c := 0) rfl (fun _ _ => rfl) (by decide) ?_
    refine yG.putI A_hp.1 (w_Big_minus W H_k0) (W.2.1 _ _ H_k0 (by decide) (by decide)) rfl rfl (.inr ⟨rfl, rfl, rfl⟩) ⟨by omega, by omega⟩ (by omega) (by omega) (fun h3 T_h3 b_h3 f_h3 y_h3 => ?_)
    have A_h3 := A_hp.put T_h3 b_h3 f_h3 H_k0 (by decide)
    refine yG.ret rfl (fun _ _ => rfl) ?_
    exact (yP.void ⟨⟨rfl, trivial⟩, A_h3⟩)
  · have c2 : (z1 : Int) > 0 := c2
    refine yG.load xak rfl (fun _ _ => rfl) (v := yR k0) rfl rfl ?_
    refine yG.getI A_hp.1 (w_Big_minus W H_k0) rfl rfl (fun z4 e_z4 i_z4 l_z4 u_z4 => ?_)
    refine yG.ifz rfl (t := 19) rfl ⟨by omega, by omega⟩ (fun c5 => ?_) (fun c5 => ?_)
    · have c5 : (z4 : Int) ≠ 0 := c5
      refine yG.num (c := 0) rfl (fun _ _ => rfl) (by decide) ?_
      refine yG.putI A_hp.1 (w_Big_minus W H_k0) (W.2.1 _ _ H_k0 (by decide) (by decide)) rfl rfl (.inr ⟨rfl, rfl, rfl⟩) ⟨by omega, by omega⟩ (by omega) (by omega) (fun h6 T_h6 b_h6 f_h6 y_h6 => ?_)
      have A_h6 := A_hp.put T_h6 b_h6 f_h6 H_k0 (by decide)
      refine yG.ret rfl (fun _ _ => rfl) ?_
      exact (yP.void ⟨⟨rfl, trivial⟩, A_h6⟩)
    · have c5 : (z4 : Int) = 0 := c5
      refine yG.num (c := 1) rfl (fun _ _ => rfl) (by decide) ?_
      refine yG.goto rfl (t := 20) rfl ?_
      refine yG.putI A_hp.1 (w_Big_minus W H_k0) (W.2.1 _ _ H_k0 (by decide) (by decide)) rfl rfl (.inr ⟨rfl, rfl, rfl⟩) ⟨by omega, by omega⟩ (by omega) (by omega) (fun h7 T_h7 b_h7 f_h7 y_h7 => ?_)
      have A_h7 := A_hp.put T_h7 b_h7 f_h7 H_k0 (by decide)
      refine yG.ret rfl (fun _ _ => rfl) ?_
      exact (yP.void ⟨⟨rfl, trivial⟩, A_h7⟩)
theorem c_Big_unsign {hp : xH} (W : bW G) (d : Nat) (hT : zTy G hp) {k0 : Nat} (H_k0 : bRo G 35 k0) : yC (xcall 89 xfts xpools xms (d + 1)) 72 [yR k0] hp (fun rv hp' => (rv = none ∧ True) ∧ bAx G [(34359738368, 2)] hp hp') := by
  have A_hp : bAx G [(34359738368, 2)] hp hp := bAx.rf hT
  obtain ⟨n_k0, N_k0⟩ : ∃ n : Int, n = ((zat G k0 : Nat) : Int) := ⟨_, rfl⟩
  have L_k0 := n_Big W H_k0
  refine yC.of (M := (xt_X0_unsign, (1, (0, (1, []))))) rfl rfl (N := 18) (yfuel (by decide)) ?_
  show yG 89 xfts (xcall 89 xfts xpools xms d) (xpool xp_RX0) [] xt_X0_unsign (yP 0 (fun rv hp' => (rv = none ∧ True) ∧ bAx G [(34359738368, 2)] hp hp')) 18 0 [(0, yR k0)] [] hp
  refine yG.load xak rfl (fun _ _ => rfl) (v := yR k0) rfl rfl ?_
  refine yG.num (c := 0) rfl (fun _ _ => rfl) (by decide) ?_
  refine yG.putI A_hp.1 (w_Big_minus W H_k0) (W.2.1 _ _ H_k0 (by decide) (by decide)) rfl rfl (.inr ⟨rfl, rfl, rfl⟩) ⟨by omega, by omega⟩ (by omega) (by omega) (fun h1 T_h1 b_h1 f_h1 y_h1 => ?_)
  have A_h1 := A_hp.put T_h1 b_h1 f_h1 H_k0 (by decide)
  refine yG.ret rfl (fun _ _ => rfl) ?_
  exact (yP.void ⟨⟨rfl, trivial⟩, A_h1⟩)
theorem c_Big_trim {hp : xH} (W : bW G) (d : Nat) (hT : zTy G hp) {k0 : Nat} (H_k0 : bRo G 35 k0) : yC (xcall 89 xfts xpools xms (d + 1)) 71 [yR k0] hp (fun rv hp' => (rv = none ∧ True) ∧ bAx G [(34359738368, 1), (34359738368, 2)] hp hp') := by
  have A_hp : bAx G [(34359738368, 1), (34359738368, 2)] hp hp := bAx.rf hT
  obtain ⟨n_k0, N_k0⟩ : ∃ n : Int, n = ((zat G k0 : Nat) : Int) := ⟨_, rfl⟩
  have L_k0 := n_Big W H_k0
  have H : ∀ m : Nat, (∀ gg0 : Int, ∀ hq, bAx G [(34359738368, 1), (34359738368, 2)] hp hq → ys hq k0 1 = gg0 → 0 ≤ gg0 → (-95) ≤ 0 - gg0 → 12 ≤ n_k0 → (-96) ≤ 0 - n_k0 → 1 ≤ 0 - gg0 + n_k0 → 3 * gg0 + 2 < (m : Int) → yG 89 xfts (xcall 89 xfts xpools xms d) (xpool xp_RX0) [] xt_X0_trim (yP 0 (fun rv hp' => (rv = none ∧ True) ∧ bAx G [(34359738368, 1), (34359738368, 2)] hp hp')) (22 * m) 0 [(0, yR k0)] [] hq) ∧ (∀ gg0 : Int, ∀ hq, bAx G [(34359738368, 1), (34359738368, 2)] hp hq → ys hq k0 1 = gg0 → 0 ≤ gg0 → (-96) ≤ 0 - gg0 → 12 ≤ n_k0 → (-96) ≤ 0 - n_k0 → 0 ≤ 0 - gg0 + n_k0 → 1 < (m : Int) → yG 89 xfts (xcall 89 xfts xpools xms d) (xpool xp_RX0) [] xt_X0_trim (yP 0 (fun rv hp' => (rv = none ∧ True) ∧ bAx G [(34359738368, 1), (34359738368, 2)] hp hp')) (22 * m) 36 [(0, yR k0)] [] hq) := by
    intro m
    induction m with
    | zero =>
      refine ⟨?_, ?_⟩ <;> (intros; exfalso; omega)
    | succ m ih =>
      obtain ⟨i_0, i_36⟩ := ih
      refine ⟨?_, ?_⟩
      · intro gg0 hq A_hq E_0 f0 f1 f2 f3 f4 hm
        refine yG.mono (N := 22 * m + 22) ?_ (by omega)
        obtain ⟨-, -, g_0l, g_0u⟩ := (w_Big_size W H_k0).own A_hq.1
        refine yG.load xak rfl (fun _ _ => rfl) (v := yR k0) rfl rfl ?_
        refine yG.getN A_hq.1 (w_Big_size W H_k0) rfl rfl (fun z1 e_z1 i_z1 l_z1 u_z1 => ?_)
        refine yG.ifz rfl (t := 36) rfl ⟨by omega, by omega⟩ (fun c2 => ?_) (fun c2 => ?_)
        · have c2 : (z1 : Int) ≤ 0 := c2
          exact yG.mono (yG.sub (i_36  (ys hq k0 1) hq A_hq  rfl (by omega) (by omega) (by omega) (by omega) (by omega) (by omega)) (ySub.cons rfl (ySub.nil))) (by omega)
        · have c2 : (z1 : Int) > 0 := c2
          refine yG.load xak rfl (fun _ _ => rfl) (v := yR k0) rfl rfl ?_
          refine yG.getO A_hq.1 (w_Big_limb W H_k0) rfl rfl (fun r3 H_r3 O_r3 q_r3 => ?_)
          have O_r3 := O_r3 rfl
          refine yG.load xak rfl (fun _ _ => rfl) (v := yR k0) rfl rfl ?_
          refine yG.getN A_hq.1 (w_Big_size W H_k0) rfl rfl (fun z4 e_z4 i_z4 l_z4 u_z4 => ?_)
          refine yG.num (c := 1) rfl (fun _ _ => rfl) (by decide) ?_
          refine yG.isub rfl ?_
          refine yG.lald A_hq.1 (v_Big_limb W H_r3) rfl (by omega) (by omega) (fun z5 e_z5 i_z5 l_z5 u_z5 => ?_)
          refine yG.numl (c := 0) rfl (fun _ _ => rfl) (by decide) ?_
          refine yG.lcmp rfl ⟨by omega, by omega⟩ ⟨by omega, by omega⟩ (fun z6 e_z6 => ?_)
          refine yG.ifz rfl (t := 36) rfl ⟨by omega, by omega⟩ (fun c7 => ?_) (fun c7 => ?_)
          · have c7 : (z6 : Int) ≠ 0 := c7
            exact yG.mono (yG.sub (i_36  (ys hq k0 1) hq A_hq  rfl (by omega) (by omega) (by omega) (by omega) (by omega) (by omega)) (ySub.cons rfl (ySub.nil))) (by omega)
          · have c7 : (z6 : Int) = 0 := c7
            refine yG.load xak rfl (fun _ _ => rfl) (v := yR k0) rfl rfl ?_
            refine yG.step (pc' := 25) (stk' := [yR k0, yR k0]) rfl (fun _ _ => rfl) ?_
            refine yG.getN A_hq.1 (w_Big_size W H_k0) rfl rfl (fun z8 e_z8 i_z8 l_z8 u_z8 => ?_)
            refine yG.num (c := 1) rfl (fun _ _ => rfl) (by decide) ?_
            refine yG.isub rfl ?_
            refine yG.putN A_hq.1 (w_Big_size W H_k0) (W.2.1 _ _ H_k0 (by decide) (by decide)) rfl rfl rfl ⟨by omega, by omega⟩ (by omega) (by omega) (fun h9 T_h9 b_h9 f_h9 y_h9 => ?_)
            have A_h9 := A_hq.put T_h9 b_h9 f_h9 H_k0 (by decide)
            have : ys h9 k0 1 = z8 - 1 := (y_h9 k0 1).trans (if_pos ⟨rfl, rfl⟩)
            refine yG.goto rfl (t := 0) rfl ?_
            exact yG.mono (yG.sub (i_0  (ys h9 k0 1) h9 A_h9  rfl (by omega) (by omega) (by omega) (by omega) (by omega) (by omega)) (ySub.cons rfl (ySub.nil))) (by omega)
      · intro gg0 hq A_hq E_0 f0 f1 f2 f3 f4 hm
        refine yG.mono (N := 22 * m + 22) ?_ (by omega)
        obtain ⟨-, -, g_0l, g_0u⟩ := (w_Big_size W H_k0).own A_hq.1
        refine yG.load xak rfl (fun _ _ => rfl) (v := yR k0) rfl rfl ?_
        refine yG.load xak rfl (fun _ _ => rfl) (v := yR k0) rfl rfl ?_
        refine yG.getI A_hq.1 (w_Big_minus W H_k0) rfl rfl (fun z1 e_z1 i_z1 l_z1 u_z1 => ?_)
        refine yG.ifz rfl (t := 55) rfl ⟨by omega, by omega⟩ (fun c2 => ?_) (fun c2 => ?_)
        · have c2 : (z1 : Int) = 0 := c2
          refine yG.num (c := 0) rfl (fun _ _ => rfl) (by decide) ?_
          refine yG.putI A_hq.1 (w_Big_minus W H_k0) (W.2.1 _ _ H_k0 (by decide) (by decide)) rfl rfl (.inr ⟨rfl, rfl, rfl⟩) ⟨by omega, by omega⟩ (by omega) (by omega) (fun h3 T_h3 b_h3 f_h3 y_h3 => ?_)
          have A_h3 := A_hq.put T_h3 b_h3 f_h3 H_k0 (by decide)
          have : ys h3 k0 1 = ys hq k0 1 := (y_h3 k0 1).trans (if_neg (fun e => absurd e.2 (by decide)))
          refine yG.ret rfl (fun _ _ => rfl) ?_
          exact (yP.void ⟨⟨rfl, trivial⟩, A_h3⟩)
        · have c2 : (z1 : Int) ≠ 0 := c2
          refine yG.load xak rfl (fun _ _ => rfl) (v := yR k0) rfl rfl ?_
          refine yG.getN A_hq.1 (w_Big_size W H_k0) rfl rfl (fun z4 e_z4 i_z4 l_z4 u_z4 => ?_)
          refine yG.ifz rfl (t := 55) rfl ⟨by omega, by omega⟩ (fun c5 => ?_) (fun c5 => ?_)
          · have c5 : (z4 : Int) ≤ 0 := c5
            refine yG.num (c := 0) rfl (fun _ _ => rfl) (by decide) ?_
            refine yG.putI A_hq.1 (w_Big_minus W H_k0) (W.2.1 _ _ H_k0 (by decide) (by decide)) rfl rfl (.inr ⟨rfl, rfl, rfl⟩) ⟨by omega, by omega⟩ (by omega) (by omega) (fun h6 T_h6 b_h6 f_h6 y_h6 => ?_)
            have A_h6 := A_hq.put T_h6 b_h6 f_h6 H_k0 (by decide)
            have : ys h6 k0 1 = ys hq k0 1 := (y_h6 k0 1).trans (if_neg (fun e => absurd e.2 (by decide)))
            refine yG.ret rfl (fun _ _ => rfl) ?_
            exact (yP.void ⟨⟨rfl, trivial⟩, A_h6⟩)
          · have c5 : (z4 : Int) > 0 := c5
            refine yG.num (c := 1) rfl (fun _ _ => rfl) (by decide) ?_
            refine yG.goto rfl (t := 56) rfl ?_
            refine yG.putI A_hq.1 (w_Big_minus W H_k0) (W.2.1 _ _ H_k0 (by decide) (by decide)) rfl rfl (.inr ⟨rfl, rfl, rfl⟩) ⟨by omega, by omega⟩ (by omega) (by omega) (fun h7 T_h7 b_h7 f_h7 y_h7 => ?_)
            have A_h7 := A_hq.put T_h7 b_h7 f_h7 H_k0 (by decide)
            have : ys h7 k0 1 = ys hq k0 1 := (y_h7 k0 1).trans (if_neg (fun e => absurd e.2 (by decide)))
            refine yG.ret rfl (fun _ _ => rfl) ?_
            exact (yP.void ⟨⟨rfl, trivial⟩, A_h7⟩)
  refine yC.of (M := (xt_X0_trim, (1, (0, (1, []))))) rfl rfl (N := 6380) (yfuel (by decide)) ?_
  show yG 89 xfts (xcall 89 xfts xpools xms d) (xpool xp_RX0) [] xt_X0_trim (yP 0 (fun rv hp' => (rv = none ∧ True) ∧ bAx G [(34359738368, 1), (34359738368, 2)] hp hp')) 6380 0 [(0, yR k0)] [] hp
  obtain ⟨i_0, i_36⟩ := H 289
  obtain ⟨gg0, E_0⟩ : ∃ z : Int, ys hp k0 1 = z := ⟨_, rfl⟩
  obtain ⟨-, -, g_0l, g_0u⟩ := (w_Big_size W H_k0).own hT
  refine yG.load xak rfl (fun _ _ => rfl) (v := yR k0) rfl rfl ?_
  refine yG.getN A_hp.1 (w_Big_size W H_k0) rfl rfl (fun z1 e_z1 i_z1 l_z1 u_z1 => ?_)
  refine yG.ifz rfl (t := 36) rfl ⟨by omega, by omega⟩ (fun c2 => ?_) (fun c2 => ?_)
  · have c2 : (z1 : Int) ≤ 0 := c2
    exact yG.mono (yG.sub (i_36  (ys hp k0 1) hp A_hp  rfl (by omega) (by omega) (by omega) (by omega) (by omega) (by omega)) (ySub.cons rfl (ySub.nil))) (by omega)
  · have c2 : (z1 : Int) > 0 := c2
    refine yG.load xak rfl (fun _ _ => rfl) (v := yR k0) rfl rfl ?_
    refine yG.getO A_hp.1 (w_Big_limb W H_k0) rfl rfl (fun r3 H_r3 O_r3 q_r3 => ?_)
    have O_r3 := O_r3 rfl
    refine yG.load xak rfl (fun _ _ => rfl) (v := yR k0) rfl rfl ?_
    refine yG.getN A_hp.1 (w_Big_size W H_k0) rfl rfl (fun z4 e_z4 i_z4 l_z4 u_z4 => ?_)
    refine yG.num (c := 1) rfl (fun _ _ => rfl) (by decide) ?_
    refine yG.isub rfl ?_
    refine yG.lald A_hp.1 (v_Big_limb W H_r3) rfl (by omega) (by omega) (fun z5 e_z5 i_z5 l_z5 u_z5 => ?_)
    refine yG.numl (c := 0) rfl (fun _ _ => rfl) (by decide) ?_
    refine yG.lcmp rfl ⟨by omega, by omega⟩ ⟨by omega, by omega⟩ (fun z6 e_z6 => ?_)
    refine yG.ifz rfl (t := 36) rfl ⟨by omega, by omega⟩ (fun c7 => ?_) (fun c7 => ?_)
    · have c7 : (z6 : Int) ≠ 0 := c7
      exact yG.mono (yG.sub (i_36  (ys hp k0 1) hp A_hp  rfl (by omega) (by omega) (by omega) (by omega) (by omega) (by omega)) (ySub.cons rfl (ySub.nil))) (by omega)
    · have c7 : (z6 : Int) = 0 := c7
      refine yG.load xak rfl (fun _ _ => rfl) (v := yR k0) rfl rfl ?_
      refine yG.step (pc' := 25) (stk' := [yR k0, yR k0]) rfl (fun _ _ => rfl) ?_
      refine yG.getN A_hp.1 (w_Big_size W H_k0) rfl rfl (fun z8 e_z8 i_z8 l_z8 u_z8 => ?_)
      refine yG.num (c := 1) rfl (fun _ _ => rfl) (by decide) ?_
      refine yG.isub rfl ?_
      refine yG.putN A_hp.1 (w_Big_size W H_k0) (W.2.1 _ _ H_k0 (by decide) (by decide)) rfl rfl rfl ⟨by omega, by omega⟩ (by omega) (by omega) (fun h9 T_h9 b_h9 f_h9 y_h9 => ?_)
      have A_h9 := A_hp.put T_h9 b_h9 f_h9 H_k0 (by decide)
      have : ys h9 k0 1 = z8 - 1 := (y_h9 k0 1).trans (if_pos ⟨rfl, rfl⟩)
      refine yG.goto rfl (t := 0) rfl ?_
      exact yG.mono (yG.sub (i_0  (ys h9 k0 1) h9 A_h9  rfl (by omega) (by omega) (by omega) (by omega) (by omega) (by omega)) (ySub.cons rfl (ySub.nil))) (by omega)
theorem c_Big_copy {hp : xH} (W : bW G) (d : Nat) (hT : zTy G hp) {k0 : Nat} (H_k0 : bRo G 35 k0) {k1 : Nat} (H_k1 : bRo G 35 k1) : yC (xcall 89 xfts xpools xms (d + 2)) 52 [yR k0, yR k1] hp (fun rv hp' => (rv = none ∧ True) ∧ bAx G [(34359738368, 1), (34359738368, 2), (68719476736, 256)] hp hp') := by
  have A_hp : bAx G [(34359738368, 1), (34359738368, 2), (68719476736, 256)] hp hp := bAx.rf hT
  obtain ⟨n_k0, N_k0⟩ : ∃ n : Int, n = ((zat G k0 : Nat) : Int) := ⟨_, rfl⟩
  have L_k0 := n_Big W H_k0
  obtain ⟨n_k1, N_k1⟩ : ∃ n : Int, n = ((zat G k1 : Nat) : Int) := ⟨_, rfl⟩
  have L_k1 := n_Big W H_k1
  refine yC.of (M := (xt_X0_copy, (2, (0, (1, []))))) rfl rfl (N := 72) (yfuel (by decide)) ?_
  show yG 89 xfts (xcall 89 xfts xpools xms (d + 1)) (xpool xp_RX0) [] xt_X0_copy (yP 0 (fun rv hp' => (rv = none ∧ True) ∧ bAx G [(34359738368, 1), (34359738368, 2), (68719476736, 256)] hp hp')) 72 0 [(0, yR k0), (1, yR k1)] [] hp
  refine yG.load xak rfl (fun _ _ => rfl) (v := yR k0) rfl rfl ?_
  refine yG.load xak rfl (fun _ _ => rfl) (v := yR k1) rfl rfl ?_
  refine yG.getN A_hp.1 (w_Big_size W H_k1) rfl rfl (fun z1 e_z1 i_z1 l_z1 u_z1 => ?_)
  refine yG.load xak rfl (fun _ _ => rfl) (v := yR k0) rfl rfl ?_
  refine yG.getO A_hp.1 (w_Big_limb W H_k0) rfl rfl (fun r2 H_r2 O_r2 q_r2 => ?_)
  have O_r2 := O_r2 rfl
  refine yG.alenF A_hp.1 (v_Big_limb W H_r2).yIF rfl ?_
  obtain ⟨z3, e_z3⟩ : ∃ z : Int, z = ((zat G r2 : Nat) : Int) := ⟨_, rfl⟩
  rw [← e_z3]
  refine yG.invS (rest := [yR k0]) rfl rfl rfl rfl (c_J9_minI W d A_hp.1 (z1) (z3) (by omega) (by omega) (by omega) (by omega)) (fun rv hp9 q9 => ?_)
  obtain ⟨⟨z4, rfl, l_z4, u_z4, R_z4⟩, e9⟩ := q9
  rw [e9]
  show yG _ _ _ _ _ _ _ _ _ _ (yI z4 :: [yR k0]) _
  refine yG.putN A_hp.1 (w_Big_size W H_k0) (W.2.1 _ _ H_k0 (by decide) (by decide)) rfl rfl rfl ⟨by omega, by omega⟩ (by omega) (by omega) (fun h5 T_h5 b_h5 f_h5 y_h5 => ?_)
  have A_h5 := A_hp.put T_h5 b_h5 f_h5 H_k0 (by decide)
  have qq1 : zsl h5 k0 0 = yR r2 := ((f_h5 k0 0).trans (if_neg (fun e => absurd e.2 (by decide)))).trans q_r2
  have : ys h5 k0 1 = z4 := (y_h5 k0 1).trans (if_pos ⟨rfl, rfl⟩)
  refine yG.load xak rfl (fun _ _ => rfl) (v := yR k0) rfl rfl ?_
  refine yG.load xak rfl (fun _ _ => rfl) (v := yR k1) rfl rfl ?_
  refine yG.getI A_h5.1 (w_Big_minus W H_k1) rfl rfl (fun z6 e_z6 i_z6 l_z6 u_z6 => ?_)
  refine yG.putI A_h5.1 (w_Big_minus W H_k0) (W.2.1 _ _ H_k0 (by decide) (by decide)) rfl rfl (.inr ⟨rfl, rfl, rfl⟩) ⟨by omega, by omega⟩ (by omega) (by omega) (fun h7 T_h7 b_h7 f_h7 y_h7 => ?_)
  have A_h7 := A_h5.put T_h7 b_h7 f_h7 H_k0 (by decide)
  have qq2 : zsl h7 k0 0 = yR r2 := ((f_h7 k0 0).trans (if_neg (fun e => absurd e.2 (by decide)))).trans qq1
  have : ys h7 k0 1 = ys h5 k0 1 := (y_h7 k0 1).trans (if_neg (fun e => absurd e.2 (by decide)))
  refine yG.load xak rfl (fun _ _ => rfl) (v := yR k1) rfl rfl ?_
  refine yG.getO A_h7.1 (w_Big_limb W H_k1) rfl rfl (fun r8 H_r8 O_r8 q_r8 => ?_)
  have O_r8 := O_r8 rfl
  refine yG.num (c := 0) rfl (fun _ _ => rfl) (by decide) ?_
  refine yG.load xak rfl (fun _ _ => rfl) (v := yR k0) rfl rfl ?_
  refine yG.getS9 A_h7.1 (w_Big_limb W H_k0) qq2 rfl rfl ?_
  refine yG.num (c := 0) rfl (fun _ _ => rfl) (by decide) ?_
  refine yG.load xak rfl (fun _ _ => rfl) (v := yR k0) rfl rfl ?_
  refine yG.getN A_h7.1 (w_Big_size W H_k0) rfl rfl (fun z9 e_z9 i_z9 l_z9 u_z9 => ?_)
  refine yG.acopy (kt := 1) A_h7.1 (v_Big_limb W H_r8).yIF (v_Big_limb W H_r2).yIF (by decide) (fun _ => rfl) (W.2.1 _ _ H_r2 (by decide) (by decide)) rfl rfl (by omega) (by omega) (by omega) rfl (fun h10 T_h10 b_h10 f_h10 => ?_)
  have A_h10 := A_h7.putW T_h10 b_h10 f_h10 H_r2 (by decide)
  have qq3 : zsl h10 k0 0 = yR r2 := (f_h10 k0 0 (bRo.ne H_k0 H_r2 (by decide))).trans qq2
  have : ys h10 k0 1 = ys h7 k0 1 := congrArg ydec (f_h10 k0 1 (bRo.ne H_k0 H_r2 (by decide)))
  refine yG.ret rfl (fun _ _ => rfl) ?_
  exact (yP.void ⟨⟨rfl, trivial⟩, A_h10⟩)
theorem c_Big_compareSize {hp : xH} (W : bW G) (d : Nat) (hT : zTy G hp) {k0 : Nat} (H_k0 : bRo G 35 k0) {k1 : Nat} (H_k1 : bRo G 35 k1) : yC (xcall 89 xfts xpools xms (d + 1)) 51 [yR k0, yR k1] hp (bQpi hp (-1) 1 (fun _ => True)) := by
  have A_hp : bAx G [] hp hp := bAx.rf hT
  obtain ⟨n_k0, N_k0⟩ : ∃ n : Int, n = ((zat G k0 : Nat) : Int) := ⟨_, rfl⟩
  have L_k0 := n_Big W H_k0
  obtain ⟨n_k1, N_k1⟩ : ∃ n : Int, n = ((zat G k1 : Nat) : Int) := ⟨_, rfl⟩
  have L_k1 := n_Big W H_k1
  have H : ∀ m : Nat, (∀ a2 : Int, (-1) ≤ a2 → (-95) ≤ 0 - a2 → 12 ≤ n_k0 → (-96) ≤ 0 - n_k0 → 12 ≤ n_k1 → (-96) ≤ 0 - n_k1 → 1 ≤ 0 - a2 + n_k0 → 1 ≤ 0 - a2 + n_k1 → 2 * a2 + 3 < (m : Int) → yG 89 xfts (xcall 89 xfts xpools xms d) (xpool xp_RX0) [] xt_X0_compareSize (yP 1 (bQpi hp (-1) 1 (fun _ => True))) (27 * m) 35 [(0, yR k0), (1, yR k1), (2, yI (a2))] [] hp) := by
    intro m
    induction m with
    | zero =>
      intros; exfalso; omega
    | succ m ih =>
      have i_35 := ih
      clear ih
      intro a2 f0 f1 f2 f3 f4 f5 f6 f7 hm
      refine yG.mono (N := 27 * m + 27) ?_ (by omega)
      refine yG.load xik rfl (fun _ _ => rfl) (v := yI (a2)) rfl rfl ?_
      refine yG.ifz rfl (t := 83) rfl ⟨by omega, by omega⟩ (fun c1 => ?_) (fun c1 => ?_)
      · have c1 : (a2 : Int) < 0 := c1
        refine yG.num (c := 0) rfl (fun _ _ => rfl) (by decide) ?_
        refine yG.ret rfl (fun _ _ => rfl) ?_
        exact (yP.int ⟨by omega, by omega⟩ ⟨⟨0, rfl, by omega, by omega, trivial⟩, rfl⟩)
      · have c1 : (a2 : Int) ≥ 0 := c1
        refine yG.load xak rfl (fun _ _ => rfl) (v := yR k0) rfl rfl ?_
        refine yG.getO A_hp.1 (w_Big_limb W H_k0) rfl rfl (fun r2 H_r2 O_r2 q_r2 => ?_)
        have O_r2 := O_r2 rfl
        refine yG.load xik rfl (fun _ _ => rfl) (v := yI (a2)) rfl rfl ?_
        refine yG.lald A_hp.1 (v_Big_limb W H_r2) rfl (by omega) (by omega) (fun z3 e_z3 i_z3 l_z3 u_z3 => ?_)
        refine yG.load xak rfl (fun _ _ => rfl) (v := yR k1) rfl rfl ?_
        refine yG.getO A_hp.1 (w_Big_limb W H_k1) rfl rfl (fun r4 H_r4 O_r4 q_r4 => ?_)
        have O_r4 := O_r4 rfl
        refine yG.load xik rfl (fun _ _ => rfl) (v := yI (a2)) rfl rfl ?_
        refine yG.lald A_hp.1 (v_Big_limb W H_r4) rfl (by omega) (by omega) (fun z5 e_z5 i_z5 l_z5 u_z5 => ?_)
        refine yG.lcmp rfl ⟨by omega, by omega⟩ ⟨by omega, by omega⟩ (fun z6 e_z6 => ?_)
        refine yG.ifz rfl (t := 77) rfl ⟨by omega, by omega⟩ (fun c7 => ?_) (fun c7 => ?_)
        · have c7 : (z6 : Int) = 0 := c7
          refine yG.iinc rfl (a := a2) rfl (L' := [(2, yI (a2 + (-1))), (0, yR k0), (1, yR k1)]) rfl ?_
          refine yG.goto rfl (t := 35) rfl ?_
          exact yG.mono (yG.sub (i_35 (a2 + (-1))     (by omega) (by omega) (by omega) (by omega) (by omega) (by omega) (by omega) (by omega) (by omega)) (ySub.cons rfl (ySub.cons rfl (ySub.cons rfl (ySub.nil))))) (by omega)
        · have c7 : (z6 : Int) ≠ 0 := c7
          refine yG.load xak rfl (fun _ _ => rfl) (v := yR k0) rfl rfl ?_
          refine yG.getS9 A_hp.1 (w_Big_limb W H_k0) q_r2 rfl rfl ?_
          refine yG.load xik rfl (fun _ _ => rfl) (v := yI (a2)) rfl rfl ?_
          refine yG.lald A_hp.1 (v_Big_limb W H_r2) rfl (by omega) (by omega) (fun z8 e_z8 i_z8 l_z8 u_z8 => ?_)
          refine yG.load xak rfl (fun _ _ => rfl) (v := yR k1) rfl rfl ?_
          refine yG.getS9 A_hp.1 (w_Big_limb W H_k1) q_r4 rfl rfl ?_
          refine yG.load xik rfl (fun _ _ => rfl) (v := yI (a2)) rfl rfl ?_
          refine yG.lald A_hp.1 (v_Big_limb W H_r4) rfl (by omega) (by omega) (fun z9 e_z9 i_z9 l_z9 u_z9 => ?_)
          refine yG.lcmp rfl ⟨by omega, by omega⟩ ⟨by omega, by omega⟩ (fun z10 e_z10 => ?_)
          refine yG.ifz rfl (t := 75) rfl ⟨by omega, by omega⟩ (fun c11 => ?_) (fun c11 => ?_)
          · have c11 : (z10 : Int) ≥ 0 := c11
            refine yG.num (c := 1) rfl (fun _ _ => rfl) (by decide) ?_
            refine yG.ret rfl (fun _ _ => rfl) ?_
            exact (yP.int ⟨by omega, by omega⟩ ⟨⟨1, rfl, by omega, by omega, trivial⟩, rfl⟩)
          · have c11 : (z10 : Int) < 0 := c11
            refine yG.num (c := -1) rfl (fun _ _ => rfl) (by decide) ?_
            refine yG.goto rfl (t := 76) rfl ?_
            refine yG.ret rfl (fun _ _ => rfl) ?_
            exact (yP.int ⟨by omega, by omega⟩ ⟨⟨(-1), rfl, by omega, by omega, trivial⟩, rfl⟩)
  refine yC.of (M := (xt_X0_compareSize, (3, (1, (1, []))))) rfl rfl (N := 5292) (yfuel (by decide)) ?_
  show yG 89 xfts (xcall 89 xfts xpools xms d) (xpool xp_RX0) [] xt_X0_compareSize (yP 1 (bQpi hp (-1) 1 (fun _ => True))) 5292 0 [(0, yR k0), (1, yR k1)] [] hp
  have i_35 := H 195
  refine yG.load xak rfl (fun _ _ => rfl) (v := yR k0) rfl rfl ?_
  refine yG.getN A_hp.1 (w_Big_size W H_k0) rfl rfl (fun z1 e_z1 i_z1 l_z1 u_z1 => ?_)
  refine yG.load xak rfl (fun _ _ => rfl) (v := yR k1) rfl rfl ?_
  refine yG.getN A_hp.1 (w_Big_size W H_k1) rfl rfl (fun z2 e_z2 i_z2 l_z2 u_z2 => ?_)
  refine yG.icmp rfl (t := 28) rfl ⟨by omega, by omega⟩ ⟨by omega, by omega⟩ (fun c3 => ?_) (fun c3 => ?_)
  · have c3 : (z1 : Int) = z2 := c3
    refine yG.load xak rfl (fun _ _ => rfl) (v := yR k0) rfl rfl ?_
    refine yG.getN A_hp.1 (w_Big_size W H_k0) rfl rfl (fun z4 e_z4 i_z4 l_z4 u_z4 => ?_)
    refine yG.num (c := 1) rfl (fun _ _ => rfl) (by decide) ?_
    refine yG.isub rfl ?_
    obtain ⟨z5, e_z5⟩ : ∃ z : Int, z = z4 - 1 := ⟨_, rfl⟩
    rw [← e_z5]
    refine yG.store1 xik (L' := [(2, yI (z5)), (0, yR k0), (1, yR k1)]) rfl (fun _ _ => rfl) rfl rfl ?_
    exact yG.mono (yG.sub (i_35 (z5)     (by omega) (by omega) (by omega) (by omega) (by omega) (by omega) (by omega) (by omega) (by omega)) (ySub.cons rfl (ySub.cons rfl (ySub.cons rfl (ySub.nil))))) (by omega)
  · have c3 : (z1 : Int) ≠ z2 := c3
    refine yG.load xak rfl (fun _ _ => rfl) (v := yR k0) rfl rfl ?_
    refine yG.getN A_hp.1 (w_Big_size W H_k0) rfl rfl (fun z6 e_z6 i_z6 l_z6 u_z6 => ?_)
    refine yG.load xak rfl (fun _ _ => rfl) (v := yR k1) rfl rfl ?_
    refine yG.getN A_hp.1 (w_Big_size W H_k1) rfl rfl (fun z7 e_z7 i_z7 l_z7 u_z7 => ?_)
    refine yG.icmp rfl (t := 26) rfl ⟨by omega, by omega⟩ ⟨by omega, by omega⟩ (fun c8 => ?_) (fun c8 => ?_)
    · have c8 : (z6 : Int) ≥ z7 := c8
      refine yG.num (c := 1) rfl (fun _ _ => rfl) (by decide) ?_
      refine yG.ret rfl (fun _ _ => rfl) ?_
      exact (yP.int ⟨by omega, by omega⟩ ⟨⟨1, rfl, by omega, by omega, trivial⟩, rfl⟩)
    · have c8 : (z6 : Int) < z7 := c8
      refine yG.num (c := -1) rfl (fun _ _ => rfl) (by decide) ?_
      refine yG.goto rfl (t := 27) rfl ?_
      refine yG.ret rfl (fun _ _ => rfl) ?_
      exact (yP.int ⟨by omega, by omega⟩ ⟨⟨(-1), rfl, by omega, by omega, trivial⟩, rfl⟩)
theorem c_Big_compare {hp : xH} (W : bW G) (d : Nat) (hT : zTy G hp) {k0 : Nat} (H_k0 : bRo G 35 k0) {k1 : Nat} (H_k1 : bRo G 35 k1) : yC (xcall 89 xfts xpools xms (d + 2)) 50 [yR k0, yR k1] hp (bQpi hp (-1) 1 (fun _ => True)) := by
  have A_hp : bAx G [] hp hp := bAx.rf hT
  obtain ⟨n_k0, N_k0⟩ : ∃ n : Int, n = ((zat G k0 : Nat) : Int) := ⟨_, rfl⟩
  have L_k0 := n_Big W H_k0
  obtain ⟨n_k1, N_k1⟩ : ∃ n : Int, n = ((zat G k1 : Nat) : Int) := ⟨_, rfl⟩
  have L_k1 := n_Big W H_k1
  refine yC.of (M := (xt_X0_compare, (3, (1, (1, []))))) rfl rfl (N := 54) (yfuel (by decide)) ?_
  show yG 89 xfts (xcall 89 xfts xpools xms (d + 1)) (xpool xp_RX0) [] xt_X0_compare (yP 1 (bQpi hp (-1) 1 (fun _ => True))) 54 0 [(0, yR k0), (1, yR k1)] [] hp
  refine yG.load xak rfl (fun _ _ => rfl) (v := yR k0) rfl rfl ?_
  refine yG.getI A_hp.1 (w_Big_minus W H_k0) rfl rfl (fun z1 e_z1 i_z1 l_z1 u_z1 => ?_)
  refine yG.load xak rfl (fun _ _ => rfl) (v := yR k1) rfl rfl ?_
  refine yG.getI A_hp.1 (w_Big_minus W H_k1) rfl rfl (fun z2 e_z2 i_z2 l_z2 u_z2 => ?_)
  refine yG.icmp rfl (t := 24) rfl ⟨by omega, by omega⟩ ⟨by omega, by omega⟩ (fun c3 => ?_) (fun c3 => ?_)
  · have c3 : (z1 : Int) = z2 := c3
    refine yG.load xak rfl (fun _ _ => rfl) (v := yR k0) rfl rfl ?_
    refine yG.load xak rfl (fun _ _ => rfl) (v := yR k1) rfl rfl ?_
    refine yG.invV (rest := []) A_hp.1 (bOb (d_Big W) H_k0) rfl rfl rfl rfl (c_Big_compareSize W d A_hp.1 H_k0 H_k1) (fun rv hp9 q9 => ?_)
    obtain ⟨⟨z4, rfl, l_z4, u_z4, R_z4⟩, e9⟩ := q9
    rw [e9]
    show yG _ _ _ _ _ _ _ _ _ _ (yI z4 :: []) _
    refine yG.store1 xik (L' := [(2, yI (z4)), (0, yR k0), (1, yR k1)]) rfl (fun _ _ => rfl) rfl rfl ?_
    refine yG.load xak rfl (fun _ _ => rfl) (v := yR k0) rfl rfl ?_
    refine yG.getI A_hp.1 (w_Big_minus W H_k0) rfl rfl (fun z5 e_z5 i_z5 l_z5 u_z5 => ?_)
    refine yG.ifz rfl (t := 42) rfl ⟨by omega, by omega⟩ (fun c6 => ?_) (fun c6 => ?_)
    · have c6 : (z5 : Int) = 0 := c6
      refine yG.load xik rfl (fun _ _ => rfl) (v := yI (z4)) rfl rfl ?_
      refine yG.ret rfl (fun _ _ => rfl) ?_
      exact (yP.int ⟨by omega, by omega⟩ ⟨⟨z4, rfl, by omega, by omega, trivial⟩, rfl⟩)
    · have c6 : (z5 : Int) ≠ 0 := c6
      refine yG.load xik rfl (fun _ _ => rfl) (v := yI (z4)) rfl rfl ?_
      refine yG.ineg rfl ?_
      refine yG.goto rfl (t := 43) rfl ?_
      refine yG.ret rfl (fun _ _ => rfl) ?_
      exact (yP.int ⟨by omega, by omega⟩ ⟨⟨-(z4), rfl, by omega, by omega, trivial⟩, rfl⟩)
  · have c3 : (z1 : Int) ≠ z2 := c3
    refine yG.load xak rfl (fun _ _ => rfl) (v := yR k0) rfl rfl ?_
    refine yG.getI A_hp.1 (w_Big_minus W H_k0) rfl rfl (fun z7 e_z7 i_z7 l_z7 u_z7 => ?_)
    refine yG.ifz rfl (t := 22) rfl ⟨by omega, by omega⟩ (fun c8 => ?_) (fun c8 => ?_)
    · have c8 : (z7 : Int) = 0 := c8
      refine yG.num (c := 1) rfl (fun _ _ => rfl) (by decide) ?_
      refine yG.ret rfl (fun _ _ => rfl) ?_
      exact (yP.int ⟨by omega, by omega⟩ ⟨⟨1, rfl, by omega, by omega, trivial⟩, rfl⟩)
    · have c8 : (z7 : Int) ≠ 0 := c8
      refine yG.num (c := -1) rfl (fun _ _ => rfl) (by decide) ?_
      refine yG.goto rfl (t := 23) rfl ?_
      refine yG.ret rfl (fun _ _ => rfl) ?_
      exact (yP.int ⟨by omega, by omega⟩ ⟨⟨(-1), rfl, by omega, by omega, trivial⟩, rfl⟩)
theorem c_Big_grow {hp : xH} (W : bW G) (d : Nat) (hT : zTy G hp) {k0 : Nat} (H_k0 : bRo G 35 k0) {k1 : Nat} (H_k1 : bRo G 35 k1) : yC (xcall 89 xfts xpools xms (d + 2)) 54 [yR k0, yR k1] hp (fun rv hp' => (rv = none ∧ True) ∧ bAx G [(34359738368, 1), (68719476736, 256)] hp hp') := by
  have A_hp : bAx G [(34359738368, 1), (68719476736, 256)] hp hp := bAx.rf hT
  obtain ⟨n_k0, N_k0⟩ : ∃ n : Int, n = ((zat G k0 : Nat) : Int) := ⟨_, rfl⟩
  have L_k0 := n_Big W H_k0
  obtain ⟨n_k1, N_k1⟩ : ∃ n : Int, n = ((zat G k1 : Nat) : Int) := ⟨_, rfl⟩
  have L_k1 := n_Big W H_k1
  have H : ∀ m : Nat, (∀ a2 : Int, ∀ a3 : Int, ∀ a5 : Int, ∀ hq, bAx G [(34359738368, 1), (68719476736, 256)] hp hq → 0 ≤ a2 → (-96) ≤ 0 - a2 → 0 ≤ a3 → (-1) ≤ 0 - a3 → 0 ≤ a5 → (-96) ≤ 0 - a5 → 12 ≤ n_k0 → (-96) ≤ 0 - n_k0 → 12 ≤ n_k1 → (-96) ≤ 0 - n_k1 → 0 ≤ a2 - a5 → 0 ≤ 0 - a3 + a5 → 0 ≤ 0 - a5 + n_k0 → 0 - 3 * a5 + 290 < (m : Int) → yG 89 xfts (xcall 89 xfts xpools xms (d + 1)) (xpool xp_RX0) [] xt_X0_grow (yP 0 (fun rv hp' => (rv = none ∧ True) ∧ bAx G [(34359738368, 1), (68719476736, 256)] hp hp')) (45 * m) 17 [(0, yR k0), (1, yR k1), (2, yI (a2)), (3, yJ (a3)), (5, yI (a5))] [] hq) ∧ (∀ a2 : Int, ∀ a3 : Int, ∀ hq, bAx G [(34359738368, 1), (68719476736, 256)] hp hq → 0 ≤ a2 → (-96) ≤ 0 - a2 → 0 ≤ a3 → (-1) ≤ 0 - a3 → 12 ≤ n_k0 → (-96) ≤ 0 - n_k0 → 12 ≤ n_k1 → (-96) ≤ 0 - n_k1 → 0 ≤ a2 - a3 → 1 < (m : Int) → yG 89 xfts (xcall 89 xfts xpools xms (d + 1)) (xpool xp_RX0) [] xt_X0_grow (yP 0 (fun rv hp' => (rv = none ∧ True) ∧ bAx G [(34359738368, 1), (68719476736, 256)] hp hp')) (45 * m) 103 [(0, yR k0), (2, yI (a2)), (3, yJ (a3))] [] hq) := by
    intro m
    induction m with
    | zero =>
      refine ⟨?_, ?_⟩ <;> (intros; exfalso; omega)
    | succ m ih =>
      obtain ⟨i_17, i_103⟩ := ih
      refine ⟨?_, ?_⟩
      · intro a2 a3 a5 hq A_hq f0 f1 f2 f3 f4 f5 f6 f7 f8 f9 f10 f11 f12 hm
        refine yG.mono (N := 45 * m + 45) ?_ (by omega)
        refine yG.load xik rfl (fun _ _ => rfl) (v := yI (a5)) rfl rfl ?_
        refine yG.load xik rfl (fun _ _ => rfl) (v := yI (a2)) rfl rfl ?_
        refine yG.icmp rfl (t := 103) rfl ⟨by omega, by omega⟩ ⟨by omega, by omega⟩ (fun c1 => ?_) (fun c1 => ?_)
        · have c1 : (a5 : Int) ≥ a2 := c1
          exact yG.mono (yG.sub (i_103 (a2) (a3)  hq A_hq   (by omega) (by omega) (by omega) (by omega) (by omega) (by omega) (by omega) (by omega) (by omega) (by omega)) (ySub.cons rfl (ySub.cons rfl (ySub.cons rfl (ySub.nil))))) (by omega)
        · have c1 : (a5 : Int) < a2 := c1
          refine yG.load xik rfl (fun _ _ => rfl) (v := yI (a5)) rfl rfl ?_
          refine yG.load xak rfl (fun _ _ => rfl) (v := yR k0) rfl rfl ?_
          refine yG.getO A_hq.1 (w_Big_limb W H_k0) rfl rfl (fun r2 H_r2 O_r2 q_r2 => ?_)
          have O_r2 := O_r2 rfl
          refine yG.alenF A_hq.1 (v_Big_limb W H_r2).yIF rfl ?_
          obtain ⟨z3, e_z3⟩ : ∃ z : Int, z = ((zat G r2 : Nat) : Int) := ⟨_, rfl⟩
          rw [← e_z3]
          refine yG.icmp rfl (t := 103) rfl ⟨by omega, by omega⟩ ⟨by omega, by omega⟩ (fun c4 => ?_) (fun c4 => ?_)
          · have c4 : (a5 : Int) ≥ z3 := c4
            exact yG.mono (yG.sub (i_103 (a2) (a3)  hq A_hq   (by omega) (by omega) (by omega) (by omega) (by omega) (by omega) (by omega) (by omega) (by omega) (by omega)) (ySub.cons rfl (ySub.cons rfl (ySub.cons rfl (ySub.nil))))) (by omega)
          · have c4 : (a5 : Int) < z3 := c4
            refine yG.load xlk2 rfl (fun _ _ => rfl) (v := yJ (a3)) rfl rfl ?_
            refine yG.load xik rfl (fun _ _ => rfl) (v := yI (a5)) rfl rfl ?_
            refine yG.load xak rfl (fun _ _ => rfl) (v := yR k0) rfl rfl ?_
            refine yG.getN A_hq.1 (w_Big_size W H_k0) rfl rfl (fun z5 e_z5 i_z5 l_z5 u_z5 => ?_)
            refine yG.icmp rfl (t := 53) rfl ⟨by omega, by omega⟩ ⟨by omega, by omega⟩ (fun c6 => ?_) (fun c6 => ?_)
            · have c6 : (a5 : Int) ≥ z5 := c6
              refine yG.numl (c := 0) rfl (fun _ _ => rfl) (by decide) ?_
              refine yG.ladd rfl ?_
              refine yG.load xik rfl (fun _ _ => rfl) (v := yI (a5)) rfl rfl ?_
              refine yG.load xak rfl (fun _ _ => rfl) (v := yR k1) rfl rfl ?_
              refine yG.getN A_hq.1 (w_Big_size W H_k1) rfl rfl (fun z7 e_z7 i_z7 l_z7 u_z7 => ?_)
              refine yG.icmp rfl (t := 74) rfl ⟨by omega, by omega⟩ ⟨by omega, by omega⟩ (fun c8 => ?_) (fun c8 => ?_)
              · have c8 : (a5 : Int) ≥ z7 := c8
                refine yG.numl (c := 0) rfl (fun _ _ => rfl) (by decide) ?_
                refine yG.ladd rfl ?_
                obtain ⟨z9, e_z9⟩ : ∃ z : Int, z = (a3 + 0) + 0 := ⟨_, rfl⟩
                rw [← e_z9]
                refine yG.store2 xlk2 (L' := [(6, yJ (z9)), (0, yR k0), (1, yR k1), (2, yI (a2)), (3, yJ (a3)), (5, yI (a5))]) rfl (fun _ _ => rfl) rfl rfl ?_
                refine yG.load xak rfl (fun _ _ => rfl) (v := yR k0) rfl rfl ?_
                refine yG.getS9 A_hq.1 (w_Big_limb W H_k0) q_r2 rfl rfl ?_
                refine yG.load xik rfl (fun _ _ => rfl) (v := yI (a5)) rfl rfl ?_
                refine yG.load xlk2 rfl (fun _ _ => rfl) (v := yJ (z9)) rfl rfl ?_
                refine yG.numl (c := 1073741823) rfl (fun _ _ => rfl) (by decide) ?_
                refine yG.bit64 rfl (fun _ _ => rfl) (fun z10 e_z10 l_z10 u_z10 => ?_)
                have b_z10 : 0 ≤ z10 ∧ z10 ≤ 1073741823 := by rw [e_z10]; exact yland ⟨by decide, by decide⟩ (by decide)
                refine yG.last A_hq.1 (v_Big_limb W H_r2) (W.2.1 _ _ H_r2 (by decide) (by decide)) rfl (by omega) (by omega) ⟨by omega, by omega⟩ (by omega) (by omega) (fun h11 T_h11 b_h11 f_h11 y_h11 => ?_)
                have A_h11 := A_hq.put T_h11 b_h11 f_h11 H_r2 (bAll_ok (by decide) _)
                have qq1 : zsl h11 k0 0 = yR r2 := ((f_h11 k0 0).trans (if_neg (fun e => (bRo.ne H_k0 H_r2 (by decide)) e.1))).trans q_r2
                refine yG.load xlk2 rfl (fun _ _ => rfl) (v := yJ (z9)) rfl rfl ?_
                refine yG.num (c := 30) rfl (fun _ _ => rfl) (by decide) ?_
                refine yG.bit64 rfl (fun _ _ => rfl) (fun z12 e_z12 l_z12 u_z12 => ?_)
                have b_z12 : z12 = ((zc64 (z9) : Nat) : Int) / 1073741824 := by rw [e_z12]; exact blushr (n := 30) (by decide) (by decide) (by decide)
                have c_z12 : zc64 (z9) < 18446744073709551616 := by unfold zc64; omega
                have d_z12 : ((zc64 (z9) : Nat) : Int) = z9 := by unfold zc64; omega
                refine yG.store2 xlk2 (L' := [(3, yJ (z12)), (6, yJ (z9)), (0, yR k0), (1, yR k1), (2, yI (a2)), (5, yI (a5))]) rfl (fun _ _ => rfl) rfl rfl ?_
                refine yG.iinc rfl (a := a5) rfl (L' := [(5, yI (a5 + 1)), (3, yJ (z12)), (6, yJ (z9)), (0, yR k0), (1, yR k1), (2, yI (a2))]) rfl ?_
                refine yG.goto rfl (t := 17) rfl ?_
                exact yG.mono (yG.sub (i_17 (a2) (z12) (a5 + 1)  h11 A_h11   (by omega) (by omega) (by omega) (by omega) (by omega) (by omega) (by omega) (by omega) (by omega) (by omega) (by omega) (by omega) (by omega) (by omega)) (ySub.cons rfl (ySub.cons rfl (ySub.cons rfl (ySub.cons rfl (ySub.cons rfl (ySub.nil))))))) (by omega)
              · have c8 : (a5 : Int) < z7 := c8
                refine yG.load xak rfl (fun _ _ => rfl) (v := yR k1) rfl rfl ?_
                refine yG.getO A_hq.1 (w_Big_limb W H_k1) rfl rfl (fun r13 H_r13 O_r13 q_r13 => ?_)
                have O_r13 := O_r13 rfl
                refine yG.load xik rfl (fun _ _ => rfl) (v := yI (a5)) rfl rfl ?_
                refine yG.lald A_hq.1 (v_Big_limb W H_r13) rfl (by omega) (by omega) (fun z14 e_z14 i_z14 l_z14 u_z14 => ?_)
                refine yG.goto rfl (t := 75) rfl ?_
                refine yG.ladd rfl ?_
                obtain ⟨z15, e_z15⟩ : ∃ z : Int, z = (a3 + 0) + z14 := ⟨_, rfl⟩
                rw [← e_z15]
                refine yG.store2 xlk2 (L' := [(6, yJ (z15)), (0, yR k0), (1, yR k1), (2, yI (a2)), (3, yJ (a3)), (5, yI (a5))]) rfl (fun _ _ => rfl) rfl rfl ?_
                refine yG.load xak rfl (fun _ _ => rfl) (v := yR k0) rfl rfl ?_
                refine yG.getS9 A_hq.1 (w_Big_limb W H_k0) q_r2 rfl rfl ?_
                refine yG.load xik rfl (fun _ _ => rfl) (v := yI (a5)) rfl rfl ?_
                refine yG.load xlk2 rfl (fun _ _ => rfl) (v := yJ (z15)) rfl rfl ?_
                refine yG.numl (c := 1073741823) rfl (fun _ _ => rfl) (by decide) ?_
                refine yG.bit64 rfl (fun _ _ => rfl) (fun z16 e_z16 l_z16 u_z16 => ?_)
                have b_z16 : 0 ≤ z16 ∧ z16 ≤ 1073741823 := by rw [e_z16]; exact yland ⟨by decide, by decide⟩ (by decide)
                refine yG.last A_hq.1 (v_Big_limb W H_r2) (W.2.1 _ _ H_r2 (by decide) (by decide)) rfl (by omega) (by omega) ⟨by omega, by omega⟩ (by omega) (by omega) (fun h17 T_h17 b_h17 f_h17 y_h17 => ?_)
                have A_h17 := A_hq.put T_h17 b_h17 f_h17 H_r2 (bAll_ok (by decide) _)
                have qq2 : zsl h17 k0 0 = yR r2 := ((f_h17 k0 0).trans (if_neg (fun e => (bRo.ne H_k0 H_r2 (by decide)) e.1))).trans q_r2
                refine yG.load xlk2 rfl (fun _ _ => rfl) (v := yJ (z15)) rfl rfl ?_
                refine yG.num (c := 30) rfl (fun _ _ => rfl) (by decide) ?_
                refine yG.bit64 rfl (fun _ _ => rfl) (fun z18 e_z18 l_z18 u_z18 => ?_)
                have b_z18 : z18 = ((zc64 (z15) : Nat) : Int) / 1073741824 := by rw [e_z18]; exact blushr (n := 30) (by decide) (by decide) (by decide)
                have c_z18 : zc64 (z15) < 18446744073709551616 := by unfold zc64; omega
                have d_z18 : ((zc64 (z15) : Nat) : Int) = z15 := by unfold zc64; omega
                refine yG.store2 xlk2 (L' := [(3, yJ (z18)), (6, yJ (z15)), (0, yR k0), (1, yR k1), (2, yI (a2)), (5, yI (a5))]) rfl (fun _ _ => rfl) rfl rfl ?_
                refine yG.iinc rfl (a := a5) rfl (L' := [(5, yI (a5 + 1)), (3, yJ (z18)), (6, yJ (z15)), (0, yR k0), (1, yR k1), (2, yI (a2))]) rfl ?_
                refine yG.goto rfl (t := 17) rfl ?_
                exact yG.mono (yG.sub (i_17 (a2) (z18) (a5 + 1)  h17 A_h17   (by omega) (by omega) (by omega) (by omega) (by omega) (by omega) (by omega) (by omega) (by omega) (by omega) (by omega) (by omega) (by omega) (by omega)) (ySub.cons rfl (ySub.cons rfl (ySub.cons rfl (ySub.cons rfl (ySub.cons rfl (ySub.nil))))))) (by omega)
            · have c6 : (a5 : Int) < z5 := c6
              refine yG.load xak rfl (fun _ _ => rfl) (v := yR k0) rfl rfl ?_
              refine yG.getS9 A_hq.1 (w_Big_limb W H_k0) q_r2 rfl rfl ?_
              refine yG.load xik rfl (fun _ _ => rfl) (v := yI (a5)) rfl rfl ?_
              refine yG.lald A_hq.1 (v_Big_limb W H_r2) rfl (by omega) (by omega) (fun z19 e_z19 i_z19 l_z19 u_z19 => ?_)
              refine yG.goto rfl (t := 54) rfl ?_
              refine yG.ladd rfl ?_
              refine yG.load xik rfl (fun _ _ => rfl) (v := yI (a5)) rfl rfl ?_
              refine yG.load xak rfl (fun _ _ => rfl) (v := yR k1) rfl rfl ?_
              refine yG.getN A_hq.1 (w_Big_size W H_k1) rfl rfl (fun z20 e_z20 i_z20 l_z20 u_z20 => ?_)
              refine yG.icmp rfl (t := 74) rfl ⟨by omega, by omega⟩ ⟨by omega, by omega⟩ (fun c21 => ?_) (fun c21 => ?_)
              · have c21 : (a5 : Int) ≥ z20 := c21
                refine yG.numl (c := 0) rfl (fun _ _ => rfl) (by decide) ?_
                refine yG.ladd rfl ?_
                obtain ⟨z22, e_z22⟩ : ∃ z : Int, z = (a3 + z19) + 0 := ⟨_, rfl⟩
                rw [← e_z22]
                refine yG.store2 xlk2 (L' := [(6, yJ (z22)), (0, yR k0), (1, yR k1), (2, yI (a2)), (3, yJ (a3)), (5, yI (a5))]) rfl (fun _ _ => rfl) rfl rfl ?_
                refine yG.load xak rfl (fun _ _ => rfl) (v := yR k0) rfl rfl ?_
                refine yG.getS9 A_hq.1 (w_Big_limb W H_k0) q_r2 rfl rfl ?_
                refine yG.load xik rfl (fun _ _ => rfl) (v := yI (a5)) rfl rfl ?_
                refine yG.load xlk2 rfl (fun _ _ => rfl) (v := yJ (z22)) rfl rfl ?_
                refine yG.numl (c := 1073741823) rfl (fun _ _ => rfl) (by decide) ?_
                refine yG.bit64 rfl (fun _ _ => rfl) (fun z23 e_z23 l_z23 u_z23 => ?_)
                have b_z23 : 0 ≤ z23 ∧ z23 ≤ 1073741823 := by rw [e_z23]; exact yland ⟨by decide, by decide⟩ (by decide)
                refine yG.last A_hq.1 (v_Big_limb W H_r2) (W.2.1 _ _ H_r2 (by decide) (by decide)) rfl (by omega) (by omega) ⟨by omega, by omega⟩ (by omega) (by omega) (fun h24 T_h24 b_h24 f_h24 y_h24 => ?_)
                have A_h24 := A_hq.put T_h24 b_h24 f_h24 H_r2 (bAll_ok (by decide) _)
                have qq3 : zsl h24 k0 0 = yR r2 := ((f_h24 k0 0).trans (if_neg (fun e => (bRo.ne H_k0 H_r2 (by decide)) e.1))).trans q_r2
                refine yG.load xlk2 rfl (fun _ _ => rfl) (v := yJ (z22)) rfl rfl ?_
                refine yG.num (c := 30) rfl (fun _ _ => rfl) (by decide) ?_
                refine yG.bit64 rfl (fun _ _ => rfl) (fun z25 e_z25 l_z25 u_z25 => ?_)
                have b_z25 : z25 = ((zc64 (z22) : Nat) : Int) / 1073741824 := by rw [e_z25]; exact blushr (n := 30) (by decide) (by decide) (by decide)
                have c_z25 : zc64 (z22) < 18446744073709551616 := by unfold zc64; omega
                have d_z25 : ((zc64 (z22) : Nat) : Int) = z22 := by unfold zc64; omega
                refine yG.store2 xlk2 (L' := [(3, yJ (z25)), (6, yJ (z22)), (0, yR k0), (1, yR k1), (2, yI (a2)), (5, yI (a5))]) rfl (fun _ _ => rfl) rfl rfl ?_
                refine yG.iinc rfl (a := a5) rfl (L' := [(5, yI (a5 + 1)), (3, yJ (z25)), (6, yJ (z22)), (0, yR k0), (1, yR k1), (2, yI (a2))]) rfl ?_
                refine yG.goto rfl (t := 17) rfl ?_
                exact yG.mono (yG.sub (i_17 (a2) (z25) (a5 + 1)  h24 A_h24   (by omega) (by omega) (by omega) (by omega) (by omega) (by omega) (by omega) (by omega) (by omega) (by omega) (by omega) (by omega) (by omega) (by omega)) (ySub.cons rfl (ySub.cons rfl (ySub.cons rfl (ySub.cons rfl (ySub.cons rfl (ySub.nil))))))) (by omega)
              · have c21 : (a5 : Int) < z20 := c21
                refine yG.load xak rfl (fun _ _ => rfl) (v := yR k1) rfl rfl ?_
                refine yG.getO A_hq.1 (w_Big_limb W H_k1) rfl rfl (fun r26 H_r26 O_r26 q_r26 => ?_)
                have O_r26 := O_r26 rfl
                refine yG.load xik rfl (fun _ _ => rfl) (v := yI (a5)) rfl rfl ?_
                refine yG.lald A_hq.1 (v_Big_limb W H_r26) rfl (by omega) (by omega) (fun z27 e_z27 i_z27 l_z27 u_z27 => ?_)
                refine yG.goto rfl (t := 75) rfl ?_
                refine yG.ladd rfl ?_
                obtain ⟨z28, e_z28⟩ : ∃ z : Int, z = (a3 + z19) + z27 := ⟨_, rfl⟩
                rw [← e_z28]
                refine yG.store2 xlk2 (L' := [(6, yJ (z28)), (0, yR k0), (1, yR k1), (2, yI (a2)), (3, yJ (a3)), (5, yI (a5))]) rfl (fun _ _ => rfl) rfl rfl ?_
                refine yG.load xak rfl (fun _ _ => rfl) (v := yR k0) rfl rfl ?_
                refine yG.getS9 A_hq.1 (w_Big_limb W H_k0) q_r2 rfl rfl ?_
                refine yG.load xik rfl (fun _ _ => rfl) (v := yI (a5)) rfl rfl ?_
                refine yG.load xlk2 rfl (fun _ _ => rfl) (v := yJ (z28)) rfl rfl ?_
                refine yG.numl (c := 1073741823) rfl (fun _ _ => rfl) (by decide) ?_
                refine yG.bit64 rfl (fun _ _ => rfl) (fun z29 e_z29 l_z29 u_z29 => ?_)
                have b_z29 : 0 ≤ z29 ∧ z29 ≤ 1073741823 := by rw [e_z29]; exact yland ⟨by decide, by decide⟩ (by decide)
                refine yG.last A_hq.1 (v_Big_limb W H_r2) (W.2.1 _ _ H_r2 (by decide) (by decide)) rfl (by omega) (by omega) ⟨by omega, by omega⟩ (by omega) (by omega) (fun h30 T_h30 b_h30 f_h30 y_h30 => ?_)
                have A_h30 := A_hq.put T_h30 b_h30 f_h30 H_r2 (bAll_ok (by decide) _)
                have qq4 : zsl h30 k0 0 = yR r2 := ((f_h30 k0 0).trans (if_neg (fun e => (bRo.ne H_k0 H_r2 (by decide)) e.1))).trans q_r2
                refine yG.load xlk2 rfl (fun _ _ => rfl) (v := yJ (z28)) rfl rfl ?_
                refine yG.num (c := 30) rfl (fun _ _ => rfl) (by decide) ?_
                refine yG.bit64 rfl (fun _ _ => rfl) (fun z31 e_z31 l_z31 u_z31 => ?_)
                have b_z31 : z31 = ((zc64 (z28) : Nat) : Int) / 1073741824 := by rw [e_z31]; exact blushr (n := 30) (by decide) (by decide) (by decide)
                have c_z31 : zc64 (z28) < 18446744073709551616 := by unfold zc64; omega
                have d_z31 : ((zc64 (z28) : Nat) : Int) = z28 := by unfold zc64; omega
                refine yG.store2 xlk2 (L' := [(3, yJ (z31)), (6, yJ (z28)), (0, yR k0), (1, yR k1), (2, yI (a2)), (5, yI (a5))]) rfl (fun _ _ => rfl) rfl rfl ?_
                refine yG.iinc rfl (a := a5) rfl (L' := [(5, yI (a5 + 1)), (3, yJ (z31)), (6, yJ (z28)), (0, yR k0), (1, yR k1), (2, yI (a2))]) rfl ?_
                refine yG.goto rfl (t := 17) rfl ?_
                exact yG.mono (yG.sub (i_17 (a2) (z31) (a5 + 1)  h30 A_h30   (by omega) (by omega) (by omega) (by omega) (by omega) (by omega) (by omega) (by omega) (by omega) (by omega) (by omega) (by omega) (by omega) (by omega)) (ySub.cons rfl (ySub.cons rfl (ySub.cons rfl (ySub.cons rfl (ySub.cons rfl (ySub.nil))))))) (by omega)
      · intro a2 a3 hq A_hq f0 f1 f2 f3 f4 f5 f6 f7 f8 hm
        refine yG.mono (N := 45 * m + 45) ?_ (by omega)
        refine yG.load xak rfl (fun _ _ => rfl) (v := yR k0) rfl rfl ?_
        refine yG.load xik rfl (fun _ _ => rfl) (v := yI (a2)) rfl rfl ?_
        refine yG.load xak rfl (fun _ _ => rfl) (v := yR k0) rfl rfl ?_
        refine yG.getO A_hq.1 (w_Big_limb W H_k0) rfl rfl (fun r1 H_r1 O_r1 q_r1 => ?_)
        have O_r1 := O_r1 rfl
        refine yG.alenF A_hq.1 (v_Big_limb W H_r1).yIF rfl ?_
        obtain ⟨z2, e_z2⟩ : ∃ z : Int, z = ((zat G r1 : Nat) : Int) := ⟨_, rfl⟩
        rw [← e_z2]
        refine yG.invS (rest := [yR k0]) rfl rfl rfl rfl (c_J9_minI W d A_hq.1 (a2) (z2) (by omega) (by omega) (by omega) (by omega)) (fun rv hp9 q9 => ?_)
        obtain ⟨⟨z3, rfl, l_z3, u_z3, R_z3⟩, e9⟩ := q9
        rw [e9]
        show yG _ _ _ _ _ _ _ _ _ _ (yI z3 :: [yR k0]) _
        refine yG.putN A_hq.1 (w_Big_size W H_k0) (W.2.1 _ _ H_k0 (by decide) (by decide)) rfl rfl rfl ⟨by omega, by omega⟩ (by omega) (by omega) (fun h4 T_h4 b_h4 f_h4 y_h4 => ?_)
        have A_h4 := A_hq.put T_h4 b_h4 f_h4 H_k0 (by decide)
        have qq1 : zsl h4 k0 0 = yR r1 := ((f_h4 k0 0).trans (if_neg (fun e => absurd e.2 (by decide)))).trans q_r1
        have : ys h4 k0 1 = z3 := (y_h4 k0 1).trans (if_pos ⟨rfl, rfl⟩)
        refine yG.load xlk2 rfl (fun _ _ => rfl) (v := yJ (a3)) rfl rfl ?_
        refine yG.numl (c := 0) rfl (fun _ _ => rfl) (by decide) ?_
        refine yG.lcmp rfl ⟨by omega, by omega⟩ ⟨by omega, by omega⟩ (fun z5 e_z5 => ?_)
        refine yG.ifz rfl (t := 154) rfl ⟨by omega, by omega⟩ (fun c6 => ?_) (fun c6 => ?_)
        · have c6 : (z5 : Int) ≤ 0 := c6
          refine yG.ret rfl (fun _ _ => rfl) ?_
          exact (yP.void ⟨⟨rfl, trivial⟩, A_h4⟩)
        · have c6 : (z5 : Int) > 0 := c6
          refine yG.load xak rfl (fun _ _ => rfl) (v := yR k0) rfl rfl ?_
          refine yG.getN A_h4.1 (w_Big_size W H_k0) rfl rfl (fun z7 e_z7 i_z7 l_z7 u_z7 => ?_)
          refine yG.load xak rfl (fun _ _ => rfl) (v := yR k0) rfl rfl ?_
          refine yG.getS9 A_h4.1 (w_Big_limb W H_k0) qq1 rfl rfl ?_
          refine yG.alenF A_h4.1 (v_Big_limb W H_r1).yIF rfl ?_
          obtain ⟨z8, e_z8⟩ : ∃ z : Int, z = ((zat G r1 : Nat) : Int) := ⟨_, rfl⟩
          rw [← e_z8]
          refine yG.icmp rfl (t := 154) rfl ⟨by omega, by omega⟩ ⟨by omega, by omega⟩ (fun c9 => ?_) (fun c9 => ?_)
          · have c9 : (z7 : Int) ≥ z8 := c9
            refine yG.ret rfl (fun _ _ => rfl) ?_
            exact (yP.void ⟨⟨rfl, trivial⟩, A_h4⟩)
          · have c9 : (z7 : Int) < z8 := c9
            refine yG.load xak rfl (fun _ _ => rfl) (v := yR k0) rfl rfl ?_
            refine yG.getS9 A_h4.1 (w_Big_limb W H_k0) qq1 rfl rfl ?_
            refine yG.load xak rfl (fun _ _ => rfl) (v := yR k0) rfl rfl ?_
            refine yG.getN A_h4.1 (w_Big_size W H_k0) rfl rfl (fun z10 e_z10 i_z10 l_z10 u_z10 => ?_)
            refine yG.load xlk2 rfl (fun _ _ => rfl) (v := yJ (a3)) rfl rfl ?_
            refine yG.last A_h4.1 (v_Big_limb W H_r1) (W.2.1 _ _ H_r1 (by decide) (by decide)) rfl (by omega) (by omega) ⟨by omega, by omega⟩ (by omega) (by omega) (fun h11 T_h11 b_h11 f_h11 y_h11 => ?_)
            have A_h11 := A_h4.put T_h11 b_h11 f_h11 H_r1 (bAll_ok (by decide) _)
            have qq2 : zsl h11 k0 0 = yR r1 := ((f_h11 k0 0).trans (if_neg (fun e => (bRo.ne H_k0 H_r1 (by decide)) e.1))).trans qq1
            have : ys h11 k0 1 = ys h4 k0 1 := (y_h11 k0 1).trans (if_neg (fun e => (bRo.ne H_k0 H_r1 (by decide)) e.1))
            refine yG.load xak rfl (fun _ _ => rfl) (v := yR k0) rfl rfl ?_
            refine yG.step (pc' := 146) (stk' := [yR k0, yR k0]) rfl (fun _ _ => rfl) ?_
            refine yG.getN A_h11.1 (w_Big_size W H_k0) rfl rfl (fun z12 e_z12 i_z12 l_z12 u_z12 => ?_)
            refine yG.num (c := 1) rfl (fun _ _ => rfl) (by decide) ?_
            refine yG.iadd rfl ?_
            refine yG.putN A_h11.1 (w_Big_size W H_k0) (W.2.1 _ _ H_k0 (by decide) (by decide)) rfl rfl rfl ⟨by omega, by omega⟩ (by omega) (by omega) (fun h13 T_h13 b_h13 f_h13 y_h13 => ?_)
            have A_h13 := A_h11.put T_h13 b_h13 f_h13 H_k0 (by decide)
            have qq3 : zsl h13 k0 0 = yR r1 := ((f_h13 k0 0).trans (if_neg (fun e => absurd e.2 (by decide)))).trans qq2
            have : ys h13 k0 1 = z12 + 1 := (y_h13 k0 1).trans (if_pos ⟨rfl, rfl⟩)
            refine yG.ret rfl (fun _ _ => rfl) ?_
            exact (yP.void ⟨⟨rfl, trivial⟩, A_h13⟩)
  refine yC.of (M := (xt_X0_grow, (8, (0, (1, []))))) rfl rfl (N := 13185) (yfuel (by decide)) ?_
  show yG 89 xfts (xcall 89 xfts xpools xms (d + 1)) (xpool xp_RX0) [] xt_X0_grow (yP 0 (fun rv hp' => (rv = none ∧ True) ∧ bAx G [(34359738368, 1), (68719476736, 256)] hp hp')) 13185 0 [(0, yR k0), (1, yR k1)] [] hp
  obtain ⟨i_17, i_103⟩ := H 292
  refine yG.load xak rfl (fun _ _ => rfl) (v := yR k0) rfl rfl ?_
  refine yG.getN A_hp.1 (w_Big_size W H_k0) rfl rfl (fun z1 e_z1 i_z1 l_z1 u_z1 => ?_)
  refine yG.load xak rfl (fun _ _ => rfl) (v := yR k1) rfl rfl ?_
  refine yG.getN A_hp.1 (w_Big_size W H_k1) rfl rfl (fun z2 e_z2 i_z2 l_z2 u_z2 => ?_)
  refine yG.invS (rest := []) rfl rfl rfl rfl (c_J9_maxI W d A_hp.1 (z1) (z2) (by omega) (by omega) (by omega) (by omega)) (fun rv hp9 q9 => ?_)
  obtain ⟨⟨z3, rfl, l_z3, u_z3, R_z3⟩, e9⟩ := q9
  rw [e9]
  show yG _ _ _ _ _ _ _ _ _ _ (yI z3 :: []) _
  refine yG.store1 xik (L' := [(2, yI (z3)), (0, yR k0), (1, yR k1)]) rfl (fun _ _ => rfl) rfl rfl ?_
  refine yG.numl (c := 0) rfl (fun _ _ => rfl) (by decide) ?_
  refine yG.store2 xlk2 (L' := [(3, yJ (0)), (2, yI (z3)), (0, yR k0), (1, yR k1)]) rfl (fun _ _ => rfl) rfl rfl ?_
  refine yG.num (c := 0) rfl (fun _ _ => rfl) (by decide) ?_
  refine yG.store1 xik (L' := [(5, yI (0)), (3, yJ (0)), (2, yI (z3)), (0, yR k0), (1, yR k1)]) rfl (fun _ _ => rfl) rfl rfl ?_
  exact yG.mono (yG.sub (i_17 (z3) (0) (0)  hp A_hp   (by omega) (by omega) (by omega) (by omega) (by omega) (by omega) (by omega) (by omega) (by omega) (by omega) (by omega) (by omega) (by omega) (by omega)) (ySub.cons rfl (ySub.cons rfl (ySub.cons rfl (ySub.cons rfl (ySub.cons rfl (ySub.nil))))))) (by omega)
theorem c_Big_shrink {hp : xH} (W : bW G) (d : Nat) (hT : zTy G hp) {k0 : Nat} (H_k0 : bRo G 35 k0) {k1 : Nat} (H_k1 : bRo G 35 k1) {k2 : Nat} (H_k2 : bRo G 35 k2) : yC (xcall 89 xfts xpools xms (d + 2)) 67 [yR k0, yR k1, yR k2] hp (fun rv hp' => (rv = none ∧ True) ∧ bAx G [(34359738368, 1), (34359738368, 2), (68719476736, 256)] hp hp') := by
  have A_hp : bAx G [(34359738368, 1), (34359738368, 2), (68719476736, 256)] hp hp := bAx.rf hT
  obtain ⟨n_k0, N_k0⟩ : ∃ n : Int, n = ((zat G k0 : Nat) : Int) := ⟨_, rfl⟩
  have L_k0 := n_Big W H_k0
  obtain ⟨n_k1, N_k1⟩ : ∃ n : Int, n = ((zat G k1 : Nat) : Int) := ⟨_, rfl⟩
  have L_k1 := n_Big W H_k1
  obtain ⟨n_k2, N_k2⟩ : ∃ n : Int, n = ((zat G k2 : Nat) : Int) := ⟨_, rfl⟩
  have L_k2 := n_Big W H_k2
  have H : ∀ m : Nat, (∀ a3 : Int, ∀ a5 : Int, ∀ a6 : Int, ∀ hq, bAx G [(34359738368, 1), (34359738368, 2), (68719476736, 256)] hp hq → 0 ≤ a3 → (-1) ≤ 0 - a3 → 0 ≤ a5 → (-96) ≤ 0 - a5 → 0 ≤ a6 → (-96) ≤ 0 - a6 → 12 ≤ n_k0 → (-96) ≤ 0 - n_k0 → 12 ≤ n_k1 → (-96) ≤ 0 - n_k1 → 12 ≤ n_k2 → (-96) ≤ 0 - n_k2 → 0 ≤ a5 - a6 → 0 ≤ 0 - a3 + a6 → 0 ≤ 0 - a5 + n_k0 → 0 ≤ 0 - a5 + n_k1 → 0 - 292 * a6 + 28323 < (m : Int) → yG 89 xfts (xcall 89 xfts xpools xms (d + 1)) (xpool xp_RX0) [] xt_X0_shrink (yP 0 (fun rv hp' => (rv = none ∧ True) ∧ bAx G [(34359738368, 1), (34359738368, 2), (68719476736, 256)] hp hp')) (38 * m) 19 [(0, yR k0), (1, yR k1), (2, yR k2), (3, yJ (a3)), (5, yI (a5)), (6, yI (a6))] [] hq) ∧ (∀ a5 : Int, ∀ hq, bAx G [(34359738368, 1), (34359738368, 2), (68719476736, 256)] hp hq → 0 ≤ a5 → (-96) ≤ 0 - a5 → 12 ≤ n_k0 → (-96) ≤ 0 - n_k0 → 12 ≤ n_k1 → (-96) ≤ 0 - n_k1 → 12 ≤ n_k2 → (-96) ≤ 0 - n_k2 → 0 ≤ 0 - a5 + n_k0 → 0 ≤ 0 - a5 + n_k1 → 3 * a5 + 2 < (m : Int) → yG 89 xfts (xcall 89 xfts xpools xms (d + 1)) (xpool xp_RX0) [] xt_X0_shrink (yP 0 (fun rv hp' => (rv = none ∧ True) ∧ bAx G [(34359738368, 1), (34359738368, 2), (68719476736, 256)] hp hp')) (38 * m) 90 [(0, yR k0), (5, yI (a5))] [] hq) ∧ (∀ a5 : Int, ∀ hq, bAx G [(34359738368, 1), (34359738368, 2), (68719476736, 256)] hp hq → 0 ≤ a5 → (-96) ≤ 0 - a5 → 12 ≤ n_k0 → (-96) ≤ 0 - n_k0 → 12 ≤ n_k1 → (-96) ≤ 0 - n_k1 → 12 ≤ n_k2 → (-96) ≤ 0 - n_k2 → 0 ≤ 0 - a5 + n_k0 → 0 ≤ 0 - a5 + n_k1 → 1 < (m : Int) → yG 89 xfts (xcall 89 xfts xpools xms (d + 1)) (xpool xp_RX0) [] xt_X0_shrink (yP 0 (fun rv hp' => (rv = none ∧ True) ∧ bAx G [(34359738368, 1), (34359738368, 2), (68719476736, 256)] hp hp')) (38 * m) 115 [(0, yR k0), (5, yI (a5))] [] hq) := by
    intro m
    induction m with
    | zero =>
      refine ⟨?_, ?_, ?_⟩ <;> (intros; exfalso; omega)
    | succ m ih =>
      obtain ⟨i_19, i_90, i_115⟩ := ih
      refine ⟨?_, ?_, ?_⟩
      · intro a3 a5 a6 hq A_hq f0 f1 f2 f3 f4 f5 f6 f7 f8 f9 f10 f11 f12 f13 f14 f15 hm
        refine yG.mono (N := 38 * m + 38) ?_ (by omega)
        refine yG.load xik rfl (fun _ _ => rfl) (v := yI (a6)) rfl rfl ?_
        refine yG.load xik rfl (fun _ _ => rfl) (v := yI (a5)) rfl rfl ?_
        refine yG.icmp rfl (t := 90) rfl ⟨by omega, by omega⟩ ⟨by omega, by omega⟩ (fun c1 => ?_) (fun c1 => ?_)
        · have c1 : (a6 : Int) ≥ a5 := c1
          exact yG.mono (yG.sub (i_90 (a5)  hq A_hq   (by omega) (by omega) (by omega) (by omega) (by omega) (by omega) (by omega) (by omega) (by omega) (by omega) (by omega)) (ySub.cons rfl (ySub.cons rfl (ySub.nil)))) (by omega)
        · have c1 : (a6 : Int) < a5 := c1
          refine yG.load xak rfl (fun _ _ => rfl) (v := yR k1) rfl rfl ?_
          refine yG.getO A_hq.1 (w_Big_limb W H_k1) rfl rfl (fun r2 H_r2 O_r2 q_r2 => ?_)
          have O_r2 := O_r2 rfl
          refine yG.load xik rfl (fun _ _ => rfl) (v := yI (a6)) rfl rfl ?_
          refine yG.lald A_hq.1 (v_Big_limb W H_r2) rfl (by omega) (by omega) (fun z3 e_z3 i_z3 l_z3 u_z3 => ?_)
          refine yG.load xik rfl (fun _ _ => rfl) (v := yI (a6)) rfl rfl ?_
          refine yG.load xak rfl (fun _ _ => rfl) (v := yR k2) rfl rfl ?_
          refine yG.getN A_hq.1 (w_Big_size W H_k2) rfl rfl (fun z4 e_z4 i_z4 l_z4 u_z4 => ?_)
          refine yG.icmp rfl (t := 52) rfl ⟨by omega, by omega⟩ ⟨by omega, by omega⟩ (fun c5 => ?_) (fun c5 => ?_)
          · have c5 : (a6 : Int) ≥ z4 := c5
            refine yG.numl (c := 0) rfl (fun _ _ => rfl) (by decide) ?_
            refine yG.lsub rfl ?_
            refine yG.load xlk2 rfl (fun _ _ => rfl) (v := yJ (a3)) rfl rfl ?_
            refine yG.lsub rfl ?_
            obtain ⟨z6, e_z6⟩ : ∃ z : Int, z = (z3 - 0) - a3 := ⟨_, rfl⟩
            rw [← e_z6]
            refine yG.store2 xlk2 (L' := [(7, yJ (z6)), (0, yR k0), (1, yR k1), (2, yR k2), (3, yJ (a3)), (5, yI (a5)), (6, yI (a6))]) rfl (fun _ _ => rfl) rfl rfl ?_
            refine yG.load xlk2 rfl (fun _ _ => rfl) (v := yJ (z6)) rfl rfl ?_
            refine yG.numl (c := 0) rfl (fun _ _ => rfl) (by decide) ?_
            refine yG.lcmp rfl ⟨by omega, by omega⟩ ⟨by omega, by omega⟩ (fun z7 e_z7 => ?_)
            refine yG.ifz rfl (t := 69) rfl ⟨by omega, by omega⟩ (fun c8 => ?_) (fun c8 => ?_)
            · have c8 : (z7 : Int) ≥ 0 := c8
              refine yG.numl (c := 0) rfl (fun _ _ => rfl) (by decide) ?_
              refine yG.store2 xlk2 (L' := [(3, yJ (0)), (7, yJ (z6)), (0, yR k0), (1, yR k1), (2, yR k2), (5, yI (a5)), (6, yI (a6))]) rfl (fun _ _ => rfl) rfl rfl ?_
              refine yG.load xak rfl (fun _ _ => rfl) (v := yR k0) rfl rfl ?_
              refine yG.getO A_hq.1 (w_Big_limb W H_k0) rfl rfl (fun r9 H_r9 O_r9 q_r9 => ?_)
              have O_r9 := O_r9 rfl
              refine yG.load xik rfl (fun _ _ => rfl) (v := yI (a6)) rfl rfl ?_
              refine yG.load xlk2 rfl (fun _ _ => rfl) (v := yJ (z6)) rfl rfl ?_
              refine yG.numl (c := 1073741823) rfl (fun _ _ => rfl) (by decide) ?_
              refine yG.bit64 rfl (fun _ _ => rfl) (fun z10 e_z10 l_z10 u_z10 => ?_)
              have b_z10 : 0 ≤ z10 ∧ z10 ≤ 1073741823 := by rw [e_z10]; exact yland ⟨by decide, by decide⟩ (by decide)
              refine yG.last A_hq.1 (v_Big_limb W H_r9) (W.2.1 _ _ H_r9 (by decide) (by decide)) rfl (by omega) (by omega) ⟨by omega, by omega⟩ (by omega) (by omega) (fun h11 T_h11 b_h11 f_h11 y_h11 => ?_)
              have A_h11 := A_hq.put T_h11 b_h11 f_h11 H_r9 (bAll_ok (by decide) _)
              refine yG.iinc rfl (a := a6) rfl (L' := [(6, yI (a6 + 1)), (3, yJ (0)), (7, yJ (z6)), (0, yR k0), (1, yR k1), (2, yR k2), (5, yI (a5))]) rfl ?_
              refine yG.goto rfl (t := 19) rfl ?_
              exact yG.mono (yG.sub (i_19 (0) (a5) (a6 + 1)  h11 A_h11   (by omega) (by omega) (by omega) (by omega) (by omega) (by omega) (by omega) (by omega) (by omega) (by omega) (by omega) (by omega) (by omega) (by omega) (by omega) (by omega) (by omega)) (ySub.cons rfl (ySub.cons rfl (ySub.cons rfl (ySub.cons rfl (ySub.cons rfl (ySub.cons rfl (ySub.nil)))))))) (by omega)
            · have c8 : (z7 : Int) < 0 := c8
              refine yG.numl (c := 1) rfl (fun _ _ => rfl) (by decide) ?_
              refine yG.goto rfl (t := 70) rfl ?_
              refine yG.store2 xlk2 (L' := [(3, yJ (1)), (7, yJ (z6)), (0, yR k0), (1, yR k1), (2, yR k2), (5, yI (a5)), (6, yI (a6))]) rfl (fun _ _ => rfl) rfl rfl ?_
              refine yG.load xak rfl (fun _ _ => rfl) (v := yR k0) rfl rfl ?_
              refine yG.getO A_hq.1 (w_Big_limb W H_k0) rfl rfl (fun r12 H_r12 O_r12 q_r12 => ?_)
              have O_r12 := O_r12 rfl
              refine yG.load xik rfl (fun _ _ => rfl) (v := yI (a6)) rfl rfl ?_
              refine yG.load xlk2 rfl (fun _ _ => rfl) (v := yJ (z6)) rfl rfl ?_
              refine yG.numl (c := 1073741823) rfl (fun _ _ => rfl) (by decide) ?_
              refine yG.bit64 rfl (fun _ _ => rfl) (fun z13 e_z13 l_z13 u_z13 => ?_)
              have b_z13 : 0 ≤ z13 ∧ z13 ≤ 1073741823 := by rw [e_z13]; exact yland ⟨by decide, by decide⟩ (by decide)
              refine yG.last A_hq.1 (v_Big_limb W H_r12) (W.2.1 _ _ H_r12 (by decide) (by decide)) rfl (by omega) (by omega) ⟨by omega, by omega⟩ (by omega) (by omega) (fun h14 T_h14 b_h14 f_h14 y_h14 => ?_)
              have A_h14 := A_hq.put T_h14 b_h14 f_h14 H_r12 (bAll_ok (by decide) _)
              refine yG.iinc rfl (a := a6) rfl (L' := [(6, yI (a6 + 1)), (3, yJ (1)), (7, yJ (z6)), (0, yR k0), (1, yR k1), (2, yR k2), (5, yI (a5))]) rfl ?_
              refine yG.goto rfl (t := 19) rfl ?_
              exact yG.mono (yG.sub (i_19 (1) (a5) (a6 + 1)  h14 A_h14   (by omega) (by omega) (by omega) (by omega) (by omega) (by omega) (by omega) (by omega) (by omega) (by omega) (by omega) (by omega) (by omega) (by omega) (by omega) (by omega) (by omega)) (ySub.cons rfl (ySub.cons rfl (ySub.cons rfl (ySub.cons rfl (ySub.cons rfl (ySub.cons rfl (ySub.nil)))))))) (by omega)
          · have c5 : (a6 : Int) < z4 := c5
            refine yG.load xak rfl (fun _ _ => rfl) (v := yR k2) rfl rfl ?_
            refine yG.getO A_hq.1 (w_Big_limb W H_k2) rfl rfl (fun r15 H_r15 O_r15 q_r15 => ?_)
            have O_r15 := O_r15 rfl
            refine yG.load xik rfl (fun _ _ => rfl) (v := yI (a6)) rfl rfl ?_
            refine yG.lald A_hq.1 (v_Big_limb W H_r15) rfl (by omega) (by omega) (fun z16 e_z16 i_z16 l_z16 u_z16 => ?_)
            refine yG.goto rfl (t := 53) rfl ?_
            refine yG.lsub rfl ?_
            refine yG.load xlk2 rfl (fun _ _ => rfl) (v := yJ (a3)) rfl rfl ?_
            refine yG.lsub rfl ?_
            obtain ⟨z17, e_z17⟩ : ∃ z : Int, z = (z3 - z16) - a3 := ⟨_, rfl⟩
            rw [← e_z17]
            refine yG.store2 xlk2 (L' := [(7, yJ (z17)), (0, yR k0), (1, yR k1), (2, yR k2), (3, yJ (a3)), (5, yI (a5)), (6, yI (a6))]) rfl (fun _ _ => rfl) rfl rfl ?_
            refine yG.load xlk2 rfl (fun _ _ => rfl) (v := yJ (z17)) rfl rfl ?_
            refine yG.numl (c := 0) rfl (fun _ _ => rfl) (by decide) ?_
            refine yG.lcmp rfl ⟨by omega, by omega⟩ ⟨by omega, by omega⟩ (fun z18 e_z18 => ?_)
            refine yG.ifz rfl (t := 69) rfl ⟨by omega, by omega⟩ (fun c19 => ?_) (fun c19 => ?_)
            · have c19 : (z18 : Int) ≥ 0 := c19
              refine yG.numl (c := 0) rfl (fun _ _ => rfl) (by decide) ?_
              refine yG.store2 xlk2 (L' := [(3, yJ (0)), (7, yJ (z17)), (0, yR k0), (1, yR k1), (2, yR k2), (5, yI (a5)), (6, yI (a6))]) rfl (fun _ _ => rfl) rfl rfl ?_
              refine yG.load xak rfl (fun _ _ => rfl) (v := yR k0) rfl rfl ?_
              refine yG.getO A_hq.1 (w_Big_limb W H_k0) rfl rfl (fun r20 H_r20 O_r20 q_r20 => ?_)
              have O_r20 := O_r20 rfl
              refine yG.load xik rfl (fun _ _ => rfl) (v := yI (a6)) rfl rfl ?_
              refine yG.load xlk2 rfl (fun _ _ => rfl) (v := yJ (z17)) rfl rfl ?_
              refine yG.numl (c := 1073741823) rfl (fun _ _ => rfl) (by decide) ?_
              refine yG.bit64 rfl (fun _ _ => rfl) (fun z21 e_z21 l_z21 u_z21 => ?_)
              have b_z21 : 0 ≤ z21 ∧ z21 ≤ 1073741823 := by rw [e_z21]; exact yland ⟨by decide, by decide⟩ (by decide)
              refine yG.last A_hq.1 (v_Big_limb W H_r20) (W.2.1 _ _ H_r20 (by decide) (by decide)) rfl (by omega) (by omega) ⟨by omega, by omega⟩ (by omega) (by omega) (fun h22 T_h22 b_h22 f_h22 y_h22 => ?_)
              have A_h22 := A_hq.put T_h22 b_h22 f_h22 H_r20 (bAll_ok (by decide) _)
              refine yG.iinc rfl (a := a6) rfl (L' := [(6, yI (a6 + 1)), (3, yJ (0)), (7, yJ (z17)), (0, yR k0), (1, yR k1), (2, yR k2), (5, yI (a5))]) rfl ?_
              refine yG.goto rfl (t := 19) rfl ?_
              exact yG.mono (yG.sub (i_19 (0) (a5) (a6 + 1)  h22 A_h22   (by omega) (by omega) (by omega) (by omega) (by omega) (by omega) (by omega) (by omega) (by omega) (by omega) (by omega) (by omega) (by omega) (by omega) (by omega) (by omega) (by omega)) (ySub.cons rfl (ySub.cons rfl (ySub.cons rfl (ySub.cons rfl (ySub.cons rfl (ySub.cons rfl (ySub.nil)))))))) (by omega)
            · have c19 : (z18 : Int) < 0 := c19
              refine yG.numl (c := 1) rfl (fun _ _ => rfl) (by decide) ?_
              refine yG.goto rfl (t := 70) rfl ?_
              refine yG.store2 xlk2 (L' := [(3, yJ (1)), (7, yJ (z17)), (0, yR k0), (1, yR k1), (2, yR k2), (5, yI (a5)), (6, yI (a6))]) rfl (fun _ _ => rfl) rfl rfl ?_
              refine yG.load xak rfl (fun _ _ => rfl) (v := yR k0) rfl rfl ?_
              refine yG.getO A_hq.1 (w_Big_limb W H_k0) rfl rfl (fun r23 H_r23 O_r23 q_r23 => ?_)
              have O_r23 := O_r23 rfl
              refine yG.load xik rfl (fun _ _ => rfl) (v := yI (a6)) rfl rfl ?_
              refine yG.load xlk2 rfl (fun _ _ => rfl) (v := yJ (z17)) rfl rfl ?_
              refine yG.numl (c := 1073741823) rfl (fun _ _ => rfl) (by decide) ?_
              refine yG.bit64 rfl (fun _ _ => rfl) (fun z24 e_z24 l_z24 u_z24 => ?_)
              have b_z24 : 0 ≤ z24 ∧ z24 ≤ 1073741823 := by rw [e_z24]; exact yland ⟨by decide, by decide⟩ (by decide)
              refine yG.last A_hq.1 (v_Big_limb W H_r23) (W.2.1 _ _ H_r23 (by decide) (by decide)) rfl (by omega) (by omega) ⟨by omega, by omega⟩ (by omega) (by omega) (fun h25 T_h25 b_h25 f_h25 y_h25 => ?_)
              have A_h25 := A_hq.put T_h25 b_h25 f_h25 H_r23 (bAll_ok (by decide) _)
              refine yG.iinc rfl (a := a6) rfl (L' := [(6, yI (a6 + 1)), (3, yJ (1)), (7, yJ (z17)), (0, yR k0), (1, yR k1), (2, yR k2), (5, yI (a5))]) rfl ?_
              refine yG.goto rfl (t := 19) rfl ?_
              exact yG.mono (yG.sub (i_19 (1) (a5) (a6 + 1)  h25 A_h25   (by omega) (by omega) (by omega) (by omega) (by omega) (by omega) (by omega) (by omega) (by omega) (by omega) (by omega) (by omega) (by omega) (by omega) (by omega) (by omega) (by omega)) (ySub.cons rfl (ySub.cons rfl (ySub.cons rfl (ySub.cons rfl (ySub.cons rfl (ySub.cons rfl (ySub.nil)))))))) (by omega)
      · intro a5 hq A_hq f0 f1 f2 f3 f4 f5 f6 f7 f8 f9 hm
        refine yG.mono (N := 38 * m + 38) ?_ (by omega)
        refine yG.load xik rfl (fun _ _ => rfl) (v := yI (a5)) rfl rfl ?_
        refine yG.ifz rfl (t := 115) rfl ⟨by omega, by omega⟩ (fun c1 => ?_) (fun c1 => ?_)
        · have c1 : (a5 : Int) ≤ 0 := c1
          exact yG.mono (yG.sub (i_115 (a5)  hq A_hq   (by omega) (by omega) (by omega) (by omega) (by omega) (by omega) (by omega) (by omega) (by omega) (by omega) (by omega)) (ySub.cons rfl (ySub.cons rfl (ySub.nil)))) (by omega)
        · have c1 : (a5 : Int) > 0 := c1
          refine yG.load xak rfl (fun _ _ => rfl) (v := yR k0) rfl rfl ?_
          refine yG.getO A_hq.1 (w_Big_limb W H_k0) rfl rfl (fun r2 H_r2 O_r2 q_r2 => ?_)
          have O_r2 := O_r2 rfl
          refine yG.load xik rfl (fun _ _ => rfl) (v := yI (a5)) rfl rfl ?_
          refine yG.num (c := 1) rfl (fun _ _ => rfl) (by decide) ?_
          refine yG.isub rfl ?_
          refine yG.lald A_hq.1 (v_Big_limb W H_r2) rfl (by omega) (by omega) (fun z3 e_z3 i_z3 l_z3 u_z3 => ?_)
          refine yG.numl (c := 0) rfl (fun _ _ => rfl) (by decide) ?_
          refine yG.lcmp rfl ⟨by omega, by omega⟩ ⟨by omega, by omega⟩ (fun z4 e_z4 => ?_)
          refine yG.ifz rfl (t := 115) rfl ⟨by omega, by omega⟩ (fun c5 => ?_) (fun c5 => ?_)
          · have c5 : (z4 : Int) ≠ 0 := c5
            exact yG.mono (yG.sub (i_115 (a5)  hq A_hq   (by omega) (by omega) (by omega) (by omega) (by omega) (by omega) (by omega) (by omega) (by omega) (by omega) (by omega)) (ySub.cons rfl (ySub.cons rfl (ySub.nil)))) (by omega)
          · have c5 : (z4 : Int) = 0 := c5
            refine yG.iinc rfl (a := a5) rfl (L' := [(5, yI (a5 + (-1))), (0, yR k0)]) rfl ?_
            refine yG.goto rfl (t := 90) rfl ?_
            exact yG.mono (yG.sub (i_90 (a5 + (-1))  hq A_hq   (by omega) (by omega) (by omega) (by omega) (by omega) (by omega) (by omega) (by omega) (by omega) (by omega) (by omega)) (ySub.cons rfl (ySub.cons rfl (ySub.nil)))) (by omega)
      · intro a5 hq A_hq f0 f1 f2 f3 f4 f5 f6 f7 f8 f9 hm
        refine yG.mono (N := 38 * m + 38) ?_ (by omega)
        refine yG.load xak rfl (fun _ _ => rfl) (v := yR k0) rfl rfl ?_
        refine yG.load xik rfl (fun _ _ => rfl) (v := yI (a5)) rfl rfl ?_
        refine yG.putN A_hq.1 (w_Big_size W H_k0) (W.2.1 _ _ H_k0 (by decide) (by decide)) rfl rfl rfl ⟨by omega, by omega⟩ (by omega) (by omega) (fun h1 T_h1 b_h1 f_h1 y_h1 => ?_)
        have A_h1 := A_hq.put T_h1 b_h1 f_h1 H_k0 (by decide)
        have : ys h1 k0 1 = a5 := (y_h1 k0 1).trans (if_pos ⟨rfl, rfl⟩)
        refine yG.load xak rfl (fun _ _ => rfl) (v := yR k0) rfl rfl ?_
        refine yG.load xak rfl (fun _ _ => rfl) (v := yR k0) rfl rfl ?_
        refine yG.getI A_h1.1 (w_Big_minus W H_k0) rfl rfl (fun z2 e_z2 i_z2 l_z2 u_z2 => ?_)
        refine yG.ifz rfl (t := 140) rfl ⟨by omega, by omega⟩ (fun c3 => ?_) (fun c3 => ?_)
        · have c3 : (z2 : Int) = 0 := c3
          refine yG.num (c := 0) rfl (fun _ _ => rfl) (by decide) ?_
          refine yG.putI A_h1.1 (w_Big_minus W H_k0) (W.2.1 _ _ H_k0 (by decide) (by decide)) rfl rfl (.inr ⟨rfl, rfl, rfl⟩) ⟨by omega, by omega⟩ (by omega) (by omega) (fun h4 T_h4 b_h4 f_h4 y_h4 => ?_)
          have A_h4 := A_h1.put T_h4 b_h4 f_h4 H_k0 (by decide)
          have : ys h4 k0 1 = ys h1 k0 1 := (y_h4 k0 1).trans (if_neg (fun e => absurd e.2 (by decide)))
          refine yG.ret rfl (fun _ _ => rfl) ?_
          exact (yP.void ⟨⟨rfl, trivial⟩, A_h4⟩)
        · have c3 : (z2 : Int) ≠ 0 := c3
          refine yG.load xak rfl (fun _ _ => rfl) (v := yR k0) rfl rfl ?_
          refine yG.getN A_h1.1 (w_Big_size W H_k0) rfl rfl (fun z5 e_z5 i_z5 l_z5 u_z5 => ?_)
          refine yG.ifz rfl (t := 140) rfl ⟨by omega, by omega⟩ (fun c6 => ?_) (fun c6 => ?_)
          · have c6 : (z5 : Int) ≤ 0 := c6
            refine yG.num (c := 0) rfl (fun _ _ => rfl) (by decide) ?_
            refine yG.putI A_h1.1 (w_Big_minus W H_k0) (W.2.1 _ _ H_k0 (by decide) (by decide)) rfl rfl (.inr ⟨rfl, rfl, rfl⟩) ⟨by omega, by omega⟩ (by omega) (by omega) (fun h7 T_h7 b_h7 f_h7 y_h7 => ?_)
            have A_h7 := A_h1.put T_h7 b_h7 f_h7 H_k0 (by decide)
            have : ys h7 k0 1 = ys h1 k0 1 := (y_h7 k0 1).trans (if_neg (fun e => absurd e.2 (by decide)))
            refine yG.ret rfl (fun _ _ => rfl) ?_
            exact (yP.void ⟨⟨rfl, trivial⟩, A_h7⟩)
          · have c6 : (z5 : Int) > 0 := c6
            refine yG.num (c := 1) rfl (fun _ _ => rfl) (by decide) ?_
            refine yG.goto rfl (t := 141) rfl ?_
            refine yG.putI A_h1.1 (w_Big_minus W H_k0) (W.2.1 _ _ H_k0 (by decide) (by decide)) rfl rfl (.inr ⟨rfl, rfl, rfl⟩) ⟨by omega, by omega⟩ (by omega) (by omega) (fun h8 T_h8 b_h8 f_h8 y_h8 => ?_)
            have A_h8 := A_h1.put T_h8 b_h8 f_h8 H_k0 (by decide)
            have : ys h8 k0 1 = ys h1 k0 1 := (y_h8 k0 1).trans (if_neg (fun e => absurd e.2 (by decide)))
            refine yG.ret rfl (fun _ _ => rfl) ?_
            exact (yP.void ⟨⟨rfl, trivial⟩, A_h8⟩)
  refine yC.of (M := (xt_X0_shrink, (9, (0, (1, []))))) rfl rfl (N := 1076388) (yfuel (by decide)) ?_
  show yG 89 xfts (xcall 89 xfts xpools xms (d + 1)) (xpool xp_RX0) [] xt_X0_shrink (yP 0 (fun rv hp' => (rv = none ∧ True) ∧ bAx G [(34359738368, 1), (34359738368, 2), (68719476736, 256)] hp hp')) 1076388 0 [(0, yR k0), (1, yR k1), (2, yR k2)] [] hp
  obtain ⟨i_19, i_90, i_115⟩ := H 28325
  refine yG.numl (c := 0) rfl (fun _ _ => rfl) (by decide) ?_
  refine yG.store2 xlk2 (L' := [(3, yJ (0)), (0, yR k0), (1, yR k1), (2, yR k2)]) rfl (fun _ _ => rfl) rfl rfl ?_
  refine yG.load xak rfl (fun _ _ => rfl) (v := yR k1) rfl rfl ?_
  refine yG.getN A_hp.1 (w_Big_size W H_k1) rfl rfl (fun z1 e_z1 i_z1 l_z1 u_z1 => ?_)
  refine yG.load xak rfl (fun _ _ => rfl) (v := yR k0) rfl rfl ?_
  refine yG.getO A_hp.1 (w_Big_limb W H_k0) rfl rfl (fun r2 H_r2 O_r2 q_r2 => ?_)
  have O_r2 := O_r2 rfl
  refine yG.alenF A_hp.1 (v_Big_limb W H_r2).yIF rfl ?_
  obtain ⟨z3, e_z3⟩ : ∃ z : Int, z = ((zat G r2 : Nat) : Int) := ⟨_, rfl⟩
  rw [← e_z3]
  refine yG.invS (rest := []) rfl rfl rfl rfl (c_J9_minI W d A_hp.1 (z1) (z3) (by omega) (by omega) (by omega) (by omega)) (fun rv hp9 q9 => ?_)
  obtain ⟨⟨z4, rfl, l_z4, u_z4, R_z4⟩, e9⟩ := q9
  rw [e9]
  show yG _ _ _ _ _ _ _ _ _ _ (yI z4 :: []) _
  refine yG.store1 xik (L' := [(5, yI (z4)), (3, yJ (0)), (0, yR k0), (1, yR k1), (2, yR k2)]) rfl (fun _ _ => rfl) rfl rfl ?_
  refine yG.num (c := 0) rfl (fun _ _ => rfl) (by decide) ?_
  refine yG.store1 xik (L' := [(6, yI (0)), (5, yI (z4)), (3, yJ (0)), (0, yR k0), (1, yR k1), (2, yR k2)]) rfl (fun _ _ => rfl) rfl rfl ?_
  exact yG.mono (yG.sub (i_19 (0) (z4) (0)  hp A_hp   (by omega) (by omega) (by omega) (by omega) (by omega) (by omega) (by omega) (by omega) (by omega) (by omega) (by omega) (by omega) (by omega) (by omega) (by omega) (by omega) (by omega)) (ySub.cons rfl (ySub.cons rfl (ySub.cons rfl (ySub.cons rfl (ySub.cons rfl (ySub.cons rfl (ySub.nil)))))))) (by omega)
theorem c_Big_more {hp : xH} (W : bW G) (d : Nat) (hT : zTy G hp) {k0 : Nat} (H_k0 : bRo G 35 k0) {k1 : Nat} (H_k1 : bRo G 35 k1) : yC (xcall 89 xfts xpools xms (d + 3)) 60 [yR k0, yR k1] hp (fun rv hp' => (rv = none ∧ True) ∧ bAx G [(34359738368, 1), (34359738368, 2), (68719476736, 256)] hp hp') := by
  have A_hp : bAx G [(34359738368, 1), (34359738368, 2), (68719476736, 256)] hp hp := bAx.rf hT
  obtain ⟨n_k0, N_k0⟩ : ∃ n : Int, n = ((zat G k0 : Nat) : Int) := ⟨_, rfl⟩
  have L_k0 := n_Big W H_k0
  obtain ⟨n_k1, N_k1⟩ : ∃ n : Int, n = ((zat G k1 : Nat) : Int) := ⟨_, rfl⟩
  have L_k1 := n_Big W H_k1
  refine yC.of (M := (xt_X0_more, (2, (0, (1, []))))) rfl rfl (N := 60) (yfuel (by decide)) ?_
  show yG 89 xfts (xcall 89 xfts xpools xms (d + 2)) (xpool xp_RX0) [] xt_X0_more (yP 0 (fun rv hp' => (rv = none ∧ True) ∧ bAx G [(34359738368, 1), (34359738368, 2), (68719476736, 256)] hp hp')) 60 0 [(0, yR k0), (1, yR k1)] [] hp
  refine yG.load xak rfl (fun _ _ => rfl) (v := yR k0) rfl rfl ?_
  refine yG.getI A_hp.1 (w_Big_minus W H_k0) rfl rfl (fun z1 e_z1 i_z1 l_z1 u_z1 => ?_)
  refine yG.load xak rfl (fun _ _ => rfl) (v := yR k1) rfl rfl ?_
  refine yG.getI A_hp.1 (w_Big_minus W H_k1) rfl rfl (fun z2 e_z2 i_z2 l_z2 u_z2 => ?_)
  refine yG.icmp rfl (t := 19) rfl ⟨by omega, by omega⟩ ⟨by omega, by omega⟩ (fun c3 => ?_) (fun c3 => ?_)
  · have c3 : (z1 : Int) ≠ z2 := c3
    refine yG.load xak rfl (fun _ _ => rfl) (v := yR k0) rfl rfl ?_
    refine yG.load xak rfl (fun _ _ => rfl) (v := yR k1) rfl rfl ?_
    refine yG.invV (rest := []) A_hp.1 (bOb (d_Big W) H_k0) rfl rfl rfl rfl (c_Big_compareSize W (d + 1) A_hp.1 H_k0 H_k1) (fun rv hp9 q9 => ?_)
    obtain ⟨⟨z4, rfl, l_z4, u_z4, R_z4⟩, e9⟩ := q9
    rw [e9]
    show yG _ _ _ _ _ _ _ _ _ _ (yI z4 :: []) _
    refine yG.ifz rfl (t := 36) rfl ⟨by omega, by omega⟩ (fun c5 => ?_) (fun c5 => ?_)
    · have c5 : (z4 : Int) < 0 := c5
      refine yG.load xak rfl (fun _ _ => rfl) (v := yR k0) rfl rfl ?_
      refine yG.load xak rfl (fun _ _ => rfl) (v := yR k1) rfl rfl ?_
      refine yG.load xak rfl (fun _ _ => rfl) (v := yR k0) rfl rfl ?_
      refine yG.invV (rest := []) A_hp.1 (bOb (d_Big W) H_k0) rfl rfl rfl rfl (c_Big_shrink W d A_hp.1 H_k0 H_k1 H_k0) (fun rv h6 q9 => ?_)
      obtain ⟨⟨rfl, R_z7⟩, B_h6⟩ := q9
      have A_h6 := A_hp.tr B_h6 (by decide)
      show yG _ _ _ _ _ _ _ _ _ _ [] _
      refine yG.load xak rfl (fun _ _ => rfl) (v := yR k0) rfl rfl ?_
      refine yG.load xak rfl (fun _ _ => rfl) (v := yR k1) rfl rfl ?_
      refine yG.getI A_h6.1 (w_Big_minus W H_k1) rfl rfl (fun z8 e_z8 i_z8 l_z8 u_z8 => ?_)
      refine yG.putI A_h6.1 (w_Big_minus W H_k0) (W.2.1 _ _ H_k0 (by decide) (by decide)) rfl rfl (.inr ⟨rfl, rfl, rfl⟩) ⟨by omega, by omega⟩ (by omega) (by omega) (fun h9 T_h9 b_h9 f_h9 y_h9 => ?_)
      have A_h9 := A_h6.put T_h9 b_h9 f_h9 H_k0 (by decide)
      refine yG.ret rfl (fun _ _ => rfl) ?_
      exact (yP.void ⟨⟨rfl, trivial⟩, A_h9⟩)
    · have c5 : (z4 : Int) ≥ 0 := c5
      refine yG.load xak rfl (fun _ _ => rfl) (v := yR k0) rfl rfl ?_
      refine yG.load xak rfl (fun _ _ => rfl) (v := yR k0) rfl rfl ?_
      refine yG.load xak rfl (fun _ _ => rfl) (v := yR k1) rfl rfl ?_
      refine yG.invV (rest := []) A_hp.1 (bOb (d_Big W) H_k0) rfl rfl rfl rfl (c_Big_shrink W d A_hp.1 H_k0 H_k0 H_k1) (fun rv h10 q9 => ?_)
      obtain ⟨⟨rfl, R_z11⟩, B_h10⟩ := q9
      have A_h10 := A_hp.tr B_h10 (by decide)
      show yG _ _ _ _ _ _ _ _ _ _ [] _
      refine yG.goto rfl (t := 50) rfl ?_
      refine yG.ret rfl (fun _ _ => rfl) ?_
      exact (yP.void ⟨⟨rfl, trivial⟩, A_h10⟩)
  · have c3 : (z1 : Int) = z2 := c3
    refine yG.load xak rfl (fun _ _ => rfl) (v := yR k0) rfl rfl ?_
    refine yG.load xak rfl (fun _ _ => rfl) (v := yR k1) rfl rfl ?_
    refine yG.invV (rest := []) A_hp.1 (bOb (d_Big W) H_k0) rfl rfl rfl rfl (c_Big_grow W d A_hp.1 H_k0 H_k1) (fun rv h12 q9 => ?_)
    obtain ⟨⟨rfl, R_z13⟩, B_h12⟩ := q9
    have A_h12 := A_hp.tr B_h12 (by decide)
    show yG _ _ _ _ _ _ _ _ _ _ [] _
    refine yG.goto rfl (t := 50) rfl ?_
    refine yG.ret rfl (fun _ _ => rfl) ?_
    exact (yP.void ⟨⟨rfl, trivial⟩, A_h12⟩)
theorem c_Big_less {hp : xH} (W : bW G) (d : Nat) (hT : zTy G hp) {k0 : Nat} (H_k0 : bRo G 35 k0) {k1 : Nat} (H_k1 : bRo G 35 k1) : yC (xcall 89 xfts xpools xms (d + 3)) 58 [yR k0, yR k1] hp (fun rv hp' => (rv = none ∧ True) ∧ bAx G [(34359738368, 1), (34359738368, 2), (68719476736, 256)] hp hp') := by
  have A_hp : bAx G [(34359738368, 1), (34359738368, 2), (68719476736, 256)] hp hp := bAx.rf hT
  obtain ⟨n_k0, N_k0⟩ : ∃ n : Int, n = ((zat G k0 : Nat) : Int) := ⟨_, rfl⟩
  have L_k0 := n_Big W H_k0
  obtain ⟨n_k1, N_k1⟩ : ∃ n : Int, n = ((zat G k1 : Nat) : Int) := ⟨_, rfl⟩
  have L_k1 := n_Big W H_k1
  refine yC.of (M := (xt_X0_less, (2, (0, (1, []))))) rfl rfl (N := 69) (yfuel (by decide)) ?_
  show yG 89 xfts (xcall 89 xfts xpools xms (d + 2)) (xpool xp_RX0) [] xt_X0_less (yP 0 (fun rv hp' => (rv = none ∧ True) ∧ bAx G [(34359738368, 1), (34359738368, 2), (68719476736, 256)] hp hp')) 69 0 [(0, yR k0), (1, yR k1)] [] hp
  refine yG.load xak rfl (fun _ _ => rfl) (v := yR k0) rfl rfl ?_
  refine yG.getI A_hp.1 (w_Big_minus W H_k0) rfl rfl (fun z1 e_z1 i_z1 l_z1 u_z1 => ?_)
  refine yG.load xak rfl (fun _ _ => rfl) (v := yR k1) rfl rfl ?_
  refine yG.getI A_hp.1 (w_Big_minus W H_k1) rfl rfl (fun z2 e_z2 i_z2 l_z2 u_z2 => ?_)
  refine yG.icmp rfl (t := 19) rfl ⟨by omega, by omega⟩ ⟨by omega, by omega⟩ (fun c3 => ?_) (fun c3 => ?_)
  · have c3 : (z1 : Int) = z2 := c3
    refine yG.load xak rfl (fun _ _ => rfl) (v := yR k0) rfl rfl ?_
    refine yG.load xak rfl (fun _ _ => rfl) (v := yR k1) rfl rfl ?_
    refine yG.invV (rest := []) A_hp.1 (bOb (d_Big W) H_k0) rfl rfl rfl rfl (c_Big_compareSize W (d + 1) A_hp.1 H_k0 H_k1) (fun rv hp9 q9 => ?_)
    obtain ⟨⟨z4, rfl, l_z4, u_z4, R_z4⟩, e9⟩ := q9
    rw [e9]
    show yG _ _ _ _ _ _ _ _ _ _ (yI z4 :: []) _
    refine yG.ifz rfl (t := 36) rfl ⟨by omega, by omega⟩ (fun c5 => ?_) (fun c5 => ?_)
    · have c5 : (z4 : Int) < 0 := c5
      refine yG.load xak rfl (fun _ _ => rfl) (v := yR k0) rfl rfl ?_
      refine yG.load xak rfl (fun _ _ => rfl) (v := yR k1) rfl rfl ?_
      refine yG.load xak rfl (fun _ _ => rfl) (v := yR k0) rfl rfl ?_
      refine yG.invV (rest := []) A_hp.1 (bOb (d_Big W) H_k0) rfl rfl rfl rfl (c_Big_shrink W d A_hp.1 H_k0 H_k1 H_k0) (fun rv h6 q9 => ?_)
      obtain ⟨⟨rfl, R_z7⟩, B_h6⟩ := q9
      have A_h6 := A_hp.tr B_h6 (by decide)
      show yG _ _ _ _ _ _ _ _ _ _ [] _
      refine yG.load xak rfl (fun _ _ => rfl) (v := yR k0) rfl rfl ?_
      refine yG.load xak rfl (fun _ _ => rfl) (v := yR k1) rfl rfl ?_
      refine yG.getI A_h6.1 (w_Big_minus W H_k1) rfl rfl (fun z8 e_z8 i_z8 l_z8 u_z8 => ?_)
      refine yG.ifz rfl (t := 54) rfl ⟨by omega, by omega⟩ (fun c9 => ?_) (fun c9 => ?_)
      · have c9 : (z8 : Int) ≠ 0 := c9
        refine yG.num (c := 0) rfl (fun _ _ => rfl) (by decide) ?_
        refine yG.putI A_h6.1 (w_Big_minus W H_k0) (W.2.1 _ _ H_k0 (by decide) (by decide)) rfl rfl (.inr ⟨rfl, rfl, rfl⟩) ⟨by omega, by omega⟩ (by omega) (by omega) (fun h10 T_h10 b_h10 f_h10 y_h10 => ?_)
        have A_h10 := A_h6.put T_h10 b_h10 f_h10 H_k0 (by decide)
        refine yG.ret rfl (fun _ _ => rfl) ?_
        exact (yP.void ⟨⟨rfl, trivial⟩, A_h10⟩)
      · have c9 : (z8 : Int) = 0 := c9
        refine yG.num (c := 1) rfl (fun _ _ => rfl) (by decide) ?_
        refine yG.goto rfl (t := 55) rfl ?_
        refine yG.putI A_h6.1 (w_Big_minus W H_k0) (W.2.1 _ _ H_k0 (by decide) (by decide)) rfl rfl (.inr ⟨rfl, rfl, rfl⟩) ⟨by omega, by omega⟩ (by omega) (by omega) (fun h11 T_h11 b_h11 f_h11 y_h11 => ?_)
        have A_h11 := A_h6.put T_h11 b_h11 f_h11 H_k0 (by decide)
        refine yG.ret rfl (fun _ _ => rfl) ?_
        exact (yP.void ⟨⟨rfl, trivial⟩, A_h11⟩)
    · have c5 : (z4 : Int) ≥ 0 := c5
      refine yG.load xak rfl (fun _ _ => rfl) (v := yR k0) rfl rfl ?_
      refine yG.load xak rfl (fun _ _ => rfl) (v := yR k0) rfl rfl ?_
      refine yG.load xak rfl (fun _ _ => rfl) (v := yR k1) rfl rfl ?_
      refine yG.invV (rest := []) A_hp.1 (bOb (d_Big W) H_k0) rfl rfl rfl rfl (c_Big_shrink W d A_hp.1 H_k0 H_k0 H_k1) (fun rv h12 q9 => ?_)
      obtain ⟨⟨rfl, R_z13⟩, B_h12⟩ := q9
      have A_h12 := A_hp.tr B_h12 (by decide)
      show yG _ _ _ _ _ _ _ _ _ _ [] _
      refine yG.goto rfl (t := 58) rfl ?_
      refine yG.ret rfl (fun _ _ => rfl) ?_
      exact (yP.void ⟨⟨rfl, trivial⟩, A_h12⟩)
  · have c3 : (z1 : Int) ≠ z2 := c3
    refine yG.load xak rfl (fun _ _ => rfl) (v := yR k0) rfl rfl ?_
    refine yG.load xak rfl (fun _ _ => rfl) (v := yR k1) rfl rfl ?_
    refine yG.invV (rest := []) A_hp.1 (bOb (d_Big W) H_k0) rfl rfl rfl rfl (c_Big_grow W d A_hp.1 H_k0 H_k1) (fun rv h14 q9 => ?_)
    obtain ⟨⟨rfl, R_z15⟩, B_h14⟩ := q9
    have A_h14 := A_hp.tr B_h14 (by decide)
    show yG _ _ _ _ _ _ _ _ _ _ [] _
    refine yG.goto rfl (t := 58) rfl ?_
    refine yG.ret rfl (fun _ _ => rfl) ?_
    exact (yP.void ⟨⟨rfl, trivial⟩, A_h14⟩)
theorem c_Big_wrap {hp : xH} (W : bW G) (d : Nat) (hT : zTy G hp) {k0 : Nat} (H_k0 : bRo G 35 k0) {k1 : Nat} (H_k1 : bRo G 35 k1) {k2 : Nat} (H_k2 : bRo G 35 k2) : yC (xcall 89 xfts xpools xms (d + 3)) 73 [yR k0, yR k1, yR k2] hp (fun rv hp' => (rv = none ∧ True) ∧ bAx G [(34359738368, 1), (34359738368, 2), (68719476736, 256)] hp hp') := by
  have A_hp : bAx G [(34359738368, 1), (34359738368, 2), (68719476736, 256)] hp hp := bAx.rf hT
  obtain ⟨n_k0, N_k0⟩ : ∃ n : Int, n = ((zat G k0 : Nat) : Int) := ⟨_, rfl⟩
  have L_k0 := n_Big W H_k0
  obtain ⟨n_k1, N_k1⟩ : ∃ n : Int, n = ((zat G k1 : Nat) : Int) := ⟨_, rfl⟩
  have L_k1 := n_Big W H_k1
  obtain ⟨n_k2, N_k2⟩ : ∃ n : Int, n = ((zat G k2 : Nat) : Int) := ⟨_, rfl⟩
  have L_k2 := n_Big W H_k2
  refine yC.of (M := (xt_X0_wrap, (3, (0, (1, []))))) rfl rfl (N := 42) (yfuel (by decide)) ?_
  show yG 89 xfts (xcall 89 xfts xpools xms (d + 2)) (xpool xp_RX0) [] xt_X0_wrap (yP 0 (fun rv hp' => (rv = none ∧ True) ∧ bAx G [(34359738368, 1), (34359738368, 2), (68719476736, 256)] hp hp')) 42 0 [(0, yR k0), (1, yR k1), (2, yR k2)] [] hp
  refine yG.load xak rfl (fun _ _ => rfl) (v := yR k0) rfl rfl ?_
  refine yG.load xak rfl (fun _ _ => rfl) (v := yR k2) rfl rfl ?_
  refine yG.invV (rest := []) A_hp.1 (bOb (d_Big W) H_k0) rfl rfl rfl rfl (c_Big_compareSize W (d + 1) A_hp.1 H_k0 H_k2) (fun rv hp9 q9 => ?_)
  obtain ⟨⟨z1, rfl, l_z1, u_z1, R_z1⟩, e9⟩ := q9
  rw [e9]
  show yG _ _ _ _ _ _ _ _ _ _ (yI z1 :: []) _
  refine yG.ifz rfl (t := 19) rfl ⟨by omega, by omega⟩ (fun c2 => ?_) (fun c2 => ?_)
  · have c2 : (z1 : Int) ≤ 0 := c2
    refine yG.ret rfl (fun _ _ => rfl) ?_
    exact (yP.void ⟨⟨rfl, trivial⟩, A_hp⟩)
  · have c2 : (z1 : Int) > 0 := c2
    refine yG.load xak rfl (fun _ _ => rfl) (v := yR k0) rfl rfl ?_
    refine yG.load xak rfl (fun _ _ => rfl) (v := yR k1) rfl rfl ?_
    refine yG.load xak rfl (fun _ _ => rfl) (v := yR k0) rfl rfl ?_
    refine yG.invV (rest := []) A_hp.1 (bOb (d_Big W) H_k0) rfl rfl rfl rfl (c_Big_shrink W d A_hp.1 H_k0 H_k1 H_k0) (fun rv h3 q9 => ?_)
    obtain ⟨⟨rfl, R_z4⟩, B_h3⟩ := q9
    have A_h3 := A_hp.tr B_h3 (by decide)
    show yG _ _ _ _ _ _ _ _ _ _ [] _
    refine yG.load xak rfl (fun _ _ => rfl) (v := yR k0) rfl rfl ?_
    refine yG.num (c := 1) rfl (fun _ _ => rfl) (by decide) ?_
    refine yG.putI A_h3.1 (w_Big_minus W H_k0) (W.2.1 _ _ H_k0 (by decide) (by decide)) rfl rfl (.inr ⟨rfl, rfl, rfl⟩) ⟨by omega, by omega⟩ (by omega) (by omega) (fun h5 T_h5 b_h5 f_h5 y_h5 => ?_)
    have A_h5 := A_h3.put T_h5 b_h5 f_h5 H_k0 (by decide)
    refine yG.ret rfl (fun _ _ => rfl) ?_
    exact (yP.void ⟨⟨rfl, trivial⟩, A_h5⟩)
theorem c_Big_product {hp : xH} (W : bW G) (d : Nat) (hT : zTy G hp) {k0 : Nat} (H_k0 : bRo G 35 k0) {k1 : Nat} (H_k1 : bRo G 35 k1) {k2 : Nat} (H_k2 : bRo G 35 k2) : yC (xcall 89 xfts xpools xms (d + 2)) 63 [yR k0, yR k1, yR k2] hp (fun rv hp' => (rv = none ∧ True) ∧ bAx G [(34359738368, 1), (34359738368, 2), (68719476736, 256)] hp hp') := by
  have A_hp : bAx G [(34359738368, 1), (34359738368, 2), (68719476736, 256)] hp hp := bAx.rf hT
  obtain ⟨n_k0, N_k0⟩ : ∃ n : Int, n = ((zat G k0 : Nat) : Int) := ⟨_, rfl⟩
  have L_k0 := n_Big W H_k0
  obtain ⟨n_k1, N_k1⟩ : ∃ n : Int, n = ((zat G k1 : Nat) : Int) := ⟨_, rfl⟩
  have L_k1 := n_Big W H_k1
  obtain ⟨n_k2, N_k2⟩ : ∃ n : Int, n = ((zat G k2 : Nat) : Int) := ⟨_, rfl⟩
  have L_k2 := n_Big W H_k2
  have H : ∀ m : Nat, (∀ a3 : Int, ∀ a4 : Int, ∀ hq, bAx G [(34359738368, 1), (34359738368, 2), (68719476736, 256)] hp hq → 0 ≤ a3 → (-96) ≤ 0 - a3 → 0 ≤ a4 → (-96) ≤ 0 - a4 → 12 ≤ n_k0 → (-96) ≤ 0 - n_k0 → 12 ≤ n_k1 → (-96) ≤ 0 - n_k1 → 12 ≤ n_k2 → (-96) ≤ 0 - n_k2 → 0 ≤ a3 - a4 → 0 ≤ 0 - a3 + n_k0 → 0 - 28325 * a4 + 2747524 < (m : Int) → yG 89 xfts (xcall 89 xfts xpools xms (d + 1)) (xpool xp_RX0) [] xt_X0_product (yP 0 (fun rv hp' => (rv = none ∧ True) ∧ bAx G [(34359738368, 1), (34359738368, 2), (68719476736, 256)] hp hp')) (42 * m) 21 [(0, yR k0), (1, yR k1), (2, yR k2), (3, yI (a3)), (4, yI (a4))] [] hq) ∧ (∀ a3 : Int, ∀ a4 : Int, ∀ hq, bAx G [(34359738368, 1), (34359738368, 2), (68719476736, 256)] hp hq → 0 ≤ a3 → (-96) ≤ 0 - a3 → 0 ≤ a4 → (-96) ≤ 0 - a4 → 12 ≤ n_k0 → (-96) ≤ 0 - n_k0 → 12 ≤ n_k1 → (-96) ≤ 0 - n_k1 → 12 ≤ n_k2 → (-96) ≤ 0 - n_k2 → 0 ≤ a3 - a4 → 0 ≤ 0 - a3 + n_k0 → 0 ≤ 0 - a4 + n_k1 → 0 - 292 * a4 + 28323 < (m : Int) → yG 89 xfts (xcall 89 xfts xpools xms (d + 1)) (xpool xp_RX0) [] xt_X0_product (yP 0 (fun rv hp' => (rv = none ∧ True) ∧ bAx G [(34359738368, 1), (34359738368, 2), (68719476736, 256)] hp hp')) (42 * m) 44 [(0, yR k0), (1, yR k1), (2, yR k2), (3, yI (a3)), (4, yI (a4))] [] hq) ∧ (∀ a3 : Int, ∀ a4 : Int, ∀ a5 : Int, ∀ a7 : Int, ∀ a9 : Int, ∀ hq, bAx G [(34359738368, 1), (34359738368, 2), (68719476736, 256)] hp hq → 1 ≤ a3 → (-96) ≤ 0 - a3 → 0 ≤ a4 → (-95) ≤ 0 - a4 → 0 ≤ a5 → (-1073741823) ≤ 0 - a5 → 0 ≤ a7 → (-1073741823) ≤ 0 - a7 → 0 ≤ a9 → (-96) ≤ 0 - a9 → 12 ≤ n_k0 → (-96) ≤ 0 - n_k0 → 12 ≤ n_k1 → (-96) ≤ 0 - n_k1 → 12 ≤ n_k2 → (-96) ≤ 0 - n_k2 → 1 ≤ a3 - a4 → 0 ≤ a3 - a9 → 0 ≤ a5 - a7 → (-1073741822) ≤ 0 - a7 + a9 → 0 ≤ 0 - a3 + n_k0 → 1 ≤ 0 - a4 + n_k1 → 0 ≤ 0 - a9 + n_k2 → 0 - 292 * a4 - 3 * a9 + 28322 < (m : Int) → yG 89 xfts (xcall 89 xfts xpools xms (d + 1)) (xpool xp_RX0) [] xt_X0_product (yP 0 (fun rv hp' => (rv = none ∧ True) ∧ bAx G [(34359738368, 1), (34359738368, 2), (68719476736, 256)] hp hp')) (42 * m) 74 [(0, yR k0), (1, yR k1), (2, yR k2), (3, yI (a3)), (4, yI (a4)), (5, yJ (a5)), (7, yJ (a7)), (9, yI (a9))] [] hq) ∧ (∀ a3 : Int, ∀ a4 : Int, ∀ a7 : Int, ∀ hq, bAx G [(34359738368, 1), (34359738368, 2), (68719476736, 256)] hp hq → 1 ≤ a3 → (-96) ≤ 0 - a3 → 0 ≤ a4 → (-95) ≤ 0 - a4 → 0 ≤ a7 → (-1073741823) ≤ 0 - a7 → 12 ≤ n_k0 → (-96) ≤ 0 - n_k0 → 12 ≤ n_k1 → (-96) ≤ 0 - n_k1 → 12 ≤ n_k2 → (-96) ≤ 0 - n_k2 → 1 ≤ a3 - a4 → 0 ≤ 0 - a3 + n_k0 → 1 ≤ 0 - a4 + n_k1 → 0 - 292 * a4 + 28033 < (m : Int) → yG 89 xfts (xcall 89 xfts xpools xms (d + 1)) (xpool xp_RX0) [] xt_X0_product (yP 0 (fun rv hp' => (rv = none ∧ True) ∧ bAx G [(34359738368, 1), (34359738368, 2), (68719476736, 256)] hp hp')) (42 * m) 147 [(0, yR k0), (1, yR k1), (2, yR k2), (3, yI (a3)), (4, yI (a4)), (7, yJ (a7))] [] hq) ∧ (∀ a3 : Int, ∀ hq, bAx G [(34359738368, 1), (34359738368, 2), (68719476736, 256)] hp hq → 0 ≤ a3 → (-96) ≤ 0 - a3 → 12 ≤ n_k0 → (-96) ≤ 0 - n_k0 → 12 ≤ n_k1 → (-96) ≤ 0 - n_k1 → 12 ≤ n_k2 → (-96) ≤ 0 - n_k2 → 0 ≤ 0 - a3 + n_k0 → 1 < (m : Int) → yG 89 xfts (xcall 89 xfts xpools xms (d + 1)) (xpool xp_RX0) [] xt_X0_product (yP 0 (fun rv hp' => (rv = none ∧ True) ∧ bAx G [(34359738368, 1), (34359738368, 2), (68719476736, 256)] hp hp')) (42 * m) 178 [(0, yR k0), (1, yR k1), (2, yR k2), (3, yI (a3))] [] hq) := by
    intro m
    induction m with
    | zero =>
      refine ⟨?_, ?_, ?_, ?_, ?_⟩ <;> (intros; exfalso; omega)
    | succ m ih =>
      obtain ⟨i_21, i_44, i_74, i_147, i_178⟩ := ih
      refine ⟨?_, ?_, ?_, ?_, ?_⟩
      · intro a3 a4 hq A_hq f0 f1 f2 f3 f4 f5 f6 f7 f8 f9 f10 f11 hm
        refine yG.mono (N := 42 * m + 42) ?_ (by omega)
        refine yG.load xik rfl (fun _ _ => rfl) (v := yI (a4)) rfl rfl ?_
        refine yG.load xik rfl (fun _ _ => rfl) (v := yI (a3)) rfl rfl ?_
        refine yG.icmp rfl (t := 41) rfl ⟨by omega, by omega⟩ ⟨by omega, by omega⟩ (fun c1 => ?_) (fun c1 => ?_)
        · have c1 : (a4 : Int) ≥ a3 := c1
          refine yG.num (c := 0) rfl (fun _ _ => rfl) (by decide) ?_
          refine yG.store1 xik (L' := [(4, yI (0)), (0, yR k0), (1, yR k1), (2, yR k2), (3, yI (a3))]) rfl (fun _ _ => rfl) rfl rfl ?_
          exact yG.mono (yG.sub (i_44 (a3) (0)  hq A_hq   (by omega) (by omega) (by omega) (by omega) (by omega) (by omega) (by omega) (by omega) (by omega) (by omega) (by omega) (by omega) (by omega) (by omega)) (ySub.cons rfl (ySub.cons rfl (ySub.cons rfl (ySub.cons rfl (ySub.cons rfl (ySub.nil))))))) (by omega)
        · have c1 : (a4 : Int) < a3 := c1
          refine yG.load xak rfl (fun _ _ => rfl) (v := yR k0) rfl rfl ?_
          refine yG.getO A_hq.1 (w_Big_limb W H_k0) rfl rfl (fun r2 H_r2 O_r2 q_r2 => ?_)
          have O_r2 := O_r2 rfl
          refine yG.load xik rfl (fun _ _ => rfl) (v := yI (a4)) rfl rfl ?_
          refine yG.numl (c := 0) rfl (fun _ _ => rfl) (by decide) ?_
          refine yG.last A_hq.1 (v_Big_limb W H_r2) (W.2.1 _ _ H_r2 (by decide) (by decide)) rfl (by omega) (by omega) ⟨by omega, by omega⟩ (by omega) (by omega) (fun h3 T_h3 b_h3 f_h3 y_h3 => ?_)
          have A_h3 := A_hq.put T_h3 b_h3 f_h3 H_r2 (bAll_ok (by decide) _)
          refine yG.iinc rfl (a := a4) rfl (L' := [(4, yI (a4 + 1)), (0, yR k0), (1, yR k1), (2, yR k2), (3, yI (a3))]) rfl ?_
          refine yG.goto rfl (t := 21) rfl ?_
          exact yG.mono (yG.sub (i_21 (a3) (a4 + 1)  h3 A_h3   (by omega) (by omega) (by omega) (by omega) (by omega) (by omega) (by omega) (by omega) (by omega) (by omega) (by omega) (by omega) (by omega)) (ySub.cons rfl (ySub.cons rfl (ySub.cons rfl (ySub.cons rfl (ySub.cons rfl (ySub.nil))))))) (by omega)
      · intro a3 a4 hq A_hq f0 f1 f2 f3 f4 f5 f6 f7 f8 f9 f10 f11 f12 hm
        refine yG.mono (N := 42 * m + 42) ?_ (by omega)
        refine yG.load xik rfl (fun _ _ => rfl) (v := yI (a4)) rfl rfl ?_
        refine yG.load xak rfl (fun _ _ => rfl) (v := yR k1) rfl rfl ?_
        refine yG.getN A_hq.1 (w_Big_size W H_k1) rfl rfl (fun z1 e_z1 i_z1 l_z1 u_z1 => ?_)
        refine yG.icmp rfl (t := 178) rfl ⟨by omega, by omega⟩ ⟨by omega, by omega⟩ (fun c2 => ?_) (fun c2 => ?_)
        · have c2 : (a4 : Int) ≥ z1 := c2
          exact yG.mono (yG.sub (i_178 (a3)  hq A_hq   (by omega) (by omega) (by omega) (by omega) (by omega) (by omega) (by omega) (by omega) (by omega) (by omega)) (ySub.cons rfl (ySub.cons rfl (ySub.cons rfl (ySub.cons rfl (ySub.nil)))))) (by omega)
        · have c2 : (a4 : Int) < z1 := c2
          refine yG.load xik rfl (fun _ _ => rfl) (v := yI (a4)) rfl rfl ?_
          refine yG.load xik rfl (fun _ _ => rfl) (v := yI (a3)) rfl rfl ?_
          refine yG.icmp rfl (t := 178) rfl ⟨by omega, by omega⟩ ⟨by omega, by omega⟩ (fun c3 => ?_) (fun c3 => ?_)
          · have c3 : (a4 : Int) ≥ a3 := c3
            exact yG.mono (yG.sub (i_178 (a3)  hq A_hq   (by omega) (by omega) (by omega) (by omega) (by omega) (by omega) (by omega) (by omega) (by omega) (by omega)) (ySub.cons rfl (ySub.cons rfl (ySub.cons rfl (ySub.cons rfl (ySub.nil)))))) (by omega)
          · have c3 : (a4 : Int) < a3 := c3
            refine yG.load xak rfl (fun _ _ => rfl) (v := yR k1) rfl rfl ?_
            refine yG.getO A_hq.1 (w_Big_limb W H_k1) rfl rfl (fun r4 H_r4 O_r4 q_r4 => ?_)
            have O_r4 := O_r4 rfl
            refine yG.load xik rfl (fun _ _ => rfl) (v := yI (a4)) rfl rfl ?_
            refine yG.lald A_hq.1 (v_Big_limb W H_r4) rfl (by omega) (by omega) (fun z5 e_z5 i_z5 l_z5 u_z5 => ?_)
            refine yG.store2 xlk2 (L' := [(5, yJ (z5)), (0, yR k0), (1, yR k1), (2, yR k2), (3, yI (a3)), (4, yI (a4))]) rfl (fun _ _ => rfl) rfl rfl ?_
            refine yG.numl (c := 0) rfl (fun _ _ => rfl) (by decide) ?_
            refine yG.store2 xlk2 (L' := [(7, yJ (0)), (5, yJ (z5)), (0, yR k0), (1, yR k1), (2, yR k2), (3, yI (a3)), (4, yI (a4))]) rfl (fun _ _ => rfl) rfl rfl ?_
            refine yG.num (c := 0) rfl (fun _ _ => rfl) (by decide) ?_
            refine yG.store1 xik (L' := [(9, yI (0)), (7, yJ (0)), (5, yJ (z5)), (0, yR k0), (1, yR k1), (2, yR k2), (3, yI (a3)), (4, yI (a4))]) rfl (fun _ _ => rfl) rfl rfl ?_
            exact yG.mono (yG.sub (i_74 (a3) (a4) (z5) (0) (0)  hq A_hq   (by omega) (by omega) (by omega) (by omega) (by omega) (by omega) (by omega) (by omega) (by omega) (by omega) (by omega) (by omega) (by omega) (by omega) (by omega) (by omega) (by omega) (by omega) (by omega) (by omega) (by omega) (by omega) (by omega) (by omega)) (ySub.cons rfl (ySub.cons rfl (ySub.cons rfl (ySub.cons rfl (ySub.cons rfl (ySub.cons rfl (ySub.cons rfl (ySub.cons rfl (ySub.nil)))))))))) (by omega)
      · intro a3 a4 a5 a7 a9 hq A_hq f0 f1 f2 f3 f4 f5 f6 f7 f8 f9 f10 f11 f12 f13 f14 f15 f16 f17 f18 f19 f20 f21 f22 hm
        refine yG.mono (N := 42 * m + 42) ?_ (by omega)
        refine yG.load xik rfl (fun _ _ => rfl) (v := yI (a9)) rfl rfl ?_
        refine yG.load xak rfl (fun _ _ => rfl) (v := yR k2) rfl rfl ?_
        refine yG.getN A_hq.1 (w_Big_size W H_k2) rfl rfl (fun z1 e_z1 i_z1 l_z1 u_z1 => ?_)
        refine yG.icmp rfl (t := 147) rfl ⟨by omega, by omega⟩ ⟨by omega, by omega⟩ (fun c2 => ?_) (fun c2 => ?_)
        · have c2 : (a9 : Int) ≥ z1 := c2
          exact yG.mono (yG.sub (i_147 (a3) (a4) (a7)  hq A_hq   (by omega) (by omega) (by omega) (by omega) (by omega) (by omega) (by omega) (by omega) (by omega) (by omega) (by omega) (by omega) (by omega) (by omega) (by omega) (by omega)) (ySub.cons rfl (ySub.cons rfl (ySub.cons rfl (ySub.cons rfl (ySub.cons rfl (ySub.cons rfl (ySub.nil)))))))) (by omega)
        · have c2 : (a9 : Int) < z1 := c2
          refine yG.load xik rfl (fun _ _ => rfl) (v := yI (a4)) rfl rfl ?_
          refine yG.load xik rfl (fun _ _ => rfl) (v := yI (a9)) rfl rfl ?_
          refine yG.iadd rfl ?_
          refine yG.load xik rfl (fun _ _ => rfl) (v := yI (a3)) rfl rfl ?_
          refine yG.icmp rfl (t := 147) rfl ⟨by omega, by omega⟩ ⟨by omega, by omega⟩ (fun c3 => ?_) (fun c3 => ?_)
          · have c3 : (a4 + a9 : Int) ≥ a3 := c3
            exact yG.mono (yG.sub (i_147 (a3) (a4) (a7)  hq A_hq   (by omega) (by omega) (by omega) (by omega) (by omega) (by omega) (by omega) (by omega) (by omega) (by omega) (by omega) (by omega) (by omega) (by omega) (by omega) (by omega)) (ySub.cons rfl (ySub.cons rfl (ySub.cons rfl (ySub.cons rfl (ySub.cons rfl (ySub.cons rfl (ySub.nil)))))))) (by omega)
          · have c3 : (a4 + a9 : Int) < a3 := c3
            refine yG.load xak rfl (fun _ _ => rfl) (v := yR k0) rfl rfl ?_
            refine yG.getO A_hq.1 (w_Big_limb W H_k0) rfl rfl (fun r4 H_r4 O_r4 q_r4 => ?_)
            have O_r4 := O_r4 rfl
            refine yG.load xik rfl (fun _ _ => rfl) (v := yI (a4)) rfl rfl ?_
            refine yG.load xik rfl (fun _ _ => rfl) (v := yI (a9)) rfl rfl ?_
            refine yG.iadd rfl ?_
            refine yG.lald A_hq.1 (v_Big_limb W H_r4) rfl (by omega) (by omega) (fun z5 e_z5 i_z5 l_z5 u_z5 => ?_)
            refine yG.load xlk2 rfl (fun _ _ => rfl) (v := yJ (a5)) rfl rfl ?_
            refine yG.load xak rfl (fun _ _ => rfl) (v := yR k2) rfl rfl ?_
            refine yG.getO A_hq.1 (w_Big_limb W H_k2) rfl rfl (fun r6 H_r6 O_r6 q_r6 => ?_)
            have O_r6 := O_r6 rfl
            refine yG.load xik rfl (fun _ _ => rfl) (v := yI (a9)) rfl rfl ?_
            refine yG.lald A_hq.1 (v_Big_limb W H_r6) rfl (by omega) (by omega) (fun z7 e_z7 i_z7 l_z7 u_z7 => ?_)
            refine yG.lmul rfl ?_
            obtain ⟨z8, e_z8⟩ : ∃ z : Int, z = a5 * z7 := ⟨_, rfl⟩
            rw [← e_z8]
            have b_z8 : 0 ≤ z8 ∧ z8 ≤ 1152921502459363329 := e_z8 ▸ ymulb (A := 1073741823) (B := 1073741823) (by omega) (by omega) (by omega) (by omega) (by decide)
            have b2_z8 : z8 ≤ 1073741823 * z7 := e_z8 ▸ bmulx (by omega) (by omega)
            have b3_z8 : z8 ≤ 1073741823 * a5 := e_z8 ▸ bmuly (by omega) (by omega)
            refine yG.ladd rfl ?_
            refine yG.load xlk2 rfl (fun _ _ => rfl) (v := yJ (a7)) rfl rfl ?_
            refine yG.ladd rfl ?_
            obtain ⟨z9, e_z9⟩ : ∃ z : Int, z = (z5 + z8) + a7 := ⟨_, rfl⟩
            rw [← e_z9]
            refine yG.store2 xlk2 (L' := [(10, yJ (z9)), (0, yR k0), (1, yR k1), (2, yR k2), (3, yI (a3)), (4, yI (a4)), (5, yJ (a5)), (7, yJ (a7)), (9, yI (a9))]) rfl (fun _ _ => rfl) rfl rfl ?_
            refine yG.load xak rfl (fun _ _ => rfl) (v := yR k0) rfl rfl ?_
            refine yG.getS9 A_hq.1 (w_Big_limb W H_k0) q_r4 rfl rfl ?_
            refine yG.load xik rfl (fun _ _ => rfl) (v := yI (a4)) rfl rfl ?_
            refine yG.load xik rfl (fun _ _ => rfl) (v := yI (a9)) rfl rfl ?_
            refine yG.iadd rfl ?_
            refine yG.load xlk2 rfl (fun _ _ => rfl) (v := yJ (z9)) rfl rfl ?_
            refine yG.numl (c := 1073741823) rfl (fun _ _ => rfl) (by decide) ?_
            refine yG.bit64 rfl (fun _ _ => rfl) (fun z10 e_z10 l_z10 u_z10 => ?_)
            have b_z10 : 0 ≤ z10 ∧ z10 ≤ 1073741823 := by rw [e_z10]; exact yland ⟨by decide, by decide⟩ (by decide)
            refine yG.last A_hq.1 (v_Big_limb W H_r4) (W.2.1 _ _ H_r4 (by decide) (by decide)) rfl (by omega) (by omega) ⟨by omega, by omega⟩ (by omega) (by omega) (fun h11 T_h11 b_h11 f_h11 y_h11 => ?_)
            have A_h11 := A_hq.put T_h11 b_h11 f_h11 H_r4 (bAll_ok (by decide) _)
            have qq1 : zsl h11 k0 0 = yR r4 := ((f_h11 k0 0).trans (if_neg (fun e => (bRo.ne H_k0 H_r4 (by decide)) e.1))).trans q_r4
            refine yG.load xlk2 rfl (fun _ _ => rfl) (v := yJ (z9)) rfl rfl ?_
            refine yG.num (c := 30) rfl (fun _ _ => rfl) (by decide) ?_
            refine yG.bit64 rfl (fun _ _ => rfl) (fun z12 e_z12 l_z12 u_z12 => ?_)
            have b_z12 : z12 = ((zc64 (z9) : Nat) : Int) / 1073741824 := by rw [e_z12]; exact blushr (n := 30) (by decide) (by decide) (by decide)
            have c_z12 : zc64 (z9) < 18446744073709551616 := by unfold zc64; omega
            have d_z12 : ((zc64 (z9) : Nat) : Int) = z9 := by unfold zc64; omega
            refine yG.store2 xlk2 (L' := [(7, yJ (z12)), (10, yJ (z9)), (0, yR k0), (1, yR k1), (2, yR k2), (3, yI (a3)), (4, yI (a4)), (5, yJ (a5)), (9, yI (a9))]) rfl (fun _ _ => rfl) rfl rfl ?_
            refine yG.iinc rfl (a := a9) rfl (L' := [(9, yI (a9 + 1)), (7, yJ (z12)), (10, yJ (z9)), (0, yR k0), (1, yR k1), (2, yR k2), (3, yI (a3)), (4, yI (a4)), (5, yJ (a5))]) rfl ?_
            refine yG.goto rfl (t := 74) rfl ?_
            exact yG.mono (yG.sub (i_74 (a3) (a4) (a5) (z12) (a9 + 1)  h11 A_h11   (by omega) (by omega) (by omega) (by omega) (by omega) (by omega) (by omega) (by omega) (by omega) (by omega) (by omega) (by omega) (by omega) (by omega) (by omega) (by omega) (by omega) (by omega) (by omega) (by omega) (by omega) (by omega) (by omega) (by omega)) (ySub.cons rfl (ySub.cons rfl (ySub.cons rfl (ySub.cons rfl (ySub.cons rfl (ySub.cons rfl (ySub.cons rfl (ySub.cons rfl (ySub.nil)))))))))) (by omega)
      · intro a3 a4 a7 hq A_hq f0 f1 f2 f3 f4 f5 f6 f7 f8 f9 f10 f11 f12 f13 f14 hm
        refine yG.mono (N := 42 * m + 42) ?_ (by omega)
        refine yG.load xik rfl (fun _ _ => rfl) (v := yI (a4)) rfl rfl ?_
        refine yG.load xak rfl (fun _ _ => rfl) (v := yR k2) rfl rfl ?_
        refine yG.getN A_hq.1 (w_Big_size W H_k2) rfl rfl (fun z1 e_z1 i_z1 l_z1 u_z1 => ?_)
        refine yG.iadd rfl ?_
        refine yG.load xik rfl (fun _ _ => rfl) (v := yI (a3)) rfl rfl ?_
        refine yG.icmp rfl (t := 172) rfl ⟨by omega, by omega⟩ ⟨by omega, by omega⟩ (fun c2 => ?_) (fun c2 => ?_)
        · have c2 : (a4 + z1 : Int) ≥ a3 := c2
          refine yG.iinc rfl (a := a4) rfl (L' := [(4, yI (a4 + 1)), (0, yR k0), (1, yR k1), (2, yR k2), (3, yI (a3)), (7, yJ (a7))]) rfl ?_
          refine yG.goto rfl (t := 44) rfl ?_
          exact yG.mono (yG.sub (i_44 (a3) (a4 + 1)  hq A_hq   (by omega) (by omega) (by omega) (by omega) (by omega) (by omega) (by omega) (by omega) (by omega) (by omega) (by omega) (by omega) (by omega) (by omega)) (ySub.cons rfl (ySub.cons rfl (ySub.cons rfl (ySub.cons rfl (ySub.cons rfl (ySub.nil))))))) (by omega)
        · have c2 : (a4 + z1 : Int) < a3 := c2
          refine yG.load xak rfl (fun _ _ => rfl) (v := yR k0) rfl rfl ?_
          refine yG.getO A_hq.1 (w_Big_limb W H_k0) rfl rfl (fun r3 H_r3 O_r3 q_r3 => ?_)
          have O_r3 := O_r3 rfl
          refine yG.load xik rfl (fun _ _ => rfl) (v := yI (a4)) rfl rfl ?_
          refine yG.load xak rfl (fun _ _ => rfl) (v := yR k2) rfl rfl ?_
          refine yG.getN A_hq.1 (w_Big_size W H_k2) rfl rfl (fun z4 e_z4 i_z4 l_z4 u_z4 => ?_)
          refine yG.iadd rfl ?_
          refine yG.load xlk2 rfl (fun _ _ => rfl) (v := yJ (a7)) rfl rfl ?_
          refine yG.last A_hq.1 (v_Big_limb W H_r3) (W.2.1 _ _ H_r3 (by decide) (by decide)) rfl (by omega) (by omega) ⟨by omega, by omega⟩ (by omega) (by omega) (fun h5 T_h5 b_h5 f_h5 y_h5 => ?_)
          have A_h5 := A_hq.put T_h5 b_h5 f_h5 H_r3 (bAll_ok (by decide) _)
          have : ys h5 k2 1 = ys hq k2 1 := (y_h5 k2 1).trans (if_neg (fun e => (bRo.ne H_k2 H_r3 (by decide)) e.1))
          refine yG.iinc rfl (a := a4) rfl (L' := [(4, yI (a4 + 1)), (0, yR k0), (1, yR k1), (2, yR k2), (3, yI (a3)), (7, yJ (a7))]) rfl ?_
          refine yG.goto rfl (t := 44) rfl ?_
          exact yG.mono (yG.sub (i_44 (a3) (a4 + 1)  h5 A_h5   (by omega) (by omega) (by omega) (by omega) (by omega) (by omega) (by omega) (by omega) (by omega) (by omega) (by omega) (by omega) (by omega) (by omega)) (ySub.cons rfl (ySub.cons rfl (ySub.cons rfl (ySub.cons rfl (ySub.cons rfl (ySub.nil))))))) (by omega)
      · intro a3 hq A_hq f0 f1 f2 f3 f4 f5 f6 f7 f8 hm
        refine yG.mono (N := 42 * m + 42) ?_ (by omega)
        refine yG.load xak rfl (fun _ _ => rfl) (v := yR k0) rfl rfl ?_
        refine yG.load xik rfl (fun _ _ => rfl) (v := yI (a3)) rfl rfl ?_
        refine yG.putN A_hq.1 (w_Big_size W H_k0) (W.2.1 _ _ H_k0 (by decide) (by decide)) rfl rfl rfl ⟨by omega, by omega⟩ (by omega) (by omega) (fun h1 T_h1 b_h1 f_h1 y_h1 => ?_)
        have A_h1 := A_hq.put T_h1 b_h1 f_h1 H_k0 (by decide)
        refine yG.load xak rfl (fun _ _ => rfl) (v := yR k0) rfl rfl ?_
        refine yG.load xak rfl (fun _ _ => rfl) (v := yR k1) rfl rfl ?_
        refine yG.getI A_h1.1 (w_Big_minus W H_k1) rfl rfl (fun z2 e_z2 i_z2 l_z2 u_z2 => ?_)
        refine yG.load xak rfl (fun _ _ => rfl) (v := yR k2) rfl rfl ?_
        refine yG.getI A_h1.1 (w_Big_minus W H_k2) rfl rfl (fun z3 e_z3 i_z3 l_z3 u_z3 => ?_)
        refine yG.icmp rfl (t := 199) rfl ⟨by omega, by omega⟩ ⟨by omega, by omega⟩ (fun c4 => ?_) (fun c4 => ?_)
        · have c4 : (z2 : Int) = z3 := c4
          refine yG.num (c := 0) rfl (fun _ _ => rfl) (by decide) ?_
          refine yG.putI A_h1.1 (w_Big_minus W H_k0) (W.2.1 _ _ H_k0 (by decide) (by decide)) rfl rfl (.inr ⟨rfl, rfl, rfl⟩) ⟨by omega, by omega⟩ (by omega) (by omega) (fun h5 T_h5 b_h5 f_h5 y_h5 => ?_)
          have A_h5 := A_h1.put T_h5 b_h5 f_h5 H_k0 (by decide)
          refine yG.load xak rfl (fun _ _ => rfl) (v := yR k0) rfl rfl ?_
          refine yG.invV (rest := []) A_h5.1 (bOb (d_Big W) H_k0) rfl rfl rfl rfl (c_Big_trim W d A_h5.1 H_k0) (fun rv h6 q9 => ?_)
          obtain ⟨⟨rfl, R_z7⟩, B_h6⟩ := q9
          have A_h6 := A_h5.tr B_h6 (by decide)
          show yG _ _ _ _ _ _ _ _ _ _ [] _
          refine yG.ret rfl (fun _ _ => rfl) ?_
          exact (yP.void ⟨⟨rfl, trivial⟩, A_h6⟩)
        · have c4 : (z2 : Int) ≠ z3 := c4
          refine yG.num (c := 1) rfl (fun _ _ => rfl) (by decide) ?_
          refine yG.goto rfl (t := 200) rfl ?_
          refine yG.putI A_h1.1 (w_Big_minus W H_k0) (W.2.1 _ _ H_k0 (by decide) (by decide)) rfl rfl (.inr ⟨rfl, rfl, rfl⟩) ⟨by omega, by omega⟩ (by omega) (by omega) (fun h8 T_h8 b_h8 f_h8 y_h8 => ?_)
          have A_h8 := A_h1.put T_h8 b_h8 f_h8 H_k0 (by decide)
          refine yG.load xak rfl (fun _ _ => rfl) (v := yR k0) rfl rfl ?_
          refine yG.invV (rest := []) A_h8.1 (bOb (d_Big W) H_k0) rfl rfl rfl rfl (c_Big_trim W d A_h8.1 H_k0) (fun rv h9 q9 => ?_)
          obtain ⟨⟨rfl, R_z10⟩, B_h9⟩ := q9
          have A_h9 := A_h8.tr B_h9 (by decide)
          show yG _ _ _ _ _ _ _ _ _ _ [] _
          refine yG.ret rfl (fun _ _ => rfl) ?_
          exact (yP.void ⟨⟨rfl, trivial⟩, A_h9⟩)
  refine yC.of (M := (xt_X0_product, (12, (0, (1, []))))) rfl rfl (N := 115396134) (yfuel (by decide)) ?_
  show yG 89 xfts (xcall 89 xfts xpools xms (d + 1)) (xpool xp_RX0) [] xt_X0_product (yP 0 (fun rv hp' => (rv = none ∧ True) ∧ bAx G [(34359738368, 1), (34359738368, 2), (68719476736, 256)] hp hp')) 115396134 0 [(0, yR k0), (1, yR k1), (2, yR k2)] [] hp
  obtain ⟨i_21, i_44, i_74, i_147, i_178⟩ := H 2747526
  refine yG.load xak rfl (fun _ _ => rfl) (v := yR k1) rfl rfl ?_
  refine yG.getN A_hp.1 (w_Big_size W H_k1) rfl rfl (fun z1 e_z1 i_z1 l_z1 u_z1 => ?_)
  refine yG.load xak rfl (fun _ _ => rfl) (v := yR k2) rfl rfl ?_
  refine yG.getN A_hp.1 (w_Big_size W H_k2) rfl rfl (fun z2 e_z2 i_z2 l_z2 u_z2 => ?_)
  refine yG.iadd rfl ?_
  refine yG.load xak rfl (fun _ _ => rfl) (v := yR k0) rfl rfl ?_
  refine yG.getO A_hp.1 (w_Big_limb W H_k0) rfl rfl (fun r3 H_r3 O_r3 q_r3 => ?_)
  have O_r3 := O_r3 rfl
  refine yG.alenF A_hp.1 (v_Big_limb W H_r3).yIF rfl ?_
  obtain ⟨z4, e_z4⟩ : ∃ z : Int, z = ((zat G r3 : Nat) : Int) := ⟨_, rfl⟩
  rw [← e_z4]
  refine yG.invS (rest := []) rfl rfl rfl rfl (c_J9_minI W d A_hp.1 (z1 + z2) (z4) (by omega) (by omega) (by omega) (by omega)) (fun rv hp9 q9 => ?_)
  obtain ⟨⟨z5, rfl, l_z5, u_z5, R_z5⟩, e9⟩ := q9
  rw [e9]
  show yG _ _ _ _ _ _ _ _ _ _ (yI z5 :: []) _
  refine yG.store1 xik (L' := [(3, yI (z5)), (0, yR k0), (1, yR k1), (2, yR k2)]) rfl (fun _ _ => rfl) rfl rfl ?_
  refine yG.num (c := 0) rfl (fun _ _ => rfl) (by decide) ?_
  refine yG.store1 xik (L' := [(4, yI (0)), (3, yI (z5)), (0, yR k0), (1, yR k1), (2, yR k2)]) rfl (fun _ _ => rfl) rfl rfl ?_
  exact yG.mono (yG.sub (i_21 (z5) (0)  hp A_hp   (by omega) (by omega) (by omega) (by omega) (by omega) (by omega) (by omega) (by omega) (by omega) (by omega) (by omega) (by omega) (by omega)) (ySub.cons rfl (ySub.cons rfl (ySub.cons rfl (ySub.cons rfl (ySub.cons rfl (ySub.nil))))))) (by omega)
theorem c_Big_scale {hp : xH} (W : bW G) (d : Nat) (hT : zTy G hp) {k0 : Nat} (H_k0 : bRo G 35 k0) (p1 : Int) (h1l : (-9223372036854775808) ≤ p1) (h1u : p1 ≤ 9223372036854775807) : yC (xcall 89 xfts xpools xms (d + 2)) 65 [yR k0, yJ (p1)] hp (fun rv hp' => (rv = none ∧ True) ∧ bAx G [(34359738368, 1), (34359738368, 2), (68719476736, 256)] hp hp') := by
  have A_hp : bAx G [(34359738368, 1), (34359738368, 2), (68719476736, 256)] hp hp := bAx.rf hT
  obtain ⟨n_k0, N_k0⟩ : ∃ n : Int, n = ((zat G k0 : Nat) : Int) := ⟨_, rfl⟩
  have L_k0 := n_Big W H_k0
  have H : ∀ m : Nat, (∀ a3 : Int, ∀ a5 : Int, ∀ a7 : Int, ∀ hq, bAx G [(34359738368, 1), (34359738368, 2), (68719476736, 256)] hp hq → (-9223372036854775808) ≤ a3 → (-9223372036854775807) ≤ 0 - a3 → 0 ≤ a5 → (-17179869183) ≤ 0 - a5 → 0 ≤ a7 → (-96) ≤ 0 - a7 → (-9223372036854775808) ≤ p1 → (-9223372036854775807) ≤ 0 - p1 → 12 ≤ n_k0 → (-96) ≤ 0 - n_k0 → (-17179869182) ≤ 0 - a5 + a7 → (-9223372036854775807) ≤ a3 - p1 → 0 ≤ 0 - a7 + n_k0 → 0 - 51539607553 * a7 + 4999341932640 < (m : Int) → yG 89 xfts (xcall 89 xfts xpools xms (d + 1)) (xpool xp_RX0) [] xt_X0_scale (yP 0 (fun rv hp' => (rv = none ∧ True) ∧ bAx G [(34359738368, 1), (34359738368, 2), (68719476736, 256)] hp hp')) (31 * m) 11 [(0, yR k0), (1, yJ (p1)), (3, yJ (a3)), (5, yJ (a5)), (7, yI (a7))] [] hq) ∧ (∀ a5 : Int, ∀ hq, bAx G [(34359738368, 1), (34359738368, 2), (68719476736, 256)] hp hq → 0 ≤ a5 → (-17179869183) ≤ 0 - a5 → (-9223372036854775808) ≤ p1 → (-9223372036854775807) ≤ 0 - p1 → 12 ≤ n_k0 → (-96) ≤ 0 - n_k0 → 3 * a5 + 2 < (m : Int) → yG 89 xfts (xcall 89 xfts xpools xms (d + 1)) (xpool xp_RX0) [] xt_X0_scale (yP 0 (fun rv hp' => (rv = none ∧ True) ∧ bAx G [(34359738368, 1), (34359738368, 2), (68719476736, 256)] hp hp')) (31 * m) 60 [(0, yR k0), (1, yJ (p1)), (5, yJ (a5))] [] hq) ∧ (∀ hq, bAx G [(34359738368, 1), (34359738368, 2), (68719476736, 256)] hp hq → (-9223372036854775808) ≤ p1 → (-9223372036854775807) ≤ 0 - p1 → 12 ≤ n_k0 → (-96) ≤ 0 - n_k0 → 1 < (m : Int) → yG 89 xfts (xcall 89 xfts xpools xms (d + 1)) (xpool xp_RX0) [] xt_X0_scale (yP 0 (fun rv hp' => (rv = none ∧ True) ∧ bAx G [(34359738368, 1), (34359738368, 2), (68719476736, 256)] hp hp')) (31 * m) 114 [(0, yR k0), (1, yJ (p1))] [] hq) := by
    intro m
    induction m with
    | zero =>
      refine ⟨?_, ?_, ?_⟩ <;> (intros; exfalso; omega)
    | succ m ih =>
      obtain ⟨i_11, i_60, i_114⟩ := ih
      refine ⟨?_, ?_, ?_⟩
      · intro a3 a5 a7 hq A_hq f0 f1 f2 f3 f4 f5 f6 f7 f8 f9 f10 f11 f12 hm
        refine yG.mono (N := 31 * m + 31) ?_ (by omega)
        refine yG.load xik rfl (fun _ _ => rfl) (v := yI (a7)) rfl rfl ?_
        refine yG.load xak rfl (fun _ _ => rfl) (v := yR k0) rfl rfl ?_
        refine yG.getN A_hq.1 (w_Big_size W H_k0) rfl rfl (fun z1 e_z1 i_z1 l_z1 u_z1 => ?_)
        refine yG.icmp rfl (t := 60) rfl ⟨by omega, by omega⟩ ⟨by omega, by omega⟩ (fun c2 => ?_) (fun c2 => ?_)
        · have c2 : (a7 : Int) ≥ z1 := c2
          exact yG.mono (yG.sub (i_60 (a5)  hq A_hq   (by omega) (by omega) (by omega) (by omega) (by omega) (by omega) (by omega)) (ySub.cons rfl (ySub.cons rfl (ySub.cons rfl (ySub.nil))))) (by omega)
        · have c2 : (a7 : Int) < z1 := c2
          refine yG.load xak rfl (fun _ _ => rfl) (v := yR k0) rfl rfl ?_
          refine yG.getO A_hq.1 (w_Big_limb W H_k0) rfl rfl (fun r3 H_r3 O_r3 q_r3 => ?_)
          have O_r3 := O_r3 rfl
          refine yG.load xik rfl (fun _ _ => rfl) (v := yI (a7)) rfl rfl ?_
          refine yG.lald A_hq.1 (v_Big_limb W H_r3) rfl (by omega) (by omega) (fun z4 e_z4 i_z4 l_z4 u_z4 => ?_)
          refine yG.load xlk2 rfl (fun _ _ => rfl) (v := yJ (a3)) rfl rfl ?_
          refine yG.lmul rfl ?_
          obtain ⟨z5, e_z5⟩ : ∃ z : Int, z = z4 * a3 := ⟨_, rfl⟩
          rw [← e_z5]
          have b_z5 : -9903520305059670162338217984 ≤ z5 ∧ z5 ≤ 9903520305059670162338217984 := e_z5 ▸ ymuls (A := 1073741823) (B := 9223372036854775808) (by omega) (by omega) (by omega) (by omega) (by decide)
          refine yG.load xlk2 rfl (fun _ _ => rfl) (v := yJ (a5)) rfl rfl ?_
          refine yG.ladd rfl ?_
          obtain ⟨z6, e_z6, l_z6, u_z6⟩ := ywJ (z5 + a5)
          rw [e_z6]
          refine yG.store2 xlk2 (L' := [(8, yJ (z6)), (0, yR k0), (1, yJ (p1)), (3, yJ (a3)), (5, yJ (a5)), (7, yI (a7))]) rfl (fun _ _ => rfl) rfl rfl ?_
          refine yG.load xak rfl (fun _ _ => rfl) (v := yR k0) rfl rfl ?_
          refine yG.getS9 A_hq.1 (w_Big_limb W H_k0) q_r3 rfl rfl ?_
          refine yG.load xik rfl (fun _ _ => rfl) (v := yI (a7)) rfl rfl ?_
          refine yG.load xlk2 rfl (fun _ _ => rfl) (v := yJ (z6)) rfl rfl ?_
          refine yG.numl (c := 1073741823) rfl (fun _ _ => rfl) (by decide) ?_
          refine yG.bit64 rfl (fun _ _ => rfl) (fun z7 e_z7 l_z7 u_z7 => ?_)
          have b_z7 : 0 ≤ z7 ∧ z7 ≤ 1073741823 := by rw [e_z7]; exact yland ⟨by decide, by decide⟩ (by decide)
          refine yG.last A_hq.1 (v_Big_limb W H_r3) (W.2.1 _ _ H_r3 (by decide) (by decide)) rfl (by omega) (by omega) ⟨by omega, by omega⟩ (by omega) (by omega) (fun h8 T_h8 b_h8 f_h8 y_h8 => ?_)
          have A_h8 := A_hq.put T_h8 b_h8 f_h8 H_r3 (bAll_ok (by decide) _)
          have qq1 : zsl h8 k0 0 = yR r3 := ((f_h8 k0 0).trans (if_neg (fun e => (bRo.ne H_k0 H_r3 (by decide)) e.1))).trans q_r3
          refine yG.load xlk2 rfl (fun _ _ => rfl) (v := yJ (z6)) rfl rfl ?_
          refine yG.num (c := 30) rfl (fun _ _ => rfl) (by decide) ?_
          refine yG.bit64 rfl (fun _ _ => rfl) (fun z9 e_z9 l_z9 u_z9 => ?_)
          have b_z9 : z9 = ((zc64 (z6) : Nat) : Int) / 1073741824 := by rw [e_z9]; exact blushr (n := 30) (by decide) (by decide) (by decide)
          have c_z9 : zc64 (z6) < 18446744073709551616 := by unfold zc64; omega
          refine yG.store2 xlk2 (L' := [(5, yJ (z9)), (8, yJ (z6)), (0, yR k0), (1, yJ (p1)), (3, yJ (a3)), (7, yI (a7))]) rfl (fun _ _ => rfl) rfl rfl ?_
          refine yG.iinc rfl (a := a7) rfl (L' := [(7, yI (a7 + 1)), (5, yJ (z9)), (8, yJ (z6)), (0, yR k0), (1, yJ (p1)), (3, yJ (a3))]) rfl ?_
          refine yG.goto rfl (t := 11) rfl ?_
          exact yG.mono (yG.sub (i_11 (a3) (z9) (a7 + 1)  h8 A_h8   (by omega) (by omega) (by omega) (by omega) (by omega) (by omega) (by omega) (by omega) (by omega) (by omega) (by omega) (by omega) (by omega) (by omega)) (ySub.cons rfl (ySub.cons rfl (ySub.cons rfl (ySub.cons rfl (ySub.cons rfl (ySub.nil))))))) (by omega)
      · intro a5 hq A_hq f0 f1 f2 f3 f4 f5 hm
        refine yG.mono (N := 31 * m + 31) ?_ (by omega)
        refine yG.load xlk2 rfl (fun _ _ => rfl) (v := yJ (a5)) rfl rfl ?_
        refine yG.numl (c := 0) rfl (fun _ _ => rfl) (by decide) ?_
        refine yG.lcmp rfl ⟨by omega, by omega⟩ ⟨by omega, by omega⟩ (fun z1 e_z1 => ?_)
        refine yG.ifz rfl (t := 114) rfl ⟨by omega, by omega⟩ (fun c2 => ?_) (fun c2 => ?_)
        · have c2 : (z1 : Int) ≤ 0 := c2
          exact yG.mono (yG.sub (i_114   hq A_hq   (by omega) (by omega) (by omega) (by omega) (by omega)) (ySub.cons rfl (ySub.cons rfl (ySub.nil)))) (by omega)
        · have c2 : (z1 : Int) > 0 := c2
          refine yG.load xak rfl (fun _ _ => rfl) (v := yR k0) rfl rfl ?_
          refine yG.getN A_hq.1 (w_Big_size W H_k0) rfl rfl (fun z3 e_z3 i_z3 l_z3 u_z3 => ?_)
          refine yG.load xak rfl (fun _ _ => rfl) (v := yR k0) rfl rfl ?_
          refine yG.getO A_hq.1 (w_Big_limb W H_k0) rfl rfl (fun r4 H_r4 O_r4 q_r4 => ?_)
          have O_r4 := O_r4 rfl
          refine yG.alenF A_hq.1 (v_Big_limb W H_r4).yIF rfl ?_
          obtain ⟨z5, e_z5⟩ : ∃ z : Int, z = ((zat G r4 : Nat) : Int) := ⟨_, rfl⟩
          rw [← e_z5]
          refine yG.icmp rfl (t := 114) rfl ⟨by omega, by omega⟩ ⟨by omega, by omega⟩ (fun c6 => ?_) (fun c6 => ?_)
          · have c6 : (z3 : Int) ≥ z5 := c6
            exact yG.mono (yG.sub (i_114   hq A_hq   (by omega) (by omega) (by omega) (by omega) (by omega)) (ySub.cons rfl (ySub.cons rfl (ySub.nil)))) (by omega)
          · have c6 : (z3 : Int) < z5 := c6
            refine yG.load xak rfl (fun _ _ => rfl) (v := yR k0) rfl rfl ?_
            refine yG.getS9 A_hq.1 (w_Big_limb W H_k0) q_r4 rfl rfl ?_
            refine yG.load xak rfl (fun _ _ => rfl) (v := yR k0) rfl rfl ?_
            refine yG.getN A_hq.1 (w_Big_size W H_k0) rfl rfl (fun z7 e_z7 i_z7 l_z7 u_z7 => ?_)
            refine yG.load xlk2 rfl (fun _ _ => rfl) (v := yJ (a5)) rfl rfl ?_
            refine yG.numl (c := 1073741823) rfl (fun _ _ => rfl) (by decide) ?_
            refine yG.bit64 rfl (fun _ _ => rfl) (fun z8 e_z8 l_z8 u_z8 => ?_)
            have b_z8 : 0 ≤ z8 ∧ z8 ≤ 1073741823 := by rw [e_z8]; exact yland ⟨by decide, by decide⟩ (by decide)
            refine yG.last A_hq.1 (v_Big_limb W H_r4) (W.2.1 _ _ H_r4 (by decide) (by decide)) rfl (by omega) (by omega) ⟨by omega, by omega⟩ (by omega) (by omega) (fun h9 T_h9 b_h9 f_h9 y_h9 => ?_)
            have A_h9 := A_hq.put T_h9 b_h9 f_h9 H_r4 (bAll_ok (by decide) _)
            have : ys h9 k0 1 = ys hq k0 1 := (y_h9 k0 1).trans (if_neg (fun e => (bRo.ne H_k0 H_r4 (by decide)) e.1))
            have qq1 : zsl h9 k0 0 = yR r4 := ((f_h9 k0 0).trans (if_neg (fun e => (bRo.ne H_k0 H_r4 (by decide)) e.1))).trans q_r4
            refine yG.load xak rfl (fun _ _ => rfl) (v := yR k0) rfl rfl ?_
            refine yG.step (pc' := 96) (stk' := [yR k0, yR k0]) rfl (fun _ _ => rfl) ?_
            refine yG.getN A_h9.1 (w_Big_size W H_k0) rfl rfl (fun z10 e_z10 i_z10 l_z10 u_z10 => ?_)
            refine yG.num (c := 1) rfl (fun _ _ => rfl) (by decide) ?_
            refine yG.iadd rfl ?_
            refine yG.putN A_h9.1 (w_Big_size W H_k0) (W.2.1 _ _ H_k0 (by decide) (by decide)) rfl rfl rfl ⟨by omega, by omega⟩ (by omega) (by omega) (fun h11 T_h11 b_h11 f_h11 y_h11 => ?_)
            have A_h11 := A_h9.put T_h11 b_h11 f_h11 H_k0 (by decide)
            have qq2 : zsl h11 k0 0 = yR r4 := ((f_h11 k0 0).trans (if_neg (fun e => absurd e.2 (by decide)))).trans qq1
            have : ys h11 k0 1 = z10 + 1 := (y_h11 k0 1).trans (if_pos ⟨rfl, rfl⟩)
            refine yG.load xlk2 rfl (fun _ _ => rfl) (v := yJ (a5)) rfl rfl ?_
            refine yG.num (c := 30) rfl (fun _ _ => rfl) (by decide) ?_
            refine yG.bit64 rfl (fun _ _ => rfl) (fun z12 e_z12 l_z12 u_z12 => ?_)
            have b_z12 : z12 = ((zc64 (a5) : Nat) : Int) / 1073741824 := by rw [e_z12]; exact blushr (n := 30) (by decide) (by decide) (by decide)
            have c_z12 : zc64 (a5) < 18446744073709551616 := by unfold zc64; omega
            have d_z12 : ((zc64 (a5) : Nat) : Int) = a5 := by unfold zc64; omega
            refine yG.store2 xlk2 (L' := [(5, yJ (z12)), (0, yR k0), (1, yJ (p1))]) rfl (fun _ _ => rfl) rfl rfl ?_
            refine yG.goto rfl (t := 60) rfl ?_
            exact yG.mono (yG.sub (i_60 (z12)  h11 A_h11   (by omega) (by omega) (by omega) (by omega) (by omega) (by omega) (by omega)) (ySub.cons rfl (ySub.cons rfl (ySub.cons rfl (ySub.nil))))) (by omega)
      · intro hq A_hq f0 f1 f2 f3 hm
        refine yG.mono (N := 31 * m + 31) ?_ (by omega)
        refine yG.load xak rfl (fun _ _ => rfl) (v := yR k0) rfl rfl ?_
        refine yG.load xak rfl (fun _ _ => rfl) (v := yR k0) rfl rfl ?_
        refine yG.getI A_hq.1 (w_Big_minus W H_k0) rfl rfl (fun z1 e_z1 i_z1 l_z1 u_z1 => ?_)
        refine yG.load xlk2 rfl (fun _ _ => rfl) (v := yJ (p1)) rfl rfl ?_
        refine yG.numl (c := 0) rfl (fun _ _ => rfl) (by decide) ?_
        refine yG.lcmp rfl ⟨by omega, by omega⟩ ⟨by omega, by omega⟩ (fun z2 e_z2 => ?_)
        refine yG.ifz rfl (t := 129) rfl ⟨by omega, by omega⟩ (fun c3 => ?_) (fun c3 => ?_)
        · have c3 : (z2 : Int) ≥ 0 := c3
          refine yG.num (c := 0) rfl (fun _ _ => rfl) (by decide) ?_
          refine yG.icmp rfl (t := 137) rfl ⟨by omega, by omega⟩ ⟨by omega, by omega⟩ (fun c4 => ?_) (fun c4 => ?_)
          · have c4 : (z1 : Int) = 0 := c4
            refine yG.num (c := 0) rfl (fun _ _ => rfl) (by decide) ?_
            refine yG.putI A_hq.1 (w_Big_minus W H_k0) (W.2.1 _ _ H_k0 (by decide) (by decide)) rfl rfl (.inr ⟨rfl, rfl, rfl⟩) ⟨by omega, by omega⟩ (by omega) (by omega) (fun h5 T_h5 b_h5 f_h5 y_h5 => ?_)
            have A_h5 := A_hq.put T_h5 b_h5 f_h5 H_k0 (by decide)
            refine yG.load xak rfl (fun _ _ => rfl) (v := yR k0) rfl rfl ?_
            refine yG.invV (rest := []) A_h5.1 (bOb (d_Big W) H_k0) rfl rfl rfl rfl (c_Big_trim W d A_h5.1 H_k0) (fun rv h6 q9 => ?_)
            obtain ⟨⟨rfl, R_z7⟩, B_h6⟩ := q9
            have A_h6 := A_h5.tr B_h6 (by decide)
            show yG _ _ _ _ _ _ _ _ _ _ [] _
            refine yG.ret rfl (fun _ _ => rfl) ?_
            exact (yP.void ⟨⟨rfl, trivial⟩, A_h6⟩)
          · have c4 : (z1 : Int) ≠ 0 := c4
            refine yG.num (c := 1) rfl (fun _ _ => rfl) (by decide) ?_
            refine yG.goto rfl (t := 138) rfl ?_
            refine yG.putI A_hq.1 (w_Big_minus W H_k0) (W.2.1 _ _ H_k0 (by decide) (by decide)) rfl rfl (.inr ⟨rfl, rfl, rfl⟩) ⟨by omega, by omega⟩ (by omega) (by omega) (fun h8 T_h8 b_h8 f_h8 y_h8 => ?_)
            have A_h8 := A_hq.put T_h8 b_h8 f_h8 H_k0 (by decide)
            refine yG.load xak rfl (fun _ _ => rfl) (v := yR k0) rfl rfl ?_
            refine yG.invV (rest := []) A_h8.1 (bOb (d_Big W) H_k0) rfl rfl rfl rfl (c_Big_trim W d A_h8.1 H_k0) (fun rv h9 q9 => ?_)
            obtain ⟨⟨rfl, R_z10⟩, B_h9⟩ := q9
            have A_h9 := A_h8.tr B_h9 (by decide)
            show yG _ _ _ _ _ _ _ _ _ _ [] _
            refine yG.ret rfl (fun _ _ => rfl) ?_
            exact (yP.void ⟨⟨rfl, trivial⟩, A_h9⟩)
        · have c3 : (z2 : Int) < 0 := c3
          refine yG.num (c := 1) rfl (fun _ _ => rfl) (by decide) ?_
          refine yG.goto rfl (t := 130) rfl ?_
          refine yG.icmp rfl (t := 137) rfl ⟨by omega, by omega⟩ ⟨by omega, by omega⟩ (fun c11 => ?_) (fun c11 => ?_)
          · have c11 : (z1 : Int) = 1 := c11
            refine yG.num (c := 0) rfl (fun _ _ => rfl) (by decide) ?_
            refine yG.putI A_hq.1 (w_Big_minus W H_k0) (W.2.1 _ _ H_k0 (by decide) (by decide)) rfl rfl (.inr ⟨rfl, rfl, rfl⟩) ⟨by omega, by omega⟩ (by omega) (by omega) (fun h12 T_h12 b_h12 f_h12 y_h12 => ?_)
            have A_h12 := A_hq.put T_h12 b_h12 f_h12 H_k0 (by decide)
            refine yG.load xak rfl (fun _ _ => rfl) (v := yR k0) rfl rfl ?_
            refine yG.invV (rest := []) A_h12.1 (bOb (d_Big W) H_k0) rfl rfl rfl rfl (c_Big_trim W d A_h12.1 H_k0) (fun rv h13 q9 => ?_)
            obtain ⟨⟨rfl, R_z14⟩, B_h13⟩ := q9
            have A_h13 := A_h12.tr B_h13 (by decide)
            show yG _ _ _ _ _ _ _ _ _ _ [] _
            refine yG.ret rfl (fun _ _ => rfl) ?_
            exact (yP.void ⟨⟨rfl, trivial⟩, A_h13⟩)
          · have c11 : (z1 : Int) ≠ 1 := c11
            refine yG.num (c := 1) rfl (fun _ _ => rfl) (by decide) ?_
            refine yG.goto rfl (t := 138) rfl ?_
            refine yG.putI A_hq.1 (w_Big_minus W H_k0) (W.2.1 _ _ H_k0 (by decide) (by decide)) rfl rfl (.inr ⟨rfl, rfl, rfl⟩) ⟨by omega, by omega⟩ (by omega) (by omega) (fun h15 T_h15 b_h15 f_h15 y_h15 => ?_)
            have A_h15 := A_hq.put T_h15 b_h15 f_h15 H_k0 (by decide)
            refine yG.load xak rfl (fun _ _ => rfl) (v := yR k0) rfl rfl ?_
            refine yG.invV (rest := []) A_h15.1 (bOb (d_Big W) H_k0) rfl rfl rfl rfl (c_Big_trim W d A_h15.1 H_k0) (fun rv h16 q9 => ?_)
            obtain ⟨⟨rfl, R_z17⟩, B_h16⟩ := q9
            have A_h16 := A_h15.tr B_h16 (by decide)
            show yG _ _ _ _ _ _ _ _ _ _ [] _
            refine yG.ret rfl (fun _ _ => rfl) ?_
            exact (yP.void ⟨⟨rfl, trivial⟩, A_h16⟩)
  refine yC.of (M := (xt_X0_scale, (10, (0, (1, []))))) rfl rfl (N := 154979599911933) (yfuel (by decide)) ?_
  show yG 89 xfts (xcall 89 xfts xpools xms (d + 1)) (xpool xp_RX0) [] xt_X0_scale (yP 0 (fun rv hp' => (rv = none ∧ True) ∧ bAx G [(34359738368, 1), (34359738368, 2), (68719476736, 256)] hp hp')) 154979599911933 0 [(0, yR k0), (1, yJ (p1))] [] hp
  obtain ⟨i_11, i_60, i_114⟩ := H 4999341932642
  refine yG.load xlk2 rfl (fun _ _ => rfl) (v := yJ (p1)) rfl rfl ?_
  refine yG.invS (rest := []) rfl rfl rfl rfl (c_J9_absJ W d A_hp.1 (p1) (by omega) (by omega)) (fun rv hp9 q9 => ?_)
  obtain ⟨⟨z1, rfl, l_z1, u_z1, R_z1⟩, e9⟩ := q9
  rw [e9]
  show yG _ _ _ _ _ _ _ _ _ _ (yJ z1 :: []) _
  refine yG.store2 xlk2 (L' := [(3, yJ (z1)), (0, yR k0), (1, yJ (p1))]) rfl (fun _ _ => rfl) rfl rfl ?_
  refine yG.numl (c := 0) rfl (fun _ _ => rfl) (by decide) ?_
  refine yG.store2 xlk2 (L' := [(5, yJ (0)), (3, yJ (z1)), (0, yR k0), (1, yJ (p1))]) rfl (fun _ _ => rfl) rfl rfl ?_
  refine yG.num (c := 0) rfl (fun _ _ => rfl) (by decide) ?_
  refine yG.store1 xik (L' := [(7, yI (0)), (5, yJ (0)), (3, yJ (z1)), (0, yR k0), (1, yJ (p1))]) rfl (fun _ _ => rfl) rfl rfl ?_
  exact yG.mono (yG.sub (i_11 (z1) (0) (0)  hp A_hp   (by omega) (by omega) (by omega) (by omega) (by omega) (by omega) (by omega) (by omega) (by omega) (by omega) (by omega) (by omega) (by omega) (by omega)) (ySub.cons rfl (ySub.cons rfl (ySub.cons rfl (ySub.cons rfl (ySub.cons rfl (ySub.nil))))))) (by omega)
theorem c_Big_moreTimes {hp : xH} (W : bW G) (d : Nat) (hT : zTy G hp) {k0 : Nat} (H_k0 : bRo G 35 k0) {k1 : Nat} (H_k1 : bRo G 35 k1) (p2 : Int) (h2l : (-9223372036854775808) ≤ p2) (h2u : p2 ≤ 9223372036854775807) : yC (xcall 89 xfts xpools xms (d + 2)) 61 [yR k0, yR k1, yJ (p2)] hp (fun rv hp' => (rv = none ∧ True) ∧ bAx G [(34359738368, 1), (68719476736, 256)] hp hp') := by
  have A_hp : bAx G [(34359738368, 1), (68719476736, 256)] hp hp := bAx.rf hT
  obtain ⟨n_k0, N_k0⟩ : ∃ n : Int, n = ((zat G k0 : Nat) : Int) := ⟨_, rfl⟩
  have L_k0 := n_Big W H_k0
  obtain ⟨n_k1, N_k1⟩ : ∃ n : Int, n = ((zat G k1 : Nat) : Int) := ⟨_, rfl⟩
  have L_k1 := n_Big W H_k1
  have H : ∀ m : Nat, (∀ a4 : Int, ∀ a6 : Int, ∀ hq, bAx G [(34359738368, 1), (68719476736, 256)] hp hq → 0 ≤ a4 → (-17179869183) ≤ 0 - a4 → 0 ≤ a6 → (-96) ≤ 0 - a6 → (-9223372036854775808) ≤ p2 → (-9223372036854775807) ≤ 0 - p2 → 12 ≤ n_k0 → (-96) ≤ 0 - n_k0 → 12 ≤ n_k1 → (-96) ≤ 0 - n_k1 → (-17179869182) ≤ 0 - a4 + a6 → (-9223372036854775808) ≤ 0 - a4 + p2 → (-9223372036854775808) ≤ 0 - a6 + p2 → 0 ≤ 0 - a6 + n_k0 → 0 - 3 * a6 + 290 < (m : Int) → yG 89 xfts (xcall 89 xfts xpools xms (d + 1)) (xpool xp_RX0) [] xt_X0_moreTimes (yP 0 (fun rv hp' => (rv = none ∧ True) ∧ bAx G [(34359738368, 1), (68719476736, 256)] hp hp')) (47 * m) 6 [(0, yR k0), (1, yR k1), (2, yJ (p2)), (4, yJ (a4)), (6, yI (a6))] [] hq) ∧ (∀ a4 : Int, ∀ a6 : Int, ∀ hq, bAx G [(34359738368, 1), (68719476736, 256)] hp hq → 0 ≤ a4 → (-17179869183) ≤ 0 - a4 → 0 ≤ a6 → (-95) ≤ 0 - a6 → 1 ≤ p2 → (-9223372036854775807) ≤ 0 - p2 → 12 ≤ n_k0 → (-96) ≤ 0 - n_k0 → 12 ≤ n_k1 → (-96) ≤ 0 - n_k1 → (-17179869182) ≤ 0 - a4 + a6 → 1 ≤ 0 - a6 + n_k0 → 0 - 3 * a6 + 289 < (m : Int) → yG 89 xfts (xcall 89 xfts xpools xms (d + 1)) (xpool xp_RX0) [] xt_X0_moreTimes (yP 0 (fun rv hp' => (rv = none ∧ True) ∧ bAx G [(34359738368, 1), (68719476736, 256)] hp hp')) (47 * m) 38 [(0, yR k0), (1, yR k1), (2, yJ (p2)), (4, yJ (a4)), (6, yI (a6))] [] hq) := by
    intro m
    induction m with
    | zero =>
      refine ⟨?_, ?_⟩ <;> (intros; exfalso; omega)
    | succ m ih =>
      obtain ⟨i_6, i_38⟩ := ih
      refine ⟨?_, ?_⟩
      · intro a4 a6 hq A_hq f0 f1 f2 f3 f4 f5 f6 f7 f8 f9 f10 f11 f12 f13 hm
        refine yG.mono (N := 47 * m + 47) ?_ (by omega)
        refine yG.load xik rfl (fun _ _ => rfl) (v := yI (a6)) rfl rfl ?_
        refine yG.load xak rfl (fun _ _ => rfl) (v := yR k0) rfl rfl ?_
        refine yG.getO A_hq.1 (w_Big_limb W H_k0) rfl rfl (fun r1 H_r1 O_r1 q_r1 => ?_)
        have O_r1 := O_r1 rfl
        refine yG.alenF A_hq.1 (v_Big_limb W H_r1).yIF rfl ?_
        obtain ⟨z2, e_z2⟩ : ∃ z : Int, z = ((zat G r1 : Nat) : Int) := ⟨_, rfl⟩
        rw [← e_z2]
        refine yG.icmp rfl (t := 127) rfl ⟨by omega, by omega⟩ ⟨by omega, by omega⟩ (fun c3 => ?_) (fun c3 => ?_)
        · have c3 : (a6 : Int) ≥ z2 := c3
          refine yG.ret rfl (fun _ _ => rfl) ?_
          exact (yP.void ⟨⟨rfl, trivial⟩, A_hq⟩)
        · have c3 : (a6 : Int) < z2 := c3
          refine yG.load xlk2 rfl (fun _ _ => rfl) (v := yJ (p2)) rfl rfl ?_
          refine yG.numl (c := 0) rfl (fun _ _ => rfl) (by decide) ?_
          refine yG.lcmp rfl ⟨by omega, by omega⟩ ⟨by omega, by omega⟩ (fun z4 e_z4 => ?_)
          refine yG.ifz rfl (t := 127) rfl ⟨by omega, by omega⟩ (fun c5 => ?_) (fun c5 => ?_)
          · have c5 : (z4 : Int) ≤ 0 := c5
            refine yG.ret rfl (fun _ _ => rfl) ?_
            exact (yP.void ⟨⟨rfl, trivial⟩, A_hq⟩)
          · have c5 : (z4 : Int) > 0 := c5
            refine yG.load xik rfl (fun _ _ => rfl) (v := yI (a6)) rfl rfl ?_
            refine yG.load xak rfl (fun _ _ => rfl) (v := yR k1) rfl rfl ?_
            refine yG.getN A_hq.1 (w_Big_size W H_k1) rfl rfl (fun z6 e_z6 i_z6 l_z6 u_z6 => ?_)
            refine yG.icmp rfl (t := 38) rfl ⟨by omega, by omega⟩ ⟨by omega, by omega⟩ (fun c7 => ?_) (fun c7 => ?_)
            · have c7 : (a6 : Int) < z6 := c7
              exact yG.mono (yG.sub (i_38 (a4) (a6)  hq A_hq   (by omega) (by omega) (by omega) (by omega) (by omega) (by omega) (by omega) (by omega) (by omega) (by omega) (by omega) (by omega) (by omega)) (ySub.cons rfl (ySub.cons rfl (ySub.cons rfl (ySub.cons rfl (ySub.cons rfl (ySub.nil))))))) (by omega)
            · have c7 : (a6 : Int) ≥ z6 := c7
              refine yG.load xlk2 rfl (fun _ _ => rfl) (v := yJ (a4)) rfl rfl ?_
              refine yG.numl (c := 0) rfl (fun _ _ => rfl) (by decide) ?_
              refine yG.lcmp rfl ⟨by omega, by omega⟩ ⟨by omega, by omega⟩ (fun z8 e_z8 => ?_)
              refine yG.ifz rfl (t := 127) rfl ⟨by omega, by omega⟩ (fun c9 => ?_) (fun c9 => ?_)
              · have c9 : (z8 : Int) ≤ 0 := c9
                refine yG.ret rfl (fun _ _ => rfl) ?_
                exact (yP.void ⟨⟨rfl, trivial⟩, A_hq⟩)
              · have c9 : (z8 : Int) > 0 := c9
                exact yG.mono (yG.sub (i_38 (a4) (a6)  hq A_hq   (by omega) (by omega) (by omega) (by omega) (by omega) (by omega) (by omega) (by omega) (by omega) (by omega) (by omega) (by omega) (by omega)) (ySub.cons rfl (ySub.cons rfl (ySub.cons rfl (ySub.cons rfl (ySub.cons rfl (ySub.nil))))))) (by omega)
      · intro a4 a6 hq A_hq f0 f1 f2 f3 f4 f5 f6 f7 f8 f9 f10 f11 hm
        refine yG.mono (N := 47 * m + 47) ?_ (by omega)
        refine yG.load xlk2 rfl (fun _ _ => rfl) (v := yJ (a4)) rfl rfl ?_
        refine yG.load xik rfl (fun _ _ => rfl) (v := yI (a6)) rfl rfl ?_
        refine yG.load xak rfl (fun _ _ => rfl) (v := yR k0) rfl rfl ?_
        refine yG.getN A_hq.1 (w_Big_size W H_k0) rfl rfl (fun z1 e_z1 i_z1 l_z1 u_z1 => ?_)
        refine yG.icmp rfl (t := 59) rfl ⟨by omega, by omega⟩ ⟨by omega, by omega⟩ (fun c2 => ?_) (fun c2 => ?_)
        · have c2 : (a6 : Int) ≥ z1 := c2
          refine yG.numl (c := 0) rfl (fun _ _ => rfl) (by decide) ?_
          refine yG.ladd rfl ?_
          refine yG.load xik rfl (fun _ _ => rfl) (v := yI (a6)) rfl rfl ?_
          refine yG.load xak rfl (fun _ _ => rfl) (v := yR k1) rfl rfl ?_
          refine yG.getN A_hq.1 (w_Big_size W H_k1) rfl rfl (fun z3 e_z3 i_z3 l_z3 u_z3 => ?_)
          refine yG.icmp rfl (t := 82) rfl ⟨by omega, by omega⟩ ⟨by omega, by omega⟩ (fun c4 => ?_) (fun c4 => ?_)
          · have c4 : (a6 : Int) ≥ z3 := c4
            refine yG.numl (c := 0) rfl (fun _ _ => rfl) (by decide) ?_
            refine yG.ladd rfl ?_
            obtain ⟨z5, e_z5⟩ : ∃ z : Int, z = (a4 + 0) + 0 := ⟨_, rfl⟩
            rw [← e_z5]
            refine yG.store2 xlk2 (L' := [(7, yJ (z5)), (0, yR k0), (1, yR k1), (2, yJ (p2)), (4, yJ (a4)), (6, yI (a6))]) rfl (fun _ _ => rfl) rfl rfl ?_
            refine yG.load xak rfl (fun _ _ => rfl) (v := yR k0) rfl rfl ?_
            refine yG.getO A_hq.1 (w_Big_limb W H_k0) rfl rfl (fun r6 H_r6 O_r6 q_r6 => ?_)
            have O_r6 := O_r6 rfl
            refine yG.load xik rfl (fun _ _ => rfl) (v := yI (a6)) rfl rfl ?_
            refine yG.load xlk2 rfl (fun _ _ => rfl) (v := yJ (z5)) rfl rfl ?_
            refine yG.numl (c := 1073741823) rfl (fun _ _ => rfl) (by decide) ?_
            refine yG.bit64 rfl (fun _ _ => rfl) (fun z7 e_z7 l_z7 u_z7 => ?_)
            have b_z7 : 0 ≤ z7 ∧ z7 ≤ 1073741823 := by rw [e_z7]; exact yland ⟨by decide, by decide⟩ (by decide)
            refine yG.last A_hq.1 (v_Big_limb W H_r6) (W.2.1 _ _ H_r6 (by decide) (by decide)) rfl (by omega) (by omega) ⟨by omega, by omega⟩ (by omega) (by omega) (fun h8 T_h8 b_h8 f_h8 y_h8 => ?_)
            have A_h8 := A_hq.put T_h8 b_h8 f_h8 H_r6 (bAll_ok (by decide) _)
            have : ys h8 k0 1 = ys hq k0 1 := (y_h8 k0 1).trans (if_neg (fun e => (bRo.ne H_k0 H_r6 (by decide)) e.1))
            have qq1 : zsl h8 k0 0 = yR r6 := ((f_h8 k0 0).trans (if_neg (fun e => (bRo.ne H_k0 H_r6 (by decide)) e.1))).trans q_r6
            refine yG.load xlk2 rfl (fun _ _ => rfl) (v := yJ (z5)) rfl rfl ?_
            refine yG.num (c := 30) rfl (fun _ _ => rfl) (by decide) ?_
            refine yG.bit64 rfl (fun _ _ => rfl) (fun z9 e_z9 l_z9 u_z9 => ?_)
            have b_z9 : z9 = ((zc64 (z5) : Nat) : Int) / 1073741824 := by rw [e_z9]; exact blushr (n := 30) (by decide) (by decide) (by decide)
            have c_z9 : zc64 (z5) < 18446744073709551616 := by unfold zc64; omega
            have d_z9 : ((zc64 (z5) : Nat) : Int) = z5 := by unfold zc64; omega
            refine yG.store2 xlk2 (L' := [(4, yJ (z9)), (7, yJ (z5)), (0, yR k0), (1, yR k1), (2, yJ (p2)), (6, yI (a6))]) rfl (fun _ _ => rfl) rfl rfl ?_
            refine yG.load xak rfl (fun _ _ => rfl) (v := yR k0) rfl rfl ?_
            refine yG.load xak rfl (fun _ _ => rfl) (v := yR k0) rfl rfl ?_
            refine yG.getN A_h8.1 (w_Big_size W H_k0) rfl rfl (fun z10 e_z10 i_z10 l_z10 u_z10 => ?_)
            refine yG.load xik rfl (fun _ _ => rfl) (v := yI (a6)) rfl rfl ?_
            refine yG.num (c := 1) rfl (fun _ _ => rfl) (by decide) ?_
            refine yG.iadd rfl ?_
            refine yG.invS (rest := [yR k0]) rfl rfl rfl rfl (c_J9_maxI W d A_h8.1 (z10) (a6 + 1) (by omega) (by omega) (by omega) (by omega)) (fun rv hp9 q9 => ?_)
            obtain ⟨⟨z11, rfl, l_z11, u_z11, R_z11⟩, e9⟩ := q9
            rw [e9]
            show yG _ _ _ _ _ _ _ _ _ _ (yI z11 :: [yR k0]) _
            refine yG.putN A_h8.1 (w_Big_size W H_k0) (W.2.1 _ _ H_k0 (by decide) (by decide)) rfl rfl rfl ⟨by omega, by omega⟩ (by omega) (by omega) (fun h12 T_h12 b_h12 f_h12 y_h12 => ?_)
            have A_h12 := A_h8.put T_h12 b_h12 f_h12 H_k0 (by decide)
            have qq2 : zsl h12 k0 0 = yR r6 := ((f_h12 k0 0).trans (if_neg (fun e => absurd e.2 (by decide)))).trans qq1
            have : ys h12 k0 1 = z11 := (y_h12 k0 1).trans (if_pos ⟨rfl, rfl⟩)
            refine yG.iinc rfl (a := a6) rfl (L' := [(6, yI (a6 + 1)), (4, yJ (z9)), (7, yJ (z5)), (0, yR k0), (1, yR k1), (2, yJ (p2))]) rfl ?_
            refine yG.goto rfl (t := 6) rfl ?_
            exact yG.mono (yG.sub (i_6 (z9) (a6 + 1)  h12 A_h12   (by omega) (by omega) (by omega) (by omega) (by omega) (by omega) (by omega) (by omega) (by omega) (by omega) (by omega) (by omega) (by omega) (by omega) (by omega)) (ySub.cons rfl (ySub.cons rfl (ySub.cons rfl (ySub.cons rfl (ySub.cons rfl (ySub.nil))))))) (by omega)
          · have c4 : (a6 : Int) < z3 := c4
            refine yG.load xak rfl (fun _ _ => rfl) (v := yR k1) rfl rfl ?_
            refine yG.getO A_hq.1 (w_Big_limb W H_k1) rfl rfl (fun r13 H_r13 O_r13 q_r13 => ?_)
            have O_r13 := O_r13 rfl
            refine yG.load xik rfl (fun _ _ => rfl) (v := yI (a6)) rfl rfl ?_
            refine yG.lald A_hq.1 (v_Big_limb W H_r13) rfl (by omega) (by omega) (fun z14 e_z14 i_z14 l_z14 u_z14 => ?_)
            refine yG.load xlk2 rfl (fun _ _ => rfl) (v := yJ (p2)) rfl rfl ?_
            refine yG.lmul rfl ?_
            obtain ⟨z15, e_z15⟩ : ∃ z : Int, z = z14 * p2 := ⟨_, rfl⟩
            rw [← e_z15]
            have b_z15 : 0 ≤ z15 ∧ z15 ≤ 9903520305059670161264476161 := e_z15 ▸ ymulb (A := 1073741823) (B := 9223372036854775807) (by omega) (by omega) (by omega) (by omega) (by decide)
            have b2_z15 : z15 ≤ 1073741823 * p2 := e_z15 ▸ bmulx (by omega) (by omega)
            have b3_z15 : z15 ≤ 9223372036854775807 * z14 := e_z15 ▸ bmuly (by omega) (by omega)
            refine yG.goto rfl (t := 83) rfl ?_
            refine yG.ladd rfl ?_
            obtain ⟨z16, e_z16, l_z16, u_z16⟩ := ywJ ((a4 + 0) + z15)
            rw [e_z16]
            refine yG.store2 xlk2 (L' := [(7, yJ (z16)), (0, yR k0), (1, yR k1), (2, yJ (p2)), (4, yJ (a4)), (6, yI (a6))]) rfl (fun _ _ => rfl) rfl rfl ?_
            refine yG.load xak rfl (fun _ _ => rfl) (v := yR k0) rfl rfl ?_
            refine yG.getO A_hq.1 (w_Big_limb W H_k0) rfl rfl (fun r17 H_r17 O_r17 q_r17 => ?_)
            have O_r17 := O_r17 rfl
            refine yG.load xik rfl (fun _ _ => rfl) (v := yI (a6)) rfl rfl ?_
            refine yG.load xlk2 rfl (fun _ _ => rfl) (v := yJ (z16)) rfl rfl ?_
            refine yG.numl (c := 1073741823) rfl (fun _ _ => rfl) (by decide) ?_
            refine yG.bit64 rfl (fun _ _ => rfl) (fun z18 e_z18 l_z18 u_z18 => ?_)
            have b_z18 : 0 ≤ z18 ∧ z18 ≤ 1073741823 := by rw [e_z18]; exact yland ⟨by decide, by decide⟩ (by decide)
            refine yG.last A_hq.1 (v_Big_limb W H_r17) (W.2.1 _ _ H_r17 (by decide) (by decide)) rfl (by omega) (by omega) ⟨by omega, by omega⟩ (by omega) (by omega) (fun h19 T_h19 b_h19 f_h19 y_h19 => ?_)
            have A_h19 := A_hq.put T_h19 b_h19 f_h19 H_r17 (bAll_ok (by decide) _)
            have : ys h19 k0 1 = ys hq k0 1 := (y_h19 k0 1).trans (if_neg (fun e => (bRo.ne H_k0 H_r17 (by decide)) e.1))
            have qq3 : zsl h19 k0 0 = yR r17 := ((f_h19 k0 0).trans (if_neg (fun e => (bRo.ne H_k0 H_r17 (by decide)) e.1))).trans q_r17
            refine yG.load xlk2 rfl (fun _ _ => rfl) (v := yJ (z16)) rfl rfl ?_
            refine yG.num (c := 30) rfl (fun _ _ => rfl) (by decide) ?_
            refine yG.bit64 rfl (fun _ _ => rfl) (fun z20 e_z20 l_z20 u_z20 => ?_)
            have b_z20 : z20 = ((zc64 (z16) : Nat) : Int) / 1073741824 := by rw [e_z20]; exact blushr (n := 30) (by decide) (by decide) (by decide)
            have c_z20 : zc64 (z16) < 18446744073709551616 := by unfold zc64; omega
            refine yG.store2 xlk2 (L' := [(4, yJ (z20)), (7, yJ (z16)), (0, yR k0), (1, yR k1), (2, yJ (p2)), (6, yI (a6))]) rfl (fun _ _ => rfl) rfl rfl ?_
            refine yG.load xak rfl (fun _ _ => rfl) (v := yR k0) rfl rfl ?_
            refine yG.load xak rfl (fun _ _ => rfl) (v := yR k0) rfl rfl ?_
            refine yG.getN A_h19.1 (w_Big_size W H_k0) rfl rfl (fun z21 e_z21 i_z21 l_z21 u_z21 => ?_)
            refine yG.load xik rfl (fun _ _ => rfl) (v := yI (a6)) rfl rfl ?_
            refine yG.num (c := 1) rfl (fun _ _ => rfl) (by decide) ?_
            refine yG.iadd rfl ?_
            refine yG.invS (rest := [yR k0]) rfl rfl rfl rfl (c_J9_maxI W d A_h19.1 (z21) (a6 + 1) (by omega) (by omega) (by omega) (by omega)) (fun rv hp9 q9 => ?_)
            obtain ⟨⟨z22, rfl, l_z22, u_z22, R_z22⟩, e9⟩ := q9
            rw [e9]
            show yG _ _ _ _ _ _ _ _ _ _ (yI z22 :: [yR k0]) _
            refine yG.putN A_h19.1 (w_Big_size W H_k0) (W.2.1 _ _ H_k0 (by decide) (by decide)) rfl rfl rfl ⟨by omega, by omega⟩ (by omega) (by omega) (fun h23 T_h23 b_h23 f_h23 y_h23 => ?_)
            have A_h23 := A_h19.put T_h23 b_h23 f_h23 H_k0 (by decide)
            have qq4 : zsl h23 k0 0 = yR r17 := ((f_h23 k0 0).trans (if_neg (fun e => absurd e.2 (by decide)))).trans qq3
            have : ys h23 k0 1 = z22 := (y_h23 k0 1).trans (if_pos ⟨rfl, rfl⟩)
            refine yG.iinc rfl (a := a6) rfl (L' := [(6, yI (a6 + 1)), (4, yJ (z20)), (7, yJ (z16)), (0, yR k0), (1, yR k1), (2, yJ (p2))]) rfl ?_
            refine yG.goto rfl (t := 6) rfl ?_
            exact yG.mono (yG.sub (i_6 (z20) (a6 + 1)  h23 A_h23   (by omega) (by omega) (by omega) (by omega) (by omega) (by omega) (by omega) (by omega) (by omega) (by omega) (by omega) (by omega) (by omega) (by omega) (by omega)) (ySub.cons rfl (ySub.cons rfl (ySub.cons rfl (ySub.cons rfl (ySub.cons rfl (ySub.nil))))))) (by omega)
        · have c2 : (a6 : Int) < z1 := c2
          refine yG.load xak rfl (fun _ _ => rfl) (v := yR k0) rfl rfl ?_
          refine yG.getO A_hq.1 (w_Big_limb W H_k0) rfl rfl (fun r24 H_r24 O_r24 q_r24 => ?_)
          have O_r24 := O_r24 rfl
          refine yG.load xik rfl (fun _ _ => rfl) (v := yI (a6)) rfl rfl ?_
          refine yG.lald A_hq.1 (v_Big_limb W H_r24) rfl (by omega) (by omega) (fun z25 e_z25 i_z25 l_z25 u_z25 => ?_)
          refine yG.goto rfl (t := 60) rfl ?_
          refine yG.ladd rfl ?_
          refine yG.load xik rfl (fun _ _ => rfl) (v := yI (a6)) rfl rfl ?_
          refine yG.load xak rfl (fun _ _ => rfl) (v := yR k1) rfl rfl ?_
          refine yG.getN A_hq.1 (w_Big_size W H_k1) rfl rfl (fun z26 e_z26 i_z26 l_z26 u_z26 => ?_)
          refine yG.icmp rfl (t := 82) rfl ⟨by omega, by omega⟩ ⟨by omega, by omega⟩ (fun c27 => ?_) (fun c27 => ?_)
          · have c27 : (a6 : Int) ≥ z26 := c27
            refine yG.numl (c := 0) rfl (fun _ _ => rfl) (by decide) ?_
            refine yG.ladd rfl ?_
            obtain ⟨z28, e_z28⟩ : ∃ z : Int, z = (a4 + z25) + 0 := ⟨_, rfl⟩
            rw [← e_z28]
            refine yG.store2 xlk2 (L' := [(7, yJ (z28)), (0, yR k0), (1, yR k1), (2, yJ (p2)), (4, yJ (a4)), (6, yI (a6))]) rfl (fun _ _ => rfl) rfl rfl ?_
            refine yG.load xak rfl (fun _ _ => rfl) (v := yR k0) rfl rfl ?_
            refine yG.getS9 A_hq.1 (w_Big_limb W H_k0) q_r24 rfl rfl ?_
            refine yG.load xik rfl (fun _ _ => rfl) (v := yI (a6)) rfl rfl ?_
            refine yG.load xlk2 rfl (fun _ _ => rfl) (v := yJ (z28)) rfl rfl ?_
            refine yG.numl (c := 1073741823) rfl (fun _ _ => rfl) (by decide) ?_
            refine yG.bit64 rfl (fun _ _ => rfl) (fun z29 e_z29 l_z29 u_z29 => ?_)
            have b_z29 : 0 ≤ z29 ∧ z29 ≤ 1073741823 := by rw [e_z29]; exact yland ⟨by decide, by decide⟩ (by decide)
            refine yG.last A_hq.1 (v_Big_limb W H_r24) (W.2.1 _ _ H_r24 (by decide) (by decide)) rfl (by omega) (by omega) ⟨by omega, by omega⟩ (by omega) (by omega) (fun h30 T_h30 b_h30 f_h30 y_h30 => ?_)
            have A_h30 := A_hq.put T_h30 b_h30 f_h30 H_r24 (bAll_ok (by decide) _)
            have : ys h30 k0 1 = ys hq k0 1 := (y_h30 k0 1).trans (if_neg (fun e => (bRo.ne H_k0 H_r24 (by decide)) e.1))
            have qq5 : zsl h30 k0 0 = yR r24 := ((f_h30 k0 0).trans (if_neg (fun e => (bRo.ne H_k0 H_r24 (by decide)) e.1))).trans q_r24
            refine yG.load xlk2 rfl (fun _ _ => rfl) (v := yJ (z28)) rfl rfl ?_
            refine yG.num (c := 30) rfl (fun _ _ => rfl) (by decide) ?_
            refine yG.bit64 rfl (fun _ _ => rfl) (fun z31 e_z31 l_z31 u_z31 => ?_)
            have b_z31 : z31 = ((zc64 (z28) : Nat) : Int) / 1073741824 := by rw [e_z31]; exact blushr (n := 30) (by decide) (by decide) (by decide)
            have c_z31 : zc64 (z28) < 18446744073709551616 := by unfold zc64; omega
            have d_z31 : ((zc64 (z28) : Nat) : Int) = z28 := by unfold zc64; omega
            refine yG.store2 xlk2 (L' := [(4, yJ (z31)), (7, yJ (z28)), (0, yR k0), (1, yR k1), (2, yJ (p2)), (6, yI (a6))]) rfl (fun _ _ => rfl) rfl rfl ?_
            refine yG.load xak rfl (fun _ _ => rfl) (v := yR k0) rfl rfl ?_
            refine yG.load xak rfl (fun _ _ => rfl) (v := yR k0) rfl rfl ?_
            refine yG.getN A_h30.1 (w_Big_size W H_k0) rfl rfl (fun z32 e_z32 i_z32 l_z32 u_z32 => ?_)
            refine yG.load xik rfl (fun _ _ => rfl) (v := yI (a6)) rfl rfl ?_
            refine yG.num (c := 1) rfl (fun _ _ => rfl) (by decide) ?_
            refine yG.iadd rfl ?_
            refine yG.invS (rest := [yR k0]) rfl rfl rfl rfl (c_J9_maxI W d A_h30.1 (z32) (a6 + 1) (by omega) (by omega) (by omega) (by omega)) (fun rv hp9 q9 => ?_)
            obtain ⟨⟨z33, rfl, l_z33, u_z33, R_z33⟩, e9⟩ := q9
            rw [e9]
            show yG _ _ _ _ _ _ _ _ _ _ (yI z33 :: [yR k0]) _
            refine yG.putN A_h30.1 (w_Big_size W H_k0) (W.2.1 _ _ H_k0 (by decide) (by decide)) rfl rfl rfl ⟨by omega, by omega⟩ (by omega) (by omega) (fun h34 T_h34 b_h34 f_h34 y_h34 => ?_)
            have A_h34 := A_h30.put T_h34 b_h34 f_h34 H_k0 (by decide)
            have qq6 : zsl h34 k0 0 = yR r24 := ((f_h34 k0 0).trans (if_neg (fun e => absurd e.2 (by decide)))).trans qq5
            have : ys h34 k0 1 = z33 := (y_h34 k0 1).trans (if_pos ⟨rfl, rfl⟩)
            refine yG.iinc rfl (a := a6) rfl (L' := [(6, yI (a6 + 1)), (4, yJ (z31)), (7, yJ (z28)), (0, yR k0), (1, yR k1), (2, yJ (p2))]) rfl ?_
            refine yG.goto rfl (t := 6) rfl ?_
            exact yG.mono (yG.sub (i_6 (z31) (a6 + 1)  h34 A_h34   (by omega) (by omega) (by omega) (by omega) (by omega) (by omega) (by omega) (by omega) (by omega) (by omega) (by omega) (by omega) (by omega) (by omega) (by omega)) (ySub.cons rfl (ySub.cons rfl (ySub.cons rfl (ySub.cons rfl (ySub.cons rfl (ySub.nil))))))) (by omega)
          · have c27 : (a6 : Int) < z26 := c27
            refine yG.load xak rfl (fun _ _ => rfl) (v := yR k1) rfl rfl ?_
            refine yG.getO A_hq.1 (w_Big_limb W H_k1) rfl rfl (fun r35 H_r35 O_r35 q_r35 => ?_)
            have O_r35 := O_r35 rfl
            refine yG.load xik rfl (fun _ _ => rfl) (v := yI (a6)) rfl rfl ?_
            refine yG.lald A_hq.1 (v_Big_limb W H_r35) rfl (by omega) (by omega) (fun z36 e_z36 i_z36 l_z36 u_z36 => ?_)
            refine yG.load xlk2 rfl (fun _ _ => rfl) (v := yJ (p2)) rfl rfl ?_
            refine yG.lmul rfl ?_
            obtain ⟨z37, e_z37⟩ : ∃ z : Int, z = z36 * p2 := ⟨_, rfl⟩
            rw [← e_z37]
            have b_z37 : 0 ≤ z37 ∧ z37 ≤ 9903520305059670161264476161 := e_z37 ▸ ymulb (A := 1073741823) (B := 9223372036854775807) (by omega) (by omega) (by omega) (by omega) (by decide)
            have b2_z37 : z37 ≤ 1073741823 * p2 := e_z37 ▸ bmulx (by omega) (by omega)
            have b3_z37 : z37 ≤ 9223372036854775807 * z36 := e_z37 ▸ bmuly (by omega) (by omega)
            refine yG.goto rfl (t := 83) rfl ?_
            refine yG.ladd rfl ?_
            obtain ⟨z38, e_z38, l_z38, u_z38⟩ := ywJ ((a4 + z25) + z37)
            rw [e_z38]
            refine yG.store2 xlk2 (L' := [(7, yJ (z38)), (0, yR k0), (1, yR k1), (2, yJ (p2)), (4, yJ (a4)), (6, yI (a6))]) rfl (fun _ _ => rfl) rfl rfl ?_
            refine yG.load xak rfl (fun _ _ => rfl) (v := yR k0) rfl rfl ?_
            refine yG.getS9 A_hq.1 (w_Big_limb W H_k0) q_r24 rfl rfl ?_
            refine yG.load xik rfl (fun _ _ => rfl) (v := yI (a6)) rfl rfl ?_
            refine yG.load xlk2 rfl (fun _ _ => rfl) (v := yJ (z38)) rfl rfl ?_
            refine yG.numl (c := 1073741823) rfl (fun _ _ => rfl) (by decide) ?_
            refine yG.bit64 rfl (fun _ _ => rfl) (fun z39 e_z39 l_z39 u_z39 => ?_)
            have b_z39 : 0 ≤ z39 ∧ z39 ≤ 1073741823 := by rw [e_z39]; exact yland ⟨by decide, by decide⟩ (by decide)
            refine yG.last A_hq.1 (v_Big_limb W H_r24) (W.2.1 _ _ H_r24 (by decide) (by decide)) rfl (by omega) (by omega) ⟨by omega, by omega⟩ (by omega) (by omega) (fun h40 T_h40 b_h40 f_h40 y_h40 => ?_)
            have A_h40 := A_hq.put T_h40 b_h40 f_h40 H_r24 (bAll_ok (by decide) _)
            have : ys h40 k0 1 = ys hq k0 1 := (y_h40 k0 1).trans (if_neg (fun e => (bRo.ne H_k0 H_r24 (by decide)) e.1))
            have qq7 : zsl h40 k0 0 = yR r24 := ((f_h40 k0 0).trans (if_neg (fun e => (bRo.ne H_k0 H_r24 (by decide)) e.1))).trans q_r24
            refine yG.load xlk2 rfl (fun _ _ => rfl) (v := yJ (z38)) rfl rfl ?_
            refine yG.num (c := 30) rfl (fun _ _ => rfl) (by decide) ?_
            refine yG.bit64 rfl (fun _ _ => rfl) (fun z41 e_z41 l_z41 u_z41 => ?_)
            have b_z41 : z41 = ((zc64 (z38) : Nat) : Int) / 1073741824 := by rw [e_z41]; exact blushr (n := 30) (by decide) (by decide) (by decide)
            have c_z41 : zc64 (z38) < 18446744073709551616 := by unfold zc64; omega
            refine yG.store2 xlk2 (L' := [(4, yJ (z41)), (7, yJ (z38)), (0, yR k0), (1, yR k1), (2, yJ (p2)), (6, yI (a6))]) rfl (fun _ _ => rfl) rfl rfl ?_
            refine yG.load xak rfl (fun _ _ => rfl) (v := yR k0) rfl rfl ?_
            refine yG.load xak rfl (fun _ _ => rfl) (v := yR k0) rfl rfl ?_
            refine yG.getN A_h40.1 (w_Big_size W H_k0) rfl rfl (fun z42 e_z42 i_z42 l_z42 u_z42 => ?_)
            refine yG.load xik rfl (fun _ _ => rfl) (v := yI (a6)) rfl rfl ?_
            refine yG.num (c := 1) rfl (fun _ _ => rfl) (by decide) ?_
            refine yG.iadd rfl ?_
            refine yG.invS (rest := [yR k0]) rfl rfl rfl rfl (c_J9_maxI W d A_h40.1 (z42) (a6 + 1) (by omega) (by omega) (by omega) (by omega)) (fun rv hp9 q9 => ?_)
            obtain ⟨⟨z43, rfl, l_z43, u_z43, R_z43⟩, e9⟩ := q9
            rw [e9]
            show yG _ _ _ _ _ _ _ _ _ _ (yI z43 :: [yR k0]) _
            refine yG.putN A_h40.1 (w_Big_size W H_k0) (W.2.1 _ _ H_k0 (by decide) (by decide)) rfl rfl rfl ⟨by omega, by omega⟩ (by omega) (by omega) (fun h44 T_h44 b_h44 f_h44 y_h44 => ?_)
            have A_h44 := A_h40.put T_h44 b_h44 f_h44 H_k0 (by decide)
            have qq8 : zsl h44 k0 0 = yR r24 := ((f_h44 k0 0).trans (if_neg (fun e => absurd e.2 (by decide)))).trans qq7
            have : ys h44 k0 1 = z43 := (y_h44 k0 1).trans (if_pos ⟨rfl, rfl⟩)
            refine yG.iinc rfl (a := a6) rfl (L' := [(6, yI (a6 + 1)), (4, yJ (z41)), (7, yJ (z38)), (0, yR k0), (1, yR k1), (2, yJ (p2))]) rfl ?_
            refine yG.goto rfl (t := 6) rfl ?_
            exact yG.mono (yG.sub (i_6 (z41) (a6 + 1)  h44 A_h44   (by omega) (by omega) (by omega) (by omega) (by omega) (by omega) (by omega) (by omega) (by omega) (by omega) (by omega) (by omega) (by omega) (by omega) (by omega)) (ySub.cons rfl (ySub.cons rfl (ySub.cons rfl (ySub.cons rfl (ySub.cons rfl (ySub.nil))))))) (by omega)
  refine yC.of (M := (xt_X0_moreTimes, (9, (0, (1, []))))) rfl rfl (N := 13771) (yfuel (by decide)) ?_
  show yG 89 xfts (xcall 89 xfts xpools xms (d + 1)) (xpool xp_RX0) [] xt_X0_moreTimes (yP 0 (fun rv hp' => (rv = none ∧ True) ∧ bAx G [(34359738368, 1), (68719476736, 256)] hp hp')) 13771 0 [(0, yR k0), (1, yR k1), (2, yJ (p2))] [] hp
  obtain ⟨i_6, i_38⟩ := H 292
  refine yG.numl (c := 0) rfl (fun _ _ => rfl) (by decide) ?_
  refine yG.store2 xlk2 (L' := [(4, yJ (0)), (0, yR k0), (1, yR k1), (2, yJ (p2))]) rfl (fun _ _ => rfl) rfl rfl ?_
  refine yG.num (c := 0) rfl (fun _ _ => rfl) (by decide) ?_
  refine yG.store1 xik (L' := [(6, yI (0)), (4, yJ (0)), (0, yR k0), (1, yR k1), (2, yJ (p2))]) rfl (fun _ _ => rfl) rfl rfl ?_
  exact yG.mono (yG.sub (i_6 (0) (0)  hp A_hp   (by omega) (by omega) (by omega) (by omega) (by omega) (by omega) (by omega) (by omega) (by omega) (by omega) (by omega) (by omega) (by omega) (by omega) (by omega)) (ySub.cons rfl (ySub.cons rfl (ySub.cons rfl (ySub.cons rfl (ySub.cons rfl (ySub.nil))))))) (by omega)
theorem c_Big_left {hp : xH} (W : bW G) (d : Nat) (hT : zTy G hp) {k0 : Nat} (H_k0 : bRo G 35 k0) (p1 : Int) (h1l : (-9223372036854775808) ≤ p1) (h1u : p1 ≤ 9223372036854775807) : yC (xcall 89 xfts xpools xms (d + 1)) 57 [yR k0, yJ (p1)] hp (bQpj hp (-9223372036854775806) 9223372036854775806 (fun z => 0 ≤ p1 - z + 9223372036854775808)) := by
  have A_hp : bAx G [] hp hp := bAx.rf hT
  obtain ⟨n_k0, N_k0⟩ : ∃ n : Int, n = ((zat G k0 : Nat) : Int) := ⟨_, rfl⟩
  have L_k0 := n_Big W H_k0
  have H : ∀ m : Nat, (∀ a3 : Int, ∀ a5 : Int, (-9223372036854775806) ≤ a3 → (-9223372036854775806) ≤ 0 - a3 → (-1) ≤ a5 → (-95) ≤ 0 - a5 → (-9223372036854775808) ≤ p1 → (-9223372036854775807) ≤ 0 - p1 → 12 ≤ n_k0 → (-96) ≤ 0 - n_k0 → (-9223372036854775900) ≤ a3 - a5 → (-9223372036854775808) ≤ 0 - a3 + p1 → 1 ≤ 0 - a5 + n_k0 → 2 * a5 + 3 < (m : Int) → yG 89 xfts (xcall 89 xfts xpools xms d) (xpool xp_RX0) [] xt_X0_left (yP 2 (bQpj hp (-9223372036854775806) 9223372036854775806 (fun z => 0 ≤ p1 - z + 9223372036854775808))) (21 * m) 10 [(0, yR k0), (1, yJ (p1)), (3, yJ (a3)), (5, yI (a5))] [] hp) := by
    intro m
    induction m with
    | zero =>
      intros; exfalso; omega
    | succ m ih =>
      have i_10 := ih
      clear ih
      intro a3 a5 f0 f1 f2 f3 f4 f5 f6 f7 f8 f9 f10 hm
      refine yG.mono (N := 21 * m + 21) ?_ (by omega)
      refine yG.load xik rfl (fun _ _ => rfl) (v := yI (a5)) rfl rfl ?_
      refine yG.ifz rfl (t := 42) rfl ⟨by omega, by omega⟩ (fun c1 => ?_) (fun c1 => ?_)
      · have c1 : (a5 : Int) < 0 := c1
        refine yG.load xlk2 rfl (fun _ _ => rfl) (v := yJ (a3)) rfl rfl ?_
        refine yG.ret rfl (fun _ _ => rfl) ?_
        exact (yP.long ⟨by omega, by omega⟩ ⟨⟨a3, rfl, by omega, by omega, by omega⟩, rfl⟩)
      · have c1 : (a5 : Int) ≥ 0 := c1
        refine yG.load xlk2 rfl (fun _ _ => rfl) (v := yJ (p1)) rfl rfl ?_
        refine yG.numl (c := 0) rfl (fun _ _ => rfl) (by decide) ?_
        refine yG.lcmp rfl ⟨by omega, by omega⟩ ⟨by omega, by omega⟩ (fun z2 e_z2 => ?_)
        refine yG.ifz rfl (t := 42) rfl ⟨by omega, by omega⟩ (fun c3 => ?_) (fun c3 => ?_)
        · have c3 : (z2 : Int) ≤ 0 := c3
          refine yG.load xlk2 rfl (fun _ _ => rfl) (v := yJ (a3)) rfl rfl ?_
          refine yG.ret rfl (fun _ _ => rfl) ?_
          exact (yP.long ⟨by omega, by omega⟩ ⟨⟨a3, rfl, by omega, by omega, by omega⟩, rfl⟩)
        · have c3 : (z2 : Int) > 0 := c3
          refine yG.load xlk2 rfl (fun _ _ => rfl) (v := yJ (a3)) rfl rfl ?_
          refine yG.num (c := 30) rfl (fun _ _ => rfl) (by decide) ?_
          refine yG.bit64 rfl (fun _ _ => rfl) (fun z4 e_z4 l_z4 u_z4 => ?_)
          refine yG.load xak rfl (fun _ _ => rfl) (v := yR k0) rfl rfl ?_
          refine yG.getO A_hp.1 (w_Big_limb W H_k0) rfl rfl (fun r5 H_r5 O_r5 q_r5 => ?_)
          have O_r5 := O_r5 rfl
          refine yG.load xik rfl (fun _ _ => rfl) (v := yI (a5)) rfl rfl ?_
          refine yG.lald A_hp.1 (v_Big_limb W H_r5) rfl (by omega) (by omega) (fun z6 e_z6 i_z6 l_z6 u_z6 => ?_)
          refine yG.bit64 rfl (fun _ _ => rfl) (fun z7 e_z7 l_z7 u_z7 => ?_)
          refine yG.load xlk2 rfl (fun _ _ => rfl) (v := yJ (p1)) rfl rfl ?_
          refine yG.lremS rfl ⟨by omega, by omega⟩ ⟨by omega, by omega⟩ (by omega) (fun z8 l_z8 u_z8 => ?_)
          refine yG.store2 xlk2 (L' := [(3, yJ (z8)), (0, yR k0), (1, yJ (p1)), (5, yI (a5))]) rfl (fun _ _ => rfl) rfl rfl ?_
          refine yG.iinc rfl (a := a5) rfl (L' := [(5, yI (a5 + (-1))), (3, yJ (z8)), (0, yR k0), (1, yJ (p1))]) rfl ?_
          refine yG.goto rfl (t := 10) rfl ?_
          exact yG.mono (yG.sub (i_10 (z8) (a5 + (-1))     (by omega) (by omega) (by omega) (by omega) (by omega) (by omega) (by omega) (by omega) (by omega) (by omega) (by omega) (by omega)) (ySub.cons rfl (ySub.cons rfl (ySub.cons rfl (ySub.cons rfl (ySub.nil)))))) (by omega)
  refine yC.of (M := (xt_X0_left, (6, (2, (1, []))))) rfl rfl (N := 4116) (yfuel (by decide)) ?_
  show yG 89 xfts (xcall 89 xfts xpools xms d) (xpool xp_RX0) [] xt_X0_left (yP 2 (bQpj hp (-9223372036854775806) 9223372036854775806 (fun z => 0 ≤ p1 - z + 9223372036854775808))) 4116 0 [(0, yR k0), (1, yJ (p1))] [] hp
  have i_10 := H 195
  refine yG.numl (c := 0) rfl (fun _ _ => rfl) (by decide) ?_
  refine yG.store2 xlk2 (L' := [(3, yJ (0)), (0, yR k0), (1, yJ (p1))]) rfl (fun _ _ => rfl) rfl rfl ?_
  refine yG.load xak rfl (fun _ _ => rfl) (v := yR k0) rfl rfl ?_
  refine yG.getN A_hp.1 (w_Big_size W H_k0) rfl rfl (fun z1 e_z1 i_z1 l_z1 u_z1 => ?_)
  refine yG.num (c := 1) rfl (fun _ _ => rfl) (by decide) ?_
  refine yG.isub rfl ?_
  obtain ⟨z2, e_z2⟩ : ∃ z : Int, z = z1 - 1 := ⟨_, rfl⟩
  rw [← e_z2]
  refine yG.store1 xik (L' := [(5, yI (z2)), (3, yJ (0)), (0, yR k0), (1, yJ (p1))]) rfl (fun _ _ => rfl) rfl rfl ?_
  exact yG.mono (yG.sub (i_10 (0) (z2)     (by omega) (by omega) (by omega) (by omega) (by omega) (by omega) (by omega) (by omega) (by omega) (by omega) (by omega) (by omega)) (ySub.cons rfl (ySub.cons rfl (ySub.cons rfl (ySub.cons rfl (ySub.nil)))))) (by omega)
theorem c_Big_shorten_none {hp : xH} (W : bW G) (d : Nat) (hT : zTy G hp) {k0 : Nat} (H_k0 : bRo G 35 k0) (p1 : Int) (h1l : 0 ≤ p1) (h1u : p1 ≤ 0) : yC (xcall 89 xfts xpools xms (d + 2)) 66 [yR k0, yJ (p1)] hp (bQj G [(34359738368, 1), (34359738368, 2)] hp 0 0 (fun _ => True)) := by
  have A_hp : bAx G [(34359738368, 1), (34359738368, 2)] hp hp := bAx.rf hT
  obtain ⟨n_k0, N_k0⟩ : ∃ n : Int, n = ((zat G k0 : Nat) : Int) := ⟨_, rfl⟩
  have L_k0 := n_Big W H_k0
  have H : ∀ m : Nat, (∀ a3 : Int, ∀ a5 : Int, ∀ hq, bAx G [(34359738368, 1), (34359738368, 2)] hp hq → 0 ≤ a3 → 0 ≤ 0 - a3 → (-1) ≤ a5 → (-95) ≤ 0 - a5 → 0 ≤ p1 → 0 ≤ 0 - p1 → 12 ≤ n_k0 → (-96) ≤ 0 - n_k0 → 1 ≤ 0 - a5 + n_k0 → 0 - 2 * a3 + 1 < (m : Int) → yG 89 xfts (xcall 89 xfts xpools xms (d + 1)) (xpool xp_RX0) [] xt_X0_shorten (yP 2 (bQj G [(34359738368, 1), (34359738368, 2)] hp 0 0 (fun _ => True))) (12 * m) 10 [(0, yR k0), (1, yJ (p1)), (3, yJ (a3)), (5, yI (a5))] [] hq) := by
    intro m
    induction m with
    | zero =>
      intros; exfalso; omega
    | succ m ih =>
      have i_10 := ih
      clear ih
      intro a3 a5 hq A_hq f0 f1 f2 f3 f4 f5 f6 f7 f8 hm
      refine yG.mono (N := 12 * m + 12) ?_ (by omega)
      refine yG.load xik rfl (fun _ _ => rfl) (v := yI (a5)) rfl rfl ?_
      refine yG.ifz rfl (t := 57) rfl ⟨by omega, by omega⟩ (fun c1 => ?_) (fun c1 => ?_)
      · have c1 : (a5 : Int) < 0 := c1
        refine yG.load xak rfl (fun _ _ => rfl) (v := yR k0) rfl rfl ?_
        refine yG.invV (rest := []) A_hq.1 (bOb (d_Big W) H_k0) rfl rfl rfl rfl (c_Big_trim W d A_hq.1 H_k0) (fun rv h2 q9 => ?_)
        obtain ⟨⟨rfl, R_z3⟩, B_h2⟩ := q9
        have A_h2 := A_hq.tr B_h2 (by decide)
        show yG _ _ _ _ _ _ _ _ _ _ [] _
        refine yG.load xlk2 rfl (fun _ _ => rfl) (v := yJ (a3)) rfl rfl ?_
        refine yG.ret rfl (fun _ _ => rfl) ?_
        exact (yP.long ⟨by omega, by omega⟩ ⟨⟨a3, rfl, by omega, by omega, trivial⟩, A_h2⟩)
      · have c1 : (a5 : Int) ≥ 0 := c1
        refine yG.load xlk2 rfl (fun _ _ => rfl) (v := yJ (p1)) rfl rfl ?_
        refine yG.numl (c := 0) rfl (fun _ _ => rfl) (by decide) ?_
        refine yG.lcmp rfl ⟨by omega, by omega⟩ ⟨by omega, by omega⟩ (fun z4 e_z4 => ?_)
        refine yG.ifz rfl (t := 57) rfl ⟨by omega, by omega⟩ (fun c5 => ?_) (fun c5 => ?_)
        · have c5 : (z4 : Int) ≤ 0 := c5
          refine yG.load xak rfl (fun _ _ => rfl) (v := yR k0) rfl rfl ?_
          refine yG.invV (rest := []) A_hq.1 (bOb (d_Big W) H_k0) rfl rfl rfl rfl (c_Big_trim W d A_hq.1 H_k0) (fun rv h6 q9 => ?_)
          obtain ⟨⟨rfl, R_z7⟩, B_h6⟩ := q9
          have A_h6 := A_hq.tr B_h6 (by decide)
          show yG _ _ _ _ _ _ _ _ _ _ [] _
          refine yG.load xlk2 rfl (fun _ _ => rfl) (v := yJ (a3)) rfl rfl ?_
          refine yG.ret rfl (fun _ _ => rfl) ?_
          exact (yP.long ⟨by omega, by omega⟩ ⟨⟨a3, rfl, by omega, by omega, trivial⟩, A_h6⟩)
        · have c5 : (z4 : Int) > 0 := c5
          exfalso; omega
  refine yC.of (M := (xt_X0_shorten, (8, (2, (1, []))))) rfl rfl (N := 48) (yfuel (by decide)) ?_
  show yG 89 xfts (xcall 89 xfts xpools xms (d + 1)) (xpool xp_RX0) [] xt_X0_shorten (yP 2 (bQj G [(34359738368, 1), (34359738368, 2)] hp 0 0 (fun _ => True))) 48 0 [(0, yR k0), (1, yJ (p1))] [] hp
  have i_10 := H 3
  refine yG.numl (c := 0) rfl (fun _ _ => rfl) (by decide) ?_
  refine yG.store2 xlk2 (L' := [(3, yJ (0)), (0, yR k0), (1, yJ (p1))]) rfl (fun _ _ => rfl) rfl rfl ?_
  refine yG.load xak rfl (fun _ _ => rfl) (v := yR k0) rfl rfl ?_
  refine yG.getN A_hp.1 (w_Big_size W H_k0) rfl rfl (fun z1 e_z1 i_z1 l_z1 u_z1 => ?_)
  refine yG.num (c := 1) rfl (fun _ _ => rfl) (by decide) ?_
  refine yG.isub rfl ?_
  obtain ⟨z2, e_z2⟩ : ∃ z : Int, z = z1 - 1 := ⟨_, rfl⟩
  rw [← e_z2]
  refine yG.store1 xik (L' := [(5, yI (z2)), (3, yJ (0)), (0, yR k0), (1, yJ (p1))]) rfl (fun _ _ => rfl) rfl rfl ?_
  exact yG.mono (yG.sub (i_10 (0) (z2)  hp A_hp   (by omega) (by omega) (by omega) (by omega) (by omega) (by omega) (by omega) (by omega) (by omega) (by omega)) (ySub.cons rfl (ySub.cons rfl (ySub.cons rfl (ySub.cons rfl (ySub.nil)))))) (by omega)
theorem c_Big_shorten {hp : xH} (W : bW G) (d : Nat) (hT : zTy G hp) {k0 : Nat} (H_k0 : bRo G 35 k0) (p1 : Int) (h1l : 1 ≤ p1) (h1u : p1 ≤ 2147483647) : yC (xcall 89 xfts xpools xms (d + 2)) 66 [yR k0, yJ (p1)] hp (bQj G [(34359738368, 1), (34359738368, 2), (68719476736, 256)] hp 0 2147483646 (fun z => 0 ≤ p1 - z - 1)) := by
  have A_hp : bAx G [(34359738368, 1), (34359738368, 2), (68719476736, 256)] hp hp := bAx.rf hT
  obtain ⟨n_k0, N_k0⟩ : ∃ n : Int, n = ((zat G k0 : Nat) : Int) := ⟨_, rfl⟩
  have L_k0 := n_Big W H_k0
  have H : ∀ m : Nat, (∀ a3 : Int, ∀ a5 : Int, ∀ hq, bAx G [(34359738368, 1), (34359738368, 2), (68719476736, 256)] hp hq → 0 ≤ a3 → (-2147483646) ≤ 0 - a3 → (-1) ≤ a5 → (-95) ≤ 0 - a5 → 1 ≤ p1 → (-2147483647) ≤ 0 - p1 → 12 ≤ n_k0 → (-96) ≤ 0 - n_k0 → 1 ≤ 0 - a3 + p1 → 1 ≤ 0 - a5 + n_k0 → 2 * a5 + 3 < (m : Int) → yG 89 xfts (xcall 89 xfts xpools xms (d + 1)) (xpool xp_RX0) [] xt_X0_shorten (yP 2 (bQj G [(34359738368, 1), (34359738368, 2), (68719476736, 256)] hp 0 2147483646 (fun z => 0 ≤ p1 - z - 1))) (30 * m) 10 [(0, yR k0), (1, yJ (p1)), (3, yJ (a3)), (5, yI (a5))] [] hq) := by
    intro m
    induction m with
    | zero =>
      intros; exfalso; omega
    | succ m ih =>
      have i_10 := ih
      clear ih
      intro a3 a5 hq A_hq f0 f1 f2 f3 f4 f5 f6 f7 f8 f9 hm
      refine yG.mono (N := 30 * m + 30) ?_ (by omega)
      refine yG.load xik rfl (fun _ _ => rfl) (v := yI (a5)) rfl rfl ?_
      refine yG.ifz rfl (t := 57) rfl ⟨by omega, by omega⟩ (fun c1 => ?_) (fun c1 => ?_)
      · have c1 : (a5 : Int) < 0 := c1
        refine yG.load xak rfl (fun _ _ => rfl) (v := yR k0) rfl rfl ?_
        refine yG.invV (rest := []) A_hq.1 (bOb (d_Big W) H_k0) rfl rfl rfl rfl (c_Big_trim W d A_hq.1 H_k0) (fun rv h2 q9 => ?_)
        obtain ⟨⟨rfl, R_z3⟩, B_h2⟩ := q9
        have A_h2 := A_hq.tr B_h2 (by decide)
        show yG _ _ _ _ _ _ _ _ _ _ [] _
        refine yG.load xlk2 rfl (fun _ _ => rfl) (v := yJ (a3)) rfl rfl ?_
        refine yG.ret rfl (fun _ _ => rfl) ?_
        exact (yP.long ⟨by omega, by omega⟩ ⟨⟨a3, rfl, by omega, by omega, by omega⟩, A_h2⟩)
      · have c1 : (a5 : Int) ≥ 0 := c1
        refine yG.load xlk2 rfl (fun _ _ => rfl) (v := yJ (p1)) rfl rfl ?_
        refine yG.numl (c := 0) rfl (fun _ _ => rfl) (by decide) ?_
        refine yG.lcmp rfl ⟨by omega, by omega⟩ ⟨by omega, by omega⟩ (fun z4 e_z4 => ?_)
        refine yG.ifz rfl (t := 57) rfl ⟨by omega, by omega⟩ (fun c5 => ?_) (fun c5 => ?_)
        · have c5 : (z4 : Int) ≤ 0 := c5
          exfalso; omega
        · have c5 : (z4 : Int) > 0 := c5
          refine yG.load xlk2 rfl (fun _ _ => rfl) (v := yJ (a3)) rfl rfl ?_
          refine yG.num (c := 30) rfl (fun _ _ => rfl) (by decide) ?_
          refine yG.bit64 rfl (fun _ _ => rfl) (fun z6 e_z6 l_z6 u_z6 => ?_)
          have b_z6 : z6 = (a3) * 2 ^ 30 := by rw [e_z6]; exact bshl (n := 30) (by omega) (by omega) (by decide) (by decide)
          subst b_z6
          clear e_z6 l_z6 u_z6
          refine yG.load xak rfl (fun _ _ => rfl) (v := yR k0) rfl rfl ?_
          refine yG.getO A_hq.1 (w_Big_limb W H_k0) rfl rfl (fun r7 H_r7 O_r7 q_r7 => ?_)
          have O_r7 := O_r7 rfl
          refine yG.load xik rfl (fun _ _ => rfl) (v := yI (a5)) rfl rfl ?_
          refine yG.lald A_hq.1 (v_Big_limb W H_r7) rfl (by omega) (by omega) (fun z8 e_z8 i_z8 l_z8 u_z8 => ?_)
          refine yG.bit64 rfl (fun _ _ => rfl) (fun z9 e_z9 l_z9 u_z9 => ?_)
          have b_z9 : z9 = (a3) * 2 ^ 30 + z8 := by rw [e_z9]; exact blor (by omega) (by omega) (by omega) (by omega)
          refine yG.store2 xlk2 (L' := [(6, yJ (z9)), (0, yR k0), (1, yJ (p1)), (3, yJ (a3)), (5, yI (a5))]) rfl (fun _ _ => rfl) rfl rfl ?_
          refine yG.load xak rfl (fun _ _ => rfl) (v := yR k0) rfl rfl ?_
          refine yG.getS9 A_hq.1 (w_Big_limb W H_k0) q_r7 rfl rfl ?_
          refine yG.load xik rfl (fun _ _ => rfl) (v := yI (a5)) rfl rfl ?_
          refine yG.load xlk2 rfl (fun _ _ => rfl) (v := yJ (z9)) rfl rfl ?_
          refine yG.load xlk2 rfl (fun _ _ => rfl) (v := yJ (p1)) rfl rfl ?_
          refine yG.ldiv rfl ⟨by omega, by omega⟩ ⟨by omega, by omega⟩ (by omega) (by omega) ?_
          obtain ⟨z10, e_z10⟩ : ∃ z : Int, z = (z9) / (p1) := ⟨_, rfl⟩
          rw [← e_z10]
          have b_z10 : 0 ≤ z10 ∧ z10 ≤ z9 := e_z10 ▸ ⟨Int.ediv_nonneg (by omega) (by omega), Int.ediv_le_self _ (by omega)⟩
          have d_z10 : z10 ≤ 1073741824 - 1 := e_z10 ▸ bdivlt (by omega) (by omega)
          refine yG.last A_hq.1 (v_Big_limb W H_r7) (W.2.1 _ _ H_r7 (by decide) (by decide)) rfl (by omega) (by omega) ⟨by omega, by omega⟩ (by omega) (by omega) (fun h11 T_h11 b_h11 f_h11 y_h11 => ?_)
          have A_h11 := A_hq.put T_h11 b_h11 f_h11 H_r7 (bAll_ok (by decide) _)
          have qq1 : zsl h11 k0 0 = yR r7 := ((f_h11 k0 0).trans (if_neg (fun e => (bRo.ne H_k0 H_r7 (by decide)) e.1))).trans q_r7
          refine yG.load xlk2 rfl (fun _ _ => rfl) (v := yJ (z9)) rfl rfl ?_
          refine yG.load xlk2 rfl (fun _ _ => rfl) (v := yJ (p1)) rfl rfl ?_
          refine yG.lrem rfl ⟨by omega, by omega⟩ ⟨by omega, by omega⟩ (by omega) (by omega) ?_
          obtain ⟨z12, e_z12⟩ : ∃ z : Int, z = (z9) % (p1) := ⟨_, rfl⟩
          rw [← e_z12]
          have b_z12 : 0 ≤ z12 ∧ z12 < p1 := e_z12 ▸ ⟨Int.emod_nonneg _ (by omega), Int.emod_lt_of_pos _ (by omega)⟩
          refine yG.store2 xlk2 (L' := [(3, yJ (z12)), (6, yJ (z9)), (0, yR k0), (1, yJ (p1)), (5, yI (a5))]) rfl (fun _ _ => rfl) rfl rfl ?_
          refine yG.iinc rfl (a := a5) rfl (L' := [(5, yI (a5 + (-1))), (3, yJ (z12)), (6, yJ (z9)), (0, yR k0), (1, yJ (p1))]) rfl ?_
          refine yG.goto rfl (t := 10) rfl ?_
          exact yG.mono (yG.sub (i_10 (z12) (a5 + (-1))  h11 A_h11   (by omega) (by omega) (by omega) (by omega) (by omega) (by omega) (by omega) (by omega) (by omega) (by omega) (by omega)) (ySub.cons rfl (ySub.cons rfl (ySub.cons rfl (ySub.cons rfl (ySub.nil)))))) (by omega)
  refine yC.of (M := (xt_X0_shorten, (8, (2, (1, []))))) rfl rfl (N := 5880) (yfuel (by decide)) ?_
  show yG 89 xfts (xcall 89 xfts xpools xms (d + 1)) (xpool xp_RX0) [] xt_X0_shorten (yP 2 (bQj G [(34359738368, 1), (34359738368, 2), (68719476736, 256)] hp 0 2147483646 (fun z => 0 ≤ p1 - z - 1))) 5880 0 [(0, yR k0), (1, yJ (p1))] [] hp
  have i_10 := H 195
  refine yG.numl (c := 0) rfl (fun _ _ => rfl) (by decide) ?_
  refine yG.store2 xlk2 (L' := [(3, yJ (0)), (0, yR k0), (1, yJ (p1))]) rfl (fun _ _ => rfl) rfl rfl ?_
  refine yG.load xak rfl (fun _ _ => rfl) (v := yR k0) rfl rfl ?_
  refine yG.getN A_hp.1 (w_Big_size W H_k0) rfl rfl (fun z1 e_z1 i_z1 l_z1 u_z1 => ?_)
  refine yG.num (c := 1) rfl (fun _ _ => rfl) (by decide) ?_
  refine yG.isub rfl ?_
  obtain ⟨z2, e_z2⟩ : ∃ z : Int, z = z1 - 1 := ⟨_, rfl⟩
  rw [← e_z2]
  refine yG.store1 xik (L' := [(5, yI (z2)), (3, yJ (0)), (0, yR k0), (1, yJ (p1))]) rfl (fun _ _ => rfl) rfl rfl ?_
  exact yG.mono (yG.sub (i_10 (0) (z2)  hp A_hp   (by omega) (by omega) (by omega) (by omega) (by omega) (by omega) (by omega) (by omega) (by omega) (by omega) (by omega)) (ySub.cons rfl (ySub.cons rfl (ySub.cons rfl (ySub.cons rfl (ySub.nil)))))) (by omega)
theorem c_Big_addBack {hp : xH} (W : bW G) (d : Nat) (hT : zTy G hp) {k0 : Nat} (H_k0 : bRo G 35 k0) {k1 : Nat} (H_k1 : bRo G 35 k1) (p2 : Int) (h2l : 0 ≤ p2) (h2u : p2 ≤ 95) : yC (xcall 89 xfts xpools xms (d + 1)) 49 [yR k0, yR k1, yI (p2)] hp (fun rv hp' => (rv = none ∧ True) ∧ bAx G [(68719476736, 256)] hp hp') := by
  have A_hp : bAx G [(68719476736, 256)] hp hp := bAx.rf hT
  obtain ⟨n_k0, N_k0⟩ : ∃ n : Int, n = ((zat G k0 : Nat) : Int) := ⟨_, rfl⟩
  have L_k0 := n_Big W H_k0
  obtain ⟨n_k1, N_k1⟩ : ∃ n : Int, n = ((zat G k1 : Nat) : Int) := ⟨_, rfl⟩
  have L_k1 := n_Big W H_k1
  have H : ∀ m : Nat, (∀ a3 : Int, ∀ a5 : Int, ∀ hq, bAx G [(68719476736, 256)] hp hq → 0 ≤ a3 → (-1) ≤ 0 - a3 → 0 ≤ a5 → (-96) ≤ 0 - a5 → 0 ≤ p2 → (-95) ≤ 0 - p2 → 12 ≤ n_k0 → (-96) ≤ 0 - n_k0 → 12 ≤ n_k1 → (-96) ≤ 0 - n_k1 → 0 ≤ 0 - a3 + a5 → 0 ≤ 0 - a5 + n_k0 → 0 ≤ 0 - a5 + n_k1 → 0 - 2 * a5 + 193 < (m : Int) → yG 89 xfts (xcall 89 xfts xpools xms d) (xpool xp_RX0) [] xt_X0_addBack (yP 0 (fun rv hp' => (rv = none ∧ True) ∧ bAx G [(68719476736, 256)] hp hp')) (41 * m) 5 [(0, yR k0), (1, yR k1), (2, yI (p2)), (3, yJ (a3)), (5, yI (a5))] [] hq) := by
    intro m
    induction m with
    | zero =>
      intros; exfalso; omega
    | succ m ih =>
      have i_5 := ih
      clear ih
      intro a3 a5 hq A_hq f0 f1 f2 f3 f4 f5 f6 f7 f8 f9 f10 f11 f12 hm
      refine yG.mono (N := 41 * m + 41) ?_ (by omega)
      refine yG.load xik rfl (fun _ _ => rfl) (v := yI (a5)) rfl rfl ?_
      refine yG.load xak rfl (fun _ _ => rfl) (v := yR k1) rfl rfl ?_
      refine yG.getN A_hq.1 (w_Big_size W H_k1) rfl rfl (fun z1 e_z1 i_z1 l_z1 u_z1 => ?_)
      refine yG.icmp rfl (t := 73) rfl ⟨by omega, by omega⟩ ⟨by omega, by omega⟩ (fun c2 => ?_) (fun c2 => ?_)
      · have c2 : (a5 : Int) ≥ z1 := c2
        refine yG.ret rfl (fun _ _ => rfl) ?_
        exact (yP.void ⟨⟨rfl, trivial⟩, A_hq⟩)
      · have c2 : (a5 : Int) < z1 := c2
        refine yG.load xik rfl (fun _ _ => rfl) (v := yI (a5)) rfl rfl ?_
        refine yG.load xik rfl (fun _ _ => rfl) (v := yI (p2)) rfl rfl ?_
        refine yG.iadd rfl ?_
        refine yG.load xak rfl (fun _ _ => rfl) (v := yR k0) rfl rfl ?_
        refine yG.getN A_hq.1 (w_Big_size W H_k0) rfl rfl (fun z3 e_z3 i_z3 l_z3 u_z3 => ?_)
        refine yG.icmp rfl (t := 73) rfl ⟨by omega, by omega⟩ ⟨by omega, by omega⟩ (fun c4 => ?_) (fun c4 => ?_)
        · have c4 : (a5 + p2 : Int) ≥ z3 := c4
          refine yG.ret rfl (fun _ _ => rfl) ?_
          exact (yP.void ⟨⟨rfl, trivial⟩, A_hq⟩)
        · have c4 : (a5 + p2 : Int) < z3 := c4
          refine yG.load xak rfl (fun _ _ => rfl) (v := yR k0) rfl rfl ?_
          refine yG.getO A_hq.1 (w_Big_limb W H_k0) rfl rfl (fun r5 H_r5 O_r5 q_r5 => ?_)
          have O_r5 := O_r5 rfl
          refine yG.load xik rfl (fun _ _ => rfl) (v := yI (a5)) rfl rfl ?_
          refine yG.load xik rfl (fun _ _ => rfl) (v := yI (p2)) rfl rfl ?_
          refine yG.iadd rfl ?_
          refine yG.lald A_hq.1 (v_Big_limb W H_r5) rfl (by omega) (by omega) (fun z6 e_z6 i_z6 l_z6 u_z6 => ?_)
          refine yG.load xak rfl (fun _ _ => rfl) (v := yR k1) rfl rfl ?_
          refine yG.getO A_hq.1 (w_Big_limb W H_k1) rfl rfl (fun r7 H_r7 O_r7 q_r7 => ?_)
          have O_r7 := O_r7 rfl
          refine yG.load xik rfl (fun _ _ => rfl) (v := yI (a5)) rfl rfl ?_
          refine yG.lald A_hq.1 (v_Big_limb W H_r7) rfl (by omega) (by omega) (fun z8 e_z8 i_z8 l_z8 u_z8 => ?_)
          refine yG.ladd rfl ?_
          refine yG.load xlk2 rfl (fun _ _ => rfl) (v := yJ (a3)) rfl rfl ?_
          refine yG.ladd rfl ?_
          obtain ⟨z9, e_z9⟩ : ∃ z : Int, z = (z6 + z8) + a3 := ⟨_, rfl⟩
          rw [← e_z9]
          refine yG.store2 xlk2 (L' := [(6, yJ (z9)), (0, yR k0), (1, yR k1), (2, yI (p2)), (3, yJ (a3)), (5, yI (a5))]) rfl (fun _ _ => rfl) rfl rfl ?_
          refine yG.load xak rfl (fun _ _ => rfl) (v := yR k0) rfl rfl ?_
          refine yG.getS9 A_hq.1 (w_Big_limb W H_k0) q_r5 rfl rfl ?_
          refine yG.load xik rfl (fun _ _ => rfl) (v := yI (a5)) rfl rfl ?_
          refine yG.load xik rfl (fun _ _ => rfl) (v := yI (p2)) rfl rfl ?_
          refine yG.iadd rfl ?_
          refine yG.load xlk2 rfl (fun _ _ => rfl) (v := yJ (z9)) rfl rfl ?_
          refine yG.numl (c := 1073741823) rfl (fun _ _ => rfl) (by decide) ?_
          refine yG.bit64 rfl (fun _ _ => rfl) (fun z10 e_z10 l_z10 u_z10 => ?_)
          have b_z10 : 0 ≤ z10 ∧ z10 ≤ 1073741823 := by rw [e_z10]; exact yland ⟨by decide, by decide⟩ (by decide)
          refine yG.last A_hq.1 (v_Big_limb W H_r5) (W.2.1 _ _ H_r5 (by decide) (by decide)) rfl (by omega) (by omega) ⟨by omega, by omega⟩ (by omega) (by omega) (fun h11 T_h11 b_h11 f_h11 y_h11 => ?_)
          have A_h11 := A_hq.put T_h11 b_h11 f_h11 H_r5 (bAll_ok (by decide) _)
          have qq1 : zsl h11 k0 0 = yR r5 := ((f_h11 k0 0).trans (if_neg (fun e => (bRo.ne H_k0 H_r5 (by decide)) e.1))).trans q_r5
          refine yG.load xlk2 rfl (fun _ _ => rfl) (v := yJ (z9)) rfl rfl ?_
          refine yG.num (c := 30) rfl (fun _ _ => rfl) (by decide) ?_
          refine yG.bit64 rfl (fun _ _ => rfl) (fun z12 e_z12 l_z12 u_z12 => ?_)
          have b_z12 : z12 = ((zc64 (z9) : Nat) : Int) / 1073741824 := by rw [e_z12]; exact blushr (n := 30) (by decide) (by decide) (by decide)
          have c_z12 : zc64 (z9) < 18446744073709551616 := by unfold zc64; omega
          have d_z12 : ((zc64 (z9) : Nat) : Int) = z9 := by unfold zc64; omega
          refine yG.store2 xlk2 (L' := [(3, yJ (z12)), (6, yJ (z9)), (0, yR k0), (1, yR k1), (2, yI (p2)), (5, yI (a5))]) rfl (fun _ _ => rfl) rfl rfl ?_
          refine yG.iinc rfl (a := a5) rfl (L' := [(5, yI (a5 + 1)), (3, yJ (z12)), (6, yJ (z9)), (0, yR k0), (1, yR k1), (2, yI (p2))]) rfl ?_
          refine yG.goto rfl (t := 5) rfl ?_
          exact yG.mono (yG.sub (i_5 (z12) (a5 + 1)  h11 A_h11   (by omega) (by omega) (by omega) (by omega) (by omega) (by omega) (by omega) (by omega) (by omega) (by omega) (by omega) (by omega) (by omega) (by omega)) (ySub.cons rfl (ySub.cons rfl (ySub.cons rfl (ySub.cons rfl (ySub.cons rfl (ySub.nil))))))) (by omega)
  refine yC.of (M := (xt_X0_addBack, (8, (0, (1, []))))) rfl rfl (N := 8036) (yfuel (by decide)) ?_
  show yG 89 xfts (xcall 89 xfts xpools xms d) (xpool xp_RX0) [] xt_X0_addBack (yP 0 (fun rv hp' => (rv = none ∧ True) ∧ bAx G [(68719476736, 256)] hp hp')) 8036 0 [(0, yR k0), (1, yR k1), (2, yI (p2))] [] hp
  have i_5 := H 195
  refine yG.numl (c := 0) rfl (fun _ _ => rfl) (by decide) ?_
  refine yG.store2 xlk2 (L' := [(3, yJ (0)), (0, yR k0), (1, yR k1), (2, yI (p2))]) rfl (fun _ _ => rfl) rfl rfl ?_
  refine yG.num (c := 0) rfl (fun _ _ => rfl) (by decide) ?_
  refine yG.store1 xik (L' := [(5, yI (0)), (3, yJ (0)), (0, yR k0), (1, yR k1), (2, yI (p2))]) rfl (fun _ _ => rfl) rfl rfl ?_
  exact yG.mono (yG.sub (i_5 (0) (0)  hp A_hp   (by omega) (by omega) (by omega) (by omega) (by omega) (by omega) (by omega) (by omega) (by omega) (by omega) (by omega) (by omega) (by omega) (by omega)) (ySub.cons rfl (ySub.cons rfl (ySub.cons rfl (ySub.cons rfl (ySub.cons rfl (ySub.nil))))))) (by omega)
theorem c_Big_takeOff {hp : xH} (W : bW G) (d : Nat) (hT : zTy G hp) {k0 : Nat} (H_k0 : bRo G 35 k0) {k1 : Nat} (H_k1 : bRo G 35 k1) (p2 : Int) (h2l : 0 ≤ p2) (h2u : p2 ≤ 95) : yC (xcall 89 xfts xpools xms (d + 2)) 70 [yR k0, yR k1, yI (p2)] hp (bQj G [(68719476736, 256)] hp 0 1073741823 (fun _ => True)) := by
  have A_hp : bAx G [(68719476736, 256)] hp hp := bAx.rf hT
  obtain ⟨n_k0, N_k0⟩ : ∃ n : Int, n = ((zat G k0 : Nat) : Int) := ⟨_, rfl⟩
  have L_k0 := n_Big W H_k0
  obtain ⟨n_k1, N_k1⟩ : ∃ n : Int, n = ((zat G k1 : Nat) : Int) := ⟨_, rfl⟩
  have L_k1 := n_Big W H_k1
  have H : ∀ m : Nat, (∀ a3 : Int, ∀ a4 : Int, ∀ a6 : Int, ∀ a8 : Int, ∀ a10 : Int, ∀ a12 : Int, ∀ hq, bAx G [(68719476736, 256)] hp hq → 2 ≤ a3 → (-96) ≤ 0 - a3 → 0 ≤ a4 → (-1073741823) ≤ 0 - a4 → 0 ≤ a6 → (-1152921504606846975) ≤ 0 - a6 → 0 ≤ a8 → (-1073741823) ≤ 0 - a8 → 0 ≤ a10 → (-1073741823) ≤ 0 - a10 → 0 ≤ a12 → (-3) ≤ 0 - a12 → 0 ≤ p2 → (-94) ≤ 0 - p2 → 12 ≤ n_k0 → (-96) ≤ 0 - n_k0 → 12 ≤ n_k1 → (-96) ≤ 0 - n_k1 → (-1152921503533105152) ≤ a4 - a6 → 0 ≤ 0 - a4 + a6 → 0 ≤ a6 - a8 → (-2) ≤ 0 - a12 + a6 → 0 ≤ 0 - a3 + n_k1 → 0 ≤ 0 - a3 + n_k0 - p2 → 0 - 292 * a12 + 1167 < (m : Int) → yG 89 xfts (xcall 89 xfts xpools xms (d + 1)) (xpool xp_RX0) [] xt_X0_takeOff (yP 2 (bQj G [(68719476736, 256)] hp 0 1073741823 (fun _ => True))) (65 * m) 102 [(0, yR k0), (1, yR k1), (2, yI (p2)), (3, yI (a3)), (4, yJ (a4)), (6, yJ (a6)), (8, yJ (a8)), (10, yJ (a10)), (12, yI (a12))] [] hq) ∧ (∀ a3 : Int, ∀ a4 : Int, ∀ a8 : Int, ∀ a12 : Int, ∀ a14 : Int, ∀ hq, bAx G [(68719476736, 256)] hp hq → 2 ≤ a3 → (-96) ≤ 0 - a3 → 0 ≤ a4 → (-1073741823) ≤ 0 - a4 → 0 ≤ a8 → (-1073741823) ≤ 0 - a8 → 0 ≤ a12 → (-1073741823) ≤ 0 - a12 → 0 ≤ a14 → (-96) ≤ 0 - a14 → 0 ≤ p2 → (-94) ≤ 0 - p2 → 12 ≤ n_k0 → (-96) ≤ 0 - n_k0 → 12 ≤ n_k1 → (-96) ≤ 0 - n_k1 → 0 ≤ 0 - a14 + a3 → 0 ≤ 0 - a12 + a8 → (-1073741822) ≤ 0 - a12 + a14 → 0 ≤ 0 - a3 + n_k1 → 0 ≤ 0 - a3 + n_k0 - p2 → 0 - 3 * a14 + 290 < (m : Int) → yG 89 xfts (xcall 89 xfts xpools xms (d + 1)) (xpool xp_RX0) [] xt_X0_takeOff (yP 2 (bQj G [(68719476736, 256)] hp 0 1073741823 (fun _ => True))) (65 * m) 182 [(0, yR k0), (1, yR k1), (2, yI (p2)), (3, yI (a3)), (4, yJ (a4)), (8, yJ (a8)), (12, yJ (a12)), (14, yI (a14))] [] hq) ∧ (∀ a4 : Int, ∀ a8 : Int, ∀ a12 : Int, ∀ hq, bAx G [(68719476736, 256)] hp hq → 0 ≤ a4 → (-1073741823) ≤ 0 - a4 → 0 ≤ a8 → (-1073741823) ≤ 0 - a8 → 0 ≤ a12 → (-1073741823) ≤ 0 - a12 → 0 ≤ p2 → (-94) ≤ 0 - p2 → 12 ≤ n_k0 → (-96) ≤ 0 - n_k0 → 12 ≤ n_k1 → (-96) ≤ 0 - n_k1 → 0 ≤ 0 - a12 + a8 → 1 < (m : Int) → yG 89 xfts (xcall 89 xfts xpools xms (d + 1)) (xpool xp_RX0) [] xt_X0_takeOff (yP 2 (bQj G [(68719476736, 256)] hp 0 1073741823 (fun _ => True))) (65 * m) 261 [(0, yR k0), (1, yR k1), (2, yI (p2)), (4, yJ (a4)), (8, yJ (a8)), (12, yJ (a12))] [] hq) := by
    intro m
    induction m with
    | zero =>
      refine ⟨?_, ?_, ?_⟩ <;> (intros; exfalso; omega)
    | succ m ih =>
      obtain ⟨i_102, i_182, i_261⟩ := ih
      refine ⟨?_, ?_, ?_⟩
      · intro a3 a4 a6 a8 a10 a12 hq A_hq f0 f1 f2 f3 f4 f5 f6 f7 f8 f9 f10 f11 f12 f13 f14 f15 f16 f17 f18 f19 f20 f21 f22 f23 hm
        refine yG.mono (N := 65 * m + 65) ?_ (by omega)
        refine yG.load xik rfl (fun _ _ => rfl) (v := yI (a12)) rfl rfl ?_
        refine yG.num (c := 3) rfl (fun _ _ => rfl) (by decide) ?_
        refine yG.icmp rfl (t := 176) rfl ⟨by omega, by omega⟩ ⟨by omega, by omega⟩ (fun c1 => ?_) (fun c1 => ?_)
        · have c1 : (a12 : Int) ≥ 3 := c1
          refine yG.numl (c := 0) rfl (fun _ _ => rfl) (by decide) ?_
          refine yG.store2 xlk2 (L' := [(12, yJ (0)), (0, yR k0), (1, yR k1), (2, yI (p2)), (3, yI (a3)), (4, yJ (a4)), (6, yJ (a6)), (8, yJ (a8)), (10, yJ (a10))]) rfl (fun _ _ => rfl) rfl rfl ?_
          refine yG.num (c := 0) rfl (fun _ _ => rfl) (by decide) ?_
          refine yG.store1 xik (L' := [(14, yI (0)), (12, yJ (0)), (0, yR k0), (1, yR k1), (2, yI (p2)), (3, yI (a3)), (4, yJ (a4)), (6, yJ (a6)), (8, yJ (a8)), (10, yJ (a10))]) rfl (fun _ _ => rfl) rfl rfl ?_
          exact yG.mono (yG.sub (i_182 (a3) (a4) (a8) (0) (0)  hq A_hq   (by omega) (by omega) (by omega) (by omega) (by omega) (by omega) (by omega) (by omega) (by omega) (by omega) (by omega) (by omega) (by omega) (by omega) (by omega) (by omega) (by omega) (by omega) (by omega) (by omega) (by omega) (by omega)) (ySub.cons rfl (ySub.cons rfl (ySub.cons rfl (ySub.cons rfl (ySub.cons rfl (ySub.cons rfl (ySub.cons rfl (ySub.cons rfl (ySub.nil)))))))))) (by omega)
        · have c1 : (a12 : Int) < 3 := c1
          refine yG.load xlk2 rfl (fun _ _ => rfl) (v := yJ (a6)) rfl rfl ?_
          refine yG.load xlk2 rfl (fun _ _ => rfl) (v := yJ (a8)) rfl rfl ?_
          rcases (show a8 ≤ 0 ∨ 1 ≤ a8 by omega) with d2 | d2
          · skip
            refine yG.load xak rfl (fun _ _ => rfl) (v := yR k1) rfl rfl ?_
            refine yG.getO A_hq.1 (w_Big_limb W H_k1) rfl rfl (fun r3 H_r3 O_r3 q_r3 => ?_)
            have O_r3 := O_r3 rfl
            refine yG.load xik rfl (fun _ _ => rfl) (v := yI (a3)) rfl rfl ?_
            refine yG.num (c := 1) rfl (fun _ _ => rfl) (by decide) ?_
            refine yG.isub rfl ?_
            refine yG.lald A_hq.1 (v_Big_limb W H_r3) rfl (by omega) (by omega) (fun z4 e_z4 i_z4 l_z4 u_z4 => ?_)
            refine yG.lmul rfl ?_
            obtain ⟨z5, e_z5⟩ : ∃ z : Int, z = a8 * z4 := ⟨_, rfl⟩
            rw [← e_z5]
            have b_z5 : 0 ≤ z5 ∧ z5 ≤ 0 := e_z5 ▸ ymulb (A := 0) (B := 1073741823) (by omega) (by omega) (by omega) (by omega) (by decide)
            have b2_z5 : z5 ≤ 0 * z4 := e_z5 ▸ bmulx (by omega) (by omega)
            have b3_z5 : z5 ≤ 1073741823 * a8 := e_z5 ▸ bmuly (by omega) (by omega)
            refine yG.lsub rfl ?_
            refine yG.numl (c := 1073741824) rfl (fun _ _ => rfl) (by decide) ?_
            refine yG.lcmp rfl ⟨by omega, by omega⟩ ⟨by omega, by omega⟩ (fun z6 e_z6 => ?_)
            refine yG.ifz rfl (t := 176) rfl ⟨by omega, by omega⟩ (fun c7 => ?_) (fun c7 => ?_)
            · have c7 : (z6 : Int) ≥ 0 := c7
              refine yG.numl (c := 0) rfl (fun _ _ => rfl) (by decide) ?_
              refine yG.store2 xlk2 (L' := [(12, yJ (0)), (0, yR k0), (1, yR k1), (2, yI (p2)), (3, yI (a3)), (4, yJ (a4)), (6, yJ (a6)), (8, yJ (a8)), (10, yJ (a10))]) rfl (fun _ _ => rfl) rfl rfl ?_
              refine yG.num (c := 0) rfl (fun _ _ => rfl) (by decide) ?_
              refine yG.store1 xik (L' := [(14, yI (0)), (12, yJ (0)), (0, yR k0), (1, yR k1), (2, yI (p2)), (3, yI (a3)), (4, yJ (a4)), (6, yJ (a6)), (8, yJ (a8)), (10, yJ (a10))]) rfl (fun _ _ => rfl) rfl rfl ?_
              exact yG.mono (yG.sub (i_182 (a3) (a4) (a8) (0) (0)  hq A_hq   (by omega) (by omega) (by omega) (by omega) (by omega) (by omega) (by omega) (by omega) (by omega) (by omega) (by omega) (by omega) (by omega) (by omega) (by omega) (by omega) (by omega) (by omega) (by omega) (by omega) (by omega) (by omega)) (ySub.cons rfl (ySub.cons rfl (ySub.cons rfl (ySub.cons rfl (ySub.cons rfl (ySub.cons rfl (ySub.cons rfl (ySub.cons rfl (ySub.nil)))))))))) (by omega)
            · have c7 : (z6 : Int) < 0 := c7
              refine yG.load xlk2 rfl (fun _ _ => rfl) (v := yJ (a8)) rfl rfl ?_
              refine yG.load xak rfl (fun _ _ => rfl) (v := yR k1) rfl rfl ?_
              refine yG.getS9 A_hq.1 (w_Big_limb W H_k1) q_r3 rfl rfl ?_
              refine yG.load xik rfl (fun _ _ => rfl) (v := yI (a3)) rfl rfl ?_
              refine yG.num (c := 2) rfl (fun _ _ => rfl) (by decide) ?_
              refine yG.isub rfl ?_
              refine yG.lald A_hq.1 (v_Big_limb W H_r3) rfl (by omega) (by omega) (fun z8 e_z8 i_z8 l_z8 u_z8 => ?_)
              refine yG.lmul rfl ?_
              obtain ⟨z9, e_z9⟩ : ∃ z : Int, z = a8 * z8 := ⟨_, rfl⟩
              rw [← e_z9]
              have b_z9 : 0 ≤ z9 ∧ z9 ≤ 0 := e_z9 ▸ ymulb (A := 0) (B := 1073741823) (by omega) (by omega) (by omega) (by omega) (by decide)
              have b2_z9 : z9 ≤ 0 * z8 := e_z9 ▸ bmulx (by omega) (by omega)
              have b3_z9 : z9 ≤ 1073741823 * a8 := e_z9 ▸ bmuly (by omega) (by omega)
              refine yG.load xlk2 rfl (fun _ _ => rfl) (v := yJ (a6)) rfl rfl ?_
              refine yG.load xlk2 rfl (fun _ _ => rfl) (v := yJ (a8)) rfl rfl ?_
              refine yG.load xak rfl (fun _ _ => rfl) (v := yR k1) rfl rfl ?_
              refine yG.getS9 A_hq.1 (w_Big_limb W H_k1) q_r3 rfl rfl ?_
              refine yG.load xik rfl (fun _ _ => rfl) (v := yI (a3)) rfl rfl ?_
              refine yG.num (c := 1) rfl (fun _ _ => rfl) (by decide) ?_
              refine yG.isub rfl ?_
              refine yG.lald A_hq.1 (v_Big_limb W H_r3) rfl (by omega) (by omega) (fun z10 e_z10 i_z10 l_z10 u_z10 => ?_)
              refine yG.lmul rfl ?_
              obtain ⟨z11, e_z11⟩ : ∃ z : Int, z = a8 * z10 := ⟨_, rfl⟩
              rw [← e_z11]
              have b_z11 : 0 ≤ z11 ∧ z11 ≤ 0 := e_z11 ▸ ymulb (A := 0) (B := 1073741823) (by omega) (by omega) (by omega) (by omega) (by decide)
              have b2_z11 : z11 ≤ 0 * z10 := e_z11 ▸ bmulx (by omega) (by omega)
              have b3_z11 : z11 ≤ 1073741823 * a8 := e_z11 ▸ bmuly (by omega) (by omega)
              refine yG.lsub rfl ?_
              refine yG.num (c := 30) rfl (fun _ _ => rfl) (by decide) ?_
              refine yG.bit64 rfl (fun _ _ => rfl) (fun z12 e_z12 l_z12 u_z12 => ?_)
              have b_z12 : z12 = (a6 - z11) * 2 ^ 30 := by rw [e_z12]; exact bshl (n := 30) (by omega) (by omega) (by decide) (by decide)
              subst b_z12
              clear e_z12 l_z12 u_z12
              refine yG.load xlk2 rfl (fun _ _ => rfl) (v := yJ (a10)) rfl rfl ?_
              refine yG.bit64 rfl (fun _ _ => rfl) (fun z13 e_z13 l_z13 u_z13 => ?_)
              have b_z13 : z13 = (a6 - z11) * 2 ^ 30 + a10 := by rw [e_z13]; exact blor (by omega) (by omega) (by omega) (by omega)
              refine yG.lcmp rfl ⟨by omega, by omega⟩ ⟨by omega, by omega⟩ (fun z14 e_z14 => ?_)
              refine yG.ifz rfl (t := 176) rfl ⟨by omega, by omega⟩ (fun c15 => ?_) (fun c15 => ?_)
              · have c15 : (z14 : Int) ≤ 0 := c15
                refine yG.numl (c := 0) rfl (fun _ _ => rfl) (by decide) ?_
                refine yG.store2 xlk2 (L' := [(12, yJ (0)), (0, yR k0), (1, yR k1), (2, yI (p2)), (3, yI (a3)), (4, yJ (a4)), (6, yJ (a6)), (8, yJ (a8)), (10, yJ (a10))]) rfl (fun _ _ => rfl) rfl rfl ?_
                refine yG.num (c := 0) rfl (fun _ _ => rfl) (by decide) ?_
                refine yG.store1 xik (L' := [(14, yI (0)), (12, yJ (0)), (0, yR k0), (1, yR k1), (2, yI (p2)), (3, yI (a3)), (4, yJ (a4)), (6, yJ (a6)), (8, yJ (a8)), (10, yJ (a10))]) rfl (fun _ _ => rfl) rfl rfl ?_
                exact yG.mono (yG.sub (i_182 (a3) (a4) (a8) (0) (0)  hq A_hq   (by omega) (by omega) (by omega) (by omega) (by omega) (by omega) (by omega) (by omega) (by omega) (by omega) (by omega) (by omega) (by omega) (by omega) (by omega) (by omega) (by omega) (by omega) (by omega) (by omega) (by omega) (by omega)) (ySub.cons rfl (ySub.cons rfl (ySub.cons rfl (ySub.cons rfl (ySub.cons rfl (ySub.cons rfl (ySub.cons rfl (ySub.cons rfl (ySub.nil)))))))))) (by omega)
              · have c15 : (z14 : Int) > 0 := c15
                exfalso; omega
          · skip
            refine yG.load xak rfl (fun _ _ => rfl) (v := yR k1) rfl rfl ?_
            refine yG.getO A_hq.1 (w_Big_limb W H_k1) rfl rfl (fun r16 H_r16 O_r16 q_r16 => ?_)
            have O_r16 := O_r16 rfl
            refine yG.load xik rfl (fun _ _ => rfl) (v := yI (a3)) rfl rfl ?_
            refine yG.num (c := 1) rfl (fun _ _ => rfl) (by decide) ?_
            refine yG.isub rfl ?_
            refine yG.lald A_hq.1 (v_Big_limb W H_r16) rfl (by omega) (by omega) (fun z17 e_z17 i_z17 l_z17 u_z17 => ?_)
            refine yG.lmul rfl ?_
            obtain ⟨z18, e_z18⟩ : ∃ z : Int, z = a8 * z17 := ⟨_, rfl⟩
            rw [← e_z18]
            have b_z18 : 0 ≤ z18 ∧ z18 ≤ 1152921502459363329 := e_z18 ▸ ymulb (A := 1073741823) (B := 1073741823) (by omega) (by omega) (by omega) (by omega) (by decide)
            have b2_z18 : z18 ≤ 1073741823 * z17 := e_z18 ▸ bmulx (by omega) (by omega)
            have b3_z18 : z18 ≤ 1073741823 * a8 := e_z18 ▸ bmuly (by omega) (by omega)
            refine yG.lsub rfl ?_
            refine yG.numl (c := 1073741824) rfl (fun _ _ => rfl) (by decide) ?_
            refine yG.lcmp rfl ⟨by omega, by omega⟩ ⟨by omega, by omega⟩ (fun z19 e_z19 => ?_)
            refine yG.ifz rfl (t := 176) rfl ⟨by omega, by omega⟩ (fun c20 => ?_) (fun c20 => ?_)
            · have c20 : (z19 : Int) ≥ 0 := c20
              refine yG.numl (c := 0) rfl (fun _ _ => rfl) (by decide) ?_
              refine yG.store2 xlk2 (L' := [(12, yJ (0)), (0, yR k0), (1, yR k1), (2, yI (p2)), (3, yI (a3)), (4, yJ (a4)), (6, yJ (a6)), (8, yJ (a8)), (10, yJ (a10))]) rfl (fun _ _ => rfl) rfl rfl ?_
              refine yG.num (c := 0) rfl (fun _ _ => rfl) (by decide) ?_
              refine yG.store1 xik (L' := [(14, yI (0)), (12, yJ (0)), (0, yR k0), (1, yR k1), (2, yI (p2)), (3, yI (a3)), (4, yJ (a4)), (6, yJ (a6)), (8, yJ (a8)), (10, yJ (a10))]) rfl (fun _ _ => rfl) rfl rfl ?_
              exact yG.mono (yG.sub (i_182 (a3) (a4) (a8) (0) (0)  hq A_hq   (by omega) (by omega) (by omega) (by omega) (by omega) (by omega) (by omega) (by omega) (by omega) (by omega) (by omega) (by omega) (by omega) (by omega) (by omega) (by omega) (by omega) (by omega) (by omega) (by omega) (by omega) (by omega)) (ySub.cons rfl (ySub.cons rfl (ySub.cons rfl (ySub.cons rfl (ySub.cons rfl (ySub.cons rfl (ySub.cons rfl (ySub.cons rfl (ySub.nil)))))))))) (by omega)
            · have c20 : (z19 : Int) < 0 := c20
              refine yG.load xlk2 rfl (fun _ _ => rfl) (v := yJ (a8)) rfl rfl ?_
              refine yG.load xak rfl (fun _ _ => rfl) (v := yR k1) rfl rfl ?_
              refine yG.getS9 A_hq.1 (w_Big_limb W H_k1) q_r16 rfl rfl ?_
              refine yG.load xik rfl (fun _ _ => rfl) (v := yI (a3)) rfl rfl ?_
              refine yG.num (c := 2) rfl (fun _ _ => rfl) (by decide) ?_
              refine yG.isub rfl ?_
              refine yG.lald A_hq.1 (v_Big_limb W H_r16) rfl (by omega) (by omega) (fun z21 e_z21 i_z21 l_z21 u_z21 => ?_)
              refine yG.lmul rfl ?_
              obtain ⟨z22, e_z22⟩ : ∃ z : Int, z = a8 * z21 := ⟨_, rfl⟩
              rw [← e_z22]
              have b_z22 : 0 ≤ z22 ∧ z22 ≤ 1152921502459363329 := e_z22 ▸ ymulb (A := 1073741823) (B := 1073741823) (by omega) (by omega) (by omega) (by omega) (by decide)
              have b2_z22 : z22 ≤ 1073741823 * z21 := e_z22 ▸ bmulx (by omega) (by omega)
              have b3_z22 : z22 ≤ 1073741823 * a8 := e_z22 ▸ bmuly (by omega) (by omega)
              refine yG.load xlk2 rfl (fun _ _ => rfl) (v := yJ (a6)) rfl rfl ?_
              refine yG.load xlk2 rfl (fun _ _ => rfl) (v := yJ (a8)) rfl rfl ?_
              refine yG.load xak rfl (fun _ _ => rfl) (v := yR k1) rfl rfl ?_
              refine yG.getS9 A_hq.1 (w_Big_limb W H_k1) q_r16 rfl rfl ?_
              refine yG.load xik rfl (fun _ _ => rfl) (v := yI (a3)) rfl rfl ?_
              refine yG.num (c := 1) rfl (fun _ _ => rfl) (by decide) ?_
              refine yG.isub rfl ?_
              refine yG.lald A_hq.1 (v_Big_limb W H_r16) rfl (by omega) (by omega) (fun z23 e_z23 i_z23 l_z23 u_z23 => ?_)
              refine yG.lmul rfl ?_
              obtain ⟨z24, e_z24⟩ : ∃ z : Int, z = a8 * z23 := ⟨_, rfl⟩
              rw [← e_z24]
              have b_z24 : 0 ≤ z24 ∧ z24 ≤ 1152921502459363329 := e_z24 ▸ ymulb (A := 1073741823) (B := 1073741823) (by omega) (by omega) (by omega) (by omega) (by decide)
              have b2_z24 : z24 ≤ 1073741823 * z23 := e_z24 ▸ bmulx (by omega) (by omega)
              have b3_z24 : z24 ≤ 1073741823 * a8 := e_z24 ▸ bmuly (by omega) (by omega)
              refine yG.lsub rfl ?_
              refine yG.num (c := 30) rfl (fun _ _ => rfl) (by decide) ?_
              refine yG.bit64 rfl (fun _ _ => rfl) (fun z25 e_z25 l_z25 u_z25 => ?_)
              refine yG.load xlk2 rfl (fun _ _ => rfl) (v := yJ (a10)) rfl rfl ?_
              refine yG.bit64 rfl (fun _ _ => rfl) (fun z26 e_z26 l_z26 u_z26 => ?_)
              refine yG.lcmp rfl ⟨by omega, by omega⟩ ⟨by omega, by omega⟩ (fun z27 e_z27 => ?_)
              refine yG.ifz rfl (t := 176) rfl ⟨by omega, by omega⟩ (fun c28 => ?_) (fun c28 => ?_)
              · have c28 : (z27 : Int) ≤ 0 := c28
                refine yG.numl (c := 0) rfl (fun _ _ => rfl) (by decide) ?_
                refine yG.store2 xlk2 (L' := [(12, yJ (0)), (0, yR k0), (1, yR k1), (2, yI (p2)), (3, yI (a3)), (4, yJ (a4)), (6, yJ (a6)), (8, yJ (a8)), (10, yJ (a10))]) rfl (fun _ _ => rfl) rfl rfl ?_
                refine yG.num (c := 0) rfl (fun _ _ => rfl) (by decide) ?_
                refine yG.store1 xik (L' := [(14, yI (0)), (12, yJ (0)), (0, yR k0), (1, yR k1), (2, yI (p2)), (3, yI (a3)), (4, yJ (a4)), (6, yJ (a6)), (8, yJ (a8)), (10, yJ (a10))]) rfl (fun _ _ => rfl) rfl rfl ?_
                exact yG.mono (yG.sub (i_182 (a3) (a4) (a8) (0) (0)  hq A_hq   (by omega) (by omega) (by omega) (by omega) (by omega) (by omega) (by omega) (by omega) (by omega) (by omega) (by omega) (by omega) (by omega) (by omega) (by omega) (by omega) (by omega) (by omega) (by omega) (by omega) (by omega) (by omega)) (ySub.cons rfl (ySub.cons rfl (ySub.cons rfl (ySub.cons rfl (ySub.cons rfl (ySub.cons rfl (ySub.cons rfl (ySub.cons rfl (ySub.nil)))))))))) (by omega)
              · have c28 : (z27 : Int) > 0 := c28
                refine yG.load xlk2 rfl (fun _ _ => rfl) (v := yJ (a8)) rfl rfl ?_
                refine yG.numl (c := 1) rfl (fun _ _ => rfl) (by decide) ?_
                refine yG.lsub rfl ?_
                obtain ⟨z29, e_z29⟩ : ∃ z : Int, z = a8 - 1 := ⟨_, rfl⟩
                rw [← e_z29]
                refine yG.store2 xlk2 (L' := [(8, yJ (z29)), (0, yR k0), (1, yR k1), (2, yI (p2)), (3, yI (a3)), (4, yJ (a4)), (6, yJ (a6)), (10, yJ (a10)), (12, yI (a12))]) rfl (fun _ _ => rfl) rfl rfl ?_
                refine yG.iinc rfl (a := a12) rfl (L' := [(12, yI (a12 + 1)), (8, yJ (z29)), (0, yR k0), (1, yR k1), (2, yI (p2)), (3, yI (a3)), (4, yJ (a4)), (6, yJ (a6)), (10, yJ (a10))]) rfl ?_
                refine yG.goto rfl (t := 102) rfl ?_
                exact yG.mono (yG.sub (i_102 (a3) (a4) (a6) (z29) (a10) (a12 + 1)  hq A_hq   (by omega) (by omega) (by omega) (by omega) (by omega) (by omega) (by omega) (by omega) (by omega) (by omega) (by omega) (by omega) (by omega) (by omega) (by omega) (by omega) (by omega) (by omega) (by omega) (by omega) (by omega) (by omega) (by omega) (by omega) (by omega)) (ySub.cons rfl (ySub.cons rfl (ySub.cons rfl (ySub.cons rfl (ySub.cons rfl (ySub.cons rfl (ySub.cons rfl (ySub.cons rfl (ySub.cons rfl (ySub.nil))))))))))) (by omega)
      · intro a3 a4 a8 a12 a14 hq A_hq f0 f1 f2 f3 f4 f5 f6 f7 f8 f9 f10 f11 f12 f13 f14 f15 f16 f17 f18 f19 f20 hm
        refine yG.mono (N := 65 * m + 65) ?_ (by omega)
        refine yG.load xik rfl (fun _ _ => rfl) (v := yI (a14)) rfl rfl ?_
        refine yG.load xik rfl (fun _ _ => rfl) (v := yI (a3)) rfl rfl ?_
        refine yG.icmp rfl (t := 242) rfl ⟨by omega, by omega⟩ ⟨by omega, by omega⟩ (fun c1 => ?_) (fun c1 => ?_)
        · have c1 : (a14 : Int) ≥ a3 := c1
          refine yG.load xik rfl (fun _ _ => rfl) (v := yI (p2)) rfl rfl ?_
          refine yG.load xik rfl (fun _ _ => rfl) (v := yI (a3)) rfl rfl ?_
          refine yG.iadd rfl ?_
          refine yG.load xak rfl (fun _ _ => rfl) (v := yR k0) rfl rfl ?_
          refine yG.getN A_hq.1 (w_Big_size W H_k0) rfl rfl (fun z2 e_z2 i_z2 l_z2 u_z2 => ?_)
          refine yG.icmp rfl (t := 261) rfl ⟨by omega, by omega⟩ ⟨by omega, by omega⟩ (fun c3 => ?_) (fun c3 => ?_)
          · have c3 : (p2 + a3 : Int) ≥ z2 := c3
            exact yG.mono (yG.sub (i_261 (a4) (a8) (a12)  hq A_hq   (by omega) (by omega) (by omega) (by omega) (by omega) (by omega) (by omega) (by omega) (by omega) (by omega) (by omega) (by omega) (by omega) (by omega)) (ySub.cons rfl (ySub.cons rfl (ySub.cons rfl (ySub.cons rfl (ySub.cons rfl (ySub.cons rfl (ySub.nil)))))))) (by omega)
          · have c3 : (p2 + a3 : Int) < z2 := c3
            refine yG.load xak rfl (fun _ _ => rfl) (v := yR k0) rfl rfl ?_
            refine yG.getO A_hq.1 (w_Big_limb W H_k0) rfl rfl (fun r4 H_r4 O_r4 q_r4 => ?_)
            have O_r4 := O_r4 rfl
            refine yG.load xik rfl (fun _ _ => rfl) (v := yI (p2)) rfl rfl ?_
            refine yG.load xik rfl (fun _ _ => rfl) (v := yI (a3)) rfl rfl ?_
            refine yG.iadd rfl ?_
            refine yG.numl (c := 0) rfl (fun _ _ => rfl) (by decide) ?_
            refine yG.last A_hq.1 (v_Big_limb W H_r4) (W.2.1 _ _ H_r4 (by decide) (by decide)) rfl (by omega) (by omega) ⟨by omega, by omega⟩ (by omega) (by omega) (fun h5 T_h5 b_h5 f_h5 y_h5 => ?_)
            have A_h5 := A_hq.put T_h5 b_h5 f_h5 H_r4 (bAll_ok (by decide) _)
            have qq1 : zsl h5 k0 0 = yR r4 := ((f_h5 k0 0).trans (if_neg (fun e => (bRo.ne H_k0 H_r4 (by decide)) e.1))).trans q_r4
            exact yG.mono (yG.sub (i_261 (a4) (a8) (a12)  h5 A_h5   (by omega) (by omega) (by omega) (by omega) (by omega) (by omega) (by omega) (by omega) (by omega) (by omega) (by omega) (by omega) (by omega) (by omega)) (ySub.cons rfl (ySub.cons rfl (ySub.cons rfl (ySub.cons rfl (ySub.cons rfl (ySub.cons rfl (ySub.nil)))))))) (by omega)
        · have c1 : (a14 : Int) < a3 := c1
          refine yG.load xak rfl (fun _ _ => rfl) (v := yR k0) rfl rfl ?_
          refine yG.getO A_hq.1 (w_Big_limb W H_k0) rfl rfl (fun r6 H_r6 O_r6 q_r6 => ?_)
          have O_r6 := O_r6 rfl
          refine yG.load xik rfl (fun _ _ => rfl) (v := yI (a14)) rfl rfl ?_
          refine yG.load xik rfl (fun _ _ => rfl) (v := yI (p2)) rfl rfl ?_
          refine yG.iadd rfl ?_
          refine yG.lald A_hq.1 (v_Big_limb W H_r6) rfl (by omega) (by omega) (fun z7 e_z7 i_z7 l_z7 u_z7 => ?_)
          refine yG.load xlk2 rfl (fun _ _ => rfl) (v := yJ (a8)) rfl rfl ?_
          refine yG.load xak rfl (fun _ _ => rfl) (v := yR k1) rfl rfl ?_
          refine yG.getO A_hq.1 (w_Big_limb W H_k1) rfl rfl (fun r8 H_r8 O_r8 q_r8 => ?_)
          have O_r8 := O_r8 rfl
          refine yG.load xik rfl (fun _ _ => rfl) (v := yI (a14)) rfl rfl ?_
          refine yG.lald A_hq.1 (v_Big_limb W H_r8) rfl (by omega) (by omega) (fun z9 e_z9 i_z9 l_z9 u_z9 => ?_)
          refine yG.lmul rfl ?_
          obtain ⟨z10, e_z10⟩ : ∃ z : Int, z = a8 * z9 := ⟨_, rfl⟩
          rw [← e_z10]
          have b_z10 : 0 ≤ z10 ∧ z10 ≤ 1152921502459363329 := e_z10 ▸ ymulb (A := 1073741823) (B := 1073741823) (by omega) (by omega) (by omega) (by omega) (by decide)
          have b2_z10 : z10 ≤ 1073741823 * z9 := e_z10 ▸ bmulx (by omega) (by omega)
          have b3_z10 : z10 ≤ 1073741823 * a8 := e_z10 ▸ bmuly (by omega) (by omega)
          refine yG.lsub rfl ?_
          refine yG.load xlk2 rfl (fun _ _ => rfl) (v := yJ (a12)) rfl rfl ?_
          refine yG.lsub rfl ?_
          obtain ⟨z11, e_z11⟩ : ∃ z : Int, z = (z7 - z10) - a12 := ⟨_, rfl⟩
          rw [← e_z11]
          refine yG.store2 xlk2 (L' := [(15, yJ (z11)), (0, yR k0), (1, yR k1), (2, yI (p2)), (3, yI (a3)), (4, yJ (a4)), (8, yJ (a8)), (12, yJ (a12)), (14, yI (a14))]) rfl (fun _ _ => rfl) rfl rfl ?_
          refine yG.load xak rfl (fun _ _ => rfl) (v := yR k0) rfl rfl ?_
          refine yG.getS9 A_hq.1 (w_Big_limb W H_k0) q_r6 rfl rfl ?_
          refine yG.load xik rfl (fun _ _ => rfl) (v := yI (a14)) rfl rfl ?_
          refine yG.load xik rfl (fun _ _ => rfl) (v := yI (p2)) rfl rfl ?_
          refine yG.iadd rfl ?_
          refine yG.load xlk2 rfl (fun _ _ => rfl) (v := yJ (z11)) rfl rfl ?_
          refine yG.numl (c := 1073741823) rfl (fun _ _ => rfl) (by decide) ?_
          refine yG.bit64 rfl (fun _ _ => rfl) (fun z12 e_z12 l_z12 u_z12 => ?_)
          have b_z12 : 0 ≤ z12 ∧ z12 ≤ 1073741823 := by rw [e_z12]; exact yland ⟨by decide, by decide⟩ (by decide)
          refine yG.last A_hq.1 (v_Big_limb W H_r6) (W.2.1 _ _ H_r6 (by decide) (by decide)) rfl (by omega) (by omega) ⟨by omega, by omega⟩ (by omega) (by omega) (fun h13 T_h13 b_h13 f_h13 y_h13 => ?_)
          have A_h13 := A_hq.put T_h13 b_h13 f_h13 H_r6 (bAll_ok (by decide) _)
          have qq2 : zsl h13 k0 0 = yR r6 := ((f_h13 k0 0).trans (if_neg (fun e => (bRo.ne H_k0 H_r6 (by decide)) e.1))).trans q_r6
          refine yG.load xlk2 rfl (fun _ _ => rfl) (v := yJ (z11)) rfl rfl ?_
          refine yG.num (c := 30) rfl (fun _ _ => rfl) (by decide) ?_
          refine yG.bit64 rfl (fun _ _ => rfl) (fun z14 e_z14 l_z14 u_z14 => ?_)
          have b_z14 : z14 = (z11) / 1073741824 := by rw [e_z14]; exact ylshr (n := 30) ⟨by omega, by omega⟩ (by decide)
          refine yG.lneg rfl ?_
          obtain ⟨z15, e_z15⟩ : ∃ z : Int, z = -(z14) := ⟨_, rfl⟩
          rw [← e_z15]
          refine yG.store2 xlk2 (L' := [(12, yJ (z15)), (15, yJ (z11)), (0, yR k0), (1, yR k1), (2, yI (p2)), (3, yI (a3)), (4, yJ (a4)), (8, yJ (a8)), (14, yI (a14))]) rfl (fun _ _ => rfl) rfl rfl ?_
          refine yG.iinc rfl (a := a14) rfl (L' := [(14, yI (a14 + 1)), (12, yJ (z15)), (15, yJ (z11)), (0, yR k0), (1, yR k1), (2, yI (p2)), (3, yI (a3)), (4, yJ (a4)), (8, yJ (a8))]) rfl ?_
          refine yG.goto rfl (t := 182) rfl ?_
          exact yG.mono (yG.sub (i_182 (a3) (a4) (a8) (z15) (a14 + 1)  h13 A_h13   (by omega) (by omega) (by omega) (by omega) (by omega) (by omega) (by omega) (by omega) (by omega) (by omega) (by omega) (by omega) (by omega) (by omega) (by omega) (by omega) (by omega) (by omega) (by omega) (by omega) (by omega) (by omega)) (ySub.cons rfl (ySub.cons rfl (ySub.cons rfl (ySub.cons rfl (ySub.cons rfl (ySub.cons rfl (ySub.cons rfl (ySub.cons rfl (ySub.nil)))))))))) (by omega)
      · intro a4 a8 a12 hq A_hq f0 f1 f2 f3 f4 f5 f6 f7 f8 f9 f10 f11 f12 hm
        refine yG.mono (N := 65 * m + 65) ?_ (by omega)
        refine yG.load xlk2 rfl (fun _ _ => rfl) (v := yJ (a12)) rfl rfl ?_
        refine yG.load xlk2 rfl (fun _ _ => rfl) (v := yJ (a4)) rfl rfl ?_
        refine yG.lcmp rfl ⟨by omega, by omega⟩ ⟨by omega, by omega⟩ (fun z1 e_z1 => ?_)
        refine yG.ifz rfl (t := 281) rfl ⟨by omega, by omega⟩ (fun c2 => ?_) (fun c2 => ?_)
        · have c2 : (z1 : Int) ≤ 0 := c2
          refine yG.load xlk2 rfl (fun _ _ => rfl) (v := yJ (a8)) rfl rfl ?_
          refine yG.ret rfl (fun _ _ => rfl) ?_
          exact (yP.long ⟨by omega, by omega⟩ ⟨⟨a8, rfl, by omega, by omega, trivial⟩, A_hq⟩)
        · have c2 : (z1 : Int) > 0 := c2
          refine yG.load xak rfl (fun _ _ => rfl) (v := yR k0) rfl rfl ?_
          refine yG.load xak rfl (fun _ _ => rfl) (v := yR k1) rfl rfl ?_
          refine yG.load xik rfl (fun _ _ => rfl) (v := yI (p2)) rfl rfl ?_
          refine yG.invV (rest := []) A_hq.1 (bOb (d_Big W) H_k0) rfl rfl rfl rfl (c_Big_addBack W d A_hq.1 H_k0 H_k1 (p2) (by omega) (by omega)) (fun rv h3 q9 => ?_)
          obtain ⟨⟨rfl, R_z4⟩, B_h3⟩ := q9
          have A_h3 := A_hq.tr B_h3 (by decide)
          show yG _ _ _ _ _ _ _ _ _ _ [] _
          refine yG.load xlk2 rfl (fun _ _ => rfl) (v := yJ (a8)) rfl rfl ?_
          refine yG.numl (c := 1) rfl (fun _ _ => rfl) (by decide) ?_
          refine yG.lsub rfl ?_
          obtain ⟨z5, e_z5⟩ : ∃ z : Int, z = a8 - 1 := ⟨_, rfl⟩
          rw [← e_z5]
          refine yG.store2 xlk2 (L' := [(8, yJ (z5)), (0, yR k0), (1, yR k1), (2, yI (p2)), (4, yJ (a4)), (12, yJ (a12))]) rfl (fun _ _ => rfl) rfl rfl ?_
          refine yG.load xlk2 rfl (fun _ _ => rfl) (v := yJ (z5)) rfl rfl ?_
          refine yG.ret rfl (fun _ _ => rfl) ?_
          exact (yP.long ⟨by omega, by omega⟩ ⟨⟨z5, rfl, by omega, by omega, trivial⟩, A_h3⟩)
  refine yC.of (M := (xt_X0_takeOff, (17, (2, (1, []))))) rfl rfl (N := 76050) (yfuel (by decide)) ?_
  show yG 89 xfts (xcall 89 xfts xpools xms (d + 1)) (xpool xp_RX0) [] xt_X0_takeOff (yP 2 (bQj G [(68719476736, 256)] hp 0 1073741823 (fun _ => True))) 76050 0 [(0, yR k0), (1, yR k1), (2, yI (p2))] [] hp
  obtain ⟨i_102, i_182, i_261⟩ := H 1169
  refine yG.load xak rfl (fun _ _ => rfl) (v := yR k1) rfl rfl ?_
  refine yG.getN A_hp.1 (w_Big_size W H_k1) rfl rfl (fun z1 e_z1 i_z1 l_z1 u_z1 => ?_)
  refine yG.store1 xik (L' := [(3, yI (z1)), (0, yR k0), (1, yR k1), (2, yI (p2))]) rfl (fun _ _ => rfl) rfl rfl ?_
  refine yG.load xik rfl (fun _ _ => rfl) (v := yI (z1)) rfl rfl ?_
  refine yG.num (c := 2) rfl (fun _ _ => rfl) (by decide) ?_
  refine yG.icmp rfl (t := 20) rfl ⟨by omega, by omega⟩ ⟨by omega, by omega⟩ (fun c2 => ?_) (fun c2 => ?_)
  · have c2 : (z1 : Int) < 2 := c2
    refine yG.numl (c := 0) rfl (fun _ _ => rfl) (by decide) ?_
    refine yG.ret rfl (fun _ _ => rfl) ?_
    exact (yP.long ⟨by omega, by omega⟩ ⟨⟨0, rfl, by omega, by omega, trivial⟩, A_hp⟩)
  · have c2 : (z1 : Int) ≥ 2 := c2
    refine yG.load xik rfl (fun _ _ => rfl) (v := yI (p2)) rfl rfl ?_
    refine yG.load xik rfl (fun _ _ => rfl) (v := yI (z1)) rfl rfl ?_
    refine yG.iadd rfl ?_
    refine yG.load xak rfl (fun _ _ => rfl) (v := yR k0) rfl rfl ?_
    refine yG.getN A_hp.1 (w_Big_size W H_k0) rfl rfl (fun z3 e_z3 i_z3 l_z3 u_z3 => ?_)
    refine yG.icmp rfl (t := 22) rfl ⟨by omega, by omega⟩ ⟨by omega, by omega⟩ (fun c4 => ?_) (fun c4 => ?_)
    · have c4 : (p2 + z1 : Int) ≤ z3 := c4
      refine yG.load xik rfl (fun _ _ => rfl) (v := yI (p2)) rfl rfl ?_
      refine yG.load xik rfl (fun _ _ => rfl) (v := yI (z1)) rfl rfl ?_
      refine yG.iadd rfl ?_
      refine yG.load xak rfl (fun _ _ => rfl) (v := yR k0) rfl rfl ?_
      refine yG.getN A_hp.1 (w_Big_size W H_k0) rfl rfl (fun z5 e_z5 i_z5 l_z5 u_z5 => ?_)
      refine yG.icmp rfl (t := 43) rfl ⟨by omega, by omega⟩ ⟨by omega, by omega⟩ (fun c6 => ?_) (fun c6 => ?_)
      · have c6 : (p2 + z1 : Int) ≥ z5 := c6
        refine yG.numl (c := 0) rfl (fun _ _ => rfl) (by decide) ?_
        refine yG.store2 xlk2 (L' := [(4, yJ (0)), (3, yI (z1)), (0, yR k0), (1, yR k1), (2, yI (p2))]) rfl (fun _ _ => rfl) rfl rfl ?_
        refine yG.load xlk2 rfl (fun _ _ => rfl) (v := yJ (0)) rfl rfl ?_
        refine yG.num (c := 30) rfl (fun _ _ => rfl) (by decide) ?_
        refine yG.bit64 rfl (fun _ _ => rfl) (fun z7 e_z7 l_z7 u_z7 => ?_)
        have b_z7 : z7 = (0) * 2 ^ 30 := by rw [e_z7]; exact bshl (n := 30) (by omega) (by omega) (by decide) (by decide)
        subst b_z7
        clear e_z7 l_z7 u_z7
        refine yG.load xak rfl (fun _ _ => rfl) (v := yR k0) rfl rfl ?_
        refine yG.getO A_hp.1 (w_Big_limb W H_k0) rfl rfl (fun r8 H_r8 O_r8 q_r8 => ?_)
        have O_r8 := O_r8 rfl
        refine yG.load xik rfl (fun _ _ => rfl) (v := yI (p2)) rfl rfl ?_
        refine yG.load xik rfl (fun _ _ => rfl) (v := yI (z1)) rfl rfl ?_
        refine yG.iadd rfl ?_
        refine yG.num (c := 1) rfl (fun _ _ => rfl) (by decide) ?_
        refine yG.isub rfl ?_
        refine yG.lald A_hp.1 (v_Big_limb W H_r8) rfl (by omega) (by omega) (fun z9 e_z9 i_z9 l_z9 u_z9 => ?_)
        refine yG.bit64 rfl (fun _ _ => rfl) (fun z10 e_z10 l_z10 u_z10 => ?_)
        have b_z10 : z10 = (0) * 2 ^ 30 + z9 := by rw [e_z10]; exact blor (by omega) (by omega) (by omega) (by omega)
        refine yG.store2 xlk2 (L' := [(6, yJ (z10)), (4, yJ (0)), (3, yI (z1)), (0, yR k0), (1, yR k1), (2, yI (p2))]) rfl (fun _ _ => rfl) rfl rfl ?_
        refine yG.load xlk2 rfl (fun _ _ => rfl) (v := yJ (z10)) rfl rfl ?_
        refine yG.load xak rfl (fun _ _ => rfl) (v := yR k1) rfl rfl ?_
        refine yG.getO A_hp.1 (w_Big_limb W H_k1) rfl rfl (fun r11 H_r11 O_r11 q_r11 => ?_)
        have O_r11 := O_r11 rfl
        refine yG.load xik rfl (fun _ _ => rfl) (v := yI (z1)) rfl rfl ?_
        refine yG.num (c := 1) rfl (fun _ _ => rfl) (by decide) ?_
        refine yG.isub rfl ?_
        refine yG.lald A_hp.1 (v_Big_limb W H_r11) rfl (by omega) (by omega) (fun z12 e_z12 i_z12 l_z12 u_z12 => ?_)
        refine yG.numl (c := 1) rfl (fun _ _ => rfl) (by decide) ?_
        refine yG.invS (rest := [yJ (z10)]) rfl rfl rfl rfl (c_J9_maxJ W d A_hp.1 (z12) (1) (by omega) (by omega) (by omega) (by omega)) (fun rv hp9 q9 => ?_)
        obtain ⟨⟨z13, rfl, l_z13, u_z13, R_z13⟩, e9⟩ := q9
        rw [e9]
        show yG _ _ _ _ _ _ _ _ _ _ (yJ z13 :: [yJ (z10)]) _
        refine yG.ldiv rfl ⟨by omega, by omega⟩ ⟨by omega, by omega⟩ (by omega) (by omega) ?_
        obtain ⟨z14, e_z14⟩ : ∃ z : Int, z = (z10) / (z13) := ⟨_, rfl⟩
        rw [← e_z14]
        have b_z14 : 0 ≤ z14 ∧ z14 ≤ z10 := e_z14 ▸ ⟨Int.ediv_nonneg (by omega) (by omega), Int.ediv_le_self _ (by omega)⟩
        have d_z14 : z14 ≤ 1073741824 - 1 := e_z14 ▸ bdivlt (by omega) (by omega)
        refine yG.numl (c := 1073741823) rfl (fun _ _ => rfl) (by decide) ?_
        refine yG.invS (rest := []) rfl rfl rfl rfl (c_J9_minJ W d A_hp.1 (z14) (1073741823) (by omega) (by omega) (by omega) (by omega)) (fun rv hp9 q9 => ?_)
        obtain ⟨⟨z15, rfl, l_z15, u_z15, R_z15⟩, e9⟩ := q9
        rw [e9]
        show yG _ _ _ _ _ _ _ _ _ _ (yJ z15 :: []) _
        refine yG.store2 xlk2 (L' := [(8, yJ (z15)), (6, yJ (z10)), (4, yJ (0)), (3, yI (z1)), (0, yR k0), (1, yR k1), (2, yI (p2))]) rfl (fun _ _ => rfl) rfl rfl ?_
        refine yG.load xak rfl (fun _ _ => rfl) (v := yR k0) rfl rfl ?_
        refine yG.getS9 A_hp.1 (w_Big_limb W H_k0) q_r8 rfl rfl ?_
        refine yG.load xik rfl (fun _ _ => rfl) (v := yI (p2)) rfl rfl ?_
        refine yG.load xik rfl (fun _ _ => rfl) (v := yI (z1)) rfl rfl ?_
        refine yG.iadd rfl ?_
        refine yG.num (c := 2) rfl (fun _ _ => rfl) (by decide) ?_
        refine yG.isub rfl ?_
        refine yG.lald A_hp.1 (v_Big_limb W H_r8) rfl (by omega) (by omega) (fun z16 e_z16 i_z16 l_z16 u_z16 => ?_)
        refine yG.store2 xlk2 (L' := [(10, yJ (z16)), (8, yJ (z15)), (6, yJ (z10)), (4, yJ (0)), (3, yI (z1)), (0, yR k0), (1, yR k1), (2, yI (p2))]) rfl (fun _ _ => rfl) rfl rfl ?_
        refine yG.num (c := 0) rfl (fun _ _ => rfl) (by decide) ?_
        refine yG.store1 xik (L' := [(12, yI (0)), (10, yJ (z16)), (8, yJ (z15)), (6, yJ (z10)), (4, yJ (0)), (3, yI (z1)), (0, yR k0), (1, yR k1), (2, yI (p2))]) rfl (fun _ _ => rfl) rfl rfl ?_
        exact yG.mono (yG.sub (i_102 (z1) (0) (z10) (z15) (z16) (0)  hp A_hp   (by omega) (by omega) (by omega) (by omega) (by omega) (by omega) (by omega) (by omega) (by omega) (by omega) (by omega) (by omega) (by omega) (by omega) (by omega) (by omega) (by omega) (by omega) (by omega) (by omega) (by omega) (by omega) (by omega) (by omega) (by omega)) (ySub.cons rfl (ySub.cons rfl (ySub.cons rfl (ySub.cons rfl (ySub.cons rfl (ySub.cons rfl (ySub.cons rfl (ySub.cons rfl (ySub.cons rfl (ySub.nil))))))))))) (by omega)
      · have c6 : (p2 + z1 : Int) < z5 := c6
        refine yG.load xak rfl (fun _ _ => rfl) (v := yR k0) rfl rfl ?_
        refine yG.getO A_hp.1 (w_Big_limb W H_k0) rfl rfl (fun r17 H_r17 O_r17 q_r17 => ?_)
        have O_r17 := O_r17 rfl
        refine yG.load xik rfl (fun _ _ => rfl) (v := yI (p2)) rfl rfl ?_
        refine yG.load xik rfl (fun _ _ => rfl) (v := yI (z1)) rfl rfl ?_
        refine yG.iadd rfl ?_
        refine yG.lald A_hp.1 (v_Big_limb W H_r17) rfl (by omega) (by omega) (fun z18 e_z18 i_z18 l_z18 u_z18 => ?_)
        refine yG.goto rfl (t := 44) rfl ?_
        refine yG.store2 xlk2 (L' := [(4, yJ (z18)), (3, yI (z1)), (0, yR k0), (1, yR k1), (2, yI (p2))]) rfl (fun _ _ => rfl) rfl rfl ?_
        refine yG.load xlk2 rfl (fun _ _ => rfl) (v := yJ (z18)) rfl rfl ?_
        refine yG.num (c := 30) rfl (fun _ _ => rfl) (by decide) ?_
        refine yG.bit64 rfl (fun _ _ => rfl) (fun z19 e_z19 l_z19 u_z19 => ?_)
        have b_z19 : z19 = (z18) * 2 ^ 30 := by rw [e_z19]; exact bshl (n := 30) (by omega) (by omega) (by decide) (by decide)
        subst b_z19
        clear e_z19 l_z19 u_z19
        refine yG.load xak rfl (fun _ _ => rfl) (v := yR k0) rfl rfl ?_
        refine yG.getS9 A_hp.1 (w_Big_limb W H_k0) q_r17 rfl rfl ?_
        refine yG.load xik rfl (fun _ _ => rfl) (v := yI (p2)) rfl rfl ?_
        refine yG.load xik rfl (fun _ _ => rfl) (v := yI (z1)) rfl rfl ?_
        refine yG.iadd rfl ?_
        refine yG.num (c := 1) rfl (fun _ _ => rfl) (by decide) ?_
        refine yG.isub rfl ?_
        refine yG.lald A_hp.1 (v_Big_limb W H_r17) rfl (by omega) (by omega) (fun z20 e_z20 i_z20 l_z20 u_z20 => ?_)
        refine yG.bit64 rfl (fun _ _ => rfl) (fun z21 e_z21 l_z21 u_z21 => ?_)
        have b_z21 : z21 = (z18) * 2 ^ 30 + z20 := by rw [e_z21]; exact blor (by omega) (by omega) (by omega) (by omega)
        refine yG.store2 xlk2 (L' := [(6, yJ (z21)), (4, yJ (z18)), (3, yI (z1)), (0, yR k0), (1, yR k1), (2, yI (p2))]) rfl (fun _ _ => rfl) rfl rfl ?_
        refine yG.load xlk2 rfl (fun _ _ => rfl) (v := yJ (z21)) rfl rfl ?_
        refine yG.load xak rfl (fun _ _ => rfl) (v := yR k1) rfl rfl ?_
        refine yG.getO A_hp.1 (w_Big_limb W H_k1) rfl rfl (fun r22 H_r22 O_r22 q_r22 => ?_)
        have O_r22 := O_r22 rfl
        refine yG.load xik rfl (fun _ _ => rfl) (v := yI (z1)) rfl rfl ?_
        refine yG.num (c := 1) rfl (fun _ _ => rfl) (by decide) ?_
        refine yG.isub rfl ?_
        refine yG.lald A_hp.1 (v_Big_limb W H_r22) rfl (by omega) (by omega) (fun z23 e_z23 i_z23 l_z23 u_z23 => ?_)
        refine yG.numl (c := 1) rfl (fun _ _ => rfl) (by decide) ?_
        refine yG.invS (rest := [yJ (z21)]) rfl rfl rfl rfl (c_J9_maxJ W d A_hp.1 (z23) (1) (by omega) (by omega) (by omega) (by omega)) (fun rv hp9 q9 => ?_)
        obtain ⟨⟨z24, rfl, l_z24, u_z24, R_z24⟩, e9⟩ := q9
        rw [e9]
        show yG _ _ _ _ _ _ _ _ _ _ (yJ z24 :: [yJ (z21)]) _
        refine yG.ldiv rfl ⟨by omega, by omega⟩ ⟨by omega, by omega⟩ (by omega) (by omega) ?_
        obtain ⟨z25, e_z25⟩ : ∃ z : Int, z = (z21) / (z24) := ⟨_, rfl⟩
        rw [← e_z25]
        have b_z25 : 0 ≤ z25 ∧ z25 ≤ z21 := e_z25 ▸ ⟨Int.ediv_nonneg (by omega) (by omega), Int.ediv_le_self _ (by omega)⟩
        refine yG.numl (c := 1073741823) rfl (fun _ _ => rfl) (by decide) ?_
        refine yG.invS (rest := []) rfl rfl rfl rfl (c_J9_minJ W d A_hp.1 (z25) (1073741823) (by omega) (by omega) (by omega) (by omega)) (fun rv hp9 q9 => ?_)
        obtain ⟨⟨z26, rfl, l_z26, u_z26, R_z26⟩, e9⟩ := q9
        rw [e9]
        show yG _ _ _ _ _ _ _ _ _ _ (yJ z26 :: []) _
        refine yG.store2 xlk2 (L' := [(8, yJ (z26)), (6, yJ (z21)), (4, yJ (z18)), (3, yI (z1)), (0, yR k0), (1, yR k1), (2, yI (p2))]) rfl (fun _ _ => rfl) rfl rfl ?_
        refine yG.load xak rfl (fun _ _ => rfl) (v := yR k0) rfl rfl ?_
        refine yG.getS9 A_hp.1 (w_Big_limb W H_k0) q_r17 rfl rfl ?_
        refine yG.load xik rfl (fun _ _ => rfl) (v := yI (p2)) rfl rfl ?_
        refine yG.load xik rfl (fun _ _ => rfl) (v := yI (z1)) rfl rfl ?_
        refine yG.iadd rfl ?_
        refine yG.num (c := 2) rfl (fun _ _ => rfl) (by decide) ?_
        refine yG.isub rfl ?_
        refine yG.lald A_hp.1 (v_Big_limb W H_r17) rfl (by omega) (by omega) (fun z27 e_z27 i_z27 l_z27 u_z27 => ?_)
        refine yG.store2 xlk2 (L' := [(10, yJ (z27)), (8, yJ (z26)), (6, yJ (z21)), (4, yJ (z18)), (3, yI (z1)), (0, yR k0), (1, yR k1), (2, yI (p2))]) rfl (fun _ _ => rfl) rfl rfl ?_
        refine yG.num (c := 0) rfl (fun _ _ => rfl) (by decide) ?_
        refine yG.store1 xik (L' := [(12, yI (0)), (10, yJ (z27)), (8, yJ (z26)), (6, yJ (z21)), (4, yJ (z18)), (3, yI (z1)), (0, yR k0), (1, yR k1), (2, yI (p2))]) rfl (fun _ _ => rfl) rfl rfl ?_
        exact yG.mono (yG.sub (i_102 (z1) (z18) (z21) (z26) (z27) (0)  hp A_hp   (by omega) (by omega) (by omega) (by omega) (by omega) (by omega) (by omega) (by omega) (by omega) (by omega) (by omega) (by omega) (by omega) (by omega) (by omega) (by omega) (by omega) (by omega) (by omega) (by omega) (by omega) (by omega) (by omega) (by omega) (by omega)) (ySub.cons rfl (ySub.cons rfl (ySub.cons rfl (ySub.cons rfl (ySub.cons rfl (ySub.cons rfl (ySub.cons rfl (ySub.cons rfl (ySub.cons rfl (ySub.nil))))))))))) (by omega)
    · have c4 : (p2 + z1 : Int) > z3 := c4
      refine yG.numl (c := 0) rfl (fun _ _ => rfl) (by decide) ?_
      refine yG.ret rfl (fun _ _ => rfl) ?_
      exact (yP.long ⟨by omega, by omega⟩ ⟨⟨0, rfl, by omega, by omega, trivial⟩, A_hp⟩)
theorem c_Big_divide {hp : xH} (W : bW G) (d : Nat) (hT : zTy G hp) {k0 : Nat} (H_k0 : bRo G 35 k0) {k1 : Nat} (H_k1 : bRo G 35 k1) {k2 : Nat} (H_k2 : bRo G 35 k2) : yC (xcall 89 xfts xpools xms (d + 3)) 53 [yR k0, yR k1, yR k2] hp (fun rv hp' => (rv = none ∧ True) ∧ bAx G [(34359738368, 1), (34359738368, 2), (68719476736, 256)] hp hp') := by
  have A_hp : bAx G [(34359738368, 1), (34359738368, 2), (68719476736, 256)] hp hp := bAx.rf hT
  obtain ⟨n_k0, N_k0⟩ : ∃ n : Int, n = ((zat G k0 : Nat) : Int) := ⟨_, rfl⟩
  have L_k0 := n_Big W H_k0
  obtain ⟨n_k1, N_k1⟩ : ∃ n : Int, n = ((zat G k1 : Nat) : Int) := ⟨_, rfl⟩
  have L_k1 := n_Big W H_k1
  obtain ⟨n_k2, N_k2⟩ : ∃ n : Int, n = ((zat G k2 : Nat) : Int) := ⟨_, rfl⟩
  have L_k2 := n_Big W H_k2
  have H : ∀ m : Nat, (∀ a3 : Int, ∀ a5 : Int, ∀ hq, bAx G [(34359738368, 1), (34359738368, 2), (68719476736, 256)] hp hq → 1 ≤ a3 → (-1073741824) ≤ 0 - a3 → (-1) ≤ a5 → (-95) ≤ 0 - a5 → 12 ≤ n_k0 → (-96) ≤ 0 - n_k0 → 12 ≤ n_k1 → (-96) ≤ 0 - n_k1 → 12 ≤ n_k2 → (-96) ≤ 0 - n_k2 → 1 ≤ 0 - a5 + n_k2 → 2 * a5 + 3 < (m : Int) → yG 89 xfts (xcall 89 xfts xpools xms (d + 2)) (xpool xp_RX0) [] xt_X0_divide (yP 0 (fun rv hp' => (rv = none ∧ True) ∧ bAx G [(34359738368, 1), (34359738368, 2), (68719476736, 256)] hp hp')) (57 * m) 117 [(0, yR k0), (1, yR k1), (2, yR k2), (3, yJ (a3)), (5, yI (a5))] [] hq) := by
    intro m
    induction m with
    | zero =>
      intros; exfalso; omega
    | succ m ih =>
      have i_117 := ih
      clear ih
      intro a3 a5 hq A_hq f0 f1 f2 f3 f4 f5 f6 f7 f8 f9 f10 hm
      refine yG.mono (N := 57 * m + 57) ?_ (by omega)
      refine yG.load xik rfl (fun _ _ => rfl) (v := yI (a5)) rfl rfl ?_
      refine yG.ifz rfl (t := 142) rfl ⟨by omega, by omega⟩ (fun c1 => ?_) (fun c1 => ?_)
      · have c1 : (a5 : Int) < 0 := c1
        refine yG.load xak rfl (fun _ _ => rfl) (v := yR k2) rfl rfl ?_
        refine yG.invV (rest := []) A_hq.1 (bOb (d_Big W) H_k2) rfl rfl rfl rfl (c_Big_trim W (d + 1) A_hq.1 H_k2) (fun rv h2 q9 => ?_)
        obtain ⟨⟨rfl, R_z3⟩, B_h2⟩ := q9
        have A_h2 := A_hq.tr B_h2 (by decide)
        show yG _ _ _ _ _ _ _ _ _ _ [] _
        refine yG.load xak rfl (fun _ _ => rfl) (v := yR k0) rfl rfl ?_
        refine yG.invV (rest := []) A_h2.1 (bOb (d_Big W) H_k0) rfl rfl rfl rfl (c_Big_trim W (d + 1) A_h2.1 H_k0) (fun rv h4 q9 => ?_)
        obtain ⟨⟨rfl, R_z5⟩, B_h4⟩ := q9
        have A_h4 := A_h2.tr B_h4 (by decide)
        show yG _ _ _ _ _ _ _ _ _ _ [] _
        refine yG.load xak rfl (fun _ _ => rfl) (v := yR k0) rfl rfl ?_
        refine yG.load xlk2 rfl (fun _ _ => rfl) (v := yJ (a3)) rfl rfl ?_
        refine yG.invV (rest := []) A_h4.1 (bOb (d_Big W) H_k0) rfl rfl rfl rfl (c_Big_shorten W d A_h4.1 H_k0 (a3) (by omega) (by omega)) (fun rv h6 q9 => ?_)
        obtain ⟨⟨z7, rfl, l_z7, u_z7, R_z7⟩, B_h6⟩ := q9
        have A_h6 := A_h4.tr B_h6 (by decide)
        show yG _ _ _ _ _ _ _ _ _ _ (yJ z7 :: []) _
        refine yG.step (pc' := 156) (stk' := []) rfl (fun _ _ => rfl) ?_
        refine yG.load xak rfl (fun _ _ => rfl) (v := yR k1) rfl rfl ?_
        refine yG.load xlk2 rfl (fun _ _ => rfl) (v := yJ (a3)) rfl rfl ?_
        refine yG.invV (rest := []) A_h6.1 (bOb (d_Big W) H_k1) rfl rfl rfl rfl (c_Big_shorten W d A_h6.1 H_k1 (a3) (by omega) (by omega)) (fun rv h8 q9 => ?_)
        obtain ⟨⟨z9, rfl, l_z9, u_z9, R_z9⟩, B_h8⟩ := q9
        have A_h8 := A_h6.tr B_h8 (by decide)
        show yG _ _ _ _ _ _ _ _ _ _ (yJ z9 :: []) _
        refine yG.step (pc' := 162) (stk' := []) rfl (fun _ _ => rfl) ?_
        refine yG.ret rfl (fun _ _ => rfl) ?_
        exact (yP.void ⟨⟨rfl, trivial⟩, A_h8⟩)
      · have c1 : (a5 : Int) ≥ 0 := c1
        refine yG.load xak rfl (fun _ _ => rfl) (v := yR k2) rfl rfl ?_
        refine yG.getO A_hq.1 (w_Big_limb W H_k2) rfl rfl (fun r10 H_r10 O_r10 q_r10 => ?_)
        have O_r10 := O_r10 rfl
        refine yG.load xik rfl (fun _ _ => rfl) (v := yI (a5)) rfl rfl ?_
        refine yG.load xak rfl (fun _ _ => rfl) (v := yR k0) rfl rfl ?_
        refine yG.load xak rfl (fun _ _ => rfl) (v := yR k1) rfl rfl ?_
        refine yG.load xik rfl (fun _ _ => rfl) (v := yI (a5)) rfl rfl ?_
        refine yG.invV (rest := [yI (a5), yR r10]) A_hq.1 (bOb (d_Big W) H_k0) rfl rfl rfl rfl (c_Big_takeOff W d A_hq.1 H_k0 H_k1 (a5) (by omega) (by omega)) (fun rv h11 q9 => ?_)
        obtain ⟨⟨z12, rfl, l_z12, u_z12, R_z12⟩, B_h11⟩ := q9
        have A_h11 := A_hq.tr B_h11 (by decide)
        show yG _ _ _ _ _ _ _ _ _ _ (yJ z12 :: [yI (a5), yR r10]) _
        refine yG.last A_h11.1 (v_Big_limb W H_r10) (W.2.1 _ _ H_r10 (by decide) (by decide)) rfl (by omega) (by omega) ⟨by omega, by omega⟩ (by omega) (by omega) (fun h13 T_h13 b_h13 f_h13 y_h13 => ?_)
        have A_h13 := A_h11.put T_h13 b_h13 f_h13 H_r10 (bAll_ok (by decide) _)
        refine yG.iinc rfl (a := a5) rfl (L' := [(5, yI (a5 + (-1))), (0, yR k0), (1, yR k1), (2, yR k2), (3, yJ (a3))]) rfl ?_
        refine yG.goto rfl (t := 117) rfl ?_
        exact yG.mono (yG.sub (i_117 (a3) (a5 + (-1))  h13 A_h13   (by omega) (by omega) (by omega) (by omega) (by omega) (by omega) (by omega) (by omega) (by omega) (by omega) (by omega) (by omega)) (ySub.cons rfl (ySub.cons rfl (ySub.cons rfl (ySub.cons rfl (ySub.cons rfl (ySub.nil))))))) (by omega)
  refine yC.of (M := (xt_X0_divide, (6, (0, (1, []))))) rfl rfl (N := 11172) (yfuel (by decide)) ?_
  show yG 89 xfts (xcall 89 xfts xpools xms (d + 2)) (xpool xp_RX0) [] xt_X0_divide (yP 0 (fun rv hp' => (rv = none ∧ True) ∧ bAx G [(34359738368, 1), (34359738368, 2), (68719476736, 256)] hp hp')) 11172 0 [(0, yR k0), (1, yR k1), (2, yR k2)] [] hp
  have i_117 := H 195
  refine yG.load xak rfl (fun _ _ => rfl) (v := yR k2) rfl rfl ?_
  refine yG.numl (c := 0) rfl (fun _ _ => rfl) (by decide) ?_
  refine yG.invV (rest := []) A_hp.1 (bOb (d_Big W) H_k2) rfl rfl rfl rfl (c_Big_put W d A_hp.1 H_k2 (0) (by omega) (by omega)) (fun rv h1 q9 => ?_)
  obtain ⟨⟨rfl, R_z2⟩, B_h1⟩ := q9
  have A_h1 := A_hp.tr B_h1 (by decide)
  show yG _ _ _ _ _ _ _ _ _ _ [] _
  refine yG.load xak rfl (fun _ _ => rfl) (v := yR k0) rfl rfl ?_
  refine yG.num (c := 0) rfl (fun _ _ => rfl) (by decide) ?_
  refine yG.putI A_h1.1 (w_Big_minus W H_k0) (W.2.1 _ _ H_k0 (by decide) (by decide)) rfl rfl (.inr ⟨rfl, rfl, rfl⟩) ⟨by omega, by omega⟩ (by omega) (by omega) (fun h3 T_h3 b_h3 f_h3 y_h3 => ?_)
  have A_h3 := A_h1.put T_h3 b_h3 f_h3 H_k0 (by decide)
  refine yG.load xak rfl (fun _ _ => rfl) (v := yR k1) rfl rfl ?_
  refine yG.getN A_h3.1 (w_Big_size W H_k1) rfl rfl (fun z4 e_z4 i_z4 l_z4 u_z4 => ?_)
  refine yG.ifz rfl (t := 25) rfl ⟨by omega, by omega⟩ (fun c5 => ?_) (fun c5 => ?_)
  · have c5 : (z4 : Int) = 0 := c5
    refine yG.ret rfl (fun _ _ => rfl) ?_
    exact (yP.void ⟨⟨rfl, trivial⟩, A_h3⟩)
  · have c5 : (z4 : Int) ≠ 0 := c5
    refine yG.load xak rfl (fun _ _ => rfl) (v := yR k0) rfl rfl ?_
    refine yG.load xak rfl (fun _ _ => rfl) (v := yR k1) rfl rfl ?_
    refine yG.invV (rest := []) A_h3.1 (bOb (d_Big W) H_k0) rfl rfl rfl rfl (c_Big_compareSize W (d + 1) A_h3.1 H_k0 H_k1) (fun rv hp9 q9 => ?_)
    obtain ⟨⟨z6, rfl, l_z6, u_z6, R_z6⟩, e9⟩ := q9
    rw [e9]
    show yG _ _ _ _ _ _ _ _ _ _ (yI z6 :: []) _
    refine yG.ifz rfl (t := 26) rfl ⟨by omega, by omega⟩ (fun c7 => ?_) (fun c7 => ?_)
    · have c7 : (z6 : Int) ≥ 0 := c7
      refine yG.load xak rfl (fun _ _ => rfl) (v := yR k1) rfl rfl ?_
      refine yG.getN A_h3.1 (w_Big_size W H_k1) rfl rfl (fun z8 e_z8 i_z8 l_z8 u_z8 => ?_)
      refine yG.num (c := 1) rfl (fun _ _ => rfl) (by decide) ?_
      refine yG.icmp rfl (t := 54) rfl ⟨by omega, by omega⟩ ⟨by omega, by omega⟩ (fun c9 => ?_) (fun c9 => ?_)
      · have c9 : (z8 : Int) ≠ 1 := c9
        refine yG.numl (c := 1073741824) rfl (fun _ _ => rfl) (by decide) ?_
        refine yG.load xak rfl (fun _ _ => rfl) (v := yR k1) rfl rfl ?_
        refine yG.getO A_h3.1 (w_Big_limb W H_k1) rfl rfl (fun r10 H_r10 O_r10 q_r10 => ?_)
        have O_r10 := O_r10 rfl
        refine yG.load xak rfl (fun _ _ => rfl) (v := yR k1) rfl rfl ?_
        refine yG.getN A_h3.1 (w_Big_size W H_k1) rfl rfl (fun z11 e_z11 i_z11 l_z11 u_z11 => ?_)
        refine yG.num (c := 1) rfl (fun _ _ => rfl) (by decide) ?_
        refine yG.isub rfl ?_
        refine yG.lald A_h3.1 (v_Big_limb W H_r10) rfl (by omega) (by omega) (fun z12 e_z12 i_z12 l_z12 u_z12 => ?_)
        refine yG.numl (c := 1) rfl (fun _ _ => rfl) (by decide) ?_
        refine yG.ladd rfl ?_
        refine yG.ldiv rfl ⟨by omega, by omega⟩ ⟨by omega, by omega⟩ (by omega) (by omega) ?_
        obtain ⟨z13, e_z13⟩ : ∃ z : Int, z = (1073741824) / (z12 + 1) := ⟨_, rfl⟩
        rw [← e_z13]
        have b_z13 : 0 ≤ z13 ∧ z13 ≤ 1073741824 := e_z13 ▸ ⟨Int.ediv_nonneg (by omega) (by omega), Int.ediv_le_self _ (by omega)⟩
        have g_z13 : 1 ≤ z13 := e_z13 ▸ bdivge (by omega) (by omega)
        refine yG.store2 xlk2 (L' := [(3, yJ (z13)), (0, yR k0), (1, yR k1), (2, yR k2)]) rfl (fun _ _ => rfl) rfl rfl ?_
        refine yG.load xak rfl (fun _ _ => rfl) (v := yR k0) rfl rfl ?_
        refine yG.load xlk2 rfl (fun _ _ => rfl) (v := yJ (z13)) rfl rfl ?_
        refine yG.invV (rest := []) A_h3.1 (bOb (d_Big W) H_k0) rfl rfl rfl rfl (c_Big_scale W d A_h3.1 H_k0 (z13) (by omega) (by omega)) (fun rv h14 q9 => ?_)
        obtain ⟨⟨rfl, R_z15⟩, B_h14⟩ := q9
        have A_h14 := A_h3.tr B_h14 (by decide)
        show yG _ _ _ _ _ _ _ _ _ _ [] _
        refine yG.load xak rfl (fun _ _ => rfl) (v := yR k1) rfl rfl ?_
        refine yG.load xlk2 rfl (fun _ _ => rfl) (v := yJ (z13)) rfl rfl ?_
        refine yG.invV (rest := []) A_h14.1 (bOb (d_Big W) H_k1) rfl rfl rfl rfl (c_Big_scale W d A_h14.1 H_k1 (z13) (by omega) (by omega)) (fun rv h16 q9 => ?_)
        obtain ⟨⟨rfl, R_z17⟩, B_h16⟩ := q9
        have A_h16 := A_h14.tr B_h16 (by decide)
        show yG _ _ _ _ _ _ _ _ _ _ [] _
        refine yG.load xak rfl (fun _ _ => rfl) (v := yR k2) rfl rfl ?_
        refine yG.num (c := 0) rfl (fun _ _ => rfl) (by decide) ?_
        refine yG.load xak rfl (fun _ _ => rfl) (v := yR k0) rfl rfl ?_
        refine yG.getN A_h16.1 (w_Big_size W H_k0) rfl rfl (fun z18 e_z18 i_z18 l_z18 u_z18 => ?_)
        refine yG.load xak rfl (fun _ _ => rfl) (v := yR k1) rfl rfl ?_
        refine yG.getN A_h16.1 (w_Big_size W H_k1) rfl rfl (fun z19 e_z19 i_z19 l_z19 u_z19 => ?_)
        refine yG.isub rfl ?_
        refine yG.num (c := 1) rfl (fun _ _ => rfl) (by decide) ?_
        refine yG.iadd rfl ?_
        refine yG.load xak rfl (fun _ _ => rfl) (v := yR k2) rfl rfl ?_
        refine yG.getO A_h16.1 (w_Big_limb W H_k2) rfl rfl (fun r20 H_r20 O_r20 q_r20 => ?_)
        have O_r20 := O_r20 rfl
        refine yG.alenF A_h16.1 (v_Big_limb W H_r20).yIF rfl ?_
        obtain ⟨z21, e_z21⟩ : ∃ z : Int, z = ((zat G r20 : Nat) : Int) := ⟨_, rfl⟩
        rw [← e_z21]
        refine yG.invS (rest := [yI (0), yR k2]) rfl rfl rfl rfl (c_J9_minI W (d + 1) A_h16.1 ((z18 - z19) + 1) (z21) (by omega) (by omega) (by omega) (by omega)) (fun rv hp9 q9 => ?_)
        obtain ⟨⟨z22, rfl, l_z22, u_z22, R_z22⟩, e9⟩ := q9
        rw [e9]
        show yG _ _ _ _ _ _ _ _ _ _ (yI z22 :: [yI (0), yR k2]) _
        refine yG.invS (rest := [yR k2]) rfl rfl rfl rfl (c_J9_maxI W (d + 1) A_h16.1 (0) (z22) (by omega) (by omega) (by omega) (by omega)) (fun rv hp9 q9 => ?_)
        obtain ⟨⟨z23, rfl, l_z23, u_z23, R_z23⟩, e9⟩ := q9
        rw [e9]
        show yG _ _ _ _ _ _ _ _ _ _ (yI z23 :: [yR k2]) _
        refine yG.putN A_h16.1 (w_Big_size W H_k2) (W.2.1 _ _ H_k2 (by decide) (by decide)) rfl rfl rfl ⟨by omega, by omega⟩ (by omega) (by omega) (fun h24 T_h24 b_h24 f_h24 y_h24 => ?_)
        have A_h24 := A_h16.put T_h24 b_h24 f_h24 H_k2 (by decide)
        have : ys h24 k2 1 = z23 := (y_h24 k2 1).trans (if_pos ⟨rfl, rfl⟩)
        refine yG.load xak rfl (fun _ _ => rfl) (v := yR k2) rfl rfl ?_
        refine yG.getN A_h24.1 (w_Big_size W H_k2) rfl rfl (fun z25 e_z25 i_z25 l_z25 u_z25 => ?_)
        refine yG.num (c := 1) rfl (fun _ _ => rfl) (by decide) ?_
        refine yG.isub rfl ?_
        obtain ⟨z26, e_z26⟩ : ∃ z : Int, z = z25 - 1 := ⟨_, rfl⟩
        rw [← e_z26]
        refine yG.store1 xik (L' := [(5, yI (z26)), (3, yJ (z13)), (0, yR k0), (1, yR k1), (2, yR k2)]) rfl (fun _ _ => rfl) rfl rfl ?_
        exact yG.mono (yG.sub (i_117 (z13) (z26)  h24 A_h24   (by omega) (by omega) (by omega) (by omega) (by omega) (by omega) (by omega) (by omega) (by omega) (by omega) (by omega) (by omega)) (ySub.cons rfl (ySub.cons rfl (ySub.cons rfl (ySub.cons rfl (ySub.cons rfl (ySub.nil))))))) (by omega)
      · have c9 : (z8 : Int) = 1 := c9
        refine yG.load xak rfl (fun _ _ => rfl) (v := yR k2) rfl rfl ?_
        refine yG.load xak rfl (fun _ _ => rfl) (v := yR k0) rfl rfl ?_
        refine yG.invV (rest := []) A_h3.1 (bOb (d_Big W) H_k2) rfl rfl rfl rfl (c_Big_copy W d A_h3.1 H_k2 H_k0) (fun rv h27 q9 => ?_)
        obtain ⟨⟨rfl, R_z28⟩, B_h27⟩ := q9
        have A_h27 := A_h3.tr B_h27 (by decide)
        show yG _ _ _ _ _ _ _ _ _ _ [] _
        refine yG.load xak rfl (fun _ _ => rfl) (v := yR k0) rfl rfl ?_
        refine yG.load xak rfl (fun _ _ => rfl) (v := yR k2) rfl rfl ?_
        refine yG.load xak rfl (fun _ _ => rfl) (v := yR k1) rfl rfl ?_
        refine yG.getO A_h27.1 (w_Big_limb W H_k1) rfl rfl (fun r29 H_r29 O_r29 q_r29 => ?_)
        have O_r29 := O_r29 rfl
        refine yG.num (c := 0) rfl (fun _ _ => rfl) (by decide) ?_
        refine yG.lald A_h27.1 (v_Big_limb W H_r29) rfl (by omega) (by omega) (fun z30 e_z30 i_z30 l_z30 u_z30 => ?_)
        rcases (show z30 ≤ 0 ∨ 1 ≤ z30 by omega) with d31 | d31
        · skip
          refine yG.invV (rest := [yR k0]) A_h27.1 (bOb (d_Big W) H_k2) rfl rfl rfl rfl (c_Big_shorten_none W d A_h27.1 H_k2 (z30) (by omega) (by omega)) (fun rv h32 q9 => ?_)
          obtain ⟨⟨z33, rfl, l_z33, u_z33, R_z33⟩, B_h32⟩ := q9
          have A_h32 := A_h27.tr B_h32 (by decide)
          show yG _ _ _ _ _ _ _ _ _ _ (yJ z33 :: [yR k0]) _
          refine yG.invV (rest := []) A_h32.1 (bOb (d_Big W) H_k0) rfl rfl rfl rfl (c_Big_put W d A_h32.1 H_k0 (z33) (by omega) (by omega)) (fun rv h34 q9 => ?_)
          obtain ⟨⟨rfl, R_z35⟩, B_h34⟩ := q9
          have A_h34 := A_h32.tr B_h34 (by decide)
          show yG _ _ _ _ _ _ _ _ _ _ [] _
          refine yG.ret rfl (fun _ _ => rfl) ?_
          exact (yP.void ⟨⟨rfl, trivial⟩, A_h34⟩)
        · skip
          refine yG.invV (rest := [yR k0]) A_h27.1 (bOb (d_Big W) H_k2) rfl rfl rfl rfl (c_Big_shorten W d A_h27.1 H_k2 (z30) (by omega) (by omega)) (fun rv h36 q9 => ?_)
          obtain ⟨⟨z37, rfl, l_z37, u_z37, R_z37⟩, B_h36⟩ := q9
          have A_h36 := A_h27.tr B_h36 (by decide)
          show yG _ _ _ _ _ _ _ _ _ _ (yJ z37 :: [yR k0]) _
          refine yG.invV (rest := []) A_h36.1 (bOb (d_Big W) H_k0) rfl rfl rfl rfl (c_Big_put W d A_h36.1 H_k0 (z37) (by omega) (by omega)) (fun rv h38 q9 => ?_)
          obtain ⟨⟨rfl, R_z39⟩, B_h38⟩ := q9
          have A_h38 := A_h36.tr B_h38 (by decide)
          show yG _ _ _ _ _ _ _ _ _ _ [] _
          refine yG.ret rfl (fun _ _ => rfl) ?_
          exact (yP.void ⟨⟨rfl, trivial⟩, A_h38⟩)
    · have c7 : (z6 : Int) < 0 := c7
      refine yG.ret rfl (fun _ _ => rfl) ?_
      exact (yP.void ⟨⟨rfl, trivial⟩, A_h3⟩)
end BBig
