/-! ===== the reference: plain methods, printed by a program ===== -/
section MSimple
variable {G : zW}
theorem c_GModel_in {hp : xH} (W : mW G) (d : Nat) (hT : zTy G hp) (p0 p2 p4 : Int) (h0l : (-9223372036854775808) ≤ p0) (h0u : p0 ≤ 9223372036854775807) (h2l : (-9223372036854775808) ≤ p2) (h2u : p2 ≤ 9223372036854775807) (h4l : (-9223372036854775808) ≤ p4) (h4u : p4 ≤ 9223372036854775807) : yC (xcall 89 xfts xpools xms (d + 1)) 416 [yJ (p0), yJ (p2), yJ (p4)] hp (bQpi hp 0 1 (fun z => (z = 1 → 0 ≤ p0 - p2 ∧ 0 ≤ 0 - p0 + p4))) := by
  have A_hp : bAx G [] hp hp := bAx.rf hT
  refine yC.of (M := (xt_X13_in, (6, (4, (14, []))))) rfl rfl (N := 39) (yfuel (by decide)) ?_
  show yG 89 xfts (xcall 89 xfts xpools xms d) (xpool xp_RX13) [] xt_X13_in (yP 4 (bQpi hp 0 1 (fun z => (z = 1 → 0 ≤ p0 - p2 ∧ 0 ≤ 0 - p0 + p4)))) 39 0 [(0, yJ (p0)), (2, yJ (p2)), (4, yJ (p4))] [] hp
  refine yG.load xlk2 rfl (fun _ _ => rfl) (v := yJ (p0)) rfl rfl ?_
  refine yG.load xlk2 rfl (fun _ _ => rfl) (v := yJ (p2)) rfl rfl ?_
  refine yG.lcmp rfl ⟨by omega, by omega⟩ ⟨by omega, by omega⟩ (fun z1 e_z1 => ?_)
  refine yG.ifz rfl (t := 17) rfl ⟨by omega, by omega⟩ (fun c2 => ?_) (fun c2 => ?_)
  · have c2 : (z1 : Int) < 0 := c2
    refine yG.num (c := 0) rfl (fun _ _ => rfl) (by decide) ?_
    refine yG.ret rfl (fun _ _ => rfl) ?_
    exact (yP.bool (by omega) ⟨⟨0, rfl, by omega, by omega, by omega⟩, rfl⟩)
  · have c2 : (z1 : Int) ≥ 0 := c2
    refine yG.load xlk2 rfl (fun _ _ => rfl) (v := yJ (p0)) rfl rfl ?_
    refine yG.load xlk2 rfl (fun _ _ => rfl) (v := yJ (p4)) rfl rfl ?_
    refine yG.lcmp rfl ⟨by omega, by omega⟩ ⟨by omega, by omega⟩ (fun z3 e_z3 => ?_)
    refine yG.ifz rfl (t := 17) rfl ⟨by omega, by omega⟩ (fun c4 => ?_) (fun c4 => ?_)
    · have c4 : (z3 : Int) > 0 := c4
      refine yG.num (c := 0) rfl (fun _ _ => rfl) (by decide) ?_
      refine yG.ret rfl (fun _ _ => rfl) ?_
      exact (yP.bool (by omega) ⟨⟨0, rfl, by omega, by omega, by omega⟩, rfl⟩)
    · have c4 : (z3 : Int) ≤ 0 := c4
      refine yG.num (c := 1) rfl (fun _ _ => rfl) (by decide) ?_
      refine yG.goto rfl (t := 18) rfl ?_
      refine yG.ret rfl (fun _ _ => rfl) ?_
      exact (yP.bool (by omega) ⟨⟨1, rfl, by omega, by omega, by omega⟩, rfl⟩)
theorem c_GModel_f {hp : xH} (W : mW G) (d : Nat) (hT : zTy G hp) (p0 p1 p2 : Int) (h0l : 0 ≤ p0) (h0u : p0 ≤ 4) (h1l : 0 ≤ p1) (h1u : p1 ≤ 23) (h2l : 0 ≤ p2) (h2u : p2 ≤ 10) : yC (xcall 89 xfts xpools xms (d + 1)) 395 [yI (p0), yI (p1), yI (p2)] hp (bQpi hp 0 1319 (fun z => 0 ≤ 0 - p0 + z ∧ 0 ≤ p0 - z + 1315 ∧ 0 ≤ 0 - p1 + z ∧ 0 ≤ p1 - z + 1296 ∧ 0 ≤ 0 - p2 + z ∧ 0 ≤ p2 - z + 1309 ∧ 0 ≤ 0 - 264 * p0 - 11 * p1 - p2 + z ∧ 0 ≤ 264 * p0 + 11 * p1 + p2 - z)) := by
  have A_hp : bAx G [] hp hp := bAx.rf hT
  refine yC.of (M := (xt_X13_f, (3, (1, (14, []))))) rfl rfl (N := 36) (yfuel (by decide)) ?_
  show yG 89 xfts (xcall 89 xfts xpools xms d) (xpool xp_RX13) [] xt_X13_f (yP 1 (bQpi hp 0 1319 (fun z => 0 ≤ 0 - p0 + z ∧ 0 ≤ p0 - z + 1315 ∧ 0 ≤ 0 - p1 + z ∧ 0 ≤ p1 - z + 1296 ∧ 0 ≤ 0 - p2 + z ∧ 0 ≤ p2 - z + 1309 ∧ 0 ≤ 0 - 264 * p0 - 11 * p1 - p2 + z ∧ 0 ≤ 264 * p0 + 11 * p1 + p2 - z))) 36 0 [(0, yI (p0)), (1, yI (p1)), (2, yI (p2))] [] hp
  refine yG.num (c := 264) rfl (fun _ _ => rfl) (by decide) ?_
  refine yG.load xik rfl (fun _ _ => rfl) (v := yI (p0)) rfl rfl ?_
  refine yG.imul rfl ?_
  refine yG.num (c := 11) rfl (fun _ _ => rfl) (by decide) ?_
  refine yG.load xik rfl (fun _ _ => rfl) (v := yI (p1)) rfl rfl ?_
  refine yG.imul rfl ?_
  refine yG.iadd rfl ?_
  refine yG.load xik rfl (fun _ _ => rfl) (v := yI (p2)) rfl rfl ?_
  refine yG.iadd rfl ?_
  refine yG.ret rfl (fun _ _ => rfl) ?_
  exact (yP.int ⟨by omega, by omega⟩ ⟨⟨((264 * p0) + (11 * p1)) + p2, rfl, by omega, by omega, by omega⟩, rfl⟩)
theorem c_GModel_isLetter {hp : xH} (W : mW G) (d : Nat) (hT : zTy G hp) (p0 : Int) (h0l : (-2147483648) ≤ p0) (h0u : p0 ≤ 2147483647) : yC (xcall 89 xfts xpools xms (d + 1)) 429 [yI (p0)] hp (bQpi hp 0 1 (fun z => (z = 1 → 0 ≤ p0 - 97 ∧ 0 ≤ 0 - p0 + 122))) := by
  have A_hp : bAx G [] hp hp := bAx.rf hT
  refine yC.of (M := (xt_X13_isLetter, (1, (4, (14, []))))) rfl rfl (N := 33) (yfuel (by decide)) ?_
  show yG 89 xfts (xcall 89 xfts xpools xms d) (xpool xp_RX13) [] xt_X13_isLetter (yP 4 (bQpi hp 0 1 (fun z => (z = 1 → 0 ≤ p0 - 97 ∧ 0 ≤ 0 - p0 + 122)))) 33 0 [(0, yI (p0))] [] hp
  refine yG.load xik rfl (fun _ _ => rfl) (v := yI (p0)) rfl rfl ?_
  refine yG.num (c := 97) rfl (fun _ _ => rfl) (by decide) ?_
  refine yG.icmp rfl (t := 16) rfl ⟨by omega, by omega⟩ ⟨by omega, by omega⟩ (fun c1 => ?_) (fun c1 => ?_)
  · have c1 : (p0 : Int) < 97 := c1
    refine yG.num (c := 0) rfl (fun _ _ => rfl) (by decide) ?_
    refine yG.ret rfl (fun _ _ => rfl) ?_
    exact (yP.bool (by omega) ⟨⟨0, rfl, by omega, by omega, by omega⟩, rfl⟩)
  · have c1 : (p0 : Int) ≥ 97 := c1
    refine yG.load xik rfl (fun _ _ => rfl) (v := yI (p0)) rfl rfl ?_
    refine yG.num (c := 122) rfl (fun _ _ => rfl) (by decide) ?_
    refine yG.icmp rfl (t := 16) rfl ⟨by omega, by omega⟩ ⟨by omega, by omega⟩ (fun c2 => ?_) (fun c2 => ?_)
    · have c2 : (p0 : Int) > 122 := c2
      refine yG.num (c := 0) rfl (fun _ _ => rfl) (by decide) ?_
      refine yG.ret rfl (fun _ _ => rfl) ?_
      exact (yP.bool (by omega) ⟨⟨0, rfl, by omega, by omega, by omega⟩, rfl⟩)
    · have c2 : (p0 : Int) ≤ 122 := c2
      refine yG.num (c := 1) rfl (fun _ _ => rfl) (by decide) ?_
      refine yG.goto rfl (t := 17) rfl ?_
      refine yG.ret rfl (fun _ _ => rfl) ?_
      exact (yP.bool (by omega) ⟨⟨1, rfl, by omega, by omega, by omega⟩, rfl⟩)
theorem c_GModel_isFigure {hp : xH} (W : mW G) (d : Nat) (hT : zTy G hp) (p0 : Int) (h0l : (-2147483648) ≤ p0) (h0u : p0 ≤ 2147483647) : yC (xcall 89 xfts xpools xms (d + 1)) 427 [yI (p0)] hp (bQpi hp 0 1 (fun z => (z = 1 → 0 ≤ p0 - 48 ∧ 0 ≤ 0 - p0 + 57))) := by
  have A_hp : bAx G [] hp hp := bAx.rf hT
  refine yC.of (M := (xt_X13_isFigure, (1, (4, (14, []))))) rfl rfl (N := 33) (yfuel (by decide)) ?_
  show yG 89 xfts (xcall 89 xfts xpools xms d) (xpool xp_RX13) [] xt_X13_isFigure (yP 4 (bQpi hp 0 1 (fun z => (z = 1 → 0 ≤ p0 - 48 ∧ 0 ≤ 0 - p0 + 57)))) 33 0 [(0, yI (p0))] [] hp
  refine yG.load xik rfl (fun _ _ => rfl) (v := yI (p0)) rfl rfl ?_
  refine yG.num (c := 48) rfl (fun _ _ => rfl) (by decide) ?_
  refine yG.icmp rfl (t := 16) rfl ⟨by omega, by omega⟩ ⟨by omega, by omega⟩ (fun c1 => ?_) (fun c1 => ?_)
  · have c1 : (p0 : Int) < 48 := c1
    refine yG.num (c := 0) rfl (fun _ _ => rfl) (by decide) ?_
    refine yG.ret rfl (fun _ _ => rfl) ?_
    exact (yP.bool (by omega) ⟨⟨0, rfl, by omega, by omega, by omega⟩, rfl⟩)
  · have c1 : (p0 : Int) ≥ 48 := c1
    refine yG.load xik rfl (fun _ _ => rfl) (v := yI (p0)) rfl rfl ?_
    refine yG.num (c := 57) rfl (fun _ _ => rfl) (by decide) ?_
    refine yG.icmp rfl (t := 16) rfl ⟨by omega, by omega⟩ ⟨by omega, by omega⟩ (fun c2 => ?_) (fun c2 => ?_)
    · have c2 : (p0 : Int) > 57 := c2
      refine yG.num (c := 0) rfl (fun _ _ => rfl) (by decide) ?_
      refine yG.ret rfl (fun _ _ => rfl) ?_
      exact (yP.bool (by omega) ⟨⟨0, rfl, by omega, by omega, by omega⟩, rfl⟩)
    · have c2 : (p0 : Int) ≤ 57 := c2
      refine yG.num (c := 1) rfl (fun _ _ => rfl) (by decide) ?_
      refine yG.goto rfl (t := 17) rfl ?_
      refine yG.ret rfl (fun _ _ => rfl) ?_
      exact (yP.bool (by omega) ⟨⟨1, rfl, by omega, by omega, by omega⟩, rfl⟩)
theorem c_GModel_most {hp : xH} (W : mW G) (d : Nat) (hT : zTy G hp) (p0 : Int) (h0l : (-2147483648) ≤ p0) (h0u : p0 ≤ 2147483647) : yC (xcall 89 xfts xpools xms (d + 1)) 458 [yI (p0)] hp (bQpi hp 6 24 (fun z => 0 ≤ 0 - p0 + z + 2147483635 ∧ 0 ≤ p0 - z + 2147483660)) := by
  have A_hp : bAx G [] hp hp := bAx.rf hT
  refine yC.of (M := (xt_X13_most, (1, (1, (14, []))))) rfl rfl (N := 48) (yfuel (by decide)) ?_
  show yG 89 xfts (xcall 89 xfts xpools xms d) (xpool xp_RX13) [] xt_X13_most (yP 1 (bQpi hp 6 24 (fun z => 0 ≤ 0 - p0 + z + 2147483635 ∧ 0 ≤ p0 - z + 2147483660))) 48 0 [(0, yI (p0))] [] hp
  refine yG.load xik rfl (fun _ _ => rfl) (v := yI (p0)) rfl rfl ?_
  refine yG.ifz rfl (t := 9) rfl ⟨by omega, by omega⟩ (fun c1 => ?_) (fun c1 => ?_)
  · have c1 : (p0 : Int) ≠ 0 := c1
    refine yG.load xik rfl (fun _ _ => rfl) (v := yI (p0)) rfl rfl ?_
    refine yG.num (c := 1) rfl (fun _ _ => rfl) (by decide) ?_
    refine yG.icmp rfl (t := 19) rfl ⟨by omega, by omega⟩ ⟨by omega, by omega⟩ (fun c2 => ?_) (fun c2 => ?_)
    · have c2 : (p0 : Int) ≠ 1 := c2
      refine yG.load xik rfl (fun _ _ => rfl) (v := yI (p0)) rfl rfl ?_
      refine yG.num (c := 2) rfl (fun _ _ => rfl) (by decide) ?_
      refine yG.icmp rfl (t := 29) rfl ⟨by omega, by omega⟩ ⟨by omega, by omega⟩ (fun c3 => ?_) (fun c3 => ?_)
      · have c3 : (p0 : Int) ≠ 2 := c3
        refine yG.load xik rfl (fun _ _ => rfl) (v := yI (p0)) rfl rfl ?_
        refine yG.num (c := 3) rfl (fun _ _ => rfl) (by decide) ?_
        refine yG.icmp rfl (t := 39) rfl ⟨by omega, by omega⟩ ⟨by omega, by omega⟩ (fun c4 => ?_) (fun c4 => ?_)
        · have c4 : (p0 : Int) ≠ 3 := c4
          refine yG.num (c := 12) rfl (fun _ _ => rfl) (by decide) ?_
          refine yG.ret rfl (fun _ _ => rfl) ?_
          exact (yP.int ⟨by omega, by omega⟩ ⟨⟨12, rfl, by omega, by omega, by omega⟩, rfl⟩)
        · have c4 : (p0 : Int) = 3 := c4
          refine yG.num (c := 6) rfl (fun _ _ => rfl) (by decide) ?_
          refine yG.goto rfl (t := 41) rfl ?_
          refine yG.ret rfl (fun _ _ => rfl) ?_
          exact (yP.int ⟨by omega, by omega⟩ ⟨⟨6, rfl, by omega, by omega, by omega⟩, rfl⟩)
      · have c3 : (p0 : Int) = 2 := c3
        refine yG.num (c := 20) rfl (fun _ _ => rfl) (by decide) ?_
        refine yG.goto rfl (t := 41) rfl ?_
        refine yG.ret rfl (fun _ _ => rfl) ?_
        exact (yP.int ⟨by omega, by omega⟩ ⟨⟨20, rfl, by omega, by omega, by omega⟩, rfl⟩)
    · have c2 : (p0 : Int) = 1 := c2
      refine yG.num (c := 24) rfl (fun _ _ => rfl) (by decide) ?_
      refine yG.goto rfl (t := 41) rfl ?_
      refine yG.ret rfl (fun _ _ => rfl) ?_
      exact (yP.int ⟨by omega, by omega⟩ ⟨⟨24, rfl, by omega, by omega, by omega⟩, rfl⟩)
  · have c1 : (p0 : Int) = 0 := c1
    refine yG.num (c := 16) rfl (fun _ _ => rfl) (by decide) ?_
    refine yG.goto rfl (t := 41) rfl ?_
    refine yG.ret rfl (fun _ _ => rfl) ?_
    exact (yP.int ⟨by omega, by omega⟩ ⟨⟨16, rfl, by omega, by omega, by omega⟩, rfl⟩)
theorem c_GModel_fields {hp : xH} (W : mW G) (d : Nat) (hT : zTy G hp) (p0 : Int) (h0l : (-2147483648) ≤ p0) (h0u : p0 ≤ 2147483647) : yC (xcall 89 xfts xpools xms (d + 1)) 399 [yI (p0)] hp (bQpi hp 1 11 (fun z => 0 ≤ 0 - p0 + z + 2147483645 ∧ 0 ≤ p0 - z + 2147483650)) := by
  have A_hp : bAx G [] hp hp := bAx.rf hT
  refine yC.of (M := (xt_X13_fields, (1, (1, (14, []))))) rfl rfl (N := 48) (yfuel (by decide)) ?_
  show yG 89 xfts (xcall 89 xfts xpools xms d) (xpool xp_RX13) [] xt_X13_fields (yP 1 (bQpi hp 1 11 (fun z => 0 ≤ 0 - p0 + z + 2147483645 ∧ 0 ≤ p0 - z + 2147483650))) 48 0 [(0, yI (p0))] [] hp
  refine yG.load xik rfl (fun _ _ => rfl) (v := yI (p0)) rfl rfl ?_
  refine yG.ifz rfl (t := 8) rfl ⟨by omega, by omega⟩ (fun c1 => ?_) (fun c1 => ?_)
  · have c1 : (p0 : Int) ≠ 0 := c1
    refine yG.load xik rfl (fun _ _ => rfl) (v := yI (p0)) rfl rfl ?_
    refine yG.num (c := 1) rfl (fun _ _ => rfl) (by decide) ?_
    refine yG.icmp rfl (t := 17) rfl ⟨by omega, by omega⟩ ⟨by omega, by omega⟩ (fun c2 => ?_) (fun c2 => ?_)
    · have c2 : (p0 : Int) ≠ 1 := c2
      refine yG.load xik rfl (fun _ _ => rfl) (v := yI (p0)) rfl rfl ?_
      refine yG.num (c := 2) rfl (fun _ _ => rfl) (by decide) ?_
      refine yG.icmp rfl (t := 27) rfl ⟨by omega, by omega⟩ ⟨by omega, by omega⟩ (fun c3 => ?_) (fun c3 => ?_)
      · have c3 : (p0 : Int) ≠ 2 := c3
        refine yG.load xik rfl (fun _ _ => rfl) (v := yI (p0)) rfl rfl ?_
        refine yG.num (c := 3) rfl (fun _ _ => rfl) (by decide) ?_
        refine yG.icmp rfl (t := 37) rfl ⟨by omega, by omega⟩ ⟨by omega, by omega⟩ (fun c4 => ?_) (fun c4 => ?_)
        · have c4 : (p0 : Int) ≠ 3 := c4
          refine yG.num (c := 2) rfl (fun _ _ => rfl) (by decide) ?_
          refine yG.ret rfl (fun _ _ => rfl) ?_
          exact (yP.int ⟨by omega, by omega⟩ ⟨⟨2, rfl, by omega, by omega, by omega⟩, rfl⟩)
        · have c4 : (p0 : Int) = 3 := c4
          refine yG.num (c := 11) rfl (fun _ _ => rfl) (by decide) ?_
          refine yG.goto rfl (t := 38) rfl ?_
          refine yG.ret rfl (fun _ _ => rfl) ?_
          exact (yP.int ⟨by omega, by omega⟩ ⟨⟨11, rfl, by omega, by omega, by omega⟩, rfl⟩)
      · have c3 : (p0 : Int) = 2 := c3
        refine yG.num (c := 6) rfl (fun _ _ => rfl) (by decide) ?_
        refine yG.goto rfl (t := 38) rfl ?_
        refine yG.ret rfl (fun _ _ => rfl) ?_
        exact (yP.int ⟨by omega, by omega⟩ ⟨⟨6, rfl, by omega, by omega, by omega⟩, rfl⟩)
    · have c2 : (p0 : Int) = 1 := c2
      refine yG.num (c := 5) rfl (fun _ _ => rfl) (by decide) ?_
      refine yG.goto rfl (t := 38) rfl ?_
      refine yG.ret rfl (fun _ _ => rfl) ?_
      exact (yP.int ⟨by omega, by omega⟩ ⟨⟨5, rfl, by omega, by omega, by omega⟩, rfl⟩)
  · have c1 : (p0 : Int) = 0 := c1
    refine yG.num (c := 1) rfl (fun _ _ => rfl) (by decide) ?_
    refine yG.goto rfl (t := 38) rfl ?_
    refine yG.ret rfl (fun _ _ => rfl) ?_
    exact (yP.int ⟨by omega, by omega⟩ ⟨⟨1, rfl, by omega, by omega, by omega⟩, rfl⟩)
theorem c_GModel_isOfBar {hp : xH} (W : mW G) (d : Nat) (hT : zTy G hp) (p0 : Int) (h0l : (-2147483648) ≤ p0) (h0u : p0 ≤ 2147483647) : yC (xcall 89 xfts xpools xms (d + 1)) 434 [yI (p0)] hp (bQpi hp 0 1 (fun z => (z = 1 → 0 ≤ p0 - 2 ∧ 0 ≤ 0 - p0 + 3))) := by
  have A_hp : bAx G [] hp hp := bAx.rf hT
  refine yC.of (M := (xt_X13_isOfBar, (1, (4, (14, []))))) rfl rfl (N := 33) (yfuel (by decide)) ?_
  show yG 89 xfts (xcall 89 xfts xpools xms d) (xpool xp_RX13) [] xt_X13_isOfBar (yP 4 (bQpi hp 0 1 (fun z => (z = 1 → 0 ≤ p0 - 2 ∧ 0 ≤ 0 - p0 + 3)))) 33 0 [(0, yI (p0))] [] hp
  refine yG.load xik rfl (fun _ _ => rfl) (v := yI (p0)) rfl rfl ?_
  refine yG.num (c := 2) rfl (fun _ _ => rfl) (by decide) ?_
  refine yG.icmp rfl (t := 10) rfl ⟨by omega, by omega⟩ ⟨by omega, by omega⟩ (fun c1 => ?_) (fun c1 => ?_)
  · have c1 : (p0 : Int) = 2 := c1
    refine yG.num (c := 1) rfl (fun _ _ => rfl) (by decide) ?_
    refine yG.goto rfl (t := 15) rfl ?_
    refine yG.ret rfl (fun _ _ => rfl) ?_
    exact (yP.bool (by omega) ⟨⟨1, rfl, by omega, by omega, by omega⟩, rfl⟩)
  · have c1 : (p0 : Int) ≠ 2 := c1
    refine yG.load xik rfl (fun _ _ => rfl) (v := yI (p0)) rfl rfl ?_
    refine yG.num (c := 3) rfl (fun _ _ => rfl) (by decide) ?_
    refine yG.icmp rfl (t := 14) rfl ⟨by omega, by omega⟩ ⟨by omega, by omega⟩ (fun c2 => ?_) (fun c2 => ?_)
    · have c2 : (p0 : Int) ≠ 3 := c2
      refine yG.num (c := 0) rfl (fun _ _ => rfl) (by decide) ?_
      refine yG.ret rfl (fun _ _ => rfl) ?_
      exact (yP.bool (by omega) ⟨⟨0, rfl, by omega, by omega, by omega⟩, rfl⟩)
    · have c2 : (p0 : Int) = 3 := c2
      refine yG.num (c := 1) rfl (fun _ _ => rfl) (by decide) ?_
      refine yG.goto rfl (t := 15) rfl ?_
      refine yG.ret rfl (fun _ _ => rfl) ?_
      exact (yP.bool (by omega) ⟨⟨1, rfl, by omega, by omega, by omega⟩, rfl⟩)
theorem c_GModel_valueOf {hp : xH} (W : mW G) (d : Nat) (hT : zTy G hp) (p0 : Int) (h0l : (-2147483648) ≤ p0) (h0u : p0 ≤ 2147483647) : yC (xcall 89 xfts xpools xms (d + 1)) 538 [yI (p0)] hp (bQpi hp 0 1 (fun z => 0 ≤ p0 - z + 2147483648)) := by
  have A_hp : bAx G [] hp hp := bAx.rf hT
  refine yC.of (M := (xt_X13_valueOf, (1, (1, (14, []))))) rfl rfl (N := 42) (yfuel (by decide)) ?_
  show yG 89 xfts (xcall 89 xfts xpools xms d) (xpool xp_RX13) [] xt_X13_valueOf (yP 1 (bQpi hp 0 1 (fun z => 0 ≤ p0 - z + 2147483648))) 42 0 [(0, yI (p0))] [] hp
  refine yG.load xik rfl (fun _ _ => rfl) (v := yI (p0)) rfl rfl ?_
  refine yG.num (c := 1) rfl (fun _ _ => rfl) (by decide) ?_
  refine yG.icmp rfl (t := 15) rfl ⟨by omega, by omega⟩ ⟨by omega, by omega⟩ (fun c1 => ?_) (fun c1 => ?_)
  · have c1 : (p0 : Int) = 1 := c1
    refine yG.num (c := 1) rfl (fun _ _ => rfl) (by decide) ?_
    refine yG.goto rfl (t := 20) rfl ?_
    refine yG.ret rfl (fun _ _ => rfl) ?_
    exact (yP.int ⟨by omega, by omega⟩ ⟨⟨1, rfl, by omega, by omega, by omega⟩, rfl⟩)
  · have c1 : (p0 : Int) ≠ 1 := c1
    refine yG.load xik rfl (fun _ _ => rfl) (v := yI (p0)) rfl rfl ?_
    refine yG.num (c := 2) rfl (fun _ _ => rfl) (by decide) ?_
    refine yG.icmp rfl (t := 15) rfl ⟨by omega, by omega⟩ ⟨by omega, by omega⟩ (fun c2 => ?_) (fun c2 => ?_)
    · have c2 : (p0 : Int) = 2 := c2
      refine yG.num (c := 1) rfl (fun _ _ => rfl) (by decide) ?_
      refine yG.goto rfl (t := 20) rfl ?_
      refine yG.ret rfl (fun _ _ => rfl) ?_
      exact (yP.int ⟨by omega, by omega⟩ ⟨⟨1, rfl, by omega, by omega, by omega⟩, rfl⟩)
    · have c2 : (p0 : Int) ≠ 2 := c2
      refine yG.load xik rfl (fun _ _ => rfl) (v := yI (p0)) rfl rfl ?_
      refine yG.num (c := 4) rfl (fun _ _ => rfl) (by decide) ?_
      refine yG.icmp rfl (t := 19) rfl ⟨by omega, by omega⟩ ⟨by omega, by omega⟩ (fun c3 => ?_) (fun c3 => ?_)
      · have c3 : (p0 : Int) ≠ 4 := c3
        refine yG.num (c := 0) rfl (fun _ _ => rfl) (by decide) ?_
        refine yG.ret rfl (fun _ _ => rfl) ?_
        exact (yP.int ⟨by omega, by omega⟩ ⟨⟨0, rfl, by omega, by omega, by omega⟩, rfl⟩)
      · have c3 : (p0 : Int) = 4 := c3
        refine yG.num (c := 1) rfl (fun _ _ => rfl) (by decide) ?_
        refine yG.goto rfl (t := 20) rfl ?_
        refine yG.ret rfl (fun _ _ => rfl) ?_
        exact (yP.int ⟨by omega, by omega⟩ ⟨⟨1, rfl, by omega, by omega, by omega⟩, rfl⟩)
theorem c_GModel_cellOf {hp : xH} (W : mW G) (d : Nat) (hT : zTy G hp) (p0 p1 p2 : Int) (h0l : 0 ≤ p0) (h0u : p0 ≤ 5) (h1l : 0 ≤ p1) (h1u : p1 ≤ 63) (h2l : 0 ≤ p2) (h2u : p2 ≤ 6) : yC (xcall 89 xfts xpools xms (d + 1)) 366 [yI (p0), yI (p1), yI (p2)] hp (bQpi hp 264 2951 (fun z => 0 ≤ 0 - p0 + z - 264 ∧ 0 ≤ p0 - z + 2946 ∧ 0 ≤ 0 - p1 + z - 264 ∧ 0 ≤ p1 - z + 2888 ∧ 0 ≤ 0 - p2 + z - 264 ∧ 0 ≤ p2 - z + 2945 ∧ 0 ≤ 0 - 448 * p0 - 7 * p1 - p2 + z - 264 ∧ 0 ≤ 448 * p0 + 7 * p1 + p2 - z + 264)) := by
  have A_hp : bAx G [] hp hp := bAx.rf hT
  refine yC.of (M := (xt_X13_cellOf, (3, (1, (14, []))))) rfl rfl (N := 42) (yfuel (by decide)) ?_
  show yG 89 xfts (xcall 89 xfts xpools xms d) (xpool xp_RX13) [] xt_X13_cellOf (yP 1 (bQpi hp 264 2951 (fun z => 0 ≤ 0 - p0 + z - 264 ∧ 0 ≤ p0 - z + 2946 ∧ 0 ≤ 0 - p1 + z - 264 ∧ 0 ≤ p1 - z + 2888 ∧ 0 ≤ 0 - p2 + z - 264 ∧ 0 ≤ p2 - z + 2945 ∧ 0 ≤ 0 - 448 * p0 - 7 * p1 - p2 + z - 264 ∧ 0 ≤ 448 * p0 + 7 * p1 + p2 - z + 264))) 42 0 [(0, yI (p0)), (1, yI (p1)), (2, yI (p2))] [] hp
  refine yG.num (c := 264) rfl (fun _ _ => rfl) (by decide) ?_
  refine yG.load xik rfl (fun _ _ => rfl) (v := yI (p0)) rfl rfl ?_
  refine yG.num (c := 64) rfl (fun _ _ => rfl) (by decide) ?_
  refine yG.imul rfl ?_
  refine yG.load xik rfl (fun _ _ => rfl) (v := yI (p1)) rfl rfl ?_
  refine yG.iadd rfl ?_
  refine yG.num (c := 7) rfl (fun _ _ => rfl) (by decide) ?_
  refine yG.imul rfl ?_
  refine yG.iadd rfl ?_
  refine yG.load xik rfl (fun _ _ => rfl) (v := yI (p2)) rfl rfl ?_
  refine yG.iadd rfl ?_
  refine yG.ret rfl (fun _ _ => rfl) ?_
  exact (yP.int ⟨by omega, by omega⟩ ⟨⟨(264 + (((p0 * 64) + p1) * 7)) + p2, rfl, by omega, by omega, by omega⟩, rfl⟩)
theorem c_GModel_aimOf {hp : xH} (W : mW G) (d : Nat) (hT : zTy G hp) (p0 p1 p2 : Int) (h0l : 0 ≤ p0) (h0u : p0 ≤ 5) (h1l : 0 ≤ p1) (h1u : p1 ≤ 6) (h2l : 0 ≤ p2) (h2u : p2 ≤ 5) : yC (xcall 89 xfts xpools xms (d + 1)) 348 [yI (p0), yI (p1), yI (p2)] hp (bQpi hp 2952 3203 (fun z => 0 ≤ 0 - p0 + z - 2952 ∧ 0 ≤ p0 - z + 3198 ∧ 0 ≤ 0 - p1 + z - 2952 ∧ 0 ≤ p1 - z + 3197 ∧ 0 ≤ 0 - p2 + z - 2952 ∧ 0 ≤ p2 - z + 3198)) := by
  have A_hp : bAx G [] hp hp := bAx.rf hT
  refine yC.of (M := (xt_X13_aimOf, (3, (1, (14, []))))) rfl rfl (N := 42) (yfuel (by decide)) ?_
  show yG 89 xfts (xcall 89 xfts xpools xms d) (xpool xp_RX13) [] xt_X13_aimOf (yP 1 (bQpi hp 2952 3203 (fun z => 0 ≤ 0 - p0 + z - 2952 ∧ 0 ≤ p0 - z + 3198 ∧ 0 ≤ 0 - p1 + z - 2952 ∧ 0 ≤ p1 - z + 3197 ∧ 0 ≤ 0 - p2 + z - 2952 ∧ 0 ≤ p2 - z + 3198))) 42 0 [(0, yI (p0)), (1, yI (p1)), (2, yI (p2))] [] hp
  refine yG.num (c := 2952) rfl (fun _ _ => rfl) (by decide) ?_
  refine yG.load xik rfl (fun _ _ => rfl) (v := yI (p0)) rfl rfl ?_
  refine yG.num (c := 7) rfl (fun _ _ => rfl) (by decide) ?_
  refine yG.imul rfl ?_
  refine yG.load xik rfl (fun _ _ => rfl) (v := yI (p1)) rfl rfl ?_
  refine yG.iadd rfl ?_
  refine yG.num (c := 6) rfl (fun _ _ => rfl) (by decide) ?_
  refine yG.imul rfl ?_
  refine yG.iadd rfl ?_
  refine yG.load xik rfl (fun _ _ => rfl) (v := yI (p2)) rfl rfl ?_
  refine yG.iadd rfl ?_
  refine yG.ret rfl (fun _ _ => rfl) ?_
  exact (yP.int ⟨by omega, by omega⟩ ⟨⟨(2952 + (((p0 * 7) + p1) * 6)) + p2, rfl, by omega, by omega, by omega⟩, rfl⟩)
theorem c_GModel_pointOf {hp : xH} (W : mW G) (d : Nat) (hT : zTy G hp) (p0 p1 : Int) (h0l : 0 ≤ p0) (h0u : p0 ≤ 5) (h1l : 0 ≤ p1) (h1u : p1 ≤ 7) : yC (xcall 89 xfts xpools xms (d + 1)) 482 [yI (p0), yI (p1)] hp (bQpi hp 3204 3251 (fun z => 0 ≤ 0 - p0 + z - 3204 ∧ 0 ≤ p0 - z + 3246 ∧ 0 ≤ 0 - p1 + z - 3204 ∧ 0 ≤ p1 - z + 3244)) := by
  have A_hp : bAx G [] hp hp := bAx.rf hT
  refine yC.of (M := (xt_X13_pointOf, (2, (1, (14, []))))) rfl rfl (N := 30) (yfuel (by decide)) ?_
  show yG 89 xfts (xcall 89 xfts xpools xms d) (xpool xp_RX13) [] xt_X13_pointOf (yP 1 (bQpi hp 3204 3251 (fun z => 0 ≤ 0 - p0 + z - 3204 ∧ 0 ≤ p0 - z + 3246 ∧ 0 ≤ 0 - p1 + z - 3204 ∧ 0 ≤ p1 - z + 3244))) 30 0 [(0, yI (p0)), (1, yI (p1))] [] hp
  refine yG.num (c := 3204) rfl (fun _ _ => rfl) (by decide) ?_
  refine yG.load xik rfl (fun _ _ => rfl) (v := yI (p0)) rfl rfl ?_
  refine yG.num (c := 8) rfl (fun _ _ => rfl) (by decide) ?_
  refine yG.imul rfl ?_
  refine yG.iadd rfl ?_
  refine yG.load xik rfl (fun _ _ => rfl) (v := yI (p1)) rfl rfl ?_
  refine yG.iadd rfl ?_
  refine yG.ret rfl (fun _ _ => rfl) ?_
  exact (yP.int ⟨by omega, by omega⟩ ⟨⟨(3204 + (p0 * 8)) + p1, rfl, by omega, by omega, by omega⟩, rfl⟩)
theorem c_GModel_changed {hp : xH} (W : mW G) (d : Nat) (hT : zTy G hp) {k0 : Nat} (H_k0 : bRo G 116 k0) : yC (xcall 89 xfts xpools xms (d + 1)) 367 [yR k0] hp (fun rv hp' => (rv = none ∧ True) ∧ bAx G [(83076749736557242056487941267521536, 40), (83076749736557242056487941267521536, 49), (83076749736557242056487941267521536, 62), (83076749736557242056487941267521536, 77), (83076749736557242056487941267521536, 90), (83076749736557242056487941267521536, 101)] hp hp') := by
  have A_hp : bAx G [(83076749736557242056487941267521536, 40), (83076749736557242056487941267521536, 49), (83076749736557242056487941267521536, 62), (83076749736557242056487941267521536, 77), (83076749736557242056487941267521536, 90), (83076749736557242056487941267521536, 101)] hp hp := bAx.rf hT
  refine yC.of (M := (xt_X13_changed, (1, (0, (14, []))))) rfl rfl (N := 63) (yfuel (by decide)) ?_
  show yG 89 xfts (xcall 89 xfts xpools xms d) (xpool xp_RX13) [] xt_X13_changed (yP 0 (fun rv hp' => (rv = none ∧ True) ∧ bAx G [(83076749736557242056487941267521536, 40), (83076749736557242056487941267521536, 49), (83076749736557242056487941267521536, 62), (83076749736557242056487941267521536, 77), (83076749736557242056487941267521536, 90), (83076749736557242056487941267521536, 101)] hp hp')) 63 0 [(0, yR k0)] [] hp
  refine yG.load xak rfl (fun _ _ => rfl) (v := yR k0) rfl rfl ?_
  refine yG.num (c := 0) rfl (fun _ _ => rfl) (by decide) ?_
  refine yG.putI A_hp.1 (w_M_hasRun W H_k0) (W.2.1 _ _ H_k0 (by decide) (by decide)) rfl rfl (.inr ⟨rfl, rfl, rfl⟩) ⟨by omega, by omega⟩ (by omega) (by omega) (fun h1 T_h1 b_h1 f_h1 y_h1 => ?_)
  have A_h1 := A_hp.put T_h1 b_h1 f_h1 H_k0 (by decide)
  refine yG.load xak rfl (fun _ _ => rfl) (v := yR k0) rfl rfl ?_
  refine yG.num (c := 0) rfl (fun _ _ => rfl) (by decide) ?_
  refine yG.putI A_h1.1 (w_M_hasFlows W H_k0) (W.2.1 _ _ H_k0 (by decide) (by decide)) rfl rfl (.inr ⟨rfl, rfl, rfl⟩) ⟨by omega, by omega⟩ (by omega) (by omega) (fun h2 T_h2 b_h2 f_h2 y_h2 => ?_)
  have A_h2 := A_h1.put T_h2 b_h2 f_h2 H_k0 (by decide)
  refine yG.load xak rfl (fun _ _ => rfl) (v := yR k0) rfl rfl ?_
  refine yG.num (c := 0) rfl (fun _ _ => rfl) (by decide) ?_
  refine yG.putI A_h2.1 (w_M_hasTroubles W H_k0) (W.2.1 _ _ H_k0 (by decide) (by decide)) rfl rfl (.inr ⟨rfl, rfl, rfl⟩) ⟨by omega, by omega⟩ (by omega) (by omega) (fun h3 T_h3 b_h3 f_h3 y_h3 => ?_)
  have A_h3 := A_h2.put T_h3 b_h3 f_h3 H_k0 (by decide)
  refine yG.load xak rfl (fun _ _ => rfl) (v := yR k0) rfl rfl ?_
  refine yG.num (c := 0) rfl (fun _ _ => rfl) (by decide) ?_
  refine yG.putI A_h3.1 (w_M_hasEstimates W H_k0) (W.2.1 _ _ H_k0 (by decide) (by decide)) rfl rfl (.inr ⟨rfl, rfl, rfl⟩) ⟨by omega, by omega⟩ (by omega) (by omega) (fun h4 T_h4 b_h4 f_h4 y_h4 => ?_)
  have A_h4 := A_h3.put T_h4 b_h4 f_h4 H_k0 (by decide)
  refine yG.load xak rfl (fun _ _ => rfl) (v := yR k0) rfl rfl ?_
  refine yG.num (c := 0) rfl (fun _ _ => rfl) (by decide) ?_
  refine yG.putI A_h4.1 (w_M_hasNetShort W H_k0) (W.2.1 _ _ H_k0 (by decide) (by decide)) rfl rfl (.inr ⟨rfl, rfl, rfl⟩) ⟨by omega, by omega⟩ (by omega) (by omega) (fun h5 T_h5 b_h5 f_h5 y_h5 => ?_)
  have A_h5 := A_h4.put T_h5 b_h5 f_h5 H_k0 (by decide)
  refine yG.load xak rfl (fun _ _ => rfl) (v := yR k0) rfl rfl ?_
  refine yG.num (c := 0) rfl (fun _ _ => rfl) (by decide) ?_
  refine yG.putI A_h5.1 (w_M_hasDispatch W H_k0) (W.2.1 _ _ H_k0 (by decide) (by decide)) rfl rfl (.inl rfl) ⟨by omega, by omega⟩ (by omega) (by omega) (fun h6 T_h6 b_h6 f_h6 y_h6 => ?_)
  have A_h6 := A_h5.put T_h6 b_h6 f_h6 H_k0 (by decide)
  refine yG.ret rfl (fun _ _ => rfl) ?_
  exact (yP.void ⟨⟨rfl, trivial⟩, A_h6⟩)
theorem c_GModel_thrown {hp : xH} (W : mW G) (d : Nat) (hT : zTy G hp) {k0 : Nat} (H_k0 : bRo G 116 k0) : yC (xcall 89 xfts xpools xms (d + 1)) 530 [yR k0] hp (bQpi hp 0 3 (fun _ => True)) := by
  have A_hp : bAx G [] hp hp := bAx.rf hT
  refine yC.of (M := (xt_X13_thrown, (1, (1, (14, []))))) rfl rfl (N := 15) (yfuel (by decide)) ?_
  show yG 89 xfts (xcall 89 xfts xpools xms d) (xpool xp_RX13) [] xt_X13_thrown (yP 1 (bQpi hp 0 3 (fun _ => True))) 15 0 [(0, yR k0)] [] hp
  refine yG.load xak rfl (fun _ _ => rfl) (v := yR k0) rfl rfl ?_
  refine yG.getI A_hp.1 (w_M_thrown W H_k0) rfl rfl (fun z1 e_z1 i_z1 l_z1 u_z1 => ?_)
  refine yG.ret rfl (fun _ _ => rfl) ?_
  exact (yP.int ⟨by omega, by omega⟩ ⟨⟨z1, rfl, by omega, by omega, trivial⟩, rfl⟩)
theorem c_GModel_clearMatrix {hp : xH} (W : mW G) (d : Nat) (hT : zTy G hp) {k0 : Nat} (H_k0 : bRo G 116 k0) (p1 p2 : Int) (h1l : (-1) ≤ p1) (h1u : p1 ≤ 20) (h2l : (-1) ≤ p2) (h2u : p2 ≤ 48) : yC (xcall 89 xfts xpools xms (d + 1)) 369 [yR k0, yI (p1), yI (p2)] hp (fun rv hp' => (rv = none ∧ True) ∧ bAx G [(85070591730234615865843651857942052864, 256)] hp hp') := by
  have A_hp : bAx G [(85070591730234615865843651857942052864, 256)] hp hp := bAx.rf hT
  have H : ∀ m : Nat, (∀ a3 : Int, ∀ hq, bAx G [(85070591730234615865843651857942052864, 256)] hp hq → 0 ≤ a3 → (-20) ≤ 0 - a3 → (-1) ≤ p1 → (-20) ≤ 0 - p1 → (-1) ≤ p2 → (-48) ≤ 0 - p2 → (-1) ≤ 0 - a3 + p1 → 0 - 99 * a3 + 2078 < (m : Int) → yG 89 xfts (xcall 89 xfts xpools xms d) (xpool xp_RX13) [] xt_X13_clearMatrix (yP 0 (fun rv hp' => (rv = none ∧ True) ∧ bAx G [(85070591730234615865843651857942052864, 256)] hp hp')) (16 * m) 2 [(0, yR k0), (1, yI (p1)), (2, yI (p2)), (3, yI (a3))] [] hq) ∧ (∀ a3 : Int, ∀ a4 : Int, ∀ hq, bAx G [(85070591730234615865843651857942052864, 256)] hp hq → 0 ≤ a3 → (-19) ≤ 0 - a3 → 0 ≤ a4 → (-48) ≤ 0 - a4 → 1 ≤ p1 → (-20) ≤ 0 - p1 → (-1) ≤ p2 → (-48) ≤ 0 - p2 → 1 ≤ 0 - a3 + p1 → (-1) ≤ 0 - a4 + p2 → 0 - 99 * a3 - 2 * a4 + 2077 < (m : Int) → yG 89 xfts (xcall 89 xfts xpools xms d) (xpool xp_RX13) [] xt_X13_clearMatrix (yP 0 (fun rv hp' => (rv = none ∧ True) ∧ bAx G [(85070591730234615865843651857942052864, 256)] hp hp')) (16 * m) 10 [(0, yR k0), (1, yI (p1)), (2, yI (p2)), (3, yI (a3)), (4, yI (a4))] [] hq) := by
    intro m
    induction m with
    | zero =>
      refine ⟨?_, ?_⟩ <;> (intros; exfalso; omega)
    | succ m ih =>
      obtain ⟨i_2, i_10⟩ := ih
      refine ⟨?_, ?_⟩
      · intro a3 hq A_hq f0 f1 f2 f3 f4 f5 f6 hm
        refine yG.mono (N := 16 * m + 16) ?_ (by omega)
        refine yG.load xik rfl (fun _ _ => rfl) (v := yI (a3)) rfl rfl ?_
        refine yG.load xik rfl (fun _ _ => rfl) (v := yI (p1)) rfl rfl ?_
        refine yG.icmp rfl (t := 41) rfl ⟨by omega, by omega⟩ ⟨by omega, by omega⟩ (fun c1 => ?_) (fun c1 => ?_)
        · have c1 : (a3 : Int) ≥ p1 := c1
          refine yG.ret rfl (fun _ _ => rfl) ?_
          exact (yP.void ⟨⟨rfl, trivial⟩, A_hq⟩)
        · have c1 : (a3 : Int) < p1 := c1
          refine yG.num (c := 0) rfl (fun _ _ => rfl) (by decide) ?_
          refine yG.store1 xik (L' := [(4, yI (0)), (0, yR k0), (1, yI (p1)), (2, yI (p2)), (3, yI (a3))]) rfl (fun _ _ => rfl) rfl rfl ?_
          exact yG.mono (yG.sub (i_10 (a3) (0)  hq A_hq   (by omega) (by omega) (by omega) (by omega) (by omega) (by omega) (by omega) (by omega) (by omega) (by omega) (by omega)) (ySub.cons rfl (ySub.cons rfl (ySub.cons rfl (ySub.cons rfl (ySub.cons rfl (ySub.nil))))))) (by omega)
      · intro a3 a4 hq A_hq f0 f1 f2 f3 f4 f5 f6 f7 f8 f9 hm
        refine yG.mono (N := 16 * m + 16) ?_ (by omega)
        refine yG.load xik rfl (fun _ _ => rfl) (v := yI (a4)) rfl rfl ?_
        refine yG.load xik rfl (fun _ _ => rfl) (v := yI (p2)) rfl rfl ?_
        refine yG.icmp rfl (t := 35) rfl ⟨by omega, by omega⟩ ⟨by omega, by omega⟩ (fun c1 => ?_) (fun c1 => ?_)
        · have c1 : (a4 : Int) ≥ p2 := c1
          refine yG.iinc rfl (a := a3) rfl (L' := [(3, yI (a3 + 1)), (0, yR k0), (1, yI (p1)), (2, yI (p2)), (4, yI (a4))]) rfl ?_
          refine yG.goto rfl (t := 2) rfl ?_
          exact yG.mono (yG.sub (i_2 (a3 + 1)  hq A_hq   (by omega) (by omega) (by omega) (by omega) (by omega) (by omega) (by omega) (by omega)) (ySub.cons rfl (ySub.cons rfl (ySub.cons rfl (ySub.cons rfl (ySub.nil)))))) (by omega)
        · have c1 : (a4 : Int) < p2 := c1
          refine yG.load xak rfl (fun _ _ => rfl) (v := yR k0) rfl rfl ?_
          refine yG.getO A_hq.1 (w_M_matrix W H_k0) rfl rfl (fun r2 H_r2 O_r2 q_r2 => ?_)
          refine yG.num (c := 48) rfl (fun _ _ => rfl) (by decide) ?_
          refine yG.load xik rfl (fun _ _ => rfl) (v := yI (a3)) rfl rfl ?_
          refine yG.imul rfl ?_
          refine yG.load xik rfl (fun _ _ => rfl) (v := yI (a4)) rfl rfl ?_
          refine yG.iadd rfl ?_
          refine yG.numl (c := 0) rfl (fun _ _ => rfl) (by decide) ?_
          refine yG.last A_hq.1 (v_M_matrix W H_r2) (W.2.1 _ _ H_r2 (by decide) (by decide)) rfl (by omega) (by omega) ⟨by omega, by omega⟩ (by omega) (by omega) (fun h3 T_h3 b_h3 f_h3 y_h3 => ?_)
          have A_h3 := A_hq.put T_h3 b_h3 f_h3 H_r2 (bAll_ok (by decide) _)
          refine yG.iinc rfl (a := a4) rfl (L' := [(4, yI (a4 + 1)), (0, yR k0), (1, yI (p1)), (2, yI (p2)), (3, yI (a3))]) rfl ?_
          refine yG.goto rfl (t := 10) rfl ?_
          exact yG.mono (yG.sub (i_10 (a3) (a4 + 1)  h3 A_h3   (by omega) (by omega) (by omega) (by omega) (by omega) (by omega) (by omega) (by omega) (by omega) (by omega) (by omega)) (ySub.cons rfl (ySub.cons rfl (ySub.cons rfl (ySub.cons rfl (ySub.cons rfl (ySub.nil))))))) (by omega)
  refine yC.of (M := (xt_X13_clearMatrix, (5, (0, (14, []))))) rfl rfl (N := 33296) (yfuel (by decide)) ?_
  show yG 89 xfts (xcall 89 xfts xpools xms d) (xpool xp_RX13) [] xt_X13_clearMatrix (yP 0 (fun rv hp' => (rv = none ∧ True) ∧ bAx G [(85070591730234615865843651857942052864, 256)] hp hp')) 33296 0 [(0, yR k0), (1, yI (p1)), (2, yI (p2))] [] hp
  obtain ⟨i_2, i_10⟩ := H 2080
  refine yG.num (c := 0) rfl (fun _ _ => rfl) (by decide) ?_
  refine yG.store1 xik (L' := [(3, yI (0)), (0, yR k0), (1, yI (p1)), (2, yI (p2))]) rfl (fun _ _ => rfl) rfl rfl ?_
  exact yG.mono (yG.sub (i_2 (0)  hp A_hp   (by omega) (by omega) (by omega) (by omega) (by omega) (by omega) (by omega) (by omega)) (ySub.cons rfl (ySub.cons rfl (ySub.cons rfl (ySub.cons rfl (ySub.nil)))))) (by omega)
theorem c_GModel_angleAt {hp : xH} (W : mW G) (d : Nat) (hT : zTy G hp) {k0 : Nat} (H_k0 : bRo G 116 k0) (p1 p2 : Int) (h1l : 0 ≤ p1) (h1u : p1 ≤ 15) (h2l : 0 ≤ p2) (h2u : p2 ≤ 47) : yC (xcall 89 xfts xpools xms (d + 1)) 351 [yR k0, yI (p1), yI (p2)] hp (bQpj hp 0 2147483647 (fun _ => True)) := by
  have A_hp : bAx G [] hp hp := bAx.rf hT
  refine yC.of (M := (xt_X13_angleAt, (3, (2, (14, []))))) rfl rfl (N := 57) (yfuel (by decide)) ?_
  show yG 89 xfts (xcall 89 xfts xpools xms d) (xpool xp_RX13) [] xt_X13_angleAt (yP 2 (bQpj hp 0 2147483647 (fun _ => True))) 57 0 [(0, yR k0), (1, yI (p1)), (2, yI (p2))] [] hp
  refine yG.load xak rfl (fun _ _ => rfl) (v := yR k0) rfl rfl ?_
  refine yG.getO A_hp.1 (w_M_placeOf W H_k0) rfl rfl (fun r1 H_r1 O_r1 q_r1 => ?_)
  refine yG.load xik rfl (fun _ _ => rfl) (v := yI (p1)) rfl rfl ?_
  refine yG.iald A_hp.1 (v_M_placeOf W H_r1) rfl (by omega) (by omega) (fun z2 e_z2 i_z2 l_z2 u_z2 => ?_)
  refine yG.ifz rfl (t := 13) rfl ⟨by omega, by omega⟩ (fun c3 => ?_) (fun c3 => ?_)
  · have c3 : (z2 : Int) ≥ 0 := c3
    refine yG.load xak rfl (fun _ _ => rfl) (v := yR k0) rfl rfl ?_
    refine yG.getO A_hp.1 (w_M_matrix W H_k0) rfl rfl (fun r4 H_r4 O_r4 q_r4 => ?_)
    refine yG.num (c := 48) rfl (fun _ _ => rfl) (by decide) ?_
    refine yG.load xak rfl (fun _ _ => rfl) (v := yR k0) rfl rfl ?_
    refine yG.getS9 A_hp.1 (w_M_placeOf W H_k0) q_r1 rfl rfl ?_
    refine yG.load xik rfl (fun _ _ => rfl) (v := yI (p1)) rfl rfl ?_
    refine yG.iald A_hp.1 (v_M_placeOf W H_r1) rfl (by omega) (by omega) (fun z5 e_z5 i_z5 l_z5 u_z5 => ?_)
    rw [show (z5 : Int) = z2 by omega]
    refine yG.imul rfl ?_
    refine yG.load xik rfl (fun _ _ => rfl) (v := yI (p2)) rfl rfl ?_
    refine yG.iadd rfl ?_
    refine yG.lald A_hp.1 (v_M_matrix W H_r4) rfl (by omega) (by omega) (fun z6 e_z6 i_z6 l_z6 u_z6 => ?_)
    refine yG.ret rfl (fun _ _ => rfl) ?_
    exact (yP.long ⟨by omega, by omega⟩ ⟨⟨z6, rfl, by omega, by omega, trivial⟩, rfl⟩)
  · have c3 : (z2 : Int) < 0 := c3
    refine yG.numl (c := 0) rfl (fun _ _ => rfl) (by decide) ?_
    refine yG.goto rfl (t := 29) rfl ?_
    refine yG.ret rfl (fun _ _ => rfl) ?_
    exact (yP.long ⟨by omega, by omega⟩ ⟨⟨0, rfl, by omega, by omega, trivial⟩, rfl⟩)
theorem c_GModel_merge_node {hp : xH} (W : mW G) (d : Nat) (hT : zTy G hp) {k0 : Nat} (H_k0 : bRo G 116 k0) {k1 : Nat} (H_k1 : bRo G 143 k1) (p2 p3 : Int) (h2l : 0 ≤ p2) (h2u : p2 ≤ 15) (h3l : 0 ≤ p3) (h3u : p3 ≤ 15) : yC (xcall 89 xfts xpools xms (d + 1)) 454 [yR k0, yR k1, yI (p2), yI (p3)] hp (fun rv hp' => (rv = none ∧ True) ∧ bAx G [(11150372599265311570767859136324180752990208, 256)] hp hp') := by
  have A_hp : bAx G [(11150372599265311570767859136324180752990208, 256)] hp hp := bAx.rf hT
  have H : ∀ m : Nat, (∀ a4 : Int, ∀ a5 : Int, ∀ a6 : Int, ∀ a7 : Int, ∀ hq, bAx G [(11150372599265311570767859136324180752990208, 256)] hp hq → 0 ≤ a4 → (-15) ≤ 0 - a4 → 0 ≤ a5 → (-15) ≤ 0 - a5 → 0 ≤ a6 → (-15) ≤ 0 - a6 → 0 ≤ a7 → (-16) ≤ 0 - a7 → 0 ≤ p2 → (-15) ≤ 0 - p2 → 0 ≤ p3 → (-15) ≤ 0 - p3 → 0 ≤ a4 - a6 → 0 ≤ a5 - a6 → 0 ≤ 0 - a4 + p2 → 0 ≤ 0 - a5 + p3 → 0 - 2 * a7 + 33 < (m : Int) → yG 89 xfts (xcall 89 xfts xpools xms d) (xpool xp_RX13) [] xt_X13_merge (yP 0 (fun rv hp' => (rv = none ∧ True) ∧ bAx G [(11150372599265311570767859136324180752990208, 256)] hp hp')) (26 * m) 29 [(0, yR k0), (1, yR k1), (4, yI (a4)), (5, yI (a5)), (6, yI (a6)), (7, yI (a7))] [] hq) := by
    intro m
    induction m with
    | zero =>
      intros; exfalso; omega
    | succ m ih =>
      have i_29 := ih
      clear ih
      intro a4 a5 a6 a7 hq A_hq f0 f1 f2 f3 f4 f5 f6 f7 f8 f9 f10 f11 f12 f13 f14 f15 hm
      refine yG.mono (N := 26 * m + 26) ?_ (by omega)
      refine yG.load xik rfl (fun _ _ => rfl) (v := yI (a7)) rfl rfl ?_
      refine yG.load xak rfl (fun _ _ => rfl) (v := yR k0) rfl rfl ?_
      refine yG.getO A_hq.1 (w_M_count W H_k0) rfl rfl (fun r1 H_r1 O_r1 q_r1 => ?_)
      refine yG.num (c := 0) rfl (fun _ _ => rfl) (by decide) ?_
      refine yG.ialdF A_hq.1 (v_M_count W H_r1) rfl rfl (by omega) (by omega) (fun z2 e_z2 i_z2 l_z2 u_z2 => ?_)
      refine yG.icmp rfl (t := 77) rfl ⟨by omega, by omega⟩ ⟨by omega, by omega⟩ (fun c3 => ?_) (fun c3 => ?_)
      · have c3 : (a7 : Int) ≥ z2 := c3
        refine yG.ret rfl (fun _ _ => rfl) ?_
        exact (yP.void ⟨⟨rfl, trivial⟩, A_hq⟩)
      · have c3 : (a7 : Int) < z2 := c3
        refine yG.load xak rfl (fun _ _ => rfl) (v := yR k1) rfl rfl ?_
        refine yG.load xik rfl (fun _ _ => rfl) (v := yI (a7)) rfl rfl ?_
        refine yG.load xak rfl (fun _ _ => rfl) (v := yR k1) rfl rfl ?_
        refine yG.load xik rfl (fun _ _ => rfl) (v := yI (a7)) rfl rfl ?_
        refine yG.ialdF A_hq.1 (v_M_node W H_k1) rfl rfl (by omega) (by omega) (fun z4 e_z4 i_z4 l_z4 u_z4 => ?_)
        refine yG.load xik rfl (fun _ _ => rfl) (v := yI (a4)) rfl rfl ?_
        refine yG.icmp rfl (t := 61) rfl ⟨by omega, by omega⟩ ⟨by omega, by omega⟩ (fun c5 => ?_) (fun c5 => ?_)
        · have c5 : (z4 : Int) = a4 := c5
          refine yG.load xik rfl (fun _ _ => rfl) (v := yI (a6)) rfl rfl ?_
          refine yG.goto rfl (t := 70) rfl ?_
          refine yG.iastF A_hq.1 (v_M_node W H_k1) rfl (W.2.1 _ _ H_k1 (by decide) (by decide)) rfl (by omega) (by omega) ⟨by omega, by omega⟩ (by omega) (by omega) (fun h6 T_h6 b_h6 f_h6 y_h6 => ?_)
          have A_h6 := A_hq.put T_h6 b_h6 f_h6 H_k1 (bAll_ok (by decide) _)
          have : ys h6 k1 (a7 : Int).toNat = a6 := (y_h6 k1 _).trans (if_pos ⟨rfl, rfl⟩)
          refine yG.iinc rfl (a := a7) rfl (L' := [(7, yI (a7 + 1)), (0, yR k0), (1, yR k1), (4, yI (a4)), (5, yI (a5)), (6, yI (a6))]) rfl ?_
          refine yG.goto rfl (t := 29) rfl ?_
          exact yG.mono (yG.sub (i_29 (a4) (a5) (a6) (a7 + 1)  h6 A_h6   (by omega) (by omega) (by omega) (by omega) (by omega) (by omega) (by omega) (by omega) (by omega) (by omega) (by omega) (by omega) (by omega) (by omega) (by omega) (by omega) (by omega)) (ySub.cons rfl (ySub.cons rfl (ySub.cons rfl (ySub.cons rfl (ySub.cons rfl (ySub.cons rfl (ySub.nil)))))))) (by omega)
        · have c5 : (z4 : Int) ≠ a4 := c5
          refine yG.load xak rfl (fun _ _ => rfl) (v := yR k1) rfl rfl ?_
          refine yG.load xik rfl (fun _ _ => rfl) (v := yI (a7)) rfl rfl ?_
          refine yG.ialdF A_hq.1 (v_M_node W H_k1) rfl rfl (by omega) (by omega) (fun z7 e_z7 i_z7 l_z7 u_z7 => ?_)
          rw [show (z7 : Int) = z4 by omega]
          refine yG.load xik rfl (fun _ _ => rfl) (v := yI (a5)) rfl rfl ?_
          refine yG.icmp rfl (t := 66) rfl ⟨by omega, by omega⟩ ⟨by omega, by omega⟩ (fun c8 => ?_) (fun c8 => ?_)
          · have c8 : (z4 : Int) ≠ a5 := c8
            refine yG.load xak rfl (fun _ _ => rfl) (v := yR k1) rfl rfl ?_
            refine yG.load xik rfl (fun _ _ => rfl) (v := yI (a7)) rfl rfl ?_
            refine yG.ialdF A_hq.1 (v_M_node W H_k1) rfl rfl (by omega) (by omega) (fun z9 e_z9 i_z9 l_z9 u_z9 => ?_)
            rw [show (z9 : Int) = z4 by omega]
            refine yG.iastF A_hq.1 (v_M_node W H_k1) rfl (W.2.1 _ _ H_k1 (by decide) (by decide)) rfl (by omega) (by omega) ⟨by omega, by omega⟩ (by omega) (by omega) (fun h10 T_h10 b_h10 f_h10 y_h10 => ?_)
            have A_h10 := A_hq.put T_h10 b_h10 f_h10 H_k1 (bAll_ok (by decide) _)
            have : ys h10 k1 (a7 : Int).toNat = z4 := (y_h10 k1 _).trans (if_pos ⟨rfl, rfl⟩)
            refine yG.iinc rfl (a := a7) rfl (L' := [(7, yI (a7 + 1)), (0, yR k0), (1, yR k1), (4, yI (a4)), (5, yI (a5)), (6, yI (a6))]) rfl ?_
            refine yG.goto rfl (t := 29) rfl ?_
            exact yG.mono (yG.sub (i_29 (a4) (a5) (a6) (a7 + 1)  h10 A_h10   (by omega) (by omega) (by omega) (by omega) (by omega) (by omega) (by omega) (by omega) (by omega) (by omega) (by omega) (by omega) (by omega) (by omega) (by omega) (by omega) (by omega)) (ySub.cons rfl (ySub.cons rfl (ySub.cons rfl (ySub.cons rfl (ySub.cons rfl (ySub.cons rfl (ySub.nil)))))))) (by omega)
          · have c8 : (z4 : Int) = a5 := c8
            refine yG.load xik rfl (fun _ _ => rfl) (v := yI (a6)) rfl rfl ?_
            refine yG.goto rfl (t := 70) rfl ?_
            refine yG.iastF A_hq.1 (v_M_node W H_k1) rfl (W.2.1 _ _ H_k1 (by decide) (by decide)) rfl (by omega) (by omega) ⟨by omega, by omega⟩ (by omega) (by omega) (fun h11 T_h11 b_h11 f_h11 y_h11 => ?_)
            have A_h11 := A_hq.put T_h11 b_h11 f_h11 H_k1 (bAll_ok (by decide) _)
            have : ys h11 k1 (a7 : Int).toNat = a6 := (y_h11 k1 _).trans (if_pos ⟨rfl, rfl⟩)
            refine yG.iinc rfl (a := a7) rfl (L' := [(7, yI (a7 + 1)), (0, yR k0), (1, yR k1), (4, yI (a4)), (5, yI (a5)), (6, yI (a6))]) rfl ?_
            refine yG.goto rfl (t := 29) rfl ?_
            exact yG.mono (yG.sub (i_29 (a4) (a5) (a6) (a7 + 1)  h11 A_h11   (by omega) (by omega) (by omega) (by omega) (by omega) (by omega) (by omega) (by omega) (by omega) (by omega) (by omega) (by omega) (by omega) (by omega) (by omega) (by omega) (by omega)) (ySub.cons rfl (ySub.cons rfl (ySub.cons rfl (ySub.cons rfl (ySub.cons rfl (ySub.cons rfl (ySub.nil)))))))) (by omega)
  refine yC.of (M := (xt_X13_merge, (8, (0, (14, []))))) rfl rfl (N := 936) (yfuel (by decide)) ?_
  show yG 89 xfts (xcall 89 xfts xpools xms d) (xpool xp_RX13) [] xt_X13_merge (yP 0 (fun rv hp' => (rv = none ∧ True) ∧ bAx G [(11150372599265311570767859136324180752990208, 256)] hp hp')) 936 0 [(0, yR k0), (1, yR k1), (2, yI (p2)), (3, yI (p3))] [] hp
  have i_29 := H 35
  refine yG.load xak rfl (fun _ _ => rfl) (v := yR k1) rfl rfl ?_
  refine yG.load xik rfl (fun _ _ => rfl) (v := yI (p2)) rfl rfl ?_
  refine yG.ialdF A_hp.1 (v_M_node W H_k1) rfl rfl (by omega) (by omega) (fun z1 e_z1 i_z1 l_z1 u_z1 => ?_)
  refine yG.store1 xik (L' := [(4, yI (z1)), (0, yR k0), (1, yR k1), (2, yI (p2)), (3, yI (p3))]) rfl (fun _ _ => rfl) rfl rfl ?_
  refine yG.load xak rfl (fun _ _ => rfl) (v := yR k1) rfl rfl ?_
  refine yG.load xik rfl (fun _ _ => rfl) (v := yI (p3)) rfl rfl ?_
  refine yG.ialdF A_hp.1 (v_M_node W H_k1) rfl rfl (by omega) (by omega) (fun z2 e_z2 i_z2 l_z2 u_z2 => ?_)
  refine yG.store1 xik (L' := [(5, yI (z2)), (4, yI (z1)), (0, yR k0), (1, yR k1), (2, yI (p2)), (3, yI (p3))]) rfl (fun _ _ => rfl) rfl rfl ?_
  refine yG.load xik rfl (fun _ _ => rfl) (v := yI (z1)) rfl rfl ?_
  refine yG.load xik rfl (fun _ _ => rfl) (v := yI (z2)) rfl rfl ?_
  refine yG.icmp rfl (t := 22) rfl ⟨by omega, by omega⟩ ⟨by omega, by omega⟩ (fun c3 => ?_) (fun c3 => ?_)
  · have c3 : (z1 : Int) ≥ z2 := c3
    refine yG.load xik rfl (fun _ _ => rfl) (v := yI (z2)) rfl rfl ?_
    refine yG.store1 xik (L' := [(6, yI (z2)), (5, yI (z2)), (4, yI (z1)), (0, yR k0), (1, yR k1), (2, yI (p2)), (3, yI (p3))]) rfl (fun _ _ => rfl) rfl rfl ?_
    refine yG.num (c := 0) rfl (fun _ _ => rfl) (by decide) ?_
    refine yG.store1 xik (L' := [(7, yI (0)), (6, yI (z2)), (5, yI (z2)), (4, yI (z1)), (0, yR k0), (1, yR k1), (2, yI (p2)), (3, yI (p3))]) rfl (fun _ _ => rfl) rfl rfl ?_
    exact yG.mono (yG.sub (i_29 (z1) (z2) (z2) (0)  hp A_hp   (by omega) (by omega) (by omega) (by omega) (by omega) (by omega) (by omega) (by omega) (by omega) (by omega) (by omega) (by omega) (by omega) (by omega) (by omega) (by omega) (by omega)) (ySub.cons rfl (ySub.cons rfl (ySub.cons rfl (ySub.cons rfl (ySub.cons rfl (ySub.cons rfl (ySub.nil)))))))) (by omega)
  · have c3 : (z1 : Int) < z2 := c3
    refine yG.load xik rfl (fun _ _ => rfl) (v := yI (z1)) rfl rfl ?_
    refine yG.goto rfl (t := 24) rfl ?_
    refine yG.store1 xik (L' := [(6, yI (z1)), (5, yI (z2)), (4, yI (z1)), (0, yR k0), (1, yR k1), (2, yI (p2)), (3, yI (p3))]) rfl (fun _ _ => rfl) rfl rfl ?_
    refine yG.num (c := 0) rfl (fun _ _ => rfl) (by decide) ?_
    refine yG.store1 xik (L' := [(7, yI (0)), (6, yI (z1)), (5, yI (z2)), (4, yI (z1)), (0, yR k0), (1, yR k1), (2, yI (p2)), (3, yI (p3))]) rfl (fun _ _ => rfl) rfl rfl ?_
    exact yG.mono (yG.sub (i_29 (z1) (z2) (z1) (0)  hp A_hp   (by omega) (by omega) (by omega) (by omega) (by omega) (by omega) (by omega) (by omega) (by omega) (by omega) (by omega) (by omega) (by omega) (by omega) (by omega) (by omega) (by omega)) (ySub.cons rfl (ySub.cons rfl (ySub.cons rfl (ySub.cons rfl (ySub.cons rfl (ySub.cons rfl (ySub.nil)))))))) (by omega)
theorem c_GModel_merge_island {hp : xH} (W : mW G) (d : Nat) (hT : zTy G hp) {k0 : Nat} (H_k0 : bRo G 116 k0) {k1 : Nat} (H_k1 : bRo G 144 k1) (p2 p3 : Int) (h2l : 0 ≤ p2) (h2u : p2 ≤ 15) (h3l : 0 ≤ p3) (h3u : p3 ≤ 15) : yC (xcall 89 xfts xpools xms (d + 1)) 454 [yR k0, yR k1, yI (p2), yI (p3)] hp (fun rv hp' => (rv = none ∧ True) ∧ bAx G [(22300745198530623141535718272648361505980416, 256)] hp hp') := by
  have A_hp : bAx G [(22300745198530623141535718272648361505980416, 256)] hp hp := bAx.rf hT
  have H : ∀ m : Nat, (∀ a4 : Int, ∀ a5 : Int, ∀ a6 : Int, ∀ a7 : Int, ∀ hq, bAx G [(22300745198530623141535718272648361505980416, 256)] hp hq → 0 ≤ a4 → (-15) ≤ 0 - a4 → 0 ≤ a5 → (-15) ≤ 0 - a5 → 0 ≤ a6 → (-15) ≤ 0 - a6 → 0 ≤ a7 → (-16) ≤ 0 - a7 → 0 ≤ p2 → (-15) ≤ 0 - p2 → 0 ≤ p3 → (-15) ≤ 0 - p3 → 0 ≤ a4 - a6 → 0 ≤ a5 - a6 → 0 ≤ 0 - a4 + p2 → 0 ≤ 0 - a5 + p3 → 0 - 2 * a7 + 33 < (m : Int) → yG 89 xfts (xcall 89 xfts xpools xms d) (xpool xp_RX13) [] xt_X13_merge (yP 0 (fun rv hp' => (rv = none ∧ True) ∧ bAx G [(22300745198530623141535718272648361505980416, 256)] hp hp')) (26 * m) 29 [(0, yR k0), (1, yR k1), (4, yI (a4)), (5, yI (a5)), (6, yI (a6)), (7, yI (a7))] [] hq) := by
    intro m
    induction m with
    | zero =>
      intros; exfalso; omega
    | succ m ih =>
      have i_29 := ih
      clear ih
      intro a4 a5 a6 a7 hq A_hq f0 f1 f2 f3 f4 f5 f6 f7 f8 f9 f10 f11 f12 f13 f14 f15 hm
      refine yG.mono (N := 26 * m + 26) ?_ (by omega)
      refine yG.load xik rfl (fun _ _ => rfl) (v := yI (a7)) rfl rfl ?_
      refine yG.load xak rfl (fun _ _ => rfl) (v := yR k0) rfl rfl ?_
      refine yG.getO A_hq.1 (w_M_count W H_k0) rfl rfl (fun r1 H_r1 O_r1 q_r1 => ?_)
      refine yG.num (c := 0) rfl (fun _ _ => rfl) (by decide) ?_
      refine yG.ialdF A_hq.1 (v_M_count W H_r1) rfl rfl (by omega) (by omega) (fun z2 e_z2 i_z2 l_z2 u_z2 => ?_)
      refine yG.icmp rfl (t := 77) rfl ⟨by omega, by omega⟩ ⟨by omega, by omega⟩ (fun c3 => ?_) (fun c3 => ?_)
      · have c3 : (a7 : Int) ≥ z2 := c3
        refine yG.ret rfl (fun _ _ => rfl) ?_
        exact (yP.void ⟨⟨rfl, trivial⟩, A_hq⟩)
      · have c3 : (a7 : Int) < z2 := c3
        refine yG.load xak rfl (fun _ _ => rfl) (v := yR k1) rfl rfl ?_
        refine yG.load xik rfl (fun _ _ => rfl) (v := yI (a7)) rfl rfl ?_
        refine yG.load xak rfl (fun _ _ => rfl) (v := yR k1) rfl rfl ?_
        refine yG.load xik rfl (fun _ _ => rfl) (v := yI (a7)) rfl rfl ?_
        refine yG.ialdF A_hq.1 (v_M_island W H_k1) rfl rfl (by omega) (by omega) (fun z4 e_z4 i_z4 l_z4 u_z4 => ?_)
        refine yG.load xik rfl (fun _ _ => rfl) (v := yI (a4)) rfl rfl ?_
        refine yG.icmp rfl (t := 61) rfl ⟨by omega, by omega⟩ ⟨by omega, by omega⟩ (fun c5 => ?_) (fun c5 => ?_)
        · have c5 : (z4 : Int) = a4 := c5
          refine yG.load xik rfl (fun _ _ => rfl) (v := yI (a6)) rfl rfl ?_
          refine yG.goto rfl (t := 70) rfl ?_
          refine yG.iastF A_hq.1 (v_M_island W H_k1) rfl (W.2.1 _ _ H_k1 (by decide) (by decide)) rfl (by omega) (by omega) ⟨by omega, by omega⟩ (by omega) (by omega) (fun h6 T_h6 b_h6 f_h6 y_h6 => ?_)
          have A_h6 := A_hq.put T_h6 b_h6 f_h6 H_k1 (bAll_ok (by decide) _)
          have : ys h6 k1 (a7 : Int).toNat = a6 := (y_h6 k1 _).trans (if_pos ⟨rfl, rfl⟩)
          refine yG.iinc rfl (a := a7) rfl (L' := [(7, yI (a7 + 1)), (0, yR k0), (1, yR k1), (4, yI (a4)), (5, yI (a5)), (6, yI (a6))]) rfl ?_
          refine yG.goto rfl (t := 29) rfl ?_
          exact yG.mono (yG.sub (i_29 (a4) (a5) (a6) (a7 + 1)  h6 A_h6   (by omega) (by omega) (by omega) (by omega) (by omega) (by omega) (by omega) (by omega) (by omega) (by omega) (by omega) (by omega) (by omega) (by omega) (by omega) (by omega) (by omega)) (ySub.cons rfl (ySub.cons rfl (ySub.cons rfl (ySub.cons rfl (ySub.cons rfl (ySub.cons rfl (ySub.nil)))))))) (by omega)
        · have c5 : (z4 : Int) ≠ a4 := c5
          refine yG.load xak rfl (fun _ _ => rfl) (v := yR k1) rfl rfl ?_
          refine yG.load xik rfl (fun _ _ => rfl) (v := yI (a7)) rfl rfl ?_
          refine yG.ialdF A_hq.1 (v_M_island W H_k1) rfl rfl (by omega) (by omega) (fun z7 e_z7 i_z7 l_z7 u_z7 => ?_)
          rw [show (z7 : Int) = z4 by omega]
          refine yG.load xik rfl (fun _ _ => rfl) (v := yI (a5)) rfl rfl ?_
          refine yG.icmp rfl (t := 66) rfl ⟨by omega, by omega⟩ ⟨by omega, by omega⟩ (fun c8 => ?_) (fun c8 => ?_)
          · have c8 : (z4 : Int) ≠ a5 := c8
            refine yG.load xak rfl (fun _ _ => rfl) (v := yR k1) rfl rfl ?_
            refine yG.load xik rfl (fun _ _ => rfl) (v := yI (a7)) rfl rfl ?_
            refine yG.ialdF A_hq.1 (v_M_island W H_k1) rfl rfl (by omega) (by omega) (fun z9 e_z9 i_z9 l_z9 u_z9 => ?_)
            rw [show (z9 : Int) = z4 by omega]
            refine yG.iastF A_hq.1 (v_M_island W H_k1) rfl (W.2.1 _ _ H_k1 (by decide) (by decide)) rfl (by omega) (by omega) ⟨by omega, by omega⟩ (by omega) (by omega) (fun h10 T_h10 b_h10 f_h10 y_h10 => ?_)
            have A_h10 := A_hq.put T_h10 b_h10 f_h10 H_k1 (bAll_ok (by decide) _)
            have : ys h10 k1 (a7 : Int).toNat = z4 := (y_h10 k1 _).trans (if_pos ⟨rfl, rfl⟩)
            refine yG.iinc rfl (a := a7) rfl (L' := [(7, yI (a7 + 1)), (0, yR k0), (1, yR k1), (4, yI (a4)), (5, yI (a5)), (6, yI (a6))]) rfl ?_
            refine yG.goto rfl (t := 29) rfl ?_
            exact yG.mono (yG.sub (i_29 (a4) (a5) (a6) (a7 + 1)  h10 A_h10   (by omega) (by omega) (by omega) (by omega) (by omega) (by omega) (by omega) (by omega) (by omega) (by omega) (by omega) (by omega) (by omega) (by omega) (by omega) (by omega) (by omega)) (ySub.cons rfl (ySub.cons rfl (ySub.cons rfl (ySub.cons rfl (ySub.cons rfl (ySub.cons rfl (ySub.nil)))))))) (by omega)
          · have c8 : (z4 : Int) = a5 := c8
            refine yG.load xik rfl (fun _ _ => rfl) (v := yI (a6)) rfl rfl ?_
            refine yG.goto rfl (t := 70) rfl ?_
            refine yG.iastF A_hq.1 (v_M_island W H_k1) rfl (W.2.1 _ _ H_k1 (by decide) (by decide)) rfl (by omega) (by omega) ⟨by omega, by omega⟩ (by omega) (by omega) (fun h11 T_h11 b_h11 f_h11 y_h11 => ?_)
            have A_h11 := A_hq.put T_h11 b_h11 f_h11 H_k1 (bAll_ok (by decide) _)
            have : ys h11 k1 (a7 : Int).toNat = a6 := (y_h11 k1 _).trans (if_pos ⟨rfl, rfl⟩)
            refine yG.iinc rfl (a := a7) rfl (L' := [(7, yI (a7 + 1)), (0, yR k0), (1, yR k1), (4, yI (a4)), (5, yI (a5)), (6, yI (a6))]) rfl ?_
            refine yG.goto rfl (t := 29) rfl ?_
            exact yG.mono (yG.sub (i_29 (a4) (a5) (a6) (a7 + 1)  h11 A_h11   (by omega) (by omega) (by omega) (by omega) (by omega) (by omega) (by omega) (by omega) (by omega) (by omega) (by omega) (by omega) (by omega) (by omega) (by omega) (by omega) (by omega)) (ySub.cons rfl (ySub.cons rfl (ySub.cons rfl (ySub.cons rfl (ySub.cons rfl (ySub.cons rfl (ySub.nil)))))))) (by omega)
  refine yC.of (M := (xt_X13_merge, (8, (0, (14, []))))) rfl rfl (N := 936) (yfuel (by decide)) ?_
  show yG 89 xfts (xcall 89 xfts xpools xms d) (xpool xp_RX13) [] xt_X13_merge (yP 0 (fun rv hp' => (rv = none ∧ True) ∧ bAx G [(22300745198530623141535718272648361505980416, 256)] hp hp')) 936 0 [(0, yR k0), (1, yR k1), (2, yI (p2)), (3, yI (p3))] [] hp
  have i_29 := H 35
  refine yG.load xak rfl (fun _ _ => rfl) (v := yR k1) rfl rfl ?_
  refine yG.load xik rfl (fun _ _ => rfl) (v := yI (p2)) rfl rfl ?_
  refine yG.ialdF A_hp.1 (v_M_island W H_k1) rfl rfl (by omega) (by omega) (fun z1 e_z1 i_z1 l_z1 u_z1 => ?_)
  refine yG.store1 xik (L' := [(4, yI (z1)), (0, yR k0), (1, yR k1), (2, yI (p2)), (3, yI (p3))]) rfl (fun _ _ => rfl) rfl rfl ?_
  refine yG.load xak rfl (fun _ _ => rfl) (v := yR k1) rfl rfl ?_
  refine yG.load xik rfl (fun _ _ => rfl) (v := yI (p3)) rfl rfl ?_
  refine yG.ialdF A_hp.1 (v_M_island W H_k1) rfl rfl (by omega) (by omega) (fun z2 e_z2 i_z2 l_z2 u_z2 => ?_)
  refine yG.store1 xik (L' := [(5, yI (z2)), (4, yI (z1)), (0, yR k0), (1, yR k1), (2, yI (p2)), (3, yI (p3))]) rfl (fun _ _ => rfl) rfl rfl ?_
  refine yG.load xik rfl (fun _ _ => rfl) (v := yI (z1)) rfl rfl ?_
  refine yG.load xik rfl (fun _ _ => rfl) (v := yI (z2)) rfl rfl ?_
  refine yG.icmp rfl (t := 22) rfl ⟨by omega, by omega⟩ ⟨by omega, by omega⟩ (fun c3 => ?_) (fun c3 => ?_)
  · have c3 : (z1 : Int) ≥ z2 := c3
    refine yG.load xik rfl (fun _ _ => rfl) (v := yI (z2)) rfl rfl ?_
    refine yG.store1 xik (L' := [(6, yI (z2)), (5, yI (z2)), (4, yI (z1)), (0, yR k0), (1, yR k1), (2, yI (p2)), (3, yI (p3))]) rfl (fun _ _ => rfl) rfl rfl ?_
    refine yG.num (c := 0) rfl (fun _ _ => rfl) (by decide) ?_
    refine yG.store1 xik (L' := [(7, yI (0)), (6, yI (z2)), (5, yI (z2)), (4, yI (z1)), (0, yR k0), (1, yR k1), (2, yI (p2)), (3, yI (p3))]) rfl (fun _ _ => rfl) rfl rfl ?_
    exact yG.mono (yG.sub (i_29 (z1) (z2) (z2) (0)  hp A_hp   (by omega) (by omega) (by omega) (by omega) (by omega) (by omega) (by omega) (by omega) (by omega) (by omega) (by omega) (by omega) (by omega) (by omega) (by omega) (by omega) (by omega)) (ySub.cons rfl (ySub.cons rfl (ySub.cons rfl (ySub.cons rfl (ySub.cons rfl (ySub.cons rfl (ySub.nil)))))))) (by omega)
  · have c3 : (z1 : Int) < z2 := c3
    refine yG.load xik rfl (fun _ _ => rfl) (v := yI (z1)) rfl rfl ?_
    refine yG.goto rfl (t := 24) rfl ?_
    refine yG.store1 xik (L' := [(6, yI (z1)), (5, yI (z2)), (4, yI (z1)), (0, yR k0), (1, yR k1), (2, yI (p2)), (3, yI (p3))]) rfl (fun _ _ => rfl) rfl rfl ?_
    refine yG.num (c := 0) rfl (fun _ _ => rfl) (by decide) ?_
    refine yG.store1 xik (L' := [(7, yI (0)), (6, yI (z1)), (5, yI (z2)), (4, yI (z1)), (0, yR k0), (1, yR k1), (2, yI (p2)), (3, yI (p3))]) rfl (fun _ _ => rfl) rfl rfl ?_
    exact yG.mono (yG.sub (i_29 (z1) (z2) (z1) (0)  hp A_hp   (by omega) (by omega) (by omega) (by omega) (by omega) (by omega) (by omega) (by omega) (by omega) (by omega) (by omega) (by omega) (by omega) (by omega) (by omega) (by omega) (by omega)) (ySub.cons rfl (ySub.cons rfl (ySub.cons rfl (ySub.cons rfl (ySub.cons rfl (ySub.cons rfl (ySub.nil)))))))) (by omega)
theorem c_GModel_listNodes {hp : xH} (W : mW G) (d : Nat) (hT : zTy G hp) {k0 : Nat} (H_k0 : bRo G 116 k0) (p1 : Int) (h1l : (-1) ≤ p1) (h1u : p1 ≤ 15) : yC (xcall 89 xfts xpools xms (d + 1)) 445 [yR k0, yI (p1)] hp (fun rv hp' => (rv = none ∧ True) ∧ bAx G [(83076749736557242056487941267521536, 38), (267608942382367477698428619271780338071764992, 256)] hp hp') := by
  have A_hp : bAx G [(83076749736557242056487941267521536, 38), (267608942382367477698428619271780338071764992, 256)] hp hp := bAx.rf hT
  have H : ∀ m : Nat, (∀ a2 : Int, ∀ gg0 : Int, ∀ hq, bAx G [(83076749736557242056487941267521536, 38), (267608942382367477698428619271780338071764992, 256)] hp hq → ys hq k0 38 = gg0 → 0 ≤ a2 → (-16) ≤ 0 - a2 → 0 ≤ gg0 → (-16) ≤ 0 - gg0 → (-1) ≤ p1 → (-15) ≤ 0 - p1 → 0 ≤ a2 - gg0 → (-16) ≤ 0 - gg0 + p1 → 0 - 2 * a2 + 33 < (m : Int) → yG 89 xfts (xcall 89 xfts xpools xms d) (xpool xp_RX13) [] xt_X13_listNodes (yP 0 (fun rv hp' => (rv = none ∧ True) ∧ bAx G [(83076749736557242056487941267521536, 38), (267608942382367477698428619271780338071764992, 256)] hp hp')) (42 * m) 7 [(0, yR k0), (1, yI (p1)), (2, yI (a2))] [] hq) := by
    intro m
    induction m with
    | zero =>
      intros; exfalso; omega
    | succ m ih =>
      have i_7 := ih
      clear ih
      intro a2 gg0 hq A_hq E_0 f0 f1 f2 f3 f4 f5 f6 f7 hm
      refine yG.mono (N := 42 * m + 42) ?_ (by omega)
      obtain ⟨-, -, g_0l, g_0u⟩ := (w_M_nodes W H_k0).int A_hq.1
      refine yG.load xik rfl (fun _ _ => rfl) (v := yI (a2)) rfl rfl ?_
      refine yG.load xak rfl (fun _ _ => rfl) (v := yR k0) rfl rfl ?_
      refine yG.getO A_hq.1 (w_M_count W H_k0) rfl rfl (fun r1 H_r1 O_r1 q_r1 => ?_)
      refine yG.num (c := 0) rfl (fun _ _ => rfl) (by decide) ?_
      refine yG.ialdF A_hq.1 (v_M_count W H_r1) rfl rfl (by omega) (by omega) (fun z2 e_z2 i_z2 l_z2 u_z2 => ?_)
      refine yG.icmp rfl (t := 75) rfl ⟨by omega, by omega⟩ ⟨by omega, by omega⟩ (fun c3 => ?_) (fun c3 => ?_)
      · have c3 : (a2 : Int) ≥ z2 := c3
        refine yG.ret rfl (fun _ _ => rfl) ?_
        exact (yP.void ⟨⟨rfl, trivial⟩, A_hq⟩)
      · have c3 : (a2 : Int) < z2 := c3
        refine yG.load xak rfl (fun _ _ => rfl) (v := yR k0) rfl rfl ?_
        refine yG.getO A_hq.1 (w_M_island W H_k0) rfl rfl (fun r4 H_r4 O_r4 q_r4 => ?_)
        refine yG.load xik rfl (fun _ _ => rfl) (v := yI (a2)) rfl rfl ?_
        refine yG.ialdF A_hq.1 (v_M_island W H_r4) rfl rfl (by omega) (by omega) (fun z5 e_z5 i_z5 l_z5 u_z5 => ?_)
        refine yG.load xik rfl (fun _ _ => rfl) (v := yI (p1)) rfl rfl ?_
        refine yG.icmp rfl (t := 69) rfl ⟨by omega, by omega⟩ ⟨by omega, by omega⟩ (fun c6 => ?_) (fun c6 => ?_)
        · have c6 : (z5 : Int) ≠ p1 := c6
          refine yG.iinc rfl (a := a2) rfl (L' := [(2, yI (a2 + 1)), (0, yR k0), (1, yI (p1))]) rfl ?_
          refine yG.goto rfl (t := 7) rfl ?_
          exact yG.mono (yG.sub (i_7 (a2 + 1) (ys hq k0 38) hq A_hq  rfl (by omega) (by omega) (by omega) (by omega) (by omega) (by omega) (by omega) (by omega) (by omega)) (ySub.cons rfl (ySub.cons rfl (ySub.cons rfl (ySub.nil))))) (by omega)
        · have c6 : (z5 : Int) = p1 := c6
          refine yG.load xak rfl (fun _ _ => rfl) (v := yR k0) rfl rfl ?_
          refine yG.getO A_hq.1 (w_M_node W H_k0) rfl rfl (fun r7 H_r7 O_r7 q_r7 => ?_)
          refine yG.load xik rfl (fun _ _ => rfl) (v := yI (a2)) rfl rfl ?_
          refine yG.ialdF A_hq.1 (v_M_node W H_r7) rfl rfl (by omega) (by omega) (fun z8 e_z8 i_z8 l_z8 u_z8 => ?_)
          refine yG.load xik rfl (fun _ _ => rfl) (v := yI (a2)) rfl rfl ?_
          refine yG.icmp rfl (t := 69) rfl ⟨by omega, by omega⟩ ⟨by omega, by omega⟩ (fun c9 => ?_) (fun c9 => ?_)
          · have c9 : (z8 : Int) ≠ a2 := c9
            refine yG.iinc rfl (a := a2) rfl (L' := [(2, yI (a2 + 1)), (0, yR k0), (1, yI (p1))]) rfl ?_
            refine yG.goto rfl (t := 7) rfl ?_
            exact yG.mono (yG.sub (i_7 (a2 + 1) (ys hq k0 38) hq A_hq  rfl (by omega) (by omega) (by omega) (by omega) (by omega) (by omega) (by omega) (by omega) (by omega)) (ySub.cons rfl (ySub.cons rfl (ySub.cons rfl (ySub.nil))))) (by omega)
          · have c9 : (z8 : Int) = a2 := c9
            refine yG.load xak rfl (fun _ _ => rfl) (v := yR k0) rfl rfl ?_
            refine yG.getO A_hq.1 (w_M_nodeAt W H_k0) rfl rfl (fun r10 H_r10 O_r10 q_r10 => ?_)
            refine yG.load xak rfl (fun _ _ => rfl) (v := yR k0) rfl rfl ?_
            refine yG.getI A_hq.1 (w_M_nodes W H_k0) rfl rfl (fun z11 e_z11 i_z11 l_z11 u_z11 => ?_)
            rw [show (z11 : Int) = gg0 by omega]
            refine yG.load xik rfl (fun _ _ => rfl) (v := yI (a2)) rfl rfl ?_
            refine yG.iast A_hq.1 (v_M_nodeAt W H_r10) (W.2.1 _ _ H_r10 (by decide) (by decide)) rfl (by omega) (by omega) ⟨by omega, by omega⟩ (by omega) (by omega) (fun h12 T_h12 b_h12 f_h12 y_h12 => ?_)
            have A_h12 := A_hq.put T_h12 b_h12 f_h12 H_r10 (bAll_ok (by decide) _)
            have : ys h12 k0 38 = ys hq k0 38 := (y_h12 k0 38).trans (if_neg (fun e => (bRo.ne H_k0 H_r10 (by decide)) e.1))
            refine yG.load xak rfl (fun _ _ => rfl) (v := yR k0) rfl rfl ?_
            refine yG.getO A_h12.1 (w_M_placeOf W H_k0) rfl rfl (fun r13 H_r13 O_r13 q_r13 => ?_)
            refine yG.load xik rfl (fun _ _ => rfl) (v := yI (a2)) rfl rfl ?_
            refine yG.load xak rfl (fun _ _ => rfl) (v := yR k0) rfl rfl ?_
            refine yG.getI A_h12.1 (w_M_nodes W H_k0) rfl rfl (fun z14 e_z14 i_z14 l_z14 u_z14 => ?_)
            rw [show (z14 : Int) = gg0 by omega]
            refine yG.num (c := 1) rfl (fun _ _ => rfl) (by decide) ?_
            refine yG.isub rfl ?_
            refine yG.iast A_h12.1 (v_M_placeOf W H_r13) (W.2.1 _ _ H_r13 (by decide) (by decide)) rfl (by omega) (by omega) ⟨by omega, by omega⟩ (by omega) (by omega) (fun h15 T_h15 b_h15 f_h15 y_h15 => ?_)
            have A_h15 := A_h12.put T_h15 b_h15 f_h15 H_r13 (bAll_ok (by decide) _)
            have : ys h15 k0 38 = ys h12 k0 38 := (y_h15 k0 38).trans (if_neg (fun e => (bRo.ne H_k0 H_r13 (by decide)) e.1))
            refine yG.load xak rfl (fun _ _ => rfl) (v := yR k0) rfl rfl ?_
            refine yG.step (pc' := 61) (stk' := [yR k0, yR k0]) rfl (fun _ _ => rfl) ?_
            refine yG.getI A_h15.1 (w_M_nodes W H_k0) rfl rfl (fun z16 e_z16 i_z16 l_z16 u_z16 => ?_)
            rw [show (z16 : Int) = gg0 by omega]
            refine yG.num (c := 1) rfl (fun _ _ => rfl) (by decide) ?_
            refine yG.iadd rfl ?_
            refine yG.putI A_h15.1 (w_M_nodes W H_k0) (W.2.1 _ _ H_k0 (by decide) (by decide)) rfl rfl (.inl rfl) ⟨by omega, by omega⟩ (by omega) (by omega) (fun h17 T_h17 b_h17 f_h17 y_h17 => ?_)
            have A_h17 := A_h15.put T_h17 b_h17 f_h17 H_k0 (by decide)
            have : ys h17 k0 38 = gg0 + 1 := (y_h17 k0 38).trans (if_pos ⟨rfl, rfl⟩)
            refine yG.iinc rfl (a := a2) rfl (L' := [(2, yI (a2 + 1)), (0, yR k0), (1, yI (p1))]) rfl ?_
            refine yG.goto rfl (t := 7) rfl ?_
            exact yG.mono (yG.sub (i_7 (a2 + 1) (ys h17 k0 38) h17 A_h17  rfl (by omega) (by omega) (by omega) (by omega) (by omega) (by omega) (by omega) (by omega) (by omega)) (ySub.cons rfl (ySub.cons rfl (ySub.cons rfl (ySub.nil))))) (by omega)
  refine yC.of (M := (xt_X13_listNodes, (3, (0, (14, []))))) rfl rfl (N := 1512) (yfuel (by decide)) ?_
  show yG 89 xfts (xcall 89 xfts xpools xms d) (xpool xp_RX13) [] xt_X13_listNodes (yP 0 (fun rv hp' => (rv = none ∧ True) ∧ bAx G [(83076749736557242056487941267521536, 38), (267608942382367477698428619271780338071764992, 256)] hp hp')) 1512 0 [(0, yR k0), (1, yI (p1))] [] hp
  have i_7 := H 35
  obtain ⟨gg0, E_0⟩ : ∃ z : Int, ys hp k0 38 = z := ⟨_, rfl⟩
  obtain ⟨-, -, g_0l, g_0u⟩ := (w_M_nodes W H_k0).int hT
  refine yG.load xak rfl (fun _ _ => rfl) (v := yR k0) rfl rfl ?_
  refine yG.num (c := 0) rfl (fun _ _ => rfl) (by decide) ?_
  refine yG.putI A_hp.1 (w_M_nodes W H_k0) (W.2.1 _ _ H_k0 (by decide) (by decide)) rfl rfl (.inl rfl) ⟨by omega, by omega⟩ (by omega) (by omega) (fun h1 T_h1 b_h1 f_h1 y_h1 => ?_)
  have A_h1 := A_hp.put T_h1 b_h1 f_h1 H_k0 (by decide)
  have : ys h1 k0 38 = 0 := (y_h1 k0 38).trans (if_pos ⟨rfl, rfl⟩)
  refine yG.num (c := 0) rfl (fun _ _ => rfl) (by decide) ?_
  refine yG.store1 xik (L' := [(2, yI (0)), (0, yR k0), (1, yI (p1))]) rfl (fun _ _ => rfl) rfl rfl ?_
  exact yG.mono (yG.sub (i_7 (0) (ys h1 k0 38) h1 A_h1  rfl (by omega) (by omega) (by omega) (by omega) (by omega) (by omega) (by omega) (by omega) (by omega)) (ySub.cons rfl (ySub.cons rfl (ySub.cons rfl (ySub.nil))))) (by omega)
theorem c_GModel_swap {hp : xH} (W : mW G) (d : Nat) (hT : zTy G hp) {k0 : Nat} (H_k0 : bRo G 116 k0) (p1 p2 p3 : Int) (h1l : 0 ≤ p1) (h1u : p1 ≤ 19) (h2l : 0 ≤ p2) (h2u : p2 ≤ 19) (h3l : (-1) ≤ p3) (h3u : p3 ≤ 48) : yC (xcall 89 xfts xpools xms (d + 1)) 524 [yR k0, yI (p1), yI (p2), yI (p3)] hp (fun rv hp' => (rv = none ∧ True) ∧ bAx G [(85070591730234615865843651857942052864, 256)] hp hp') := by
  have A_hp : bAx G [(85070591730234615865843651857942052864, 256)] hp hp := bAx.rf hT
  have H : ∀ m : Nat, (∀ a4 : Int, ∀ hq, bAx G [(85070591730234615865843651857942052864, 256)] hp hq → 0 ≤ a4 → (-48) ≤ 0 - a4 → 0 ≤ p1 → (-19) ≤ 0 - p1 → 0 ≤ p2 → (-19) ≤ 0 - p2 → (-1) ≤ p3 → (-48) ≤ 0 - p3 → (-1) ≤ 0 - a4 + p3 → 0 - 2 * a4 + 97 < (m : Int) → yG 89 xfts (xcall 89 xfts xpools xms d) (xpool xp_RX13) [] xt_X13_swap (yP 0 (fun rv hp' => (rv = none ∧ True) ∧ bAx G [(85070591730234615865843651857942052864, 256)] hp hp')) (41 * m) 3 [(0, yR k0), (1, yI (p1)), (2, yI (p2)), (3, yI (p3)), (4, yI (a4))] [] hq) := by
    intro m
    induction m with
    | zero =>
      intros; exfalso; omega
    | succ m ih =>
      have i_3 := ih
      clear ih
      intro a4 hq A_hq f0 f1 f2 f3 f4 f5 f6 f7 f8 hm
      refine yG.mono (N := 41 * m + 41) ?_ (by omega)
      refine yG.load xik rfl (fun _ _ => rfl) (v := yI (a4)) rfl rfl ?_
      refine yG.load xik rfl (fun _ _ => rfl) (v := yI (p3)) rfl rfl ?_
      refine yG.icmp rfl (t := 67) rfl ⟨by omega, by omega⟩ ⟨by omega, by omega⟩ (fun c1 => ?_) (fun c1 => ?_)
      · have c1 : (a4 : Int) ≥ p3 := c1
        refine yG.ret rfl (fun _ _ => rfl) ?_
        exact (yP.void ⟨⟨rfl, trivial⟩, A_hq⟩)
      · have c1 : (a4 : Int) < p3 := c1
        refine yG.load xak rfl (fun _ _ => rfl) (v := yR k0) rfl rfl ?_
        refine yG.getO A_hq.1 (w_M_matrix W H_k0) rfl rfl (fun r2 H_r2 O_r2 q_r2 => ?_)
        refine yG.num (c := 48) rfl (fun _ _ => rfl) (by decide) ?_
        refine yG.load xik rfl (fun _ _ => rfl) (v := yI (p1)) rfl rfl ?_
        refine yG.imul rfl ?_
        refine yG.load xik rfl (fun _ _ => rfl) (v := yI (a4)) rfl rfl ?_
        refine yG.iadd rfl ?_
        refine yG.lald A_hq.1 (v_M_matrix W H_r2) rfl (by omega) (by omega) (fun z3 e_z3 i_z3 l_z3 u_z3 => ?_)
        refine yG.store2 xlk2 (L' := [(5, yJ (z3)), (0, yR k0), (1, yI (p1)), (2, yI (p2)), (3, yI (p3)), (4, yI (a4))]) rfl (fun _ _ => rfl) rfl rfl ?_
        refine yG.load xak rfl (fun _ _ => rfl) (v := yR k0) rfl rfl ?_
        refine yG.getS9 A_hq.1 (w_M_matrix W H_k0) q_r2 rfl rfl ?_
        refine yG.num (c := 48) rfl (fun _ _ => rfl) (by decide) ?_
        refine yG.load xik rfl (fun _ _ => rfl) (v := yI (p1)) rfl rfl ?_
        refine yG.imul rfl ?_
        refine yG.load xik rfl (fun _ _ => rfl) (v := yI (a4)) rfl rfl ?_
        refine yG.iadd rfl ?_
        refine yG.load xak rfl (fun _ _ => rfl) (v := yR k0) rfl rfl ?_
        refine yG.getS9 A_hq.1 (w_M_matrix W H_k0) q_r2 rfl rfl ?_
        refine yG.num (c := 48) rfl (fun _ _ => rfl) (by decide) ?_
        refine yG.load xik rfl (fun _ _ => rfl) (v := yI (p2)) rfl rfl ?_
        refine yG.imul rfl ?_
        refine yG.load xik rfl (fun _ _ => rfl) (v := yI (a4)) rfl rfl ?_
        refine yG.iadd rfl ?_
        refine yG.lald A_hq.1 (v_M_matrix W H_r2) rfl (by omega) (by omega) (fun z4 e_z4 i_z4 l_z4 u_z4 => ?_)
        refine yG.last A_hq.1 (v_M_matrix W H_r2) (W.2.1 _ _ H_r2 (by decide) (by decide)) rfl (by omega) (by omega) ⟨by omega, by omega⟩ (by omega) (by omega) (fun h5 T_h5 b_h5 f_h5 y_h5 => ?_)
        have A_h5 := A_hq.put T_h5 b_h5 f_h5 H_r2 (bAll_ok (by decide) _)
        have qq1 : zsl h5 k0 12 = yR r2 := ((f_h5 k0 12).trans (if_neg (fun e => (bRo.ne H_k0 H_r2 (by decide)) e.1))).trans q_r2
        refine yG.load xak rfl (fun _ _ => rfl) (v := yR k0) rfl rfl ?_
        refine yG.getS9 A_h5.1 (w_M_matrix W H_k0) qq1 rfl rfl ?_
        refine yG.num (c := 48) rfl (fun _ _ => rfl) (by decide) ?_
        refine yG.load xik rfl (fun _ _ => rfl) (v := yI (p2)) rfl rfl ?_
        refine yG.imul rfl ?_
        refine yG.load xik rfl (fun _ _ => rfl) (v := yI (a4)) rfl rfl ?_
        refine yG.iadd rfl ?_
        refine yG.load xlk2 rfl (fun _ _ => rfl) (v := yJ (z3)) rfl rfl ?_
        refine yG.last A_h5.1 (v_M_matrix W H_r2) (W.2.1 _ _ H_r2 (by decide) (by decide)) rfl (by omega) (by omega) ⟨by omega, by omega⟩ (by omega) (by omega) (fun h6 T_h6 b_h6 f_h6 y_h6 => ?_)
        have A_h6 := A_h5.put T_h6 b_h6 f_h6 H_r2 (bAll_ok (by decide) _)
        have qq2 : zsl h6 k0 12 = yR r2 := ((f_h6 k0 12).trans (if_neg (fun e => (bRo.ne H_k0 H_r2 (by decide)) e.1))).trans qq1
        refine yG.iinc rfl (a := a4) rfl (L' := [(4, yI (a4 + 1)), (5, yJ (z3)), (0, yR k0), (1, yI (p1)), (2, yI (p2)), (3, yI (p3))]) rfl ?_
        refine yG.goto rfl (t := 3) rfl ?_
        exact yG.mono (yG.sub (i_3 (a4 + 1)  h6 A_h6   (by omega) (by omega) (by omega) (by omega) (by omega) (by omega) (by omega) (by omega) (by omega) (by omega)) (ySub.cons rfl (ySub.cons rfl (ySub.cons rfl (ySub.cons rfl (ySub.cons rfl (ySub.nil))))))) (by omega)
  refine yC.of (M := (xt_X13_swap, (7, (0, (14, []))))) rfl rfl (N := 4100) (yfuel (by decide)) ?_
  show yG 89 xfts (xcall 89 xfts xpools xms d) (xpool xp_RX13) [] xt_X13_swap (yP 0 (fun rv hp' => (rv = none ∧ True) ∧ bAx G [(85070591730234615865843651857942052864, 256)] hp hp')) 4100 0 [(0, yR k0), (1, yI (p1)), (2, yI (p2)), (3, yI (p3))] [] hp
  have i_3 := H 99
  refine yG.num (c := 0) rfl (fun _ _ => rfl) (by decide) ?_
  refine yG.store1 xik (L' := [(4, yI (0)), (0, yR k0), (1, yI (p1)), (2, yI (p2)), (3, yI (p3))]) rfl (fun _ _ => rfl) rfl rfl ?_
  exact yG.mono (yG.sub (i_3 (0)  hp A_hp   (by omega) (by omega) (by omega) (by omega) (by omega) (by omega) (by omega) (by omega) (by omega) (by omega)) (ySub.cons rfl (ySub.cons rfl (ySub.cons rfl (ySub.cons rfl (ySub.cons rfl (ySub.nil))))))) (by omega)
theorem c_GModel_isDue {hp : xH} (W : mW G) (d : Nat) (hT : zTy G hp) {k0 : Nat} (H_k0 : bRo G 116 k0) (p1 p2 : Int) (h1l : 0 ≤ p1) (h1u : p1 ≤ 15) (h2l : 0 ≤ p2) (h2u : p2 ≤ 3) : yC (xcall 89 xfts xpools xms (d + 1)) 426 [yR k0, yI (p1), yI (p2)] hp (bQpi hp 0 1 (fun _ => True)) := by
  have A_hp : bAx G [] hp hp := bAx.rf hT
  refine yC.of (M := (xt_X13_isDue, (3, (4, (14, []))))) rfl rfl (N := 75) (yfuel (by decide)) ?_
  show yG 89 xfts (xcall 89 xfts xpools xms d) (xpool xp_RX13) [] xt_X13_isDue (yP 4 (bQpi hp 0 1 (fun _ => True))) 75 0 [(0, yR k0), (1, yI (p1)), (2, yI (p2))] [] hp
  refine yG.load xak rfl (fun _ _ => rfl) (v := yR k0) rfl rfl ?_
  refine yG.getO A_hp.1 (w_M_since W H_k0) rfl rfl (fun r1 H_r1 O_r1 q_r1 => ?_)
  refine yG.num (c := 4) rfl (fun _ _ => rfl) (by decide) ?_
  refine yG.load xik rfl (fun _ _ => rfl) (v := yI (p1)) rfl rfl ?_
  refine yG.imul rfl ?_
  refine yG.load xik rfl (fun _ _ => rfl) (v := yI (p2)) rfl rfl ?_
  refine yG.iadd rfl ?_
  refine yG.lald A_hp.1 (v_M_since W H_r1) rfl (by omega) (by omega) (fun z2 e_z2 i_z2 l_z2 u_z2 => ?_)
  refine yG.numl (c := 0) rfl (fun _ _ => rfl) (by decide) ?_
  refine yG.lcmp rfl ⟨by omega, by omega⟩ ⟨by omega, by omega⟩ (fun z3 e_z3 => ?_)
  refine yG.ifz rfl (t := 32) rfl ⟨by omega, by omega⟩ (fun c4 => ?_) (fun c4 => ?_)
  · have c4 : (z3 : Int) < 0 := c4
    refine yG.num (c := 0) rfl (fun _ _ => rfl) (by decide) ?_
    refine yG.ret rfl (fun _ _ => rfl) ?_
    exact (yP.bool (by omega) ⟨⟨0, rfl, by omega, by omega, trivial⟩, rfl⟩)
  · have c4 : (z3 : Int) ≥ 0 := c4
    refine yG.load xak rfl (fun _ _ => rfl) (v := yR k0) rfl rfl ?_
    refine yG.getO A_hp.1 (w_M_hasTripped W H_k0) rfl rfl (fun r5 H_r5 O_r5 q_r5 => ?_)
    refine yG.num (c := 4) rfl (fun _ _ => rfl) (by decide) ?_
    refine yG.load xik rfl (fun _ _ => rfl) (v := yI (p1)) rfl rfl ?_
    refine yG.imul rfl ?_
    refine yG.load xik rfl (fun _ _ => rfl) (v := yI (p2)) rfl rfl ?_
    refine yG.iadd rfl ?_
    refine yG.bald A_hp.1 (v_M_hasTripped W H_r5) rfl (by omega) (by omega) (fun z6 e_z6 i_z6 l_z6 u_z6 => ?_)
    refine yG.ifz rfl (t := 32) rfl ⟨by omega, by omega⟩ (fun c7 => ?_) (fun c7 => ?_)
    · have c7 : (z6 : Int) ≠ 0 := c7
      refine yG.num (c := 0) rfl (fun _ _ => rfl) (by decide) ?_
      refine yG.ret rfl (fun _ _ => rfl) ?_
      exact (yP.bool (by omega) ⟨⟨0, rfl, by omega, by omega, trivial⟩, rfl⟩)
    · have c7 : (z6 : Int) = 0 := c7
      refine yG.num (c := 1) rfl (fun _ _ => rfl) (by decide) ?_
      refine yG.goto rfl (t := 33) rfl ?_
      refine yG.ret rfl (fun _ _ => rfl) ?_
      exact (yP.bool (by omega) ⟨⟨1, rfl, by omega, by omega, trivial⟩, rfl⟩)
theorem c_GModel_of_0_0 {hp : xH} (W : mW G) (d : Nat) (hT : zTy G hp) {k0 : Nat} (H_k0 : bRo G 116 k0) (p2 : Int) (h2l : 0 ≤ p2) (h2u : p2 ≤ 23) : yC (xcall 89 xfts xpools xms (d + 2)) 471 [yR k0, yI (0), yI (p2), yI (0)] hp (bQpi hp 0 1 (fun _ => True)) := by
  have A_hp : bAx G [] hp hp := bAx.rf hT
  refine yC.of (M := (xt_X13_of, (4, (1, (14, []))))) rfl rfl (N := 30) (yfuel (by decide)) ?_
  show yG 89 xfts (xcall 89 xfts xpools xms (d + 1)) (xpool xp_RX13) [] xt_X13_of (yP 1 (bQpi hp 0 1 (fun _ => True))) 30 0 [(0, yR k0), (1, yI (0)), (2, yI (p2)), (3, yI (0))] [] hp
  refine yG.load xak rfl (fun _ _ => rfl) (v := yR k0) rfl rfl ?_
  refine yG.getO A_hp.1 (w_M_field W H_k0) rfl rfl (fun r1 H_r1 O_r1 q_r1 => ?_)
  refine yG.load xik rfl (fun _ _ => rfl) (v := yI (0)) rfl rfl ?_
  refine yG.load xik rfl (fun _ _ => rfl) (v := yI (p2)) rfl rfl ?_
  refine yG.load xik rfl (fun _ _ => rfl) (v := yI (0)) rfl rfl ?_
  refine yG.invS (rest := [yR r1]) rfl rfl rfl rfl (c_GModel_f W d A_hp.1 (0) (p2) (0) (by omega) (by omega) (by omega) (by omega) (by omega) (by omega)) (fun rv hp9 q9 => ?_)
  obtain ⟨⟨z2, rfl, l_z2, u_z2, R_z2⟩, e9⟩ := q9
  rw [e9]
  show yG _ _ _ _ _ _ _ _ _ _ (yI z2 :: [yR r1]) _
  refine yG.ialdF A_hp.1 (v_M_field W H_r1) (lo := 0) (hi := 1) ((yfT_ix (s := 0) (k := 0) (by omega) (by omega) (by omega) (by decide)).trans rfl) rfl (by omega) (by omega) (fun z3 e_z3 i_z3 l_z3 u_z3 => ?_)
  refine yG.ret rfl (fun _ _ => rfl) ?_
  exact (yP.int ⟨by omega, by omega⟩ ⟨⟨z3, rfl, by omega, by omega, trivial⟩, rfl⟩)
theorem c_GModel_of_1_0 {hp : xH} (W : mW G) (d : Nat) (hT : zTy G hp) {k0 : Nat} (H_k0 : bRo G 116 k0) (p2 : Int) (h2l : 0 ≤ p2) (h2u : p2 ≤ 23) : yC (xcall 89 xfts xpools xms (d + 2)) 471 [yR k0, yI (1), yI (p2), yI (0)] hp (bQpi hp 0 2 (fun _ => True)) := by
  have A_hp : bAx G [] hp hp := bAx.rf hT
  refine yC.of (M := (xt_X13_of, (4, (1, (14, []))))) rfl rfl (N := 30) (yfuel (by decide)) ?_
  show yG 89 xfts (xcall 89 xfts xpools xms (d + 1)) (xpool xp_RX13) [] xt_X13_of (yP 1 (bQpi hp 0 2 (fun _ => True))) 30 0 [(0, yR k0), (1, yI (1)), (2, yI (p2)), (3, yI (0))] [] hp
  refine yG.load xak rfl (fun _ _ => rfl) (v := yR k0) rfl rfl ?_
  refine yG.getO A_hp.1 (w_M_field W H_k0) rfl rfl (fun r1 H_r1 O_r1 q_r1 => ?_)
  refine yG.load xik rfl (fun _ _ => rfl) (v := yI (1)) rfl rfl ?_
  refine yG.load xik rfl (fun _ _ => rfl) (v := yI (p2)) rfl rfl ?_
  refine yG.load xik rfl (fun _ _ => rfl) (v := yI (0)) rfl rfl ?_
  refine yG.invS (rest := [yR r1]) rfl rfl rfl rfl (c_GModel_f W d A_hp.1 (1) (p2) (0) (by omega) (by omega) (by omega) (by omega) (by omega) (by omega)) (fun rv hp9 q9 => ?_)
  obtain ⟨⟨z2, rfl, l_z2, u_z2, R_z2⟩, e9⟩ := q9
  rw [e9]
  show yG _ _ _ _ _ _ _ _ _ _ (yI z2 :: [yR r1]) _
  refine yG.ialdF A_hp.1 (v_M_field W H_r1) (lo := 0) (hi := 2) ((yfT_ix (s := 1) (k := 0) (by omega) (by omega) (by omega) (by decide)).trans rfl) rfl (by omega) (by omega) (fun z3 e_z3 i_z3 l_z3 u_z3 => ?_)
  refine yG.ret rfl (fun _ _ => rfl) ?_
  exact (yP.int ⟨by omega, by omega⟩ ⟨⟨z3, rfl, by omega, by omega, trivial⟩, rfl⟩)
theorem c_GModel_of_1_1 {hp : xH} (W : mW G) (d : Nat) (hT : zTy G hp) {k0 : Nat} (H_k0 : bRo G 116 k0) (p2 : Int) (h2l : 0 ≤ p2) (h2u : p2 ≤ 23) : yC (xcall 89 xfts xpools xms (d + 2)) 471 [yR k0, yI (1), yI (p2), yI (1)] hp (bQpi hp 0 999999 (fun _ => True)) := by
  have A_hp : bAx G [] hp hp := bAx.rf hT
  refine yC.of (M := (xt_X13_of, (4, (1, (14, []))))) rfl rfl (N := 30) (yfuel (by decide)) ?_
  show yG 89 xfts (xcall 89 xfts xpools xms (d + 1)) (xpool xp_RX13) [] xt_X13_of (yP 1 (bQpi hp 0 999999 (fun _ => True))) 30 0 [(0, yR k0), (1, yI (1)), (2, yI (p2)), (3, yI (1))] [] hp
  refine yG.load xak rfl (fun _ _ => rfl) (v := yR k0) rfl rfl ?_
  refine yG.getO A_hp.1 (w_M_field W H_k0) rfl rfl (fun r1 H_r1 O_r1 q_r1 => ?_)
  refine yG.load xik rfl (fun _ _ => rfl) (v := yI (1)) rfl rfl ?_
  refine yG.load xik rfl (fun _ _ => rfl) (v := yI (p2)) rfl rfl ?_
  refine yG.load xik rfl (fun _ _ => rfl) (v := yI (1)) rfl rfl ?_
  refine yG.invS (rest := [yR r1]) rfl rfl rfl rfl (c_GModel_f W d A_hp.1 (1) (p2) (1) (by omega) (by omega) (by omega) (by omega) (by omega) (by omega)) (fun rv hp9 q9 => ?_)
  obtain ⟨⟨z2, rfl, l_z2, u_z2, R_z2⟩, e9⟩ := q9
  rw [e9]
  show yG _ _ _ _ _ _ _ _ _ _ (yI z2 :: [yR r1]) _
  refine yG.ialdF A_hp.1 (v_M_field W H_r1) (lo := 0) (hi := 999999) ((yfT_ix (s := 1) (k := 1) (by omega) (by omega) (by omega) (by decide)).trans rfl) rfl (by omega) (by omega) (fun z3 e_z3 i_z3 l_z3 u_z3 => ?_)
  refine yG.ret rfl (fun _ _ => rfl) ?_
  exact (yP.int ⟨by omega, by omega⟩ ⟨⟨z3, rfl, by omega, by omega, trivial⟩, rfl⟩)
theorem c_GModel_of_1_2 {hp : xH} (W : mW G) (d : Nat) (hT : zTy G hp) {k0 : Nat} (H_k0 : bRo G 116 k0) (p2 : Int) (h2l : 0 ≤ p2) (h2u : p2 ≤ 23) : yC (xcall 89 xfts xpools xms (d + 2)) 471 [yR k0, yI (1), yI (p2), yI (2)] hp (bQpi hp 0 1 (fun _ => True)) := by
  have A_hp : bAx G [] hp hp := bAx.rf hT
  refine yC.of (M := (xt_X13_of, (4, (1, (14, []))))) rfl rfl (N := 30) (yfuel (by decide)) ?_
  show yG 89 xfts (xcall 89 xfts xpools xms (d + 1)) (xpool xp_RX13) [] xt_X13_of (yP 1 (bQpi hp 0 1 (fun _ => True))) 30 0 [(0, yR k0), (1, yI (1)), (2, yI (p2)), (3, yI (2))] [] hp
  refine yG.load xak rfl (fun _ _ => rfl) (v := yR k0) rfl rfl ?_
  refine yG.getO A_hp.1 (w_M_field W H_k0) rfl rfl (fun r1 H_r1 O_r1 q_r1 => ?_)
  refine yG.load xik rfl (fun _ _ => rfl) (v := yI (1)) rfl rfl ?_
  refine yG.load xik rfl (fun _ _ => rfl) (v := yI (p2)) rfl rfl ?_
  refine yG.load xik rfl (fun _ _ => rfl) (v := yI (2)) rfl rfl ?_
  refine yG.invS (rest := [yR r1]) rfl rfl rfl rfl (c_GModel_f W d A_hp.1 (1) (p2) (2) (by omega) (by omega) (by omega) (by omega) (by omega) (by omega)) (fun rv hp9 q9 => ?_)
  obtain ⟨⟨z2, rfl, l_z2, u_z2, R_z2⟩, e9⟩ := q9
  rw [e9]
  show yG _ _ _ _ _ _ _ _ _ _ (yI z2 :: [yR r1]) _
  refine yG.ialdF A_hp.1 (v_M_field W H_r1) (lo := 0) (hi := 1) ((yfT_ix (s := 1) (k := 2) (by omega) (by omega) (by omega) (by decide)).trans rfl) rfl (by omega) (by omega) (fun z3 e_z3 i_z3 l_z3 u_z3 => ?_)
  refine yG.ret rfl (fun _ _ => rfl) ?_
  exact (yP.int ⟨by omega, by omega⟩ ⟨⟨z3, rfl, by omega, by omega, trivial⟩, rfl⟩)
theorem c_GModel_of_1_3 {hp : xH} (W : mW G) (d : Nat) (hT : zTy G hp) {k0 : Nat} (H_k0 : bRo G 116 k0) (p2 : Int) (h2l : 0 ≤ p2) (h2u : p2 ≤ 23) : yC (xcall 89 xfts xpools xms (d + 2)) 471 [yR k0, yI (1), yI (p2), yI (3)] hp (bQpi hp 0 15 (fun _ => True)) := by
  have A_hp : bAx G [] hp hp := bAx.rf hT
  refine yC.of (M := (xt_X13_of, (4, (1, (14, []))))) rfl rfl (N := 30) (yfuel (by decide)) ?_
  show yG 89 xfts (xcall 89 xfts xpools xms (d + 1)) (xpool xp_RX13) [] xt_X13_of (yP 1 (bQpi hp 0 15 (fun _ => True))) 30 0 [(0, yR k0), (1, yI (1)), (2, yI (p2)), (3, yI (3))] [] hp
  refine yG.load xak rfl (fun _ _ => rfl) (v := yR k0) rfl rfl ?_
  refine yG.getO A_hp.1 (w_M_field W H_k0) rfl rfl (fun r1 H_r1 O_r1 q_r1 => ?_)
  refine yG.load xik rfl (fun _ _ => rfl) (v := yI (1)) rfl rfl ?_
  refine yG.load xik rfl (fun _ _ => rfl) (v := yI (p2)) rfl rfl ?_
  refine yG.load xik rfl (fun _ _ => rfl) (v := yI (3)) rfl rfl ?_
  refine yG.invS (rest := [yR r1]) rfl rfl rfl rfl (c_GModel_f W d A_hp.1 (1) (p2) (3) (by omega) (by omega) (by omega) (by omega) (by omega) (by omega)) (fun rv hp9 q9 => ?_)
  obtain ⟨⟨z2, rfl, l_z2, u_z2, R_z2⟩, e9⟩ := q9
  rw [e9]
  show yG _ _ _ _ _ _ _ _ _ _ (yI z2 :: [yR r1]) _
  refine yG.ialdF A_hp.1 (v_M_field W H_r1) (lo := 0) (hi := 15) ((yfT_ix (s := 1) (k := 3) (by omega) (by omega) (by omega) (by decide)).trans rfl) rfl (by omega) (by omega) (fun z3 e_z3 i_z3 l_z3 u_z3 => ?_)
  refine yG.ret rfl (fun _ _ => rfl) ?_
  exact (yP.int ⟨by omega, by omega⟩ ⟨⟨z3, rfl, by omega, by omega, trivial⟩, rfl⟩)
theorem c_GModel_of_1_4 {hp : xH} (W : mW G) (d : Nat) (hT : zTy G hp) {k0 : Nat} (H_k0 : bRo G 116 k0) (p2 : Int) (h2l : 0 ≤ p2) (h2u : p2 ≤ 23) : yC (xcall 89 xfts xpools xms (d + 2)) 471 [yR k0, yI (1), yI (p2), yI (4)] hp (bQpi hp 0 15 (fun _ => True)) := by
  have A_hp : bAx G [] hp hp := bAx.rf hT
  refine yC.of (M := (xt_X13_of, (4, (1, (14, []))))) rfl rfl (N := 30) (yfuel (by decide)) ?_
  show yG 89 xfts (xcall 89 xfts xpools xms (d + 1)) (xpool xp_RX13) [] xt_X13_of (yP 1 (bQpi hp 0 15 (fun _ => True))) 30 0 [(0, yR k0), (1, yI (1)), (2, yI (p2)), (3, yI (4))] [] hp
  refine yG.load xak rfl (fun _ _ => rfl) (v := yR k0) rfl rfl ?_
  refine yG.getO A_hp.1 (w_M_field W H_k0) rfl rfl (fun r1 H_r1 O_r1 q_r1 => ?_)
  refine yG.load xik rfl (fun _ _ => rfl) (v := yI (1)) rfl rfl ?_
  refine yG.load xik rfl (fun _ _ => rfl) (v := yI (p2)) rfl rfl ?_
  refine yG.load xik rfl (fun _ _ => rfl) (v := yI (4)) rfl rfl ?_
  refine yG.invS (rest := [yR r1]) rfl rfl rfl rfl (c_GModel_f W d A_hp.1 (1) (p2) (4) (by omega) (by omega) (by omega) (by omega) (by omega) (by omega)) (fun rv hp9 q9 => ?_)
  obtain ⟨⟨z2, rfl, l_z2, u_z2, R_z2⟩, e9⟩ := q9
  rw [e9]
  show yG _ _ _ _ _ _ _ _ _ _ (yI z2 :: [yR r1]) _
  refine yG.ialdF A_hp.1 (v_M_field W H_r1) (lo := 0) (hi := 15) ((yfT_ix (s := 1) (k := 4) (by omega) (by omega) (by omega) (by decide)).trans rfl) rfl (by omega) (by omega) (fun z3 e_z3 i_z3 l_z3 u_z3 => ?_)
  refine yG.ret rfl (fun _ _ => rfl) ?_
  exact (yP.int ⟨by omega, by omega⟩ ⟨⟨z3, rfl, by omega, by omega, trivial⟩, rfl⟩)
theorem c_GModel_of_2_0 {hp : xH} (W : mW G) (d : Nat) (hT : zTy G hp) {k0 : Nat} (H_k0 : bRo G 116 k0) (p2 : Int) (h2l : 0 ≤ p2) (h2u : p2 ≤ 23) : yC (xcall 89 xfts xpools xms (d + 2)) 471 [yR k0, yI (2), yI (p2), yI (0)] hp (bQpi hp 0 1 (fun _ => True)) := by
  have A_hp : bAx G [] hp hp := bAx.rf hT
  refine yC.of (M := (xt_X13_of, (4, (1, (14, []))))) rfl rfl (N := 30) (yfuel (by decide)) ?_
  show yG 89 xfts (xcall 89 xfts xpools xms (d + 1)) (xpool xp_RX13) [] xt_X13_of (yP 1 (bQpi hp 0 1 (fun _ => True))) 30 0 [(0, yR k0), (1, yI (2)), (2, yI (p2)), (3, yI (0))] [] hp
  refine yG.load xak rfl (fun _ _ => rfl) (v := yR k0) rfl rfl ?_
  refine yG.getO A_hp.1 (w_M_field W H_k0) rfl rfl (fun r1 H_r1 O_r1 q_r1 => ?_)
  refine yG.load xik rfl (fun _ _ => rfl) (v := yI (2)) rfl rfl ?_
  refine yG.load xik rfl (fun _ _ => rfl) (v := yI (p2)) rfl rfl ?_
  refine yG.load xik rfl (fun _ _ => rfl) (v := yI (0)) rfl rfl ?_
  refine yG.invS (rest := [yR r1]) rfl rfl rfl rfl (c_GModel_f W d A_hp.1 (2) (p2) (0) (by omega) (by omega) (by omega) (by omega) (by omega) (by omega)) (fun rv hp9 q9 => ?_)
  obtain ⟨⟨z2, rfl, l_z2, u_z2, R_z2⟩, e9⟩ := q9
  rw [e9]
  show yG _ _ _ _ _ _ _ _ _ _ (yI z2 :: [yR r1]) _
  refine yG.ialdF A_hp.1 (v_M_field W H_r1) (lo := 0) (hi := 1) ((yfT_ix (s := 2) (k := 0) (by omega) (by omega) (by omega) (by decide)).trans rfl) rfl (by omega) (by omega) (fun z3 e_z3 i_z3 l_z3 u_z3 => ?_)
  refine yG.ret rfl (fun _ _ => rfl) ?_
  exact (yP.int ⟨by omega, by omega⟩ ⟨⟨z3, rfl, by omega, by omega, trivial⟩, rfl⟩)
theorem c_GModel_of_2_1 {hp : xH} (W : mW G) (d : Nat) (hT : zTy G hp) {k0 : Nat} (H_k0 : bRo G 116 k0) (p2 : Int) (h2l : 0 ≤ p2) (h2u : p2 ≤ 23) : yC (xcall 89 xfts xpools xms (d + 2)) 471 [yR k0, yI (2), yI (p2), yI (1)] hp (bQpi hp 0 99 (fun _ => True)) := by
  have A_hp : bAx G [] hp hp := bAx.rf hT
  refine yC.of (M := (xt_X13_of, (4, (1, (14, []))))) rfl rfl (N := 30) (yfuel (by decide)) ?_
  show yG 89 xfts (xcall 89 xfts xpools xms (d + 1)) (xpool xp_RX13) [] xt_X13_of (yP 1 (bQpi hp 0 99 (fun _ => True))) 30 0 [(0, yR k0), (1, yI (2)), (2, yI (p2)), (3, yI (1))] [] hp
  refine yG.load xak rfl (fun _ _ => rfl) (v := yR k0) rfl rfl ?_
  refine yG.getO A_hp.1 (w_M_field W H_k0) rfl rfl (fun r1 H_r1 O_r1 q_r1 => ?_)
  refine yG.load xik rfl (fun _ _ => rfl) (v := yI (2)) rfl rfl ?_
  refine yG.load xik rfl (fun _ _ => rfl) (v := yI (p2)) rfl rfl ?_
  refine yG.load xik rfl (fun _ _ => rfl) (v := yI (1)) rfl rfl ?_
  refine yG.invS (rest := [yR r1]) rfl rfl rfl rfl (c_GModel_f W d A_hp.1 (2) (p2) (1) (by omega) (by omega) (by omega) (by omega) (by omega) (by omega)) (fun rv hp9 q9 => ?_)
  obtain ⟨⟨z2, rfl, l_z2, u_z2, R_z2⟩, e9⟩ := q9
  rw [e9]
  show yG _ _ _ _ _ _ _ _ _ _ (yI z2 :: [yR r1]) _
  refine yG.ialdF A_hp.1 (v_M_field W H_r1) (lo := 0) (hi := 99) ((yfT_ix (s := 2) (k := 1) (by omega) (by omega) (by omega) (by decide)).trans rfl) rfl (by omega) (by omega) (fun z3 e_z3 i_z3 l_z3 u_z3 => ?_)
  refine yG.ret rfl (fun _ _ => rfl) ?_
  exact (yP.int ⟨by omega, by omega⟩ ⟨⟨z3, rfl, by omega, by omega, trivial⟩, rfl⟩)
theorem c_GModel_of_2_2 {hp : xH} (W : mW G) (d : Nat) (hT : zTy G hp) {k0 : Nat} (H_k0 : bRo G 116 k0) (p2 : Int) (h2l : 0 ≤ p2) (h2u : p2 ≤ 23) : yC (xcall 89 xfts xpools xms (d + 2)) 471 [yR k0, yI (2), yI (p2), yI (2)] hp (bQpi hp 0 299 (fun _ => True)) := by
  have A_hp : bAx G [] hp hp := bAx.rf hT
  refine yC.of (M := (xt_X13_of, (4, (1, (14, []))))) rfl rfl (N := 30) (yfuel (by decide)) ?_
  show yG 89 xfts (xcall 89 xfts xpools xms (d + 1)) (xpool xp_RX13) [] xt_X13_of (yP 1 (bQpi hp 0 299 (fun _ => True))) 30 0 [(0, yR k0), (1, yI (2)), (2, yI (p2)), (3, yI (2))] [] hp
  refine yG.load xak rfl (fun _ _ => rfl) (v := yR k0) rfl rfl ?_
  refine yG.getO A_hp.1 (w_M_field W H_k0) rfl rfl (fun r1 H_r1 O_r1 q_r1 => ?_)
  refine yG.load xik rfl (fun _ _ => rfl) (v := yI (2)) rfl rfl ?_
  refine yG.load xik rfl (fun _ _ => rfl) (v := yI (p2)) rfl rfl ?_
  refine yG.load xik rfl (fun _ _ => rfl) (v := yI (2)) rfl rfl ?_
  refine yG.invS (rest := [yR r1]) rfl rfl rfl rfl (c_GModel_f W d A_hp.1 (2) (p2) (2) (by omega) (by omega) (by omega) (by omega) (by omega) (by omega)) (fun rv hp9 q9 => ?_)
  obtain ⟨⟨z2, rfl, l_z2, u_z2, R_z2⟩, e9⟩ := q9
  rw [e9]
  show yG _ _ _ _ _ _ _ _ _ _ (yI z2 :: [yR r1]) _
  refine yG.ialdF A_hp.1 (v_M_field W H_r1) (lo := 0) (hi := 299) ((yfT_ix (s := 2) (k := 2) (by omega) (by omega) (by omega) (by decide)).trans rfl) rfl (by omega) (by omega) (fun z3 e_z3 i_z3 l_z3 u_z3 => ?_)
  refine yG.ret rfl (fun _ _ => rfl) ?_
  exact (yP.int ⟨by omega, by omega⟩ ⟨⟨z3, rfl, by omega, by omega, trivial⟩, rfl⟩)
theorem c_GModel_of_2_3 {hp : xH} (W : mW G) (d : Nat) (hT : zTy G hp) {k0 : Nat} (H_k0 : bRo G 116 k0) (p2 : Int) (h2l : 0 ≤ p2) (h2u : p2 ≤ 23) : yC (xcall 89 xfts xpools xms (d + 2)) 471 [yR k0, yI (2), yI (p2), yI (3)] hp (bQpi hp 0 9999 (fun _ => True)) := by
  have A_hp : bAx G [] hp hp := bAx.rf hT
  refine yC.of (M := (xt_X13_of, (4, (1, (14, []))))) rfl rfl (N := 30) (yfuel (by decide)) ?_
  show yG 89 xfts (xcall 89 xfts xpools xms (d + 1)) (xpool xp_RX13) [] xt_X13_of (yP 1 (bQpi hp 0 9999 (fun _ => True))) 30 0 [(0, yR k0), (1, yI (2)), (2, yI (p2)), (3, yI (3))] [] hp
  refine yG.load xak rfl (fun _ _ => rfl) (v := yR k0) rfl rfl ?_
  refine yG.getO A_hp.1 (w_M_field W H_k0) rfl rfl (fun r1 H_r1 O_r1 q_r1 => ?_)
  refine yG.load xik rfl (fun _ _ => rfl) (v := yI (2)) rfl rfl ?_
  refine yG.load xik rfl (fun _ _ => rfl) (v := yI (p2)) rfl rfl ?_
  refine yG.load xik rfl (fun _ _ => rfl) (v := yI (3)) rfl rfl ?_
  refine yG.invS (rest := [yR r1]) rfl rfl rfl rfl (c_GModel_f W d A_hp.1 (2) (p2) (3) (by omega) (by omega) (by omega) (by omega) (by omega) (by omega)) (fun rv hp9 q9 => ?_)
  obtain ⟨⟨z2, rfl, l_z2, u_z2, R_z2⟩, e9⟩ := q9
  rw [e9]
  show yG _ _ _ _ _ _ _ _ _ _ (yI z2 :: [yR r1]) _
  refine yG.ialdF A_hp.1 (v_M_field W H_r1) (lo := 0) (hi := 9999) ((yfT_ix (s := 2) (k := 3) (by omega) (by omega) (by omega) (by decide)).trans rfl) rfl (by omega) (by omega) (fun z3 e_z3 i_z3 l_z3 u_z3 => ?_)
  refine yG.ret rfl (fun _ _ => rfl) ?_
  exact (yP.int ⟨by omega, by omega⟩ ⟨⟨z3, rfl, by omega, by omega, trivial⟩, rfl⟩)
theorem c_GModel_of_2_4 {hp : xH} (W : mW G) (d : Nat) (hT : zTy G hp) {k0 : Nat} (H_k0 : bRo G 116 k0) (p2 : Int) (h2l : 0 ≤ p2) (h2u : p2 ≤ 23) : yC (xcall 89 xfts xpools xms (d + 2)) 471 [yR k0, yI (2), yI (p2), yI (4)] hp (bQpi hp 0 15 (fun _ => True)) := by
  have A_hp : bAx G [] hp hp := bAx.rf hT
  refine yC.of (M := (xt_X13_of, (4, (1, (14, []))))) rfl rfl (N := 30) (yfuel (by decide)) ?_
  show yG 89 xfts (xcall 89 xfts xpools xms (d + 1)) (xpool xp_RX13) [] xt_X13_of (yP 1 (bQpi hp 0 15 (fun _ => True))) 30 0 [(0, yR k0), (1, yI (2)), (2, yI (p2)), (3, yI (4))] [] hp
  refine yG.load xak rfl (fun _ _ => rfl) (v := yR k0) rfl rfl ?_
  refine yG.getO A_hp.1 (w_M_field W H_k0) rfl rfl (fun r1 H_r1 O_r1 q_r1 => ?_)
  refine yG.load xik rfl (fun _ _ => rfl) (v := yI (2)) rfl rfl ?_
  refine yG.load xik rfl (fun _ _ => rfl) (v := yI (p2)) rfl rfl ?_
  refine yG.load xik rfl (fun _ _ => rfl) (v := yI (4)) rfl rfl ?_
  refine yG.invS (rest := [yR r1]) rfl rfl rfl rfl (c_GModel_f W d A_hp.1 (2) (p2) (4) (by omega) (by omega) (by omega) (by omega) (by omega) (by omega)) (fun rv hp9 q9 => ?_)
  obtain ⟨⟨z2, rfl, l_z2, u_z2, R_z2⟩, e9⟩ := q9
  rw [e9]
  show yG _ _ _ _ _ _ _ _ _ _ (yI z2 :: [yR r1]) _
  refine yG.ialdF A_hp.1 (v_M_field W H_r1) (lo := 0) (hi := 15) ((yfT_ix (s := 2) (k := 4) (by omega) (by omega) (by omega) (by decide)).trans rfl) rfl (by omega) (by omega) (fun z3 e_z3 i_z3 l_z3 u_z3 => ?_)
  refine yG.ret rfl (fun _ _ => rfl) ?_
  exact (yP.int ⟨by omega, by omega⟩ ⟨⟨z3, rfl, by omega, by omega, trivial⟩, rfl⟩)
theorem c_GModel_of_2_5 {hp : xH} (W : mW G) (d : Nat) (hT : zTy G hp) {k0 : Nat} (H_k0 : bRo G 116 k0) (p2 : Int) (h2l : 0 ≤ p2) (h2u : p2 ≤ 23) : yC (xcall 89 xfts xpools xms (d + 2)) 471 [yR k0, yI (2), yI (p2), yI (5)] hp (bQpi hp 0 15 (fun _ => True)) := by
  have A_hp : bAx G [] hp hp := bAx.rf hT
  refine yC.of (M := (xt_X13_of, (4, (1, (14, []))))) rfl rfl (N := 30) (yfuel (by decide)) ?_
  show yG 89 xfts (xcall 89 xfts xpools xms (d + 1)) (xpool xp_RX13) [] xt_X13_of (yP 1 (bQpi hp 0 15 (fun _ => True))) 30 0 [(0, yR k0), (1, yI (2)), (2, yI (p2)), (3, yI (5))] [] hp
  refine yG.load xak rfl (fun _ _ => rfl) (v := yR k0) rfl rfl ?_
  refine yG.getO A_hp.1 (w_M_field W H_k0) rfl rfl (fun r1 H_r1 O_r1 q_r1 => ?_)
  refine yG.load xik rfl (fun _ _ => rfl) (v := yI (2)) rfl rfl ?_
  refine yG.load xik rfl (fun _ _ => rfl) (v := yI (p2)) rfl rfl ?_
  refine yG.load xik rfl (fun _ _ => rfl) (v := yI (5)) rfl rfl ?_
  refine yG.invS (rest := [yR r1]) rfl rfl rfl rfl (c_GModel_f W d A_hp.1 (2) (p2) (5) (by omega) (by omega) (by omega) (by omega) (by omega) (by omega)) (fun rv hp9 q9 => ?_)
  obtain ⟨⟨z2, rfl, l_z2, u_z2, R_z2⟩, e9⟩ := q9
  rw [e9]
  show yG _ _ _ _ _ _ _ _ _ _ (yI z2 :: [yR r1]) _
  refine yG.ialdF A_hp.1 (v_M_field W H_r1) (lo := 0) (hi := 15) ((yfT_ix (s := 2) (k := 5) (by omega) (by omega) (by omega) (by decide)).trans rfl) rfl (by omega) (by omega) (fun z3 e_z3 i_z3 l_z3 u_z3 => ?_)
  refine yG.ret rfl (fun _ _ => rfl) ?_
  exact (yP.int ⟨by omega, by omega⟩ ⟨⟨z3, rfl, by omega, by omega, trivial⟩, rfl⟩)
theorem c_GModel_of_3_0 {hp : xH} (W : mW G) (d : Nat) (hT : zTy G hp) {k0 : Nat} (H_k0 : bRo G 116 k0) (p2 : Int) (h2l : 0 ≤ p2) (h2u : p2 ≤ 23) : yC (xcall 89 xfts xpools xms (d + 2)) 471 [yR k0, yI (3), yI (p2), yI (0)] hp (bQpi hp 0 1 (fun _ => True)) := by
  have A_hp : bAx G [] hp hp := bAx.rf hT
  refine yC.of (M := (xt_X13_of, (4, (1, (14, []))))) rfl rfl (N := 30) (yfuel (by decide)) ?_
  show yG 89 xfts (xcall 89 xfts xpools xms (d + 1)) (xpool xp_RX13) [] xt_X13_of (yP 1 (bQpi hp 0 1 (fun _ => True))) 30 0 [(0, yR k0), (1, yI (3)), (2, yI (p2)), (3, yI (0))] [] hp
  refine yG.load xak rfl (fun _ _ => rfl) (v := yR k0) rfl rfl ?_
  refine yG.getO A_hp.1 (w_M_field W H_k0) rfl rfl (fun r1 H_r1 O_r1 q_r1 => ?_)
  refine yG.load xik rfl (fun _ _ => rfl) (v := yI (3)) rfl rfl ?_
  refine yG.load xik rfl (fun _ _ => rfl) (v := yI (p2)) rfl rfl ?_
  refine yG.load xik rfl (fun _ _ => rfl) (v := yI (0)) rfl rfl ?_
  refine yG.invS (rest := [yR r1]) rfl rfl rfl rfl (c_GModel_f W d A_hp.1 (3) (p2) (0) (by omega) (by omega) (by omega) (by omega) (by omega) (by omega)) (fun rv hp9 q9 => ?_)
  obtain ⟨⟨z2, rfl, l_z2, u_z2, R_z2⟩, e9⟩ := q9
  rw [e9]
  show yG _ _ _ _ _ _ _ _ _ _ (yI z2 :: [yR r1]) _
  refine yG.ialdF A_hp.1 (v_M_field W H_r1) (lo := 0) (hi := 1) ((yfT_ix (s := 3) (k := 0) (by omega) (by omega) (by omega) (by decide)).trans rfl) rfl (by omega) (by omega) (fun z3 e_z3 i_z3 l_z3 u_z3 => ?_)
  refine yG.ret rfl (fun _ _ => rfl) ?_
  exact (yP.int ⟨by omega, by omega⟩ ⟨⟨z3, rfl, by omega, by omega, trivial⟩, rfl⟩)
theorem c_GModel_of_3_1 {hp : xH} (W : mW G) (d : Nat) (hT : zTy G hp) {k0 : Nat} (H_k0 : bRo G 116 k0) (p2 : Int) (h2l : 0 ≤ p2) (h2u : p2 ≤ 23) : yC (xcall 89 xfts xpools xms (d + 2)) 471 [yR k0, yI (3), yI (p2), yI (1)] hp (bQpi hp 0 9999 (fun _ => True)) := by
  have A_hp : bAx G [] hp hp := bAx.rf hT
  refine yC.of (M := (xt_X13_of, (4, (1, (14, []))))) rfl rfl (N := 30) (yfuel (by decide)) ?_
  show yG 89 xfts (xcall 89 xfts xpools xms (d + 1)) (xpool xp_RX13) [] xt_X13_of (yP 1 (bQpi hp 0 9999 (fun _ => True))) 30 0 [(0, yR k0), (1, yI (3)), (2, yI (p2)), (3, yI (1))] [] hp
  refine yG.load xak rfl (fun _ _ => rfl) (v := yR k0) rfl rfl ?_
  refine yG.getO A_hp.1 (w_M_field W H_k0) rfl rfl (fun r1 H_r1 O_r1 q_r1 => ?_)
  refine yG.load xik rfl (fun _ _ => rfl) (v := yI (3)) rfl rfl ?_
  refine yG.load xik rfl (fun _ _ => rfl) (v := yI (p2)) rfl rfl ?_
  refine yG.load xik rfl (fun _ _ => rfl) (v := yI (1)) rfl rfl ?_
  refine yG.invS (rest := [yR r1]) rfl rfl rfl rfl (c_GModel_f W d A_hp.1 (3) (p2) (1) (by omega) (by omega) (by omega) (by omega) (by omega) (by omega)) (fun rv hp9 q9 => ?_)
  obtain ⟨⟨z2, rfl, l_z2, u_z2, R_z2⟩, e9⟩ := q9
  rw [e9]
  show yG _ _ _ _ _ _ _ _ _ _ (yI z2 :: [yR r1]) _
  refine yG.ialdF A_hp.1 (v_M_field W H_r1) (lo := 0) (hi := 9999) ((yfT_ix (s := 3) (k := 1) (by omega) (by omega) (by omega) (by decide)).trans rfl) rfl (by omega) (by omega) (fun z3 e_z3 i_z3 l_z3 u_z3 => ?_)
  refine yG.ret rfl (fun _ _ => rfl) ?_
  exact (yP.int ⟨by omega, by omega⟩ ⟨⟨z3, rfl, by omega, by omega, trivial⟩, rfl⟩)
theorem c_GModel_of_3_2 {hp : xH} (W : mW G) (d : Nat) (hT : zTy G hp) {k0 : Nat} (H_k0 : bRo G 116 k0) (p2 : Int) (h2l : 0 ≤ p2) (h2u : p2 ≤ 23) : yC (xcall 89 xfts xpools xms (d + 2)) 471 [yR k0, yI (3), yI (p2), yI (2)] hp (bQpi hp 0 99 (fun _ => True)) := by
  have A_hp : bAx G [] hp hp := bAx.rf hT
  refine yC.of (M := (xt_X13_of, (4, (1, (14, []))))) rfl rfl (N := 30) (yfuel (by decide)) ?_
  show yG 89 xfts (xcall 89 xfts xpools xms (d + 1)) (xpool xp_RX13) [] xt_X13_of (yP 1 (bQpi hp 0 99 (fun _ => True))) 30 0 [(0, yR k0), (1, yI (3)), (2, yI (p2)), (3, yI (2))] [] hp
  refine yG.load xak rfl (fun _ _ => rfl) (v := yR k0) rfl rfl ?_
  refine yG.getO A_hp.1 (w_M_field W H_k0) rfl rfl (fun r1 H_r1 O_r1 q_r1 => ?_)
  refine yG.load xik rfl (fun _ _ => rfl) (v := yI (3)) rfl rfl ?_
  refine yG.load xik rfl (fun _ _ => rfl) (v := yI (p2)) rfl rfl ?_
  refine yG.load xik rfl (fun _ _ => rfl) (v := yI (2)) rfl rfl ?_
  refine yG.invS (rest := [yR r1]) rfl rfl rfl rfl (c_GModel_f W d A_hp.1 (3) (p2) (2) (by omega) (by omega) (by omega) (by omega) (by omega) (by omega)) (fun rv hp9 q9 => ?_)
  obtain ⟨⟨z2, rfl, l_z2, u_z2, R_z2⟩, e9⟩ := q9
  rw [e9]
  show yG _ _ _ _ _ _ _ _ _ _ (yI z2 :: [yR r1]) _
  refine yG.ialdF A_hp.1 (v_M_field W H_r1) (lo := 0) (hi := 99) ((yfT_ix (s := 3) (k := 2) (by omega) (by omega) (by omega) (by decide)).trans rfl) rfl (by omega) (by omega) (fun z3 e_z3 i_z3 l_z3 u_z3 => ?_)
  refine yG.ret rfl (fun _ _ => rfl) ?_
  exact (yP.int ⟨by omega, by omega⟩ ⟨⟨z3, rfl, by omega, by omega, trivial⟩, rfl⟩)
theorem c_GModel_of_3_3 {hp : xH} (W : mW G) (d : Nat) (hT : zTy G hp) {k0 : Nat} (H_k0 : bRo G 116 k0) (p2 : Int) (h2l : 0 ≤ p2) (h2u : p2 ≤ 23) : yC (xcall 89 xfts xpools xms (d + 2)) 471 [yR k0, yI (3), yI (p2), yI (3)] hp (bQpi hp 0 299 (fun _ => True)) := by
  have A_hp : bAx G [] hp hp := bAx.rf hT
  refine yC.of (M := (xt_X13_of, (4, (1, (14, []))))) rfl rfl (N := 30) (yfuel (by decide)) ?_
  show yG 89 xfts (xcall 89 xfts xpools xms (d + 1)) (xpool xp_RX13) [] xt_X13_of (yP 1 (bQpi hp 0 299 (fun _ => True))) 30 0 [(0, yR k0), (1, yI (3)), (2, yI (p2)), (3, yI (3))] [] hp
  refine yG.load xak rfl (fun _ _ => rfl) (v := yR k0) rfl rfl ?_
  refine yG.getO A_hp.1 (w_M_field W H_k0) rfl rfl (fun r1 H_r1 O_r1 q_r1 => ?_)
  refine yG.load xik rfl (fun _ _ => rfl) (v := yI (3)) rfl rfl ?_
  refine yG.load xik rfl (fun _ _ => rfl) (v := yI (p2)) rfl rfl ?_
  refine yG.load xik rfl (fun _ _ => rfl) (v := yI (3)) rfl rfl ?_
  refine yG.invS (rest := [yR r1]) rfl rfl rfl rfl (c_GModel_f W d A_hp.1 (3) (p2) (3) (by omega) (by omega) (by omega) (by omega) (by omega) (by omega)) (fun rv hp9 q9 => ?_)
  obtain ⟨⟨z2, rfl, l_z2, u_z2, R_z2⟩, e9⟩ := q9
  rw [e9]
  show yG _ _ _ _ _ _ _ _ _ _ (yI z2 :: [yR r1]) _
  refine yG.ialdF A_hp.1 (v_M_field W H_r1) (lo := 0) (hi := 299) ((yfT_ix (s := 3) (k := 3) (by omega) (by omega) (by omega) (by decide)).trans rfl) rfl (by omega) (by omega) (fun z3 e_z3 i_z3 l_z3 u_z3 => ?_)
  refine yG.ret rfl (fun _ _ => rfl) ?_
  exact (yP.int ⟨by omega, by omega⟩ ⟨⟨z3, rfl, by omega, by omega, trivial⟩, rfl⟩)
theorem c_GModel_of_3_4 {hp : xH} (W : mW G) (d : Nat) (hT : zTy G hp) {k0 : Nat} (H_k0 : bRo G 116 k0) (p2 : Int) (h2l : 0 ≤ p2) (h2u : p2 ≤ 23) : yC (xcall 89 xfts xpools xms (d + 2)) 471 [yR k0, yI (3), yI (p2), yI (4)] hp (bQpi hp 0 9999 (fun _ => True)) := by
  have A_hp : bAx G [] hp hp := bAx.rf hT
  refine yC.of (M := (xt_X13_of, (4, (1, (14, []))))) rfl rfl (N := 30) (yfuel (by decide)) ?_
  show yG 89 xfts (xcall 89 xfts xpools xms (d + 1)) (xpool xp_RX13) [] xt_X13_of (yP 1 (bQpi hp 0 9999 (fun _ => True))) 30 0 [(0, yR k0), (1, yI (3)), (2, yI (p2)), (3, yI (4))] [] hp
  refine yG.load xak rfl (fun _ _ => rfl) (v := yR k0) rfl rfl ?_
  refine yG.getO A_hp.1 (w_M_field W H_k0) rfl rfl (fun r1 H_r1 O_r1 q_r1 => ?_)
  refine yG.load xik rfl (fun _ _ => rfl) (v := yI (3)) rfl rfl ?_
  refine yG.load xik rfl (fun _ _ => rfl) (v := yI (p2)) rfl rfl ?_
  refine yG.load xik rfl (fun _ _ => rfl) (v := yI (4)) rfl rfl ?_
  refine yG.invS (rest := [yR r1]) rfl rfl rfl rfl (c_GModel_f W d A_hp.1 (3) (p2) (4) (by omega) (by omega) (by omega) (by omega) (by omega) (by omega)) (fun rv hp9 q9 => ?_)
  obtain ⟨⟨z2, rfl, l_z2, u_z2, R_z2⟩, e9⟩ := q9
  rw [e9]
  show yG _ _ _ _ _ _ _ _ _ _ (yI z2 :: [yR r1]) _
  refine yG.ialdF A_hp.1 (v_M_field W H_r1) (lo := 0) (hi := 9999) ((yfT_ix (s := 3) (k := 4) (by omega) (by omega) (by omega) (by decide)).trans rfl) rfl (by omega) (by omega) (fun z3 e_z3 i_z3 l_z3 u_z3 => ?_)
  refine yG.ret rfl (fun _ _ => rfl) ?_
  exact (yP.int ⟨by omega, by omega⟩ ⟨⟨z3, rfl, by omega, by omega, trivial⟩, rfl⟩)
theorem c_GModel_of_3_5 {hp : xH} (W : mW G) (d : Nat) (hT : zTy G hp) {k0 : Nat} (H_k0 : bRo G 116 k0) (p2 : Int) (h2l : 0 ≤ p2) (h2u : p2 ≤ 23) : yC (xcall 89 xfts xpools xms (d + 2)) 471 [yR k0, yI (3), yI (p2), yI (5)] hp (bQpi hp 0 9999 (fun _ => True)) := by
  have A_hp : bAx G [] hp hp := bAx.rf hT
  refine yC.of (M := (xt_X13_of, (4, (1, (14, []))))) rfl rfl (N := 30) (yfuel (by decide)) ?_
  show yG 89 xfts (xcall 89 xfts xpools xms (d + 1)) (xpool xp_RX13) [] xt_X13_of (yP 1 (bQpi hp 0 9999 (fun _ => True))) 30 0 [(0, yR k0), (1, yI (3)), (2, yI (p2)), (3, yI (5))] [] hp
  refine yG.load xak rfl (fun _ _ => rfl) (v := yR k0) rfl rfl ?_
  refine yG.getO A_hp.1 (w_M_field W H_k0) rfl rfl (fun r1 H_r1 O_r1 q_r1 => ?_)
  refine yG.load xik rfl (fun _ _ => rfl) (v := yI (3)) rfl rfl ?_
  refine yG.load xik rfl (fun _ _ => rfl) (v := yI (p2)) rfl rfl ?_
  refine yG.load xik rfl (fun _ _ => rfl) (v := yI (5)) rfl rfl ?_
  refine yG.invS (rest := [yR r1]) rfl rfl rfl rfl (c_GModel_f W d A_hp.1 (3) (p2) (5) (by omega) (by omega) (by omega) (by omega) (by omega) (by omega)) (fun rv hp9 q9 => ?_)
  obtain ⟨⟨z2, rfl, l_z2, u_z2, R_z2⟩, e9⟩ := q9
  rw [e9]
  show yG _ _ _ _ _ _ _ _ _ _ (yI z2 :: [yR r1]) _
  refine yG.ialdF A_hp.1 (v_M_field W H_r1) (lo := 0) (hi := 9999) ((yfT_ix (s := 3) (k := 5) (by omega) (by omega) (by omega) (by decide)).trans rfl) rfl (by omega) (by omega) (fun z3 e_z3 i_z3 l_z3 u_z3 => ?_)
  refine yG.ret rfl (fun _ _ => rfl) ?_
  exact (yP.int ⟨by omega, by omega⟩ ⟨⟨z3, rfl, by omega, by omega, trivial⟩, rfl⟩)
theorem c_GModel_of_3_6 {hp : xH} (W : mW G) (d : Nat) (hT : zTy G hp) {k0 : Nat} (H_k0 : bRo G 116 k0) (p2 : Int) (h2l : 0 ≤ p2) (h2u : p2 ≤ 23) : yC (xcall 89 xfts xpools xms (d + 2)) 471 [yR k0, yI (3), yI (p2), yI (6)] hp (bQpi hp 0 999 (fun _ => True)) := by
  have A_hp : bAx G [] hp hp := bAx.rf hT
  refine yC.of (M := (xt_X13_of, (4, (1, (14, []))))) rfl rfl (N := 30) (yfuel (by decide)) ?_
  show yG 89 xfts (xcall 89 xfts xpools xms (d + 1)) (xpool xp_RX13) [] xt_X13_of (yP 1 (bQpi hp 0 999 (fun _ => True))) 30 0 [(0, yR k0), (1, yI (3)), (2, yI (p2)), (3, yI (6))] [] hp
  refine yG.load xak rfl (fun _ _ => rfl) (v := yR k0) rfl rfl ?_
  refine yG.getO A_hp.1 (w_M_field W H_k0) rfl rfl (fun r1 H_r1 O_r1 q_r1 => ?_)
  refine yG.load xik rfl (fun _ _ => rfl) (v := yI (3)) rfl rfl ?_
  refine yG.load xik rfl (fun _ _ => rfl) (v := yI (p2)) rfl rfl ?_
  refine yG.load xik rfl (fun _ _ => rfl) (v := yI (6)) rfl rfl ?_
  refine yG.invS (rest := [yR r1]) rfl rfl rfl rfl (c_GModel_f W d A_hp.1 (3) (p2) (6) (by omega) (by omega) (by omega) (by omega) (by omega) (by omega)) (fun rv hp9 q9 => ?_)
  obtain ⟨⟨z2, rfl, l_z2, u_z2, R_z2⟩, e9⟩ := q9
  rw [e9]
  show yG _ _ _ _ _ _ _ _ _ _ (yI z2 :: [yR r1]) _
  refine yG.ialdF A_hp.1 (v_M_field W H_r1) (lo := 0) (hi := 999) ((yfT_ix (s := 3) (k := 6) (by omega) (by omega) (by omega) (by decide)).trans rfl) rfl (by omega) (by omega) (fun z3 e_z3 i_z3 l_z3 u_z3 => ?_)
  refine yG.ret rfl (fun _ _ => rfl) ?_
  exact (yP.int ⟨by omega, by omega⟩ ⟨⟨z3, rfl, by omega, by omega, trivial⟩, rfl⟩)
theorem c_GModel_of_3_7 {hp : xH} (W : mW G) (d : Nat) (hT : zTy G hp) {k0 : Nat} (H_k0 : bRo G 116 k0) (p2 : Int) (h2l : 0 ≤ p2) (h2u : p2 ≤ 23) : yC (xcall 89 xfts xpools xms (d + 2)) 471 [yR k0, yI (3), yI (p2), yI (7)] hp (bQpi hp 0 9999 (fun _ => True)) := by
  have A_hp : bAx G [] hp hp := bAx.rf hT
  refine yC.of (M := (xt_X13_of, (4, (1, (14, []))))) rfl rfl (N := 30) (yfuel (by decide)) ?_
  show yG 89 xfts (xcall 89 xfts xpools xms (d + 1)) (xpool xp_RX13) [] xt_X13_of (yP 1 (bQpi hp 0 9999 (fun _ => True))) 30 0 [(0, yR k0), (1, yI (3)), (2, yI (p2)), (3, yI (7))] [] hp
  refine yG.load xak rfl (fun _ _ => rfl) (v := yR k0) rfl rfl ?_
  refine yG.getO A_hp.1 (w_M_field W H_k0) rfl rfl (fun r1 H_r1 O_r1 q_r1 => ?_)
  refine yG.load xik rfl (fun _ _ => rfl) (v := yI (3)) rfl rfl ?_
  refine yG.load xik rfl (fun _ _ => rfl) (v := yI (p2)) rfl rfl ?_
  refine yG.load xik rfl (fun _ _ => rfl) (v := yI (7)) rfl rfl ?_
  refine yG.invS (rest := [yR r1]) rfl rfl rfl rfl (c_GModel_f W d A_hp.1 (3) (p2) (7) (by omega) (by omega) (by omega) (by omega) (by omega) (by omega)) (fun rv hp9 q9 => ?_)
  obtain ⟨⟨z2, rfl, l_z2, u_z2, R_z2⟩, e9⟩ := q9
  rw [e9]
  show yG _ _ _ _ _ _ _ _ _ _ (yI z2 :: [yR r1]) _
  refine yG.ialdF A_hp.1 (v_M_field W H_r1) (lo := 0) (hi := 9999) ((yfT_ix (s := 3) (k := 7) (by omega) (by omega) (by omega) (by decide)).trans rfl) rfl (by omega) (by omega) (fun z3 e_z3 i_z3 l_z3 u_z3 => ?_)
  refine yG.ret rfl (fun _ _ => rfl) ?_
  exact (yP.int ⟨by omega, by omega⟩ ⟨⟨z3, rfl, by omega, by omega, trivial⟩, rfl⟩)
theorem c_GModel_of_3_8 {hp : xH} (W : mW G) (d : Nat) (hT : zTy G hp) {k0 : Nat} (H_k0 : bRo G 116 k0) (p2 : Int) (h2l : 0 ≤ p2) (h2u : p2 ≤ 23) : yC (xcall 89 xfts xpools xms (d + 2)) 471 [yR k0, yI (3), yI (p2), yI (8)] hp (bQpi hp 0 999 (fun _ => True)) := by
  have A_hp : bAx G [] hp hp := bAx.rf hT
  refine yC.of (M := (xt_X13_of, (4, (1, (14, []))))) rfl rfl (N := 30) (yfuel (by decide)) ?_
  show yG 89 xfts (xcall 89 xfts xpools xms (d + 1)) (xpool xp_RX13) [] xt_X13_of (yP 1 (bQpi hp 0 999 (fun _ => True))) 30 0 [(0, yR k0), (1, yI (3)), (2, yI (p2)), (3, yI (8))] [] hp
  refine yG.load xak rfl (fun _ _ => rfl) (v := yR k0) rfl rfl ?_
  refine yG.getO A_hp.1 (w_M_field W H_k0) rfl rfl (fun r1 H_r1 O_r1 q_r1 => ?_)
  refine yG.load xik rfl (fun _ _ => rfl) (v := yI (3)) rfl rfl ?_
  refine yG.load xik rfl (fun _ _ => rfl) (v := yI (p2)) rfl rfl ?_
  refine yG.load xik rfl (fun _ _ => rfl) (v := yI (8)) rfl rfl ?_
  refine yG.invS (rest := [yR r1]) rfl rfl rfl rfl (c_GModel_f W d A_hp.1 (3) (p2) (8) (by omega) (by omega) (by omega) (by omega) (by omega) (by omega)) (fun rv hp9 q9 => ?_)
  obtain ⟨⟨z2, rfl, l_z2, u_z2, R_z2⟩, e9⟩ := q9
  rw [e9]
  show yG _ _ _ _ _ _ _ _ _ _ (yI z2 :: [yR r1]) _
  refine yG.ialdF A_hp.1 (v_M_field W H_r1) (lo := 0) (hi := 999) ((yfT_ix (s := 3) (k := 8) (by omega) (by omega) (by omega) (by decide)).trans rfl) rfl (by omega) (by omega) (fun z3 e_z3 i_z3 l_z3 u_z3 => ?_)
  refine yG.ret rfl (fun _ _ => rfl) ?_
  exact (yP.int ⟨by omega, by omega⟩ ⟨⟨z3, rfl, by omega, by omega, trivial⟩, rfl⟩)
theorem c_GModel_of_3_9 {hp : xH} (W : mW G) (d : Nat) (hT : zTy G hp) {k0 : Nat} (H_k0 : bRo G 116 k0) (p2 : Int) (h2l : 0 ≤ p2) (h2u : p2 ≤ 23) : yC (xcall 89 xfts xpools xms (d + 2)) 471 [yR k0, yI (3), yI (p2), yI (9)] hp (bQpi hp 0 9 (fun _ => True)) := by
  have A_hp : bAx G [] hp hp := bAx.rf hT
  refine yC.of (M := (xt_X13_of, (4, (1, (14, []))))) rfl rfl (N := 30) (yfuel (by decide)) ?_
  show yG 89 xfts (xcall 89 xfts xpools xms (d + 1)) (xpool xp_RX13) [] xt_X13_of (yP 1 (bQpi hp 0 9 (fun _ => True))) 30 0 [(0, yR k0), (1, yI (3)), (2, yI (p2)), (3, yI (9))] [] hp
  refine yG.load xak rfl (fun _ _ => rfl) (v := yR k0) rfl rfl ?_
  refine yG.getO A_hp.1 (w_M_field W H_k0) rfl rfl (fun r1 H_r1 O_r1 q_r1 => ?_)
  refine yG.load xik rfl (fun _ _ => rfl) (v := yI (3)) rfl rfl ?_
  refine yG.load xik rfl (fun _ _ => rfl) (v := yI (p2)) rfl rfl ?_
  refine yG.load xik rfl (fun _ _ => rfl) (v := yI (9)) rfl rfl ?_
  refine yG.invS (rest := [yR r1]) rfl rfl rfl rfl (c_GModel_f W d A_hp.1 (3) (p2) (9) (by omega) (by omega) (by omega) (by omega) (by omega) (by omega)) (fun rv hp9 q9 => ?_)
  obtain ⟨⟨z2, rfl, l_z2, u_z2, R_z2⟩, e9⟩ := q9
  rw [e9]
  show yG _ _ _ _ _ _ _ _ _ _ (yI z2 :: [yR r1]) _
  refine yG.ialdF A_hp.1 (v_M_field W H_r1) (lo := 0) (hi := 9) ((yfT_ix (s := 3) (k := 9) (by omega) (by omega) (by omega) (by decide)).trans rfl) rfl (by omega) (by omega) (fun z3 e_z3 i_z3 l_z3 u_z3 => ?_)
  refine yG.ret rfl (fun _ _ => rfl) ?_
  exact (yP.int ⟨by omega, by omega⟩ ⟨⟨z3, rfl, by omega, by omega, trivial⟩, rfl⟩)
theorem c_GModel_of_3_10 {hp : xH} (W : mW G) (d : Nat) (hT : zTy G hp) {k0 : Nat} (H_k0 : bRo G 116 k0) (p2 : Int) (h2l : 0 ≤ p2) (h2u : p2 ≤ 23) : yC (xcall 89 xfts xpools xms (d + 2)) 471 [yR k0, yI (3), yI (p2), yI (10)] hp (bQpi hp 0 15 (fun _ => True)) := by
  have A_hp : bAx G [] hp hp := bAx.rf hT
  refine yC.of (M := (xt_X13_of, (4, (1, (14, []))))) rfl rfl (N := 30) (yfuel (by decide)) ?_
  show yG 89 xfts (xcall 89 xfts xpools xms (d + 1)) (xpool xp_RX13) [] xt_X13_of (yP 1 (bQpi hp 0 15 (fun _ => True))) 30 0 [(0, yR k0), (1, yI (3)), (2, yI (p2)), (3, yI (10))] [] hp
  refine yG.load xak rfl (fun _ _ => rfl) (v := yR k0) rfl rfl ?_
  refine yG.getO A_hp.1 (w_M_field W H_k0) rfl rfl (fun r1 H_r1 O_r1 q_r1 => ?_)
  refine yG.load xik rfl (fun _ _ => rfl) (v := yI (3)) rfl rfl ?_
  refine yG.load xik rfl (fun _ _ => rfl) (v := yI (p2)) rfl rfl ?_
  refine yG.load xik rfl (fun _ _ => rfl) (v := yI (10)) rfl rfl ?_
  refine yG.invS (rest := [yR r1]) rfl rfl rfl rfl (c_GModel_f W d A_hp.1 (3) (p2) (10) (by omega) (by omega) (by omega) (by omega) (by omega) (by omega)) (fun rv hp9 q9 => ?_)
  obtain ⟨⟨z2, rfl, l_z2, u_z2, R_z2⟩, e9⟩ := q9
  rw [e9]
  show yG _ _ _ _ _ _ _ _ _ _ (yI z2 :: [yR r1]) _
  refine yG.ialdF A_hp.1 (v_M_field W H_r1) (lo := 0) (hi := 15) ((yfT_ix (s := 3) (k := 10) (by omega) (by omega) (by omega) (by decide)).trans rfl) rfl (by omega) (by omega) (fun z3 e_z3 i_z3 l_z3 u_z3 => ?_)
  refine yG.ret rfl (fun _ _ => rfl) ?_
  exact (yP.int ⟨by omega, by omega⟩ ⟨⟨z3, rfl, by omega, by omega, trivial⟩, rfl⟩)
theorem c_GModel_of_4_0 {hp : xH} (W : mW G) (d : Nat) (hT : zTy G hp) {k0 : Nat} (H_k0 : bRo G 116 k0) (p2 : Int) (h2l : 0 ≤ p2) (h2u : p2 ≤ 23) : yC (xcall 89 xfts xpools xms (d + 2)) 471 [yR k0, yI (4), yI (p2), yI (0)] hp (bQpi hp 0 9999 (fun _ => True)) := by
  have A_hp : bAx G [] hp hp := bAx.rf hT
  refine yC.of (M := (xt_X13_of, (4, (1, (14, []))))) rfl rfl (N := 30) (yfuel (by decide)) ?_
  show yG 89 xfts (xcall 89 xfts xpools xms (d + 1)) (xpool xp_RX13) [] xt_X13_of (yP 1 (bQpi hp 0 9999 (fun _ => True))) 30 0 [(0, yR k0), (1, yI (4)), (2, yI (p2)), (3, yI (0))] [] hp
  refine yG.load xak rfl (fun _ _ => rfl) (v := yR k0) rfl rfl ?_
  refine yG.getO A_hp.1 (w_M_field W H_k0) rfl rfl (fun r1 H_r1 O_r1 q_r1 => ?_)
  refine yG.load xik rfl (fun _ _ => rfl) (v := yI (4)) rfl rfl ?_
  refine yG.load xik rfl (fun _ _ => rfl) (v := yI (p2)) rfl rfl ?_
  refine yG.load xik rfl (fun _ _ => rfl) (v := yI (0)) rfl rfl ?_
  refine yG.invS (rest := [yR r1]) rfl rfl rfl rfl (c_GModel_f W d A_hp.1 (4) (p2) (0) (by omega) (by omega) (by omega) (by omega) (by omega) (by omega)) (fun rv hp9 q9 => ?_)
  obtain ⟨⟨z2, rfl, l_z2, u_z2, R_z2⟩, e9⟩ := q9
  rw [e9]
  show yG _ _ _ _ _ _ _ _ _ _ (yI z2 :: [yR r1]) _
  refine yG.ialdF A_hp.1 (v_M_field W H_r1) (lo := 0) (hi := 9999) ((yfT_ix (s := 4) (k := 0) (by omega) (by omega) (by omega) (by decide)).trans rfl) rfl (by omega) (by omega) (fun z3 e_z3 i_z3 l_z3 u_z3 => ?_)
  refine yG.ret rfl (fun _ _ => rfl) ?_
  exact (yP.int ⟨by omega, by omega⟩ ⟨⟨z3, rfl, by omega, by omega, trivial⟩, rfl⟩)
theorem c_GModel_of_4_1 {hp : xH} (W : mW G) (d : Nat) (hT : zTy G hp) {k0 : Nat} (H_k0 : bRo G 116 k0) (p2 : Int) (h2l : 0 ≤ p2) (h2u : p2 ≤ 23) : yC (xcall 89 xfts xpools xms (d + 2)) 471 [yR k0, yI (4), yI (p2), yI (1)] hp (bQpi hp 0 15 (fun _ => True)) := by
  have A_hp : bAx G [] hp hp := bAx.rf hT
  refine yC.of (M := (xt_X13_of, (4, (1, (14, []))))) rfl rfl (N := 30) (yfuel (by decide)) ?_
  show yG 89 xfts (xcall 89 xfts xpools xms (d + 1)) (xpool xp_RX13) [] xt_X13_of (yP 1 (bQpi hp 0 15 (fun _ => True))) 30 0 [(0, yR k0), (1, yI (4)), (2, yI (p2)), (3, yI (1))] [] hp
  refine yG.load xak rfl (fun _ _ => rfl) (v := yR k0) rfl rfl ?_
  refine yG.getO A_hp.1 (w_M_field W H_k0) rfl rfl (fun r1 H_r1 O_r1 q_r1 => ?_)
  refine yG.load xik rfl (fun _ _ => rfl) (v := yI (4)) rfl rfl ?_
  refine yG.load xik rfl (fun _ _ => rfl) (v := yI (p2)) rfl rfl ?_
  refine yG.load xik rfl (fun _ _ => rfl) (v := yI (1)) rfl rfl ?_
  refine yG.invS (rest := [yR r1]) rfl rfl rfl rfl (c_GModel_f W d A_hp.1 (4) (p2) (1) (by omega) (by omega) (by omega) (by omega) (by omega) (by omega)) (fun rv hp9 q9 => ?_)
  obtain ⟨⟨z2, rfl, l_z2, u_z2, R_z2⟩, e9⟩ := q9
  rw [e9]
  show yG _ _ _ _ _ _ _ _ _ _ (yI z2 :: [yR r1]) _
  refine yG.ialdF A_hp.1 (v_M_field W H_r1) (lo := 0) (hi := 15) ((yfT_ix (s := 4) (k := 1) (by omega) (by omega) (by omega) (by decide)).trans rfl) rfl (by omega) (by omega) (fun z3 e_z3 i_z3 l_z3 u_z3 => ?_)
  refine yG.ret rfl (fun _ _ => rfl) ?_
  exact (yP.int ⟨by omega, by omega⟩ ⟨⟨z3, rfl, by omega, by omega, trivial⟩, rfl⟩)
theorem c_GModel_of_2e {hp : xH} (W : mW G) (d : Nat) (hT : zTy G hp) {k0 : Nat} (H_k0 : bRo G 116 k0) (p2 p3 : Int) (h2l : 0 ≤ p2) (h2u : p2 ≤ 23) (h3l : 4 ≤ p3) (h3u : p3 ≤ 5) : yC (xcall 89 xfts xpools xms (d + 2)) 471 [yR k0, yI (2), yI (p2), yI (p3)] hp (bQpi hp 0 15 (fun _ => True)) := by
  have A_hp : bAx G [] hp hp := bAx.rf hT
  refine yC.of (M := (xt_X13_of, (4, (1, (14, []))))) rfl rfl (N := 30) (yfuel (by decide)) ?_
  show yG 89 xfts (xcall 89 xfts xpools xms (d + 1)) (xpool xp_RX13) [] xt_X13_of (yP 1 (bQpi hp 0 15 (fun _ => True))) 30 0 [(0, yR k0), (1, yI (2)), (2, yI (p2)), (3, yI (p3))] [] hp
  rcases (show p3 = 4 ∨ p3 = 5 by omega) with c1 | c1
  · subst c1
    refine yG.load xak rfl (fun _ _ => rfl) (v := yR k0) rfl rfl ?_
    refine yG.getO A_hp.1 (w_M_field W H_k0) rfl rfl (fun r2 H_r2 O_r2 q_r2 => ?_)
    refine yG.load xik rfl (fun _ _ => rfl) (v := yI (2)) rfl rfl ?_
    refine yG.load xik rfl (fun _ _ => rfl) (v := yI (p2)) rfl rfl ?_
    refine yG.load xik rfl (fun _ _ => rfl) (v := yI (4)) rfl rfl ?_
    refine yG.invS (rest := [yR r2]) rfl rfl rfl rfl (c_GModel_f W d A_hp.1 (2) (p2) (4) (by omega) (by omega) (by omega) (by omega) (by omega) (by omega)) (fun rv hp9 q9 => ?_)
    obtain ⟨⟨z3, rfl, l_z3, u_z3, R_z3⟩, e9⟩ := q9
    rw [e9]
    show yG _ _ _ _ _ _ _ _ _ _ (yI z3 :: [yR r2]) _
    refine yG.ialdF A_hp.1 (v_M_field W H_r2) (lo := 0) (hi := 15) ((yfT_ix (s := 2) (k := 4) (by omega) (by omega) (by omega) (by decide)).trans rfl) rfl (by omega) (by omega) (fun z4 e_z4 i_z4 l_z4 u_z4 => ?_)
    refine yG.ret rfl (fun _ _ => rfl) ?_
    exact (yP.int ⟨by omega, by omega⟩ ⟨⟨z4, rfl, by omega, by omega, trivial⟩, rfl⟩)
  · subst c1
    refine yG.load xak rfl (fun _ _ => rfl) (v := yR k0) rfl rfl ?_
    refine yG.getO A_hp.1 (w_M_field W H_k0) rfl rfl (fun r5 H_r5 O_r5 q_r5 => ?_)
    refine yG.load xik rfl (fun _ _ => rfl) (v := yI (2)) rfl rfl ?_
    refine yG.load xik rfl (fun _ _ => rfl) (v := yI (p2)) rfl rfl ?_
    refine yG.load xik rfl (fun _ _ => rfl) (v := yI (5)) rfl rfl ?_
    refine yG.invS (rest := [yR r5]) rfl rfl rfl rfl (c_GModel_f W d A_hp.1 (2) (p2) (5) (by omega) (by omega) (by omega) (by omega) (by omega) (by omega)) (fun rv hp9 q9 => ?_)
    obtain ⟨⟨z6, rfl, l_z6, u_z6, R_z6⟩, e9⟩ := q9
    rw [e9]
    show yG _ _ _ _ _ _ _ _ _ _ (yI z6 :: [yR r5]) _
    refine yG.ialdF A_hp.1 (v_M_field W H_r5) (lo := 0) (hi := 15) ((yfT_ix (s := 2) (k := 5) (by omega) (by omega) (by omega) (by decide)).trans rfl) rfl (by omega) (by omega) (fun z7 e_z7 i_z7 l_z7 u_z7 => ?_)
    refine yG.ret rfl (fun _ _ => rfl) ?_
    exact (yP.int ⟨by omega, by omega⟩ ⟨⟨z7, rfl, by omega, by omega, trivial⟩, rfl⟩)
theorem c_GModel_of_z {hp : xH} (W : mW G) (d : Nat) (hT : zTy G hp) {k0 : Nat} (H_k0 : bRo G 116 k0) (p1 p2 p3 : Int) (h1l : 0 ≤ p1) (h1u : p1 ≤ 4) (h2l : 0 ≤ p2) (h2u : p2 ≤ 23) (h3l : 0 ≤ p3) (h3u : p3 ≤ 10) : yC (xcall 89 xfts xpools xms (d + 2)) 471 [yR k0, yI (p1), yI (p2), yI (p3)] hp (bQpi hp 0 999999 (fun _ => True)) := by
  have A_hp : bAx G [] hp hp := bAx.rf hT
  refine yC.of (M := (xt_X13_of, (4, (1, (14, []))))) rfl rfl (N := 30) (yfuel (by decide)) ?_
  show yG 89 xfts (xcall 89 xfts xpools xms (d + 1)) (xpool xp_RX13) [] xt_X13_of (yP 1 (bQpi hp 0 999999 (fun _ => True))) 30 0 [(0, yR k0), (1, yI (p1)), (2, yI (p2)), (3, yI (p3))] [] hp
  refine yG.load xak rfl (fun _ _ => rfl) (v := yR k0) rfl rfl ?_
  refine yG.getO A_hp.1 (w_M_field W H_k0) rfl rfl (fun r1 H_r1 O_r1 q_r1 => ?_)
  refine yG.load xik rfl (fun _ _ => rfl) (v := yI (p1)) rfl rfl ?_
  refine yG.load xik rfl (fun _ _ => rfl) (v := yI (p2)) rfl rfl ?_
  refine yG.load xik rfl (fun _ _ => rfl) (v := yI (p3)) rfl rfl ?_
  refine yG.invS (rest := [yR r1]) rfl rfl rfl rfl (c_GModel_f W d A_hp.1 (p1) (p2) (p3) (by omega) (by omega) (by omega) (by omega) (by omega) (by omega)) (fun rv hp9 q9 => ?_)
  obtain ⟨⟨z2, rfl, l_z2, u_z2, R_z2⟩, e9⟩ := q9
  rw [e9]
  show yG _ _ _ _ _ _ _ _ _ _ (yI z2 :: [yR r1]) _
  refine yG.ialdT A_hp.1 (v_M_field W H_r1) (yhull2 (tf := yfT) (yfT_h _)) rfl (by omega) (by omega) (fun z3 lo_z3 hi_z3 e_z3 i_z3 T_z3 l_z3 u_z3 => ?_)
  obtain ⟨L_z3, U_z3⟩ := yhull (tf := yfT) (yfT_h _) T_z3
  refine yG.ret rfl (fun _ _ => rfl) ?_
  exact (yP.int ⟨by omega, by omega⟩ ⟨⟨z3, rfl, by omega, by omega, trivial⟩, rfl⟩)
theorem c_GModel_asItIs {hp : xH} (W : mW G) (d : Nat) (hT : zTy G hp) {k0 : Nat} (H_k0 : bRo G 116 k0) : yC (xcall 89 xfts xpools xms (d + 3)) 353 [yR k0] hp (fun rv hp' => (rv = none ∧ True) ∧ bAx G [(8362779449448983678075894352243135564742656, 256)] hp hp') := by
  have A_hp : bAx G [(8362779449448983678075894352243135564742656, 256)] hp hp := bAx.rf hT
  have H : ∀ m : Nat, (∀ a1 : Int, ∀ hq, bAx G [(8362779449448983678075894352243135564742656, 256)] hp hq → 0 ≤ a1 → (-24) ≤ 0 - a1 → 0 - 43 * a1 + 1074 < (m : Int) → yG 89 xfts (xcall 89 xfts xpools xms (d + 2)) (xpool xp_RX13) [] xt_X13_asItIs (yP 0 (fun rv hp' => (rv = none ∧ True) ∧ bAx G [(8362779449448983678075894352243135564742656, 256)] hp hp')) (19 * m) 2 [(0, yR k0), (1, yI (a1))] [] hq) ∧ (∀ a1 : Int, ∀ hq, bAx G [(8362779449448983678075894352243135564742656, 256)] hp hq → 0 ≤ a1 → (-20) ≤ 0 - a1 → 0 - 2 * a1 + 41 < (m : Int) → yG 89 xfts (xcall 89 xfts xpools xms (d + 2)) (xpool xp_RX13) [] xt_X13_asItIs (yP 0 (fun rv hp' => (rv = none ∧ True) ∧ bAx G [(8362779449448983678075894352243135564742656, 256)] hp hp')) (19 * m) 33 [(0, yR k0), (1, yI (a1))] [] hq) := by
    intro m
    induction m with
    | zero =>
      refine ⟨?_, ?_⟩ <;> (intros; exfalso; omega)
    | succ m ih =>
      obtain ⟨i_2, i_33⟩ := ih
      refine ⟨?_, ?_⟩
      · intro a1 hq A_hq f0 f1 hm
        refine yG.mono (N := 19 * m + 19) ?_ (by omega)
        refine yG.load xik rfl (fun _ _ => rfl) (v := yI (a1)) rfl rfl ?_
        refine yG.load xak rfl (fun _ _ => rfl) (v := yR k0) rfl rfl ?_
        refine yG.getO A_hq.1 (w_M_count W H_k0) rfl rfl (fun r1 H_r1 O_r1 q_r1 => ?_)
        refine yG.num (c := 1) rfl (fun _ _ => rfl) (by decide) ?_
        refine yG.ialdF A_hq.1 (v_M_count W H_r1) rfl rfl (by omega) (by omega) (fun z2 e_z2 i_z2 l_z2 u_z2 => ?_)
        refine yG.icmp rfl (t := 31) rfl ⟨by omega, by omega⟩ ⟨by omega, by omega⟩ (fun c3 => ?_) (fun c3 => ?_)
        · have c3 : (a1 : Int) ≥ z2 := c3
          refine yG.num (c := 0) rfl (fun _ _ => rfl) (by decide) ?_
          refine yG.store1 xik (L' := [(1, yI (0)), (0, yR k0)]) rfl (fun _ _ => rfl) rfl rfl ?_
          exact yG.mono (yG.sub (i_33 (0)  hq A_hq   (by omega) (by omega) (by omega)) (ySub.cons rfl (ySub.cons rfl (ySub.nil)))) (by omega)
        · have c3 : (a1 : Int) < z2 := c3
          refine yG.load xak rfl (fun _ _ => rfl) (v := yR k0) rfl rfl ?_
          refine yG.getO A_hq.1 (w_M_stateNow W H_k0) rfl rfl (fun r4 H_r4 O_r4 q_r4 => ?_)
          refine yG.load xik rfl (fun _ _ => rfl) (v := yI (a1)) rfl rfl ?_
          refine yG.load xak rfl (fun _ _ => rfl) (v := yR k0) rfl rfl ?_
          refine yG.num (c := 1) rfl (fun _ _ => rfl) (by decide) ?_
          refine yG.load xik rfl (fun _ _ => rfl) (v := yI (a1)) rfl rfl ?_
          refine yG.num (c := 0) rfl (fun _ _ => rfl) (by decide) ?_
          refine yG.invV (rest := [yI (a1), yR r4]) A_hq.1 (bOb (d_M W) H_k0) rfl rfl rfl rfl (c_GModel_of_1_0 W d A_hq.1 H_k0 (a1) (by omega) (by omega)) (fun rv hp9 q9 => ?_)
          obtain ⟨⟨z5, rfl, l_z5, u_z5, R_z5⟩, e9⟩ := q9
          rw [e9]
          show yG _ _ _ _ _ _ _ _ _ _ (yI z5 :: [yI (a1), yR r4]) _
          refine yG.iast A_hq.1 (v_M_stateNow W H_r4) (W.2.1 _ _ H_r4 (by decide) (by decide)) rfl (by omega) (by omega) ⟨by omega, by omega⟩ (by omega) (by omega) (fun h6 T_h6 b_h6 f_h6 y_h6 => ?_)
          have A_h6 := A_hq.put T_h6 b_h6 f_h6 H_r4 (bAll_ok (by decide) _)
          refine yG.iinc rfl (a := a1) rfl (L' := [(1, yI (a1 + 1)), (0, yR k0)]) rfl ?_
          refine yG.goto rfl (t := 2) rfl ?_
          exact yG.mono (yG.sub (i_2 (a1 + 1)  h6 A_h6   (by omega) (by omega) (by omega)) (ySub.cons rfl (ySub.cons rfl (ySub.nil)))) (by omega)
      · intro a1 hq A_hq f0 f1 hm
        refine yG.mono (N := 19 * m + 19) ?_ (by omega)
        refine yG.load xik rfl (fun _ _ => rfl) (v := yI (a1)) rfl rfl ?_
        refine yG.load xak rfl (fun _ _ => rfl) (v := yR k0) rfl rfl ?_
        refine yG.getO A_hq.1 (w_M_count W H_k0) rfl rfl (fun r1 H_r1 O_r1 q_r1 => ?_)
        refine yG.num (c := 2) rfl (fun _ _ => rfl) (by decide) ?_
        refine yG.ialdF A_hq.1 (v_M_count W H_r1) rfl rfl (by omega) (by omega) (fun z2 e_z2 i_z2 l_z2 u_z2 => ?_)
        refine yG.icmp rfl (t := 62) rfl ⟨by omega, by omega⟩ ⟨by omega, by omega⟩ (fun c3 => ?_) (fun c3 => ?_)
        · have c3 : (a1 : Int) ≥ z2 := c3
          refine yG.ret rfl (fun _ _ => rfl) ?_
          exact (yP.void ⟨⟨rfl, trivial⟩, A_hq⟩)
        · have c3 : (a1 : Int) < z2 := c3
          refine yG.load xak rfl (fun _ _ => rfl) (v := yR k0) rfl rfl ?_
          refine yG.getO A_hq.1 (w_M_inNow W H_k0) rfl rfl (fun r4 H_r4 O_r4 q_r4 => ?_)
          refine yG.load xik rfl (fun _ _ => rfl) (v := yI (a1)) rfl rfl ?_
          refine yG.load xak rfl (fun _ _ => rfl) (v := yR k0) rfl rfl ?_
          refine yG.num (c := 2) rfl (fun _ _ => rfl) (by decide) ?_
          refine yG.load xik rfl (fun _ _ => rfl) (v := yI (a1)) rfl rfl ?_
          refine yG.num (c := 0) rfl (fun _ _ => rfl) (by decide) ?_
          refine yG.invV (rest := [yI (a1), yR r4]) A_hq.1 (bOb (d_M W) H_k0) rfl rfl rfl rfl (c_GModel_of_2_0 W d A_hq.1 H_k0 (a1) (by omega) (by omega)) (fun rv hp9 q9 => ?_)
          obtain ⟨⟨z5, rfl, l_z5, u_z5, R_z5⟩, e9⟩ := q9
          rw [e9]
          show yG _ _ _ _ _ _ _ _ _ _ (yI z5 :: [yI (a1), yR r4]) _
          refine yG.iast A_hq.1 (v_M_inNow W H_r4) (W.2.1 _ _ H_r4 (by decide) (by decide)) rfl (by omega) (by omega) ⟨by omega, by omega⟩ (by omega) (by omega) (fun h6 T_h6 b_h6 f_h6 y_h6 => ?_)
          have A_h6 := A_hq.put T_h6 b_h6 f_h6 H_r4 (bAll_ok (by decide) _)
          refine yG.iinc rfl (a := a1) rfl (L' := [(1, yI (a1 + 1)), (0, yR k0)]) rfl ?_
          refine yG.goto rfl (t := 33) rfl ?_
          exact yG.mono (yG.sub (i_33 (a1 + 1)  h6 A_h6   (by omega) (by omega) (by omega)) (ySub.cons rfl (ySub.cons rfl (ySub.nil)))) (by omega)
  refine yC.of (M := (xt_X13_asItIs, (2, (0, (14, []))))) rfl rfl (N := 20463) (yfuel (by decide)) ?_
  show yG 89 xfts (xcall 89 xfts xpools xms (d + 2)) (xpool xp_RX13) [] xt_X13_asItIs (yP 0 (fun rv hp' => (rv = none ∧ True) ∧ bAx G [(8362779449448983678075894352243135564742656, 256)] hp hp')) 20463 0 [(0, yR k0)] [] hp
  obtain ⟨i_2, i_33⟩ := H 1076
  refine yG.num (c := 0) rfl (fun _ _ => rfl) (by decide) ?_
  refine yG.store1 xik (L' := [(1, yI (0)), (0, yR k0)]) rfl (fun _ _ => rfl) rfl rfl ?_
  exact yG.mono (yG.sub (i_2 (0)  hp A_hp   (by omega) (by omega) (by omega)) (ySub.cons rfl (ySub.cons rfl (ySub.nil)))) (by omega)
theorem c_GModel_nodeOfLine {hp : xH} (W : mW G) (d : Nat) (hT : zTy G hp) {k0 : Nat} (H_k0 : bRo G 116 k0) (p1 p2 : Int) (h1l : 0 ≤ p1) (h1u : p1 ≤ 19) (h2l : 0 ≤ p2) (h2u : p2 ≤ 1) : yC (xcall 89 xfts xpools xms (d + 3)) 468 [yR k0, yI (p1), yI (p2)] hp (bQpi hp 0 15 (fun _ => True)) := by
  have A_hp : bAx G [] hp hp := bAx.rf hT
  refine yC.of (M := (xt_X13_nodeOfLine, (3, (1, (14, []))))) rfl rfl (N := 39) (yfuel (by decide)) ?_
  show yG 89 xfts (xcall 89 xfts xpools xms (d + 2)) (xpool xp_RX13) [] xt_X13_nodeOfLine (yP 1 (bQpi hp 0 15 (fun _ => True))) 39 0 [(0, yR k0), (1, yI (p1)), (2, yI (p2))] [] hp
  refine yG.load xak rfl (fun _ _ => rfl) (v := yR k0) rfl rfl ?_
  refine yG.getO A_hp.1 (w_M_node W H_k0) rfl rfl (fun r1 H_r1 O_r1 q_r1 => ?_)
  refine yG.load xak rfl (fun _ _ => rfl) (v := yR k0) rfl rfl ?_
  refine yG.num (c := 2) rfl (fun _ _ => rfl) (by decide) ?_
  refine yG.load xik rfl (fun _ _ => rfl) (v := yI (p1)) rfl rfl ?_
  refine yG.num (c := 4) rfl (fun _ _ => rfl) (by decide) ?_
  refine yG.load xik rfl (fun _ _ => rfl) (v := yI (p2)) rfl rfl ?_
  refine yG.iadd rfl ?_
  refine yG.invV (rest := [yR r1]) A_hp.1 (bOb (d_M W) H_k0) rfl rfl rfl rfl (c_GModel_of_2e W d A_hp.1 H_k0 (p1) (4 + p2) (by omega) (by omega) (by omega) (by omega)) (fun rv hp9 q9 => ?_)
  obtain ⟨⟨z2, rfl, l_z2, u_z2, R_z2⟩, e9⟩ := q9
  rw [e9]
  show yG _ _ _ _ _ _ _ _ _ _ (yI z2 :: [yR r1]) _
  refine yG.ialdF A_hp.1 (v_M_node W H_r1) rfl rfl (by omega) (by omega) (fun z3 e_z3 i_z3 l_z3 u_z3 => ?_)
  refine yG.ret rfl (fun _ _ => rfl) ?_
  exact (yP.int ⟨by omega, by omega⟩ ⟨⟨z3, rfl, by omega, by omega, trivial⟩, rfl⟩)
theorem c_GModel_islandOfLine {hp : xH} (W : mW G) (d : Nat) (hT : zTy G hp) {k0 : Nat} (H_k0 : bRo G 116 k0) (p1 : Int) (h1l : 0 ≤ p1) (h1u : p1 ≤ 19) : yC (xcall 89 xfts xpools xms (d + 3)) 437 [yR k0, yI (p1)] hp (bQpi hp 0 15 (fun _ => True)) := by
  have A_hp : bAx G [] hp hp := bAx.rf hT
  refine yC.of (M := (xt_X13_islandOfLine, (2, (1, (14, []))))) rfl rfl (N := 33) (yfuel (by decide)) ?_
  show yG 89 xfts (xcall 89 xfts xpools xms (d + 2)) (xpool xp_RX13) [] xt_X13_islandOfLine (yP 1 (bQpi hp 0 15 (fun _ => True))) 33 0 [(0, yR k0), (1, yI (p1))] [] hp
  refine yG.load xak rfl (fun _ _ => rfl) (v := yR k0) rfl rfl ?_
  refine yG.getO A_hp.1 (w_M_island W H_k0) rfl rfl (fun r1 H_r1 O_r1 q_r1 => ?_)
  refine yG.load xak rfl (fun _ _ => rfl) (v := yR k0) rfl rfl ?_
  refine yG.num (c := 2) rfl (fun _ _ => rfl) (by decide) ?_
  refine yG.load xik rfl (fun _ _ => rfl) (v := yI (p1)) rfl rfl ?_
  refine yG.num (c := 4) rfl (fun _ _ => rfl) (by decide) ?_
  refine yG.invV (rest := [yR r1]) A_hp.1 (bOb (d_M W) H_k0) rfl rfl rfl rfl (c_GModel_of_2_4 W d A_hp.1 H_k0 (p1) (by omega) (by omega)) (fun rv hp9 q9 => ?_)
  obtain ⟨⟨z2, rfl, l_z2, u_z2, R_z2⟩, e9⟩ := q9
  rw [e9]
  show yG _ _ _ _ _ _ _ _ _ _ (yI z2 :: [yR r1]) _
  refine yG.ialdF A_hp.1 (v_M_island W H_r1) rfl rfl (by omega) (by omega) (fun z3 e_z3 i_z3 l_z3 u_z3 => ?_)
  refine yG.ret rfl (fun _ _ => rfl) ?_
  exact (yP.int ⟨by omega, by omega⟩ ⟨⟨z3, rfl, by omega, by omega, trivial⟩, rfl⟩)
theorem c_GModel_isBetween {hp : xH} (W : mW G) (d : Nat) (hT : zTy G hp) {k0 : Nat} (H_k0 : bRo G 116 k0) (p1 : Int) (h1l : 0 ≤ p1) (h1u : p1 ≤ 19) : yC (xcall 89 xfts xpools xms (d + 4)) 425 [yR k0, yI (p1)] hp (bQpi hp 0 1 (fun _ => True)) := by
  have A_hp : bAx G [] hp hp := bAx.rf hT
  refine yC.of (M := (xt_X13_isBetween, (2, (4, (14, []))))) rfl rfl (N := 60) (yfuel (by decide)) ?_
  show yG 89 xfts (xcall 89 xfts xpools xms (d + 3)) (xpool xp_RX13) [] xt_X13_isBetween (yP 4 (bQpi hp 0 1 (fun _ => True))) 60 0 [(0, yR k0), (1, yI (p1))] [] hp
  refine yG.load xak rfl (fun _ _ => rfl) (v := yR k0) rfl rfl ?_
  refine yG.getO A_hp.1 (w_M_inNow W H_k0) rfl rfl (fun r1 H_r1 O_r1 q_r1 => ?_)
  refine yG.load xik rfl (fun _ _ => rfl) (v := yI (p1)) rfl rfl ?_
  refine yG.iald A_hp.1 (v_M_inNow W H_r1) rfl (by omega) (by omega) (fun z2 e_z2 i_z2 l_z2 u_z2 => ?_)
  refine yG.num (c := 1) rfl (fun _ _ => rfl) (by decide) ?_
  refine yG.icmp rfl (t := 29) rfl ⟨by omega, by omega⟩ ⟨by omega, by omega⟩ (fun c3 => ?_) (fun c3 => ?_)
  · have c3 : (z2 : Int) ≠ 1 := c3
    refine yG.num (c := 0) rfl (fun _ _ => rfl) (by decide) ?_
    refine yG.ret rfl (fun _ _ => rfl) ?_
    exact (yP.bool (by omega) ⟨⟨0, rfl, by omega, by omega, trivial⟩, rfl⟩)
  · have c3 : (z2 : Int) = 1 := c3
    refine yG.load xak rfl (fun _ _ => rfl) (v := yR k0) rfl rfl ?_
    refine yG.load xik rfl (fun _ _ => rfl) (v := yI (p1)) rfl rfl ?_
    refine yG.num (c := 0) rfl (fun _ _ => rfl) (by decide) ?_
    refine yG.invV (rest := []) A_hp.1 (bOb (d_M W) H_k0) rfl rfl rfl rfl (c_GModel_nodeOfLine W d A_hp.1 H_k0 (p1) (0) (by omega) (by omega) (by omega) (by omega)) (fun rv hp9 q9 => ?_)
    obtain ⟨⟨z4, rfl, l_z4, u_z4, R_z4⟩, e9⟩ := q9
    rw [e9]
    show yG _ _ _ _ _ _ _ _ _ _ (yI z4 :: []) _
    refine yG.load xak rfl (fun _ _ => rfl) (v := yR k0) rfl rfl ?_
    refine yG.load xik rfl (fun _ _ => rfl) (v := yI (p1)) rfl rfl ?_
    refine yG.num (c := 1) rfl (fun _ _ => rfl) (by decide) ?_
    refine yG.invV (rest := [yI (z4)]) A_hp.1 (bOb (d_M W) H_k0) rfl rfl rfl rfl (c_GModel_nodeOfLine W d A_hp.1 H_k0 (p1) (1) (by omega) (by omega) (by omega) (by omega)) (fun rv hp9 q9 => ?_)
    obtain ⟨⟨z5, rfl, l_z5, u_z5, R_z5⟩, e9⟩ := q9
    rw [e9]
    show yG _ _ _ _ _ _ _ _ _ _ (yI z5 :: [yI (z4)]) _
    refine yG.icmp rfl (t := 29) rfl ⟨by omega, by omega⟩ ⟨by omega, by omega⟩ (fun c6 => ?_) (fun c6 => ?_)
    · have c6 : (z4 : Int) = z5 := c6
      refine yG.num (c := 0) rfl (fun _ _ => rfl) (by decide) ?_
      refine yG.ret rfl (fun _ _ => rfl) ?_
      exact (yP.bool (by omega) ⟨⟨0, rfl, by omega, by omega, trivial⟩, rfl⟩)
    · have c6 : (z4 : Int) ≠ z5 := c6
      refine yG.num (c := 1) rfl (fun _ _ => rfl) (by decide) ?_
      refine yG.goto rfl (t := 30) rfl ?_
      refine yG.ret rfl (fun _ _ => rfl) ?_
      exact (yP.bool (by omega) ⟨⟨1, rfl, by omega, by omega, trivial⟩, rfl⟩)
theorem c_GModel_topology {hp : xH} (W : mW G) (d : Nat) (hT : zTy G hp) {k0 : Nat} (H_k0 : bRo G 116 k0) : yC (xcall 89 xfts xpools xms (d + 3)) 534 [yR k0] hp (fun rv hp' => (rv = none ∧ True) ∧ bAx G [(78052608194857180995375013954269265270931456, 256)] hp hp') := by
  have A_hp : bAx G [(78052608194857180995375013954269265270931456, 256)] hp hp := bAx.rf hT
  have H : ∀ m : Nat, (∀ a1 : Int, ∀ hq, bAx G [(78052608194857180995375013954269265270931456, 256)] hp hq → 0 ≤ a1 → (-16) ≤ 0 - a1 → 0 - 134326 * a1 + 2283541 < (m : Int) → yG 89 xfts (xcall 89 xfts xpools xms (d + 2)) (xpool xp_RX13) [] xt_X13_topology (yP 0 (fun rv hp' => (rv = none ∧ True) ∧ bAx G [(78052608194857180995375013954269265270931456, 256)] hp hp')) (30 * m) 2 [(0, yR k0), (1, yI (a1))] [] hq) ∧ (∀ a1 : Int, ∀ hq, bAx G [(78052608194857180995375013954269265270931456, 256)] hp hq → 0 ≤ a1 → (-24) ≤ 0 - a1 → 0 - 5373 * a1 + 134324 < (m : Int) → yG 89 xfts (xcall 89 xfts xpools xms (d + 2)) (xpool xp_RX13) [] xt_X13_topology (yP 0 (fun rv hp' => (rv = none ∧ True) ∧ bAx G [(78052608194857180995375013954269265270931456, 256)] hp hp')) (30 * m) 34 [(0, yR k0), (1, yI (a1))] [] hq) ∧ (∀ a1 : Int, ∀ hq, bAx G [(78052608194857180995375013954269265270931456, 256)] hp hq → 0 ≤ a1 → (-16) ≤ 0 - a1 → 0 - 316 * a1 + 5371 < (m : Int) → yG 89 xfts (xcall 89 xfts xpools xms (d + 2)) (xpool xp_RX13) [] xt_X13_topology (yP 0 (fun rv hp' => (rv = none ∧ True) ∧ bAx G [(78052608194857180995375013954269265270931456, 256)] hp hp')) (30 * m) 84 [(0, yR k0), (1, yI (a1))] [] hq) ∧ (∀ a1 : Int, ∀ hq, bAx G [(78052608194857180995375013954269265270931456, 256)] hp hq → 0 ≤ a1 → (-20) ≤ 0 - a1 → 0 - 15 * a1 + 314 < (m : Int) → yG 89 xfts (xcall 89 xfts xpools xms (d + 2)) (xpool xp_RX13) [] xt_X13_topology (yP 0 (fun rv hp' => (rv = none ∧ True) ∧ bAx G [(78052608194857180995375013954269265270931456, 256)] hp hp')) (30 * m) 114 [(0, yR k0), (1, yI (a1))] [] hq) ∧ (∀ a1 : Int, ∀ hq, bAx G [(78052608194857180995375013954269265270931456, 256)] hp hq → 0 ≤ a1 → (-6) ≤ 0 - a1 → 0 - 2 * a1 + 13 < (m : Int) → yG 89 xfts (xcall 89 xfts xpools xms (d + 2)) (xpool xp_RX13) [] xt_X13_topology (yP 0 (fun rv hp' => (rv = none ∧ True) ∧ bAx G [(78052608194857180995375013954269265270931456, 256)] hp hp')) (30 * m) 164 [(0, yR k0), (1, yI (a1))] [] hq) := by
    intro m
    induction m with
    | zero =>
      refine ⟨?_, ?_, ?_, ?_, ?_⟩ <;> (intros; exfalso; omega)
    | succ m ih =>
      obtain ⟨i_2, i_34, i_84, i_114, i_164⟩ := ih
      refine ⟨?_, ?_, ?_, ?_, ?_⟩
      · intro a1 hq A_hq f0 f1 hm
        refine yG.mono (N := 30 * m + 30) ?_ (by omega)
        refine yG.load xik rfl (fun _ _ => rfl) (v := yI (a1)) rfl rfl ?_
        refine yG.load xak rfl (fun _ _ => rfl) (v := yR k0) rfl rfl ?_
        refine yG.getO A_hq.1 (w_M_count W H_k0) rfl rfl (fun r1 H_r1 O_r1 q_r1 => ?_)
        refine yG.num (c := 0) rfl (fun _ _ => rfl) (by decide) ?_
        refine yG.ialdF A_hq.1 (v_M_count W H_r1) rfl rfl (by omega) (by omega) (fun z2 e_z2 i_z2 l_z2 u_z2 => ?_)
        refine yG.icmp rfl (t := 32) rfl ⟨by omega, by omega⟩ ⟨by omega, by omega⟩ (fun c3 => ?_) (fun c3 => ?_)
        · have c3 : (a1 : Int) ≥ z2 := c3
          refine yG.num (c := 0) rfl (fun _ _ => rfl) (by decide) ?_
          refine yG.store1 xik (L' := [(1, yI (0)), (0, yR k0)]) rfl (fun _ _ => rfl) rfl rfl ?_
          exact yG.mono (yG.sub (i_34 (0)  hq A_hq   (by omega) (by omega) (by omega)) (ySub.cons rfl (ySub.cons rfl (ySub.nil)))) (by omega)
        · have c3 : (a1 : Int) < z2 := c3
          refine yG.load xak rfl (fun _ _ => rfl) (v := yR k0) rfl rfl ?_
          refine yG.getO A_hq.1 (w_M_node W H_k0) rfl rfl (fun r4 H_r4 O_r4 q_r4 => ?_)
          refine yG.load xik rfl (fun _ _ => rfl) (v := yI (a1)) rfl rfl ?_
          refine yG.load xik rfl (fun _ _ => rfl) (v := yI (a1)) rfl rfl ?_
          refine yG.iastF A_hq.1 (v_M_node W H_r4) rfl (W.2.1 _ _ H_r4 (by decide) (by decide)) rfl (by omega) (by omega) ⟨by omega, by omega⟩ (by omega) (by omega) (fun h5 T_h5 b_h5 f_h5 y_h5 => ?_)
          have A_h5 := A_hq.put T_h5 b_h5 f_h5 H_r4 (bAll_ok (by decide) _)
          refine yG.load xak rfl (fun _ _ => rfl) (v := yR k0) rfl rfl ?_
          refine yG.getO A_h5.1 (w_M_isLive W H_k0) rfl rfl (fun r6 H_r6 O_r6 q_r6 => ?_)
          refine yG.load xik rfl (fun _ _ => rfl) (v := yI (a1)) rfl rfl ?_
          refine yG.num (c := 0) rfl (fun _ _ => rfl) (by decide) ?_
          refine yG.bast A_h5.1 (v_M_isLive W H_r6) (W.2.1 _ _ H_r6 (by decide) (by decide)) rfl (by omega) (by omega) ⟨by omega, by omega⟩ (by omega) (by omega) (fun h7 T_h7 b_h7 f_h7 y_h7 => ?_)
          have A_h7 := A_h5.put T_h7 b_h7 f_h7 H_r6 (bAll_ok (by decide) _)
          refine yG.iinc rfl (a := a1) rfl (L' := [(1, yI (a1 + 1)), (0, yR k0)]) rfl ?_
          refine yG.goto rfl (t := 2) rfl ?_
          exact yG.mono (yG.sub (i_2 (a1 + 1)  h7 A_h7   (by omega) (by omega) (by omega)) (ySub.cons rfl (ySub.cons rfl (ySub.nil)))) (by omega)
      · intro a1 hq A_hq f0 f1 hm
        refine yG.mono (N := 30 * m + 30) ?_ (by omega)
        refine yG.load xik rfl (fun _ _ => rfl) (v := yI (a1)) rfl rfl ?_
        refine yG.load xak rfl (fun _ _ => rfl) (v := yR k0) rfl rfl ?_
        refine yG.getO A_hq.1 (w_M_count W H_k0) rfl rfl (fun r1 H_r1 O_r1 q_r1 => ?_)
        refine yG.num (c := 1) rfl (fun _ _ => rfl) (by decide) ?_
        refine yG.ialdF A_hq.1 (v_M_count W H_r1) rfl rfl (by omega) (by omega) (fun z2 e_z2 i_z2 l_z2 u_z2 => ?_)
        refine yG.icmp rfl (t := 82) rfl ⟨by omega, by omega⟩ ⟨by omega, by omega⟩ (fun c3 => ?_) (fun c3 => ?_)
        · have c3 : (a1 : Int) ≥ z2 := c3
          refine yG.num (c := 0) rfl (fun _ _ => rfl) (by decide) ?_
          refine yG.store1 xik (L' := [(1, yI (0)), (0, yR k0)]) rfl (fun _ _ => rfl) rfl rfl ?_
          exact yG.mono (yG.sub (i_84 (0)  hq A_hq   (by omega) (by omega) (by omega)) (ySub.cons rfl (ySub.cons rfl (ySub.nil)))) (by omega)
        · have c3 : (a1 : Int) < z2 := c3
          refine yG.load xak rfl (fun _ _ => rfl) (v := yR k0) rfl rfl ?_
          refine yG.getO A_hq.1 (w_M_stateNow W H_k0) rfl rfl (fun r4 H_r4 O_r4 q_r4 => ?_)
          refine yG.load xik rfl (fun _ _ => rfl) (v := yI (a1)) rfl rfl ?_
          refine yG.iald A_hq.1 (v_M_stateNow W H_r4) rfl (by omega) (by omega) (fun z5 e_z5 i_z5 l_z5 u_z5 => ?_)
          refine yG.num (c := 1) rfl (fun _ _ => rfl) (by decide) ?_
          refine yG.icmp rfl (t := 76) rfl ⟨by omega, by omega⟩ ⟨by omega, by omega⟩ (fun c6 => ?_) (fun c6 => ?_)
          · have c6 : (z5 : Int) ≠ 1 := c6
            refine yG.iinc rfl (a := a1) rfl (L' := [(1, yI (a1 + 1)), (0, yR k0)]) rfl ?_
            refine yG.goto rfl (t := 34) rfl ?_
            exact yG.mono (yG.sub (i_34 (a1 + 1)  hq A_hq   (by omega) (by omega) (by omega)) (ySub.cons rfl (ySub.cons rfl (ySub.nil)))) (by omega)
          · have c6 : (z5 : Int) = 1 := c6
            refine yG.load xak rfl (fun _ _ => rfl) (v := yR k0) rfl rfl ?_
            refine yG.load xak rfl (fun _ _ => rfl) (v := yR k0) rfl rfl ?_
            refine yG.getO A_hq.1 (w_M_node W H_k0) rfl rfl (fun r7 H_r7 O_r7 q_r7 => ?_)
            refine yG.load xak rfl (fun _ _ => rfl) (v := yR k0) rfl rfl ?_
            refine yG.num (c := 1) rfl (fun _ _ => rfl) (by decide) ?_
            refine yG.load xik rfl (fun _ _ => rfl) (v := yI (a1)) rfl rfl ?_
            refine yG.num (c := 3) rfl (fun _ _ => rfl) (by decide) ?_
            refine yG.invV (rest := [yR r7, yR k0]) A_hq.1 (bOb (d_M W) H_k0) rfl rfl rfl rfl (c_GModel_of_1_3 W d A_hq.1 H_k0 (a1) (by omega) (by omega)) (fun rv hp9 q9 => ?_)
            obtain ⟨⟨z8, rfl, l_z8, u_z8, R_z8⟩, e9⟩ := q9
            rw [e9]
            show yG _ _ _ _ _ _ _ _ _ _ (yI z8 :: [yR r7, yR k0]) _
            refine yG.load xak rfl (fun _ _ => rfl) (v := yR k0) rfl rfl ?_
            refine yG.num (c := 1) rfl (fun _ _ => rfl) (by decide) ?_
            refine yG.load xik rfl (fun _ _ => rfl) (v := yI (a1)) rfl rfl ?_
            refine yG.num (c := 4) rfl (fun _ _ => rfl) (by decide) ?_
            refine yG.invV (rest := [yI (z8), yR r7, yR k0]) A_hq.1 (bOb (d_M W) H_k0) rfl rfl rfl rfl (c_GModel_of_1_4 W d A_hq.1 H_k0 (a1) (by omega) (by omega)) (fun rv hp9 q9 => ?_)
            obtain ⟨⟨z9, rfl, l_z9, u_z9, R_z9⟩, e9⟩ := q9
            rw [e9]
            show yG _ _ _ _ _ _ _ _ _ _ (yI z9 :: [yI (z8), yR r7, yR k0]) _
            refine yG.invV (rest := []) A_hq.1 (bOb (d_M W) H_k0) rfl rfl rfl rfl (c_GModel_merge_node W (d + 1) A_hq.1 H_k0 H_r7 (z8) (z9) (by omega) (by omega) (by omega) (by omega)) (fun rv h10 q9 => ?_)
            obtain ⟨⟨rfl, R_z11⟩, B_h10⟩ := q9
            have A_h10 := A_hq.tr B_h10 (by decide)
            show yG _ _ _ _ _ _ _ _ _ _ [] _
            refine yG.iinc rfl (a := a1) rfl (L' := [(1, yI (a1 + 1)), (0, yR k0)]) rfl ?_
            refine yG.goto rfl (t := 34) rfl ?_
            exact yG.mono (yG.sub (i_34 (a1 + 1)  h10 A_h10   (by omega) (by omega) (by omega)) (ySub.cons rfl (ySub.cons rfl (ySub.nil)))) (by omega)
      · intro a1 hq A_hq f0 f1 hm
        refine yG.mono (N := 30 * m + 30) ?_ (by omega)
        refine yG.load xik rfl (fun _ _ => rfl) (v := yI (a1)) rfl rfl ?_
        refine yG.load xak rfl (fun _ _ => rfl) (v := yR k0) rfl rfl ?_
        refine yG.getO A_hq.1 (w_M_count W H_k0) rfl rfl (fun r1 H_r1 O_r1 q_r1 => ?_)
        refine yG.num (c := 0) rfl (fun _ _ => rfl) (by decide) ?_
        refine yG.ialdF A_hq.1 (v_M_count W H_r1) rfl rfl (by omega) (by omega) (fun z2 e_z2 i_z2 l_z2 u_z2 => ?_)
        refine yG.icmp rfl (t := 112) rfl ⟨by omega, by omega⟩ ⟨by omega, by omega⟩ (fun c3 => ?_) (fun c3 => ?_)
        · have c3 : (a1 : Int) ≥ z2 := c3
          refine yG.num (c := 0) rfl (fun _ _ => rfl) (by decide) ?_
          refine yG.store1 xik (L' := [(1, yI (0)), (0, yR k0)]) rfl (fun _ _ => rfl) rfl rfl ?_
          exact yG.mono (yG.sub (i_114 (0)  hq A_hq   (by omega) (by omega) (by omega)) (ySub.cons rfl (ySub.cons rfl (ySub.nil)))) (by omega)
        · have c3 : (a1 : Int) < z2 := c3
          refine yG.load xak rfl (fun _ _ => rfl) (v := yR k0) rfl rfl ?_
          refine yG.getO A_hq.1 (w_M_island W H_k0) rfl rfl (fun r4 H_r4 O_r4 q_r4 => ?_)
          refine yG.load xik rfl (fun _ _ => rfl) (v := yI (a1)) rfl rfl ?_
          refine yG.load xak rfl (fun _ _ => rfl) (v := yR k0) rfl rfl ?_
          refine yG.getO A_hq.1 (w_M_node W H_k0) rfl rfl (fun r5 H_r5 O_r5 q_r5 => ?_)
          refine yG.load xik rfl (fun _ _ => rfl) (v := yI (a1)) rfl rfl ?_
          refine yG.ialdF A_hq.1 (v_M_node W H_r5) rfl rfl (by omega) (by omega) (fun z6 e_z6 i_z6 l_z6 u_z6 => ?_)
          refine yG.iastF A_hq.1 (v_M_island W H_r4) rfl (W.2.1 _ _ H_r4 (by decide) (by decide)) rfl (by omega) (by omega) ⟨by omega, by omega⟩ (by omega) (by omega) (fun h7 T_h7 b_h7 f_h7 y_h7 => ?_)
          have A_h7 := A_hq.put T_h7 b_h7 f_h7 H_r4 (bAll_ok (by decide) _)
          refine yG.iinc rfl (a := a1) rfl (L' := [(1, yI (a1 + 1)), (0, yR k0)]) rfl ?_
          refine yG.goto rfl (t := 84) rfl ?_
          exact yG.mono (yG.sub (i_84 (a1 + 1)  h7 A_h7   (by omega) (by omega) (by omega)) (ySub.cons rfl (ySub.cons rfl (ySub.nil)))) (by omega)
      · intro a1 hq A_hq f0 f1 hm
        refine yG.mono (N := 30 * m + 30) ?_ (by omega)
        refine yG.load xik rfl (fun _ _ => rfl) (v := yI (a1)) rfl rfl ?_
        refine yG.load xak rfl (fun _ _ => rfl) (v := yR k0) rfl rfl ?_
        refine yG.getO A_hq.1 (w_M_count W H_k0) rfl rfl (fun r1 H_r1 O_r1 q_r1 => ?_)
        refine yG.num (c := 2) rfl (fun _ _ => rfl) (by decide) ?_
        refine yG.ialdF A_hq.1 (v_M_count W H_r1) rfl rfl (by omega) (by omega) (fun z2 e_z2 i_z2 l_z2 u_z2 => ?_)
        refine yG.icmp rfl (t := 162) rfl ⟨by omega, by omega⟩ ⟨by omega, by omega⟩ (fun c3 => ?_) (fun c3 => ?_)
        · have c3 : (a1 : Int) ≥ z2 := c3
          refine yG.num (c := 0) rfl (fun _ _ => rfl) (by decide) ?_
          refine yG.store1 xik (L' := [(1, yI (0)), (0, yR k0)]) rfl (fun _ _ => rfl) rfl rfl ?_
          exact yG.mono (yG.sub (i_164 (0)  hq A_hq   (by omega) (by omega) (by omega)) (ySub.cons rfl (ySub.cons rfl (ySub.nil)))) (by omega)
        · have c3 : (a1 : Int) < z2 := c3
          refine yG.load xak rfl (fun _ _ => rfl) (v := yR k0) rfl rfl ?_
          refine yG.getO A_hq.1 (w_M_inNow W H_k0) rfl rfl (fun r4 H_r4 O_r4 q_r4 => ?_)
          refine yG.load xik rfl (fun _ _ => rfl) (v := yI (a1)) rfl rfl ?_
          refine yG.iald A_hq.1 (v_M_inNow W H_r4) rfl (by omega) (by omega) (fun z5 e_z5 i_z5 l_z5 u_z5 => ?_)
          refine yG.num (c := 1) rfl (fun _ _ => rfl) (by decide) ?_
          refine yG.icmp rfl (t := 156) rfl ⟨by omega, by omega⟩ ⟨by omega, by omega⟩ (fun c6 => ?_) (fun c6 => ?_)
          · have c6 : (z5 : Int) ≠ 1 := c6
            refine yG.iinc rfl (a := a1) rfl (L' := [(1, yI (a1 + 1)), (0, yR k0)]) rfl ?_
            refine yG.goto rfl (t := 114) rfl ?_
            exact yG.mono (yG.sub (i_114 (a1 + 1)  hq A_hq   (by omega) (by omega) (by omega)) (ySub.cons rfl (ySub.cons rfl (ySub.nil)))) (by omega)
          · have c6 : (z5 : Int) = 1 := c6
            refine yG.load xak rfl (fun _ _ => rfl) (v := yR k0) rfl rfl ?_
            refine yG.load xak rfl (fun _ _ => rfl) (v := yR k0) rfl rfl ?_
            refine yG.getO A_hq.1 (w_M_island W H_k0) rfl rfl (fun r7 H_r7 O_r7 q_r7 => ?_)
            refine yG.load xak rfl (fun _ _ => rfl) (v := yR k0) rfl rfl ?_
            refine yG.num (c := 2) rfl (fun _ _ => rfl) (by decide) ?_
            refine yG.load xik rfl (fun _ _ => rfl) (v := yI (a1)) rfl rfl ?_
            refine yG.num (c := 4) rfl (fun _ _ => rfl) (by decide) ?_
            refine yG.invV (rest := [yR r7, yR k0]) A_hq.1 (bOb (d_M W) H_k0) rfl rfl rfl rfl (c_GModel_of_2_4 W d A_hq.1 H_k0 (a1) (by omega) (by omega)) (fun rv hp9 q9 => ?_)
            obtain ⟨⟨z8, rfl, l_z8, u_z8, R_z8⟩, e9⟩ := q9
            rw [e9]
            show yG _ _ _ _ _ _ _ _ _ _ (yI z8 :: [yR r7, yR k0]) _
            refine yG.load xak rfl (fun _ _ => rfl) (v := yR k0) rfl rfl ?_
            refine yG.num (c := 2) rfl (fun _ _ => rfl) (by decide) ?_
            refine yG.load xik rfl (fun _ _ => rfl) (v := yI (a1)) rfl rfl ?_
            refine yG.num (c := 5) rfl (fun _ _ => rfl) (by decide) ?_
            refine yG.invV (rest := [yI (z8), yR r7, yR k0]) A_hq.1 (bOb (d_M W) H_k0) rfl rfl rfl rfl (c_GModel_of_2_5 W d A_hq.1 H_k0 (a1) (by omega) (by omega)) (fun rv hp9 q9 => ?_)
            obtain ⟨⟨z9, rfl, l_z9, u_z9, R_z9⟩, e9⟩ := q9
            rw [e9]
            show yG _ _ _ _ _ _ _ _ _ _ (yI z9 :: [yI (z8), yR r7, yR k0]) _
            refine yG.invV (rest := []) A_hq.1 (bOb (d_M W) H_k0) rfl rfl rfl rfl (c_GModel_merge_island W (d + 1) A_hq.1 H_k0 H_r7 (z8) (z9) (by omega) (by omega) (by omega) (by omega)) (fun rv h10 q9 => ?_)
            obtain ⟨⟨rfl, R_z11⟩, B_h10⟩ := q9
            have A_h10 := A_hq.tr B_h10 (by decide)
            show yG _ _ _ _ _ _ _ _ _ _ [] _
            refine yG.iinc rfl (a := a1) rfl (L' := [(1, yI (a1 + 1)), (0, yR k0)]) rfl ?_
            refine yG.goto rfl (t := 114) rfl ?_
            exact yG.mono (yG.sub (i_114 (a1 + 1)  h10 A_h10   (by omega) (by omega) (by omega)) (ySub.cons rfl (ySub.cons rfl (ySub.nil)))) (by omega)
      · intro a1 hq A_hq f0 f1 hm
        refine yG.mono (N := 30 * m + 30) ?_ (by omega)
        refine yG.load xik rfl (fun _ _ => rfl) (v := yI (a1)) rfl rfl ?_
        refine yG.load xak rfl (fun _ _ => rfl) (v := yR k0) rfl rfl ?_
        refine yG.getO A_hq.1 (w_M_count W H_k0) rfl rfl (fun r1 H_r1 O_r1 q_r1 => ?_)
        refine yG.num (c := 3) rfl (fun _ _ => rfl) (by decide) ?_
        refine yG.ialdF A_hq.1 (v_M_count W H_r1) rfl rfl (by omega) (by omega) (fun z2 e_z2 i_z2 l_z2 u_z2 => ?_)
        refine yG.icmp rfl (t := 210) rfl ⟨by omega, by omega⟩ ⟨by omega, by omega⟩ (fun c3 => ?_) (fun c3 => ?_)
        · have c3 : (a1 : Int) ≥ z2 := c3
          refine yG.ret rfl (fun _ _ => rfl) ?_
          exact (yP.void ⟨⟨rfl, trivial⟩, A_hq⟩)
        · have c3 : (a1 : Int) < z2 := c3
          refine yG.load xak rfl (fun _ _ => rfl) (v := yR k0) rfl rfl ?_
          refine yG.num (c := 3) rfl (fun _ _ => rfl) (by decide) ?_
          refine yG.load xik rfl (fun _ _ => rfl) (v := yI (a1)) rfl rfl ?_
          refine yG.num (c := 0) rfl (fun _ _ => rfl) (by decide) ?_
          refine yG.invV (rest := []) A_hq.1 (bOb (d_M W) H_k0) rfl rfl rfl rfl (c_GModel_of_3_0 W d A_hq.1 H_k0 (a1) (by omega) (by omega)) (fun rv hp9 q9 => ?_)
          obtain ⟨⟨z4, rfl, l_z4, u_z4, R_z4⟩, e9⟩ := q9
          rw [e9]
          show yG _ _ _ _ _ _ _ _ _ _ (yI z4 :: []) _
          refine yG.num (c := 1) rfl (fun _ _ => rfl) (by decide) ?_
          refine yG.icmp rfl (t := 204) rfl ⟨by omega, by omega⟩ ⟨by omega, by omega⟩ (fun c5 => ?_) (fun c5 => ?_)
          · have c5 : (z4 : Int) ≠ 1 := c5
            refine yG.iinc rfl (a := a1) rfl (L' := [(1, yI (a1 + 1)), (0, yR k0)]) rfl ?_
            refine yG.goto rfl (t := 164) rfl ?_
            exact yG.mono (yG.sub (i_164 (a1 + 1)  hq A_hq   (by omega) (by omega) (by omega)) (ySub.cons rfl (ySub.cons rfl (ySub.nil)))) (by omega)
          · have c5 : (z4 : Int) = 1 := c5
            refine yG.load xak rfl (fun _ _ => rfl) (v := yR k0) rfl rfl ?_
            refine yG.getO A_hq.1 (w_M_isLive W H_k0) rfl rfl (fun r6 H_r6 O_r6 q_r6 => ?_)
            refine yG.load xak rfl (fun _ _ => rfl) (v := yR k0) rfl rfl ?_
            refine yG.getO A_hq.1 (w_M_island W H_k0) rfl rfl (fun r7 H_r7 O_r7 q_r7 => ?_)
            refine yG.load xak rfl (fun _ _ => rfl) (v := yR k0) rfl rfl ?_
            refine yG.num (c := 3) rfl (fun _ _ => rfl) (by decide) ?_
            refine yG.load xik rfl (fun _ _ => rfl) (v := yI (a1)) rfl rfl ?_
            refine yG.num (c := 10) rfl (fun _ _ => rfl) (by decide) ?_
            refine yG.invV (rest := [yR r7, yR r6]) A_hq.1 (bOb (d_M W) H_k0) rfl rfl rfl rfl (c_GModel_of_3_10 W d A_hq.1 H_k0 (a1) (by omega) (by omega)) (fun rv hp9 q9 => ?_)
            obtain ⟨⟨z8, rfl, l_z8, u_z8, R_z8⟩, e9⟩ := q9
            rw [e9]
            show yG _ _ _ _ _ _ _ _ _ _ (yI z8 :: [yR r7, yR r6]) _
            refine yG.ialdF A_hq.1 (v_M_island W H_r7) rfl rfl (by omega) (by omega) (fun z9 e_z9 i_z9 l_z9 u_z9 => ?_)
            refine yG.num (c := 1) rfl (fun _ _ => rfl) (by decide) ?_
            refine yG.bast A_hq.1 (v_M_isLive W H_r6) (W.2.1 _ _ H_r6 (by decide) (by decide)) rfl (by omega) (by omega) ⟨by omega, by omega⟩ (by omega) (by omega) (fun h10 T_h10 b_h10 f_h10 y_h10 => ?_)
            have A_h10 := A_hq.put T_h10 b_h10 f_h10 H_r6 (bAll_ok (by decide) _)
            refine yG.iinc rfl (a := a1) rfl (L' := [(1, yI (a1 + 1)), (0, yR k0)]) rfl ?_
            refine yG.goto rfl (t := 164) rfl ?_
            exact yG.mono (yG.sub (i_164 (a1 + 1)  h10 A_h10   (by omega) (by omega) (by omega)) (ySub.cons rfl (ySub.cons rfl (ySub.nil)))) (by omega)
  refine yC.of (M := (xt_X13_topology, (2, (0, (14, []))))) rfl rfl (N := 68506320) (yfuel (by decide)) ?_
  show yG 89 xfts (xcall 89 xfts xpools xms (d + 2)) (xpool xp_RX13) [] xt_X13_topology (yP 0 (fun rv hp' => (rv = none ∧ True) ∧ bAx G [(78052608194857180995375013954269265270931456, 256)] hp hp')) 68506320 0 [(0, yR k0)] [] hp
  obtain ⟨i_2, i_34, i_84, i_114, i_164⟩ := H 2283543
  refine yG.num (c := 0) rfl (fun _ _ => rfl) (by decide) ?_
  refine yG.store1 xik (L' := [(1, yI (0)), (0, yR k0)]) rfl (fun _ _ => rfl) rfl rfl ?_
  exact yG.mono (yG.sub (i_2 (0)  hp A_hp   (by omega) (by omega) (by omega)) (ySub.cons rfl (ySub.cons rfl (ySub.nil)))) (by omega)
theorem c_GModel_netTopology {hp : xH} (W : mW G) (d : Nat) (hT : zTy G hp) {k0 : Nat} (H_k0 : bRo G 116 k0) : yC (xcall 89 xfts xpools xms (d + 4)) 464 [yR k0] hp (fun rv hp' => (rv = none ∧ True) ∧ bAx G [(86415387644306164673450908306512400835674112, 256)] hp hp') := by
  have A_hp : bAx G [(86415387644306164673450908306512400835674112, 256)] hp hp := bAx.rf hT
  refine yC.of (M := (xt_X13_netTopology, (1, (0, (14, []))))) rfl rfl (N := 30) (yfuel (by decide)) ?_
  show yG 89 xfts (xcall 89 xfts xpools xms (d + 3)) (xpool xp_RX13) [] xt_X13_netTopology (yP 0 (fun rv hp' => (rv = none ∧ True) ∧ bAx G [(86415387644306164673450908306512400835674112, 256)] hp hp')) 30 0 [(0, yR k0)] [] hp
  refine yG.load xak rfl (fun _ _ => rfl) (v := yR k0) rfl rfl ?_
  refine yG.getI A_hp.1 (w_M_hasFlows W H_k0) rfl rfl (fun z1 e_z1 i_z1 l_z1 u_z1 => ?_)
  refine yG.ifz rfl (t := 15) rfl ⟨by omega, by omega⟩ (fun c2 => ?_) (fun c2 => ?_)
  · have c2 : (z1 : Int) ≠ 0 := c2
    refine yG.ret rfl (fun _ _ => rfl) ?_
    exact (yP.void ⟨⟨rfl, trivial⟩, A_hp⟩)
  · have c2 : (z1 : Int) = 0 := c2
    refine yG.load xak rfl (fun _ _ => rfl) (v := yR k0) rfl rfl ?_
    refine yG.invV (rest := []) A_hp.1 (bOb (d_M W) H_k0) rfl rfl rfl rfl (c_GModel_asItIs W d A_hp.1 H_k0) (fun rv h3 q9 => ?_)
    obtain ⟨⟨rfl, R_z4⟩, B_h3⟩ := q9
    have A_h3 := A_hp.tr B_h3 (by decide)
    show yG _ _ _ _ _ _ _ _ _ _ [] _
    refine yG.load xak rfl (fun _ _ => rfl) (v := yR k0) rfl rfl ?_
    refine yG.invV (rest := []) A_h3.1 (bOb (d_M W) H_k0) rfl rfl rfl rfl (c_GModel_topology W d A_h3.1 H_k0) (fun rv h5 q9 => ?_)
    obtain ⟨⟨rfl, R_z6⟩, B_h5⟩ := q9
    have A_h5 := A_h3.tr B_h5 (by decide)
    show yG _ _ _ _ _ _ _ _ _ _ [] _
    refine yG.ret rfl (fun _ _ => rfl) ?_
    exact (yP.void ⟨⟨rfl, trivial⟩, A_h5⟩)
theorem c_GModel_mod {hp : xH} (W : mW G) (d : Nat) (hT : zTy G hp) {k0 : Nat} (H_k0 : bRo G 116 k0) (p1 : Int) (h1l : (-9223372036854775808) ≤ p1) (h1u : p1 ≤ 9223372036854775807) (q0l : 1 ≤ ys hp k0 11) (q0u : ys hp k0 11 ≤ 2147483647) : yC (xcall 89 xfts xpools xms (d + 1)) 457 [yR k0, yJ (p1)] hp (bQpj hp 0 2147483646 (fun _ => True)) := by
  have A_hp : bAx G [] hp hp := bAx.rf hT
  refine yC.of (M := (xt_X13_mod, (5, (2, (14, []))))) rfl rfl (N := 51) (yfuel (by decide)) ?_
  show yG 89 xfts (xcall 89 xfts xpools xms d) (xpool xp_RX13) [] xt_X13_mod (yP 2 (bQpj hp 0 2147483646 (fun _ => True))) 51 0 [(0, yR k0), (1, yJ (p1))] [] hp
  obtain ⟨gg0, E_0⟩ : ∃ z : Int, ys hp k0 11 = z := ⟨_, rfl⟩
  obtain ⟨-, -, g_0l, g_0u⟩ := (w_M_p W H_k0).long hT
  refine yG.load xlk2 rfl (fun _ _ => rfl) (v := yJ (p1)) rfl rfl ?_
  refine yG.load xak rfl (fun _ _ => rfl) (v := yR k0) rfl rfl ?_
  refine yG.getJ A_hp.1 (w_M_p W H_k0) rfl rfl (fun z1 e_z1 i_z1 l_z1 u_z1 => ?_)
  rw [show (z1 : Int) = gg0 by omega]
  refine yG.lremS rfl ⟨by omega, by omega⟩ ⟨by omega, by omega⟩ (by omega) (fun z2 l_z2 u_z2 => ?_)
  refine yG.store2 xlk2 (L' := [(3, yJ (z2)), (0, yR k0), (1, yJ (p1))]) rfl (fun _ _ => rfl) rfl rfl ?_
  refine yG.load xlk2 rfl (fun _ _ => rfl) (v := yJ (z2)) rfl rfl ?_
  refine yG.numl (c := 0) rfl (fun _ _ => rfl) (by decide) ?_
  refine yG.lcmp rfl ⟨by omega, by omega⟩ ⟨by omega, by omega⟩ (fun z3 e_z3 => ?_)
  refine yG.ifz rfl (t := 22) rfl ⟨by omega, by omega⟩ (fun c4 => ?_) (fun c4 => ?_)
  · have c4 : (z3 : Int) ≥ 0 := c4
    refine yG.load xlk2 rfl (fun _ _ => rfl) (v := yJ (z2)) rfl rfl ?_
    refine yG.ret rfl (fun _ _ => rfl) ?_
    exact (yP.long ⟨by omega, by omega⟩ ⟨⟨z2, rfl, by omega, by omega, trivial⟩, rfl⟩)
  · have c4 : (z3 : Int) < 0 := c4
    refine yG.load xlk2 rfl (fun _ _ => rfl) (v := yJ (z2)) rfl rfl ?_
    refine yG.load xak rfl (fun _ _ => rfl) (v := yR k0) rfl rfl ?_
    refine yG.getJ A_hp.1 (w_M_p W H_k0) rfl rfl (fun z5 e_z5 i_z5 l_z5 u_z5 => ?_)
    rw [show (z5 : Int) = gg0 by omega]
    refine yG.ladd rfl ?_
    refine yG.goto rfl (t := 23) rfl ?_
    refine yG.ret rfl (fun _ _ => rfl) ?_
    exact (yP.long ⟨by omega, by omega⟩ ⟨⟨z2 + gg0, rfl, by omega, by omega, trivial⟩, rfl⟩)
theorem c_GModel_inverse {hp : xH} (W : mW G) (d : Nat) (hT : zTy G hp) {k0 : Nat} (H_k0 : bRo G 116 k0) (p1 p3 : Int) (h1l : 0 ≤ p1) (h1u : p1 ≤ 2147483647) (h3l : 1 ≤ p3) (h3u : p3 ≤ 2147483647) : yC (xcall 89 xfts xpools xms (d + 1)) 419 [yR k0, yJ (p1), yJ (p3)] hp (bQpj hp 0 2147483646 (fun z => 0 ≤ p3 - z)) := by
  have A_hp : bAx G [] hp hp := bAx.rf hT
  have H : ∀ m : Nat, (∀ a5 : Int, ∀ a7 : Int, ∀ a9 : Int, 0 ≤ a5 → (-2147483646) ≤ 0 - a5 → 0 ≤ a7 → (-2147483646) ≤ 0 - a7 → (-1) ≤ a9 → (-2147483645) ≤ 0 - a9 → 0 ≤ p1 → (-2147483647) ≤ 0 - p1 → 1 ≤ p3 → (-2147483647) ≤ 0 - p3 → (-2147483644) ≤ a5 - a9 → (-2147483646) ≤ 0 - a5 + a9 → 0 ≤ 0 - a5 + p3 → 1 ≤ 0 - a7 + p3 → (-2147483647) ≤ a9 - p3 → 2 ≤ 0 - a9 + p3 → 2 * a9 + 3 < (m : Int) → yG 89 xfts (xcall 89 xfts xpools xms d) (xpool xp_RX13) [] xt_X13_inverse (yP 2 (bQpj hp 0 2147483646 (fun z => 0 ≤ p3 - z))) (29 * m) 15 [(3, yJ (p3)), (5, yJ (a5)), (7, yJ (a7)), (9, yJ (a9))] [] hp) := by
    intro m
    induction m with
    | zero =>
      intros; exfalso; omega
    | succ m ih =>
      have i_15 := ih
      clear ih
      intro a5 a7 a9 f0 f1 f2 f3 f4 f5 f6 f7 f8 f9 f10 f11 f12 f13 f14 f15 hm
      refine yG.mono (N := 29 * m + 29) ?_ (by omega)
      refine yG.load xlk2 rfl (fun _ _ => rfl) (v := yJ (a9)) rfl rfl ?_
      refine yG.numl (c := 0) rfl (fun _ _ => rfl) (by decide) ?_
      refine yG.lcmp rfl ⟨by omega, by omega⟩ ⟨by omega, by omega⟩ (fun z1 e_z1 => ?_)
      refine yG.ifz rfl (t := 58) rfl ⟨by omega, by omega⟩ (fun c2 => ?_) (fun c2 => ?_)
      · have c2 : (z1 : Int) ≤ 0 := c2
        refine yG.load xlk2 rfl (fun _ _ => rfl) (v := yJ (a5)) rfl rfl ?_
        refine yG.ret rfl (fun _ _ => rfl) ?_
        exact (yP.long ⟨by omega, by omega⟩ ⟨⟨a5, rfl, by omega, by omega, by omega⟩, rfl⟩)
      · have c2 : (z1 : Int) > 0 := c2
        refine yG.load xlk2 rfl (fun _ _ => rfl) (v := yJ (a9)) rfl rfl ?_
        refine yG.numl (c := 1) rfl (fun _ _ => rfl) (by decide) ?_
        refine yG.bit64 rfl (fun _ _ => rfl) (fun z3 e_z3 l_z3 u_z3 => ?_)
        have b_z3 : 0 ≤ z3 ∧ z3 ≤ 1 := by rw [e_z3]; exact yland ⟨by decide, by decide⟩ (by decide)
        refine yG.numl (c := 1) rfl (fun _ _ => rfl) (by decide) ?_
        refine yG.lcmp rfl ⟨by omega, by omega⟩ ⟨by omega, by omega⟩ (fun z4 e_z4 => ?_)
        refine yG.ifz rfl (t := 40) rfl ⟨by omega, by omega⟩ (fun c5 => ?_) (fun c5 => ?_)
        · have c5 : (z4 : Int) ≠ 0 := c5
          refine yG.load xlk2 rfl (fun _ _ => rfl) (v := yJ (a7)) rfl rfl ?_
          refine yG.load xlk2 rfl (fun _ _ => rfl) (v := yJ (a7)) rfl rfl ?_
          refine yG.lmul rfl ?_
          obtain ⟨z6, e_z6⟩ : ∃ z : Int, z = a7 * a7 := ⟨_, rfl⟩
          rw [← e_z6]
          have b_z6 : 0 ≤ z6 ∧ z6 ≤ 4611686009837453316 := e_z6 ▸ ymulb (A := 2147483646) (B := 2147483646) (by omega) (by omega) (by omega) (by omega) (by decide)
          have b2_z6 : z6 ≤ 2147483646 * a7 := e_z6 ▸ bmulx (by omega) (by omega)
          have b3_z6 : z6 ≤ 2147483646 * a7 := e_z6 ▸ bmuly (by omega) (by omega)
          refine yG.load xlk2 rfl (fun _ _ => rfl) (v := yJ (p3)) rfl rfl ?_
          refine yG.lrem rfl ⟨by omega, by omega⟩ ⟨by omega, by omega⟩ (by omega) (by omega) ?_
          obtain ⟨z7, e_z7⟩ : ∃ z : Int, z = (z6) % (p3) := ⟨_, rfl⟩
          rw [← e_z7]
          have b_z7 : 0 ≤ z7 ∧ z7 < p3 := e_z7 ▸ ⟨Int.emod_nonneg _ (by omega), Int.emod_lt_of_pos _ (by omega)⟩
          refine yG.store2 xlk2 (L' := [(7, yJ (z7)), (3, yJ (p3)), (5, yJ (a5)), (9, yJ (a9))]) rfl (fun _ _ => rfl) rfl rfl ?_
          refine yG.load xlk2 rfl (fun _ _ => rfl) (v := yJ (a9)) rfl rfl ?_
          refine yG.num (c := 1) rfl (fun _ _ => rfl) (by decide) ?_
          refine yG.bit64 rfl (fun _ _ => rfl) (fun z8 e_z8 l_z8 u_z8 => ?_)
          have b_z8 : z8 = (a9) / 2 := by rw [e_z8]; exact ylshr (n := 1) ⟨by omega, by omega⟩ (by decide)
          refine yG.store2 xlk2 (L' := [(9, yJ (z8)), (7, yJ (z7)), (3, yJ (p3)), (5, yJ (a5))]) rfl (fun _ _ => rfl) rfl rfl ?_
          refine yG.goto rfl (t := 15) rfl ?_
          exact yG.mono (yG.sub (i_15 (a5) (z7) (z8)     (by omega) (by omega) (by omega) (by omega) (by omega) (by omega) (by omega) (by omega) (by omega) (by omega) (by omega) (by omega) (by omega) (by omega) (by omega) (by omega) (by omega)) (ySub.cons rfl (ySub.cons rfl (ySub.cons rfl (ySub.cons rfl (ySub.nil)))))) (by omega)
        · have c5 : (z4 : Int) = 0 := c5
          refine yG.load xlk2 rfl (fun _ _ => rfl) (v := yJ (a5)) rfl rfl ?_
          refine yG.load xlk2 rfl (fun _ _ => rfl) (v := yJ (a7)) rfl rfl ?_
          refine yG.lmul rfl ?_
          obtain ⟨z9, e_z9⟩ : ∃ z : Int, z = a5 * a7 := ⟨_, rfl⟩
          rw [← e_z9]
          have b_z9 : 0 ≤ z9 ∧ z9 ≤ 4611686009837453316 := e_z9 ▸ ymulb (A := 2147483646) (B := 2147483646) (by omega) (by omega) (by omega) (by omega) (by decide)
          have b2_z9 : z9 ≤ 2147483646 * a7 := e_z9 ▸ bmulx (by omega) (by omega)
          have b3_z9 : z9 ≤ 2147483646 * a5 := e_z9 ▸ bmuly (by omega) (by omega)
          refine yG.load xlk2 rfl (fun _ _ => rfl) (v := yJ (p3)) rfl rfl ?_
          refine yG.lrem rfl ⟨by omega, by omega⟩ ⟨by omega, by omega⟩ (by omega) (by omega) ?_
          obtain ⟨z10, e_z10⟩ : ∃ z : Int, z = (z9) % (p3) := ⟨_, rfl⟩
          rw [← e_z10]
          have b_z10 : 0 ≤ z10 ∧ z10 < p3 := e_z10 ▸ ⟨Int.emod_nonneg _ (by omega), Int.emod_lt_of_pos _ (by omega)⟩
          refine yG.store2 xlk2 (L' := [(5, yJ (z10)), (3, yJ (p3)), (7, yJ (a7)), (9, yJ (a9))]) rfl (fun _ _ => rfl) rfl rfl ?_
          refine yG.load xlk2 rfl (fun _ _ => rfl) (v := yJ (a7)) rfl rfl ?_
          refine yG.load xlk2 rfl (fun _ _ => rfl) (v := yJ (a7)) rfl rfl ?_
          refine yG.lmul rfl ?_
          obtain ⟨z11, e_z11⟩ : ∃ z : Int, z = a7 * a7 := ⟨_, rfl⟩
          rw [← e_z11]
          have b_z11 : 0 ≤ z11 ∧ z11 ≤ 4611686009837453316 := e_z11 ▸ ymulb (A := 2147483646) (B := 2147483646) (by omega) (by omega) (by omega) (by omega) (by decide)
          have b2_z11 : z11 ≤ 2147483646 * a7 := e_z11 ▸ bmulx (by omega) (by omega)
          have b3_z11 : z11 ≤ 2147483646 * a7 := e_z11 ▸ bmuly (by omega) (by omega)
          refine yG.load xlk2 rfl (fun _ _ => rfl) (v := yJ (p3)) rfl rfl ?_
          refine yG.lrem rfl ⟨by omega, by omega⟩ ⟨by omega, by omega⟩ (by omega) (by omega) ?_
          obtain ⟨z12, e_z12⟩ : ∃ z : Int, z = (z11) % (p3) := ⟨_, rfl⟩
          rw [← e_z12]
          have b_z12 : 0 ≤ z12 ∧ z12 < p3 := e_z12 ▸ ⟨Int.emod_nonneg _ (by omega), Int.emod_lt_of_pos _ (by omega)⟩
          refine yG.store2 xlk2 (L' := [(7, yJ (z12)), (5, yJ (z10)), (3, yJ (p3)), (9, yJ (a9))]) rfl (fun _ _ => rfl) rfl rfl ?_
          refine yG.load xlk2 rfl (fun _ _ => rfl) (v := yJ (a9)) rfl rfl ?_
          refine yG.num (c := 1) rfl (fun _ _ => rfl) (by decide) ?_
          refine yG.bit64 rfl (fun _ _ => rfl) (fun z13 e_z13 l_z13 u_z13 => ?_)
          have b_z13 : z13 = (a9) / 2 := by rw [e_z13]; exact ylshr (n := 1) ⟨by omega, by omega⟩ (by decide)
          refine yG.store2 xlk2 (L' := [(9, yJ (z13)), (7, yJ (z12)), (5, yJ (z10)), (3, yJ (p3))]) rfl (fun _ _ => rfl) rfl rfl ?_
          refine yG.goto rfl (t := 15) rfl ?_
          exact yG.mono (yG.sub (i_15 (z10) (z12) (z13)     (by omega) (by omega) (by omega) (by omega) (by omega) (by omega) (by omega) (by omega) (by omega) (by omega) (by omega) (by omega) (by omega) (by omega) (by omega) (by omega) (by omega)) (ySub.cons rfl (ySub.cons rfl (ySub.cons rfl (ySub.cons rfl (ySub.nil)))))) (by omega)
  refine yC.of (M := (xt_X13_inverse, (11, (2, (14, []))))) rfl rfl (N := 124554051584) (yfuel (by decide)) ?_
  show yG 89 xfts (xcall 89 xfts xpools xms d) (xpool xp_RX13) [] xt_X13_inverse (yP 2 (bQpj hp 0 2147483646 (fun z => 0 ≤ p3 - z))) 124554051584 0 [(0, yR k0), (1, yJ (p1)), (3, yJ (p3))] [] hp
  have i_15 := H 4294967295
  refine yG.numl (c := 1) rfl (fun _ _ => rfl) (by decide) ?_
  refine yG.store2 xlk2 (L' := [(5, yJ (1)), (0, yR k0), (1, yJ (p1)), (3, yJ (p3))]) rfl (fun _ _ => rfl) rfl rfl ?_
  refine yG.load xlk2 rfl (fun _ _ => rfl) (v := yJ (p1)) rfl rfl ?_
  refine yG.load xlk2 rfl (fun _ _ => rfl) (v := yJ (p3)) rfl rfl ?_
  refine yG.lrem rfl ⟨by omega, by omega⟩ ⟨by omega, by omega⟩ (by omega) (by omega) ?_
  obtain ⟨z1, e_z1⟩ : ∃ z : Int, z = (p1) % (p3) := ⟨_, rfl⟩
  rw [← e_z1]
  have b_z1 : 0 ≤ z1 ∧ z1 < p3 := e_z1 ▸ ⟨Int.emod_nonneg _ (by omega), Int.emod_lt_of_pos _ (by omega)⟩
  refine yG.store2 xlk2 (L' := [(7, yJ (z1)), (5, yJ (1)), (0, yR k0), (1, yJ (p1)), (3, yJ (p3))]) rfl (fun _ _ => rfl) rfl rfl ?_
  refine yG.load xlk2 rfl (fun _ _ => rfl) (v := yJ (p3)) rfl rfl ?_
  refine yG.numl (c := 2) rfl (fun _ _ => rfl) (by decide) ?_
  refine yG.lsub rfl ?_
  obtain ⟨z2, e_z2⟩ : ∃ z : Int, z = p3 - 2 := ⟨_, rfl⟩
  rw [← e_z2]
  refine yG.store2 xlk2 (L' := [(9, yJ (z2)), (7, yJ (z1)), (5, yJ (1)), (0, yR k0), (1, yJ (p1)), (3, yJ (p3))]) rfl (fun _ _ => rfl) rfl rfl ?_
  exact yG.mono (yG.sub (i_15 (1) (z1) (z2)     (by omega) (by omega) (by omega) (by omega) (by omega) (by omega) (by omega) (by omega) (by omega) (by omega) (by omega) (by omega) (by omega) (by omega) (by omega) (by omega) (by omega)) (ySub.cons rfl (ySub.cons rfl (ySub.cons rfl (ySub.cons rfl (ySub.nil)))))) (by omega)
theorem c_GModel_usePrime {hp : xH} (W : mW G) (d : Nat) (hT : zTy G hp) {k0 : Nat} (H_k0 : bRo G 116 k0) (p1 : Int) (h1l : 0 ≤ p1) (h1u : p1 ≤ 39) (q0l : 0 ≤ ys hp k0 10) (q0u : ys hp k0 10 ≤ 39) : yC (xcall 89 xfts xpools xms (d + 1)) 537 [yR k0, yI (p1)] hp (fun rv hp' => (rv = none ∧ True) ∧ bAx G [(83076749736557242056487941267521536, 10), (42535295865117307932921825928971026432, 256)] hp hp') := by
  have A_hp : bAx G [(83076749736557242056487941267521536, 10), (42535295865117307932921825928971026432, 256)] hp hp := bAx.rf hT
  refine yC.of (M := (xt_X13_usePrime, (2, (0, (14, []))))) rfl rfl (N := 45) (yfuel (by decide)) ?_
  show yG 89 xfts (xcall 89 xfts xpools xms d) (xpool xp_RX13) [] xt_X13_usePrime (yP 0 (fun rv hp' => (rv = none ∧ True) ∧ bAx G [(83076749736557242056487941267521536, 10), (42535295865117307932921825928971026432, 256)] hp hp')) 45 0 [(0, yR k0), (1, yI (p1))] [] hp
  obtain ⟨gg0, E_0⟩ : ∃ z : Int, ys hp k0 10 = z := ⟨_, rfl⟩
  obtain ⟨-, -, g_0l, g_0u⟩ := (w_M_usedCount W H_k0).int hT
  refine yG.load xak rfl (fun _ _ => rfl) (v := yR k0) rfl rfl ?_
  refine yG.getO A_hp.1 (w_M_used W H_k0) rfl rfl (fun r1 H_r1 O_r1 q_r1 => ?_)
  refine yG.load xak rfl (fun _ _ => rfl) (v := yR k0) rfl rfl ?_
  refine yG.getI A_hp.1 (w_M_usedCount W H_k0) rfl rfl (fun z2 e_z2 i_z2 l_z2 u_z2 => ?_)
  rw [show (z2 : Int) = gg0 by omega]
  refine yG.load xik rfl (fun _ _ => rfl) (v := yI (p1)) rfl rfl ?_
  refine yG.iast A_hp.1 (v_M_used W H_r1) (W.2.1 _ _ H_r1 (by decide) (by decide)) rfl (by omega) (by omega) ⟨by omega, by omega⟩ (by omega) (by omega) (fun h3 T_h3 b_h3 f_h3 y_h3 => ?_)
  have A_h3 := A_hp.put T_h3 b_h3 f_h3 H_r1 (bAll_ok (by decide) _)
  have : ys h3 k0 10 = ys hp k0 10 := (y_h3 k0 10).trans (if_neg (fun e => (bRo.ne H_k0 H_r1 (by decide)) e.1))
  refine yG.load xak rfl (fun _ _ => rfl) (v := yR k0) rfl rfl ?_
  refine yG.step (pc' := 12) (stk' := [yR k0, yR k0]) rfl (fun _ _ => rfl) ?_
  refine yG.getI A_h3.1 (w_M_usedCount W H_k0) rfl rfl (fun z4 e_z4 i_z4 l_z4 u_z4 => ?_)
  rw [show (z4 : Int) = gg0 by omega]
  refine yG.num (c := 1) rfl (fun _ _ => rfl) (by decide) ?_
  refine yG.iadd rfl ?_
  refine yG.putI A_h3.1 (w_M_usedCount W H_k0) (W.2.1 _ _ H_k0 (by decide) (by decide)) rfl rfl (.inl rfl) ⟨by omega, by omega⟩ (by omega) (by omega) (fun h5 T_h5 b_h5 f_h5 y_h5 => ?_)
  have A_h5 := A_h3.put T_h5 b_h5 f_h5 H_k0 (by decide)
  have : ys h5 k0 10 = gg0 + 1 := (y_h5 k0 10).trans (if_pos ⟨rfl, rfl⟩)
  refine yG.ret rfl (fun _ _ => rfl) ?_
  exact (yP.void ⟨⟨rfl, trivial⟩, A_h5⟩)
theorem c_GModel_tell {hp : xH} (W : mW G) (d : Nat) (hT : zTy G hp) {k0 : Nat} (H_k0 : bRo G 116 k0) (p1 p2 : Int) (h1l : 0 ≤ p1) (h1u : p1 ≤ 179) (h2l : 0 ≤ p2) (h2u : p2 ≤ 2147483646) (q0l : 0 ≤ ys hp k0 10) (q0u : ys hp k0 10 ≤ 39) : yC (xcall 89 xfts xpools xms (d + 1)) 527 [yR k0, yI (p1), yJ (p2)] hp (fun rv hp' => (rv = none ∧ True) ∧ bAx G [(21267647932558653966460912964485513216, 256)] hp hp') := by
  have A_hp : bAx G [(21267647932558653966460912964485513216, 256)] hp hp := bAx.rf hT
  refine yC.of (M := (xt_X13_tell, (4, (0, (14, []))))) rfl rfl (N := 39) (yfuel (by decide)) ?_
  show yG 89 xfts (xcall 89 xfts xpools xms d) (xpool xp_RX13) [] xt_X13_tell (yP 0 (fun rv hp' => (rv = none ∧ True) ∧ bAx G [(21267647932558653966460912964485513216, 256)] hp hp')) 39 0 [(0, yR k0), (1, yI (p1)), (2, yJ (p2))] [] hp
  obtain ⟨gg0, E_0⟩ : ∃ z : Int, ys hp k0 10 = z := ⟨_, rfl⟩
  obtain ⟨-, -, g_0l, g_0u⟩ := (w_M_usedCount W H_k0).int hT
  refine yG.load xak rfl (fun _ _ => rfl) (v := yR k0) rfl rfl ?_
  refine yG.getO A_hp.1 (w_M_residue W H_k0) rfl rfl (fun r1 H_r1 O_r1 q_r1 => ?_)
  refine yG.num (c := 180) rfl (fun _ _ => rfl) (by decide) ?_
  refine yG.load xak rfl (fun _ _ => rfl) (v := yR k0) rfl rfl ?_
  refine yG.getI A_hp.1 (w_M_usedCount W H_k0) rfl rfl (fun z2 e_z2 i_z2 l_z2 u_z2 => ?_)
  rw [show (z2 : Int) = gg0 by omega]
  refine yG.imul rfl ?_
  refine yG.load xik rfl (fun _ _ => rfl) (v := yI (p1)) rfl rfl ?_
  refine yG.iadd rfl ?_
  refine yG.load xlk2 rfl (fun _ _ => rfl) (v := yJ (p2)) rfl rfl ?_
  refine yG.last A_hp.1 (v_M_residue W H_r1) (W.2.1 _ _ H_r1 (by decide) (by decide)) rfl (by omega) (by omega) ⟨by omega, by omega⟩ (by omega) (by omega) (fun h3 T_h3 b_h3 f_h3 y_h3 => ?_)
  have A_h3 := A_hp.put T_h3 b_h3 f_h3 H_r1 (bAll_ok (by decide) _)
  have : ys h3 k0 10 = ys hp k0 10 := (y_h3 k0 10).trans (if_neg (fun e => (bRo.ne H_k0 H_r1 (by decide)) e.1))
  refine yG.ret rfl (fun _ _ => rfl) ?_
  exact (yP.void ⟨⟨rfl, trivial⟩, A_h3⟩)
theorem c_GModel_times_ {hp : xH} (W : mW G) (d : Nat) (hT : zTy G hp) {k0 : Nat} (H_k0 : bRo G 116 k0) (p1 : Int) (h1l : 0 ≤ p1) (h1u : p1 ≤ 15) : yC (xcall 89 xfts xpools xms (d + 1)) 532 [yR k0, yI (p1)] hp (bQpj hp 1 54 (fun _ => True)) := by
  have A_hp : bAx G [] hp hp := bAx.rf hT
  refine yC.of (M := (xt_X13_times_, (2, (2, (14, []))))) rfl rfl (N := 42) (yfuel (by decide)) ?_
  show yG 89 xfts (xcall 89 xfts xpools xms d) (xpool xp_RX13) [] xt_X13_times_ (yP 2 (bQpj hp 1 54 (fun _ => True))) 42 0 [(0, yR k0), (1, yI (p1))] [] hp
  refine yG.load xak rfl (fun _ _ => rfl) (v := yR k0) rfl rfl ?_
  refine yG.getO A_hp.1 (w_M_share W H_k0) rfl rfl (fun r1 H_r1 O_r1 q_r1 => ?_)
  refine yG.load xik rfl (fun _ _ => rfl) (v := yI (p1)) rfl rfl ?_
  refine yG.lald A_hp.1 (v_M_share W H_r1) rfl (by omega) (by omega) (fun z2 e_z2 i_z2 l_z2 u_z2 => ?_)
  refine yG.numl (c := 0) rfl (fun _ _ => rfl) (by decide) ?_
  refine yG.lcmp rfl ⟨by omega, by omega⟩ ⟨by omega, by omega⟩ (fun z3 e_z3 => ?_)
  refine yG.ifz rfl (t := 15) rfl ⟨by omega, by omega⟩ (fun c4 => ?_) (fun c4 => ?_)
  · have c4 : (z3 : Int) ≠ 0 := c4
    refine yG.load xak rfl (fun _ _ => rfl) (v := yR k0) rfl rfl ?_
    refine yG.getS9 A_hp.1 (w_M_share W H_k0) q_r1 rfl rfl ?_
    refine yG.load xik rfl (fun _ _ => rfl) (v := yI (p1)) rfl rfl ?_
    refine yG.lald A_hp.1 (v_M_share W H_r1) rfl (by omega) (by omega) (fun z5 e_z5 i_z5 l_z5 u_z5 => ?_)
    rw [show (z5 : Int) = z2 by omega]
    refine yG.ret rfl (fun _ _ => rfl) ?_
    exact (yP.long ⟨by omega, by omega⟩ ⟨⟨z2, rfl, by omega, by omega, trivial⟩, rfl⟩)
  · have c4 : (z3 : Int) = 0 := c4
    refine yG.numl (c := 1) rfl (fun _ _ => rfl) (by decide) ?_
    refine yG.goto rfl (t := 21) rfl ?_
    refine yG.ret rfl (fun _ _ => rfl) ?_
    exact (yP.long ⟨by omega, by omega⟩ ⟨⟨1, rfl, by omega, by omega, trivial⟩, rfl⟩)
theorem c_GModel_putAllIn {hp : xH} (W : mW G) (d : Nat) (hT : zTy G hp) {k0 : Nat} (H_k0 : bRo G 116 k0) (p1 : Int) (h1l : 0 ≤ p1) (h1u : p1 ≤ 15) : yC (xcall 89 xfts xpools xms (d + 3)) 486 [yR k0, yI (p1)] hp (fun rv hp' => (rv = none ∧ True) ∧ bAx G [(5708990770823839524233143877797980545530986496, 256)] hp hp') := by
  have A_hp : bAx G [(5708990770823839524233143877797980545530986496, 256)] hp hp := bAx.rf hT
  have H : ∀ m : Nat, (∀ a2 : Int, ∀ hq, bAx G [(5708990770823839524233143877797980545530986496, 256)] hp hq → 0 ≤ a2 → (-16) ≤ 0 - a2 → 0 ≤ p1 → (-15) ≤ 0 - p1 → 0 - 190 * a2 + 3229 < (m : Int) → yG 89 xfts (xcall 89 xfts xpools xms (d + 2)) (xpool xp_RX13) [] xt_X13_putAllIn (yP 0 (fun rv hp' => (rv = none ∧ True) ∧ bAx G [(5708990770823839524233143877797980545530986496, 256)] hp hp')) (68 * m) 2 [(0, yR k0), (1, yI (p1)), (2, yI (a2))] [] hq) ∧ (∀ a2 : Int, ∀ hq, bAx G [(5708990770823839524233143877797980545530986496, 256)] hp hq → 0 ≤ a2 → (-6) ≤ 0 - a2 → 0 ≤ p1 → (-15) ≤ 0 - p1 → 0 - 27 * a2 + 188 < (m : Int) → yG 89 xfts (xcall 89 xfts xpools xms (d + 2)) (xpool xp_RX13) [] xt_X13_putAllIn (yP 0 (fun rv hp' => (rv = none ∧ True) ∧ bAx G [(5708990770823839524233143877797980545530986496, 256)] hp hp')) (68 * m) 27 [(0, yR k0), (1, yI (p1)), (2, yI (a2))] [] hq) ∧ (∀ a2 : Int, ∀ hq, bAx G [(5708990770823839524233143877797980545530986496, 256)] hp hq → 0 ≤ a2 → (-12) ≤ 0 - a2 → 0 ≤ p1 → (-15) ≤ 0 - p1 → 0 - 2 * a2 + 25 < (m : Int) → yG 89 xfts (xcall 89 xfts xpools xms (d + 2)) (xpool xp_RX13) [] xt_X13_putAllIn (yP 0 (fun rv hp' => (rv = none ∧ True) ∧ bAx G [(5708990770823839524233143877797980545530986496, 256)] hp hp')) (68 * m) 135 [(0, yR k0), (1, yI (p1)), (2, yI (a2))] [] hq) := by
    intro m
    induction m with
    | zero =>
      refine ⟨?_, ?_, ?_⟩ <;> (intros; exfalso; omega)
    | succ m ih =>
      obtain ⟨i_2, i_27, i_135⟩ := ih
      refine ⟨?_, ?_, ?_⟩
      · intro a2 hq A_hq f0 f1 f2 f3 hm
        refine yG.mono (N := 68 * m + 68) ?_ (by omega)
        refine yG.load xik rfl (fun _ _ => rfl) (v := yI (a2)) rfl rfl ?_
        refine yG.load xak rfl (fun _ _ => rfl) (v := yR k0) rfl rfl ?_
        refine yG.getO A_hq.1 (w_M_count W H_k0) rfl rfl (fun r1 H_r1 O_r1 q_r1 => ?_)
        refine yG.num (c := 0) rfl (fun _ _ => rfl) (by decide) ?_
        refine yG.ialdF A_hq.1 (v_M_count W H_r1) rfl rfl (by omega) (by omega) (fun z2 e_z2 i_z2 l_z2 u_z2 => ?_)
        refine yG.icmp rfl (t := 25) rfl ⟨by omega, by omega⟩ ⟨by omega, by omega⟩ (fun c3 => ?_) (fun c3 => ?_)
        · have c3 : (a2 : Int) ≥ z2 := c3
          refine yG.num (c := 0) rfl (fun _ _ => rfl) (by decide) ?_
          refine yG.store1 xik (L' := [(2, yI (0)), (0, yR k0), (1, yI (p1))]) rfl (fun _ _ => rfl) rfl rfl ?_
          exact yG.mono (yG.sub (i_27 (0)  hq A_hq   (by omega) (by omega) (by omega) (by omega) (by omega)) (ySub.cons rfl (ySub.cons rfl (ySub.cons rfl (ySub.nil))))) (by omega)
        · have c3 : (a2 : Int) < z2 := c3
          refine yG.load xak rfl (fun _ _ => rfl) (v := yR k0) rfl rfl ?_
          refine yG.getO A_hq.1 (w_M_putIn W H_k0) rfl rfl (fun r4 H_r4 O_r4 q_r4 => ?_)
          refine yG.load xik rfl (fun _ _ => rfl) (v := yI (a2)) rfl rfl ?_
          refine yG.numl (c := 0) rfl (fun _ _ => rfl) (by decide) ?_
          refine yG.last A_hq.1 (v_M_putIn W H_r4) (W.2.1 _ _ H_r4 (by decide) (by decide)) rfl (by omega) (by omega) ⟨by omega, by omega⟩ (by omega) (by omega) (fun h5 T_h5 b_h5 f_h5 y_h5 => ?_)
          have A_h5 := A_hq.put T_h5 b_h5 f_h5 H_r4 (bAll_ok (by decide) _)
          refine yG.iinc rfl (a := a2) rfl (L' := [(2, yI (a2 + 1)), (0, yR k0), (1, yI (p1))]) rfl ?_
          refine yG.goto rfl (t := 2) rfl ?_
          exact yG.mono (yG.sub (i_2 (a2 + 1)  h5 A_h5   (by omega) (by omega) (by omega) (by omega) (by omega)) (ySub.cons rfl (ySub.cons rfl (ySub.cons rfl (ySub.nil))))) (by omega)
      · intro a2 hq A_hq f0 f1 f2 f3 hm
        refine yG.mono (N := 68 * m + 68) ?_ (by omega)
        refine yG.load xik rfl (fun _ _ => rfl) (v := yI (a2)) rfl rfl ?_
        refine yG.load xak rfl (fun _ _ => rfl) (v := yR k0) rfl rfl ?_
        refine yG.getO A_hq.1 (w_M_count W H_k0) rfl rfl (fun r1 H_r1 O_r1 q_r1 => ?_)
        refine yG.num (c := 3) rfl (fun _ _ => rfl) (by decide) ?_
        refine yG.ialdF A_hq.1 (v_M_count W H_r1) rfl rfl (by omega) (by omega) (fun z2 e_z2 i_z2 l_z2 u_z2 => ?_)
        refine yG.icmp rfl (t := 133) rfl ⟨by omega, by omega⟩ ⟨by omega, by omega⟩ (fun c3 => ?_) (fun c3 => ?_)
        · have c3 : (a2 : Int) ≥ z2 := c3
          refine yG.num (c := 0) rfl (fun _ _ => rfl) (by decide) ?_
          refine yG.store1 xik (L' := [(2, yI (0)), (0, yR k0), (1, yI (p1))]) rfl (fun _ _ => rfl) rfl rfl ?_
          exact yG.mono (yG.sub (i_135 (0)  hq A_hq   (by omega) (by omega) (by omega) (by omega) (by omega)) (ySub.cons rfl (ySub.cons rfl (ySub.cons rfl (ySub.nil))))) (by omega)
        · have c3 : (a2 : Int) < z2 := c3
          refine yG.load xak rfl (fun _ _ => rfl) (v := yR k0) rfl rfl ?_
          refine yG.num (c := 3) rfl (fun _ _ => rfl) (by decide) ?_
          refine yG.load xik rfl (fun _ _ => rfl) (v := yI (a2)) rfl rfl ?_
          refine yG.num (c := 10) rfl (fun _ _ => rfl) (by decide) ?_
          refine yG.invV (rest := []) A_hq.1 (bOb (d_M W) H_k0) rfl rfl rfl rfl (c_GModel_of_3_10 W d A_hq.1 H_k0 (a2) (by omega) (by omega)) (fun rv hp9 q9 => ?_)
          obtain ⟨⟨z4, rfl, l_z4, u_z4, R_z4⟩, e9⟩ := q9
          rw [e9]
          show yG _ _ _ _ _ _ _ _ _ _ (yI z4 :: []) _
          refine yG.store1 xik (L' := [(3, yI (z4)), (0, yR k0), (1, yI (p1)), (2, yI (a2))]) rfl (fun _ _ => rfl) rfl rfl ?_
          refine yG.load xak rfl (fun _ _ => rfl) (v := yR k0) rfl rfl ?_
          refine yG.getO A_hq.1 (w_M_island W H_k0) rfl rfl (fun r5 H_r5 O_r5 q_r5 => ?_)
          refine yG.load xik rfl (fun _ _ => rfl) (v := yI (z4)) rfl rfl ?_
          refine yG.ialdF A_hq.1 (v_M_island W H_r5) rfl rfl (by omega) (by omega) (fun z6 e_z6 i_z6 l_z6 u_z6 => ?_)
          refine yG.load xik rfl (fun _ _ => rfl) (v := yI (p1)) rfl rfl ?_
          refine yG.icmp rfl (t := 127) rfl ⟨by omega, by omega⟩ ⟨by omega, by omega⟩ (fun c7 => ?_) (fun c7 => ?_)
          · have c7 : (z6 : Int) ≠ p1 := c7
            refine yG.iinc rfl (a := a2) rfl (L' := [(2, yI (a2 + 1)), (3, yI (z4)), (0, yR k0), (1, yI (p1))]) rfl ?_
            refine yG.goto rfl (t := 27) rfl ?_
            exact yG.mono (yG.sub (i_27 (a2 + 1)  hq A_hq   (by omega) (by omega) (by omega) (by omega) (by omega)) (ySub.cons rfl (ySub.cons rfl (ySub.cons rfl (ySub.nil))))) (by omega)
          · have c7 : (z6 : Int) = p1 := c7
            refine yG.load xak rfl (fun _ _ => rfl) (v := yR k0) rfl rfl ?_
            refine yG.num (c := 3) rfl (fun _ _ => rfl) (by decide) ?_
            refine yG.load xik rfl (fun _ _ => rfl) (v := yI (a2)) rfl rfl ?_
            refine yG.num (c := 0) rfl (fun _ _ => rfl) (by decide) ?_
            refine yG.invV (rest := []) A_hq.1 (bOb (d_M W) H_k0) rfl rfl rfl rfl (c_GModel_of_3_0 W d A_hq.1 H_k0 (a2) (by omega) (by omega)) (fun rv hp9 q9 => ?_)
            obtain ⟨⟨z8, rfl, l_z8, u_z8, R_z8⟩, e9⟩ := q9
            rw [e9]
            show yG _ _ _ _ _ _ _ _ _ _ (yI z8 :: []) _
            refine yG.num (c := 1) rfl (fun _ _ => rfl) (by decide) ?_
            refine yG.icmp rfl (t := 127) rfl ⟨by omega, by omega⟩ ⟨by omega, by omega⟩ (fun c9 => ?_) (fun c9 => ?_)
            · have c9 : (z8 : Int) ≠ 1 := c9
              refine yG.iinc rfl (a := a2) rfl (L' := [(2, yI (a2 + 1)), (3, yI (z4)), (0, yR k0), (1, yI (p1))]) rfl ?_
              refine yG.goto rfl (t := 27) rfl ?_
              exact yG.mono (yG.sub (i_27 (a2 + 1)  hq A_hq   (by omega) (by omega) (by omega) (by omega) (by omega)) (ySub.cons rfl (ySub.cons rfl (ySub.cons rfl (ySub.nil))))) (by omega)
            · have c9 : (z8 : Int) = 1 := c9
              refine yG.load xak rfl (fun _ _ => rfl) (v := yR k0) rfl rfl ?_
              refine yG.getO A_hq.1 (w_M_putIn W H_k0) rfl rfl (fun r10 H_r10 O_r10 q_r10 => ?_)
              refine yG.load xak rfl (fun _ _ => rfl) (v := yR k0) rfl rfl ?_
              refine yG.getO A_hq.1 (w_M_node W H_k0) rfl rfl (fun r11 H_r11 O_r11 q_r11 => ?_)
              refine yG.load xik rfl (fun _ _ => rfl) (v := yI (z4)) rfl rfl ?_
              refine yG.ialdF A_hq.1 (v_M_node W H_r11) rfl rfl (by omega) (by omega) (fun z12 e_z12 i_z12 l_z12 u_z12 => ?_)
              refine yG.step (pc' := 78) (stk' := [yI (z12), yR r10, yI (z12), yR r10]) rfl (fun _ _ => rfl) ?_
              refine yG.lald A_hq.1 (v_M_putIn W H_r10) rfl (by omega) (by omega) (fun z13 e_z13 i_z13 l_z13 u_z13 => ?_)
              refine yG.load xak rfl (fun _ _ => rfl) (v := yR k0) rfl rfl ?_
              refine yG.num (c := 3) rfl (fun _ _ => rfl) (by decide) ?_
              refine yG.load xik rfl (fun _ _ => rfl) (v := yI (a2)) rfl rfl ?_
              refine yG.num (c := 1) rfl (fun _ _ => rfl) (by decide) ?_
              refine yG.invV (rest := [yJ (z13), yI (z12), yR r10]) A_hq.1 (bOb (d_M W) H_k0) rfl rfl rfl rfl (c_GModel_of_3_1 W d A_hq.1 H_k0 (a2) (by omega) (by omega)) (fun rv hp9 q9 => ?_)
              obtain ⟨⟨z14, rfl, l_z14, u_z14, R_z14⟩, e9⟩ := q9
              rw [e9]
              show yG _ _ _ _ _ _ _ _ _ _ (yI z14 :: [yJ (z13), yI (z12), yR r10]) _
              refine yG.i2l rfl ⟨by omega, by omega⟩ ?_
              refine yG.load xak rfl (fun _ _ => rfl) (v := yR k0) rfl rfl ?_
              refine yG.load xik rfl (fun _ _ => rfl) (v := yI (p1)) rfl rfl ?_
              refine yG.invV (rest := [yJ (z14), yJ (z13), yI (z12), yR r10]) A_hq.1 (bOb (d_M W) H_k0) rfl rfl rfl rfl (c_GModel_times_ W (d + 1) A_hq.1 H_k0 (p1) (by omega) (by omega)) (fun rv hp9 q9 => ?_)
              obtain ⟨⟨z15, rfl, l_z15, u_z15, R_z15⟩, e9⟩ := q9
              rw [e9]
              show yG _ _ _ _ _ _ _ _ _ _ (yJ z15 :: [yJ (z14), yJ (z13), yI (z12), yR r10]) _
              refine yG.lmul rfl ?_
              obtain ⟨z16, e_z16⟩ : ∃ z : Int, z = z14 * z15 := ⟨_, rfl⟩
              rw [← e_z16]
              have b_z16 : 0 ≤ z16 ∧ z16 ≤ 539946 := e_z16 ▸ ymulb (A := 9999) (B := 54) (by omega) (by omega) (by omega) (by omega) (by decide)
              have b2_z16 : z16 ≤ 9999 * z15 := e_z16 ▸ bmulx (by omega) (by omega)
              have b3_z16 : z16 ≤ 54 * z14 := e_z16 ▸ bmuly (by omega) (by omega)
              refine yG.load xak rfl (fun _ _ => rfl) (v := yR k0) rfl rfl ?_
              refine yG.getO A_hq.1 (w_M_share W H_k0) rfl rfl (fun r17 H_r17 O_r17 q_r17 => ?_)
              refine yG.load xik rfl (fun _ _ => rfl) (v := yI (p1)) rfl rfl ?_
              refine yG.lald A_hq.1 (v_M_share W H_r17) rfl (by omega) (by omega) (fun z18 e_z18 i_z18 l_z18 u_z18 => ?_)
              refine yG.numl (c := 0) rfl (fun _ _ => rfl) (by decide) ?_
              refine yG.lcmp rfl ⟨by omega, by omega⟩ ⟨by omega, by omega⟩ (fun z19 e_z19 => ?_)
              refine yG.ifz rfl (t := 108) rfl ⟨by omega, by omega⟩ (fun c20 => ?_) (fun c20 => ?_)
              · have c20 : (z19 : Int) ≠ 0 := c20
                refine yG.load xak rfl (fun _ _ => rfl) (v := yR k0) rfl rfl ?_
                refine yG.getO A_hq.1 (w_M_lack W H_k0) rfl rfl (fun r21 H_r21 O_r21 q_r21 => ?_)
                refine yG.load xik rfl (fun _ _ => rfl) (v := yI (p1)) rfl rfl ?_
                refine yG.lald A_hq.1 (v_M_lack W H_r21) rfl (by omega) (by omega) (fun z22 e_z22 i_z22 l_z22 u_z22 => ?_)
                refine yG.load xak rfl (fun _ _ => rfl) (v := yR k0) rfl rfl ?_
                refine yG.num (c := 3) rfl (fun _ _ => rfl) (by decide) ?_
                refine yG.load xik rfl (fun _ _ => rfl) (v := yI (a2)) rfl rfl ?_
                refine yG.num (c := 9) rfl (fun _ _ => rfl) (by decide) ?_
                refine yG.invV (rest := [yJ (z22), yJ (z16), yJ (z13), yI (z12), yR r10]) A_hq.1 (bOb (d_M W) H_k0) rfl rfl rfl rfl (c_GModel_of_3_9 W d A_hq.1 H_k0 (a2) (by omega) (by omega)) (fun rv hp9 q9 => ?_)
                obtain ⟨⟨z23, rfl, l_z23, u_z23, R_z23⟩, e9⟩ := q9
                rw [e9]
                show yG _ _ _ _ _ _ _ _ _ _ (yI z23 :: [yJ (z22), yJ (z16), yJ (z13), yI (z12), yR r10]) _
                refine yG.i2l rfl ⟨by omega, by omega⟩ ?_
                refine yG.lmul rfl ?_
                obtain ⟨z24, e_z24⟩ : ∃ z : Int, z = z22 * z23 := ⟨_, rfl⟩
                rw [← e_z24]
                have b_z24 : -1079892 ≤ z24 ∧ z24 ≤ 1079892 := e_z24 ▸ ymuls (A := 119988) (B := 9) (by omega) (by omega) (by omega) (by omega) (by decide)
                refine yG.ladd rfl ?_
                refine yG.ladd rfl ?_
                obtain ⟨z25, e_z25, l_z25, u_z25⟩ := ywJ (z13 + (z16 + z24))
                rw [e_z25]
                refine yG.last A_hq.1 (v_M_putIn W H_r10) (W.2.1 _ _ H_r10 (by decide) (by decide)) rfl (by omega) (by omega) ⟨by omega, by omega⟩ (by omega) (by omega) (fun h26 T_h26 b_h26 f_h26 y_h26 => ?_)
                have A_h26 := A_hq.put T_h26 b_h26 f_h26 H_r10 (bAll_ok (by decide) _)
                refine yG.iinc rfl (a := a2) rfl (L' := [(2, yI (a2 + 1)), (3, yI (z4)), (0, yR k0), (1, yI (p1))]) rfl ?_
                refine yG.goto rfl (t := 27) rfl ?_
                exact yG.mono (yG.sub (i_27 (a2 + 1)  h26 A_h26   (by omega) (by omega) (by omega) (by omega) (by omega)) (ySub.cons rfl (ySub.cons rfl (ySub.cons rfl (ySub.nil))))) (by omega)
              · have c20 : (z19 : Int) = 0 := c20
                refine yG.numl (c := 0) rfl (fun _ _ => rfl) (by decide) ?_
                refine yG.goto rfl (t := 124) rfl ?_
                refine yG.ladd rfl ?_
                refine yG.ladd rfl ?_
                obtain ⟨z27, e_z27, l_z27, u_z27⟩ := ywJ (z13 + (z16 + 0))
                rw [e_z27]
                refine yG.last A_hq.1 (v_M_putIn W H_r10) (W.2.1 _ _ H_r10 (by decide) (by decide)) rfl (by omega) (by omega) ⟨by omega, by omega⟩ (by omega) (by omega) (fun h28 T_h28 b_h28 f_h28 y_h28 => ?_)
                have A_h28 := A_hq.put T_h28 b_h28 f_h28 H_r10 (bAll_ok (by decide) _)
                refine yG.iinc rfl (a := a2) rfl (L' := [(2, yI (a2 + 1)), (3, yI (z4)), (0, yR k0), (1, yI (p1))]) rfl ?_
                refine yG.goto rfl (t := 27) rfl ?_
                exact yG.mono (yG.sub (i_27 (a2 + 1)  h28 A_h28   (by omega) (by omega) (by omega) (by omega) (by omega)) (ySub.cons rfl (ySub.cons rfl (ySub.cons rfl (ySub.nil))))) (by omega)
      · intro a2 hq A_hq f0 f1 f2 f3 hm
        refine yG.mono (N := 68 * m + 68) ?_ (by omega)
        refine yG.load xik rfl (fun _ _ => rfl) (v := yI (a2)) rfl rfl ?_
        refine yG.load xak rfl (fun _ _ => rfl) (v := yR k0) rfl rfl ?_
        refine yG.getO A_hq.1 (w_M_count W H_k0) rfl rfl (fun r1 H_r1 O_r1 q_r1 => ?_)
        refine yG.num (c := 4) rfl (fun _ _ => rfl) (by decide) ?_
        refine yG.ialdF A_hq.1 (v_M_count W H_r1) rfl rfl (by omega) (by omega) (fun z2 e_z2 i_z2 l_z2 u_z2 => ?_)
        refine yG.icmp rfl (t := 201) rfl ⟨by omega, by omega⟩ ⟨by omega, by omega⟩ (fun c3 => ?_) (fun c3 => ?_)
        · have c3 : (a2 : Int) ≥ z2 := c3
          refine yG.ret rfl (fun _ _ => rfl) ?_
          exact (yP.void ⟨⟨rfl, trivial⟩, A_hq⟩)
        · have c3 : (a2 : Int) < z2 := c3
          refine yG.load xak rfl (fun _ _ => rfl) (v := yR k0) rfl rfl ?_
          refine yG.num (c := 4) rfl (fun _ _ => rfl) (by decide) ?_
          refine yG.load xik rfl (fun _ _ => rfl) (v := yI (a2)) rfl rfl ?_
          refine yG.num (c := 1) rfl (fun _ _ => rfl) (by decide) ?_
          refine yG.invV (rest := []) A_hq.1 (bOb (d_M W) H_k0) rfl rfl rfl rfl (c_GModel_of_4_1 W d A_hq.1 H_k0 (a2) (by omega) (by omega)) (fun rv hp9 q9 => ?_)
          obtain ⟨⟨z4, rfl, l_z4, u_z4, R_z4⟩, e9⟩ := q9
          rw [e9]
          show yG _ _ _ _ _ _ _ _ _ _ (yI z4 :: []) _
          refine yG.store1 xik (L' := [(3, yI (z4)), (0, yR k0), (1, yI (p1)), (2, yI (a2))]) rfl (fun _ _ => rfl) rfl rfl ?_
          refine yG.load xak rfl (fun _ _ => rfl) (v := yR k0) rfl rfl ?_
          refine yG.getO A_hq.1 (w_M_putIn W H_k0) rfl rfl (fun r5 H_r5 O_r5 q_r5 => ?_)
          refine yG.load xak rfl (fun _ _ => rfl) (v := yR k0) rfl rfl ?_
          refine yG.getO A_hq.1 (w_M_node W H_k0) rfl rfl (fun r6 H_r6 O_r6 q_r6 => ?_)
          refine yG.load xik rfl (fun _ _ => rfl) (v := yI (z4)) rfl rfl ?_
          refine yG.ialdF A_hq.1 (v_M_node W H_r6) rfl rfl (by omega) (by omega) (fun z7 e_z7 i_z7 l_z7 u_z7 => ?_)
          refine yG.step (pc' := 164) (stk' := [yI (z7), yR r5, yI (z7), yR r5]) rfl (fun _ _ => rfl) ?_
          refine yG.lald A_hq.1 (v_M_putIn W H_r5) rfl (by omega) (by omega) (fun z8 e_z8 i_z8 l_z8 u_z8 => ?_)
          refine yG.load xak rfl (fun _ _ => rfl) (v := yR k0) rfl rfl ?_
          refine yG.getO A_hq.1 (w_M_island W H_k0) rfl rfl (fun r9 H_r9 O_r9 q_r9 => ?_)
          refine yG.load xik rfl (fun _ _ => rfl) (v := yI (z4)) rfl rfl ?_
          refine yG.ialdF A_hq.1 (v_M_island W H_r9) rfl rfl (by omega) (by omega) (fun z10 e_z10 i_z10 l_z10 u_z10 => ?_)
          refine yG.load xik rfl (fun _ _ => rfl) (v := yI (p1)) rfl rfl ?_
          refine yG.icmp rfl (t := 192) rfl ⟨by omega, by omega⟩ ⟨by omega, by omega⟩ (fun c11 => ?_) (fun c11 => ?_)
          · have c11 : (z10 : Int) ≠ p1 := c11
            refine yG.numl (c := 0) rfl (fun _ _ => rfl) (by decide) ?_
            refine yG.lsub rfl ?_
            refine yG.last A_hq.1 (v_M_putIn W H_r5) (W.2.1 _ _ H_r5 (by decide) (by decide)) rfl (by omega) (by omega) ⟨by omega, by omega⟩ (by omega) (by omega) (fun h12 T_h12 b_h12 f_h12 y_h12 => ?_)
            have A_h12 := A_hq.put T_h12 b_h12 f_h12 H_r5 (bAll_ok (by decide) _)
            refine yG.iinc rfl (a := a2) rfl (L' := [(2, yI (a2 + 1)), (3, yI (z4)), (0, yR k0), (1, yI (p1))]) rfl ?_
            refine yG.goto rfl (t := 135) rfl ?_
            exact yG.mono (yG.sub (i_135 (a2 + 1)  h12 A_h12   (by omega) (by omega) (by omega) (by omega) (by omega)) (ySub.cons rfl (ySub.cons rfl (ySub.cons rfl (ySub.nil))))) (by omega)
          · have c11 : (z10 : Int) = p1 := c11
            refine yG.load xak rfl (fun _ _ => rfl) (v := yR k0) rfl rfl ?_
            refine yG.num (c := 4) rfl (fun _ _ => rfl) (by decide) ?_
            refine yG.load xik rfl (fun _ _ => rfl) (v := yI (a2)) rfl rfl ?_
            refine yG.num (c := 0) rfl (fun _ _ => rfl) (by decide) ?_
            refine yG.invV (rest := [yJ (z8), yI (z7), yR r5]) A_hq.1 (bOb (d_M W) H_k0) rfl rfl rfl rfl (c_GModel_of_4_0 W d A_hq.1 H_k0 (a2) (by omega) (by omega)) (fun rv hp9 q9 => ?_)
            obtain ⟨⟨z13, rfl, l_z13, u_z13, R_z13⟩, e9⟩ := q9
            rw [e9]
            show yG _ _ _ _ _ _ _ _ _ _ (yI z13 :: [yJ (z8), yI (z7), yR r5]) _
            refine yG.i2l rfl ⟨by omega, by omega⟩ ?_
            refine yG.load xak rfl (fun _ _ => rfl) (v := yR k0) rfl rfl ?_
            refine yG.load xik rfl (fun _ _ => rfl) (v := yI (p1)) rfl rfl ?_
            refine yG.invV (rest := [yJ (z13), yJ (z8), yI (z7), yR r5]) A_hq.1 (bOb (d_M W) H_k0) rfl rfl rfl rfl (c_GModel_times_ W (d + 1) A_hq.1 H_k0 (p1) (by omega) (by omega)) (fun rv hp9 q9 => ?_)
            obtain ⟨⟨z14, rfl, l_z14, u_z14, R_z14⟩, e9⟩ := q9
            rw [e9]
            show yG _ _ _ _ _ _ _ _ _ _ (yJ z14 :: [yJ (z13), yJ (z8), yI (z7), yR r5]) _
            refine yG.lmul rfl ?_
            obtain ⟨z15, e_z15⟩ : ∃ z : Int, z = z13 * z14 := ⟨_, rfl⟩
            rw [← e_z15]
            have b_z15 : 0 ≤ z15 ∧ z15 ≤ 539946 := e_z15 ▸ ymulb (A := 9999) (B := 54) (by omega) (by omega) (by omega) (by omega) (by decide)
            have b2_z15 : z15 ≤ 9999 * z14 := e_z15 ▸ bmulx (by omega) (by omega)
            have b3_z15 : z15 ≤ 54 * z13 := e_z15 ▸ bmuly (by omega) (by omega)
            refine yG.goto rfl (t := 193) rfl ?_
            refine yG.lsub rfl ?_
            obtain ⟨z16, e_z16, l_z16, u_z16⟩ := ywJ (z8 - z15)
            rw [e_z16]
            refine yG.last A_hq.1 (v_M_putIn W H_r5) (W.2.1 _ _ H_r5 (by decide) (by decide)) rfl (by omega) (by omega) ⟨by omega, by omega⟩ (by omega) (by omega) (fun h17 T_h17 b_h17 f_h17 y_h17 => ?_)
            have A_h17 := A_hq.put T_h17 b_h17 f_h17 H_r5 (bAll_ok (by decide) _)
            refine yG.iinc rfl (a := a2) rfl (L' := [(2, yI (a2 + 1)), (3, yI (z4)), (0, yR k0), (1, yI (p1))]) rfl ?_
            refine yG.goto rfl (t := 135) rfl ?_
            exact yG.mono (yG.sub (i_135 (a2 + 1)  h17 A_h17   (by omega) (by omega) (by omega) (by omega) (by omega)) (ySub.cons rfl (ySub.cons rfl (ySub.cons rfl (ySub.nil))))) (by omega)
  refine yC.of (M := (xt_X13_putAllIn, (4, (0, (14, []))))) rfl rfl (N := 219776) (yfuel (by decide)) ?_
  show yG 89 xfts (xcall 89 xfts xpools xms (d + 2)) (xpool xp_RX13) [] xt_X13_putAllIn (yP 0 (fun rv hp' => (rv = none ∧ True) ∧ bAx G [(5708990770823839524233143877797980545530986496, 256)] hp hp')) 219776 0 [(0, yR k0), (1, yI (p1))] [] hp
  obtain ⟨i_2, i_27, i_135⟩ := H 3231
  refine yG.num (c := 0) rfl (fun _ _ => rfl) (by decide) ?_
  refine yG.store1 xik (L' := [(2, yI (0)), (0, yR k0), (1, yI (p1))]) rfl (fun _ _ => rfl) rfl rfl ?_
  exact yG.mono (yG.sub (i_2 (0)  hp A_hp   (by omega) (by omega) (by omega) (by omega) (by omega)) (ySub.cons rfl (ySub.cons rfl (ySub.cons rfl (ySub.nil))))) (by omega)
theorem c_GModel_isOnIn {hp : xH} (W : mW G) (d : Nat) (hT : zTy G hp) {k0 : Nat} (H_k0 : bRo G 116 k0) (p1 p2 : Int) (h1l : 0 ≤ p1) (h1u : p1 ≤ 5) (h2l : 0 ≤ p2) (h2u : p2 ≤ 15) : yC (xcall 89 xfts xpools xms (d + 3)) 435 [yR k0, yI (p1), yI (p2)] hp (bQpi hp 0 1 (fun _ => True)) := by
  have A_hp : bAx G [] hp hp := bAx.rf hT
  refine yC.of (M := (xt_X13_isOnIn, (3, (4, (14, []))))) rfl rfl (N := 66) (yfuel (by decide)) ?_
  show yG 89 xfts (xcall 89 xfts xpools xms (d + 2)) (xpool xp_RX13) [] xt_X13_isOnIn (yP 4 (bQpi hp 0 1 (fun _ => True))) 66 0 [(0, yR k0), (1, yI (p1)), (2, yI (p2))] [] hp
  refine yG.load xak rfl (fun _ _ => rfl) (v := yR k0) rfl rfl ?_
  refine yG.num (c := 3) rfl (fun _ _ => rfl) (by decide) ?_
  refine yG.load xik rfl (fun _ _ => rfl) (v := yI (p1)) rfl rfl ?_
  refine yG.num (c := 0) rfl (fun _ _ => rfl) (by decide) ?_
  refine yG.invV (rest := []) A_hp.1 (bOb (d_M W) H_k0) rfl rfl rfl rfl (c_GModel_of_3_0 W d A_hp.1 H_k0 (p1) (by omega) (by omega)) (fun rv hp9 q9 => ?_)
  obtain ⟨⟨z1, rfl, l_z1, u_z1, R_z1⟩, e9⟩ := q9
  rw [e9]
  show yG _ _ _ _ _ _ _ _ _ _ (yI z1 :: []) _
  refine yG.num (c := 1) rfl (fun _ _ => rfl) (by decide) ?_
  refine yG.icmp rfl (t := 32) rfl ⟨by omega, by omega⟩ ⟨by omega, by omega⟩ (fun c2 => ?_) (fun c2 => ?_)
  · have c2 : (z1 : Int) ≠ 1 := c2
    refine yG.num (c := 0) rfl (fun _ _ => rfl) (by decide) ?_
    refine yG.ret rfl (fun _ _ => rfl) ?_
    exact (yP.bool (by omega) ⟨⟨0, rfl, by omega, by omega, trivial⟩, rfl⟩)
  · have c2 : (z1 : Int) = 1 := c2
    refine yG.load xak rfl (fun _ _ => rfl) (v := yR k0) rfl rfl ?_
    refine yG.getO A_hp.1 (w_M_island W H_k0) rfl rfl (fun r3 H_r3 O_r3 q_r3 => ?_)
    refine yG.load xak rfl (fun _ _ => rfl) (v := yR k0) rfl rfl ?_
    refine yG.num (c := 3) rfl (fun _ _ => rfl) (by decide) ?_
    refine yG.load xik rfl (fun _ _ => rfl) (v := yI (p1)) rfl rfl ?_
    refine yG.num (c := 10) rfl (fun _ _ => rfl) (by decide) ?_
    refine yG.invV (rest := [yR r3]) A_hp.1 (bOb (d_M W) H_k0) rfl rfl rfl rfl (c_GModel_of_3_10 W d A_hp.1 H_k0 (p1) (by omega) (by omega)) (fun rv hp9 q9 => ?_)
    obtain ⟨⟨z4, rfl, l_z4, u_z4, R_z4⟩, e9⟩ := q9
    rw [e9]
    show yG _ _ _ _ _ _ _ _ _ _ (yI z4 :: [yR r3]) _
    refine yG.ialdF A_hp.1 (v_M_island W H_r3) rfl rfl (by omega) (by omega) (fun z5 e_z5 i_z5 l_z5 u_z5 => ?_)
    refine yG.load xik rfl (fun _ _ => rfl) (v := yI (p2)) rfl rfl ?_
    refine yG.icmp rfl (t := 32) rfl ⟨by omega, by omega⟩ ⟨by omega, by omega⟩ (fun c6 => ?_) (fun c6 => ?_)
    · have c6 : (z5 : Int) ≠ p2 := c6
      refine yG.num (c := 0) rfl (fun _ _ => rfl) (by decide) ?_
      refine yG.ret rfl (fun _ _ => rfl) ?_
      exact (yP.bool (by omega) ⟨⟨0, rfl, by omega, by omega, trivial⟩, rfl⟩)
    · have c6 : (z5 : Int) = p2 := c6
      refine yG.num (c := 1) rfl (fun _ _ => rfl) (by decide) ?_
      refine yG.goto rfl (t := 33) rfl ?_
      refine yG.ret rfl (fun _ _ => rfl) ?_
      exact (yP.bool (by omega) ⟨⟨1, rfl, by omega, by omega, trivial⟩, rfl⟩)
theorem c_GModel_isObject {hp : xH} (W : mW G) (d : Nat) (hT : zTy G hp) {k0 : Nat} (H_k0 : bRo G 116 k0) (p1 p2 : Int) (h1l : (-2147483648) ≤ p1) (h1u : p1 ≤ 2147483647) (h2l : (-2147483648) ≤ p2) (h2u : p2 ≤ 2147483647) : yC (xcall 89 xfts xpools xms (d + 2)) 433 [yR k0, yI (p1), yI (p2)] hp (bQpi hp 0 1 (fun z => (z = 1 → 0 ≤ p1 ∧ 0 ≤ 0 - p1 + 4 ∧ 0 ≤ p2 ∧ 0 ≤ 0 - p2 + 23))) := by
  have A_hp : bAx G [] hp hp := bAx.rf hT
  refine yC.of (M := (xt_X13_isObject, (3, (4, (14, []))))) rfl rfl (N := 69) (yfuel (by decide)) ?_
  show yG 89 xfts (xcall 89 xfts xpools xms (d + 1)) (xpool xp_RX13) [] xt_X13_isObject (yP 4 (bQpi hp 0 1 (fun z => (z = 1 → 0 ≤ p1 ∧ 0 ≤ 0 - p1 + 4 ∧ 0 ≤ p2 ∧ 0 ≤ 0 - p2 + 23)))) 69 0 [(0, yR k0), (1, yI (p1)), (2, yI (p2))] [] hp
  rcases (show p1 ≤ (-1) ∨ p1 ≥ 5 ∨ p1 = 0 ∨ p1 = 1 ∨ p1 = 2 ∨ p1 = 3 ∨ p1 = 4 by omega) with c1 | c1 | c1 | c1 | c1 | c1 | c1
  · skip
    refine yG.load xik rfl (fun _ _ => rfl) (v := yI (p1)) rfl rfl ?_
    refine yG.i2l rfl ⟨by omega, by omega⟩ ?_
    refine yG.numl (c := 0) rfl (fun _ _ => rfl) (by decide) ?_
    refine yG.numl (c := 4) rfl (fun _ _ => rfl) (by decide) ?_
    refine yG.invS (rest := []) rfl rfl rfl rfl (c_GModel_in W d A_hp.1 (p1) (0) (4) (by omega) (by omega) (by omega) (by omega) (by omega) (by omega)) (fun rv hp9 q9 => ?_)
    obtain ⟨⟨z2, rfl, l_z2, u_z2, R_z2⟩, e9⟩ := q9
    rw [e9]
    show yG _ _ _ _ _ _ _ _ _ _ (yI z2 :: []) _
    refine yG.ifz rfl (t := 34) rfl ⟨by omega, by omega⟩ (fun c3 => ?_) (fun c3 => ?_)
    · have c3 : (z2 : Int) = 0 := c3
      clear R_z2
      refine yG.num (c := 0) rfl (fun _ _ => rfl) (by decide) ?_
      refine yG.ret rfl (fun _ _ => rfl) ?_
      exact (yP.bool (by omega) ⟨⟨0, rfl, by omega, by omega, by omega⟩, rfl⟩)
    · have c3 : (z2 : Int) ≠ 0 := c3
      replace R_z2 := R_z2 (by omega)
      exfalso; omega
  · skip
    refine yG.load xik rfl (fun _ _ => rfl) (v := yI (p1)) rfl rfl ?_
    refine yG.i2l rfl ⟨by omega, by omega⟩ ?_
    refine yG.numl (c := 0) rfl (fun _ _ => rfl) (by decide) ?_
    refine yG.numl (c := 4) rfl (fun _ _ => rfl) (by decide) ?_
    refine yG.invS (rest := []) rfl rfl rfl rfl (c_GModel_in W d A_hp.1 (p1) (0) (4) (by omega) (by omega) (by omega) (by omega) (by omega) (by omega)) (fun rv hp9 q9 => ?_)
    obtain ⟨⟨z4, rfl, l_z4, u_z4, R_z4⟩, e9⟩ := q9
    rw [e9]
    show yG _ _ _ _ _ _ _ _ _ _ (yI z4 :: []) _
    refine yG.ifz rfl (t := 34) rfl ⟨by omega, by omega⟩ (fun c5 => ?_) (fun c5 => ?_)
    · have c5 : (z4 : Int) = 0 := c5
      clear R_z4
      refine yG.num (c := 0) rfl (fun _ _ => rfl) (by decide) ?_
      refine yG.ret rfl (fun _ _ => rfl) ?_
      exact (yP.bool (by omega) ⟨⟨0, rfl, by omega, by omega, by omega⟩, rfl⟩)
    · have c5 : (z4 : Int) ≠ 0 := c5
      replace R_z4 := R_z4 (by omega)
      exfalso; omega
  · subst c1
    refine yG.load xik rfl (fun _ _ => rfl) (v := yI (0)) rfl rfl ?_
    refine yG.i2l rfl ⟨by omega, by omega⟩ ?_
    refine yG.numl (c := 0) rfl (fun _ _ => rfl) (by decide) ?_
    refine yG.numl (c := 4) rfl (fun _ _ => rfl) (by decide) ?_
    refine yG.invS (rest := []) rfl rfl rfl rfl (c_GModel_in W d A_hp.1 (0) (0) (4) (by omega) (by omega) (by omega) (by omega) (by omega) (by omega)) (fun rv hp9 q9 => ?_)
    obtain ⟨⟨z6, rfl, l_z6, u_z6, R_z6⟩, e9⟩ := q9
    rw [e9]
    show yG _ _ _ _ _ _ _ _ _ _ (yI z6 :: []) _
    refine yG.ifz rfl (t := 34) rfl ⟨by omega, by omega⟩ (fun c7 => ?_) (fun c7 => ?_)
    · have c7 : (z6 : Int) = 0 := c7
      clear R_z6
      refine yG.num (c := 0) rfl (fun _ _ => rfl) (by decide) ?_
      refine yG.ret rfl (fun _ _ => rfl) ?_
      exact (yP.bool (by omega) ⟨⟨0, rfl, by omega, by omega, by omega⟩, rfl⟩)
    · have c7 : (z6 : Int) ≠ 0 := c7
      replace R_z6 := R_z6 (by omega)
      refine yG.load xik rfl (fun _ _ => rfl) (v := yI (p2)) rfl rfl ?_
      refine yG.i2l rfl ⟨by omega, by omega⟩ ?_
      refine yG.numl (c := 0) rfl (fun _ _ => rfl) (by decide) ?_
      refine yG.load xak rfl (fun _ _ => rfl) (v := yR k0) rfl rfl ?_
      refine yG.getO A_hp.1 (w_M_count W H_k0) rfl rfl (fun r8 H_r8 O_r8 q_r8 => ?_)
      refine yG.load xik rfl (fun _ _ => rfl) (v := yI (0)) rfl rfl ?_
      refine yG.ialdF A_hp.1 (v_M_count W H_r8) rfl rfl (by omega) (by omega) (fun z9 e_z9 i_z9 l_z9 u_z9 => ?_)
      refine yG.num (c := 1) rfl (fun _ _ => rfl) (by decide) ?_
      refine yG.isub rfl ?_
      refine yG.i2l rfl ⟨by omega, by omega⟩ ?_
      refine yG.invS (rest := []) rfl rfl rfl rfl (c_GModel_in W d A_hp.1 (p2) (0) (z9 - 1) (by omega) (by omega) (by omega) (by omega) (by omega) (by omega)) (fun rv hp9 q9 => ?_)
      obtain ⟨⟨z10, rfl, l_z10, u_z10, R_z10⟩, e9⟩ := q9
      rw [e9]
      show yG _ _ _ _ _ _ _ _ _ _ (yI z10 :: []) _
      refine yG.ifz rfl (t := 34) rfl ⟨by omega, by omega⟩ (fun c11 => ?_) (fun c11 => ?_)
      · have c11 : (z10 : Int) = 0 := c11
        clear R_z10
        refine yG.num (c := 0) rfl (fun _ _ => rfl) (by decide) ?_
        refine yG.ret rfl (fun _ _ => rfl) ?_
        exact (yP.bool (by omega) ⟨⟨0, rfl, by omega, by omega, by omega⟩, rfl⟩)
      · have c11 : (z10 : Int) ≠ 0 := c11
        replace R_z10 := R_z10 (by omega)
        refine yG.num (c := 1) rfl (fun _ _ => rfl) (by decide) ?_
        refine yG.goto rfl (t := 35) rfl ?_
        refine yG.ret rfl (fun _ _ => rfl) ?_
        exact (yP.bool (by omega) ⟨⟨1, rfl, by omega, by omega, by omega⟩, rfl⟩)
  · subst c1
    refine yG.load xik rfl (fun _ _ => rfl) (v := yI (1)) rfl rfl ?_
    refine yG.i2l rfl ⟨by omega, by omega⟩ ?_
    refine yG.numl (c := 0) rfl (fun _ _ => rfl) (by decide) ?_
    refine yG.numl (c := 4) rfl (fun _ _ => rfl) (by decide) ?_
    refine yG.invS (rest := []) rfl rfl rfl rfl (c_GModel_in W d A_hp.1 (1) (0) (4) (by omega) (by omega) (by omega) (by omega) (by omega) (by omega)) (fun rv hp9 q9 => ?_)
    obtain ⟨⟨z12, rfl, l_z12, u_z12, R_z12⟩, e9⟩ := q9
    rw [e9]
    show yG _ _ _ _ _ _ _ _ _ _ (yI z12 :: []) _
    refine yG.ifz rfl (t := 34) rfl ⟨by omega, by omega⟩ (fun c13 => ?_) (fun c13 => ?_)
    · have c13 : (z12 : Int) = 0 := c13
      clear R_z12
      refine yG.num (c := 0) rfl (fun _ _ => rfl) (by decide) ?_
      refine yG.ret rfl (fun _ _ => rfl) ?_
      exact (yP.bool (by omega) ⟨⟨0, rfl, by omega, by omega, by omega⟩, rfl⟩)
    · have c13 : (z12 : Int) ≠ 0 := c13
      replace R_z12 := R_z12 (by omega)
      refine yG.load xik rfl (fun _ _ => rfl) (v := yI (p2)) rfl rfl ?_
      refine yG.i2l rfl ⟨by omega, by omega⟩ ?_
      refine yG.numl (c := 0) rfl (fun _ _ => rfl) (by decide) ?_
      refine yG.load xak rfl (fun _ _ => rfl) (v := yR k0) rfl rfl ?_
      refine yG.getO A_hp.1 (w_M_count W H_k0) rfl rfl (fun r14 H_r14 O_r14 q_r14 => ?_)
      refine yG.load xik rfl (fun _ _ => rfl) (v := yI (1)) rfl rfl ?_
      refine yG.ialdF A_hp.1 (v_M_count W H_r14) rfl rfl (by omega) (by omega) (fun z15 e_z15 i_z15 l_z15 u_z15 => ?_)
      refine yG.num (c := 1) rfl (fun _ _ => rfl) (by decide) ?_
      refine yG.isub rfl ?_
      refine yG.i2l rfl ⟨by omega, by omega⟩ ?_
      refine yG.invS (rest := []) rfl rfl rfl rfl (c_GModel_in W d A_hp.1 (p2) (0) (z15 - 1) (by omega) (by omega) (by omega) (by omega) (by omega) (by omega)) (fun rv hp9 q9 => ?_)
      obtain ⟨⟨z16, rfl, l_z16, u_z16, R_z16⟩, e9⟩ := q9
      rw [e9]
      show yG _ _ _ _ _ _ _ _ _ _ (yI z16 :: []) _
      refine yG.ifz rfl (t := 34) rfl ⟨by omega, by omega⟩ (fun c17 => ?_) (fun c17 => ?_)
      · have c17 : (z16 : Int) = 0 := c17
        clear R_z16
        refine yG.num (c := 0) rfl (fun _ _ => rfl) (by decide) ?_
        refine yG.ret rfl (fun _ _ => rfl) ?_
        exact (yP.bool (by omega) ⟨⟨0, rfl, by omega, by omega, by omega⟩, rfl⟩)
      · have c17 : (z16 : Int) ≠ 0 := c17
        replace R_z16 := R_z16 (by omega)
        refine yG.num (c := 1) rfl (fun _ _ => rfl) (by decide) ?_
        refine yG.goto rfl (t := 35) rfl ?_
        refine yG.ret rfl (fun _ _ => rfl) ?_
        exact (yP.bool (by omega) ⟨⟨1, rfl, by omega, by omega, by omega⟩, rfl⟩)
  · subst c1
    refine yG.load xik rfl (fun _ _ => rfl) (v := yI (2)) rfl rfl ?_
    refine yG.i2l rfl ⟨by omega, by omega⟩ ?_
    refine yG.numl (c := 0) rfl (fun _ _ => rfl) (by decide) ?_
    refine yG.numl (c := 4) rfl (fun _ _ => rfl) (by decide) ?_
    refine yG.invS (rest := []) rfl rfl rfl rfl (c_GModel_in W d A_hp.1 (2) (0) (4) (by omega) (by omega) (by omega) (by omega) (by omega) (by omega)) (fun rv hp9 q9 => ?_)
    obtain ⟨⟨z18, rfl, l_z18, u_z18, R_z18⟩, e9⟩ := q9
    rw [e9]
    show yG _ _ _ _ _ _ _ _ _ _ (yI z18 :: []) _
    refine yG.ifz rfl (t := 34) rfl ⟨by omega, by omega⟩ (fun c19 => ?_) (fun c19 => ?_)
    · have c19 : (z18 : Int) = 0 := c19
      clear R_z18
      refine yG.num (c := 0) rfl (fun _ _ => rfl) (by decide) ?_
      refine yG.ret rfl (fun _ _ => rfl) ?_
      exact (yP.bool (by omega) ⟨⟨0, rfl, by omega, by omega, by omega⟩, rfl⟩)
    · have c19 : (z18 : Int) ≠ 0 := c19
      replace R_z18 := R_z18 (by omega)
      refine yG.load xik rfl (fun _ _ => rfl) (v := yI (p2)) rfl rfl ?_
      refine yG.i2l rfl ⟨by omega, by omega⟩ ?_
      refine yG.numl (c := 0) rfl (fun _ _ => rfl) (by decide) ?_
      refine yG.load xak rfl (fun _ _ => rfl) (v := yR k0) rfl rfl ?_
      refine yG.getO A_hp.1 (w_M_count W H_k0) rfl rfl (fun r20 H_r20 O_r20 q_r20 => ?_)
      refine yG.load xik rfl (fun _ _ => rfl) (v := yI (2)) rfl rfl ?_
      refine yG.ialdF A_hp.1 (v_M_count W H_r20) rfl rfl (by omega) (by omega) (fun z21 e_z21 i_z21 l_z21 u_z21 => ?_)
      refine yG.num (c := 1) rfl (fun _ _ => rfl) (by decide) ?_
      refine yG.isub rfl ?_
      refine yG.i2l rfl ⟨by omega, by omega⟩ ?_
      refine yG.invS (rest := []) rfl rfl rfl rfl (c_GModel_in W d A_hp.1 (p2) (0) (z21 - 1) (by omega) (by omega) (by omega) (by omega) (by omega) (by omega)) (fun rv hp9 q9 => ?_)
      obtain ⟨⟨z22, rfl, l_z22, u_z22, R_z22⟩, e9⟩ := q9
      rw [e9]
      show yG _ _ _ _ _ _ _ _ _ _ (yI z22 :: []) _
      refine yG.ifz rfl (t := 34) rfl ⟨by omega, by omega⟩ (fun c23 => ?_) (fun c23 => ?_)
      · have c23 : (z22 : Int) = 0 := c23
        clear R_z22
        refine yG.num (c := 0) rfl (fun _ _ => rfl) (by decide) ?_
        refine yG.ret rfl (fun _ _ => rfl) ?_
        exact (yP.bool (by omega) ⟨⟨0, rfl, by omega, by omega, by omega⟩, rfl⟩)
      · have c23 : (z22 : Int) ≠ 0 := c23
        replace R_z22 := R_z22 (by omega)
        refine yG.num (c := 1) rfl (fun _ _ => rfl) (by decide) ?_
        refine yG.goto rfl (t := 35) rfl ?_
        refine yG.ret rfl (fun _ _ => rfl) ?_
        exact (yP.bool (by omega) ⟨⟨1, rfl, by omega, by omega, by omega⟩, rfl⟩)
  · subst c1
    refine yG.load xik rfl (fun _ _ => rfl) (v := yI (3)) rfl rfl ?_
    refine yG.i2l rfl ⟨by omega, by omega⟩ ?_
    refine yG.numl (c := 0) rfl (fun _ _ => rfl) (by decide) ?_
    refine yG.numl (c := 4) rfl (fun _ _ => rfl) (by decide) ?_
    refine yG.invS (rest := []) rfl rfl rfl rfl (c_GModel_in W d A_hp.1 (3) (0) (4) (by omega) (by omega) (by omega) (by omega) (by omega) (by omega)) (fun rv hp9 q9 => ?_)
    obtain ⟨⟨z24, rfl, l_z24, u_z24, R_z24⟩, e9⟩ := q9
    rw [e9]
    show yG _ _ _ _ _ _ _ _ _ _ (yI z24 :: []) _
    refine yG.ifz rfl (t := 34) rfl ⟨by omega, by omega⟩ (fun c25 => ?_) (fun c25 => ?_)
    · have c25 : (z24 : Int) = 0 := c25
      clear R_z24
      refine yG.num (c := 0) rfl (fun _ _ => rfl) (by decide) ?_
      refine yG.ret rfl (fun _ _ => rfl) ?_
      exact (yP.bool (by omega) ⟨⟨0, rfl, by omega, by omega, by omega⟩, rfl⟩)
    · have c25 : (z24 : Int) ≠ 0 := c25
      replace R_z24 := R_z24 (by omega)
      refine yG.load xik rfl (fun _ _ => rfl) (v := yI (p2)) rfl rfl ?_
      refine yG.i2l rfl ⟨by omega, by omega⟩ ?_
      refine yG.numl (c := 0) rfl (fun _ _ => rfl) (by decide) ?_
      refine yG.load xak rfl (fun _ _ => rfl) (v := yR k0) rfl rfl ?_
      refine yG.getO A_hp.1 (w_M_count W H_k0) rfl rfl (fun r26 H_r26 O_r26 q_r26 => ?_)
      refine yG.load xik rfl (fun _ _ => rfl) (v := yI (3)) rfl rfl ?_
      refine yG.ialdF A_hp.1 (v_M_count W H_r26) rfl rfl (by omega) (by omega) (fun z27 e_z27 i_z27 l_z27 u_z27 => ?_)
      refine yG.num (c := 1) rfl (fun _ _ => rfl) (by decide) ?_
      refine yG.isub rfl ?_
      refine yG.i2l rfl ⟨by omega, by omega⟩ ?_
      refine yG.invS (rest := []) rfl rfl rfl rfl (c_GModel_in W d A_hp.1 (p2) (0) (z27 - 1) (by omega) (by omega) (by omega) (by omega) (by omega) (by omega)) (fun rv hp9 q9 => ?_)
      obtain ⟨⟨z28, rfl, l_z28, u_z28, R_z28⟩, e9⟩ := q9
      rw [e9]
      show yG _ _ _ _ _ _ _ _ _ _ (yI z28 :: []) _
      refine yG.ifz rfl (t := 34) rfl ⟨by omega, by omega⟩ (fun c29 => ?_) (fun c29 => ?_)
      · have c29 : (z28 : Int) = 0 := c29
        clear R_z28
        refine yG.num (c := 0) rfl (fun _ _ => rfl) (by decide) ?_
        refine yG.ret rfl (fun _ _ => rfl) ?_
        exact (yP.bool (by omega) ⟨⟨0, rfl, by omega, by omega, by omega⟩, rfl⟩)
      · have c29 : (z28 : Int) ≠ 0 := c29
        replace R_z28 := R_z28 (by omega)
        refine yG.num (c := 1) rfl (fun _ _ => rfl) (by decide) ?_
        refine yG.goto rfl (t := 35) rfl ?_
        refine yG.ret rfl (fun _ _ => rfl) ?_
        exact (yP.bool (by omega) ⟨⟨1, rfl, by omega, by omega, by omega⟩, rfl⟩)
  · subst c1
    refine yG.load xik rfl (fun _ _ => rfl) (v := yI (4)) rfl rfl ?_
    refine yG.i2l rfl ⟨by omega, by omega⟩ ?_
    refine yG.numl (c := 0) rfl (fun _ _ => rfl) (by decide) ?_
    refine yG.numl (c := 4) rfl (fun _ _ => rfl) (by decide) ?_
    refine yG.invS (rest := []) rfl rfl rfl rfl (c_GModel_in W d A_hp.1 (4) (0) (4) (by omega) (by omega) (by omega) (by omega) (by omega) (by omega)) (fun rv hp9 q9 => ?_)
    obtain ⟨⟨z30, rfl, l_z30, u_z30, R_z30⟩, e9⟩ := q9
    rw [e9]
    show yG _ _ _ _ _ _ _ _ _ _ (yI z30 :: []) _
    refine yG.ifz rfl (t := 34) rfl ⟨by omega, by omega⟩ (fun c31 => ?_) (fun c31 => ?_)
    · have c31 : (z30 : Int) = 0 := c31
      clear R_z30
      refine yG.num (c := 0) rfl (fun _ _ => rfl) (by decide) ?_
      refine yG.ret rfl (fun _ _ => rfl) ?_
      exact (yP.bool (by omega) ⟨⟨0, rfl, by omega, by omega, by omega⟩, rfl⟩)
    · have c31 : (z30 : Int) ≠ 0 := c31
      replace R_z30 := R_z30 (by omega)
      refine yG.load xik rfl (fun _ _ => rfl) (v := yI (p2)) rfl rfl ?_
      refine yG.i2l rfl ⟨by omega, by omega⟩ ?_
      refine yG.numl (c := 0) rfl (fun _ _ => rfl) (by decide) ?_
      refine yG.load xak rfl (fun _ _ => rfl) (v := yR k0) rfl rfl ?_
      refine yG.getO A_hp.1 (w_M_count W H_k0) rfl rfl (fun r32 H_r32 O_r32 q_r32 => ?_)
      refine yG.load xik rfl (fun _ _ => rfl) (v := yI (4)) rfl rfl ?_
      refine yG.ialdF A_hp.1 (v_M_count W H_r32) rfl rfl (by omega) (by omega) (fun z33 e_z33 i_z33 l_z33 u_z33 => ?_)
      refine yG.num (c := 1) rfl (fun _ _ => rfl) (by decide) ?_
      refine yG.isub rfl ?_
      refine yG.i2l rfl ⟨by omega, by omega⟩ ?_
      refine yG.invS (rest := []) rfl rfl rfl rfl (c_GModel_in W d A_hp.1 (p2) (0) (z33 - 1) (by omega) (by omega) (by omega) (by omega) (by omega) (by omega)) (fun rv hp9 q9 => ?_)
      obtain ⟨⟨z34, rfl, l_z34, u_z34, R_z34⟩, e9⟩ := q9
      rw [e9]
      show yG _ _ _ _ _ _ _ _ _ _ (yI z34 :: []) _
      refine yG.ifz rfl (t := 34) rfl ⟨by omega, by omega⟩ (fun c35 => ?_) (fun c35 => ?_)
      · have c35 : (z34 : Int) = 0 := c35
        clear R_z34
        refine yG.num (c := 0) rfl (fun _ _ => rfl) (by decide) ?_
        refine yG.ret rfl (fun _ _ => rfl) ?_
        exact (yP.bool (by omega) ⟨⟨0, rfl, by omega, by omega, by omega⟩, rfl⟩)
      · have c35 : (z34 : Int) ≠ 0 := c35
        replace R_z34 := R_z34 (by omega)
        refine yG.num (c := 1) rfl (fun _ _ => rfl) (by decide) ?_
        refine yG.goto rfl (t := 35) rfl ?_
        refine yG.ret rfl (fun _ _ => rfl) ?_
        exact (yP.bool (by omega) ⟨⟨1, rfl, by omega, by omega, by omega⟩, rfl⟩)
theorem c_GModel_remember {hp : xH} (W : mW G) (d : Nat) (hT : zTy G hp) {k0 : Nat} (H_k0 : bRo G 116 k0) : yC (xcall 89 xfts xpools xms (d + 1)) 492 [yR k0] hp (fun rv hp' => (rv = none ∧ True) ∧ bAx G [(411376139330301510538742295639337626245683966408394965837152256, 256)] hp hp') := by
  have A_hp : bAx G [(411376139330301510538742295639337626245683966408394965837152256, 256)] hp hp := bAx.rf hT
  have H : ∀ m : Nat, (∀ a1 : Int, ∀ hq, bAx G [(411376139330301510538742295639337626245683966408394965837152256, 256)] hp hq → 0 ≤ a1 → (-1320) ≤ 0 - a1 → 0 - 2 * a1 + 2641 < (m : Int) → yG 89 xfts (xcall 89 xfts xpools xms d) (xpool xp_RX13) [] xt_X13_remember (yP 0 (fun rv hp' => (rv = none ∧ True) ∧ bAx G [(411376139330301510538742295639337626245683966408394965837152256, 256)] hp hp')) (15 * m) 2 [(0, yR k0), (1, yI (a1))] [] hq) := by
    intro m
    induction m with
    | zero =>
      intros; exfalso; omega
    | succ m ih =>
      have i_2 := ih
      clear ih
      intro a1 hq A_hq f0 f1 hm
      refine yG.mono (N := 15 * m + 15) ?_ (by omega)
      refine yG.load xik rfl (fun _ _ => rfl) (v := yI (a1)) rfl rfl ?_
      refine yG.num (c := 1320) rfl (fun _ _ => rfl) (by decide) ?_
      refine yG.icmp rfl (t := 27) rfl ⟨by omega, by omega⟩ ⟨by omega, by omega⟩ (fun c1 => ?_) (fun c1 => ?_)
      · have c1 : (a1 : Int) ≥ 1320 := c1
        refine yG.ret rfl (fun _ _ => rfl) ?_
        exact (yP.void ⟨⟨rfl, trivial⟩, A_hq⟩)
      · have c1 : (a1 : Int) < 1320 := c1
        refine yG.load xak rfl (fun _ _ => rfl) (v := yR k0) rfl rfl ?_
        refine yG.getO A_hq.1 (w_M_fieldsBefore W H_k0) rfl rfl (fun r2 H_r2 O_r2 q_r2 => ?_)
        refine yG.load xik rfl (fun _ _ => rfl) (v := yI (a1)) rfl rfl ?_
        refine yG.load xak rfl (fun _ _ => rfl) (v := yR k0) rfl rfl ?_
        refine yG.getO A_hq.1 (w_M_field W H_k0) rfl rfl (fun r3 H_r3 O_r3 q_r3 => ?_)
        refine yG.load xik rfl (fun _ _ => rfl) (v := yI (a1)) rfl rfl ?_
        refine yG.ialdT A_hq.1 (v_M_field W H_r3) (yhull2 (tf := yfT) (yfT_h _)) rfl (by omega) (by omega) (fun z4 lo_z4 hi_z4 e_z4 i_z4 T_z4 l_z4 u_z4 => ?_)
        obtain ⟨L_z4, U_z4⟩ := yhull (tf := yfT) (yfT_h _) T_z4
        refine yG.iastF A_hq.1 (v_M_fieldsBefore W H_r2) ((show yfT ((a1 : Int).toNat) = yfT ((a1 : Int).toNat) from congrArg yfT (by omega)).trans T_z4) (W.2.1 _ _ H_r2 (by decide) (by decide)) rfl (by omega) (by omega) ⟨by omega, by omega⟩ (by omega) (by omega) (fun h5 T_h5 b_h5 f_h5 y_h5 => ?_)
        have A_h5 := A_hq.put T_h5 b_h5 f_h5 H_r2 (bAll_ok (by decide) _)
        refine yG.iinc rfl (a := a1) rfl (L' := [(1, yI (a1 + 1)), (0, yR k0)]) rfl ?_
        refine yG.goto rfl (t := 2) rfl ?_
        exact yG.mono (yG.sub (i_2 (a1 + 1)  h5 A_h5   (by omega) (by omega) (by omega)) (ySub.cons rfl (ySub.cons rfl (ySub.nil)))) (by omega)
  refine yC.of (M := (xt_X13_remember, (2, (0, (14, []))))) rfl rfl (N := 39660) (yfuel (by decide)) ?_
  show yG 89 xfts (xcall 89 xfts xpools xms d) (xpool xp_RX13) [] xt_X13_remember (yP 0 (fun rv hp' => (rv = none ∧ True) ∧ bAx G [(411376139330301510538742295639337626245683966408394965837152256, 256)] hp hp')) 39660 0 [(0, yR k0)] [] hp
  have i_2 := H 2643
  refine yG.num (c := 0) rfl (fun _ _ => rfl) (by decide) ?_
  refine yG.store1 xik (L' := [(1, yI (0)), (0, yR k0)]) rfl (fun _ _ => rfl) rfl rfl ?_
  exact yG.mono (yG.sub (i_2 (0)  hp A_hp   (by omega) (by omega) (by omega)) (ySub.cons rfl (ySub.cons rfl (ySub.nil)))) (by omega)
theorem c_GModel_comeBack {hp : xH} (W : mW G) (d : Nat) (hT : zTy G hp) {k0 : Nat} (H_k0 : bRo G 116 k0) : yC (xcall 89 xfts xpools xms (d + 1)) 371 [yR k0] hp (fun rv hp' => (rv = none ∧ True) ∧ bAx G [(83076749736557242056487941267521536, 40), (5444517870735015415413993718908291383296, 256)] hp hp') := by
  have A_hp : bAx G [(83076749736557242056487941267521536, 40), (5444517870735015415413993718908291383296, 256)] hp hp := bAx.rf hT
  have H : ∀ m : Nat, (∀ a1 : Int, ∀ hq, bAx G [(83076749736557242056487941267521536, 40), (5444517870735015415413993718908291383296, 256)] hp hq → 0 ≤ a1 → (-1320) ≤ 0 - a1 → 0 - 2 * a1 + 2641 < (m : Int) → yG 89 xfts (xcall 89 xfts xpools xms d) (xpool xp_RX13) [] xt_X13_comeBack (yP 0 (fun rv hp' => (rv = none ∧ True) ∧ bAx G [(83076749736557242056487941267521536, 40), (5444517870735015415413993718908291383296, 256)] hp hp')) (15 * m) 2 [(0, yR k0), (1, yI (a1))] [] hq) := by
    intro m
    induction m with
    | zero =>
      intros; exfalso; omega
    | succ m ih =>
      have i_2 := ih
      clear ih
      intro a1 hq A_hq f0 f1 hm
      refine yG.mono (N := 15 * m + 15) ?_ (by omega)
      refine yG.load xik rfl (fun _ _ => rfl) (v := yI (a1)) rfl rfl ?_
      refine yG.num (c := 1320) rfl (fun _ _ => rfl) (by decide) ?_
      refine yG.icmp rfl (t := 27) rfl ⟨by omega, by omega⟩ ⟨by omega, by omega⟩ (fun c1 => ?_) (fun c1 => ?_)
      · have c1 : (a1 : Int) ≥ 1320 := c1
        refine yG.load xak rfl (fun _ _ => rfl) (v := yR k0) rfl rfl ?_
        refine yG.num (c := 0) rfl (fun _ _ => rfl) (by decide) ?_
        refine yG.putI A_hq.1 (w_M_hasFlows W H_k0) (W.2.1 _ _ H_k0 (by decide) (by decide)) rfl rfl (.inr ⟨rfl, rfl, rfl⟩) ⟨by omega, by omega⟩ (by omega) (by omega) (fun h2 T_h2 b_h2 f_h2 y_h2 => ?_)
        have A_h2 := A_hq.put T_h2 b_h2 f_h2 H_k0 (by decide)
        refine yG.ret rfl (fun _ _ => rfl) ?_
        exact (yP.void ⟨⟨rfl, trivial⟩, A_h2⟩)
      · have c1 : (a1 : Int) < 1320 := c1
        refine yG.load xak rfl (fun _ _ => rfl) (v := yR k0) rfl rfl ?_
        refine yG.getO A_hq.1 (w_M_field W H_k0) rfl rfl (fun r3 H_r3 O_r3 q_r3 => ?_)
        refine yG.load xik rfl (fun _ _ => rfl) (v := yI (a1)) rfl rfl ?_
        refine yG.load xak rfl (fun _ _ => rfl) (v := yR k0) rfl rfl ?_
        refine yG.getO A_hq.1 (w_M_fieldsBefore W H_k0) rfl rfl (fun r4 H_r4 O_r4 q_r4 => ?_)
        refine yG.load xik rfl (fun _ _ => rfl) (v := yI (a1)) rfl rfl ?_
        refine yG.ialdT A_hq.1 (v_M_fieldsBefore W H_r4) (yhull2 (tf := yfT) (yfT_h _)) rfl (by omega) (by omega) (fun z5 lo_z5 hi_z5 e_z5 i_z5 T_z5 l_z5 u_z5 => ?_)
        obtain ⟨L_z5, U_z5⟩ := yhull (tf := yfT) (yfT_h _) T_z5
        refine yG.iastF A_hq.1 (v_M_field W H_r3) ((show yfT ((a1 : Int).toNat) = yfT ((a1 : Int).toNat) from congrArg yfT (by omega)).trans T_z5) (W.2.1 _ _ H_r3 (by decide) (by decide)) rfl (by omega) (by omega) ⟨by omega, by omega⟩ (by omega) (by omega) (fun h6 T_h6 b_h6 f_h6 y_h6 => ?_)
        have A_h6 := A_hq.put T_h6 b_h6 f_h6 H_r3 (bAll_ok (by decide) _)
        refine yG.iinc rfl (a := a1) rfl (L' := [(1, yI (a1 + 1)), (0, yR k0)]) rfl ?_
        refine yG.goto rfl (t := 2) rfl ?_
        exact yG.mono (yG.sub (i_2 (a1 + 1)  h6 A_h6   (by omega) (by omega) (by omega)) (ySub.cons rfl (ySub.cons rfl (ySub.nil)))) (by omega)
  refine yC.of (M := (xt_X13_comeBack, (2, (0, (14, []))))) rfl rfl (N := 39660) (yfuel (by decide)) ?_
  show yG 89 xfts (xcall 89 xfts xpools xms d) (xpool xp_RX13) [] xt_X13_comeBack (yP 0 (fun rv hp' => (rv = none ∧ True) ∧ bAx G [(83076749736557242056487941267521536, 40), (5444517870735015415413993718908291383296, 256)] hp hp')) 39660 0 [(0, yR k0)] [] hp
  have i_2 := H 2643
  refine yG.num (c := 0) rfl (fun _ _ => rfl) (by decide) ?_
  refine yG.store1 xik (L' := [(1, yI (0)), (0, yR k0)]) rfl (fun _ _ => rfl) rfl rfl ?_
  exact yG.mono (yG.sub (i_2 (0)  hp A_hp   (by omega) (by omega) (by omega)) (ySub.cons rfl (ySub.cons rfl (ySub.nil)))) (by omega)
theorem c_GModel_asInRun {hp : xH} (W : mW G) (d : Nat) (hT : zTy G hp) {k0 : Nat} (H_k0 : bRo G 116 k0) : yC (xcall 89 xfts xpools xms (d + 4)) 352 [yR k0] hp (fun rv hp' => (rv = none ∧ True) ∧ bAx G [(83076749736557242056487941267521536, 40), (83076749736557242056487941267521536, 77), (8362779449448983678075894352243135564742656, 256)] hp hp') := by
  have A_hp : bAx G [(83076749736557242056487941267521536, 40), (83076749736557242056487941267521536, 77), (8362779449448983678075894352243135564742656, 256)] hp hp := bAx.rf hT
  have H : ∀ m : Nat, (∀ a1 : Int, ∀ hq, bAx G [(83076749736557242056487941267521536, 40), (83076749736557242056487941267521536, 77), (8362779449448983678075894352243135564742656, 256)] hp hq → 0 ≤ a1 → (-24) ≤ 0 - a1 → 0 - 2 * a1 + 49 < (m : Int) → yG 89 xfts (xcall 89 xfts xpools xms (d + 3)) (xpool xp_RX13) [] xt_X13_asInRun (yP 0 (fun rv hp' => (rv = none ∧ True) ∧ bAx G [(83076749736557242056487941267521536, 40), (83076749736557242056487941267521536, 77), (8362779449448983678075894352243135564742656, 256)] hp hp')) (18 * m) 16 [(0, yR k0), (1, yI (a1))] [] hq) := by
    intro m
    induction m with
    | zero =>
      intros; exfalso; omega
    | succ m ih =>
      have i_16 := ih
      clear ih
      intro a1 hq A_hq f0 f1 hm
      refine yG.mono (N := 18 * m + 18) ?_ (by omega)
      refine yG.load xik rfl (fun _ _ => rfl) (v := yI (a1)) rfl rfl ?_
      refine yG.load xak rfl (fun _ _ => rfl) (v := yR k0) rfl rfl ?_
      refine yG.getO A_hq.1 (w_M_count W H_k0) rfl rfl (fun r1 H_r1 O_r1 q_r1 => ?_)
      refine yG.num (c := 1) rfl (fun _ _ => rfl) (by decide) ?_
      refine yG.ialdF A_hq.1 (v_M_count W H_r1) rfl rfl (by omega) (by omega) (fun z2 e_z2 i_z2 l_z2 u_z2 => ?_)
      refine yG.icmp rfl (t := 44) rfl ⟨by omega, by omega⟩ ⟨by omega, by omega⟩ (fun c3 => ?_) (fun c3 => ?_)
      · have c3 : (a1 : Int) ≥ z2 := c3
        refine yG.ret rfl (fun _ _ => rfl) ?_
        exact (yP.void ⟨⟨rfl, trivial⟩, A_hq⟩)
      · have c3 : (a1 : Int) < z2 := c3
        refine yG.load xak rfl (fun _ _ => rfl) (v := yR k0) rfl rfl ?_
        refine yG.getO A_hq.1 (w_M_stateNow W H_k0) rfl rfl (fun r4 H_r4 O_r4 q_r4 => ?_)
        refine yG.load xik rfl (fun _ _ => rfl) (v := yI (a1)) rfl rfl ?_
        refine yG.load xak rfl (fun _ _ => rfl) (v := yR k0) rfl rfl ?_
        refine yG.getO A_hq.1 (w_M_runState W H_k0) rfl rfl (fun r5 H_r5 O_r5 q_r5 => ?_)
        refine yG.load xik rfl (fun _ _ => rfl) (v := yI (a1)) rfl rfl ?_
        refine yG.iald A_hq.1 (v_M_runState W H_r5) rfl (by omega) (by omega) (fun z6 e_z6 i_z6 l_z6 u_z6 => ?_)
        refine yG.iast A_hq.1 (v_M_stateNow W H_r4) (W.2.1 _ _ H_r4 (by decide) (by decide)) rfl (by omega) (by omega) ⟨by omega, by omega⟩ (by omega) (by omega) (fun h7 T_h7 b_h7 f_h7 y_h7 => ?_)
        have A_h7 := A_hq.put T_h7 b_h7 f_h7 H_r4 (bAll_ok (by decide) _)
        refine yG.iinc rfl (a := a1) rfl (L' := [(1, yI (a1 + 1)), (0, yR k0)]) rfl ?_
        refine yG.goto rfl (t := 16) rfl ?_
        exact yG.mono (yG.sub (i_16 (a1 + 1)  h7 A_h7   (by omega) (by omega) (by omega)) (ySub.cons rfl (ySub.cons rfl (ySub.nil)))) (by omega)
  refine yC.of (M := (xt_X13_asInRun, (2, (0, (14, []))))) rfl rfl (N := 936) (yfuel (by decide)) ?_
  show yG 89 xfts (xcall 89 xfts xpools xms (d + 3)) (xpool xp_RX13) [] xt_X13_asInRun (yP 0 (fun rv hp' => (rv = none ∧ True) ∧ bAx G [(83076749736557242056487941267521536, 40), (83076749736557242056487941267521536, 77), (8362779449448983678075894352243135564742656, 256)] hp hp')) 936 0 [(0, yR k0)] [] hp
  have i_16 := H 51
  refine yG.load xak rfl (fun _ _ => rfl) (v := yR k0) rfl rfl ?_
  refine yG.num (c := 0) rfl (fun _ _ => rfl) (by decide) ?_
  refine yG.putI A_hp.1 (w_M_hasFlows W H_k0) (W.2.1 _ _ H_k0 (by decide) (by decide)) rfl rfl (.inr ⟨rfl, rfl, rfl⟩) ⟨by omega, by omega⟩ (by omega) (by omega) (fun h1 T_h1 b_h1 f_h1 y_h1 => ?_)
  have A_h1 := A_hp.put T_h1 b_h1 f_h1 H_k0 (by decide)
  refine yG.load xak rfl (fun _ _ => rfl) (v := yR k0) rfl rfl ?_
  refine yG.num (c := 0) rfl (fun _ _ => rfl) (by decide) ?_
  refine yG.putI A_h1.1 (w_M_hasNetShort W H_k0) (W.2.1 _ _ H_k0 (by decide) (by decide)) rfl rfl (.inr ⟨rfl, rfl, rfl⟩) ⟨by omega, by omega⟩ (by omega) (by omega) (fun h2 T_h2 b_h2 f_h2 y_h2 => ?_)
  have A_h2 := A_h1.put T_h2 b_h2 f_h2 H_k0 (by decide)
  refine yG.load xak rfl (fun _ _ => rfl) (v := yR k0) rfl rfl ?_
  refine yG.invV (rest := []) A_h2.1 (bOb (d_M W) H_k0) rfl rfl rfl rfl (c_GModel_asItIs W d A_h2.1 H_k0) (fun rv h3 q9 => ?_)
  obtain ⟨⟨rfl, R_z4⟩, B_h3⟩ := q9
  have A_h3 := A_h2.tr B_h3 (by decide)
  show yG _ _ _ _ _ _ _ _ _ _ [] _
  refine yG.num (c := 0) rfl (fun _ _ => rfl) (by decide) ?_
  refine yG.store1 xik (L' := [(1, yI (0)), (0, yR k0)]) rfl (fun _ _ => rfl) rfl rfl ?_
  exact yG.mono (yG.sub (i_16 (0)  h3 A_h3   (by omega) (by omega) (by omega)) (ySub.cons rfl (ySub.cons rfl (ySub.nil)))) (by omega)
theorem c_GModel_giveOrder {hp : xH} (W : mW G) (d : Nat) (hT : zTy G hp) {k0 : Nat} (H_k0 : bRo G 116 k0) (p1 p2 : Int) (h1l : 0 ≤ p1) (h1u : p1 ≤ 23) (h2l : 0 ≤ p2) (h2u : p2 ≤ 2147483647) : yC (xcall 89 xfts xpools xms (d + 3)) 410 [yR k0, yI (p1), yJ (p2)] hp (bQi G [(1340933598257652751063553648756520535666396731910651904, 256)] hp 0 1 (fun _ => True)) := by
  have A_hp : bAx G [(1340933598257652751063553648756520535666396731910651904, 256)] hp hp := bAx.rf hT
  refine yC.of (M := (xt_X13_giveOrder, (6, (4, (14, []))))) rfl rfl (N := 132) (yfuel (by decide)) ?_
  show yG 89 xfts (xcall 89 xfts xpools xms (d + 2)) (xpool xp_RX13) [] xt_X13_giveOrder (yP 4 (bQi G [(1340933598257652751063553648756520535666396731910651904, 256)] hp 0 1 (fun _ => True))) 132 0 [(0, yR k0), (1, yI (p1)), (2, yJ (p2))] [] hp
  refine yG.load xak rfl (fun _ _ => rfl) (v := yR k0) rfl rfl ?_
  refine yG.getO A_hp.1 (w_M_runState W H_k0) rfl rfl (fun r1 H_r1 O_r1 q_r1 => ?_)
  refine yG.load xik rfl (fun _ _ => rfl) (v := yI (p1)) rfl rfl ?_
  refine yG.iald A_hp.1 (v_M_runState W H_r1) rfl (by omega) (by omega) (fun z2 e_z2 i_z2 l_z2 u_z2 => ?_)
  refine yG.num (c := 1) rfl (fun _ _ => rfl) (by decide) ?_
  refine yG.icmp rfl (t := 19) rfl ⟨by omega, by omega⟩ ⟨by omega, by omega⟩ (fun c3 => ?_) (fun c3 => ?_)
  · have c3 : (z2 : Int) ≠ 1 := c3
    refine yG.num (c := 0) rfl (fun _ _ => rfl) (by decide) ?_
    refine yG.ret rfl (fun _ _ => rfl) ?_
    exact (yP.bool (by omega) ⟨⟨0, rfl, by omega, by omega, trivial⟩, A_hp⟩)
  · have c3 : (z2 : Int) = 1 := c3
    refine yG.load xak rfl (fun _ _ => rfl) (v := yR k0) rfl rfl ?_
    refine yG.getO A_hp.1 (w_M_hasOrder W H_k0) rfl rfl (fun r4 H_r4 O_r4 q_r4 => ?_)
    refine yG.load xik rfl (fun _ _ => rfl) (v := yI (p1)) rfl rfl ?_
    refine yG.bald A_hp.1 (v_M_hasOrder W H_r4) rfl (by omega) (by omega) (fun z5 e_z5 i_z5 l_z5 u_z5 => ?_)
    refine yG.ifz rfl (t := 21) rfl ⟨by omega, by omega⟩ (fun c6 => ?_) (fun c6 => ?_)
    · have c6 : (z5 : Int) = 0 := c6
      refine yG.load xak rfl (fun _ _ => rfl) (v := yR k0) rfl rfl ?_
      refine yG.getS9 A_hp.1 (w_M_hasOrder W H_k0) q_r4 rfl rfl ?_
      refine yG.load xik rfl (fun _ _ => rfl) (v := yI (p1)) rfl rfl ?_
      refine yG.num (c := 1) rfl (fun _ _ => rfl) (by decide) ?_
      refine yG.bast A_hp.1 (v_M_hasOrder W H_r4) (W.2.1 _ _ H_r4 (by decide) (by decide)) rfl (by omega) (by omega) ⟨by omega, by omega⟩ (by omega) (by omega) (fun h7 T_h7 b_h7 f_h7 y_h7 => ?_)
      have A_h7 := A_hp.put T_h7 b_h7 f_h7 H_r4 (bAll_ok (by decide) _)
      have qq1 : zsl h7 k0 93 = yR r4 := ((f_h7 k0 93).trans (if_neg (fun e => (bRo.ne H_k0 H_r4 (by decide)) e.1))).trans q_r4
      refine yG.load xlk2 rfl (fun _ _ => rfl) (v := yJ (p2)) rfl rfl ?_
      refine yG.load xak rfl (fun _ _ => rfl) (v := yR k0) rfl rfl ?_
      refine yG.num (c := 1) rfl (fun _ _ => rfl) (by decide) ?_
      refine yG.load xik rfl (fun _ _ => rfl) (v := yI (p1)) rfl rfl ?_
      refine yG.num (c := 1) rfl (fun _ _ => rfl) (by decide) ?_
      refine yG.invV (rest := [yJ (p2)]) A_h7.1 (bOb (d_M W) H_k0) rfl rfl rfl rfl (c_GModel_of_1_1 W d A_h7.1 H_k0 (p1) (by omega) (by omega)) (fun rv hp9 q9 => ?_)
      obtain ⟨⟨z8, rfl, l_z8, u_z8, R_z8⟩, e9⟩ := q9
      rw [e9]
      show yG _ _ _ _ _ _ _ _ _ _ (yI z8 :: [yJ (p2)]) _
      refine yG.i2l rfl ⟨by omega, by omega⟩ ?_
      refine yG.ladd rfl ?_
      obtain ⟨z9, e_z9⟩ : ∃ z : Int, z = p2 + z8 := ⟨_, rfl⟩
      rw [← e_z9]
      refine yG.store2 xlk2 (L' := [(4, yJ (z9)), (0, yR k0), (1, yI (p1)), (2, yJ (p2))]) rfl (fun _ _ => rfl) rfl rfl ?_
      refine yG.load xak rfl (fun _ _ => rfl) (v := yR k0) rfl rfl ?_
      refine yG.getO A_h7.1 (w_M_doesFail W H_k0) rfl rfl (fun r10 H_r10 O_r10 q_r10 => ?_)
      refine yG.load xik rfl (fun _ _ => rfl) (v := yI (p1)) rfl rfl ?_
      refine yG.bald A_h7.1 (v_M_doesFail W H_r10) rfl (by omega) (by omega) (fun z11 e_z11 i_z11 l_z11 u_z11 => ?_)
      refine yG.ifz rfl (t := 66) rfl ⟨by omega, by omega⟩ (fun c12 => ?_) (fun c12 => ?_)
      · have c12 : (z11 : Int) = 0 := c12
        refine yG.load xak rfl (fun _ _ => rfl) (v := yR k0) rfl rfl ?_
        refine yG.getO A_h7.1 (w_M_opensAt W H_k0) rfl rfl (fun r13 H_r13 O_r13 q_r13 => ?_)
        refine yG.load xik rfl (fun _ _ => rfl) (v := yI (p1)) rfl rfl ?_
        refine yG.load xlk2 rfl (fun _ _ => rfl) (v := yJ (z9)) rfl rfl ?_
        refine yG.last A_h7.1 (v_M_opensAt W H_r13) (W.2.1 _ _ H_r13 (by decide) (by decide)) rfl (by omega) (by omega) ⟨by omega, by omega⟩ (by omega) (by omega) (fun h14 T_h14 b_h14 f_h14 y_h14 => ?_)
        have A_h14 := A_h7.put T_h14 b_h14 f_h14 H_r13 (bAll_ok (by decide) _)
        have qq2 : zsl h14 k0 93 = yR r4 := ((f_h14 k0 93).trans (if_neg (fun e => (bRo.ne H_k0 H_r13 (by decide)) e.1))).trans qq1
        refine yG.num (c := 1) rfl (fun _ _ => rfl) (by decide) ?_
        refine yG.ret rfl (fun _ _ => rfl) ?_
        exact (yP.bool (by omega) ⟨⟨1, rfl, by omega, by omega, trivial⟩, A_h14⟩)
      · have c12 : (z11 : Int) ≠ 0 := c12
        refine yG.load xak rfl (fun _ _ => rfl) (v := yR k0) rfl rfl ?_
        refine yG.getO A_h7.1 (w_M_backupAt W H_k0) rfl rfl (fun r15 H_r15 O_r15 q_r15 => ?_)
        refine yG.load xik rfl (fun _ _ => rfl) (v := yI (p1)) rfl rfl ?_
        refine yG.load xlk2 rfl (fun _ _ => rfl) (v := yJ (z9)) rfl rfl ?_
        refine yG.load xak rfl (fun _ _ => rfl) (v := yR k0) rfl rfl ?_
        refine yG.getI A_h7.1 (w_M_back W H_k0) rfl rfl (fun z16 e_z16 i_z16 l_z16 u_z16 => ?_)
        refine yG.i2l rfl ⟨by omega, by omega⟩ ?_
        refine yG.ladd rfl ?_
        refine yG.last A_h7.1 (v_M_backupAt W H_r15) (W.2.1 _ _ H_r15 (by decide) (by decide)) rfl (by omega) (by omega) ⟨by omega, by omega⟩ (by omega) (by omega) (fun h17 T_h17 b_h17 f_h17 y_h17 => ?_)
        have A_h17 := A_h7.put T_h17 b_h17 f_h17 H_r15 (bAll_ok (by decide) _)
        have qq3 : zsl h17 k0 93 = yR r4 := ((f_h17 k0 93).trans (if_neg (fun e => (bRo.ne H_k0 H_r15 (by decide)) e.1))).trans qq1
        refine yG.goto rfl (t := 74) rfl ?_
        refine yG.num (c := 1) rfl (fun _ _ => rfl) (by decide) ?_
        refine yG.ret rfl (fun _ _ => rfl) ?_
        exact (yP.bool (by omega) ⟨⟨1, rfl, by omega, by omega, trivial⟩, A_h17⟩)
    · have c6 : (z5 : Int) ≠ 0 := c6
      refine yG.num (c := 0) rfl (fun _ _ => rfl) (by decide) ?_
      refine yG.ret rfl (fun _ _ => rfl) ?_
      exact (yP.bool (by omega) ⟨⟨0, rfl, by omega, by omega, trivial⟩, A_hp⟩)
theorem c_GModel_nextTime {hp : xH} (W : mW G) (d : Nat) (hT : zTy G hp) {k0 : Nat} (H_k0 : bRo G 116 k0) : yC (xcall 89 xfts xpools xms (d + 2)) 467 [yR k0] hp (bQpj hp (-1) 9223372036854775807 (fun _ => True)) := by
  have A_hp : bAx G [] hp hp := bAx.rf hT
  have H : ∀ m : Nat, (∀ a1 : Int, ∀ a3 : Int, 0 ≤ a1 → (-9223372036854775807) ≤ 0 - a1 → 0 ≤ a3 → (-24) ≤ 0 - a3 → 0 - 188 * a3 + 4699 < (m : Int) → yG 89 xfts (xcall 89 xfts xpools xms (d + 1)) (xpool xp_RX13) [] xt_X13_nextTime (yP 2 (bQpj hp (-1) 9223372036854775807 (fun _ => True))) (50 * m) 6 [(0, yR k0), (1, yJ (a1)), (3, yI (a3))] [] hp) ∧ (∀ a1 : Int, ∀ a3 : Int, (-1) ≤ a1 → (-9223372036854775807) ≤ 0 - a1 → 0 ≤ a3 → (-16) ≤ 0 - a3 → 0 - 11 * a3 + 186 < (m : Int) → yG 89 xfts (xcall 89 xfts xpools xms (d + 1)) (xpool xp_RX13) [] xt_X13_nextTime (yP 2 (bQpj hp (-1) 9223372036854775807 (fun _ => True))) (50 * m) 90 [(0, yR k0), (1, yJ (a1)), (3, yI (a3))] [] hp) ∧ (∀ a1 : Int, ∀ a3 : Int, ∀ a4 : Int, (-1) ≤ a1 → (-9223372036854775807) ≤ 0 - a1 → 0 ≤ a3 → (-15) ≤ 0 - a3 → 0 ≤ a4 → (-4) ≤ 0 - a4 → 0 - 11 * a3 - 2 * a4 + 185 < (m : Int) → yG 89 xfts (xcall 89 xfts xpools xms (d + 1)) (xpool xp_RX13) [] xt_X13_nextTime (yP 2 (bQpj hp (-1) 9223372036854775807 (fun _ => True))) (50 * m) 101 [(0, yR k0), (1, yJ (a1)), (3, yI (a3)), (4, yI (a4))] [] hp) := by
    intro m
    induction m with
    | zero =>
      refine ⟨?_, ?_, ?_⟩ <;> (intros; exfalso; omega)
    | succ m ih =>
      obtain ⟨i_6, i_90, i_101⟩ := ih
      refine ⟨?_, ?_, ?_⟩
      · intro a1 a3 f0 f1 f2 f3 hm
        refine yG.mono (N := 50 * m + 50) ?_ (by omega)
        refine yG.load xik rfl (fun _ _ => rfl) (v := yI (a3)) rfl rfl ?_
        refine yG.load xak rfl (fun _ _ => rfl) (v := yR k0) rfl rfl ?_
        refine yG.getO A_hp.1 (w_M_count W H_k0) rfl rfl (fun r1 H_r1 O_r1 q_r1 => ?_)
        refine yG.num (c := 1) rfl (fun _ _ => rfl) (by decide) ?_
        refine yG.ialdF A_hp.1 (v_M_count W H_r1) rfl rfl (by omega) (by omega) (fun z2 e_z2 i_z2 l_z2 u_z2 => ?_)
        refine yG.icmp rfl (t := 88) rfl ⟨by omega, by omega⟩ ⟨by omega, by omega⟩ (fun c3 => ?_) (fun c3 => ?_)
        · have c3 : (a3 : Int) ≥ z2 := c3
          refine yG.num (c := 0) rfl (fun _ _ => rfl) (by decide) ?_
          refine yG.store1 xik (L' := [(3, yI (0)), (0, yR k0), (1, yJ (a1))]) rfl (fun _ _ => rfl) rfl rfl ?_
          exact yG.mono (yG.sub (i_90 (a1) (0)     (by omega) (by omega) (by omega) (by omega) (by omega)) (ySub.cons rfl (ySub.cons rfl (ySub.cons rfl (ySub.nil))))) (by omega)
        · have c3 : (a3 : Int) < z2 := c3
          refine yG.load xak rfl (fun _ _ => rfl) (v := yR k0) rfl rfl ?_
          refine yG.getO A_hp.1 (w_M_opensAt W H_k0) rfl rfl (fun r4 H_r4 O_r4 q_r4 => ?_)
          refine yG.load xik rfl (fun _ _ => rfl) (v := yI (a3)) rfl rfl ?_
          refine yG.lald A_hp.1 (v_M_opensAt W H_r4) rfl (by omega) (by omega) (fun z5 e_z5 i_z5 l_z5 u_z5 => ?_)
          refine yG.numl (c := 0) rfl (fun _ _ => rfl) (by decide) ?_
          refine yG.lcmp rfl ⟨by omega, by omega⟩ ⟨by omega, by omega⟩ (fun z6 e_z6 => ?_)
          refine yG.ifz rfl (t := 47) rfl ⟨by omega, by omega⟩ (fun c7 => ?_) (fun c7 => ?_)
          · have c7 : (z6 : Int) < 0 := c7
            refine yG.load xlk2 rfl (fun _ _ => rfl) (v := yJ (a1)) rfl rfl ?_
            refine yG.store2 xlk2 (L' := [(1, yJ (a1)), (0, yR k0), (3, yI (a3))]) rfl (fun _ _ => rfl) rfl rfl ?_
            refine yG.load xak rfl (fun _ _ => rfl) (v := yR k0) rfl rfl ?_
            refine yG.getO A_hp.1 (w_M_backupAt W H_k0) rfl rfl (fun r8 H_r8 O_r8 q_r8 => ?_)
            refine yG.load xik rfl (fun _ _ => rfl) (v := yI (a3)) rfl rfl ?_
            refine yG.lald A_hp.1 (v_M_backupAt W H_r8) rfl (by omega) (by omega) (fun z9 e_z9 i_z9 l_z9 u_z9 => ?_)
            refine yG.numl (c := 0) rfl (fun _ _ => rfl) (by decide) ?_
            refine yG.lcmp rfl ⟨by omega, by omega⟩ ⟨by omega, by omega⟩ (fun z10 e_z10 => ?_)
            refine yG.ifz rfl (t := 80) rfl ⟨by omega, by omega⟩ (fun c11 => ?_) (fun c11 => ?_)
            · have c11 : (z10 : Int) < 0 := c11
              refine yG.load xlk2 rfl (fun _ _ => rfl) (v := yJ (a1)) rfl rfl ?_
              refine yG.store2 xlk2 (L' := [(1, yJ (a1)), (0, yR k0), (3, yI (a3))]) rfl (fun _ _ => rfl) rfl rfl ?_
              refine yG.iinc rfl (a := a3) rfl (L' := [(3, yI (a3 + 1)), (1, yJ (a1)), (0, yR k0)]) rfl ?_
              refine yG.goto rfl (t := 6) rfl ?_
              exact yG.mono (yG.sub (i_6 (a1) (a3 + 1)     (by omega) (by omega) (by omega) (by omega) (by omega)) (ySub.cons rfl (ySub.cons rfl (ySub.cons rfl (ySub.nil))))) (by omega)
            · have c11 : (z10 : Int) ≥ 0 := c11
              refine yG.load xak rfl (fun _ _ => rfl) (v := yR k0) rfl rfl ?_
              refine yG.getS9 A_hp.1 (w_M_backupAt W H_k0) q_r8 rfl rfl ?_
              refine yG.load xik rfl (fun _ _ => rfl) (v := yI (a3)) rfl rfl ?_
              refine yG.lald A_hp.1 (v_M_backupAt W H_r8) rfl (by omega) (by omega) (fun z12 e_z12 i_z12 l_z12 u_z12 => ?_)
              rw [show (z12 : Int) = z9 by omega]
              refine yG.load xlk2 rfl (fun _ _ => rfl) (v := yJ (a1)) rfl rfl ?_
              refine yG.lcmp rfl ⟨by omega, by omega⟩ ⟨by omega, by omega⟩ (fun z13 e_z13 => ?_)
              refine yG.ifz rfl (t := 80) rfl ⟨by omega, by omega⟩ (fun c14 => ?_) (fun c14 => ?_)
              · have c14 : (z13 : Int) ≥ 0 := c14
                refine yG.load xlk2 rfl (fun _ _ => rfl) (v := yJ (a1)) rfl rfl ?_
                refine yG.store2 xlk2 (L' := [(1, yJ (a1)), (0, yR k0), (3, yI (a3))]) rfl (fun _ _ => rfl) rfl rfl ?_
                refine yG.iinc rfl (a := a3) rfl (L' := [(3, yI (a3 + 1)), (1, yJ (a1)), (0, yR k0)]) rfl ?_
                refine yG.goto rfl (t := 6) rfl ?_
                exact yG.mono (yG.sub (i_6 (a1) (a3 + 1)     (by omega) (by omega) (by omega) (by omega) (by omega)) (ySub.cons rfl (ySub.cons rfl (ySub.cons rfl (ySub.nil))))) (by omega)
              · have c14 : (z13 : Int) < 0 := c14
                refine yG.load xak rfl (fun _ _ => rfl) (v := yR k0) rfl rfl ?_
                refine yG.getS9 A_hp.1 (w_M_backupAt W H_k0) q_r8 rfl rfl ?_
                refine yG.load xik rfl (fun _ _ => rfl) (v := yI (a3)) rfl rfl ?_
                refine yG.lald A_hp.1 (v_M_backupAt W H_r8) rfl (by omega) (by omega) (fun z15 e_z15 i_z15 l_z15 u_z15 => ?_)
                rw [show (z15 : Int) = z9 by omega]
                refine yG.goto rfl (t := 81) rfl ?_
                refine yG.store2 xlk2 (L' := [(1, yJ (z9)), (0, yR k0), (3, yI (a3))]) rfl (fun _ _ => rfl) rfl rfl ?_
                refine yG.iinc rfl (a := a3) rfl (L' := [(3, yI (a3 + 1)), (1, yJ (z9)), (0, yR k0)]) rfl ?_
                refine yG.goto rfl (t := 6) rfl ?_
                exact yG.mono (yG.sub (i_6 (z9) (a3 + 1)     (by omega) (by omega) (by omega) (by omega) (by omega)) (ySub.cons rfl (ySub.cons rfl (ySub.cons rfl (ySub.nil))))) (by omega)
          · have c7 : (z6 : Int) ≥ 0 := c7
            refine yG.load xak rfl (fun _ _ => rfl) (v := yR k0) rfl rfl ?_
            refine yG.getS9 A_hp.1 (w_M_opensAt W H_k0) q_r4 rfl rfl ?_
            refine yG.load xik rfl (fun _ _ => rfl) (v := yI (a3)) rfl rfl ?_
            refine yG.lald A_hp.1 (v_M_opensAt W H_r4) rfl (by omega) (by omega) (fun z16 e_z16 i_z16 l_z16 u_z16 => ?_)
            rw [show (z16 : Int) = z5 by omega]
            refine yG.load xlk2 rfl (fun _ _ => rfl) (v := yJ (a1)) rfl rfl ?_
            refine yG.lcmp rfl ⟨by omega, by omega⟩ ⟨by omega, by omega⟩ (fun z17 e_z17 => ?_)
            refine yG.ifz rfl (t := 47) rfl ⟨by omega, by omega⟩ (fun c18 => ?_) (fun c18 => ?_)
            · have c18 : (z17 : Int) ≥ 0 := c18
              refine yG.load xlk2 rfl (fun _ _ => rfl) (v := yJ (a1)) rfl rfl ?_
              refine yG.store2 xlk2 (L' := [(1, yJ (a1)), (0, yR k0), (3, yI (a3))]) rfl (fun _ _ => rfl) rfl rfl ?_
              refine yG.load xak rfl (fun _ _ => rfl) (v := yR k0) rfl rfl ?_
              refine yG.getO A_hp.1 (w_M_backupAt W H_k0) rfl rfl (fun r19 H_r19 O_r19 q_r19 => ?_)
              refine yG.load xik rfl (fun _ _ => rfl) (v := yI (a3)) rfl rfl ?_
              refine yG.lald A_hp.1 (v_M_backupAt W H_r19) rfl (by omega) (by omega) (fun z20 e_z20 i_z20 l_z20 u_z20 => ?_)
              refine yG.numl (c := 0) rfl (fun _ _ => rfl) (by decide) ?_
              refine yG.lcmp rfl ⟨by omega, by omega⟩ ⟨by omega, by omega⟩ (fun z21 e_z21 => ?_)
              refine yG.ifz rfl (t := 80) rfl ⟨by omega, by omega⟩ (fun c22 => ?_) (fun c22 => ?_)
              · have c22 : (z21 : Int) < 0 := c22
                refine yG.load xlk2 rfl (fun _ _ => rfl) (v := yJ (a1)) rfl rfl ?_
                refine yG.store2 xlk2 (L' := [(1, yJ (a1)), (0, yR k0), (3, yI (a3))]) rfl (fun _ _ => rfl) rfl rfl ?_
                refine yG.iinc rfl (a := a3) rfl (L' := [(3, yI (a3 + 1)), (1, yJ (a1)), (0, yR k0)]) rfl ?_
                refine yG.goto rfl (t := 6) rfl ?_
                exact yG.mono (yG.sub (i_6 (a1) (a3 + 1)     (by omega) (by omega) (by omega) (by omega) (by omega)) (ySub.cons rfl (ySub.cons rfl (ySub.cons rfl (ySub.nil))))) (by omega)
              · have c22 : (z21 : Int) ≥ 0 := c22
                refine yG.load xak rfl (fun _ _ => rfl) (v := yR k0) rfl rfl ?_
                refine yG.getS9 A_hp.1 (w_M_backupAt W H_k0) q_r19 rfl rfl ?_
                refine yG.load xik rfl (fun _ _ => rfl) (v := yI (a3)) rfl rfl ?_
                refine yG.lald A_hp.1 (v_M_backupAt W H_r19) rfl (by omega) (by omega) (fun z23 e_z23 i_z23 l_z23 u_z23 => ?_)
                rw [show (z23 : Int) = z20 by omega]
                refine yG.load xlk2 rfl (fun _ _ => rfl) (v := yJ (a1)) rfl rfl ?_
                refine yG.lcmp rfl ⟨by omega, by omega⟩ ⟨by omega, by omega⟩ (fun z24 e_z24 => ?_)
                refine yG.ifz rfl (t := 80) rfl ⟨by omega, by omega⟩ (fun c25 => ?_) (fun c25 => ?_)
                · have c25 : (z24 : Int) ≥ 0 := c25
                  refine yG.load xlk2 rfl (fun _ _ => rfl) (v := yJ (a1)) rfl rfl ?_
                  refine yG.store2 xlk2 (L' := [(1, yJ (a1)), (0, yR k0), (3, yI (a3))]) rfl (fun _ _ => rfl) rfl rfl ?_
                  refine yG.iinc rfl (a := a3) rfl (L' := [(3, yI (a3 + 1)), (1, yJ (a1)), (0, yR k0)]) rfl ?_
                  refine yG.goto rfl (t := 6) rfl ?_
                  exact yG.mono (yG.sub (i_6 (a1) (a3 + 1)     (by omega) (by omega) (by omega) (by omega) (by omega)) (ySub.cons rfl (ySub.cons rfl (ySub.cons rfl (ySub.nil))))) (by omega)
                · have c25 : (z24 : Int) < 0 := c25
                  refine yG.load xak rfl (fun _ _ => rfl) (v := yR k0) rfl rfl ?_
                  refine yG.getS9 A_hp.1 (w_M_backupAt W H_k0) q_r19 rfl rfl ?_
                  refine yG.load xik rfl (fun _ _ => rfl) (v := yI (a3)) rfl rfl ?_
                  refine yG.lald A_hp.1 (v_M_backupAt W H_r19) rfl (by omega) (by omega) (fun z26 e_z26 i_z26 l_z26 u_z26 => ?_)
                  rw [show (z26 : Int) = z20 by omega]
                  refine yG.goto rfl (t := 81) rfl ?_
                  refine yG.store2 xlk2 (L' := [(1, yJ (z20)), (0, yR k0), (3, yI (a3))]) rfl (fun _ _ => rfl) rfl rfl ?_
                  refine yG.iinc rfl (a := a3) rfl (L' := [(3, yI (a3 + 1)), (1, yJ (z20)), (0, yR k0)]) rfl ?_
                  refine yG.goto rfl (t := 6) rfl ?_
                  exact yG.mono (yG.sub (i_6 (z20) (a3 + 1)     (by omega) (by omega) (by omega) (by omega) (by omega)) (ySub.cons rfl (ySub.cons rfl (ySub.cons rfl (ySub.nil))))) (by omega)
            · have c18 : (z17 : Int) < 0 := c18
              refine yG.load xak rfl (fun _ _ => rfl) (v := yR k0) rfl rfl ?_
              refine yG.getS9 A_hp.1 (w_M_opensAt W H_k0) q_r4 rfl rfl ?_
              refine yG.load xik rfl (fun _ _ => rfl) (v := yI (a3)) rfl rfl ?_
              refine yG.lald A_hp.1 (v_M_opensAt W H_r4) rfl (by omega) (by omega) (fun z27 e_z27 i_z27 l_z27 u_z27 => ?_)
              rw [show (z27 : Int) = z5 by omega]
              refine yG.goto rfl (t := 48) rfl ?_
              refine yG.store2 xlk2 (L' := [(1, yJ (z5)), (0, yR k0), (3, yI (a3))]) rfl (fun _ _ => rfl) rfl rfl ?_
              refine yG.load xak rfl (fun _ _ => rfl) (v := yR k0) rfl rfl ?_
              refine yG.getO A_hp.1 (w_M_backupAt W H_k0) rfl rfl (fun r28 H_r28 O_r28 q_r28 => ?_)
              refine yG.load xik rfl (fun _ _ => rfl) (v := yI (a3)) rfl rfl ?_
              refine yG.lald A_hp.1 (v_M_backupAt W H_r28) rfl (by omega) (by omega) (fun z29 e_z29 i_z29 l_z29 u_z29 => ?_)
              refine yG.numl (c := 0) rfl (fun _ _ => rfl) (by decide) ?_
              refine yG.lcmp rfl ⟨by omega, by omega⟩ ⟨by omega, by omega⟩ (fun z30 e_z30 => ?_)
              refine yG.ifz rfl (t := 80) rfl ⟨by omega, by omega⟩ (fun c31 => ?_) (fun c31 => ?_)
              · have c31 : (z30 : Int) < 0 := c31
                refine yG.load xlk2 rfl (fun _ _ => rfl) (v := yJ (z5)) rfl rfl ?_
                refine yG.store2 xlk2 (L' := [(1, yJ (z5)), (0, yR k0), (3, yI (a3))]) rfl (fun _ _ => rfl) rfl rfl ?_
                refine yG.iinc rfl (a := a3) rfl (L' := [(3, yI (a3 + 1)), (1, yJ (z5)), (0, yR k0)]) rfl ?_
                refine yG.goto rfl (t := 6) rfl ?_
                exact yG.mono (yG.sub (i_6 (z5) (a3 + 1)     (by omega) (by omega) (by omega) (by omega) (by omega)) (ySub.cons rfl (ySub.cons rfl (ySub.cons rfl (ySub.nil))))) (by omega)
              · have c31 : (z30 : Int) ≥ 0 := c31
                refine yG.load xak rfl (fun _ _ => rfl) (v := yR k0) rfl rfl ?_
                refine yG.getS9 A_hp.1 (w_M_backupAt W H_k0) q_r28 rfl rfl ?_
                refine yG.load xik rfl (fun _ _ => rfl) (v := yI (a3)) rfl rfl ?_
                refine yG.lald A_hp.1 (v_M_backupAt W H_r28) rfl (by omega) (by omega) (fun z32 e_z32 i_z32 l_z32 u_z32 => ?_)
                rw [show (z32 : Int) = z29 by omega]
                refine yG.load xlk2 rfl (fun _ _ => rfl) (v := yJ (z5)) rfl rfl ?_
                refine yG.lcmp rfl ⟨by omega, by omega⟩ ⟨by omega, by omega⟩ (fun z33 e_z33 => ?_)
                refine yG.ifz rfl (t := 80) rfl ⟨by omega, by omega⟩ (fun c34 => ?_) (fun c34 => ?_)
                · have c34 : (z33 : Int) ≥ 0 := c34
                  refine yG.load xlk2 rfl (fun _ _ => rfl) (v := yJ (z5)) rfl rfl ?_
                  refine yG.store2 xlk2 (L' := [(1, yJ (z5)), (0, yR k0), (3, yI (a3))]) rfl (fun _ _ => rfl) rfl rfl ?_
                  refine yG.iinc rfl (a := a3) rfl (L' := [(3, yI (a3 + 1)), (1, yJ (z5)), (0, yR k0)]) rfl ?_
                  refine yG.goto rfl (t := 6) rfl ?_
                  exact yG.mono (yG.sub (i_6 (z5) (a3 + 1)     (by omega) (by omega) (by omega) (by omega) (by omega)) (ySub.cons rfl (ySub.cons rfl (ySub.cons rfl (ySub.nil))))) (by omega)
                · have c34 : (z33 : Int) < 0 := c34
                  refine yG.load xak rfl (fun _ _ => rfl) (v := yR k0) rfl rfl ?_
                  refine yG.getS9 A_hp.1 (w_M_backupAt W H_k0) q_r28 rfl rfl ?_
                  refine yG.load xik rfl (fun _ _ => rfl) (v := yI (a3)) rfl rfl ?_
                  refine yG.lald A_hp.1 (v_M_backupAt W H_r28) rfl (by omega) (by omega) (fun z35 e_z35 i_z35 l_z35 u_z35 => ?_)
                  rw [show (z35 : Int) = z29 by omega]
                  refine yG.goto rfl (t := 81) rfl ?_
                  refine yG.store2 xlk2 (L' := [(1, yJ (z29)), (0, yR k0), (3, yI (a3))]) rfl (fun _ _ => rfl) rfl rfl ?_
                  refine yG.iinc rfl (a := a3) rfl (L' := [(3, yI (a3 + 1)), (1, yJ (z29)), (0, yR k0)]) rfl ?_
                  refine yG.goto rfl (t := 6) rfl ?_
                  exact yG.mono (yG.sub (i_6 (z29) (a3 + 1)     (by omega) (by omega) (by omega) (by omega) (by omega)) (ySub.cons rfl (ySub.cons rfl (ySub.cons rfl (ySub.nil))))) (by omega)
      · intro a1 a3 f0 f1 f2 f3 hm
        refine yG.mono (N := 50 * m + 50) ?_ (by omega)
        refine yG.load xik rfl (fun _ _ => rfl) (v := yI (a3)) rfl rfl ?_
        refine yG.load xak rfl (fun _ _ => rfl) (v := yR k0) rfl rfl ?_
        refine yG.getI A_hp.1 (w_M_relays W H_k0) rfl rfl (fun z1 e_z1 i_z1 l_z1 u_z1 => ?_)
        refine yG.icmp rfl (t := 174) rfl ⟨by omega, by omega⟩ ⟨by omega, by omega⟩ (fun c2 => ?_) (fun c2 => ?_)
        · have c2 : (a3 : Int) ≥ z1 := c2
          refine yG.load xlk2 rfl (fun _ _ => rfl) (v := yJ (a1)) rfl rfl ?_
          refine yG.ret rfl (fun _ _ => rfl) ?_
          exact (yP.long ⟨by omega, by omega⟩ ⟨⟨a1, rfl, by omega, by omega, trivial⟩, rfl⟩)
        · have c2 : (a3 : Int) < z1 := c2
          refine yG.num (c := 0) rfl (fun _ _ => rfl) (by decide) ?_
          refine yG.store1 xik (L' := [(4, yI (0)), (0, yR k0), (1, yJ (a1)), (3, yI (a3))]) rfl (fun _ _ => rfl) rfl rfl ?_
          exact yG.mono (yG.sub (i_101 (a1) (a3) (0)     (by omega) (by omega) (by omega) (by omega) (by omega) (by omega) (by omega)) (ySub.cons rfl (ySub.cons rfl (ySub.cons rfl (ySub.cons rfl (ySub.nil)))))) (by omega)
      · intro a1 a3 a4 f0 f1 f2 f3 f4 f5 hm
        refine yG.mono (N := 50 * m + 50) ?_ (by omega)
        refine yG.load xik rfl (fun _ _ => rfl) (v := yI (a4)) rfl rfl ?_
        refine yG.load xak rfl (fun _ _ => rfl) (v := yR k0) rfl rfl ?_
        refine yG.getO A_hp.1 (w_M_rowCount W H_k0) rfl rfl (fun r1 H_r1 O_r1 q_r1 => ?_)
        refine yG.load xik rfl (fun _ _ => rfl) (v := yI (a3)) rfl rfl ?_
        refine yG.iald A_hp.1 (v_M_rowCount W H_r1) rfl (by omega) (by omega) (fun z2 e_z2 i_z2 l_z2 u_z2 => ?_)
        refine yG.icmp rfl (t := 168) rfl ⟨by omega, by omega⟩ ⟨by omega, by omega⟩ (fun c3 => ?_) (fun c3 => ?_)
        · have c3 : (a4 : Int) ≥ z2 := c3
          refine yG.iinc rfl (a := a3) rfl (L' := [(3, yI (a3 + 1)), (0, yR k0), (1, yJ (a1)), (4, yI (a4))]) rfl ?_
          refine yG.goto rfl (t := 90) rfl ?_
          exact yG.mono (yG.sub (i_90 (a1) (a3 + 1)     (by omega) (by omega) (by omega) (by omega) (by omega)) (ySub.cons rfl (ySub.cons rfl (ySub.cons rfl (ySub.nil))))) (by omega)
        · have c3 : (a4 : Int) < z2 := c3
          refine yG.load xak rfl (fun _ _ => rfl) (v := yR k0) rfl rfl ?_
          refine yG.getO A_hp.1 (w_M_since W H_k0) rfl rfl (fun r4 H_r4 O_r4 q_r4 => ?_)
          refine yG.num (c := 4) rfl (fun _ _ => rfl) (by decide) ?_
          refine yG.load xik rfl (fun _ _ => rfl) (v := yI (a3)) rfl rfl ?_
          refine yG.imul rfl ?_
          refine yG.load xik rfl (fun _ _ => rfl) (v := yI (a4)) rfl rfl ?_
          refine yG.iadd rfl ?_
          refine yG.lald A_hp.1 (v_M_since W H_r4) rfl (by omega) (by omega) (fun z5 e_z5 i_z5 l_z5 u_z5 => ?_)
          refine yG.load xak rfl (fun _ _ => rfl) (v := yR k0) rfl rfl ?_
          refine yG.getO A_hp.1 (w_M_delay W H_k0) rfl rfl (fun r6 H_r6 O_r6 q_r6 => ?_)
          refine yG.num (c := 4) rfl (fun _ _ => rfl) (by decide) ?_
          refine yG.load xik rfl (fun _ _ => rfl) (v := yI (a3)) rfl rfl ?_
          refine yG.imul rfl ?_
          refine yG.load xik rfl (fun _ _ => rfl) (v := yI (a4)) rfl rfl ?_
          refine yG.iadd rfl ?_
          refine yG.iald A_hp.1 (v_M_delay W H_r6) rfl (by omega) (by omega) (fun z7 e_z7 i_z7 l_z7 u_z7 => ?_)
          refine yG.i2l rfl ⟨by omega, by omega⟩ ?_
          refine yG.ladd rfl ?_
          obtain ⟨z8, e_z8⟩ : ∃ z : Int, z = z5 + z7 := ⟨_, rfl⟩
          rw [← e_z8]
          refine yG.store2 xlk2 (L' := [(5, yJ (z8)), (0, yR k0), (1, yJ (a1)), (3, yI (a3)), (4, yI (a4))]) rfl (fun _ _ => rfl) rfl rfl ?_
          refine yG.load xak rfl (fun _ _ => rfl) (v := yR k0) rfl rfl ?_
          refine yG.load xik rfl (fun _ _ => rfl) (v := yI (a3)) rfl rfl ?_
          refine yG.load xik rfl (fun _ _ => rfl) (v := yI (a4)) rfl rfl ?_
          refine yG.invV (rest := []) A_hp.1 (bOb (d_M W) H_k0) rfl rfl rfl rfl (c_GModel_isDue W d A_hp.1 H_k0 (a3) (a4) (by omega) (by omega) (by omega) (by omega)) (fun rv hp9 q9 => ?_)
          obtain ⟨⟨z9, rfl, l_z9, u_z9, R_z9⟩, e9⟩ := q9
          rw [e9]
          show yG _ _ _ _ _ _ _ _ _ _ (yI z9 :: []) _
          refine yG.ifz rfl (t := 160) rfl ⟨by omega, by omega⟩ (fun c10 => ?_) (fun c10 => ?_)
          · have c10 : (z9 : Int) = 0 := c10
            refine yG.load xlk2 rfl (fun _ _ => rfl) (v := yJ (a1)) rfl rfl ?_
            refine yG.store2 xlk2 (L' := [(1, yJ (a1)), (5, yJ (z8)), (0, yR k0), (3, yI (a3)), (4, yI (a4))]) rfl (fun _ _ => rfl) rfl rfl ?_
            refine yG.iinc rfl (a := a4) rfl (L' := [(4, yI (a4 + 1)), (1, yJ (a1)), (5, yJ (z8)), (0, yR k0), (3, yI (a3))]) rfl ?_
            refine yG.goto rfl (t := 101) rfl ?_
            exact yG.mono (yG.sub (i_101 (a1) (a3) (a4 + 1)     (by omega) (by omega) (by omega) (by omega) (by omega) (by omega) (by omega)) (ySub.cons rfl (ySub.cons rfl (ySub.cons rfl (ySub.cons rfl (ySub.nil)))))) (by omega)
          · have c10 : (z9 : Int) ≠ 0 := c10
            refine yG.load xlk2 rfl (fun _ _ => rfl) (v := yJ (z8)) rfl rfl ?_
            refine yG.load xlk2 rfl (fun _ _ => rfl) (v := yJ (a1)) rfl rfl ?_
            refine yG.lcmp rfl ⟨by omega, by omega⟩ ⟨by omega, by omega⟩ (fun z11 e_z11 => ?_)
            refine yG.ifz rfl (t := 160) rfl ⟨by omega, by omega⟩ (fun c12 => ?_) (fun c12 => ?_)
            · have c12 : (z11 : Int) ≥ 0 := c12
              refine yG.load xlk2 rfl (fun _ _ => rfl) (v := yJ (a1)) rfl rfl ?_
              refine yG.store2 xlk2 (L' := [(1, yJ (a1)), (5, yJ (z8)), (0, yR k0), (3, yI (a3)), (4, yI (a4))]) rfl (fun _ _ => rfl) rfl rfl ?_
              refine yG.iinc rfl (a := a4) rfl (L' := [(4, yI (a4 + 1)), (1, yJ (a1)), (5, yJ (z8)), (0, yR k0), (3, yI (a3))]) rfl ?_
              refine yG.goto rfl (t := 101) rfl ?_
              exact yG.mono (yG.sub (i_101 (a1) (a3) (a4 + 1)     (by omega) (by omega) (by omega) (by omega) (by omega) (by omega) (by omega)) (ySub.cons rfl (ySub.cons rfl (ySub.cons rfl (ySub.cons rfl (ySub.nil)))))) (by omega)
            · have c12 : (z11 : Int) < 0 := c12
              refine yG.load xlk2 rfl (fun _ _ => rfl) (v := yJ (z8)) rfl rfl ?_
              refine yG.goto rfl (t := 161) rfl ?_
              refine yG.store2 xlk2 (L' := [(1, yJ (z8)), (5, yJ (z8)), (0, yR k0), (3, yI (a3)), (4, yI (a4))]) rfl (fun _ _ => rfl) rfl rfl ?_
              refine yG.iinc rfl (a := a4) rfl (L' := [(4, yI (a4 + 1)), (1, yJ (z8)), (5, yJ (z8)), (0, yR k0), (3, yI (a3))]) rfl ?_
              refine yG.goto rfl (t := 101) rfl ?_
              exact yG.mono (yG.sub (i_101 (z8) (a3) (a4 + 1)     (by omega) (by omega) (by omega) (by omega) (by omega) (by omega) (by omega)) (ySub.cons rfl (ySub.cons rfl (ySub.cons rfl (ySub.cons rfl (ySub.nil)))))) (by omega)
  refine yC.of (M := (xt_X13_nextTime, (7, (2, (14, []))))) rfl rfl (N := 235100) (yfuel (by decide)) ?_
  show yG 89 xfts (xcall 89 xfts xpools xms (d + 1)) (xpool xp_RX13) [] xt_X13_nextTime (yP 2 (bQpj hp (-1) 9223372036854775807 (fun _ => True))) 235100 0 [(0, yR k0)] [] hp
  obtain ⟨i_6, i_90, i_101⟩ := H 4701
  refine yG.numl (c := 9223372036854775807) rfl (fun _ _ => rfl) (by decide) ?_
  refine yG.store2 xlk2 (L' := [(1, yJ (9223372036854775807)), (0, yR k0)]) rfl (fun _ _ => rfl) rfl rfl ?_
  refine yG.num (c := 0) rfl (fun _ _ => rfl) (by decide) ?_
  refine yG.store1 xik (L' := [(3, yI (0)), (1, yJ (9223372036854775807)), (0, yR k0)]) rfl (fun _ _ => rfl) rfl rfl ?_
  exact yG.mono (yG.sub (i_6 (9223372036854775807) (0)     (by omega) (by omega) (by omega) (by omega) (by omega)) (ySub.cons rfl (ySub.cons rfl (ySub.cons rfl (ySub.nil))))) (by omega)
theorem c_GModel_turns {hp : xH} (W : mW G) (d : Nat) (hT : zTy G hp) {k0 : Nat} (H_k0 : bRo G 116 k0) (p1 : Int) (h1l : 0 ≤ p1) (h1u : p1 ≤ 5) : yC (xcall 89 xfts xpools xms (d + 3)) 536 [yR k0, yI (p1)] hp (bQpi hp 0 1 (fun _ => True)) := by
  have A_hp : bAx G [] hp hp := bAx.rf hT
  refine yC.of (M := (xt_X13_turns, (3, (4, (14, []))))) rfl rfl (N := 129) (yfuel (by decide)) ?_
  show yG 89 xfts (xcall 89 xfts xpools xms (d + 2)) (xpool xp_RX13) [] xt_X13_turns (yP 4 (bQpi hp 0 1 (fun _ => True))) 129 0 [(0, yR k0), (1, yI (p1))] [] hp
  refine yG.load xak rfl (fun _ _ => rfl) (v := yR k0) rfl rfl ?_
  refine yG.getO A_hp.1 (w_M_machineAt W H_k0) rfl rfl (fun r1 H_r1 O_r1 q_r1 => ?_)
  refine yG.load xik rfl (fun _ _ => rfl) (v := yI (p1)) rfl rfl ?_
  refine yG.iald A_hp.1 (v_M_machineAt W H_r1) rfl (by omega) (by omega) (fun z2 e_z2 i_z2 l_z2 u_z2 => ?_)
  refine yG.store1 xik (L' := [(2, yI (z2)), (0, yR k0), (1, yI (p1))]) rfl (fun _ _ => rfl) rfl rfl ?_
  refine yG.load xak rfl (fun _ _ => rfl) (v := yR k0) rfl rfl ?_
  refine yG.num (c := 3) rfl (fun _ _ => rfl) (by decide) ?_
  refine yG.load xik rfl (fun _ _ => rfl) (v := yI (z2)) rfl rfl ?_
  refine yG.num (c := 7) rfl (fun _ _ => rfl) (by decide) ?_
  refine yG.invV (rest := []) A_hp.1 (bOb (d_M W) H_k0) rfl rfl rfl rfl (c_GModel_of_3_7 W d A_hp.1 H_k0 (z2) (by omega) (by omega)) (fun rv hp9 q9 => ?_)
  obtain ⟨⟨z3, rfl, l_z3, u_z3, R_z3⟩, e9⟩ := q9
  rw [e9]
  show yG _ _ _ _ _ _ _ _ _ _ (yI z3 :: []) _
  refine yG.load xak rfl (fun _ _ => rfl) (v := yR k0) rfl rfl ?_
  refine yG.num (c := 3) rfl (fun _ _ => rfl) (by decide) ?_
  refine yG.load xik rfl (fun _ _ => rfl) (v := yI (z2)) rfl rfl ?_
  refine yG.num (c := 4) rfl (fun _ _ => rfl) (by decide) ?_
  refine yG.invV (rest := [yI (z3)]) A_hp.1 (bOb (d_M W) H_k0) rfl rfl rfl rfl (c_GModel_of_3_4 W d A_hp.1 H_k0 (z2) (by omega) (by omega)) (fun rv hp9 q9 => ?_)
  obtain ⟨⟨z4, rfl, l_z4, u_z4, R_z4⟩, e9⟩ := q9
  rw [e9]
  show yG _ _ _ _ _ _ _ _ _ _ (yI z4 :: [yI (z3)]) _
  refine yG.icmp rfl (t := 66) rfl ⟨by omega, by omega⟩ ⟨by omega, by omega⟩ (fun c5 => ?_) (fun c5 => ?_)
  · have c5 : (z3 : Int) ≤ z4 := c5
    refine yG.num (c := 0) rfl (fun _ _ => rfl) (by decide) ?_
    refine yG.ret rfl (fun _ _ => rfl) ?_
    exact (yP.bool (by omega) ⟨⟨0, rfl, by omega, by omega, trivial⟩, rfl⟩)
  · have c5 : (z3 : Int) > z4 := c5
    refine yG.load xak rfl (fun _ _ => rfl) (v := yR k0) rfl rfl ?_
    refine yG.num (c := 3) rfl (fun _ _ => rfl) (by decide) ?_
    refine yG.load xik rfl (fun _ _ => rfl) (v := yI (z2)) rfl rfl ?_
    refine yG.num (c := 7) rfl (fun _ _ => rfl) (by decide) ?_
    refine yG.invV (rest := []) A_hp.1 (bOb (d_M W) H_k0) rfl rfl rfl rfl (c_GModel_of_3_7 W d A_hp.1 H_k0 (z2) (by omega) (by omega)) (fun rv hp9 q9 => ?_)
    obtain ⟨⟨z6, rfl, l_z6, u_z6, R_z6⟩, e9⟩ := q9
    rw [e9]
    show yG _ _ _ _ _ _ _ _ _ _ (yI z6 :: []) _
    refine yG.load xak rfl (fun _ _ => rfl) (v := yR k0) rfl rfl ?_
    refine yG.num (c := 3) rfl (fun _ _ => rfl) (by decide) ?_
    refine yG.load xik rfl (fun _ _ => rfl) (v := yI (z2)) rfl rfl ?_
    refine yG.num (c := 5) rfl (fun _ _ => rfl) (by decide) ?_
    refine yG.invV (rest := [yI (z6)]) A_hp.1 (bOb (d_M W) H_k0) rfl rfl rfl rfl (c_GModel_of_3_5 W d A_hp.1 H_k0 (z2) (by omega) (by omega)) (fun rv hp9 q9 => ?_)
    obtain ⟨⟨z7, rfl, l_z7, u_z7, R_z7⟩, e9⟩ := q9
    rw [e9]
    show yG _ _ _ _ _ _ _ _ _ _ (yI z7 :: [yI (z6)]) _
    refine yG.icmp rfl (t := 66) rfl ⟨by omega, by omega⟩ ⟨by omega, by omega⟩ (fun c8 => ?_) (fun c8 => ?_)
    · have c8 : (z6 : Int) ≥ z7 := c8
      refine yG.num (c := 0) rfl (fun _ _ => rfl) (by decide) ?_
      refine yG.ret rfl (fun _ _ => rfl) ?_
      exact (yP.bool (by omega) ⟨⟨0, rfl, by omega, by omega, trivial⟩, rfl⟩)
    · have c8 : (z6 : Int) < z7 := c8
      refine yG.load xak rfl (fun _ _ => rfl) (v := yR k0) rfl rfl ?_
      refine yG.num (c := 3) rfl (fun _ _ => rfl) (by decide) ?_
      refine yG.load xik rfl (fun _ _ => rfl) (v := yI (z2)) rfl rfl ?_
      refine yG.num (c := 8) rfl (fun _ _ => rfl) (by decide) ?_
      refine yG.invV (rest := []) A_hp.1 (bOb (d_M W) H_k0) rfl rfl rfl rfl (c_GModel_of_3_8 W d A_hp.1 H_k0 (z2) (by omega) (by omega)) (fun rv hp9 q9 => ?_)
      obtain ⟨⟨z9, rfl, l_z9, u_z9, R_z9⟩, e9⟩ := q9
      rw [e9]
      show yG _ _ _ _ _ _ _ _ _ _ (yI z9 :: []) _
      refine yG.load xak rfl (fun _ _ => rfl) (v := yR k0) rfl rfl ?_
      refine yG.num (c := 3) rfl (fun _ _ => rfl) (by decide) ?_
      refine yG.load xik rfl (fun _ _ => rfl) (v := yI (z2)) rfl rfl ?_
      refine yG.num (c := 6) rfl (fun _ _ => rfl) (by decide) ?_
      refine yG.invV (rest := [yI (z9)]) A_hp.1 (bOb (d_M W) H_k0) rfl rfl rfl rfl (c_GModel_of_3_6 W d A_hp.1 H_k0 (z2) (by omega) (by omega)) (fun rv hp9 q9 => ?_)
      obtain ⟨⟨z10, rfl, l_z10, u_z10, R_z10⟩, e9⟩ := q9
      rw [e9]
      show yG _ _ _ _ _ _ _ _ _ _ (yI z10 :: [yI (z9)]) _
      refine yG.icmp rfl (t := 66) rfl ⟨by omega, by omega⟩ ⟨by omega, by omega⟩ (fun c11 => ?_) (fun c11 => ?_)
      · have c11 : (z9 : Int) ≤ z10 := c11
        refine yG.num (c := 0) rfl (fun _ _ => rfl) (by decide) ?_
        refine yG.ret rfl (fun _ _ => rfl) ?_
        exact (yP.bool (by omega) ⟨⟨0, rfl, by omega, by omega, trivial⟩, rfl⟩)
      · have c11 : (z9 : Int) > z10 := c11
        refine yG.num (c := 1) rfl (fun _ _ => rfl) (by decide) ?_
        refine yG.goto rfl (t := 67) rfl ?_
        refine yG.ret rfl (fun _ _ => rfl) ?_
        exact (yP.bool (by omega) ⟨⟨1, rfl, by omega, by omega, trivial⟩, rfl⟩)
theorem c_GModel_inverse_ {hp : xH} (W : mW G) (d : Nat) (hT : zTy G hp) {k0 : Nat} (H_k0 : bRo G 116 k0) (p1 : Int) (h1l : (-9223372036854775808) ≤ p1) (h1u : p1 ≤ 9223372036854775807) (q0l : 1 ≤ ys hp k0 11) (q0u : ys hp k0 11 ≤ 2147483647) : yC (xcall 89 xfts xpools xms (d + 2)) 420 [yR k0, yJ (p1)] hp (bQpj hp 0 2147483646 (fun _ => True)) := by
  have A_hp : bAx G [] hp hp := bAx.rf hT
  refine yC.of (M := (xt_X13_inverse_, (3, (2, (14, []))))) rfl rfl (N := 30) (yfuel (by decide)) ?_
  show yG 89 xfts (xcall 89 xfts xpools xms (d + 1)) (xpool xp_RX13) [] xt_X13_inverse_ (yP 2 (bQpj hp 0 2147483646 (fun _ => True))) 30 0 [(0, yR k0), (1, yJ (p1))] [] hp
  obtain ⟨gg0, E_0⟩ : ∃ z : Int, ys hp k0 11 = z := ⟨_, rfl⟩
  obtain ⟨-, -, g_0l, g_0u⟩ := (w_M_p W H_k0).long hT
  refine yG.load xak rfl (fun _ _ => rfl) (v := yR k0) rfl rfl ?_
  refine yG.load xak rfl (fun _ _ => rfl) (v := yR k0) rfl rfl ?_
  refine yG.load xlk2 rfl (fun _ _ => rfl) (v := yJ (p1)) rfl rfl ?_
  refine yG.invV (rest := [yR k0]) A_hp.1 (bOb (d_M W) H_k0) rfl rfl rfl rfl (c_GModel_mod W d A_hp.1 H_k0 (p1) (by omega) (by omega) (by omega) (by omega)) (fun rv hp9 q9 => ?_)
  obtain ⟨⟨z1, rfl, l_z1, u_z1, R_z1⟩, e9⟩ := q9
  rw [e9]
  show yG _ _ _ _ _ _ _ _ _ _ (yJ z1 :: [yR k0]) _
  refine yG.load xak rfl (fun _ _ => rfl) (v := yR k0) rfl rfl ?_
  refine yG.getJ A_hp.1 (w_M_p W H_k0) rfl rfl (fun z2 e_z2 i_z2 l_z2 u_z2 => ?_)
  rw [show (z2 : Int) = gg0 by omega]
  refine yG.invV (rest := []) A_hp.1 (bOb (d_M W) H_k0) rfl rfl rfl rfl (c_GModel_inverse W d A_hp.1 H_k0 (z1) (gg0) (by omega) (by omega) (by omega) (by omega)) (fun rv hp9 q9 => ?_)
  obtain ⟨⟨z3, rfl, l_z3, u_z3, R_z3⟩, e9⟩ := q9
  rw [e9]
  show yG _ _ _ _ _ _ _ _ _ _ (yJ z3 :: []) _
  refine yG.ret rfl (fun _ _ => rfl) ?_
  exact (yP.long ⟨by omega, by omega⟩ ⟨⟨z3, rfl, by omega, by omega, trivial⟩, rfl⟩)
theorem c_GModel_clear {hp : xH} (W : mW G) (d : Nat) (hT : zTy G hp) {k0 : Nat} (H_k0 : bRo G 116 k0) (p1 p2 p3 p4 : Int) (h1l : 0 ≤ p1) (h1u : p1 ≤ 19) (h2l : 0 ≤ p2) (h2u : p2 ≤ 19) (h3l : 0 ≤ p3) (h3u : p3 ≤ 20) (h4l : (-1) ≤ p4) (h4u : p4 ≤ 48) (q0l : 1 ≤ ys hp k0 11) (q0u : ys hp k0 11 ≤ 2147483647) : yC (xcall 89 xfts xpools xms (d + 3)) 368 [yR k0, yI (p1), yI (p2), yI (p3), yI (p4)] hp (fun rv hp' => (rv = none ∧ True) ∧ bAx G [(85070591730234615865843651857942052864, 256)] hp hp') := by
  have A_hp : bAx G [(85070591730234615865843651857942052864, 256)] hp hp := bAx.rf hT
  have H : ∀ m : Nat, (∀ a5 : Int, ∀ a7 : Int, ∀ gg0 : Int, ∀ hq, bAx G [(85070591730234615865843651857942052864, 256)] hp hq → ys hq k0 11 = gg0 → 0 ≤ a5 → (-2147483646) ≤ 0 - a5 → 0 ≤ a7 → (-48) ≤ 0 - a7 → 1 ≤ gg0 → (-2147483647) ≤ 0 - gg0 → 0 ≤ p1 → (-19) ≤ 0 - p1 → 0 ≤ p2 → (-19) ≤ 0 - p2 → 0 ≤ p3 → (-20) ≤ 0 - p3 → (-1) ≤ p4 → (-48) ≤ 0 - p4 → (-1) ≤ 0 - a7 + p4 → 0 - 2080 * a7 + 101919 < (m : Int) → yG 89 xfts (xcall 89 xfts xpools xms (d + 2)) (xpool xp_RX13) [] xt_X13_clear (yP 0 (fun rv hp' => (rv = none ∧ True) ∧ bAx G [(85070591730234615865843651857942052864, 256)] hp hp')) (46 * m) 20 [(0, yR k0), (1, yI (p1)), (2, yI (p2)), (3, yI (p3)), (4, yI (p4)), (5, yJ (a5)), (7, yI (a7))] [] hq) ∧ (∀ a7 : Int, ∀ gg0 : Int, ∀ hq, bAx G [(85070591730234615865843651857942052864, 256)] hp hq → ys hq k0 11 = gg0 → 0 ≤ a7 → (-20) ≤ 0 - a7 → 1 ≤ gg0 → (-2147483647) ≤ 0 - gg0 → 0 ≤ p1 → (-19) ≤ 0 - p1 → 0 ≤ p2 → (-19) ≤ 0 - p2 → 0 ≤ p3 → (-20) ≤ 0 - p3 → (-1) ≤ p4 → (-48) ≤ 0 - p4 → 0 ≤ 0 - a7 + p3 → 0 - 99 * a7 + 2078 < (m : Int) → yG 89 xfts (xcall 89 xfts xpools xms (d + 2)) (xpool xp_RX13) [] xt_X13_clear (yP 0 (fun rv hp' => (rv = none ∧ True) ∧ bAx G [(85070591730234615865843651857942052864, 256)] hp hp')) (46 * m) 68 [(0, yR k0), (1, yI (p1)), (2, yI (p2)), (3, yI (p3)), (4, yI (p4)), (7, yI (a7))] [] hq) ∧ (∀ a7 : Int, ∀ a8 : Int, ∀ a10 : Int, ∀ gg0 : Int, ∀ hq, bAx G [(85070591730234615865843651857942052864, 256)] hp hq → ys hq k0 11 = gg0 → 0 ≤ a7 → (-19) ≤ 0 - a7 → 0 ≤ a8 → (-2147483647) ≤ 0 - a8 → 0 ≤ a10 → (-48) ≤ 0 - a10 → 1 ≤ gg0 → (-2147483647) ≤ 0 - gg0 → 0 ≤ p1 → (-19) ≤ 0 - p1 → 0 ≤ p2 → (-19) ≤ 0 - p2 → 1 ≤ p3 → (-20) ≤ 0 - p3 → (-1) ≤ p4 → (-48) ≤ 0 - p4 → (-47) ≤ 0 - a10 + a8 → 1 ≤ 0 - a7 + p3 → (-1) ≤ 0 - a10 + p4 → 0 - 2 * a10 - 99 * a7 + 2077 < (m : Int) → yG 89 xfts (xcall 89 xfts xpools xms (d + 2)) (xpool xp_RX13) [] xt_X13_clear (yP 0 (fun rv hp' => (rv = none ∧ True) ∧ bAx G [(85070591730234615865843651857942052864, 256)] hp hp')) (46 * m) 91 [(0, yR k0), (1, yI (p1)), (2, yI (p2)), (3, yI (p3)), (4, yI (p4)), (7, yI (a7)), (8, yJ (a8)), (10, yI (a10))] [] hq) := by
    intro m
    induction m with
    | zero =>
      refine ⟨?_, ?_, ?_⟩ <;> (intros; exfalso; omega)
    | succ m ih =>
      obtain ⟨i_20, i_68, i_91⟩ := ih
      refine ⟨?_, ?_, ?_⟩
      · intro a5 a7 gg0 hq A_hq E_0 f0 f1 f2 f3 f4 f5 f6 f7 f8 f9 f10 f11 f12 f13 f14 hm
        refine yG.mono (N := 46 * m + 46) ?_ (by omega)
        obtain ⟨-, -, g_0l, g_0u⟩ := (w_M_p W H_k0).long A_hq.1
        refine yG.load xik rfl (fun _ _ => rfl) (v := yI (a7)) rfl rfl ?_
        refine yG.load xik rfl (fun _ _ => rfl) (v := yI (p4)) rfl rfl ?_
        refine yG.icmp rfl (t := 65) rfl ⟨by omega, by omega⟩ ⟨by omega, by omega⟩ (fun c1 => ?_) (fun c1 => ?_)
        · have c1 : (a7 : Int) ≥ p4 := c1
          refine yG.num (c := 0) rfl (fun _ _ => rfl) (by decide) ?_
          refine yG.store1 xik (L' := [(7, yI (0)), (0, yR k0), (1, yI (p1)), (2, yI (p2)), (3, yI (p3)), (4, yI (p4)), (5, yJ (a5))]) rfl (fun _ _ => rfl) rfl rfl ?_
          exact yG.mono (yG.sub (i_68 (0) (ys hq k0 11) hq A_hq  rfl (by omega) (by omega) (by omega) (by omega) (by omega) (by omega) (by omega) (by omega) (by omega) (by omega) (by omega) (by omega) (by omega) (by omega)) (ySub.cons rfl (ySub.cons rfl (ySub.cons rfl (ySub.cons rfl (ySub.cons rfl (ySub.cons rfl (ySub.nil)))))))) (by omega)
        · have c1 : (a7 : Int) < p4 := c1
          refine yG.load xak rfl (fun _ _ => rfl) (v := yR k0) rfl rfl ?_
          refine yG.getO A_hq.1 (w_M_matrix W H_k0) rfl rfl (fun r2 H_r2 O_r2 q_r2 => ?_)
          refine yG.num (c := 48) rfl (fun _ _ => rfl) (by decide) ?_
          refine yG.load xik rfl (fun _ _ => rfl) (v := yI (p1)) rfl rfl ?_
          refine yG.imul rfl ?_
          refine yG.load xik rfl (fun _ _ => rfl) (v := yI (a7)) rfl rfl ?_
          refine yG.iadd rfl ?_
          refine yG.load xak rfl (fun _ _ => rfl) (v := yR k0) rfl rfl ?_
          refine yG.getS9 A_hq.1 (w_M_matrix W H_k0) q_r2 rfl rfl ?_
          refine yG.num (c := 48) rfl (fun _ _ => rfl) (by decide) ?_
          refine yG.load xik rfl (fun _ _ => rfl) (v := yI (p1)) rfl rfl ?_
          refine yG.imul rfl ?_
          refine yG.load xik rfl (fun _ _ => rfl) (v := yI (a7)) rfl rfl ?_
          refine yG.iadd rfl ?_
          refine yG.lald A_hq.1 (v_M_matrix W H_r2) rfl (by omega) (by omega) (fun z3 e_z3 i_z3 l_z3 u_z3 => ?_)
          refine yG.load xlk2 rfl (fun _ _ => rfl) (v := yJ (a5)) rfl rfl ?_
          refine yG.lmul rfl ?_
          obtain ⟨z4, e_z4⟩ : ∃ z : Int, z = z3 * a5 := ⟨_, rfl⟩
          rw [← e_z4]
          have b_z4 : 0 ≤ z4 ∧ z4 ≤ 4611686011984936962 := e_z4 ▸ ymulb (A := 2147483647) (B := 2147483646) (by omega) (by omega) (by omega) (by omega) (by decide)
          have b2_z4 : z4 ≤ 2147483647 * a5 := e_z4 ▸ bmulx (by omega) (by omega)
          have b3_z4 : z4 ≤ 2147483646 * z3 := e_z4 ▸ bmuly (by omega) (by omega)
          refine yG.load xak rfl (fun _ _ => rfl) (v := yR k0) rfl rfl ?_
          refine yG.getJ A_hq.1 (w_M_p W H_k0) rfl rfl (fun z5 e_z5 i_z5 l_z5 u_z5 => ?_)
          rw [show (z5 : Int) = gg0 by omega]
          refine yG.lrem rfl ⟨by omega, by omega⟩ ⟨by omega, by omega⟩ (by omega) (by omega) ?_
          obtain ⟨z6, e_z6⟩ : ∃ z : Int, z = (z4) % (gg0) := ⟨_, rfl⟩
          rw [← e_z6]
          have b_z6 : 0 ≤ z6 ∧ z6 < gg0 := e_z6 ▸ ⟨Int.emod_nonneg _ (by omega), Int.emod_lt_of_pos _ (by omega)⟩
          refine yG.last A_hq.1 (v_M_matrix W H_r2) (W.2.1 _ _ H_r2 (by decide) (by decide)) rfl (by omega) (by omega) ⟨by omega, by omega⟩ (by omega) (by omega) (fun h7 T_h7 b_h7 f_h7 y_h7 => ?_)
          have A_h7 := A_hq.put T_h7 b_h7 f_h7 H_r2 (bAll_ok (by decide) _)
          have : ys h7 k0 11 = ys hq k0 11 := (y_h7 k0 11).trans (if_neg (fun e => (bRo.ne H_k0 H_r2 (by decide)) e.1))
          have qq1 : zsl h7 k0 12 = yR r2 := ((f_h7 k0 12).trans (if_neg (fun e => (bRo.ne H_k0 H_r2 (by decide)) e.1))).trans q_r2
          refine yG.iinc rfl (a := a7) rfl (L' := [(7, yI (a7 + 1)), (0, yR k0), (1, yI (p1)), (2, yI (p2)), (3, yI (p3)), (4, yI (p4)), (5, yJ (a5))]) rfl ?_
          refine yG.goto rfl (t := 20) rfl ?_
          exact yG.mono (yG.sub (i_20 (a5) (a7 + 1) (ys h7 k0 11) h7 A_h7  rfl (by omega) (by omega) (by omega) (by omega) (by omega) (by omega) (by omega) (by omega) (by omega) (by omega) (by omega) (by omega) (by omega) (by omega) (by omega) (by omega)) (ySub.cons rfl (ySub.cons rfl (ySub.cons rfl (ySub.cons rfl (ySub.cons rfl (ySub.cons rfl (ySub.cons rfl (ySub.nil))))))))) (by omega)
      · intro a7 gg0 hq A_hq E_0 f0 f1 f2 f3 f4 f5 f6 f7 f8 f9 f10 f11 f12 hm
        refine yG.mono (N := 46 * m + 46) ?_ (by omega)
        obtain ⟨-, -, g_0l, g_0u⟩ := (w_M_p W H_k0).long A_hq.1
        refine yG.load xik rfl (fun _ _ => rfl) (v := yI (a7)) rfl rfl ?_
        refine yG.load xik rfl (fun _ _ => rfl) (v := yI (p3)) rfl rfl ?_
        refine yG.icmp rfl (t := 174) rfl ⟨by omega, by omega⟩ ⟨by omega, by omega⟩ (fun c1 => ?_) (fun c1 => ?_)
        · have c1 : (a7 : Int) ≥ p3 := c1
          refine yG.ret rfl (fun _ _ => rfl) ?_
          exact (yP.void ⟨⟨rfl, trivial⟩, A_hq⟩)
        · have c1 : (a7 : Int) < p3 := c1
          refine yG.load xak rfl (fun _ _ => rfl) (v := yR k0) rfl rfl ?_
          refine yG.getO A_hq.1 (w_M_matrix W H_k0) rfl rfl (fun r2 H_r2 O_r2 q_r2 => ?_)
          refine yG.num (c := 48) rfl (fun _ _ => rfl) (by decide) ?_
          refine yG.load xik rfl (fun _ _ => rfl) (v := yI (a7)) rfl rfl ?_
          refine yG.imul rfl ?_
          refine yG.load xik rfl (fun _ _ => rfl) (v := yI (p2)) rfl rfl ?_
          refine yG.iadd rfl ?_
          refine yG.lald A_hq.1 (v_M_matrix W H_r2) rfl (by omega) (by omega) (fun z3 e_z3 i_z3 l_z3 u_z3 => ?_)
          refine yG.store2 xlk2 (L' := [(8, yJ (z3)), (0, yR k0), (1, yI (p1)), (2, yI (p2)), (3, yI (p3)), (4, yI (p4)), (7, yI (a7))]) rfl (fun _ _ => rfl) rfl rfl ?_
          refine yG.num (c := 0) rfl (fun _ _ => rfl) (by decide) ?_
          refine yG.store1 xik (L' := [(10, yI (0)), (8, yJ (z3)), (0, yR k0), (1, yI (p1)), (2, yI (p2)), (3, yI (p3)), (4, yI (p4)), (7, yI (a7))]) rfl (fun _ _ => rfl) rfl rfl ?_
          exact yG.mono (yG.sub (i_91 (a7) (z3) (0) (ys hq k0 11) hq A_hq  rfl (by omega) (by omega) (by omega) (by omega) (by omega) (by omega) (by omega) (by omega) (by omega) (by omega) (by omega) (by omega) (by omega) (by omega) (by omega) (by omega) (by omega) (by omega) (by omega) (by omega)) (ySub.cons rfl (ySub.cons rfl (ySub.cons rfl (ySub.cons rfl (ySub.cons rfl (ySub.cons rfl (ySub.cons rfl (ySub.cons rfl (ySub.nil)))))))))) (by omega)
      · intro a7 a8 a10 gg0 hq A_hq E_0 f0 f1 f2 f3 f4 f5 f6 f7 f8 f9 f10 f11 f12 f13 f14 f15 f16 f17 f18 hm
        refine yG.mono (N := 46 * m + 46) ?_ (by omega)
        obtain ⟨-, -, g_0l, g_0u⟩ := (w_M_p W H_k0).long A_hq.1
        refine yG.load xik rfl (fun _ _ => rfl) (v := yI (a10)) rfl rfl ?_
        refine yG.load xik rfl (fun _ _ => rfl) (v := yI (p4)) rfl rfl ?_
        refine yG.icmp rfl (t := 168) rfl ⟨by omega, by omega⟩ ⟨by omega, by omega⟩ (fun c1 => ?_) (fun c1 => ?_)
        · have c1 : (a10 : Int) ≥ p4 := c1
          refine yG.iinc rfl (a := a7) rfl (L' := [(7, yI (a7 + 1)), (0, yR k0), (1, yI (p1)), (2, yI (p2)), (3, yI (p3)), (4, yI (p4)), (8, yJ (a8)), (10, yI (a10))]) rfl ?_
          refine yG.goto rfl (t := 68) rfl ?_
          exact yG.mono (yG.sub (i_68 (a7 + 1) (ys hq k0 11) hq A_hq  rfl (by omega) (by omega) (by omega) (by omega) (by omega) (by omega) (by omega) (by omega) (by omega) (by omega) (by omega) (by omega) (by omega) (by omega)) (ySub.cons rfl (ySub.cons rfl (ySub.cons rfl (ySub.cons rfl (ySub.cons rfl (ySub.cons rfl (ySub.nil)))))))) (by omega)
        · have c1 : (a10 : Int) < p4 := c1
          refine yG.load xik rfl (fun _ _ => rfl) (v := yI (a7)) rfl rfl ?_
          refine yG.load xik rfl (fun _ _ => rfl) (v := yI (p1)) rfl rfl ?_
          refine yG.icmp rfl (t := 168) rfl ⟨by omega, by omega⟩ ⟨by omega, by omega⟩ (fun c2 => ?_) (fun c2 => ?_)
          · have c2 : (a7 : Int) = p1 := c2
            refine yG.iinc rfl (a := a7) rfl (L' := [(7, yI (a7 + 1)), (0, yR k0), (1, yI (p1)), (2, yI (p2)), (3, yI (p3)), (4, yI (p4)), (8, yJ (a8)), (10, yI (a10))]) rfl ?_
            refine yG.goto rfl (t := 68) rfl ?_
            exact yG.mono (yG.sub (i_68 (a7 + 1) (ys hq k0 11) hq A_hq  rfl (by omega) (by omega) (by omega) (by omega) (by omega) (by omega) (by omega) (by omega) (by omega) (by omega) (by omega) (by omega) (by omega) (by omega)) (ySub.cons rfl (ySub.cons rfl (ySub.cons rfl (ySub.cons rfl (ySub.cons rfl (ySub.cons rfl (ySub.nil)))))))) (by omega)
          · have c2 : (a7 : Int) ≠ p1 := c2
            refine yG.load xlk2 rfl (fun _ _ => rfl) (v := yJ (a8)) rfl rfl ?_
            refine yG.numl (c := 0) rfl (fun _ _ => rfl) (by decide) ?_
            refine yG.lcmp rfl ⟨by omega, by omega⟩ ⟨by omega, by omega⟩ (fun z3 e_z3 => ?_)
            refine yG.ifz rfl (t := 168) rfl ⟨by omega, by omega⟩ (fun c4 => ?_) (fun c4 => ?_)
            · have c4 : (z3 : Int) = 0 := c4
              refine yG.iinc rfl (a := a7) rfl (L' := [(7, yI (a7 + 1)), (0, yR k0), (1, yI (p1)), (2, yI (p2)), (3, yI (p3)), (4, yI (p4)), (8, yJ (a8)), (10, yI (a10))]) rfl ?_
              refine yG.goto rfl (t := 68) rfl ?_
              exact yG.mono (yG.sub (i_68 (a7 + 1) (ys hq k0 11) hq A_hq  rfl (by omega) (by omega) (by omega) (by omega) (by omega) (by omega) (by omega) (by omega) (by omega) (by omega) (by omega) (by omega) (by omega) (by omega)) (ySub.cons rfl (ySub.cons rfl (ySub.cons rfl (ySub.cons rfl (ySub.cons rfl (ySub.cons rfl (ySub.nil)))))))) (by omega)
            · have c4 : (z3 : Int) ≠ 0 := c4
              refine yG.load xak rfl (fun _ _ => rfl) (v := yR k0) rfl rfl ?_
              refine yG.getO A_hq.1 (w_M_matrix W H_k0) rfl rfl (fun r5 H_r5 O_r5 q_r5 => ?_)
              refine yG.num (c := 48) rfl (fun _ _ => rfl) (by decide) ?_
              refine yG.load xik rfl (fun _ _ => rfl) (v := yI (a7)) rfl rfl ?_
              refine yG.imul rfl ?_
              refine yG.load xik rfl (fun _ _ => rfl) (v := yI (a10)) rfl rfl ?_
              refine yG.iadd rfl ?_
              refine yG.load xak rfl (fun _ _ => rfl) (v := yR k0) rfl rfl ?_
              refine yG.load xak rfl (fun _ _ => rfl) (v := yR k0) rfl rfl ?_
              refine yG.getS9 A_hq.1 (w_M_matrix W H_k0) q_r5 rfl rfl ?_
              refine yG.num (c := 48) rfl (fun _ _ => rfl) (by decide) ?_
              refine yG.load xik rfl (fun _ _ => rfl) (v := yI (a7)) rfl rfl ?_
              refine yG.imul rfl ?_
              refine yG.load xik rfl (fun _ _ => rfl) (v := yI (a10)) rfl rfl ?_
              refine yG.iadd rfl ?_
              refine yG.lald A_hq.1 (v_M_matrix W H_r5) rfl (by omega) (by omega) (fun z6 e_z6 i_z6 l_z6 u_z6 => ?_)
              refine yG.load xlk2 rfl (fun _ _ => rfl) (v := yJ (a8)) rfl rfl ?_
              refine yG.load xak rfl (fun _ _ => rfl) (v := yR k0) rfl rfl ?_
              refine yG.getS9 A_hq.1 (w_M_matrix W H_k0) q_r5 rfl rfl ?_
              refine yG.num (c := 48) rfl (fun _ _ => rfl) (by decide) ?_
              refine yG.load xik rfl (fun _ _ => rfl) (v := yI (p1)) rfl rfl ?_
              refine yG.imul rfl ?_
              refine yG.load xik rfl (fun _ _ => rfl) (v := yI (a10)) rfl rfl ?_
              refine yG.iadd rfl ?_
              refine yG.lald A_hq.1 (v_M_matrix W H_r5) rfl (by omega) (by omega) (fun z7 e_z7 i_z7 l_z7 u_z7 => ?_)
              refine yG.lmul rfl ?_
              obtain ⟨z8, e_z8⟩ : ∃ z : Int, z = a8 * z7 := ⟨_, rfl⟩
              rw [← e_z8]
              have b_z8 : 0 ≤ z8 ∧ z8 ≤ 4611686014132420609 := e_z8 ▸ ymulb (A := 2147483647) (B := 2147483647) (by omega) (by omega) (by omega) (by omega) (by decide)
              have b2_z8 : z8 ≤ 2147483647 * z7 := e_z8 ▸ bmulx (by omega) (by omega)
              have b3_z8 : z8 ≤ 2147483647 * a8 := e_z8 ▸ bmuly (by omega) (by omega)
              refine yG.load xak rfl (fun _ _ => rfl) (v := yR k0) rfl rfl ?_
              refine yG.getJ A_hq.1 (w_M_p W H_k0) rfl rfl (fun z9 e_z9 i_z9 l_z9 u_z9 => ?_)
              rw [show (z9 : Int) = gg0 by omega]
              refine yG.lrem rfl ⟨by omega, by omega⟩ ⟨by omega, by omega⟩ (by omega) (by omega) ?_
              obtain ⟨z10, e_z10⟩ : ∃ z : Int, z = (z8) % (gg0) := ⟨_, rfl⟩
              rw [← e_z10]
              have b_z10 : 0 ≤ z10 ∧ z10 < gg0 := e_z10 ▸ ⟨Int.emod_nonneg _ (by omega), Int.emod_lt_of_pos _ (by omega)⟩
              refine yG.lsub rfl ?_
              refine yG.invV (rest := [yI ((48 * a7) + a10), yR r5]) A_hq.1 (bOb (d_M W) H_k0) rfl rfl rfl rfl (c_GModel_mod W (d + 1) A_hq.1 H_k0 (z6 - z10) (by omega) (by omega) (by omega) (by omega)) (fun rv hp9 q9 => ?_)
              obtain ⟨⟨z11, rfl, l_z11, u_z11, R_z11⟩, e9⟩ := q9
              rw [e9]
              show yG _ _ _ _ _ _ _ _ _ _ (yJ z11 :: [yI ((48 * a7) + a10), yR r5]) _
              refine yG.last A_hq.1 (v_M_matrix W H_r5) (W.2.1 _ _ H_r5 (by decide) (by decide)) rfl (by omega) (by omega) ⟨by omega, by omega⟩ (by omega) (by omega) (fun h12 T_h12 b_h12 f_h12 y_h12 => ?_)
              have A_h12 := A_hq.put T_h12 b_h12 f_h12 H_r5 (bAll_ok (by decide) _)
              have : ys h12 k0 11 = ys hq k0 11 := (y_h12 k0 11).trans (if_neg (fun e => (bRo.ne H_k0 H_r5 (by decide)) e.1))
              have qq1 : zsl h12 k0 12 = yR r5 := ((f_h12 k0 12).trans (if_neg (fun e => (bRo.ne H_k0 H_r5 (by decide)) e.1))).trans q_r5
              refine yG.iinc rfl (a := a10) rfl (L' := [(10, yI (a10 + 1)), (0, yR k0), (1, yI (p1)), (2, yI (p2)), (3, yI (p3)), (4, yI (p4)), (7, yI (a7)), (8, yJ (a8))]) rfl ?_
              refine yG.goto rfl (t := 91) rfl ?_
              exact yG.mono (yG.sub (i_91 (a7) (a8) (a10 + 1) (ys h12 k0 11) h12 A_h12  rfl (by omega) (by omega) (by omega) (by omega) (by omega) (by omega) (by omega) (by omega) (by omega) (by omega) (by omega) (by omega) (by omega) (by omega) (by omega) (by omega) (by omega) (by omega) (by omega) (by omega)) (ySub.cons rfl (ySub.cons rfl (ySub.cons rfl (ySub.cons rfl (ySub.cons rfl (ySub.cons rfl (ySub.cons rfl (ySub.cons rfl (ySub.nil)))))))))) (by omega)
  refine yC.of (M := (xt_X13_clear, (11, (0, (14, []))))) rfl rfl (N := 4688412) (yfuel (by decide)) ?_
  show yG 89 xfts (xcall 89 xfts xpools xms (d + 2)) (xpool xp_RX13) [] xt_X13_clear (yP 0 (fun rv hp' => (rv = none ∧ True) ∧ bAx G [(85070591730234615865843651857942052864, 256)] hp hp')) 4688412 0 [(0, yR k0), (1, yI (p1)), (2, yI (p2)), (3, yI (p3)), (4, yI (p4))] [] hp
  obtain ⟨i_20, i_68, i_91⟩ := H 101921
  obtain ⟨gg0, E_0⟩ : ∃ z : Int, ys hp k0 11 = z := ⟨_, rfl⟩
  obtain ⟨-, -, g_0l, g_0u⟩ := (w_M_p W H_k0).long hT
  refine yG.load xak rfl (fun _ _ => rfl) (v := yR k0) rfl rfl ?_
  refine yG.load xak rfl (fun _ _ => rfl) (v := yR k0) rfl rfl ?_
  refine yG.getO A_hp.1 (w_M_matrix W H_k0) rfl rfl (fun r1 H_r1 O_r1 q_r1 => ?_)
  refine yG.num (c := 48) rfl (fun _ _ => rfl) (by decide) ?_
  refine yG.load xik rfl (fun _ _ => rfl) (v := yI (p1)) rfl rfl ?_
  refine yG.imul rfl ?_
  refine yG.load xik rfl (fun _ _ => rfl) (v := yI (p2)) rfl rfl ?_
  refine yG.iadd rfl ?_
  refine yG.lald A_hp.1 (v_M_matrix W H_r1) rfl (by omega) (by omega) (fun z2 e_z2 i_z2 l_z2 u_z2 => ?_)
  refine yG.invV (rest := []) A_hp.1 (bOb (d_M W) H_k0) rfl rfl rfl rfl (c_GModel_inverse_ W d A_hp.1 H_k0 (z2) (by omega) (by omega) (by omega) (by omega)) (fun rv hp9 q9 => ?_)
  obtain ⟨⟨z3, rfl, l_z3, u_z3, R_z3⟩, e9⟩ := q9
  rw [e9]
  show yG _ _ _ _ _ _ _ _ _ _ (yJ z3 :: []) _
  refine yG.store2 xlk2 (L' := [(5, yJ (z3)), (0, yR k0), (1, yI (p1)), (2, yI (p2)), (3, yI (p3)), (4, yI (p4))]) rfl (fun _ _ => rfl) rfl rfl ?_
  refine yG.num (c := 0) rfl (fun _ _ => rfl) (by decide) ?_
  refine yG.store1 xik (L' := [(7, yI (0)), (5, yJ (z3)), (0, yR k0), (1, yI (p1)), (2, yI (p2)), (3, yI (p3)), (4, yI (p4))]) rfl (fun _ _ => rfl) rfl rfl ?_
  exact yG.mono (yG.sub (i_20 (z3) (0) (ys hp k0 11) hp A_hp  rfl (by omega) (by omega) (by omega) (by omega) (by omega) (by omega) (by omega) (by omega) (by omega) (by omega) (by omega) (by omega) (by omega) (by omega) (by omega) (by omega)) (ySub.cons rfl (ySub.cons rfl (ySub.cons rfl (ySub.cons rfl (ySub.cons rfl (ySub.cons rfl (ySub.cons rfl (ySub.nil))))))))) (by omega)
theorem c_GModel_solve {hp : xH} (W : mW G) (d : Nat) (hT : zTy G hp) {k0 : Nat} (H_k0 : bRo G 116 k0) (p1 p2 : Int) (h1l : (-1) ≤ p1) (h1u : p1 ≤ 20) (h2l : (-1) ≤ p2) (h2u : p2 ≤ 48) (q0l : 1 ≤ ys hp k0 11) (q0u : ys hp k0 11 ≤ 2147483647) : yC (xcall 89 xfts xpools xms (d + 4)) 516 [yR k0, yI (p1), yI (p2)] hp (bQj G [(85070591730234615865843651857942052864, 256)] hp 0 2147483646 (fun z => 0 ≤ p1 - z + 2147483645)) := by
  have A_hp : bAx G [(85070591730234615865843651857942052864, 256)] hp hp := bAx.rf hT
  have H : ∀ m : Nat, (∀ a3 : Int, ∀ a5 : Int, ∀ gg0 : Int, ∀ hq, bAx G [(85070591730234615865843651857942052864, 256)] hp hq → ys hq k0 11 = gg0 → 0 ≤ a3 → (-2147483646) ≤ 0 - a3 → 0 ≤ a5 → (-20) ≤ 0 - a5 → 1 ≤ gg0 → (-2147483647) ≤ 0 - gg0 → (-1) ≤ p1 → (-20) ≤ 0 - p1 → (-1) ≤ p2 → (-48) ≤ 0 - p2 → (-2147483645) ≤ 0 - a3 + a5 → 0 ≤ 0 - a3 + gg0 → (-2147483645) ≤ 0 - a3 + p1 → (-1) ≤ 0 - a5 + p1 → 0 - 85 * a5 + 1784 < (m : Int) → yG 89 xfts (xcall 89 xfts xpools xms (d + 3)) (xpool xp_RX13) [] xt_X13_solve (yP 2 (bQj G [(85070591730234615865843651857942052864, 256)] hp 0 2147483646 (fun z => 0 ≤ p1 - z + 2147483645))) (24 * m) 5 [(0, yR k0), (1, yI (p1)), (2, yI (p2)), (3, yJ (a3)), (5, yI (a5))] [] hq) ∧ (∀ a3 : Int, ∀ a5 : Int, ∀ a6 : Int, ∀ gg0 : Int, ∀ hq, bAx G [(85070591730234615865843651857942052864, 256)] hp hq → ys hq k0 11 = gg0 → 0 ≤ a3 → (-2147483646) ≤ 0 - a3 → 0 ≤ a5 → (-19) ≤ 0 - a5 → 0 ≤ a6 → (-20) ≤ 0 - a6 → 1 ≤ gg0 → (-2147483647) ≤ 0 - gg0 → 1 ≤ p1 → (-20) ≤ 0 - p1 → (-1) ≤ p2 → (-48) ≤ 0 - p2 → (-2147483645) ≤ 0 - a3 + a5 → 0 ≤ 0 - a5 + a6 → 0 ≤ 0 - a3 + gg0 → 1 ≤ 0 - a5 + p1 → 0 ≤ 0 - a6 + p1 → 0 - 85 * a5 - 4 * a6 + 1783 < (m : Int) → yG 89 xfts (xcall 89 xfts xpools xms (d + 3)) (xpool xp_RX13) [] xt_X13_solve (yP 2 (bQj G [(85070591730234615865843651857942052864, 256)] hp 0 2147483646 (fun z => 0 ≤ p1 - z + 2147483645))) (24 * m) 15 [(0, yR k0), (1, yI (p1)), (2, yI (p2)), (3, yJ (a3)), (5, yI (a5)), (6, yI (a6))] [] hq) ∧ (∀ a3 : Int, ∀ a5 : Int, ∀ a6 : Int, ∀ gg0 : Int, ∀ hq, bAx G [(85070591730234615865843651857942052864, 256)] hp hq → ys hq k0 11 = gg0 → 0 ≤ a3 → (-2147483646) ≤ 0 - a3 → 0 ≤ a5 → (-19) ≤ 0 - a5 → 0 ≤ a6 → (-20) ≤ 0 - a6 → 1 ≤ gg0 → (-2147483647) ≤ 0 - gg0 → 1 ≤ p1 → (-20) ≤ 0 - p1 → (-1) ≤ p2 → (-48) ≤ 0 - p2 → (-2147483645) ≤ 0 - a3 + a5 → 0 ≤ 0 - a5 + a6 → 0 ≤ 0 - a3 + gg0 → 1 ≤ 0 - a5 + p1 → 0 ≤ 0 - a6 + p1 → 0 - 85 * a5 + 1702 < (m : Int) → yG 89 xfts (xcall 89 xfts xpools xms (d + 3)) (xpool xp_RX13) [] xt_X13_solve (yP 2 (bQj G [(85070591730234615865843651857942052864, 256)] hp 0 2147483646 (fun z => 0 ≤ p1 - z + 2147483645))) (24 * m) 45 [(0, yR k0), (1, yI (p1)), (2, yI (p2)), (3, yJ (a3)), (5, yI (a5)), (6, yI (a6))] [] hq) ∧ (∀ a3 : Int, ∀ a5 : Int, ∀ gg0 : Int, ∀ hq, bAx G [(85070591730234615865843651857942052864, 256)] hp hq → ys hq k0 11 = gg0 → 0 ≤ a3 → (-2147483647) ≤ 0 - a3 → 0 ≤ a5 → (-19) ≤ 0 - a5 → 1 ≤ gg0 → (-2147483647) ≤ 0 - gg0 → 1 ≤ p1 → (-20) ≤ 0 - p1 → (-1) ≤ p2 → (-48) ≤ 0 - p2 → 0 ≤ 0 - a3 + gg0 → (-2147483645) ≤ 0 - a3 + p1 → 1 ≤ 0 - a5 + p1 → 0 - 85 * a5 + 1701 < (m : Int) → yG 89 xfts (xcall 89 xfts xpools xms (d + 3)) (xpool xp_RX13) [] xt_X13_solve (yP 2 (bQj G [(85070591730234615865843651857942052864, 256)] hp 0 2147483646 (fun z => 0 ≤ p1 - z + 2147483645))) (24 * m) 76 [(0, yR k0), (1, yI (p1)), (2, yI (p2)), (3, yJ (a3)), (5, yI (a5))] [] hq) := by
    intro m
    induction m with
    | zero =>
      refine ⟨?_, ?_, ?_, ?_⟩ <;> (intros; exfalso; omega)
    | succ m ih =>
      obtain ⟨i_5, i_15, i_45, i_76⟩ := ih
      refine ⟨?_, ?_, ?_, ?_⟩
      · intro a3 a5 gg0 hq A_hq E_0 f0 f1 f2 f3 f4 f5 f6 f7 f8 f9 f10 f11 f12 f13 hm
        refine yG.mono (N := 24 * m + 24) ?_ (by omega)
        obtain ⟨-, -, g_0l, g_0u⟩ := (w_M_p W H_k0).long A_hq.1
        refine yG.load xik rfl (fun _ _ => rfl) (v := yI (a5)) rfl rfl ?_
        refine yG.load xik rfl (fun _ _ => rfl) (v := yI (p1)) rfl rfl ?_
        refine yG.icmp rfl (t := 113) rfl ⟨by omega, by omega⟩ ⟨by omega, by omega⟩ (fun c1 => ?_) (fun c1 => ?_)
        · have c1 : (a5 : Int) ≥ p1 := c1
          refine yG.load xlk2 rfl (fun _ _ => rfl) (v := yJ (a3)) rfl rfl ?_
          refine yG.ret rfl (fun _ _ => rfl) ?_
          exact (yP.long ⟨by omega, by omega⟩ ⟨⟨a3, rfl, by omega, by omega, by omega⟩, A_hq⟩)
        · have c1 : (a5 : Int) < p1 := c1
          refine yG.load xik rfl (fun _ _ => rfl) (v := yI (a5)) rfl rfl ?_
          refine yG.store1 xik (L' := [(6, yI (a5)), (0, yR k0), (1, yI (p1)), (2, yI (p2)), (3, yJ (a3)), (5, yI (a5))]) rfl (fun _ _ => rfl) rfl rfl ?_
          exact yG.mono (yG.sub (i_15 (a3) (a5) (a5) (ys hq k0 11) hq A_hq  rfl (by omega) (by omega) (by omega) (by omega) (by omega) (by omega) (by omega) (by omega) (by omega) (by omega) (by omega) (by omega) (by omega) (by omega) (by omega) (by omega) (by omega) (by omega)) (ySub.cons rfl (ySub.cons rfl (ySub.cons rfl (ySub.cons rfl (ySub.cons rfl (ySub.cons rfl (ySub.nil)))))))) (by omega)
      · intro a3 a5 a6 gg0 hq A_hq E_0 f0 f1 f2 f3 f4 f5 f6 f7 f8 f9 f10 f11 f12 f13 f14 f15 f16 hm
        refine yG.mono (N := 24 * m + 24) ?_ (by omega)
        obtain ⟨-, -, g_0l, g_0u⟩ := (w_M_p W H_k0).long A_hq.1
        refine yG.load xik rfl (fun _ _ => rfl) (v := yI (a6)) rfl rfl ?_
        refine yG.load xik rfl (fun _ _ => rfl) (v := yI (p1)) rfl rfl ?_
        refine yG.icmp rfl (t := 45) rfl ⟨by omega, by omega⟩ ⟨by omega, by omega⟩ (fun c1 => ?_) (fun c1 => ?_)
        · have c1 : (a6 : Int) ≥ p1 := c1
          exact yG.mono (yG.sub (i_45 (a3) (a5) (a6) (ys hq k0 11) hq A_hq  rfl (by omega) (by omega) (by omega) (by omega) (by omega) (by omega) (by omega) (by omega) (by omega) (by omega) (by omega) (by omega) (by omega) (by omega) (by omega) (by omega) (by omega) (by omega)) (ySub.cons rfl (ySub.cons rfl (ySub.cons rfl (ySub.cons rfl (ySub.cons rfl (ySub.cons rfl (ySub.nil)))))))) (by omega)
        · have c1 : (a6 : Int) < p1 := c1
          refine yG.load xak rfl (fun _ _ => rfl) (v := yR k0) rfl rfl ?_
          refine yG.getO A_hq.1 (w_M_matrix W H_k0) rfl rfl (fun r2 H_r2 O_r2 q_r2 => ?_)
          refine yG.num (c := 48) rfl (fun _ _ => rfl) (by decide) ?_
          refine yG.load xik rfl (fun _ _ => rfl) (v := yI (a6)) rfl rfl ?_
          refine yG.imul rfl ?_
          refine yG.load xik rfl (fun _ _ => rfl) (v := yI (a5)) rfl rfl ?_
          refine yG.iadd rfl ?_
          refine yG.lald A_hq.1 (v_M_matrix W H_r2) rfl (by omega) (by omega) (fun z3 e_z3 i_z3 l_z3 u_z3 => ?_)
          refine yG.numl (c := 0) rfl (fun _ _ => rfl) (by decide) ?_
          refine yG.lcmp rfl ⟨by omega, by omega⟩ ⟨by omega, by omega⟩ (fun z4 e_z4 => ?_)
          refine yG.ifz rfl (t := 45) rfl ⟨by omega, by omega⟩ (fun c5 => ?_) (fun c5 => ?_)
          · have c5 : (z4 : Int) ≠ 0 := c5
            exact yG.mono (yG.sub (i_45 (a3) (a5) (a6) (ys hq k0 11) hq A_hq  rfl (by omega) (by omega) (by omega) (by omega) (by omega) (by omega) (by omega) (by omega) (by omega) (by omega) (by omega) (by omega) (by omega) (by omega) (by omega) (by omega) (by omega) (by omega)) (ySub.cons rfl (ySub.cons rfl (ySub.cons rfl (ySub.cons rfl (ySub.cons rfl (ySub.cons rfl (ySub.nil)))))))) (by omega)
          · have c5 : (z4 : Int) = 0 := c5
            refine yG.iinc rfl (a := a6) rfl (L' := [(6, yI (a6 + 1)), (0, yR k0), (1, yI (p1)), (2, yI (p2)), (3, yJ (a3)), (5, yI (a5))]) rfl ?_
            refine yG.goto rfl (t := 15) rfl ?_
            exact yG.mono (yG.sub (i_15 (a3) (a5) (a6 + 1) (ys hq k0 11) hq A_hq  rfl (by omega) (by omega) (by omega) (by omega) (by omega) (by omega) (by omega) (by omega) (by omega) (by omega) (by omega) (by omega) (by omega) (by omega) (by omega) (by omega) (by omega) (by omega)) (ySub.cons rfl (ySub.cons rfl (ySub.cons rfl (ySub.cons rfl (ySub.cons rfl (ySub.cons rfl (ySub.nil)))))))) (by omega)
      · intro a3 a5 a6 gg0 hq A_hq E_0 f0 f1 f2 f3 f4 f5 f6 f7 f8 f9 f10 f11 f12 f13 f14 f15 f16 hm
        refine yG.mono (N := 24 * m + 24) ?_ (by omega)
        obtain ⟨-, -, g_0l, g_0u⟩ := (w_M_p W H_k0).long A_hq.1
        refine yG.load xik rfl (fun _ _ => rfl) (v := yI (a6)) rfl rfl ?_
        refine yG.load xik rfl (fun _ _ => rfl) (v := yI (p1)) rfl rfl ?_
        refine yG.icmp rfl (t := 53) rfl ⟨by omega, by omega⟩ ⟨by omega, by omega⟩ (fun c1 => ?_) (fun c1 => ?_)
        · have c1 : (a6 : Int) ≠ p1 := c1
          refine yG.load xik rfl (fun _ _ => rfl) (v := yI (a6)) rfl rfl ?_
          refine yG.load xik rfl (fun _ _ => rfl) (v := yI (a5)) rfl rfl ?_
          refine yG.icmp rfl (t := 76) rfl ⟨by omega, by omega⟩ ⟨by omega, by omega⟩ (fun c2 => ?_) (fun c2 => ?_)
          · have c2 : (a6 : Int) = a5 := c2
            exact yG.mono (yG.sub (i_76 (a3) (a5) (ys hq k0 11) hq A_hq  rfl (by omega) (by omega) (by omega) (by omega) (by omega) (by omega) (by omega) (by omega) (by omega) (by omega) (by omega) (by omega) (by omega) (by omega)) (ySub.cons rfl (ySub.cons rfl (ySub.cons rfl (ySub.cons rfl (ySub.cons rfl (ySub.nil))))))) (by omega)
          · have c2 : (a6 : Int) ≠ a5 := c2
            refine yG.load xak rfl (fun _ _ => rfl) (v := yR k0) rfl rfl ?_
            refine yG.load xik rfl (fun _ _ => rfl) (v := yI (a6)) rfl rfl ?_
            refine yG.load xik rfl (fun _ _ => rfl) (v := yI (a5)) rfl rfl ?_
            refine yG.load xik rfl (fun _ _ => rfl) (v := yI (p2)) rfl rfl ?_
            refine yG.invV (rest := []) A_hq.1 (bOb (d_M W) H_k0) rfl rfl rfl rfl (c_GModel_swap W (d + 2) A_hq.1 H_k0 (a6) (a5) (p2) (by omega) (by omega) (by omega) (by omega) (by omega) (by omega)) (fun rv h3 q9 => ?_)
            obtain ⟨⟨rfl, R_z4⟩, B_h3⟩ := q9
            have A_h3 := A_hq.tr B_h3 (by decide)
            have : ys h3 k0 11 = ys hq k0 11 := B_h3.ys H_k0 (by decide)
            show yG _ _ _ _ _ _ _ _ _ _ [] _
            refine yG.load xak rfl (fun _ _ => rfl) (v := yR k0) rfl rfl ?_
            refine yG.getJ A_h3.1 (w_M_p W H_k0) rfl rfl (fun z5 e_z5 i_z5 l_z5 u_z5 => ?_)
            rw [show (z5 : Int) = gg0 by omega]
            refine yG.load xlk2 rfl (fun _ _ => rfl) (v := yJ (a3)) rfl rfl ?_
            refine yG.lsub rfl ?_
            obtain ⟨z6, e_z6⟩ : ∃ z : Int, z = gg0 - a3 := ⟨_, rfl⟩
            rw [← e_z6]
            refine yG.store2 xlk2 (L' := [(3, yJ (z6)), (0, yR k0), (1, yI (p1)), (2, yI (p2)), (5, yI (a5)), (6, yI (a6))]) rfl (fun _ _ => rfl) rfl rfl ?_
            exact yG.mono (yG.sub (i_76 (z6) (a5) (ys h3 k0 11) h3 A_h3  rfl (by omega) (by omega) (by omega) (by omega) (by omega) (by omega) (by omega) (by omega) (by omega) (by omega) (by omega) (by omega) (by omega) (by omega)) (ySub.cons rfl (ySub.cons rfl (ySub.cons rfl (ySub.cons rfl (ySub.cons rfl (ySub.nil))))))) (by omega)
        · have c1 : (a6 : Int) = p1 := c1
          refine yG.numl (c := 0) rfl (fun _ _ => rfl) (by decide) ?_
          refine yG.ret rfl (fun _ _ => rfl) ?_
          exact (yP.long ⟨by omega, by omega⟩ ⟨⟨0, rfl, by omega, by omega, by omega⟩, A_hq⟩)
      · intro a3 a5 gg0 hq A_hq E_0 f0 f1 f2 f3 f4 f5 f6 f7 f8 f9 f10 f11 f12 hm
        refine yG.mono (N := 24 * m + 24) ?_ (by omega)
        obtain ⟨-, -, g_0l, g_0u⟩ := (w_M_p W H_k0).long A_hq.1
        refine yG.load xlk2 rfl (fun _ _ => rfl) (v := yJ (a3)) rfl rfl ?_
        refine yG.load xak rfl (fun _ _ => rfl) (v := yR k0) rfl rfl ?_
        refine yG.getO A_hq.1 (w_M_matrix W H_k0) rfl rfl (fun r1 H_r1 O_r1 q_r1 => ?_)
        refine yG.num (c := 48) rfl (fun _ _ => rfl) (by decide) ?_
        refine yG.load xik rfl (fun _ _ => rfl) (v := yI (a5)) rfl rfl ?_
        refine yG.imul rfl ?_
        refine yG.load xik rfl (fun _ _ => rfl) (v := yI (a5)) rfl rfl ?_
        refine yG.iadd rfl ?_
        refine yG.lald A_hq.1 (v_M_matrix W H_r1) rfl (by omega) (by omega) (fun z2 e_z2 i_z2 l_z2 u_z2 => ?_)
        refine yG.lmul rfl ?_
        obtain ⟨z3, e_z3⟩ : ∃ z : Int, z = a3 * z2 := ⟨_, rfl⟩
        rw [← e_z3]
        have b_z3 : 0 ≤ z3 ∧ z3 ≤ 4611686014132420609 := e_z3 ▸ ymulb (A := 2147483647) (B := 2147483647) (by omega) (by omega) (by omega) (by omega) (by decide)
        have b2_z3 : z3 ≤ 2147483647 * z2 := e_z3 ▸ bmulx (by omega) (by omega)
        have b3_z3 : z3 ≤ 2147483647 * a3 := e_z3 ▸ bmuly (by omega) (by omega)
        refine yG.load xak rfl (fun _ _ => rfl) (v := yR k0) rfl rfl ?_
        refine yG.getJ A_hq.1 (w_M_p W H_k0) rfl rfl (fun z4 e_z4 i_z4 l_z4 u_z4 => ?_)
        rw [show (z4 : Int) = gg0 by omega]
        refine yG.lrem rfl ⟨by omega, by omega⟩ ⟨by omega, by omega⟩ (by omega) (by omega) ?_
        obtain ⟨z5, e_z5⟩ : ∃ z : Int, z = (z3) % (gg0) := ⟨_, rfl⟩
        rw [← e_z5]
        have b_z5 : 0 ≤ z5 ∧ z5 < gg0 := e_z5 ▸ ⟨Int.emod_nonneg _ (by omega), Int.emod_lt_of_pos _ (by omega)⟩
        refine yG.store2 xlk2 (L' := [(3, yJ (z5)), (0, yR k0), (1, yI (p1)), (2, yI (p2)), (5, yI (a5))]) rfl (fun _ _ => rfl) rfl rfl ?_
        refine yG.load xak rfl (fun _ _ => rfl) (v := yR k0) rfl rfl ?_
        refine yG.load xik rfl (fun _ _ => rfl) (v := yI (a5)) rfl rfl ?_
        refine yG.load xik rfl (fun _ _ => rfl) (v := yI (a5)) rfl rfl ?_
        refine yG.load xik rfl (fun _ _ => rfl) (v := yI (p1)) rfl rfl ?_
        refine yG.load xik rfl (fun _ _ => rfl) (v := yI (p2)) rfl rfl ?_
        refine yG.invV (rest := []) A_hq.1 (bOb (d_M W) H_k0) rfl rfl rfl rfl (c_GModel_clear W d A_hq.1 H_k0 (a5) (a5) (p1) (p2) (by omega) (by omega) (by omega) (by omega) (by omega) (by omega) (by omega) (by omega) (by omega) (by omega)) (fun rv h6 q9 => ?_)
        obtain ⟨⟨rfl, R_z7⟩, B_h6⟩ := q9
        have A_h6 := A_hq.tr B_h6 (by decide)
        have : ys h6 k0 11 = ys hq k0 11 := B_h6.ys H_k0 (by decide)
        show yG _ _ _ _ _ _ _ _ _ _ [] _
        refine yG.iinc rfl (a := a5) rfl (L' := [(5, yI (a5 + 1)), (3, yJ (z5)), (0, yR k0), (1, yI (p1)), (2, yI (p2))]) rfl ?_
        refine yG.goto rfl (t := 5) rfl ?_
        exact yG.mono (yG.sub (i_5 (z5) (a5 + 1) (ys h6 k0 11) h6 A_h6  rfl (by omega) (by omega) (by omega) (by omega) (by omega) (by omega) (by omega) (by omega) (by omega) (by omega) (by omega) (by omega) (by omega) (by omega) (by omega)) (ySub.cons rfl (ySub.cons rfl (ySub.cons rfl (ySub.cons rfl (ySub.cons rfl (ySub.nil))))))) (by omega)
  refine yC.of (M := (xt_X13_solve, (7, (2, (14, []))))) rfl rfl (N := 42888) (yfuel (by decide)) ?_
  show yG 89 xfts (xcall 89 xfts xpools xms (d + 3)) (xpool xp_RX13) [] xt_X13_solve (yP 2 (bQj G [(85070591730234615865843651857942052864, 256)] hp 0 2147483646 (fun z => 0 ≤ p1 - z + 2147483645))) 42888 0 [(0, yR k0), (1, yI (p1)), (2, yI (p2))] [] hp
  obtain ⟨i_5, i_15, i_45, i_76⟩ := H 1786
  obtain ⟨gg0, E_0⟩ : ∃ z : Int, ys hp k0 11 = z := ⟨_, rfl⟩
  obtain ⟨-, -, g_0l, g_0u⟩ := (w_M_p W H_k0).long hT
  refine yG.numl (c := 1) rfl (fun _ _ => rfl) (by decide) ?_
  refine yG.store2 xlk2 (L' := [(3, yJ (1)), (0, yR k0), (1, yI (p1)), (2, yI (p2))]) rfl (fun _ _ => rfl) rfl rfl ?_
  refine yG.num (c := 0) rfl (fun _ _ => rfl) (by decide) ?_
  refine yG.store1 xik (L' := [(5, yI (0)), (3, yJ (1)), (0, yR k0), (1, yI (p1)), (2, yI (p2))]) rfl (fun _ _ => rfl) rfl rfl ?_
  exact yG.mono (yG.sub (i_5 (1) (0) (ys hp k0 11) hp A_hp  rfl (by omega) (by omega) (by omega) (by omega) (by omega) (by omega) (by omega) (by omega) (by omega) (by omega) (by omega) (by omega) (by omega) (by omega) (by omega)) (ySub.cons rfl (ySub.cons rfl (ySub.cons rfl (ySub.cons rfl (ySub.cons rfl (ySub.nil))))))) (by omega)
theorem c_GModel_join {hp : xH} (W : mW G) (d : Nat) (hT : zTy G hp) {k0 : Nat} (H_k0 : bRo G 116 k0) (p1 p2 p3 : Int) (h1l : (-1) ≤ p1) (h1u : p1 ≤ 19) (h2l : (-1) ≤ p2) (h2u : p2 ≤ 19) (h3l : 0 ≤ p3) (h3u : p3 ≤ 2147483647) (q0l : 1 ≤ ys hp k0 11) (q0u : ys hp k0 11 ≤ 2147483647) : yC (xcall 89 xfts xpools xms (d + 2)) 439 [yR k0, yI (p1), yI (p2), yJ (p3)] hp (fun rv hp' => (rv = none ∧ True) ∧ bAx G [(85070591730234615865843651857942052864, 256)] hp hp') := by
  have A_hp : bAx G [(85070591730234615865843651857942052864, 256)] hp hp := bAx.rf hT
  have H : ∀ m : Nat, (∀ gg0 : Int, ∀ hq, bAx G [(85070591730234615865843651857942052864, 256)] hp hq → ys hq k0 11 = gg0 → 1 ≤ gg0 → (-2147483647) ≤ 0 - gg0 → (-1) ≤ p1 → (-19) ≤ 0 - p1 → (-1) ≤ p2 → (-19) ≤ 0 - p2 → 0 ≤ p3 → (-2147483647) ≤ 0 - p3 → 2 < (m : Int) → yG 89 xfts (xcall 89 xfts xpools xms (d + 1)) (xpool xp_RX13) [] xt_X13_join (yP 0 (fun rv hp' => (rv = none ∧ True) ∧ bAx G [(85070591730234615865843651857942052864, 256)] hp hp')) (47 * m) 32 [(0, yR k0), (1, yI (p1)), (2, yI (p2)), (3, yJ (p3))] [] hq) ∧ (∀ gg0 : Int, ∀ hq, bAx G [(85070591730234615865843651857942052864, 256)] hp hq → ys hq k0 11 = gg0 → 1 ≤ gg0 → (-2147483647) ≤ 0 - gg0 → (-1) ≤ p1 → (-19) ≤ 0 - p1 → (-1) ≤ p2 → (-19) ≤ 0 - p2 → 0 ≤ p3 → (-2147483647) ≤ 0 - p3 → 1 < (m : Int) → yG 89 xfts (xcall 89 xfts xpools xms (d + 1)) (xpool xp_RX13) [] xt_X13_join (yP 0 (fun rv hp' => (rv = none ∧ True) ∧ bAx G [(85070591730234615865843651857942052864, 256)] hp hp')) (47 * m) 64 [(0, yR k0), (1, yI (p1)), (2, yI (p2)), (3, yJ (p3))] [] hq) := by
    intro m
    induction m with
    | zero =>
      refine ⟨?_, ?_⟩ <;> (intros; exfalso; omega)
    | succ m ih =>
      obtain ⟨i_32, i_64⟩ := ih
      refine ⟨?_, ?_⟩
      · intro gg0 hq A_hq E_0 f0 f1 f2 f3 f4 f5 f6 f7 hm
        refine yG.mono (N := 47 * m + 47) ?_ (by omega)
        obtain ⟨-, -, g_0l, g_0u⟩ := (w_M_p W H_k0).long A_hq.1
        refine yG.load xik rfl (fun _ _ => rfl) (v := yI (p2)) rfl rfl ?_
        refine yG.ifz rfl (t := 64) rfl ⟨by omega, by omega⟩ (fun c1 => ?_) (fun c1 => ?_)
        · have c1 : (p2 : Int) < 0 := c1
          exact yG.mono (yG.sub (i_64  (ys hq k0 11) hq A_hq  rfl (by omega) (by omega) (by omega) (by omega) (by omega) (by omega) (by omega) (by omega) (by omega)) (ySub.cons rfl (ySub.cons rfl (ySub.cons rfl (ySub.cons rfl (ySub.nil)))))) (by omega)
        · have c1 : (p2 : Int) ≥ 0 := c1
          refine yG.load xak rfl (fun _ _ => rfl) (v := yR k0) rfl rfl ?_
          refine yG.getO A_hq.1 (w_M_matrix W H_k0) rfl rfl (fun r2 H_r2 O_r2 q_r2 => ?_)
          refine yG.num (c := 48) rfl (fun _ _ => rfl) (by decide) ?_
          refine yG.load xik rfl (fun _ _ => rfl) (v := yI (p2)) rfl rfl ?_
          refine yG.imul rfl ?_
          refine yG.load xik rfl (fun _ _ => rfl) (v := yI (p2)) rfl rfl ?_
          refine yG.iadd rfl ?_
          refine yG.load xak rfl (fun _ _ => rfl) (v := yR k0) rfl rfl ?_
          refine yG.load xak rfl (fun _ _ => rfl) (v := yR k0) rfl rfl ?_
          refine yG.getS9 A_hq.1 (w_M_matrix W H_k0) q_r2 rfl rfl ?_
          refine yG.num (c := 48) rfl (fun _ _ => rfl) (by decide) ?_
          refine yG.load xik rfl (fun _ _ => rfl) (v := yI (p2)) rfl rfl ?_
          refine yG.imul rfl ?_
          refine yG.load xik rfl (fun _ _ => rfl) (v := yI (p2)) rfl rfl ?_
          refine yG.iadd rfl ?_
          refine yG.lald A_hq.1 (v_M_matrix W H_r2) rfl (by omega) (by omega) (fun z3 e_z3 i_z3 l_z3 u_z3 => ?_)
          refine yG.load xlk2 rfl (fun _ _ => rfl) (v := yJ (p3)) rfl rfl ?_
          refine yG.ladd rfl ?_
          refine yG.invV (rest := [yI ((48 * p2) + p2), yR r2]) A_hq.1 (bOb (d_M W) H_k0) rfl rfl rfl rfl (c_GModel_mod W d A_hq.1 H_k0 (z3 + p3) (by omega) (by omega) (by omega) (by omega)) (fun rv hp9 q9 => ?_)
          obtain ⟨⟨z4, rfl, l_z4, u_z4, R_z4⟩, e9⟩ := q9
          rw [e9]
          show yG _ _ _ _ _ _ _ _ _ _ (yJ z4 :: [yI ((48 * p2) + p2), yR r2]) _
          refine yG.last A_hq.1 (v_M_matrix W H_r2) (W.2.1 _ _ H_r2 (by decide) (by decide)) rfl (by omega) (by omega) ⟨by omega, by omega⟩ (by omega) (by omega) (fun h5 T_h5 b_h5 f_h5 y_h5 => ?_)
          have A_h5 := A_hq.put T_h5 b_h5 f_h5 H_r2 (bAll_ok (by decide) _)
          have : ys h5 k0 11 = ys hq k0 11 := (y_h5 k0 11).trans (if_neg (fun e => (bRo.ne H_k0 H_r2 (by decide)) e.1))
          have qq1 : zsl h5 k0 12 = yR r2 := ((f_h5 k0 12).trans (if_neg (fun e => (bRo.ne H_k0 H_r2 (by decide)) e.1))).trans q_r2
          exact yG.mono (yG.sub (i_64  (ys h5 k0 11) h5 A_h5  rfl (by omega) (by omega) (by omega) (by omega) (by omega) (by omega) (by omega) (by omega) (by omega)) (ySub.cons rfl (ySub.cons rfl (ySub.cons rfl (ySub.cons rfl (ySub.nil)))))) (by omega)
      · intro gg0 hq A_hq E_0 f0 f1 f2 f3 f4 f5 f6 f7 hm
        refine yG.mono (N := 47 * m + 47) ?_ (by omega)
        obtain ⟨-, -, g_0l, g_0u⟩ := (w_M_p W H_k0).long A_hq.1
        refine yG.load xik rfl (fun _ _ => rfl) (v := yI (p1)) rfl rfl ?_
        refine yG.ifz rfl (t := 128) rfl ⟨by omega, by omega⟩ (fun c1 => ?_) (fun c1 => ?_)
        · have c1 : (p1 : Int) < 0 := c1
          refine yG.ret rfl (fun _ _ => rfl) ?_
          exact (yP.void ⟨⟨rfl, trivial⟩, A_hq⟩)
        · have c1 : (p1 : Int) ≥ 0 := c1
          refine yG.load xik rfl (fun _ _ => rfl) (v := yI (p2)) rfl rfl ?_
          refine yG.ifz rfl (t := 128) rfl ⟨by omega, by omega⟩ (fun c2 => ?_) (fun c2 => ?_)
          · have c2 : (p2 : Int) < 0 := c2
            refine yG.ret rfl (fun _ _ => rfl) ?_
            exact (yP.void ⟨⟨rfl, trivial⟩, A_hq⟩)
          · have c2 : (p2 : Int) ≥ 0 := c2
            refine yG.load xak rfl (fun _ _ => rfl) (v := yR k0) rfl rfl ?_
            refine yG.getO A_hq.1 (w_M_matrix W H_k0) rfl rfl (fun r3 H_r3 O_r3 q_r3 => ?_)
            refine yG.num (c := 48) rfl (fun _ _ => rfl) (by decide) ?_
            refine yG.load xik rfl (fun _ _ => rfl) (v := yI (p1)) rfl rfl ?_
            refine yG.imul rfl ?_
            refine yG.load xik rfl (fun _ _ => rfl) (v := yI (p2)) rfl rfl ?_
            refine yG.iadd rfl ?_
            refine yG.load xak rfl (fun _ _ => rfl) (v := yR k0) rfl rfl ?_
            refine yG.load xak rfl (fun _ _ => rfl) (v := yR k0) rfl rfl ?_
            refine yG.getS9 A_hq.1 (w_M_matrix W H_k0) q_r3 rfl rfl ?_
            refine yG.num (c := 48) rfl (fun _ _ => rfl) (by decide) ?_
            refine yG.load xik rfl (fun _ _ => rfl) (v := yI (p1)) rfl rfl ?_
            refine yG.imul rfl ?_
            refine yG.load xik rfl (fun _ _ => rfl) (v := yI (p2)) rfl rfl ?_
            refine yG.iadd rfl ?_
            refine yG.lald A_hq.1 (v_M_matrix W H_r3) rfl (by omega) (by omega) (fun z4 e_z4 i_z4 l_z4 u_z4 => ?_)
            refine yG.load xlk2 rfl (fun _ _ => rfl) (v := yJ (p3)) rfl rfl ?_
            refine yG.lsub rfl ?_
            refine yG.invV (rest := [yI ((48 * p1) + p2), yR r3]) A_hq.1 (bOb (d_M W) H_k0) rfl rfl rfl rfl (c_GModel_mod W d A_hq.1 H_k0 (z4 - p3) (by omega) (by omega) (by omega) (by omega)) (fun rv hp9 q9 => ?_)
            obtain ⟨⟨z5, rfl, l_z5, u_z5, R_z5⟩, e9⟩ := q9
            rw [e9]
            show yG _ _ _ _ _ _ _ _ _ _ (yJ z5 :: [yI ((48 * p1) + p2), yR r3]) _
            refine yG.last A_hq.1 (v_M_matrix W H_r3) (W.2.1 _ _ H_r3 (by decide) (by decide)) rfl (by omega) (by omega) ⟨by omega, by omega⟩ (by omega) (by omega) (fun h6 T_h6 b_h6 f_h6 y_h6 => ?_)
            have A_h6 := A_hq.put T_h6 b_h6 f_h6 H_r3 (bAll_ok (by decide) _)
            have : ys h6 k0 11 = ys hq k0 11 := (y_h6 k0 11).trans (if_neg (fun e => (bRo.ne H_k0 H_r3 (by decide)) e.1))
            have qq1 : zsl h6 k0 12 = yR r3 := ((f_h6 k0 12).trans (if_neg (fun e => (bRo.ne H_k0 H_r3 (by decide)) e.1))).trans q_r3
            refine yG.load xak rfl (fun _ _ => rfl) (v := yR k0) rfl rfl ?_
            refine yG.getS9 A_h6.1 (w_M_matrix W H_k0) qq1 rfl rfl ?_
            refine yG.num (c := 48) rfl (fun _ _ => rfl) (by decide) ?_
            refine yG.load xik rfl (fun _ _ => rfl) (v := yI (p2)) rfl rfl ?_
            refine yG.imul rfl ?_
            refine yG.load xik rfl (fun _ _ => rfl) (v := yI (p1)) rfl rfl ?_
            refine yG.iadd rfl ?_
            refine yG.load xak rfl (fun _ _ => rfl) (v := yR k0) rfl rfl ?_
            refine yG.load xak rfl (fun _ _ => rfl) (v := yR k0) rfl rfl ?_
            refine yG.getS9 A_h6.1 (w_M_matrix W H_k0) qq1 rfl rfl ?_
            refine yG.num (c := 48) rfl (fun _ _ => rfl) (by decide) ?_
            refine yG.load xik rfl (fun _ _ => rfl) (v := yI (p2)) rfl rfl ?_
            refine yG.imul rfl ?_
            refine yG.load xik rfl (fun _ _ => rfl) (v := yI (p1)) rfl rfl ?_
            refine yG.iadd rfl ?_
            refine yG.lald A_h6.1 (v_M_matrix W H_r3) rfl (by omega) (by omega) (fun z7 e_z7 i_z7 l_z7 u_z7 => ?_)
            refine yG.load xlk2 rfl (fun _ _ => rfl) (v := yJ (p3)) rfl rfl ?_
            refine yG.lsub rfl ?_
            refine yG.invV (rest := [yI ((48 * p2) + p1), yR r3]) A_h6.1 (bOb (d_M W) H_k0) rfl rfl rfl rfl (c_GModel_mod W d A_h6.1 H_k0 (z7 - p3) (by omega) (by omega) (by omega) (by omega)) (fun rv hp9 q9 => ?_)
            obtain ⟨⟨z8, rfl, l_z8, u_z8, R_z8⟩, e9⟩ := q9
            rw [e9]
            show yG _ _ _ _ _ _ _ _ _ _ (yJ z8 :: [yI ((48 * p2) + p1), yR r3]) _
            refine yG.last A_h6.1 (v_M_matrix W H_r3) (W.2.1 _ _ H_r3 (by decide) (by decide)) rfl (by omega) (by omega) ⟨by omega, by omega⟩ (by omega) (by omega) (fun h9 T_h9 b_h9 f_h9 y_h9 => ?_)
            have A_h9 := A_h6.put T_h9 b_h9 f_h9 H_r3 (bAll_ok (by decide) _)
            have : ys h9 k0 11 = ys h6 k0 11 := (y_h9 k0 11).trans (if_neg (fun e => (bRo.ne H_k0 H_r3 (by decide)) e.1))
            have qq2 : zsl h9 k0 12 = yR r3 := ((f_h9 k0 12).trans (if_neg (fun e => (bRo.ne H_k0 H_r3 (by decide)) e.1))).trans qq1
            refine yG.ret rfl (fun _ _ => rfl) ?_
            exact (yP.void ⟨⟨rfl, trivial⟩, A_h9⟩)
  refine yC.of (M := (xt_X13_join, (5, (0, (14, []))))) rfl rfl (N := 235) (yfuel (by decide)) ?_
  show yG 89 xfts (xcall 89 xfts xpools xms (d + 1)) (xpool xp_RX13) [] xt_X13_join (yP 0 (fun rv hp' => (rv = none ∧ True) ∧ bAx G [(85070591730234615865843651857942052864, 256)] hp hp')) 235 0 [(0, yR k0), (1, yI (p1)), (2, yI (p2)), (3, yJ (p3))] [] hp
  obtain ⟨i_32, i_64⟩ := H 4
  obtain ⟨gg0, E_0⟩ : ∃ z : Int, ys hp k0 11 = z := ⟨_, rfl⟩
  obtain ⟨-, -, g_0l, g_0u⟩ := (w_M_p W H_k0).long hT
  refine yG.load xik rfl (fun _ _ => rfl) (v := yI (p1)) rfl rfl ?_
  refine yG.ifz rfl (t := 32) rfl ⟨by omega, by omega⟩ (fun c1 => ?_) (fun c1 => ?_)
  · have c1 : (p1 : Int) < 0 := c1
    exact yG.mono (yG.sub (i_32  (ys hp k0 11) hp A_hp  rfl (by omega) (by omega) (by omega) (by omega) (by omega) (by omega) (by omega) (by omega) (by omega)) (ySub.cons rfl (ySub.cons rfl (ySub.cons rfl (ySub.cons rfl (ySub.nil)))))) (by omega)
  · have c1 : (p1 : Int) ≥ 0 := c1
    refine yG.load xak rfl (fun _ _ => rfl) (v := yR k0) rfl rfl ?_
    refine yG.getO A_hp.1 (w_M_matrix W H_k0) rfl rfl (fun r2 H_r2 O_r2 q_r2 => ?_)
    refine yG.num (c := 48) rfl (fun _ _ => rfl) (by decide) ?_
    refine yG.load xik rfl (fun _ _ => rfl) (v := yI (p1)) rfl rfl ?_
    refine yG.imul rfl ?_
    refine yG.load xik rfl (fun _ _ => rfl) (v := yI (p1)) rfl rfl ?_
    refine yG.iadd rfl ?_
    refine yG.load xak rfl (fun _ _ => rfl) (v := yR k0) rfl rfl ?_
    refine yG.load xak rfl (fun _ _ => rfl) (v := yR k0) rfl rfl ?_
    refine yG.getS9 A_hp.1 (w_M_matrix W H_k0) q_r2 rfl rfl ?_
    refine yG.num (c := 48) rfl (fun _ _ => rfl) (by decide) ?_
    refine yG.load xik rfl (fun _ _ => rfl) (v := yI (p1)) rfl rfl ?_
    refine yG.imul rfl ?_
    refine yG.load xik rfl (fun _ _ => rfl) (v := yI (p1)) rfl rfl ?_
    refine yG.iadd rfl ?_
    refine yG.lald A_hp.1 (v_M_matrix W H_r2) rfl (by omega) (by omega) (fun z3 e_z3 i_z3 l_z3 u_z3 => ?_)
    refine yG.load xlk2 rfl (fun _ _ => rfl) (v := yJ (p3)) rfl rfl ?_
    refine yG.ladd rfl ?_
    refine yG.invV (rest := [yI ((48 * p1) + p1), yR r2]) A_hp.1 (bOb (d_M W) H_k0) rfl rfl rfl rfl (c_GModel_mod W d A_hp.1 H_k0 (z3 + p3) (by omega) (by omega) (by omega) (by omega)) (fun rv hp9 q9 => ?_)
    obtain ⟨⟨z4, rfl, l_z4, u_z4, R_z4⟩, e9⟩ := q9
    rw [e9]
    show yG _ _ _ _ _ _ _ _ _ _ (yJ z4 :: [yI ((48 * p1) + p1), yR r2]) _
    refine yG.last A_hp.1 (v_M_matrix W H_r2) (W.2.1 _ _ H_r2 (by decide) (by decide)) rfl (by omega) (by omega) ⟨by omega, by omega⟩ (by omega) (by omega) (fun h5 T_h5 b_h5 f_h5 y_h5 => ?_)
    have A_h5 := A_hp.put T_h5 b_h5 f_h5 H_r2 (bAll_ok (by decide) _)
    have : ys h5 k0 11 = ys hp k0 11 := (y_h5 k0 11).trans (if_neg (fun e => (bRo.ne H_k0 H_r2 (by decide)) e.1))
    have qq1 : zsl h5 k0 12 = yR r2 := ((f_h5 k0 12).trans (if_neg (fun e => (bRo.ne H_k0 H_r2 (by decide)) e.1))).trans q_r2
    exact yG.mono (yG.sub (i_32  (ys h5 k0 11) h5 A_h5  rfl (by omega) (by omega) (by omega) (by omega) (by omega) (by omega) (by omega) (by omega) (by omega)) (ySub.cons rfl (ySub.cons rfl (ySub.cons rfl (ySub.cons rfl (ySub.nil)))))) (by omega)
theorem c_GModel_keep {hp : xH} (W : mW G) (d : Nat) (hT : zTy G hp) {k0 : Nat} (H_k0 : bRo G 116 k0) (p1 : Int) (h1l : (-2147483648) ≤ p1) (h1u : p1 ≤ 2147483647) : yC (xcall 89 xfts xpools xms (d + 2)) 442 [yR k0, yI (p1)] hp (fun rv hp' => (rv = none ∧ True) ∧ bAx G [(83076749736557242056487941267521536, 0), (2090694862362245919518973588060783891185664, 256)] hp hp') := by
  have A_hp : bAx G [(83076749736557242056487941267521536, 0), (2090694862362245919518973588060783891185664, 256)] hp hp := bAx.rf hT
  have H : ∀ m : Nat, (∀ a2 : Int, ∀ hq, bAx G [(83076749736557242056487941267521536, 0), (2090694862362245919518973588060783891185664, 256)] hp hq → 0 ≤ a2 → (-1320) ≤ 0 - a2 → 0 ≤ p1 → (-2) ≤ 0 - p1 → 0 - 2 * a2 + 2641 < (m : Int) → yG 89 xfts (xcall 89 xfts xpools xms (d + 1)) (xpool xp_RX13) [] xt_X13_keep (yP 0 (fun rv hp' => (rv = none ∧ True) ∧ bAx G [(83076749736557242056487941267521536, 0), (2090694862362245919518973588060783891185664, 256)] hp hp')) (22 * m) 38 [(0, yR k0), (1, yI (p1)), (2, yI (a2))] [] hq) := by
    intro m
    induction m with
    | zero =>
      intros; exfalso; omega
    | succ m ih =>
      have i_38 := ih
      clear ih
      intro a2 hq A_hq f0 f1 f2 f3 hm
      refine yG.mono (N := 22 * m + 22) ?_ (by omega)
      refine yG.load xik rfl (fun _ _ => rfl) (v := yI (a2)) rfl rfl ?_
      refine yG.num (c := 1320) rfl (fun _ _ => rfl) (by decide) ?_
      refine yG.icmp rfl (t := 69) rfl ⟨by omega, by omega⟩ ⟨by omega, by omega⟩ (fun c1 => ?_) (fun c1 => ?_)
      · have c1 : (a2 : Int) ≥ 1320 := c1
        refine yG.ret rfl (fun _ _ => rfl) ?_
        exact (yP.void ⟨⟨rfl, trivial⟩, A_hq⟩)
      · have c1 : (a2 : Int) < 1320 := c1
        refine yG.load xak rfl (fun _ _ => rfl) (v := yR k0) rfl rfl ?_
        refine yG.getO A_hq.1 (w_M_kept W H_k0) rfl rfl (fun r2 H_r2 O_r2 q_r2 => ?_)
        refine yG.num (c := 1320) rfl (fun _ _ => rfl) (by decide) ?_
        refine yG.load xik rfl (fun _ _ => rfl) (v := yI (p1)) rfl rfl ?_
        refine yG.imul rfl ?_
        refine yG.load xik rfl (fun _ _ => rfl) (v := yI (a2)) rfl rfl ?_
        refine yG.iadd rfl ?_
        refine yG.load xak rfl (fun _ _ => rfl) (v := yR k0) rfl rfl ?_
        refine yG.getO A_hq.1 (w_M_field W H_k0) rfl rfl (fun r3 H_r3 O_r3 q_r3 => ?_)
        refine yG.load xik rfl (fun _ _ => rfl) (v := yI (a2)) rfl rfl ?_
        refine yG.ialdT A_hq.1 (v_M_field W H_r3) (yhull2 (tf := yfT) (yfT_h _)) rfl (by omega) (by omega) (fun z4 lo_z4 hi_z4 e_z4 i_z4 T_z4 l_z4 u_z4 => ?_)
        obtain ⟨L_z4, U_z4⟩ := yhull (tf := yfT) (yfT_h _) T_z4
        refine yG.iastF A_hq.1 (v_M_kept W H_r2) ((show (fun j => yfT (j % 1320)) (((1320 * p1) + a2 : Int).toNat) = yfT ((a2 : Int).toNat) from congrArg yfT (by omega)).trans T_z4) (W.2.1 _ _ H_r2 (by decide) (by decide)) rfl (by omega) (by omega) ⟨by omega, by omega⟩ (by omega) (by omega) (fun h5 T_h5 b_h5 f_h5 y_h5 => ?_)
        have A_h5 := A_hq.put T_h5 b_h5 f_h5 H_r2 (bAll_ok (by decide) _)
        refine yG.iinc rfl (a := a2) rfl (L' := [(2, yI (a2 + 1)), (0, yR k0), (1, yI (p1))]) rfl ?_
        refine yG.goto rfl (t := 38) rfl ?_
        exact yG.mono (yG.sub (i_38 (a2 + 1)  h5 A_h5   (by omega) (by omega) (by omega) (by omega) (by omega)) (ySub.cons rfl (ySub.cons rfl (ySub.cons rfl (ySub.nil))))) (by omega)
  refine yC.of (M := (xt_X13_keep, (3, (0, (14, []))))) rfl rfl (N := 58168) (yfuel (by decide)) ?_
  show yG 89 xfts (xcall 89 xfts xpools xms (d + 1)) (xpool xp_RX13) [] xt_X13_keep (yP 0 (fun rv hp' => (rv = none ∧ True) ∧ bAx G [(83076749736557242056487941267521536, 0), (2090694862362245919518973588060783891185664, 256)] hp hp')) 58168 0 [(0, yR k0), (1, yI (p1))] [] hp
  have i_38 := H 2643
  refine yG.load xak rfl (fun _ _ => rfl) (v := yR k0) rfl rfl ?_
  refine yG.load xik rfl (fun _ _ => rfl) (v := yI (p1)) rfl rfl ?_
  refine yG.i2l rfl ⟨by omega, by omega⟩ ?_
  refine yG.numl (c := 0) rfl (fun _ _ => rfl) (by decide) ?_
  refine yG.numl (c := 2) rfl (fun _ _ => rfl) (by decide) ?_
  refine yG.invS (rest := [yR k0]) rfl rfl rfl rfl (c_GModel_in W d A_hp.1 (p1) (0) (2) (by omega) (by omega) (by omega) (by omega) (by omega) (by omega)) (fun rv hp9 q9 => ?_)
  obtain ⟨⟨z1, rfl, l_z1, u_z1, R_z1⟩, e9⟩ := q9
  rw [e9]
  show yG _ _ _ _ _ _ _ _ _ _ (yI z1 :: [yR k0]) _
  refine yG.ifz rfl (t := 17) rfl ⟨by omega, by omega⟩ (fun c2 => ?_) (fun c2 => ?_)
  · have c2 : (z1 : Int) = 0 := c2
    clear R_z1
    refine yG.num (c := 1) rfl (fun _ _ => rfl) (by decide) ?_
    refine yG.putI A_hp.1 (w_M_thrown W H_k0) (W.2.1 _ _ H_k0 (by decide) (by decide)) rfl rfl (.inl rfl) ⟨by omega, by omega⟩ (by omega) (by omega) (fun h3 T_h3 b_h3 f_h3 y_h3 => ?_)
    have A_h3 := A_hp.put T_h3 b_h3 f_h3 H_k0 (by decide)
    have : ys h3 k0 0 = 1 := (y_h3 k0 0).trans (if_pos ⟨rfl, rfl⟩)
    refine yG.load xak rfl (fun _ _ => rfl) (v := yR k0) rfl rfl ?_
    refine yG.getI A_h3.1 (w_M_thrown W H_k0) rfl rfl (fun z4 e_z4 i_z4 l_z4 u_z4 => ?_)
    refine yG.ifz rfl (t := 29) rfl ⟨by omega, by omega⟩ (fun c5 => ?_) (fun c5 => ?_)
    · have c5 : (z4 : Int) ≤ 0 := c5
      exfalso; omega
    · have c5 : (z4 : Int) > 0 := c5
      refine yG.ret rfl (fun _ _ => rfl) ?_
      exact (yP.void ⟨⟨rfl, trivial⟩, A_h3⟩)
  · have c2 : (z1 : Int) ≠ 0 := c2
    replace R_z1 := R_z1 (by omega)
    refine yG.num (c := 0) rfl (fun _ _ => rfl) (by decide) ?_
    refine yG.goto rfl (t := 18) rfl ?_
    refine yG.putI A_hp.1 (w_M_thrown W H_k0) (W.2.1 _ _ H_k0 (by decide) (by decide)) rfl rfl (.inl rfl) ⟨by omega, by omega⟩ (by omega) (by omega) (fun h6 T_h6 b_h6 f_h6 y_h6 => ?_)
    have A_h6 := A_hp.put T_h6 b_h6 f_h6 H_k0 (by decide)
    have : ys h6 k0 0 = 0 := (y_h6 k0 0).trans (if_pos ⟨rfl, rfl⟩)
    refine yG.load xak rfl (fun _ _ => rfl) (v := yR k0) rfl rfl ?_
    refine yG.getI A_h6.1 (w_M_thrown W H_k0) rfl rfl (fun z7 e_z7 i_z7 l_z7 u_z7 => ?_)
    refine yG.ifz rfl (t := 29) rfl ⟨by omega, by omega⟩ (fun c8 => ?_) (fun c8 => ?_)
    · have c8 : (z7 : Int) ≤ 0 := c8
      refine yG.load xak rfl (fun _ _ => rfl) (v := yR k0) rfl rfl ?_
      refine yG.getO A_h6.1 (w_M_isKept W H_k0) rfl rfl (fun r9 H_r9 O_r9 q_r9 => ?_)
      refine yG.load xik rfl (fun _ _ => rfl) (v := yI (p1)) rfl rfl ?_
      refine yG.num (c := 1) rfl (fun _ _ => rfl) (by decide) ?_
      refine yG.bast A_h6.1 (v_M_isKept W H_r9) (W.2.1 _ _ H_r9 (by decide) (by decide)) rfl (by omega) (by omega) ⟨by omega, by omega⟩ (by omega) (by omega) (fun h10 T_h10 b_h10 f_h10 y_h10 => ?_)
      have A_h10 := A_h6.put T_h10 b_h10 f_h10 H_r9 (bAll_ok (by decide) _)
      have : ys h10 k0 0 = ys h6 k0 0 := (y_h10 k0 0).trans (if_neg (fun e => (bRo.ne H_k0 H_r9 (by decide)) e.1))
      refine yG.num (c := 0) rfl (fun _ _ => rfl) (by decide) ?_
      refine yG.store1 xik (L' := [(2, yI (0)), (0, yR k0), (1, yI (p1))]) rfl (fun _ _ => rfl) rfl rfl ?_
      exact yG.mono (yG.sub (i_38 (0)  h10 A_h10   (by omega) (by omega) (by omega) (by omega) (by omega)) (ySub.cons rfl (ySub.cons rfl (ySub.cons rfl (ySub.nil))))) (by omega)
    · have c8 : (z7 : Int) > 0 := c8
      exfalso; omega
theorem c_GModel_back {hp : xH} (W : mW G) (d : Nat) (hT : zTy G hp) {k0 : Nat} (H_k0 : bRo G 116 k0) (p1 : Int) (h1l : (-2147483648) ≤ p1) (h1u : p1 ≤ 2147483647) : yC (xcall 89 xfts xpools xms (d + 2)) 354 [yR k0, yI (p1)] hp (fun rv hp' => (rv = none ∧ True) ∧ bAx G [(83076749736557242056487941267521536, 0), (83076749736557242056487941267521536, 40), (83076749736557242056487941267521536, 49), (83076749736557242056487941267521536, 62), (83076749736557242056487941267521536, 77), (83076749736557242056487941267521536, 90), (83076749736557242056487941267521536, 101), (5444517870735015415413993718908291383296, 256)] hp hp') := by
  have A_hp : bAx G [(83076749736557242056487941267521536, 0), (83076749736557242056487941267521536, 40), (83076749736557242056487941267521536, 49), (83076749736557242056487941267521536, 62), (83076749736557242056487941267521536, 77), (83076749736557242056487941267521536, 90), (83076749736557242056487941267521536, 101), (5444517870735015415413993718908291383296, 256)] hp hp := bAx.rf hT
  have H : ∀ m : Nat, (∀ a2 : Int, ∀ hq, bAx G [(83076749736557242056487941267521536, 0), (83076749736557242056487941267521536, 40), (83076749736557242056487941267521536, 49), (83076749736557242056487941267521536, 62), (83076749736557242056487941267521536, 77), (83076749736557242056487941267521536, 90), (83076749736557242056487941267521536, 101), (5444517870735015415413993718908291383296, 256)] hp hq → 0 ≤ a2 → (-1320) ≤ 0 - a2 → 0 ≤ p1 → (-2) ≤ 0 - p1 → 0 - 2 * a2 + 2641 < (m : Int) → yG 89 xfts (xcall 89 xfts xpools xms (d + 1)) (xpool xp_RX13) [] xt_X13_back (yP 0 (fun rv hp' => (rv = none ∧ True) ∧ bAx G [(83076749736557242056487941267521536, 0), (83076749736557242056487941267521536, 40), (83076749736557242056487941267521536, 49), (83076749736557242056487941267521536, 62), (83076749736557242056487941267521536, 77), (83076749736557242056487941267521536, 90), (83076749736557242056487941267521536, 101), (5444517870735015415413993718908291383296, 256)] hp hp')) (21 * m) 44 [(0, yR k0), (1, yI (p1)), (2, yI (a2))] [] hq) := by
    intro m
    induction m with
    | zero =>
      intros; exfalso; omega
    | succ m ih =>
      have i_44 := ih
      clear ih
      intro a2 hq A_hq f0 f1 f2 f3 hm
      refine yG.mono (N := 21 * m + 21) ?_ (by omega)
      refine yG.load xik rfl (fun _ _ => rfl) (v := yI (a2)) rfl rfl ?_
      refine yG.num (c := 1320) rfl (fun _ _ => rfl) (by decide) ?_
      refine yG.icmp rfl (t := 75) rfl ⟨by omega, by omega⟩ ⟨by omega, by omega⟩ (fun c1 => ?_) (fun c1 => ?_)
      · have c1 : (a2 : Int) ≥ 1320 := c1
        refine yG.load xak rfl (fun _ _ => rfl) (v := yR k0) rfl rfl ?_
        refine yG.invV (rest := []) A_hq.1 (bOb (d_M W) H_k0) rfl rfl rfl rfl (c_GModel_changed W d A_hq.1 H_k0) (fun rv h2 q9 => ?_)
        obtain ⟨⟨rfl, R_z3⟩, B_h2⟩ := q9
        have A_h2 := A_hq.tr B_h2 (by decide)
        show yG _ _ _ _ _ _ _ _ _ _ [] _
        refine yG.ret rfl (fun _ _ => rfl) ?_
        exact (yP.void ⟨⟨rfl, trivial⟩, A_h2⟩)
      · have c1 : (a2 : Int) < 1320 := c1
        refine yG.load xak rfl (fun _ _ => rfl) (v := yR k0) rfl rfl ?_
        refine yG.getO A_hq.1 (w_M_field W H_k0) rfl rfl (fun r4 H_r4 O_r4 q_r4 => ?_)
        refine yG.load xik rfl (fun _ _ => rfl) (v := yI (a2)) rfl rfl ?_
        refine yG.load xak rfl (fun _ _ => rfl) (v := yR k0) rfl rfl ?_
        refine yG.getO A_hq.1 (w_M_kept W H_k0) rfl rfl (fun r5 H_r5 O_r5 q_r5 => ?_)
        refine yG.num (c := 1320) rfl (fun _ _ => rfl) (by decide) ?_
        refine yG.load xik rfl (fun _ _ => rfl) (v := yI (p1)) rfl rfl ?_
        refine yG.imul rfl ?_
        refine yG.load xik rfl (fun _ _ => rfl) (v := yI (a2)) rfl rfl ?_
        refine yG.iadd rfl ?_
        refine yG.ialdT A_hq.1 (v_M_kept W H_r5) (yhull2 (tf := yfT) (yfT_h _)) rfl (by omega) (by omega) (fun z6 lo_z6 hi_z6 e_z6 i_z6 T_z6 l_z6 u_z6 => ?_)
        obtain ⟨L_z6, U_z6⟩ := yhull (tf := yfT) (yfT_h _) T_z6
        refine yG.iastF A_hq.1 (v_M_field W H_r4) ((show yfT ((a2 : Int).toNat) = (fun j => yfT (j % 1320)) (((1320 * p1) + a2 : Int).toNat) from congrArg yfT (by omega)).trans T_z6) (W.2.1 _ _ H_r4 (by decide) (by decide)) rfl (by omega) (by omega) ⟨by omega, by omega⟩ (by omega) (by omega) (fun h7 T_h7 b_h7 f_h7 y_h7 => ?_)
        have A_h7 := A_hq.put T_h7 b_h7 f_h7 H_r4 (bAll_ok (by decide) _)
        refine yG.iinc rfl (a := a2) rfl (L' := [(2, yI (a2 + 1)), (0, yR k0), (1, yI (p1))]) rfl ?_
        refine yG.goto rfl (t := 44) rfl ?_
        exact yG.mono (yG.sub (i_44 (a2 + 1)  h7 A_h7   (by omega) (by omega) (by omega) (by omega) (by omega)) (ySub.cons rfl (ySub.cons rfl (ySub.cons rfl (ySub.nil))))) (by omega)
  refine yC.of (M := (xt_X13_back, (3, (0, (14, []))))) rfl rfl (N := 55524) (yfuel (by decide)) ?_
  show yG 89 xfts (xcall 89 xfts xpools xms (d + 1)) (xpool xp_RX13) [] xt_X13_back (yP 0 (fun rv hp' => (rv = none ∧ True) ∧ bAx G [(83076749736557242056487941267521536, 0), (83076749736557242056487941267521536, 40), (83076749736557242056487941267521536, 49), (83076749736557242056487941267521536, 62), (83076749736557242056487941267521536, 77), (83076749736557242056487941267521536, 90), (83076749736557242056487941267521536, 101), (5444517870735015415413993718908291383296, 256)] hp hp')) 55524 0 [(0, yR k0), (1, yI (p1))] [] hp
  have i_44 := H 2643
  refine yG.load xak rfl (fun _ _ => rfl) (v := yR k0) rfl rfl ?_
  refine yG.load xik rfl (fun _ _ => rfl) (v := yI (p1)) rfl rfl ?_
  refine yG.i2l rfl ⟨by omega, by omega⟩ ?_
  refine yG.numl (c := 0) rfl (fun _ _ => rfl) (by decide) ?_
  refine yG.numl (c := 2) rfl (fun _ _ => rfl) (by decide) ?_
  refine yG.invS (rest := [yR k0]) rfl rfl rfl rfl (c_GModel_in W d A_hp.1 (p1) (0) (2) (by omega) (by omega) (by omega) (by omega) (by omega) (by omega)) (fun rv hp9 q9 => ?_)
  obtain ⟨⟨z1, rfl, l_z1, u_z1, R_z1⟩, e9⟩ := q9
  rw [e9]
  show yG _ _ _ _ _ _ _ _ _ _ (yI z1 :: [yR k0]) _
  refine yG.ifz rfl (t := 17) rfl ⟨by omega, by omega⟩ (fun c2 => ?_) (fun c2 => ?_)
  · have c2 : (z1 : Int) ≠ 0 := c2
    replace R_z1 := R_z1 (by omega)
    refine yG.load xak rfl (fun _ _ => rfl) (v := yR k0) rfl rfl ?_
    refine yG.getO A_hp.1 (w_M_isKept W H_k0) rfl rfl (fun r3 H_r3 O_r3 q_r3 => ?_)
    refine yG.load xik rfl (fun _ _ => rfl) (v := yI (p1)) rfl rfl ?_
    refine yG.bald A_hp.1 (v_M_isKept W H_r3) rfl (by omega) (by omega) (fun z4 e_z4 i_z4 l_z4 u_z4 => ?_)
    refine yG.ifz rfl (t := 30) rfl ⟨by omega, by omega⟩ (fun c5 => ?_) (fun c5 => ?_)
    · have c5 : (z4 : Int) ≠ 0 := c5
      refine yG.num (c := 0) rfl (fun _ _ => rfl) (by decide) ?_
      refine yG.putI A_hp.1 (w_M_thrown W H_k0) (W.2.1 _ _ H_k0 (by decide) (by decide)) rfl rfl (.inl rfl) ⟨by omega, by omega⟩ (by omega) (by omega) (fun h6 T_h6 b_h6 f_h6 y_h6 => ?_)
      have A_h6 := A_hp.put T_h6 b_h6 f_h6 H_k0 (by decide)
      have : ys h6 k0 0 = 0 := (y_h6 k0 0).trans (if_pos ⟨rfl, rfl⟩)
      refine yG.load xak rfl (fun _ _ => rfl) (v := yR k0) rfl rfl ?_
      refine yG.getI A_h6.1 (w_M_thrown W H_k0) rfl rfl (fun z7 e_z7 i_z7 l_z7 u_z7 => ?_)
      refine yG.ifz rfl (t := 42) rfl ⟨by omega, by omega⟩ (fun c8 => ?_) (fun c8 => ?_)
      · have c8 : (z7 : Int) ≤ 0 := c8
        refine yG.num (c := 0) rfl (fun _ _ => rfl) (by decide) ?_
        refine yG.store1 xik (L' := [(2, yI (0)), (0, yR k0), (1, yI (p1))]) rfl (fun _ _ => rfl) rfl rfl ?_
        exact yG.mono (yG.sub (i_44 (0)  h6 A_h6   (by omega) (by omega) (by omega) (by omega) (by omega)) (ySub.cons rfl (ySub.cons rfl (ySub.cons rfl (ySub.nil))))) (by omega)
      · have c8 : (z7 : Int) > 0 := c8
        exfalso; omega
    · have c5 : (z4 : Int) = 0 := c5
      refine yG.num (c := 2) rfl (fun _ _ => rfl) (by decide) ?_
      refine yG.goto rfl (t := 31) rfl ?_
      refine yG.putI A_hp.1 (w_M_thrown W H_k0) (W.2.1 _ _ H_k0 (by decide) (by decide)) rfl rfl (.inl rfl) ⟨by omega, by omega⟩ (by omega) (by omega) (fun h9 T_h9 b_h9 f_h9 y_h9 => ?_)
      have A_h9 := A_hp.put T_h9 b_h9 f_h9 H_k0 (by decide)
      have : ys h9 k0 0 = 2 := (y_h9 k0 0).trans (if_pos ⟨rfl, rfl⟩)
      refine yG.load xak rfl (fun _ _ => rfl) (v := yR k0) rfl rfl ?_
      refine yG.getI A_h9.1 (w_M_thrown W H_k0) rfl rfl (fun z10 e_z10 i_z10 l_z10 u_z10 => ?_)
      refine yG.ifz rfl (t := 42) rfl ⟨by omega, by omega⟩ (fun c11 => ?_) (fun c11 => ?_)
      · have c11 : (z10 : Int) ≤ 0 := c11
        exfalso; omega
      · have c11 : (z10 : Int) > 0 := c11
        refine yG.ret rfl (fun _ _ => rfl) ?_
        exact (yP.void ⟨⟨rfl, trivial⟩, A_h9⟩)
  · have c2 : (z1 : Int) = 0 := c2
    clear R_z1
    refine yG.num (c := 1) rfl (fun _ _ => rfl) (by decide) ?_
    refine yG.goto rfl (t := 31) rfl ?_
    refine yG.putI A_hp.1 (w_M_thrown W H_k0) (W.2.1 _ _ H_k0 (by decide) (by decide)) rfl rfl (.inl rfl) ⟨by omega, by omega⟩ (by omega) (by omega) (fun h12 T_h12 b_h12 f_h12 y_h12 => ?_)
    have A_h12 := A_hp.put T_h12 b_h12 f_h12 H_k0 (by decide)
    have : ys h12 k0 0 = 1 := (y_h12 k0 0).trans (if_pos ⟨rfl, rfl⟩)
    refine yG.load xak rfl (fun _ _ => rfl) (v := yR k0) rfl rfl ?_
    refine yG.getI A_h12.1 (w_M_thrown W H_k0) rfl rfl (fun z13 e_z13 i_z13 l_z13 u_z13 => ?_)
    refine yG.ifz rfl (t := 42) rfl ⟨by omega, by omega⟩ (fun c14 => ?_) (fun c14 => ?_)
    · have c14 : (z13 : Int) ≤ 0 := c14
      exfalso; omega
    · have c14 : (z13 : Int) > 0 := c14
      refine yG.ret rfl (fun _ _ => rfl) ?_
      exact (yP.void ⟨⟨rfl, trivial⟩, A_h12⟩)
end MSimple
