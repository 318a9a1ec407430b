/-! ===== the reference: plain methods, printed by a program ===== -/
section YSimple
variable {G : zW}
def yQin (hp : xH) (v lo hi : Int) : Option xA → xH → Prop := fun rv hp' => (∃ z, rv = some (yI z) ∧ 0 ≤ z ∧ z ≤ 1 ∧ ((z = 1 ∧ lo ≤ v ∧ v ≤ hi) ∨ (z = 0 ∧ (v < lo ∨ hi < v)))) ∧ hp' = hp
theorem a_in {hp : xH} (W : yWW G) (d : Nat) (hT : zTy G hp) (p0 p2 p4 : Int) (h0l : (-9223372036854775808) ≤ p0) (h0u : p0 ≤ 9223372036854775807) (h2l : (-9223372036854775808) ≤ p2) (h2u : p2 ≤ 9223372036854775807) (h4l : (-9223372036854775808) ≤ p4) (h4u : p4 ≤ 9223372036854775807) : yC (xcall 89 xfts xpools xms (d + 1)) 416 [yJ (p0), yJ (p2), yJ (p4)] hp (yQin hp p0 p2 p4) := by
  have A_hp : yAx G [] [] hp hp := yAx.rf hT
  refine yC.of (M := (xt_X13_in, (6, (4, (14, []))))) rfl rfl (N := 39) (yfuel (by decide)) ?_
  show yG 89 xfts (xcall 89 xfts xpools xms d) (xpool xp_RX13) [] xt_X13_in (yP 4 (yQin hp p0 p2 p4)) 39 0 [(0, yJ (p0)), (2, yJ (p2)), (4, yJ (p4))] [] hp
  refine yG.load xlk2 rfl (fun _ _ => rfl) (v := yJ (p0)) rfl rfl ?_
  refine yG.load xlk2 rfl (fun _ _ => rfl) (v := yJ (p2)) rfl rfl ?_
  refine yG.lcmp rfl ⟨by omega, by omega⟩ ⟨by omega, by omega⟩ (fun z1 e_z1 => ?_)
  refine yG.ifz rfl (t := 17) rfl ⟨by omega, by omega⟩ (fun c2 => ?_) (fun c2 => ?_)
  · have c2 : (z1 : Int) < 0 := c2
    refine yG.num (c := 0) rfl (fun _ _ => rfl) (by decide) ?_
    refine yG.ret rfl (fun _ _ => rfl) ?_
    exact yP.bool (by omega) ⟨⟨0, rfl, by omega, by omega, by omega⟩, rfl⟩
  · have c2 : (z1 : Int) ≥ 0 := c2
    refine yG.load xlk2 rfl (fun _ _ => rfl) (v := yJ (p0)) rfl rfl ?_
    refine yG.load xlk2 rfl (fun _ _ => rfl) (v := yJ (p4)) rfl rfl ?_
    refine yG.lcmp rfl ⟨by omega, by omega⟩ ⟨by omega, by omega⟩ (fun z3 e_z3 => ?_)
    refine yG.ifz rfl (t := 17) rfl ⟨by omega, by omega⟩ (fun c4 => ?_) (fun c4 => ?_)
    · have c4 : (z3 : Int) > 0 := c4
      refine yG.num (c := 0) rfl (fun _ _ => rfl) (by decide) ?_
      refine yG.ret rfl (fun _ _ => rfl) ?_
      exact yP.bool (by omega) ⟨⟨0, rfl, by omega, by omega, by omega⟩, rfl⟩
    · have c4 : (z3 : Int) ≤ 0 := c4
      refine yG.num (c := 1) rfl (fun _ _ => rfl) (by decide) ?_
      refine yG.goto rfl (t := 18) rfl ?_
      refine yG.ret rfl (fun _ _ => rfl) ?_
      exact yP.bool (by omega) ⟨⟨1, rfl, by omega, by omega, by omega⟩, rfl⟩
theorem a_f {hp : xH} (W : yWW G) (d : Nat) (hT : zTy G hp) (p0 p1 p2 : Int) (h0l : 0 ≤ p0) (h0u : p0 ≤ 4) (h1l : 0 ≤ p1) (h1u : p1 ≤ 23) (h2l : 0 ≤ p2) (h2u : p2 ≤ 10) : yC (xcall 89 xfts xpools xms (d + 1)) 395 [yI (p0), yI (p1), yI (p2)] hp (yQei hp (264 * p0 + 11 * p1 + p2)) := by
  have A_hp : yAx G [] [] hp hp := yAx.rf hT
  refine yC.of (M := (xt_X13_f, (3, (1, (14, []))))) rfl rfl (N := 36) (yfuel (by decide)) ?_
  show yG 89 xfts (xcall 89 xfts xpools xms d) (xpool xp_RX13) [] xt_X13_f (yP 1 (yQei hp (264 * p0 + 11 * p1 + p2))) 36 0 [(0, yI (p0)), (1, yI (p1)), (2, yI (p2))] [] hp
  refine yG.num (c := 264) rfl (fun _ _ => rfl) (by decide) ?_
  refine yG.load xik rfl (fun _ _ => rfl) (v := yI (p0)) rfl rfl ?_
  refine yG.imul rfl ?_
  refine yG.num (c := 11) rfl (fun _ _ => rfl) (by decide) ?_
  refine yG.load xik rfl (fun _ _ => rfl) (v := yI (p1)) rfl rfl ?_
  refine yG.imul rfl ?_
  refine yG.iadd rfl ?_
  refine yG.load xik rfl (fun _ _ => rfl) (v := yI (p2)) rfl rfl ?_
  refine yG.iadd rfl ?_
  refine yG.ret rfl (fun _ _ => rfl) ?_
  exact yP.int ⟨by omega, by omega⟩ ⟨congrArg (fun z => some (yI z)) (by omega), rfl⟩
theorem a_isLetter {hp : xH} (W : yWW G) (d : Nat) (hT : zTy G hp) (p0 : Int) (h0l : (-2147483648) ≤ p0) (h0u : p0 ≤ 2147483647) : yC (xcall 89 xfts xpools xms (d + 1)) 429 [yI (p0)] hp (fun rv hp' => (∃ z, rv = some (yI z) ∧ 0 ≤ z ∧ z ≤ 1 ∧ (z = 1 → 0 ≤ p0 - 97 ∧ 0 ≤ 0 - p0 + 122)) ∧ hp' = hp) := by
  have A_hp : yAx G [] [] hp hp := yAx.rf hT
  refine yC.of (M := (xt_X13_isLetter, (1, (4, (14, []))))) rfl rfl (N := 33) (yfuel (by decide)) ?_
  show yG 89 xfts (xcall 89 xfts xpools xms d) (xpool xp_RX13) [] xt_X13_isLetter (yP 4 (fun rv hp' => (∃ z, rv = some (yI z) ∧ 0 ≤ z ∧ z ≤ 1 ∧ (z = 1 → 0 ≤ p0 - 97 ∧ 0 ≤ 0 - p0 + 122)) ∧ hp' = hp)) 33 0 [(0, yI (p0))] [] hp
  refine yG.load xik rfl (fun _ _ => rfl) (v := yI (p0)) rfl rfl ?_
  refine yG.num (c := 97) rfl (fun _ _ => rfl) (by decide) ?_
  refine yG.icmp rfl (t := 16) rfl ⟨by omega, by omega⟩ ⟨by omega, by omega⟩ (fun c1 => ?_) (fun c1 => ?_)
  · have c1 : (p0 : Int) < 97 := c1
    refine yG.num (c := 0) rfl (fun _ _ => rfl) (by decide) ?_
    refine yG.ret rfl (fun _ _ => rfl) ?_
    exact yP.bool (by omega) ⟨⟨0, rfl, by omega, by omega, by omega⟩, rfl⟩
  · have c1 : (p0 : Int) ≥ 97 := c1
    refine yG.load xik rfl (fun _ _ => rfl) (v := yI (p0)) rfl rfl ?_
    refine yG.num (c := 122) rfl (fun _ _ => rfl) (by decide) ?_
    refine yG.icmp rfl (t := 16) rfl ⟨by omega, by omega⟩ ⟨by omega, by omega⟩ (fun c2 => ?_) (fun c2 => ?_)
    · have c2 : (p0 : Int) > 122 := c2
      refine yG.num (c := 0) rfl (fun _ _ => rfl) (by decide) ?_
      refine yG.ret rfl (fun _ _ => rfl) ?_
      exact yP.bool (by omega) ⟨⟨0, rfl, by omega, by omega, by omega⟩, rfl⟩
    · have c2 : (p0 : Int) ≤ 122 := c2
      refine yG.num (c := 1) rfl (fun _ _ => rfl) (by decide) ?_
      refine yG.goto rfl (t := 17) rfl ?_
      refine yG.ret rfl (fun _ _ => rfl) ?_
      exact yP.bool (by omega) ⟨⟨1, rfl, by omega, by omega, by omega⟩, rfl⟩
theorem a_isFigure {hp : xH} (W : yWW G) (d : Nat) (hT : zTy G hp) (p0 : Int) (h0l : (-2147483648) ≤ p0) (h0u : p0 ≤ 2147483647) : yC (xcall 89 xfts xpools xms (d + 1)) 427 [yI (p0)] hp (fun rv hp' => (∃ z, rv = some (yI z) ∧ 0 ≤ z ∧ z ≤ 1 ∧ (z = 1 → 0 ≤ p0 - 48 ∧ 0 ≤ 0 - p0 + 57)) ∧ hp' = hp) := by
  have A_hp : yAx G [] [] hp hp := yAx.rf hT
  refine yC.of (M := (xt_X13_isFigure, (1, (4, (14, []))))) rfl rfl (N := 33) (yfuel (by decide)) ?_
  show yG 89 xfts (xcall 89 xfts xpools xms d) (xpool xp_RX13) [] xt_X13_isFigure (yP 4 (fun rv hp' => (∃ z, rv = some (yI z) ∧ 0 ≤ z ∧ z ≤ 1 ∧ (z = 1 → 0 ≤ p0 - 48 ∧ 0 ≤ 0 - p0 + 57)) ∧ hp' = hp)) 33 0 [(0, yI (p0))] [] hp
  refine yG.load xik rfl (fun _ _ => rfl) (v := yI (p0)) rfl rfl ?_
  refine yG.num (c := 48) rfl (fun _ _ => rfl) (by decide) ?_
  refine yG.icmp rfl (t := 16) rfl ⟨by omega, by omega⟩ ⟨by omega, by omega⟩ (fun c1 => ?_) (fun c1 => ?_)
  · have c1 : (p0 : Int) < 48 := c1
    refine yG.num (c := 0) rfl (fun _ _ => rfl) (by decide) ?_
    refine yG.ret rfl (fun _ _ => rfl) ?_
    exact yP.bool (by omega) ⟨⟨0, rfl, by omega, by omega, by omega⟩, rfl⟩
  · have c1 : (p0 : Int) ≥ 48 := c1
    refine yG.load xik rfl (fun _ _ => rfl) (v := yI (p0)) rfl rfl ?_
    refine yG.num (c := 57) rfl (fun _ _ => rfl) (by decide) ?_
    refine yG.icmp rfl (t := 16) rfl ⟨by omega, by omega⟩ ⟨by omega, by omega⟩ (fun c2 => ?_) (fun c2 => ?_)
    · have c2 : (p0 : Int) > 57 := c2
      refine yG.num (c := 0) rfl (fun _ _ => rfl) (by decide) ?_
      refine yG.ret rfl (fun _ _ => rfl) ?_
      exact yP.bool (by omega) ⟨⟨0, rfl, by omega, by omega, by omega⟩, rfl⟩
    · have c2 : (p0 : Int) ≤ 57 := c2
      refine yG.num (c := 1) rfl (fun _ _ => rfl) (by decide) ?_
      refine yG.goto rfl (t := 17) rfl ?_
      refine yG.ret rfl (fun _ _ => rfl) ?_
      exact yP.bool (by omega) ⟨⟨1, rfl, by omega, by omega, by omega⟩, rfl⟩
theorem a_most {hp : xH} (W : yWW G) (d : Nat) (hT : zTy G hp) (p0 : Int) (h0l : (-2147483648) ≤ p0) (h0u : p0 ≤ 2147483647) : yC (xcall 89 xfts xpools xms (d + 1)) 458 [yI (p0)] hp (yQpi hp 6 24) := by
  have A_hp : yAx G [] [] hp hp := yAx.rf hT
  refine yC.of (M := (xt_X13_most, (1, (1, (14, []))))) rfl rfl (N := 48) (yfuel (by decide)) ?_
  show yG 89 xfts (xcall 89 xfts xpools xms d) (xpool xp_RX13) [] xt_X13_most (yP 1 (yQpi hp 6 24)) 48 0 [(0, yI (p0))] [] hp
  refine yG.load xik rfl (fun _ _ => rfl) (v := yI (p0)) rfl rfl ?_
  refine yG.ifz rfl (t := 9) rfl ⟨by omega, by omega⟩ (fun c1 => ?_) (fun c1 => ?_)
  · have c1 : (p0 : Int) ≠ 0 := c1
    refine yG.load xik rfl (fun _ _ => rfl) (v := yI (p0)) rfl rfl ?_
    refine yG.num (c := 1) rfl (fun _ _ => rfl) (by decide) ?_
    refine yG.icmp rfl (t := 19) rfl ⟨by omega, by omega⟩ ⟨by omega, by omega⟩ (fun c2 => ?_) (fun c2 => ?_)
    · have c2 : (p0 : Int) ≠ 1 := c2
      refine yG.load xik rfl (fun _ _ => rfl) (v := yI (p0)) rfl rfl ?_
      refine yG.num (c := 2) rfl (fun _ _ => rfl) (by decide) ?_
      refine yG.icmp rfl (t := 29) rfl ⟨by omega, by omega⟩ ⟨by omega, by omega⟩ (fun c3 => ?_) (fun c3 => ?_)
      · have c3 : (p0 : Int) ≠ 2 := c3
        refine yG.load xik rfl (fun _ _ => rfl) (v := yI (p0)) rfl rfl ?_
        refine yG.num (c := 3) rfl (fun _ _ => rfl) (by decide) ?_
        refine yG.icmp rfl (t := 39) rfl ⟨by omega, by omega⟩ ⟨by omega, by omega⟩ (fun c4 => ?_) (fun c4 => ?_)
        · have c4 : (p0 : Int) ≠ 3 := c4
          refine yG.num (c := 12) rfl (fun _ _ => rfl) (by decide) ?_
          refine yG.ret rfl (fun _ _ => rfl) ?_
          exact yP.int ⟨by omega, by omega⟩ ⟨⟨12, rfl, by omega, by omega⟩, rfl⟩
        · have c4 : (p0 : Int) = 3 := c4
          refine yG.num (c := 6) rfl (fun _ _ => rfl) (by decide) ?_
          refine yG.goto rfl (t := 41) rfl ?_
          refine yG.ret rfl (fun _ _ => rfl) ?_
          exact yP.int ⟨by omega, by omega⟩ ⟨⟨6, rfl, by omega, by omega⟩, rfl⟩
      · have c3 : (p0 : Int) = 2 := c3
        refine yG.num (c := 20) rfl (fun _ _ => rfl) (by decide) ?_
        refine yG.goto rfl (t := 41) rfl ?_
        refine yG.ret rfl (fun _ _ => rfl) ?_
        exact yP.int ⟨by omega, by omega⟩ ⟨⟨20, rfl, by omega, by omega⟩, rfl⟩
    · have c2 : (p0 : Int) = 1 := c2
      refine yG.num (c := 24) rfl (fun _ _ => rfl) (by decide) ?_
      refine yG.goto rfl (t := 41) rfl ?_
      refine yG.ret rfl (fun _ _ => rfl) ?_
      exact yP.int ⟨by omega, by omega⟩ ⟨⟨24, rfl, by omega, by omega⟩, rfl⟩
  · have c1 : (p0 : Int) = 0 := c1
    refine yG.num (c := 16) rfl (fun _ _ => rfl) (by decide) ?_
    refine yG.goto rfl (t := 41) rfl ?_
    refine yG.ret rfl (fun _ _ => rfl) ?_
    exact yP.int ⟨by omega, by omega⟩ ⟨⟨16, rfl, by omega, by omega⟩, rfl⟩
theorem a_fields {hp : xH} (W : yWW G) (d : Nat) (hT : zTy G hp) (p0 : Int) (h0l : (-2147483648) ≤ p0) (h0u : p0 ≤ 2147483647) : yC (xcall 89 xfts xpools xms (d + 1)) 399 [yI (p0)] hp (yQpi hp 1 11) := by
  have A_hp : yAx G [] [] hp hp := yAx.rf hT
  refine yC.of (M := (xt_X13_fields, (1, (1, (14, []))))) rfl rfl (N := 48) (yfuel (by decide)) ?_
  show yG 89 xfts (xcall 89 xfts xpools xms d) (xpool xp_RX13) [] xt_X13_fields (yP 1 (yQpi hp 1 11)) 48 0 [(0, yI (p0))] [] hp
  refine yG.load xik rfl (fun _ _ => rfl) (v := yI (p0)) rfl rfl ?_
  refine yG.ifz rfl (t := 8) rfl ⟨by omega, by omega⟩ (fun c1 => ?_) (fun c1 => ?_)
  · have c1 : (p0 : Int) ≠ 0 := c1
    refine yG.load xik rfl (fun _ _ => rfl) (v := yI (p0)) rfl rfl ?_
    refine yG.num (c := 1) rfl (fun _ _ => rfl) (by decide) ?_
    refine yG.icmp rfl (t := 17) rfl ⟨by omega, by omega⟩ ⟨by omega, by omega⟩ (fun c2 => ?_) (fun c2 => ?_)
    · have c2 : (p0 : Int) ≠ 1 := c2
      refine yG.load xik rfl (fun _ _ => rfl) (v := yI (p0)) rfl rfl ?_
      refine yG.num (c := 2) rfl (fun _ _ => rfl) (by decide) ?_
      refine yG.icmp rfl (t := 27) rfl ⟨by omega, by omega⟩ ⟨by omega, by omega⟩ (fun c3 => ?_) (fun c3 => ?_)
      · have c3 : (p0 : Int) ≠ 2 := c3
        refine yG.load xik rfl (fun _ _ => rfl) (v := yI (p0)) rfl rfl ?_
        refine yG.num (c := 3) rfl (fun _ _ => rfl) (by decide) ?_
        refine yG.icmp rfl (t := 37) rfl ⟨by omega, by omega⟩ ⟨by omega, by omega⟩ (fun c4 => ?_) (fun c4 => ?_)
        · have c4 : (p0 : Int) ≠ 3 := c4
          refine yG.num (c := 2) rfl (fun _ _ => rfl) (by decide) ?_
          refine yG.ret rfl (fun _ _ => rfl) ?_
          exact yP.int ⟨by omega, by omega⟩ ⟨⟨2, rfl, by omega, by omega⟩, rfl⟩
        · have c4 : (p0 : Int) = 3 := c4
          refine yG.num (c := 11) rfl (fun _ _ => rfl) (by decide) ?_
          refine yG.goto rfl (t := 38) rfl ?_
          refine yG.ret rfl (fun _ _ => rfl) ?_
          exact yP.int ⟨by omega, by omega⟩ ⟨⟨11, rfl, by omega, by omega⟩, rfl⟩
      · have c3 : (p0 : Int) = 2 := c3
        refine yG.num (c := 6) rfl (fun _ _ => rfl) (by decide) ?_
        refine yG.goto rfl (t := 38) rfl ?_
        refine yG.ret rfl (fun _ _ => rfl) ?_
        exact yP.int ⟨by omega, by omega⟩ ⟨⟨6, rfl, by omega, by omega⟩, rfl⟩
    · have c2 : (p0 : Int) = 1 := c2
      refine yG.num (c := 5) rfl (fun _ _ => rfl) (by decide) ?_
      refine yG.goto rfl (t := 38) rfl ?_
      refine yG.ret rfl (fun _ _ => rfl) ?_
      exact yP.int ⟨by omega, by omega⟩ ⟨⟨5, rfl, by omega, by omega⟩, rfl⟩
  · have c1 : (p0 : Int) = 0 := c1
    refine yG.num (c := 1) rfl (fun _ _ => rfl) (by decide) ?_
    refine yG.goto rfl (t := 38) rfl ?_
    refine yG.ret rfl (fun _ _ => rfl) ?_
    exact yP.int ⟨by omega, by omega⟩ ⟨⟨1, rfl, by omega, by omega⟩, rfl⟩
theorem a_isOfBar {hp : xH} (W : yWW G) (d : Nat) (hT : zTy G hp) (p0 : Int) (h0l : (-2147483648) ≤ p0) (h0u : p0 ≤ 2147483647) : yC (xcall 89 xfts xpools xms (d + 1)) 434 [yI (p0)] hp (fun rv hp' => (∃ z, rv = some (yI z) ∧ 0 ≤ z ∧ z ≤ 1 ∧ (z = 1 → 0 ≤ p0 - 2 ∧ 0 ≤ 0 - p0 + 3)) ∧ hp' = hp) := by
  have A_hp : yAx G [] [] hp hp := yAx.rf hT
  refine yC.of (M := (xt_X13_isOfBar, (1, (4, (14, []))))) rfl rfl (N := 33) (yfuel (by decide)) ?_
  show yG 89 xfts (xcall 89 xfts xpools xms d) (xpool xp_RX13) [] xt_X13_isOfBar (yP 4 (fun rv hp' => (∃ z, rv = some (yI z) ∧ 0 ≤ z ∧ z ≤ 1 ∧ (z = 1 → 0 ≤ p0 - 2 ∧ 0 ≤ 0 - p0 + 3)) ∧ hp' = hp)) 33 0 [(0, yI (p0))] [] hp
  refine yG.load xik rfl (fun _ _ => rfl) (v := yI (p0)) rfl rfl ?_
  refine yG.num (c := 2) rfl (fun _ _ => rfl) (by decide) ?_
  refine yG.icmp rfl (t := 10) rfl ⟨by omega, by omega⟩ ⟨by omega, by omega⟩ (fun c1 => ?_) (fun c1 => ?_)
  · have c1 : (p0 : Int) = 2 := c1
    refine yG.num (c := 1) rfl (fun _ _ => rfl) (by decide) ?_
    refine yG.goto rfl (t := 15) rfl ?_
    refine yG.ret rfl (fun _ _ => rfl) ?_
    exact yP.bool (by omega) ⟨⟨1, rfl, by omega, by omega, by omega⟩, rfl⟩
  · have c1 : (p0 : Int) ≠ 2 := c1
    refine yG.load xik rfl (fun _ _ => rfl) (v := yI (p0)) rfl rfl ?_
    refine yG.num (c := 3) rfl (fun _ _ => rfl) (by decide) ?_
    refine yG.icmp rfl (t := 14) rfl ⟨by omega, by omega⟩ ⟨by omega, by omega⟩ (fun c2 => ?_) (fun c2 => ?_)
    · have c2 : (p0 : Int) ≠ 3 := c2
      refine yG.num (c := 0) rfl (fun _ _ => rfl) (by decide) ?_
      refine yG.ret rfl (fun _ _ => rfl) ?_
      exact yP.bool (by omega) ⟨⟨0, rfl, by omega, by omega, by omega⟩, rfl⟩
    · have c2 : (p0 : Int) = 3 := c2
      refine yG.num (c := 1) rfl (fun _ _ => rfl) (by decide) ?_
      refine yG.goto rfl (t := 15) rfl ?_
      refine yG.ret rfl (fun _ _ => rfl) ?_
      exact yP.bool (by omega) ⟨⟨1, rfl, by omega, by omega, by omega⟩, rfl⟩
theorem a_valueOf {hp : xH} (W : yWW G) (d : Nat) (hT : zTy G hp) (p0 : Int) (h0l : (-2147483648) ≤ p0) (h0u : p0 ≤ 2147483647) : yC (xcall 89 xfts xpools xms (d + 1)) 538 [yI (p0)] hp (yQpi hp 0 1) := by
  have A_hp : yAx G [] [] hp hp := yAx.rf hT
  refine yC.of (M := (xt_X13_valueOf, (1, (1, (14, []))))) rfl rfl (N := 42) (yfuel (by decide)) ?_
  show yG 89 xfts (xcall 89 xfts xpools xms d) (xpool xp_RX13) [] xt_X13_valueOf (yP 1 (yQpi hp 0 1)) 42 0 [(0, yI (p0))] [] hp
  refine yG.load xik rfl (fun _ _ => rfl) (v := yI (p0)) rfl rfl ?_
  refine yG.num (c := 1) rfl (fun _ _ => rfl) (by decide) ?_
  refine yG.icmp rfl (t := 15) rfl ⟨by omega, by omega⟩ ⟨by omega, by omega⟩ (fun c1 => ?_) (fun c1 => ?_)
  · have c1 : (p0 : Int) = 1 := c1
    refine yG.num (c := 1) rfl (fun _ _ => rfl) (by decide) ?_
    refine yG.goto rfl (t := 20) rfl ?_
    refine yG.ret rfl (fun _ _ => rfl) ?_
    exact yP.int ⟨by omega, by omega⟩ ⟨⟨1, rfl, by omega, by omega⟩, rfl⟩
  · have c1 : (p0 : Int) ≠ 1 := c1
    refine yG.load xik rfl (fun _ _ => rfl) (v := yI (p0)) rfl rfl ?_
    refine yG.num (c := 2) rfl (fun _ _ => rfl) (by decide) ?_
    refine yG.icmp rfl (t := 15) rfl ⟨by omega, by omega⟩ ⟨by omega, by omega⟩ (fun c2 => ?_) (fun c2 => ?_)
    · have c2 : (p0 : Int) = 2 := c2
      refine yG.num (c := 1) rfl (fun _ _ => rfl) (by decide) ?_
      refine yG.goto rfl (t := 20) rfl ?_
      refine yG.ret rfl (fun _ _ => rfl) ?_
      exact yP.int ⟨by omega, by omega⟩ ⟨⟨1, rfl, by omega, by omega⟩, rfl⟩
    · have c2 : (p0 : Int) ≠ 2 := c2
      refine yG.load xik rfl (fun _ _ => rfl) (v := yI (p0)) rfl rfl ?_
      refine yG.num (c := 4) rfl (fun _ _ => rfl) (by decide) ?_
      refine yG.icmp rfl (t := 19) rfl ⟨by omega, by omega⟩ ⟨by omega, by omega⟩ (fun c3 => ?_) (fun c3 => ?_)
      · have c3 : (p0 : Int) ≠ 4 := c3
        refine yG.num (c := 0) rfl (fun _ _ => rfl) (by decide) ?_
        refine yG.ret rfl (fun _ _ => rfl) ?_
        exact yP.int ⟨by omega, by omega⟩ ⟨⟨0, rfl, by omega, by omega⟩, rfl⟩
      · have c3 : (p0 : Int) = 4 := c3
        refine yG.num (c := 1) rfl (fun _ _ => rfl) (by decide) ?_
        refine yG.goto rfl (t := 20) rfl ?_
        refine yG.ret rfl (fun _ _ => rfl) ?_
        exact yP.int ⟨by omega, by omega⟩ ⟨⟨1, rfl, by omega, by omega⟩, rfl⟩
theorem a_cellOf {hp : xH} (W : yWW G) (d : Nat) (hT : zTy G hp) (p0 p1 p2 : Int) (h0l : 0 ≤ p0) (h0u : p0 ≤ 5) (h1l : 0 ≤ p1) (h1u : p1 ≤ 63) (h2l : 0 ≤ p2) (h2u : p2 ≤ 6) : yC (xcall 89 xfts xpools xms (d + 1)) 366 [yI (p0), yI (p1), yI (p2)] hp (yQei hp (448 * p0 + 7 * p1 + p2 + 264)) := by
  have A_hp : yAx G [] [] hp hp := yAx.rf hT
  refine yC.of (M := (xt_X13_cellOf, (3, (1, (14, []))))) rfl rfl (N := 42) (yfuel (by decide)) ?_
  show yG 89 xfts (xcall 89 xfts xpools xms d) (xpool xp_RX13) [] xt_X13_cellOf (yP 1 (yQei hp (448 * p0 + 7 * p1 + p2 + 264))) 42 0 [(0, yI (p0)), (1, yI (p1)), (2, yI (p2))] [] hp
  refine yG.num (c := 264) rfl (fun _ _ => rfl) (by decide) ?_
  refine yG.load xik rfl (fun _ _ => rfl) (v := yI (p0)) rfl rfl ?_
  refine yG.num (c := 64) rfl (fun _ _ => rfl) (by decide) ?_
  refine yG.imul rfl ?_
  refine yG.load xik rfl (fun _ _ => rfl) (v := yI (p1)) rfl rfl ?_
  refine yG.iadd rfl ?_
  refine yG.num (c := 7) rfl (fun _ _ => rfl) (by decide) ?_
  refine yG.imul rfl ?_
  refine yG.iadd rfl ?_
  refine yG.load xik rfl (fun _ _ => rfl) (v := yI (p2)) rfl rfl ?_
  refine yG.iadd rfl ?_
  refine yG.ret rfl (fun _ _ => rfl) ?_
  exact yP.int ⟨by omega, by omega⟩ ⟨congrArg (fun z => some (yI z)) (by omega), rfl⟩
theorem a_aimOf {hp : xH} (W : yWW G) (d : Nat) (hT : zTy G hp) (p0 p1 p2 : Int) (h0l : 0 ≤ p0) (h0u : p0 ≤ 5) (h1l : 0 ≤ p1) (h1u : p1 ≤ 6) (h2l : 0 ≤ p2) (h2u : p2 ≤ 5) : yC (xcall 89 xfts xpools xms (d + 1)) 348 [yI (p0), yI (p1), yI (p2)] hp (yQei hp (42 * p0 + 6 * p1 + p2 + 2952)) := by
  have A_hp : yAx G [] [] hp hp := yAx.rf hT
  refine yC.of (M := (xt_X13_aimOf, (3, (1, (14, []))))) rfl rfl (N := 42) (yfuel (by decide)) ?_
  show yG 89 xfts (xcall 89 xfts xpools xms d) (xpool xp_RX13) [] xt_X13_aimOf (yP 1 (yQei hp (42 * p0 + 6 * p1 + p2 + 2952))) 42 0 [(0, yI (p0)), (1, yI (p1)), (2, yI (p2))] [] hp
  refine yG.num (c := 2952) rfl (fun _ _ => rfl) (by decide) ?_
  refine yG.load xik rfl (fun _ _ => rfl) (v := yI (p0)) rfl rfl ?_
  refine yG.num (c := 7) rfl (fun _ _ => rfl) (by decide) ?_
  refine yG.imul rfl ?_
  refine yG.load xik rfl (fun _ _ => rfl) (v := yI (p1)) rfl rfl ?_
  refine yG.iadd rfl ?_
  refine yG.num (c := 6) rfl (fun _ _ => rfl) (by decide) ?_
  refine yG.imul rfl ?_
  refine yG.iadd rfl ?_
  refine yG.load xik rfl (fun _ _ => rfl) (v := yI (p2)) rfl rfl ?_
  refine yG.iadd rfl ?_
  refine yG.ret rfl (fun _ _ => rfl) ?_
  exact yP.int ⟨by omega, by omega⟩ ⟨congrArg (fun z => some (yI z)) (by omega), rfl⟩
theorem a_pointOf {hp : xH} (W : yWW G) (d : Nat) (hT : zTy G hp) (p0 p1 : Int) (h0l : 0 ≤ p0) (h0u : p0 ≤ 5) (h1l : 0 ≤ p1) (h1u : p1 ≤ 7) : yC (xcall 89 xfts xpools xms (d + 1)) 482 [yI (p0), yI (p1)] hp (yQei hp (8 * p0 + p1 + 3204)) := by
  have A_hp : yAx G [] [] hp hp := yAx.rf hT
  refine yC.of (M := (xt_X13_pointOf, (2, (1, (14, []))))) rfl rfl (N := 30) (yfuel (by decide)) ?_
  show yG 89 xfts (xcall 89 xfts xpools xms d) (xpool xp_RX13) [] xt_X13_pointOf (yP 1 (yQei hp (8 * p0 + p1 + 3204))) 30 0 [(0, yI (p0)), (1, yI (p1))] [] hp
  refine yG.num (c := 3204) rfl (fun _ _ => rfl) (by decide) ?_
  refine yG.load xik rfl (fun _ _ => rfl) (v := yI (p0)) rfl rfl ?_
  refine yG.num (c := 8) rfl (fun _ _ => rfl) (by decide) ?_
  refine yG.imul rfl ?_
  refine yG.iadd rfl ?_
  refine yG.load xik rfl (fun _ _ => rfl) (v := yI (p1)) rfl rfl ?_
  refine yG.iadd rfl ?_
  refine yG.ret rfl (fun _ _ => rfl) ?_
  exact yP.int ⟨by omega, by omega⟩ ⟨congrArg (fun z => some (yI z)) (by omega), rfl⟩
theorem a_changed {hp : xH} (W : yWW G) (d : Nat) (hT : zTy G hp) : yC (xcall 89 xfts xpools xms (d + 1)) 367 [yR 2073] hp (yQv G [40, 49, 62, 77, 90, 101] [] hp) := by
  have A_hp : yAx G [40, 49, 62, 77, 90, 101] [] hp hp := yAx.rf hT
  refine yC.of (M := (xt_X13_changed, (1, (0, (14, []))))) rfl rfl (N := 63) (yfuel (by decide)) ?_
  show yG 89 xfts (xcall 89 xfts xpools xms d) (xpool xp_RX13) [] xt_X13_changed (yP 0 (yQv G [40, 49, 62, 77, 90, 101] [] hp)) 63 0 [(0, yR 2073)] [] hp
  refine yG.load xak rfl (fun _ _ => rfl) (v := yR 2073) rfl rfl ?_
  refine yG.num (c := 0) rfl (fun _ _ => rfl) (by decide) ?_
  refine yG.putI A_hp.1 (w_hasRun W) (by decide) rfl rfl (.inr ⟨rfl, rfl, rfl⟩) ⟨by omega, by omega⟩ (by omega) (by omega) (fun h1 T_h1 b_h1 f_h1 y_h1 => ?_)
  have A_h1 := A_hp.putF T_h1 b_h1 f_h1 (by decide)
  have g90_h1 : ys h1 2073 90 = 0 := (y_h1 2073 90).trans (if_pos ⟨rfl, rfl⟩)
  refine yG.load xak rfl (fun _ _ => rfl) (v := yR 2073) rfl rfl ?_
  refine yG.num (c := 0) rfl (fun _ _ => rfl) (by decide) ?_
  refine yG.putI A_h1.1 (w_hasFlows W) (by decide) rfl rfl (.inr ⟨rfl, rfl, rfl⟩) ⟨by omega, by omega⟩ (by omega) (by omega) (fun h2 T_h2 b_h2 f_h2 y_h2 => ?_)
  have A_h2 := A_h1.putF T_h2 b_h2 f_h2 (by decide)
  have g90_h2 : ys h2 2073 90 = ys h1 2073 90 := (y_h2 2073 90).trans (if_neg (by omega))
  have g40_h2 : ys h2 2073 40 = 0 := (y_h2 2073 40).trans (if_pos ⟨rfl, rfl⟩)
  refine yG.load xak rfl (fun _ _ => rfl) (v := yR 2073) rfl rfl ?_
  refine yG.num (c := 0) rfl (fun _ _ => rfl) (by decide) ?_
  refine yG.putI A_h2.1 (w_hasTroubles W) (by decide) rfl rfl (.inr ⟨rfl, rfl, rfl⟩) ⟨by omega, by omega⟩ (by omega) (by omega) (fun h3 T_h3 b_h3 f_h3 y_h3 => ?_)
  have A_h3 := A_h2.putF T_h3 b_h3 f_h3 (by decide)
  have g90_h3 : ys h3 2073 90 = ys h2 2073 90 := (y_h3 2073 90).trans (if_neg (by omega))
  have g40_h3 : ys h3 2073 40 = ys h2 2073 40 := (y_h3 2073 40).trans (if_neg (by omega))
  have g49_h3 : ys h3 2073 49 = 0 := (y_h3 2073 49).trans (if_pos ⟨rfl, rfl⟩)
  refine yG.load xak rfl (fun _ _ => rfl) (v := yR 2073) rfl rfl ?_
  refine yG.num (c := 0) rfl (fun _ _ => rfl) (by decide) ?_
  refine yG.putI A_h3.1 (w_hasEstimates W) (by decide) rfl rfl (.inr ⟨rfl, rfl, rfl⟩) ⟨by omega, by omega⟩ (by omega) (by omega) (fun h4 T_h4 b_h4 f_h4 y_h4 => ?_)
  have A_h4 := A_h3.putF T_h4 b_h4 f_h4 (by decide)
  have g90_h4 : ys h4 2073 90 = ys h3 2073 90 := (y_h4 2073 90).trans (if_neg (by omega))
  have g40_h4 : ys h4 2073 40 = ys h3 2073 40 := (y_h4 2073 40).trans (if_neg (by omega))
  have g49_h4 : ys h4 2073 49 = ys h3 2073 49 := (y_h4 2073 49).trans (if_neg (by omega))
  have g62_h4 : ys h4 2073 62 = 0 := (y_h4 2073 62).trans (if_pos ⟨rfl, rfl⟩)
  refine yG.load xak rfl (fun _ _ => rfl) (v := yR 2073) rfl rfl ?_
  refine yG.num (c := 0) rfl (fun _ _ => rfl) (by decide) ?_
  refine yG.putI A_h4.1 (w_hasNetShort W) (by decide) rfl rfl (.inr ⟨rfl, rfl, rfl⟩) ⟨by omega, by omega⟩ (by omega) (by omega) (fun h5 T_h5 b_h5 f_h5 y_h5 => ?_)
  have A_h5 := A_h4.putF T_h5 b_h5 f_h5 (by decide)
  have g90_h5 : ys h5 2073 90 = ys h4 2073 90 := (y_h5 2073 90).trans (if_neg (by omega))
  have g40_h5 : ys h5 2073 40 = ys h4 2073 40 := (y_h5 2073 40).trans (if_neg (by omega))
  have g49_h5 : ys h5 2073 49 = ys h4 2073 49 := (y_h5 2073 49).trans (if_neg (by omega))
  have g62_h5 : ys h5 2073 62 = ys h4 2073 62 := (y_h5 2073 62).trans (if_neg (by omega))
  have g77_h5 : ys h5 2073 77 = 0 := (y_h5 2073 77).trans (if_pos ⟨rfl, rfl⟩)
  refine yG.load xak rfl (fun _ _ => rfl) (v := yR 2073) rfl rfl ?_
  refine yG.num (c := 0) rfl (fun _ _ => rfl) (by decide) ?_
  refine yG.putI A_h5.1 (w_hasDispatch W) (by decide) rfl rfl (.inl rfl) ⟨by omega, by omega⟩ (by omega) (by omega) (fun h6 T_h6 b_h6 f_h6 y_h6 => ?_)
  have A_h6 := A_h5.putF T_h6 b_h6 f_h6 (by decide)
  have g90_h6 : ys h6 2073 90 = ys h5 2073 90 := (y_h6 2073 90).trans (if_neg (by omega))
  have g40_h6 : ys h6 2073 40 = ys h5 2073 40 := (y_h6 2073 40).trans (if_neg (by omega))
  have g49_h6 : ys h6 2073 49 = ys h5 2073 49 := (y_h6 2073 49).trans (if_neg (by omega))
  have g62_h6 : ys h6 2073 62 = ys h5 2073 62 := (y_h6 2073 62).trans (if_neg (by omega))
  have g77_h6 : ys h6 2073 77 = ys h5 2073 77 := (y_h6 2073 77).trans (if_neg (by omega))
  have g101_h6 : ys h6 2073 101 = 0 := (y_h6 2073 101).trans (if_pos ⟨rfl, rfl⟩)
  refine yG.ret rfl (fun _ _ => rfl) ?_
  exact yP.void ⟨rfl, A_h6⟩
theorem a_thrown {hp : xH} (W : yWW G) (d : Nat) (hT : zTy G hp) : yC (xcall 89 xfts xpools xms (d + 1)) 530 [yR 2073] hp (yQpi hp 0 3) := by
  have A_hp : yAx G [] [] hp hp := yAx.rf hT
  refine yC.of (M := (xt_X13_thrown, (1, (1, (14, []))))) rfl rfl (N := 15) (yfuel (by decide)) ?_
  show yG 89 xfts (xcall 89 xfts xpools xms d) (xpool xp_RX13) [] xt_X13_thrown (yP 1 (yQpi hp 0 3)) 15 0 [(0, yR 2073)] [] hp
  refine yG.load xak rfl (fun _ _ => rfl) (v := yR 2073) rfl rfl ?_
  refine yG.getI A_hp.1 (w_thrown W) rfl rfl (fun z1 e_z1 i_z1 l_z1 u_z1 => ?_)
  refine yG.ret rfl (fun _ _ => rfl) ?_
  exact yP.int ⟨by omega, by omega⟩ ⟨⟨z1, rfl, by omega, by omega⟩, rfl⟩
theorem a_clearMatrix {hp : xH} (W : yWW G) (d : Nat) (hT : zTy G hp) (p1 p2 : Int) (h1l : 0 ≤ p1) (h1u : p1 ≤ 20) (h2l : 0 ≤ p2) (h2u : p2 ≤ 48) : yC (xcall 89 xfts xpools xms (d + 1)) 369 [yR 2073, yI (p1), yI (p2)] hp (yQv G [] [2083] hp) := by
  have A_hp : yAx G [] [2083] hp hp := yAx.rf hT
  have H : ∀ m : Nat, (∀ a3 : Int, ∀ hq, yAx G [] [2083] hp hq → 0 ≤ a3 → (-20) ≤ 0 - a3 → 0 ≤ p1 → (-20) ≤ 0 - p1 → 0 ≤ p2 → (-48) ≤ 0 - p2 → 0 ≤ 0 - a3 + p1 → 0 - 99 * a3 + 2078 < (m : Int) → yG 89 xfts (xcall 89 xfts xpools xms d) (xpool xp_RX13) [] xt_X13_clearMatrix (yP 0 (yQv G [] [2083] hp)) (16 * m) 2 [(0, yR 2073), (1, yI (p1)), (2, yI (p2)), (3, yI (a3))] [] hq) ∧ (∀ a3 a4 : Int, ∀ hq, yAx G [] [2083] hp hq → 0 ≤ a3 → (-19) ≤ 0 - a3 → 0 ≤ a4 → (-48) ≤ 0 - a4 → 1 ≤ p1 → (-20) ≤ 0 - p1 → 0 ≤ p2 → (-48) ≤ 0 - p2 → 1 ≤ 0 - a3 + p1 → 0 ≤ 0 - a4 + p2 → 0 - 99 * a3 - 2 * a4 + 2077 < (m : Int) → yG 89 xfts (xcall 89 xfts xpools xms d) (xpool xp_RX13) [] xt_X13_clearMatrix (yP 0 (yQv G [] [2083] hp)) (16 * m) 10 [(0, yR 2073), (1, yI (p1)), (2, yI (p2)), (3, yI (a3)), (4, yI (a4))] [] hq) := by
    intro m
    induction m with
    | zero =>
      refine ⟨?_, ?_⟩ <;> (intros; exfalso; omega)
    | succ m ih =>
      obtain ⟨i_2, i_10⟩ := ih
      refine ⟨?_, ?_⟩
      · intro a3 hq A_hq f0 f1 f2 f3 f4 f5 f6 hm
        refine yG.mono (N := 16 * m + 16) ?_ (by omega)
        refine yG.load xik rfl (fun _ _ => rfl) (v := yI (a3)) rfl rfl ?_
        refine yG.load xik rfl (fun _ _ => rfl) (v := yI (p1)) rfl rfl ?_
        refine yG.icmp rfl (t := 41) rfl ⟨by omega, by omega⟩ ⟨by omega, by omega⟩ (fun c1 => ?_) (fun c1 => ?_)
        · have c1 : (a3 : Int) ≥ p1 := c1
          refine yG.ret rfl (fun _ _ => rfl) ?_
          exact yP.void ⟨rfl, A_hq⟩
        · have c1 : (a3 : Int) < p1 := c1
          refine yG.num (c := 0) rfl (fun _ _ => rfl) (by decide) ?_
          refine yG.store1 xik (L' := [(4, yI (0)), (0, yR 2073), (1, yI (p1)), (2, yI (p2)), (3, yI (a3))]) rfl (fun _ _ => rfl) rfl rfl ?_
          exact yG.mono (yG.sub (i_10 (a3) (0)  hq A_hq  (by omega) (by omega) (by omega) (by omega) (by omega) (by omega) (by omega) (by omega) (by omega) (by omega) (by omega)) (ySub.cons rfl (ySub.cons rfl (ySub.cons rfl (ySub.cons rfl (ySub.cons rfl (ySub.nil))))))) (by omega)
      · intro a3 a4 hq A_hq f0 f1 f2 f3 f4 f5 f6 f7 f8 f9 hm
        refine yG.mono (N := 16 * m + 16) ?_ (by omega)
        refine yG.load xik rfl (fun _ _ => rfl) (v := yI (a4)) rfl rfl ?_
        refine yG.load xik rfl (fun _ _ => rfl) (v := yI (p2)) rfl rfl ?_
        refine yG.icmp rfl (t := 35) rfl ⟨by omega, by omega⟩ ⟨by omega, by omega⟩ (fun c1 => ?_) (fun c1 => ?_)
        · have c1 : (a4 : Int) ≥ p2 := c1
          refine yG.iinc rfl (a := a3) rfl (L' := [(3, yI (a3 + 1)), (0, yR 2073), (1, yI (p1)), (2, yI (p2)), (4, yI (a4))]) rfl ?_
          refine yG.goto rfl (t := 2) rfl ?_
          exact yG.mono (yG.sub (i_2 (a3 + 1)  hq A_hq  (by omega) (by omega) (by omega) (by omega) (by omega) (by omega) (by omega) (by omega)) (ySub.cons rfl (ySub.cons rfl (ySub.cons rfl (ySub.cons rfl (ySub.nil)))))) (by omega)
        · have c1 : (a4 : Int) < p2 := c1
          refine yG.load xak rfl (fun _ _ => rfl) (v := yR 2073) rfl rfl ?_
          refine yG.getR A_hq.1 (r_matrix W) rfl rfl ?_
          refine yG.num (c := 48) rfl (fun _ _ => rfl) (by decide) ?_
          refine yG.load xik rfl (fun _ _ => rfl) (v := yI (a3)) rfl rfl ?_
          refine yG.imul rfl ?_
          refine yG.load xik rfl (fun _ _ => rfl) (v := yI (a4)) rfl rfl ?_
          refine yG.iadd rfl ?_
          refine yG.numl (c := 0) rfl (fun _ _ => rfl) (by decide) ?_
          refine yG.last A_hq.1 (v_matrix W) (by decide) rfl (by omega) (by omega) ⟨by omega, by omega⟩ (by omega) (by omega) (fun h2 T_h2 b_h2 f_h2 y_h2 => ?_)
          have A_h2 := A_hq.putA T_h2 b_h2 f_h2 (by decide)
          refine yG.iinc rfl (a := a4) rfl (L' := [(4, yI (a4 + 1)), (0, yR 2073), (1, yI (p1)), (2, yI (p2)), (3, yI (a3))]) rfl ?_
          refine yG.goto rfl (t := 10) rfl ?_
          exact yG.mono (yG.sub (i_10 (a3) (a4 + 1)  h2 A_h2  (by omega) (by omega) (by omega) (by omega) (by omega) (by omega) (by omega) (by omega) (by omega) (by omega) (by omega)) (ySub.cons rfl (ySub.cons rfl (ySub.cons rfl (ySub.cons rfl (ySub.cons rfl (ySub.nil))))))) (by omega)
  refine yC.of (M := (xt_X13_clearMatrix, (5, (0, (14, []))))) rfl rfl (N := 33296) (yfuel (by decide)) ?_
  show yG 89 xfts (xcall 89 xfts xpools xms d) (xpool xp_RX13) [] xt_X13_clearMatrix (yP 0 (yQv G [] [2083] hp)) 33296 0 [(0, yR 2073), (1, yI (p1)), (2, yI (p2))] [] hp
  obtain ⟨i_2, i_10⟩ := H 2080
  refine yG.num (c := 0) rfl (fun _ _ => rfl) (by decide) ?_
  refine yG.store1 xik (L' := [(3, yI (0)), (0, yR 2073), (1, yI (p1)), (2, yI (p2))]) rfl (fun _ _ => rfl) rfl rfl ?_
  exact yG.mono (yG.sub (i_2 (0)  hp A_hp  (by omega) (by omega) (by omega) (by omega) (by omega) (by omega) (by omega) (by omega)) (ySub.cons rfl (ySub.cons rfl (ySub.cons rfl (ySub.cons rfl (ySub.nil)))))) (by omega)
theorem a_angleAt {hp : xH} (W : yWW G) (d : Nat) (hT : zTy G hp) (p1 p2 : Int) (h1l : 0 ≤ p1) (h1u : p1 ≤ 15) (h2l : 0 ≤ p2) (h2u : p2 ≤ 47) : yC (xcall 89 xfts xpools xms (d + 1)) 351 [yR 2073, yI (p1), yI (p2)] hp (yQpj hp 0 2147483647) := by
  have A_hp : yAx G [] [] hp hp := yAx.rf hT
  refine yC.of (M := (xt_X13_angleAt, (3, (2, (14, []))))) rfl rfl (N := 57) (yfuel (by decide)) ?_
  show yG 89 xfts (xcall 89 xfts xpools xms d) (xpool xp_RX13) [] xt_X13_angleAt (yP 2 (yQpj hp 0 2147483647)) 57 0 [(0, yR 2073), (1, yI (p1)), (2, yI (p2))] [] hp
  refine yG.load xak rfl (fun _ _ => rfl) (v := yR 2073) rfl rfl ?_
  refine yG.getR A_hp.1 (r_placeOf W) rfl rfl ?_
  refine yG.load xik rfl (fun _ _ => rfl) (v := yI (p1)) rfl rfl ?_
  refine yG.iald A_hp.1 (v_placeOf W) rfl (by omega) (by omega) (fun z1 e_z1 i_z1 l_z1 u_z1 => ?_)
  refine yG.ifz rfl (t := 13) rfl ⟨by omega, by omega⟩ (fun c2 => ?_) (fun c2 => ?_)
  · have c2 : (z1 : Int) ≥ 0 := c2
    refine yG.load xak rfl (fun _ _ => rfl) (v := yR 2073) rfl rfl ?_
    refine yG.getR A_hp.1 (r_matrix W) rfl rfl ?_
    refine yG.num (c := 48) rfl (fun _ _ => rfl) (by decide) ?_
    refine yG.load xak rfl (fun _ _ => rfl) (v := yR 2073) rfl rfl ?_
    refine yG.getR A_hp.1 (r_placeOf W) rfl rfl ?_
    refine yG.load xik rfl (fun _ _ => rfl) (v := yI (p1)) rfl rfl ?_
    refine yG.iald A_hp.1 (v_placeOf W) rfl (by omega) (by omega) (fun z3 e_z3 i_z3 l_z3 u_z3 => ?_)
    refine yG.imul rfl ?_
    refine yG.load xik rfl (fun _ _ => rfl) (v := yI (p2)) rfl rfl ?_
    refine yG.iadd rfl ?_
    refine yG.lald A_hp.1 (v_matrix W) rfl (by omega) (by omega) (fun z4 e_z4 i_z4 l_z4 u_z4 => ?_)
    refine yG.ret rfl (fun _ _ => rfl) ?_
    exact yP.long ⟨by omega, by omega⟩ ⟨⟨z4, rfl, by omega, by omega⟩, rfl⟩
  · have c2 : (z1 : Int) < 0 := c2
    refine yG.numl (c := 0) rfl (fun _ _ => rfl) (by decide) ?_
    refine yG.goto rfl (t := 29) rfl ?_
    refine yG.ret rfl (fun _ _ => rfl) ?_
    exact yP.long ⟨by omega, by omega⟩ ⟨⟨0, rfl, by omega, by omega⟩, rfl⟩
theorem a_merge_node {hp : xH} (W : yWW G) (d : Nat) (hT : zTy G hp) (p2 p3 : Int) (h2l : 0 ≤ p2) (h2u : p2 ≤ 15) (h3l : 0 ≤ p3) (h3u : p3 ≤ 15) : yC (xcall 89 xfts xpools xms (d + 1)) 454 [yR 2073, yR 2100, yI (p2), yI (p3)] hp (yQv G [] [2100] hp) := by
  have A_hp : yAx G [] [2100] hp hp := yAx.rf hT
  have H : ∀ m : Nat, (∀ a4 a5 a6 a7 : Int, ∀ hq, yAx G [] [2100] hp hq → 0 ≤ a4 → (-15) ≤ 0 - a4 → 0 ≤ a5 → (-15) ≤ 0 - a5 → 0 ≤ a6 → (-15) ≤ 0 - a6 → 0 ≤ a7 → (-16) ≤ 0 - a7 → 0 ≤ p2 → (-15) ≤ 0 - p2 → 0 ≤ p3 → (-15) ≤ 0 - p3 → 0 ≤ a4 - a6 → 0 ≤ a5 - a6 → 0 - 2 * a7 + 33 < (m : Int) → yG 89 xfts (xcall 89 xfts xpools xms d) (xpool xp_RX13) [] xt_X13_merge (yP 0 (yQv G [] [2100] hp)) (26 * m) 29 [(0, yR 2073), (1, yR 2100), (4, yI (a4)), (5, yI (a5)), (6, yI (a6)), (7, yI (a7))] [] hq) := by
    intro m
    induction m with
    | zero =>
      intros; exfalso; omega
    | succ m ih =>
      have i_29 := ih
      clear ih
      intro a4 a5 a6 a7 hq A_hq f0 f1 f2 f3 f4 f5 f6 f7 f8 f9 f10 f11 f12 f13 hm
      refine yG.mono (N := 26 * m + 26) ?_ (by omega)
      refine yG.load xik rfl (fun _ _ => rfl) (v := yI (a7)) rfl rfl ?_
      refine yG.load xak rfl (fun _ _ => rfl) (v := yR 2073) rfl rfl ?_
      refine yG.getR A_hq.1 (r_count W) rfl rfl ?_
      refine yG.num (c := 0) rfl (fun _ _ => rfl) (by decide) ?_
      refine yG.ialdF A_hq.1 (p_count W) rfl rfl (by omega) (by omega) (fun z1 e_z1 i_z1 l_z1 u_z1 => ?_)
      refine yG.icmp rfl (t := 77) rfl ⟨by omega, by omega⟩ ⟨by omega, by omega⟩ (fun c2 => ?_) (fun c2 => ?_)
      · have c2 : (a7 : Int) ≥ z1 := c2
        refine yG.ret rfl (fun _ _ => rfl) ?_
        exact yP.void ⟨rfl, A_hq⟩
      · have c2 : (a7 : Int) < z1 := c2
        refine yG.load xak rfl (fun _ _ => rfl) (v := yR 2100) rfl rfl ?_
        refine yG.load xik rfl (fun _ _ => rfl) (v := yI (a7)) rfl rfl ?_
        refine yG.load xak rfl (fun _ _ => rfl) (v := yR 2100) rfl rfl ?_
        refine yG.load xik rfl (fun _ _ => rfl) (v := yI (a7)) rfl rfl ?_
        refine yG.iald A_hq.1 (v_node W) rfl (by omega) (by omega) (fun z3 e_z3 i_z3 l_z3 u_z3 => ?_)
        refine yG.load xik rfl (fun _ _ => rfl) (v := yI (a4)) rfl rfl ?_
        refine yG.icmp rfl (t := 61) rfl ⟨by omega, by omega⟩ ⟨by omega, by omega⟩ (fun c4 => ?_) (fun c4 => ?_)
        · have c4 : (z3 : Int) = a4 := c4
          refine yG.load xik rfl (fun _ _ => rfl) (v := yI (a6)) rfl rfl ?_
          refine yG.goto rfl (t := 70) rfl ?_
          refine yG.iast A_hq.1 (v_node W) (by decide) rfl (by omega) (by omega) ⟨by omega, by omega⟩ (by omega) (by omega) (fun h5 T_h5 b_h5 f_h5 y_h5 => ?_)
          have A_h5 := A_hq.putA T_h5 b_h5 f_h5 (by decide)
          refine yG.iinc rfl (a := a7) rfl (L' := [(7, yI (a7 + 1)), (0, yR 2073), (1, yR 2100), (4, yI (a4)), (5, yI (a5)), (6, yI (a6))]) rfl ?_
          refine yG.goto rfl (t := 29) rfl ?_
          exact yG.mono (yG.sub (i_29 (a4) (a5) (a6) (a7 + 1)  h5 A_h5  (by omega) (by omega) (by omega) (by omega) (by omega) (by omega) (by omega) (by omega) (by omega) (by omega) (by omega) (by omega) (by omega) (by omega) (by omega)) (ySub.cons rfl (ySub.cons rfl (ySub.cons rfl (ySub.cons rfl (ySub.cons rfl (ySub.cons rfl (ySub.nil)))))))) (by omega)
        · have c4 : (z3 : Int) ≠ a4 := c4
          refine yG.load xak rfl (fun _ _ => rfl) (v := yR 2100) rfl rfl ?_
          refine yG.load xik rfl (fun _ _ => rfl) (v := yI (a7)) rfl rfl ?_
          refine yG.iald A_hq.1 (v_node W) rfl (by omega) (by omega) (fun z6 e_z6 i_z6 l_z6 u_z6 => ?_)
          refine yG.load xik rfl (fun _ _ => rfl) (v := yI (a5)) rfl rfl ?_
          refine yG.icmp rfl (t := 66) rfl ⟨by omega, by omega⟩ ⟨by omega, by omega⟩ (fun c7 => ?_) (fun c7 => ?_)
          · have c7 : (z6 : Int) ≠ a5 := c7
            refine yG.load xak rfl (fun _ _ => rfl) (v := yR 2100) rfl rfl ?_
            refine yG.load xik rfl (fun _ _ => rfl) (v := yI (a7)) rfl rfl ?_
            refine yG.iald A_hq.1 (v_node W) rfl (by omega) (by omega) (fun z8 e_z8 i_z8 l_z8 u_z8 => ?_)
            refine yG.iast A_hq.1 (v_node W) (by decide) rfl (by omega) (by omega) ⟨by omega, by omega⟩ (by omega) (by omega) (fun h9 T_h9 b_h9 f_h9 y_h9 => ?_)
            have A_h9 := A_hq.putA T_h9 b_h9 f_h9 (by decide)
            refine yG.iinc rfl (a := a7) rfl (L' := [(7, yI (a7 + 1)), (0, yR 2073), (1, yR 2100), (4, yI (a4)), (5, yI (a5)), (6, yI (a6))]) rfl ?_
            refine yG.goto rfl (t := 29) rfl ?_
            exact yG.mono (yG.sub (i_29 (a4) (a5) (a6) (a7 + 1)  h9 A_h9  (by omega) (by omega) (by omega) (by omega) (by omega) (by omega) (by omega) (by omega) (by omega) (by omega) (by omega) (by omega) (by omega) (by omega) (by omega)) (ySub.cons rfl (ySub.cons rfl (ySub.cons rfl (ySub.cons rfl (ySub.cons rfl (ySub.cons rfl (ySub.nil)))))))) (by omega)
          · have c7 : (z6 : Int) = a5 := c7
            refine yG.load xik rfl (fun _ _ => rfl) (v := yI (a6)) rfl rfl ?_
            refine yG.goto rfl (t := 70) rfl ?_
            refine yG.iast A_hq.1 (v_node W) (by decide) rfl (by omega) (by omega) ⟨by omega, by omega⟩ (by omega) (by omega) (fun h10 T_h10 b_h10 f_h10 y_h10 => ?_)
            have A_h10 := A_hq.putA T_h10 b_h10 f_h10 (by decide)
            refine yG.iinc rfl (a := a7) rfl (L' := [(7, yI (a7 + 1)), (0, yR 2073), (1, yR 2100), (4, yI (a4)), (5, yI (a5)), (6, yI (a6))]) rfl ?_
            refine yG.goto rfl (t := 29) rfl ?_
            exact yG.mono (yG.sub (i_29 (a4) (a5) (a6) (a7 + 1)  h10 A_h10  (by omega) (by omega) (by omega) (by omega) (by omega) (by omega) (by omega) (by omega) (by omega) (by omega) (by omega) (by omega) (by omega) (by omega) (by omega)) (ySub.cons rfl (ySub.cons rfl (ySub.cons rfl (ySub.cons rfl (ySub.cons rfl (ySub.cons rfl (ySub.nil)))))))) (by omega)
  refine yC.of (M := (xt_X13_merge, (8, (0, (14, []))))) rfl rfl (N := 936) (yfuel (by decide)) ?_
  show yG 89 xfts (xcall 89 xfts xpools xms d) (xpool xp_RX13) [] xt_X13_merge (yP 0 (yQv G [] [2100] hp)) 936 0 [(0, yR 2073), (1, yR 2100), (2, yI (p2)), (3, yI (p3))] [] hp
  have i_29 := H 35
  refine yG.load xak rfl (fun _ _ => rfl) (v := yR 2100) rfl rfl ?_
  refine yG.load xik rfl (fun _ _ => rfl) (v := yI (p2)) rfl rfl ?_
  refine yG.iald A_hp.1 (v_node W) rfl (by omega) (by omega) (fun z1 e_z1 i_z1 l_z1 u_z1 => ?_)
  refine yG.store1 xik (L' := [(4, yI (z1)), (0, yR 2073), (1, yR 2100), (2, yI (p2)), (3, yI (p3))]) rfl (fun _ _ => rfl) rfl rfl ?_
  refine yG.load xak rfl (fun _ _ => rfl) (v := yR 2100) rfl rfl ?_
  refine yG.load xik rfl (fun _ _ => rfl) (v := yI (p3)) rfl rfl ?_
  refine yG.iald A_hp.1 (v_node W) rfl (by omega) (by omega) (fun z2 e_z2 i_z2 l_z2 u_z2 => ?_)
  refine yG.store1 xik (L' := [(5, yI (z2)), (4, yI (z1)), (0, yR 2073), (1, yR 2100), (2, yI (p2)), (3, yI (p3))]) rfl (fun _ _ => rfl) rfl rfl ?_
  refine yG.load xik rfl (fun _ _ => rfl) (v := yI (z1)) rfl rfl ?_
  refine yG.load xik rfl (fun _ _ => rfl) (v := yI (z2)) rfl rfl ?_
  refine yG.icmp rfl (t := 22) rfl ⟨by omega, by omega⟩ ⟨by omega, by omega⟩ (fun c3 => ?_) (fun c3 => ?_)
  · have c3 : (z1 : Int) ≥ z2 := c3
    refine yG.load xik rfl (fun _ _ => rfl) (v := yI (z2)) rfl rfl ?_
    refine yG.store1 xik (L' := [(6, yI (z2)), (5, yI (z2)), (4, yI (z1)), (0, yR 2073), (1, yR 2100), (2, yI (p2)), (3, yI (p3))]) rfl (fun _ _ => rfl) rfl rfl ?_
    refine yG.num (c := 0) rfl (fun _ _ => rfl) (by decide) ?_
    refine yG.store1 xik (L' := [(7, yI (0)), (6, yI (z2)), (5, yI (z2)), (4, yI (z1)), (0, yR 2073), (1, yR 2100), (2, yI (p2)), (3, yI (p3))]) rfl (fun _ _ => rfl) rfl rfl ?_
    exact yG.mono (yG.sub (i_29 (z1) (z2) (z2) (0)  hp A_hp  (by omega) (by omega) (by omega) (by omega) (by omega) (by omega) (by omega) (by omega) (by omega) (by omega) (by omega) (by omega) (by omega) (by omega) (by omega)) (ySub.cons rfl (ySub.cons rfl (ySub.cons rfl (ySub.cons rfl (ySub.cons rfl (ySub.cons rfl (ySub.nil)))))))) (by omega)
  · have c3 : (z1 : Int) < z2 := c3
    refine yG.load xik rfl (fun _ _ => rfl) (v := yI (z1)) rfl rfl ?_
    refine yG.goto rfl (t := 24) rfl ?_
    refine yG.store1 xik (L' := [(6, yI (z1)), (5, yI (z2)), (4, yI (z1)), (0, yR 2073), (1, yR 2100), (2, yI (p2)), (3, yI (p3))]) rfl (fun _ _ => rfl) rfl rfl ?_
    refine yG.num (c := 0) rfl (fun _ _ => rfl) (by decide) ?_
    refine yG.store1 xik (L' := [(7, yI (0)), (6, yI (z1)), (5, yI (z2)), (4, yI (z1)), (0, yR 2073), (1, yR 2100), (2, yI (p2)), (3, yI (p3))]) rfl (fun _ _ => rfl) rfl rfl ?_
    exact yG.mono (yG.sub (i_29 (z1) (z2) (z1) (0)  hp A_hp  (by omega) (by omega) (by omega) (by omega) (by omega) (by omega) (by omega) (by omega) (by omega) (by omega) (by omega) (by omega) (by omega) (by omega) (by omega)) (ySub.cons rfl (ySub.cons rfl (ySub.cons rfl (ySub.cons rfl (ySub.cons rfl (ySub.cons rfl (ySub.nil)))))))) (by omega)
theorem a_merge_island {hp : xH} (W : yWW G) (d : Nat) (hT : zTy G hp) (p2 p3 : Int) (h2l : 0 ≤ p2) (h2u : p2 ≤ 15) (h3l : 0 ≤ p3) (h3u : p3 ≤ 15) : yC (xcall 89 xfts xpools xms (d + 1)) 454 [yR 2073, yR 2101, yI (p2), yI (p3)] hp (yQv G [] [2101] hp) := by
  have A_hp : yAx G [] [2101] hp hp := yAx.rf hT
  have H : ∀ m : Nat, (∀ a4 a5 a6 a7 : Int, ∀ hq, yAx G [] [2101] hp hq → 0 ≤ a4 → (-15) ≤ 0 - a4 → 0 ≤ a5 → (-15) ≤ 0 - a5 → 0 ≤ a6 → (-15) ≤ 0 - a6 → 0 ≤ a7 → (-16) ≤ 0 - a7 → 0 ≤ p2 → (-15) ≤ 0 - p2 → 0 ≤ p3 → (-15) ≤ 0 - p3 → 0 ≤ a4 - a6 → 0 ≤ a5 - a6 → 0 - 2 * a7 + 33 < (m : Int) → yG 89 xfts (xcall 89 xfts xpools xms d) (xpool xp_RX13) [] xt_X13_merge (yP 0 (yQv G [] [2101] hp)) (26 * m) 29 [(0, yR 2073), (1, yR 2101), (4, yI (a4)), (5, yI (a5)), (6, yI (a6)), (7, yI (a7))] [] hq) := by
    intro m
    induction m with
    | zero =>
      intros; exfalso; omega
    | succ m ih =>
      have i_29 := ih
      clear ih
      intro a4 a5 a6 a7 hq A_hq f0 f1 f2 f3 f4 f5 f6 f7 f8 f9 f10 f11 f12 f13 hm
      refine yG.mono (N := 26 * m + 26) ?_ (by omega)
      refine yG.load xik rfl (fun _ _ => rfl) (v := yI (a7)) rfl rfl ?_
      refine yG.load xak rfl (fun _ _ => rfl) (v := yR 2073) rfl rfl ?_
      refine yG.getR A_hq.1 (r_count W) rfl rfl ?_
      refine yG.num (c := 0) rfl (fun _ _ => rfl) (by decide) ?_
      refine yG.ialdF A_hq.1 (p_count W) rfl rfl (by omega) (by omega) (fun z1 e_z1 i_z1 l_z1 u_z1 => ?_)
      refine yG.icmp rfl (t := 77) rfl ⟨by omega, by omega⟩ ⟨by omega, by omega⟩ (fun c2 => ?_) (fun c2 => ?_)
      · have c2 : (a7 : Int) ≥ z1 := c2
        refine yG.ret rfl (fun _ _ => rfl) ?_
        exact yP.void ⟨rfl, A_hq⟩
      · have c2 : (a7 : Int) < z1 := c2
        refine yG.load xak rfl (fun _ _ => rfl) (v := yR 2101) rfl rfl ?_
        refine yG.load xik rfl (fun _ _ => rfl) (v := yI (a7)) rfl rfl ?_
        refine yG.load xak rfl (fun _ _ => rfl) (v := yR 2101) rfl rfl ?_
        refine yG.load xik rfl (fun _ _ => rfl) (v := yI (a7)) rfl rfl ?_
        refine yG.iald A_hq.1 (v_island W) rfl (by omega) (by omega) (fun z3 e_z3 i_z3 l_z3 u_z3 => ?_)
        refine yG.load xik rfl (fun _ _ => rfl) (v := yI (a4)) rfl rfl ?_
        refine yG.icmp rfl (t := 61) rfl ⟨by omega, by omega⟩ ⟨by omega, by omega⟩ (fun c4 => ?_) (fun c4 => ?_)
        · have c4 : (z3 : Int) = a4 := c4
          refine yG.load xik rfl (fun _ _ => rfl) (v := yI (a6)) rfl rfl ?_
          refine yG.goto rfl (t := 70) rfl ?_
          refine yG.iast A_hq.1 (v_island W) (by decide) rfl (by omega) (by omega) ⟨by omega, by omega⟩ (by omega) (by omega) (fun h5 T_h5 b_h5 f_h5 y_h5 => ?_)
          have A_h5 := A_hq.putA T_h5 b_h5 f_h5 (by decide)
          refine yG.iinc rfl (a := a7) rfl (L' := [(7, yI (a7 + 1)), (0, yR 2073), (1, yR 2101), (4, yI (a4)), (5, yI (a5)), (6, yI (a6))]) rfl ?_
          refine yG.goto rfl (t := 29) rfl ?_
          exact yG.mono (yG.sub (i_29 (a4) (a5) (a6) (a7 + 1)  h5 A_h5  (by omega) (by omega) (by omega) (by omega) (by omega) (by omega) (by omega) (by omega) (by omega) (by omega) (by omega) (by omega) (by omega) (by omega) (by omega)) (ySub.cons rfl (ySub.cons rfl (ySub.cons rfl (ySub.cons rfl (ySub.cons rfl (ySub.cons rfl (ySub.nil)))))))) (by omega)
        · have c4 : (z3 : Int) ≠ a4 := c4
          refine yG.load xak rfl (fun _ _ => rfl) (v := yR 2101) rfl rfl ?_
          refine yG.load xik rfl (fun _ _ => rfl) (v := yI (a7)) rfl rfl ?_
          refine yG.iald A_hq.1 (v_island W) rfl (by omega) (by omega) (fun z6 e_z6 i_z6 l_z6 u_z6 => ?_)
          refine yG.load xik rfl (fun _ _ => rfl) (v := yI (a5)) rfl rfl ?_
          refine yG.icmp rfl (t := 66) rfl ⟨by omega, by omega⟩ ⟨by omega, by omega⟩ (fun c7 => ?_) (fun c7 => ?_)
          · have c7 : (z6 : Int) ≠ a5 := c7
            refine yG.load xak rfl (fun _ _ => rfl) (v := yR 2101) rfl rfl ?_
            refine yG.load xik rfl (fun _ _ => rfl) (v := yI (a7)) rfl rfl ?_
            refine yG.iald A_hq.1 (v_island W) rfl (by omega) (by omega) (fun z8 e_z8 i_z8 l_z8 u_z8 => ?_)
            refine yG.iast A_hq.1 (v_island W) (by decide) rfl (by omega) (by omega) ⟨by omega, by omega⟩ (by omega) (by omega) (fun h9 T_h9 b_h9 f_h9 y_h9 => ?_)
            have A_h9 := A_hq.putA T_h9 b_h9 f_h9 (by decide)
            refine yG.iinc rfl (a := a7) rfl (L' := [(7, yI (a7 + 1)), (0, yR 2073), (1, yR 2101), (4, yI (a4)), (5, yI (a5)), (6, yI (a6))]) rfl ?_
            refine yG.goto rfl (t := 29) rfl ?_
            exact yG.mono (yG.sub (i_29 (a4) (a5) (a6) (a7 + 1)  h9 A_h9  (by omega) (by omega) (by omega) (by omega) (by omega) (by omega) (by omega) (by omega) (by omega) (by omega) (by omega) (by omega) (by omega) (by omega) (by omega)) (ySub.cons rfl (ySub.cons rfl (ySub.cons rfl (ySub.cons rfl (ySub.cons rfl (ySub.cons rfl (ySub.nil)))))))) (by omega)
          · have c7 : (z6 : Int) = a5 := c7
            refine yG.load xik rfl (fun _ _ => rfl) (v := yI (a6)) rfl rfl ?_
            refine yG.goto rfl (t := 70) rfl ?_
            refine yG.iast A_hq.1 (v_island W) (by decide) rfl (by omega) (by omega) ⟨by omega, by omega⟩ (by omega) (by omega) (fun h10 T_h10 b_h10 f_h10 y_h10 => ?_)
            have A_h10 := A_hq.putA T_h10 b_h10 f_h10 (by decide)
            refine yG.iinc rfl (a := a7) rfl (L' := [(7, yI (a7 + 1)), (0, yR 2073), (1, yR 2101), (4, yI (a4)), (5, yI (a5)), (6, yI (a6))]) rfl ?_
            refine yG.goto rfl (t := 29) rfl ?_
            exact yG.mono (yG.sub (i_29 (a4) (a5) (a6) (a7 + 1)  h10 A_h10  (by omega) (by omega) (by omega) (by omega) (by omega) (by omega) (by omega) (by omega) (by omega) (by omega) (by omega) (by omega) (by omega) (by omega) (by omega)) (ySub.cons rfl (ySub.cons rfl (ySub.cons rfl (ySub.cons rfl (ySub.cons rfl (ySub.cons rfl (ySub.nil)))))))) (by omega)
  refine yC.of (M := (xt_X13_merge, (8, (0, (14, []))))) rfl rfl (N := 936) (yfuel (by decide)) ?_
  show yG 89 xfts (xcall 89 xfts xpools xms d) (xpool xp_RX13) [] xt_X13_merge (yP 0 (yQv G [] [2101] hp)) 936 0 [(0, yR 2073), (1, yR 2101), (2, yI (p2)), (3, yI (p3))] [] hp
  have i_29 := H 35
  refine yG.load xak rfl (fun _ _ => rfl) (v := yR 2101) rfl rfl ?_
  refine yG.load xik rfl (fun _ _ => rfl) (v := yI (p2)) rfl rfl ?_
  refine yG.iald A_hp.1 (v_island W) rfl (by omega) (by omega) (fun z1 e_z1 i_z1 l_z1 u_z1 => ?_)
  refine yG.store1 xik (L' := [(4, yI (z1)), (0, yR 2073), (1, yR 2101), (2, yI (p2)), (3, yI (p3))]) rfl (fun _ _ => rfl) rfl rfl ?_
  refine yG.load xak rfl (fun _ _ => rfl) (v := yR 2101) rfl rfl ?_
  refine yG.load xik rfl (fun _ _ => rfl) (v := yI (p3)) rfl rfl ?_
  refine yG.iald A_hp.1 (v_island W) rfl (by omega) (by omega) (fun z2 e_z2 i_z2 l_z2 u_z2 => ?_)
  refine yG.store1 xik (L' := [(5, yI (z2)), (4, yI (z1)), (0, yR 2073), (1, yR 2101), (2, yI (p2)), (3, yI (p3))]) rfl (fun _ _ => rfl) rfl rfl ?_
  refine yG.load xik rfl (fun _ _ => rfl) (v := yI (z1)) rfl rfl ?_
  refine yG.load xik rfl (fun _ _ => rfl) (v := yI (z2)) rfl rfl ?_
  refine yG.icmp rfl (t := 22) rfl ⟨by omega, by omega⟩ ⟨by omega, by omega⟩ (fun c3 => ?_) (fun c3 => ?_)
  · have c3 : (z1 : Int) ≥ z2 := c3
    refine yG.load xik rfl (fun _ _ => rfl) (v := yI (z2)) rfl rfl ?_
    refine yG.store1 xik (L' := [(6, yI (z2)), (5, yI (z2)), (4, yI (z1)), (0, yR 2073), (1, yR 2101), (2, yI (p2)), (3, yI (p3))]) rfl (fun _ _ => rfl) rfl rfl ?_
    refine yG.num (c := 0) rfl (fun _ _ => rfl) (by decide) ?_
    refine yG.store1 xik (L' := [(7, yI (0)), (6, yI (z2)), (5, yI (z2)), (4, yI (z1)), (0, yR 2073), (1, yR 2101), (2, yI (p2)), (3, yI (p3))]) rfl (fun _ _ => rfl) rfl rfl ?_
    exact yG.mono (yG.sub (i_29 (z1) (z2) (z2) (0)  hp A_hp  (by omega) (by omega) (by omega) (by omega) (by omega) (by omega) (by omega) (by omega) (by omega) (by omega) (by omega) (by omega) (by omega) (by omega) (by omega)) (ySub.cons rfl (ySub.cons rfl (ySub.cons rfl (ySub.cons rfl (ySub.cons rfl (ySub.cons rfl (ySub.nil)))))))) (by omega)
  · have c3 : (z1 : Int) < z2 := c3
    refine yG.load xik rfl (fun _ _ => rfl) (v := yI (z1)) rfl rfl ?_
    refine yG.goto rfl (t := 24) rfl ?_
    refine yG.store1 xik (L' := [(6, yI (z1)), (5, yI (z2)), (4, yI (z1)), (0, yR 2073), (1, yR 2101), (2, yI (p2)), (3, yI (p3))]) rfl (fun _ _ => rfl) rfl rfl ?_
    refine yG.num (c := 0) rfl (fun _ _ => rfl) (by decide) ?_
    refine yG.store1 xik (L' := [(7, yI (0)), (6, yI (z1)), (5, yI (z2)), (4, yI (z1)), (0, yR 2073), (1, yR 2101), (2, yI (p2)), (3, yI (p3))]) rfl (fun _ _ => rfl) rfl rfl ?_
    exact yG.mono (yG.sub (i_29 (z1) (z2) (z1) (0)  hp A_hp  (by omega) (by omega) (by omega) (by omega) (by omega) (by omega) (by omega) (by omega) (by omega) (by omega) (by omega) (by omega) (by omega) (by omega) (by omega)) (ySub.cons rfl (ySub.cons rfl (ySub.cons rfl (ySub.cons rfl (ySub.cons rfl (ySub.cons rfl (ySub.nil)))))))) (by omega)
theorem a_listNodes {hp : xH} (W : yWW G) (d : Nat) (hT : zTy G hp) (p1 : Int) (h1l : (-1) ≤ p1) (h1u : p1 ≤ 15) : yC (xcall 89 xfts xpools xms (d + 1)) 445 [yR 2073, yI (p1)] hp (yQv G [38] [2103, 2104] hp) := by
  have A_hp : yAx G [38] [2103, 2104] hp hp := yAx.rf hT
  have H : ∀ m : Nat, (∀ a2 gg38 : Int, ∀ hq, yAx G [38] [2103, 2104] hp hq → ys hq 2073 38 = gg38 → 0 ≤ a2 → (-16) ≤ 0 - a2 → 0 ≤ gg38 → (-16) ≤ 0 - gg38 → (-1) ≤ p1 → (-15) ≤ 0 - p1 → 0 ≤ a2 - gg38 → (-16) ≤ 0 - gg38 + p1 → 0 - 2 * a2 + 33 < (m : Int) → yG 89 xfts (xcall 89 xfts xpools xms d) (xpool xp_RX13) [] xt_X13_listNodes (yP 0 (yQv G [38] [2103, 2104] hp)) (42 * m) 7 [(0, yR 2073), (1, yI (p1)), (2, yI (a2))] [] hq) := by
    intro m
    induction m with
    | zero =>
      intros; exfalso; omega
    | succ m ih =>
      have i_7 := ih
      clear ih
      intro a2 gg38 hq A_hq E_38 f0 f1 f2 f3 f4 f5 f6 f7 hm
      refine yG.mono (N := 42 * m + 42) ?_ (by omega)
      refine yG.load xik rfl (fun _ _ => rfl) (v := yI (a2)) rfl rfl ?_
      refine yG.load xak rfl (fun _ _ => rfl) (v := yR 2073) rfl rfl ?_
      refine yG.getR A_hq.1 (r_count W) rfl rfl ?_
      refine yG.num (c := 0) rfl (fun _ _ => rfl) (by decide) ?_
      refine yG.ialdF A_hq.1 (p_count W) rfl rfl (by omega) (by omega) (fun z1 e_z1 i_z1 l_z1 u_z1 => ?_)
      refine yG.icmp rfl (t := 75) rfl ⟨by omega, by omega⟩ ⟨by omega, by omega⟩ (fun c2 => ?_) (fun c2 => ?_)
      · have c2 : (a2 : Int) ≥ z1 := c2
        refine yG.ret rfl (fun _ _ => rfl) ?_
        exact yP.void ⟨rfl, A_hq⟩
      · have c2 : (a2 : Int) < z1 := c2
        refine yG.load xak rfl (fun _ _ => rfl) (v := yR 2073) rfl rfl ?_
        refine yG.getR A_hq.1 (r_island W) rfl rfl ?_
        refine yG.load xik rfl (fun _ _ => rfl) (v := yI (a2)) rfl rfl ?_
        refine yG.iald A_hq.1 (v_island W) rfl (by omega) (by omega) (fun z3 e_z3 i_z3 l_z3 u_z3 => ?_)
        refine yG.load xik rfl (fun _ _ => rfl) (v := yI (p1)) rfl rfl ?_
        refine yG.icmp rfl (t := 69) rfl ⟨by omega, by omega⟩ ⟨by omega, by omega⟩ (fun c4 => ?_) (fun c4 => ?_)
        · have c4 : (z3 : Int) ≠ p1 := c4
          refine yG.iinc rfl (a := a2) rfl (L' := [(2, yI (a2 + 1)), (0, yR 2073), (1, yI (p1))]) rfl ?_
          refine yG.goto rfl (t := 7) rfl ?_
          exact yG.mono (yG.sub (i_7 (a2 + 1) (ys hq 2073 38) hq A_hq rfl (by omega) (by omega) (by omega) (by omega) (by omega) (by omega) (by omega) (by omega) (by omega)) (ySub.cons rfl (ySub.cons rfl (ySub.cons rfl (ySub.nil))))) (by omega)
        · have c4 : (z3 : Int) = p1 := c4
          refine yG.load xak rfl (fun _ _ => rfl) (v := yR 2073) rfl rfl ?_
          refine yG.getR A_hq.1 (r_node W) rfl rfl ?_
          refine yG.load xik rfl (fun _ _ => rfl) (v := yI (a2)) rfl rfl ?_
          refine yG.iald A_hq.1 (v_node W) rfl (by omega) (by omega) (fun z5 e_z5 i_z5 l_z5 u_z5 => ?_)
          refine yG.load xik rfl (fun _ _ => rfl) (v := yI (a2)) rfl rfl ?_
          refine yG.icmp rfl (t := 69) rfl ⟨by omega, by omega⟩ ⟨by omega, by omega⟩ (fun c6 => ?_) (fun c6 => ?_)
          · have c6 : (z5 : Int) ≠ a2 := c6
            refine yG.iinc rfl (a := a2) rfl (L' := [(2, yI (a2 + 1)), (0, yR 2073), (1, yI (p1))]) rfl ?_
            refine yG.goto rfl (t := 7) rfl ?_
            exact yG.mono (yG.sub (i_7 (a2 + 1) (ys hq 2073 38) hq A_hq rfl (by omega) (by omega) (by omega) (by omega) (by omega) (by omega) (by omega) (by omega) (by omega)) (ySub.cons rfl (ySub.cons rfl (ySub.cons rfl (ySub.nil))))) (by omega)
          · have c6 : (z5 : Int) = a2 := c6
            refine yG.load xak rfl (fun _ _ => rfl) (v := yR 2073) rfl rfl ?_
            refine yG.getR A_hq.1 (r_nodeAt W) rfl rfl ?_
            refine yG.load xak rfl (fun _ _ => rfl) (v := yR 2073) rfl rfl ?_
            refine yG.getI A_hq.1 (w_nodes W) rfl rfl (fun z7 e_z7 i_z7 l_z7 u_z7 => ?_)
            refine yG.load xik rfl (fun _ _ => rfl) (v := yI (a2)) rfl rfl ?_
            refine yG.iast A_hq.1 (v_nodeAt W) (by decide) rfl (by omega) (by omega) ⟨by omega, by omega⟩ (by omega) (by omega) (fun h8 T_h8 b_h8 f_h8 y_h8 => ?_)
            have A_h8 := A_hq.putA T_h8 b_h8 f_h8 (by decide)
            have g38_h8 : ys h8 2073 38 = ys hq 2073 38 := (y_h8 2073 38).trans (if_neg (by omega))
            refine yG.load xak rfl (fun _ _ => rfl) (v := yR 2073) rfl rfl ?_
            refine yG.getR A_h8.1 (r_placeOf W) rfl rfl ?_
            refine yG.load xik rfl (fun _ _ => rfl) (v := yI (a2)) rfl rfl ?_
            refine yG.load xak rfl (fun _ _ => rfl) (v := yR 2073) rfl rfl ?_
            refine yG.getI A_h8.1 (w_nodes W) rfl rfl (fun z9 e_z9 i_z9 l_z9 u_z9 => ?_)
            refine yG.num (c := 1) rfl (fun _ _ => rfl) (by decide) ?_
            refine yG.isub rfl ?_
            refine yG.iast A_h8.1 (v_placeOf W) (by decide) rfl (by omega) (by omega) ⟨by omega, by omega⟩ (by omega) (by omega) (fun h10 T_h10 b_h10 f_h10 y_h10 => ?_)
            have A_h10 := A_h8.putA T_h10 b_h10 f_h10 (by decide)
            have g38_h10 : ys h10 2073 38 = ys h8 2073 38 := (y_h10 2073 38).trans (if_neg (by omega))
            refine yG.load xak rfl (fun _ _ => rfl) (v := yR 2073) rfl rfl ?_
            refine yG.step (pc' := 61) (stk' := [yR 2073, yR 2073]) rfl (fun _ _ => rfl) ?_
            refine yG.getI A_h10.1 (w_nodes W) rfl rfl (fun z11 e_z11 i_z11 l_z11 u_z11 => ?_)
            refine yG.num (c := 1) rfl (fun _ _ => rfl) (by decide) ?_
            refine yG.iadd rfl ?_
            refine yG.putI A_h10.1 (w_nodes W) (by decide) rfl rfl (.inl rfl) ⟨by omega, by omega⟩ (by omega) (by omega) (fun h12 T_h12 b_h12 f_h12 y_h12 => ?_)
            have A_h12 := A_h10.putF T_h12 b_h12 f_h12 (by decide)
            have g38_h12 : ys h12 2073 38 = z11 + 1 := (y_h12 2073 38).trans (if_pos ⟨rfl, rfl⟩)
            refine yG.iinc rfl (a := a2) rfl (L' := [(2, yI (a2 + 1)), (0, yR 2073), (1, yI (p1))]) rfl ?_
            refine yG.goto rfl (t := 7) rfl ?_
            exact yG.mono (yG.sub (i_7 (a2 + 1) (ys h12 2073 38) h12 A_h12 rfl (by omega) (by omega) (by omega) (by omega) (by omega) (by omega) (by omega) (by omega) (by omega)) (ySub.cons rfl (ySub.cons rfl (ySub.cons rfl (ySub.nil))))) (by omega)
  refine yC.of (M := (xt_X13_listNodes, (3, (0, (14, []))))) rfl rfl (N := 1512) (yfuel (by decide)) ?_
  show yG 89 xfts (xcall 89 xfts xpools xms d) (xpool xp_RX13) [] xt_X13_listNodes (yP 0 (yQv G [38] [2103, 2104] hp)) 1512 0 [(0, yR 2073), (1, yI (p1))] [] hp
  have i_7 := H 35
  obtain ⟨gg38, E_38⟩ : ∃ z : Int, ys hp 2073 38 = z := ⟨_, rfl⟩
  obtain ⟨-, -, r_38l, r_38u⟩ := (w_nodes W).int hT
  refine yG.load xak rfl (fun _ _ => rfl) (v := yR 2073) rfl rfl ?_
  refine yG.num (c := 0) rfl (fun _ _ => rfl) (by decide) ?_
  refine yG.putI A_hp.1 (w_nodes W) (by decide) rfl rfl (.inl rfl) ⟨by omega, by omega⟩ (by omega) (by omega) (fun h1 T_h1 b_h1 f_h1 y_h1 => ?_)
  have A_h1 := A_hp.putF T_h1 b_h1 f_h1 (by decide)
  have g38_h1 : ys h1 2073 38 = 0 := (y_h1 2073 38).trans (if_pos ⟨rfl, rfl⟩)
  refine yG.num (c := 0) rfl (fun _ _ => rfl) (by decide) ?_
  refine yG.store1 xik (L' := [(2, yI (0)), (0, yR 2073), (1, yI (p1))]) rfl (fun _ _ => rfl) rfl rfl ?_
  exact yG.mono (yG.sub (i_7 (0) (ys h1 2073 38) h1 A_h1 rfl (by omega) (by omega) (by omega) (by omega) (by omega) (by omega) (by omega) (by omega) (by omega)) (ySub.cons rfl (ySub.cons rfl (ySub.cons rfl (ySub.nil))))) (by omega)
theorem a_swap {hp : xH} (W : yWW G) (d : Nat) (hT : zTy G hp) (p1 p2 p3 : Int) (h1l : 0 ≤ p1) (h1u : p1 ≤ 19) (h2l : 0 ≤ p2) (h2u : p2 ≤ 19) (h3l : 0 ≤ p3) (h3u : p3 ≤ 48) : yC (xcall 89 xfts xpools xms (d + 1)) 524 [yR 2073, yI (p1), yI (p2), yI (p3)] hp (yQv G [] [2083] hp) := by
  have A_hp : yAx G [] [2083] hp hp := yAx.rf hT
  have H : ∀ m : Nat, (∀ a4 : Int, ∀ hq, yAx G [] [2083] hp hq → 0 ≤ a4 → (-48) ≤ 0 - a4 → 0 ≤ p1 → (-19) ≤ 0 - p1 → 0 ≤ p2 → (-19) ≤ 0 - p2 → 0 ≤ p3 → (-48) ≤ 0 - p3 → 0 ≤ 0 - a4 + p3 → 0 - 2 * a4 + 97 < (m : Int) → yG 89 xfts (xcall 89 xfts xpools xms d) (xpool xp_RX13) [] xt_X13_swap (yP 0 (yQv G [] [2083] hp)) (41 * m) 3 [(0, yR 2073), (1, yI (p1)), (2, yI (p2)), (3, yI (p3)), (4, yI (a4))] [] hq) := by
    intro m
    induction m with
    | zero =>
      intros; exfalso; omega
    | succ m ih =>
      have i_3 := ih
      clear ih
      intro a4 hq A_hq f0 f1 f2 f3 f4 f5 f6 f7 f8 hm
      refine yG.mono (N := 41 * m + 41) ?_ (by omega)
      refine yG.load xik rfl (fun _ _ => rfl) (v := yI (a4)) rfl rfl ?_
      refine yG.load xik rfl (fun _ _ => rfl) (v := yI (p3)) rfl rfl ?_
      refine yG.icmp rfl (t := 67) rfl ⟨by omega, by omega⟩ ⟨by omega, by omega⟩ (fun c1 => ?_) (fun c1 => ?_)
      · have c1 : (a4 : Int) ≥ p3 := c1
        refine yG.ret rfl (fun _ _ => rfl) ?_
        exact yP.void ⟨rfl, A_hq⟩
      · have c1 : (a4 : Int) < p3 := c1
        refine yG.load xak rfl (fun _ _ => rfl) (v := yR 2073) rfl rfl ?_
        refine yG.getR A_hq.1 (r_matrix W) rfl rfl ?_
        refine yG.num (c := 48) rfl (fun _ _ => rfl) (by decide) ?_
        refine yG.load xik rfl (fun _ _ => rfl) (v := yI (p1)) rfl rfl ?_
        refine yG.imul rfl ?_
        refine yG.load xik rfl (fun _ _ => rfl) (v := yI (a4)) rfl rfl ?_
        refine yG.iadd rfl ?_
        refine yG.lald A_hq.1 (v_matrix W) rfl (by omega) (by omega) (fun z2 e_z2 i_z2 l_z2 u_z2 => ?_)
        refine yG.store2 xlk2 (L' := [(5, yJ (z2)), (0, yR 2073), (1, yI (p1)), (2, yI (p2)), (3, yI (p3)), (4, yI (a4))]) rfl (fun _ _ => rfl) rfl rfl ?_
        refine yG.load xak rfl (fun _ _ => rfl) (v := yR 2073) rfl rfl ?_
        refine yG.getR A_hq.1 (r_matrix W) rfl rfl ?_
        refine yG.num (c := 48) rfl (fun _ _ => rfl) (by decide) ?_
        refine yG.load xik rfl (fun _ _ => rfl) (v := yI (p1)) rfl rfl ?_
        refine yG.imul rfl ?_
        refine yG.load xik rfl (fun _ _ => rfl) (v := yI (a4)) rfl rfl ?_
        refine yG.iadd rfl ?_
        refine yG.load xak rfl (fun _ _ => rfl) (v := yR 2073) rfl rfl ?_
        refine yG.getR A_hq.1 (r_matrix W) rfl rfl ?_
        refine yG.num (c := 48) rfl (fun _ _ => rfl) (by decide) ?_
        refine yG.load xik rfl (fun _ _ => rfl) (v := yI (p2)) rfl rfl ?_
        refine yG.imul rfl ?_
        refine yG.load xik rfl (fun _ _ => rfl) (v := yI (a4)) rfl rfl ?_
        refine yG.iadd rfl ?_
        refine yG.lald A_hq.1 (v_matrix W) rfl (by omega) (by omega) (fun z3 e_z3 i_z3 l_z3 u_z3 => ?_)
        refine yG.last A_hq.1 (v_matrix W) (by decide) rfl (by omega) (by omega) ⟨by omega, by omega⟩ (by omega) (by omega) (fun h4 T_h4 b_h4 f_h4 y_h4 => ?_)
        have A_h4 := A_hq.putA T_h4 b_h4 f_h4 (by decide)
        refine yG.load xak rfl (fun _ _ => rfl) (v := yR 2073) rfl rfl ?_
        refine yG.getR A_h4.1 (r_matrix W) rfl rfl ?_
        refine yG.num (c := 48) rfl (fun _ _ => rfl) (by decide) ?_
        refine yG.load xik rfl (fun _ _ => rfl) (v := yI (p2)) rfl rfl ?_
        refine yG.imul rfl ?_
        refine yG.load xik rfl (fun _ _ => rfl) (v := yI (a4)) rfl rfl ?_
        refine yG.iadd rfl ?_
        refine yG.load xlk2 rfl (fun _ _ => rfl) (v := yJ (z2)) rfl rfl ?_
        refine yG.last A_h4.1 (v_matrix W) (by decide) rfl (by omega) (by omega) ⟨by omega, by omega⟩ (by omega) (by omega) (fun h5 T_h5 b_h5 f_h5 y_h5 => ?_)
        have A_h5 := A_h4.putA T_h5 b_h5 f_h5 (by decide)
        refine yG.iinc rfl (a := a4) rfl (L' := [(4, yI (a4 + 1)), (5, yJ (z2)), (0, yR 2073), (1, yI (p1)), (2, yI (p2)), (3, yI (p3))]) rfl ?_
        refine yG.goto rfl (t := 3) rfl ?_
        exact yG.mono (yG.sub (i_3 (a4 + 1)  h5 A_h5  (by omega) (by omega) (by omega) (by omega) (by omega) (by omega) (by omega) (by omega) (by omega) (by omega)) (ySub.cons rfl (ySub.cons rfl (ySub.cons rfl (ySub.cons rfl (ySub.cons rfl (ySub.nil))))))) (by omega)
  refine yC.of (M := (xt_X13_swap, (7, (0, (14, []))))) rfl rfl (N := 4100) (yfuel (by decide)) ?_
  show yG 89 xfts (xcall 89 xfts xpools xms d) (xpool xp_RX13) [] xt_X13_swap (yP 0 (yQv G [] [2083] hp)) 4100 0 [(0, yR 2073), (1, yI (p1)), (2, yI (p2)), (3, yI (p3))] [] hp
  have i_3 := H 99
  refine yG.num (c := 0) rfl (fun _ _ => rfl) (by decide) ?_
  refine yG.store1 xik (L' := [(4, yI (0)), (0, yR 2073), (1, yI (p1)), (2, yI (p2)), (3, yI (p3))]) rfl (fun _ _ => rfl) rfl rfl ?_
  exact yG.mono (yG.sub (i_3 (0)  hp A_hp  (by omega) (by omega) (by omega) (by omega) (by omega) (by omega) (by omega) (by omega) (by omega) (by omega)) (ySub.cons rfl (ySub.cons rfl (ySub.cons rfl (ySub.cons rfl (ySub.cons rfl (ySub.nil))))))) (by omega)
theorem a_isDue {hp : xH} (W : yWW G) (d : Nat) (hT : zTy G hp) (p1 p2 : Int) (h1l : 0 ≤ p1) (h1u : p1 ≤ 15) (h2l : 0 ≤ p2) (h2u : p2 ≤ 3) : yC (xcall 89 xfts xpools xms (d + 1)) 426 [yR 2073, yI (p1), yI (p2)] hp (yQpi hp 0 1) := by
  have A_hp : yAx G [] [] hp hp := yAx.rf hT
  refine yC.of (M := (xt_X13_isDue, (3, (4, (14, []))))) rfl rfl (N := 75) (yfuel (by decide)) ?_
  show yG 89 xfts (xcall 89 xfts xpools xms d) (xpool xp_RX13) [] xt_X13_isDue (yP 4 (yQpi hp 0 1)) 75 0 [(0, yR 2073), (1, yI (p1)), (2, yI (p2))] [] hp
  refine yG.load xak rfl (fun _ _ => rfl) (v := yR 2073) rfl rfl ?_
  refine yG.getR A_hp.1 (r_since W) rfl rfl ?_
  refine yG.num (c := 4) rfl (fun _ _ => rfl) (by decide) ?_
  refine yG.load xik rfl (fun _ _ => rfl) (v := yI (p1)) rfl rfl ?_
  refine yG.imul rfl ?_
  refine yG.load xik rfl (fun _ _ => rfl) (v := yI (p2)) rfl rfl ?_
  refine yG.iadd rfl ?_
  refine yG.lald A_hp.1 (v_since W) rfl (by omega) (by omega) (fun z1 e_z1 i_z1 l_z1 u_z1 => ?_)
  refine yG.numl (c := 0) rfl (fun _ _ => rfl) (by decide) ?_
  refine yG.lcmp rfl ⟨by omega, by omega⟩ ⟨by omega, by omega⟩ (fun z2 e_z2 => ?_)
  refine yG.ifz rfl (t := 32) rfl ⟨by omega, by omega⟩ (fun c3 => ?_) (fun c3 => ?_)
  · have c3 : (z2 : Int) < 0 := c3
    refine yG.num (c := 0) rfl (fun _ _ => rfl) (by decide) ?_
    refine yG.ret rfl (fun _ _ => rfl) ?_
    exact yP.bool (by omega) ⟨⟨0, rfl, by omega, by omega⟩, rfl⟩
  · have c3 : (z2 : Int) ≥ 0 := c3
    refine yG.load xak rfl (fun _ _ => rfl) (v := yR 2073) rfl rfl ?_
    refine yG.getR A_hp.1 (r_hasTripped W) rfl rfl ?_
    refine yG.num (c := 4) rfl (fun _ _ => rfl) (by decide) ?_
    refine yG.load xik rfl (fun _ _ => rfl) (v := yI (p1)) rfl rfl ?_
    refine yG.imul rfl ?_
    refine yG.load xik rfl (fun _ _ => rfl) (v := yI (p2)) rfl rfl ?_
    refine yG.iadd rfl ?_
    refine yG.bald A_hp.1 (v_hasTripped W) rfl (by omega) (by omega) (fun z4 e_z4 i_z4 l_z4 u_z4 => ?_)
    refine yG.ifz rfl (t := 32) rfl ⟨by omega, by omega⟩ (fun c5 => ?_) (fun c5 => ?_)
    · have c5 : (z4 : Int) ≠ 0 := c5
      refine yG.num (c := 0) rfl (fun _ _ => rfl) (by decide) ?_
      refine yG.ret rfl (fun _ _ => rfl) ?_
      exact yP.bool (by omega) ⟨⟨0, rfl, by omega, by omega⟩, rfl⟩
    · have c5 : (z4 : Int) = 0 := c5
      refine yG.num (c := 1) rfl (fun _ _ => rfl) (by decide) ?_
      refine yG.goto rfl (t := 33) rfl ?_
      refine yG.ret rfl (fun _ _ => rfl) ?_
      exact yP.bool (by omega) ⟨⟨1, rfl, by omega, by omega⟩, rfl⟩
theorem yfT_of {s i k : Nat} (hi : i < 24) (hk : k < 11) : yfT (264 * s + 11 * i + k) = yfT (264 * s + k) := by
  unfold yfT
  rw [show (264 * s + 11 * i + k) / 264 = (264 * s + k) / 264 by omega, show (264 * s + 11 * i + k) % 264 % 11 = (264 * s + k) % 264 % 11 by omega]
theorem y_of {hp : xH} (W : yWW G) (d : Nat) (hT : zTy G hp) (s k : Nat) (i lo hi : Int) (h0 : 0 ≤ i) (h1 : i ≤ 23) (hs : s < 5) (hk : k < 11) (ht : yfT (264 * s + k) = (0, (lo, hi))) : yC (xcall 89 xfts xpools xms (d + 2)) 471 [yR 2073, yI (s : Int), yI i, yI (k : Int)] hp (yQpi hp lo hi) := by
  obtain ⟨i, rfl⟩ : ∃ n : Nat, i = (n : Int) := ⟨i.toNat, by omega⟩
  refine yC.of (M := (xt_X13_of, (4, (1, (14, []))))) rfl rfl (N := 20) (yfuel (by decide)) ?_
  show yG 89 xfts (xcall 89 xfts xpools xms (d + 1)) (xpool xp_RX13) [] xt_X13_of (yP 1 (yQpi hp lo hi)) 20 0 [(0, yR 2073), (1, yI (s : Int)), (2, yI (i : Int)), (3, yI (k : Int))] [] hp
  refine yG.load xak rfl (fun _ _ => rfl) (v := yR 2073) rfl rfl ?_
  refine yG.getR hT (r_field W) rfl rfl ?_
  refine yG.load xik rfl (fun _ _ => rfl) (v := yI (s : Int)) rfl rfl ?_
  refine yG.load xik rfl (fun _ _ => rfl) (v := yI (i : Int)) rfl rfl ?_
  refine yG.load xik rfl (fun _ _ => rfl) (v := yI (k : Int)) rfl rfl ?_
  refine yG.invS (rest := [yR 2089]) rfl rfl rfl rfl (a_f W d hT (s : Int) (i : Int) (k : Int) (by omega) (by omega) (by omega) (by omega) (by omega) (by omega)) (fun rv hp9 q9 => ?_)
  obtain ⟨rfl, e9⟩ := q9
  rw [e9]
  have e : (264 * (s : Int) + 11 * (i : Int) + (k : Int) : Int) = ((264 * s + 11 * i + k : Nat) : Int) := by omega
  rw [e]
  show yG _ _ _ _ _ _ _ _ _ _ (yI ((264 * s + 11 * i + k : Nat) : Int) :: [yR 2089]) _
  refine yG.ialdF hT (p_field W) (lo := lo) (hi := hi) (show yfT (264 * s + 11 * i + k) = _ from (yfT_of (i := i) (by omega) hk).trans ht) rfl (by omega) (by omega) (fun z e_z i_z l_z u_z => ?_)
  refine yG.ret rfl (fun _ _ => rfl) ?_
  exact yP.int ⟨i_z.1, i_z.2⟩ ⟨⟨z, rfl, l_z, u_z⟩, rfl⟩
theorem a_of_any {hp : xH} (W : yWW G) (d : Nat) (hT : zTy G hp) (p1 p2 p3 : Int) (h0 : 0 ≤ p1) (h1 : p1 ≤ 4) (h2 : 0 ≤ p2) (h3 : p2 ≤ 23) (h4 : 0 ≤ p3) (h5 : p3 ≤ 10) : yC (xcall 89 xfts xpools xms (d + 2)) 471 [yR 2073, yI p1, yI p2, yI p3] hp (yQpi hp 0 999999) := by
  obtain ⟨s, rfl⟩ : ∃ n : Nat, p1 = (n : Int) := ⟨p1.toNat, by omega⟩
  obtain ⟨k, rfl⟩ : ∃ n : Nat, p3 = (n : Int) := ⟨p3.toNat, by omega⟩
  obtain ⟨lo, hi, e, b1, b2⟩ := yfT_h (264 * s + k)
  obtain ⟨rv, hp', c1, ⟨z, c2, c3, c4⟩, c5⟩ := y_of W d hT s k p2 lo hi h2 h3 (by omega) (by omega) e
  exact ⟨rv, hp', c1, ⟨z, c2, by omega, by omega⟩, c5⟩
theorem a_of_0_0 {hp : xH} (W : yWW G) (d : Nat) (hT : zTy G hp) (p2 : Int) (h0 : 0 ≤ p2) (h1 : p2 ≤ 23) : yC (xcall 89 xfts xpools xms (d + 2)) 471 [yR 2073, yI 0, yI p2, yI 0] hp (yQpi hp 0 1) := y_of W d hT 0 0 p2 0 1 h0 h1 (by decide) (by decide) rfl
theorem a_of_1_0 {hp : xH} (W : yWW G) (d : Nat) (hT : zTy G hp) (p2 : Int) (h0 : 0 ≤ p2) (h1 : p2 ≤ 23) : yC (xcall 89 xfts xpools xms (d + 2)) 471 [yR 2073, yI 1, yI p2, yI 0] hp (yQpi hp 0 2) := y_of W d hT 1 0 p2 0 2 h0 h1 (by decide) (by decide) rfl
theorem a_of_1_1 {hp : xH} (W : yWW G) (d : Nat) (hT : zTy G hp) (p2 : Int) (h0 : 0 ≤ p2) (h1 : p2 ≤ 23) : yC (xcall 89 xfts xpools xms (d + 2)) 471 [yR 2073, yI 1, yI p2, yI 1] hp (yQpi hp 0 999999) := y_of W d hT 1 1 p2 0 999999 h0 h1 (by decide) (by decide) rfl
theorem a_of_1_2 {hp : xH} (W : yWW G) (d : Nat) (hT : zTy G hp) (p2 : Int) (h0 : 0 ≤ p2) (h1 : p2 ≤ 23) : yC (xcall 89 xfts xpools xms (d + 2)) 471 [yR 2073, yI 1, yI p2, yI 2] hp (yQpi hp 0 1) := y_of W d hT 1 2 p2 0 1 h0 h1 (by decide) (by decide) rfl
theorem a_of_1_3 {hp : xH} (W : yWW G) (d : Nat) (hT : zTy G hp) (p2 : Int) (h0 : 0 ≤ p2) (h1 : p2 ≤ 23) : yC (xcall 89 xfts xpools xms (d + 2)) 471 [yR 2073, yI 1, yI p2, yI 3] hp (yQpi hp 0 15) := y_of W d hT 1 3 p2 0 15 h0 h1 (by decide) (by decide) rfl
theorem a_of_1_4 {hp : xH} (W : yWW G) (d : Nat) (hT : zTy G hp) (p2 : Int) (h0 : 0 ≤ p2) (h1 : p2 ≤ 23) : yC (xcall 89 xfts xpools xms (d + 2)) 471 [yR 2073, yI 1, yI p2, yI 4] hp (yQpi hp 0 15) := y_of W d hT 1 4 p2 0 15 h0 h1 (by decide) (by decide) rfl
theorem a_of_2_0 {hp : xH} (W : yWW G) (d : Nat) (hT : zTy G hp) (p2 : Int) (h0 : 0 ≤ p2) (h1 : p2 ≤ 23) : yC (xcall 89 xfts xpools xms (d + 2)) 471 [yR 2073, yI 2, yI p2, yI 0] hp (yQpi hp 0 1) := y_of W d hT 2 0 p2 0 1 h0 h1 (by decide) (by decide) rfl
theorem a_of_2_1 {hp : xH} (W : yWW G) (d : Nat) (hT : zTy G hp) (p2 : Int) (h0 : 0 ≤ p2) (h1 : p2 ≤ 23) : yC (xcall 89 xfts xpools xms (d + 2)) 471 [yR 2073, yI 2, yI p2, yI 1] hp (yQpi hp 0 99) := y_of W d hT 2 1 p2 0 99 h0 h1 (by decide) (by decide) rfl
theorem a_of_2_2 {hp : xH} (W : yWW G) (d : Nat) (hT : zTy G hp) (p2 : Int) (h0 : 0 ≤ p2) (h1 : p2 ≤ 23) : yC (xcall 89 xfts xpools xms (d + 2)) 471 [yR 2073, yI 2, yI p2, yI 2] hp (yQpi hp 0 299) := y_of W d hT 2 2 p2 0 299 h0 h1 (by decide) (by decide) rfl
theorem a_of_2_3 {hp : xH} (W : yWW G) (d : Nat) (hT : zTy G hp) (p2 : Int) (h0 : 0 ≤ p2) (h1 : p2 ≤ 23) : yC (xcall 89 xfts xpools xms (d + 2)) 471 [yR 2073, yI 2, yI p2, yI 3] hp (yQpi hp 0 9999) := y_of W d hT 2 3 p2 0 9999 h0 h1 (by decide) (by decide) rfl
theorem a_of_2_4 {hp : xH} (W : yWW G) (d : Nat) (hT : zTy G hp) (p2 : Int) (h0 : 0 ≤ p2) (h1 : p2 ≤ 23) : yC (xcall 89 xfts xpools xms (d + 2)) 471 [yR 2073, yI 2, yI p2, yI 4] hp (yQpi hp 0 15) := y_of W d hT 2 4 p2 0 15 h0 h1 (by decide) (by decide) rfl
theorem a_of_2_5 {hp : xH} (W : yWW G) (d : Nat) (hT : zTy G hp) (p2 : Int) (h0 : 0 ≤ p2) (h1 : p2 ≤ 23) : yC (xcall 89 xfts xpools xms (d + 2)) 471 [yR 2073, yI 2, yI p2, yI 5] hp (yQpi hp 0 15) := y_of W d hT 2 5 p2 0 15 h0 h1 (by decide) (by decide) rfl
theorem a_of_3_0 {hp : xH} (W : yWW G) (d : Nat) (hT : zTy G hp) (p2 : Int) (h0 : 0 ≤ p2) (h1 : p2 ≤ 23) : yC (xcall 89 xfts xpools xms (d + 2)) 471 [yR 2073, yI 3, yI p2, yI 0] hp (yQpi hp 0 1) := y_of W d hT 3 0 p2 0 1 h0 h1 (by decide) (by decide) rfl
theorem a_of_3_1 {hp : xH} (W : yWW G) (d : Nat) (hT : zTy G hp) (p2 : Int) (h0 : 0 ≤ p2) (h1 : p2 ≤ 23) : yC (xcall 89 xfts xpools xms (d + 2)) 471 [yR 2073, yI 3, yI p2, yI 1] hp (yQpi hp 0 9999) := y_of W d hT 3 1 p2 0 9999 h0 h1 (by decide) (by decide) rfl
theorem a_of_3_2 {hp : xH} (W : yWW G) (d : Nat) (hT : zTy G hp) (p2 : Int) (h0 : 0 ≤ p2) (h1 : p2 ≤ 23) : yC (xcall 89 xfts xpools xms (d + 2)) 471 [yR 2073, yI 3, yI p2, yI 2] hp (yQpi hp 0 99) := y_of W d hT 3 2 p2 0 99 h0 h1 (by decide) (by decide) rfl
theorem a_of_3_3 {hp : xH} (W : yWW G) (d : Nat) (hT : zTy G hp) (p2 : Int) (h0 : 0 ≤ p2) (h1 : p2 ≤ 23) : yC (xcall 89 xfts xpools xms (d + 2)) 471 [yR 2073, yI 3, yI p2, yI 3] hp (yQpi hp 0 299) := y_of W d hT 3 3 p2 0 299 h0 h1 (by decide) (by decide) rfl
theorem a_of_3_4 {hp : xH} (W : yWW G) (d : Nat) (hT : zTy G hp) (p2 : Int) (h0 : 0 ≤ p2) (h1 : p2 ≤ 23) : yC (xcall 89 xfts xpools xms (d + 2)) 471 [yR 2073, yI 3, yI p2, yI 4] hp (yQpi hp 0 9999) := y_of W d hT 3 4 p2 0 9999 h0 h1 (by decide) (by decide) rfl
theorem a_of_3_5 {hp : xH} (W : yWW G) (d : Nat) (hT : zTy G hp) (p2 : Int) (h0 : 0 ≤ p2) (h1 : p2 ≤ 23) : yC (xcall 89 xfts xpools xms (d + 2)) 471 [yR 2073, yI 3, yI p2, yI 5] hp (yQpi hp 0 9999) := y_of W d hT 3 5 p2 0 9999 h0 h1 (by decide) (by decide) rfl
theorem a_of_3_6 {hp : xH} (W : yWW G) (d : Nat) (hT : zTy G hp) (p2 : Int) (h0 : 0 ≤ p2) (h1 : p2 ≤ 23) : yC (xcall 89 xfts xpools xms (d + 2)) 471 [yR 2073, yI 3, yI p2, yI 6] hp (yQpi hp 0 999) := y_of W d hT 3 6 p2 0 999 h0 h1 (by decide) (by decide) rfl
theorem a_of_3_7 {hp : xH} (W : yWW G) (d : Nat) (hT : zTy G hp) (p2 : Int) (h0 : 0 ≤ p2) (h1 : p2 ≤ 23) : yC (xcall 89 xfts xpools xms (d + 2)) 471 [yR 2073, yI 3, yI p2, yI 7] hp (yQpi hp 0 9999) := y_of W d hT 3 7 p2 0 9999 h0 h1 (by decide) (by decide) rfl
theorem a_of_3_8 {hp : xH} (W : yWW G) (d : Nat) (hT : zTy G hp) (p2 : Int) (h0 : 0 ≤ p2) (h1 : p2 ≤ 23) : yC (xcall 89 xfts xpools xms (d + 2)) 471 [yR 2073, yI 3, yI p2, yI 8] hp (yQpi hp 0 999) := y_of W d hT 3 8 p2 0 999 h0 h1 (by decide) (by decide) rfl
theorem a_of_3_9 {hp : xH} (W : yWW G) (d : Nat) (hT : zTy G hp) (p2 : Int) (h0 : 0 ≤ p2) (h1 : p2 ≤ 23) : yC (xcall 89 xfts xpools xms (d + 2)) 471 [yR 2073, yI 3, yI p2, yI 9] hp (yQpi hp 0 9) := y_of W d hT 3 9 p2 0 9 h0 h1 (by decide) (by decide) rfl
theorem a_of_3_10 {hp : xH} (W : yWW G) (d : Nat) (hT : zTy G hp) (p2 : Int) (h0 : 0 ≤ p2) (h1 : p2 ≤ 23) : yC (xcall 89 xfts xpools xms (d + 2)) 471 [yR 2073, yI 3, yI p2, yI 10] hp (yQpi hp 0 15) := y_of W d hT 3 10 p2 0 15 h0 h1 (by decide) (by decide) rfl
theorem a_of_4_0 {hp : xH} (W : yWW G) (d : Nat) (hT : zTy G hp) (p2 : Int) (h0 : 0 ≤ p2) (h1 : p2 ≤ 23) : yC (xcall 89 xfts xpools xms (d + 2)) 471 [yR 2073, yI 4, yI p2, yI 0] hp (yQpi hp 0 9999) := y_of W d hT 4 0 p2 0 9999 h0 h1 (by decide) (by decide) rfl
theorem a_of_4_1 {hp : xH} (W : yWW G) (d : Nat) (hT : zTy G hp) (p2 : Int) (h0 : 0 ≤ p2) (h1 : p2 ≤ 23) : yC (xcall 89 xfts xpools xms (d + 2)) 471 [yR 2073, yI 4, yI p2, yI 1] hp (yQpi hp 0 15) := y_of W d hT 4 1 p2 0 15 h0 h1 (by decide) (by decide) rfl
theorem a_of_ends {hp : xH} (W : yWW G) (d : Nat) (hT : zTy G hp) (p2 p3 : Int) (h0 : 0 ≤ p2) (h1 : p2 ≤ 23) (h2 : 4 ≤ p3) (h3 : p3 ≤ 5) : yC (xcall 89 xfts xpools xms (d + 2)) 471 [yR 2073, yI 2, yI p2, yI p3] hp (yQpi hp 0 15) := by
  have : p3 = 4 ∨ p3 = 5 := by omega
  rcases this with rfl | rfl
  · exact a_of_2_4 W d hT p2 h0 h1
  · exact a_of_2_5 W d hT p2 h0 h1
theorem a_asItIs {hp : xH} (W : yWW G) (d : Nat) (hT : zTy G hp) : yC (xcall 89 xfts xpools xms (d + 3)) 353 [yR 2073] hp (yQv G [] [2098, 2099] hp) := by
  have A_hp : yAx G [] [2098, 2099] hp hp := yAx.rf hT
  have H : ∀ m : Nat, (∀ a1 : Int, ∀ hq, yAx G [] [2098, 2099] hp hq → 0 ≤ a1 → (-24) ≤ 0 - a1 → 0 - 43 * a1 + 1074 < (m : Int) → yG 89 xfts (xcall 89 xfts xpools xms (d + 2)) (xpool xp_RX13) [] xt_X13_asItIs (yP 0 (yQv G [] [2098, 2099] hp)) (19 * m) 2 [(0, yR 2073), (1, yI (a1))] [] hq) ∧ (∀ a1 : Int, ∀ hq, yAx G [] [2098, 2099] hp hq → 0 ≤ a1 → (-20) ≤ 0 - a1 → 0 - 2 * a1 + 41 < (m : Int) → yG 89 xfts (xcall 89 xfts xpools xms (d + 2)) (xpool xp_RX13) [] xt_X13_asItIs (yP 0 (yQv G [] [2098, 2099] hp)) (19 * m) 33 [(0, yR 2073), (1, yI (a1))] [] hq) := by
    intro m
    induction m with
    | zero =>
      refine ⟨?_, ?_⟩ <;> (intros; exfalso; omega)
    | succ m ih =>
      obtain ⟨i_2, i_33⟩ := ih
      refine ⟨?_, ?_⟩
      · intro a1 hq A_hq f0 f1 hm
        refine yG.mono (N := 19 * m + 19) ?_ (by omega)
        refine yG.load xik rfl (fun _ _ => rfl) (v := yI (a1)) rfl rfl ?_
        refine yG.load xak rfl (fun _ _ => rfl) (v := yR 2073) rfl rfl ?_
        refine yG.getR A_hq.1 (r_count W) rfl rfl ?_
        refine yG.num (c := 1) rfl (fun _ _ => rfl) (by decide) ?_
        refine yG.ialdF A_hq.1 (p_count W) rfl rfl (by omega) (by omega) (fun z1 e_z1 i_z1 l_z1 u_z1 => ?_)
        refine yG.icmp rfl (t := 31) rfl ⟨by omega, by omega⟩ ⟨by omega, by omega⟩ (fun c2 => ?_) (fun c2 => ?_)
        · have c2 : (a1 : Int) ≥ z1 := c2
          refine yG.num (c := 0) rfl (fun _ _ => rfl) (by decide) ?_
          refine yG.store1 xik (L' := [(1, yI (0)), (0, yR 2073)]) rfl (fun _ _ => rfl) rfl rfl ?_
          exact yG.mono (yG.sub (i_33 (0)  hq A_hq  (by omega) (by omega) (by omega)) (ySub.cons rfl (ySub.cons rfl (ySub.nil)))) (by omega)
        · have c2 : (a1 : Int) < z1 := c2
          refine yG.load xak rfl (fun _ _ => rfl) (v := yR 2073) rfl rfl ?_
          refine yG.getR A_hq.1 (r_stateNow W) rfl rfl ?_
          refine yG.load xik rfl (fun _ _ => rfl) (v := yI (a1)) rfl rfl ?_
          refine yG.load xak rfl (fun _ _ => rfl) (v := yR 2073) rfl rfl ?_
          refine yG.num (c := 1) rfl (fun _ _ => rfl) (by decide) ?_
          refine yG.load xik rfl (fun _ _ => rfl) (v := yI (a1)) rfl rfl ?_
          refine yG.num (c := 0) rfl (fun _ _ => rfl) (by decide) ?_
          refine yG.invV (rest := [yI (a1), yR 2098]) A_hq.1 W.m.1 rfl rfl rfl rfl (a_of_1_0 W d A_hq.1 (a1) (by omega) (by omega)) (fun rv hp9 q9 => ?_)
          obtain ⟨⟨z3, rfl, l_z3, u_z3⟩, e9⟩ := q9
          rw [e9]
          show yG _ _ _ _ _ _ _ _ _ _ (yI z3 :: [yI (a1), yR 2098]) _
          refine yG.iast A_hq.1 (v_stateNow W) (by decide) rfl (by omega) (by omega) ⟨by omega, by omega⟩ (by omega) (by omega) (fun h4 T_h4 b_h4 f_h4 y_h4 => ?_)
          have A_h4 := A_hq.putA T_h4 b_h4 f_h4 (by decide)
          refine yG.iinc rfl (a := a1) rfl (L' := [(1, yI (a1 + 1)), (0, yR 2073)]) rfl ?_
          refine yG.goto rfl (t := 2) rfl ?_
          exact yG.mono (yG.sub (i_2 (a1 + 1)  h4 A_h4  (by omega) (by omega) (by omega)) (ySub.cons rfl (ySub.cons rfl (ySub.nil)))) (by omega)
      · intro a1 hq A_hq f0 f1 hm
        refine yG.mono (N := 19 * m + 19) ?_ (by omega)
        refine yG.load xik rfl (fun _ _ => rfl) (v := yI (a1)) rfl rfl ?_
        refine yG.load xak rfl (fun _ _ => rfl) (v := yR 2073) rfl rfl ?_
        refine yG.getR A_hq.1 (r_count W) rfl rfl ?_
        refine yG.num (c := 2) rfl (fun _ _ => rfl) (by decide) ?_
        refine yG.ialdF A_hq.1 (p_count W) rfl rfl (by omega) (by omega) (fun z1 e_z1 i_z1 l_z1 u_z1 => ?_)
        refine yG.icmp rfl (t := 62) rfl ⟨by omega, by omega⟩ ⟨by omega, by omega⟩ (fun c2 => ?_) (fun c2 => ?_)
        · have c2 : (a1 : Int) ≥ z1 := c2
          refine yG.ret rfl (fun _ _ => rfl) ?_
          exact yP.void ⟨rfl, A_hq⟩
        · have c2 : (a1 : Int) < z1 := c2
          refine yG.load xak rfl (fun _ _ => rfl) (v := yR 2073) rfl rfl ?_
          refine yG.getR A_hq.1 (r_inNow W) rfl rfl ?_
          refine yG.load xik rfl (fun _ _ => rfl) (v := yI (a1)) rfl rfl ?_
          refine yG.load xak rfl (fun _ _ => rfl) (v := yR 2073) rfl rfl ?_
          refine yG.num (c := 2) rfl (fun _ _ => rfl) (by decide) ?_
          refine yG.load xik rfl (fun _ _ => rfl) (v := yI (a1)) rfl rfl ?_
          refine yG.num (c := 0) rfl (fun _ _ => rfl) (by decide) ?_
          refine yG.invV (rest := [yI (a1), yR 2099]) A_hq.1 W.m.1 rfl rfl rfl rfl (a_of_2_0 W d A_hq.1 (a1) (by omega) (by omega)) (fun rv hp9 q9 => ?_)
          obtain ⟨⟨z3, rfl, l_z3, u_z3⟩, e9⟩ := q9
          rw [e9]
          show yG _ _ _ _ _ _ _ _ _ _ (yI z3 :: [yI (a1), yR 2099]) _
          refine yG.iast A_hq.1 (v_inNow W) (by decide) rfl (by omega) (by omega) ⟨by omega, by omega⟩ (by omega) (by omega) (fun h4 T_h4 b_h4 f_h4 y_h4 => ?_)
          have A_h4 := A_hq.putA T_h4 b_h4 f_h4 (by decide)
          refine yG.iinc rfl (a := a1) rfl (L' := [(1, yI (a1 + 1)), (0, yR 2073)]) rfl ?_
          refine yG.goto rfl (t := 33) rfl ?_
          exact yG.mono (yG.sub (i_33 (a1 + 1)  h4 A_h4  (by omega) (by omega) (by omega)) (ySub.cons rfl (ySub.cons rfl (ySub.nil)))) (by omega)
  refine yC.of (M := (xt_X13_asItIs, (2, (0, (14, []))))) rfl rfl (N := 20463) (yfuel (by decide)) ?_
  show yG 89 xfts (xcall 89 xfts xpools xms (d + 2)) (xpool xp_RX13) [] xt_X13_asItIs (yP 0 (yQv G [] [2098, 2099] hp)) 20463 0 [(0, yR 2073)] [] hp
  obtain ⟨i_2, i_33⟩ := H 1076
  refine yG.num (c := 0) rfl (fun _ _ => rfl) (by decide) ?_
  refine yG.store1 xik (L' := [(1, yI (0)), (0, yR 2073)]) rfl (fun _ _ => rfl) rfl rfl ?_
  exact yG.mono (yG.sub (i_2 (0)  hp A_hp  (by omega) (by omega) (by omega)) (ySub.cons rfl (ySub.cons rfl (ySub.nil)))) (by omega)
theorem a_nodeOfLine {hp : xH} (W : yWW G) (d : Nat) (hT : zTy G hp) (p1 p2 : Int) (h1l : 0 ≤ p1) (h1u : p1 ≤ 19) (h2l : 0 ≤ p2) (h2u : p2 ≤ 1) : yC (xcall 89 xfts xpools xms (d + 3)) 468 [yR 2073, yI (p1), yI (p2)] hp (yQpi hp 0 15) := by
  have A_hp : yAx G [] [] hp hp := yAx.rf hT
  refine yC.of (M := (xt_X13_nodeOfLine, (3, (1, (14, []))))) rfl rfl (N := 39) (yfuel (by decide)) ?_
  show yG 89 xfts (xcall 89 xfts xpools xms (d + 2)) (xpool xp_RX13) [] xt_X13_nodeOfLine (yP 1 (yQpi hp 0 15)) 39 0 [(0, yR 2073), (1, yI (p1)), (2, yI (p2))] [] hp
  refine yG.load xak rfl (fun _ _ => rfl) (v := yR 2073) rfl rfl ?_
  refine yG.getR A_hp.1 (r_node W) rfl rfl ?_
  refine yG.load xak rfl (fun _ _ => rfl) (v := yR 2073) rfl rfl ?_
  refine yG.num (c := 2) rfl (fun _ _ => rfl) (by decide) ?_
  refine yG.load xik rfl (fun _ _ => rfl) (v := yI (p1)) rfl rfl ?_
  refine yG.num (c := 4) rfl (fun _ _ => rfl) (by decide) ?_
  refine yG.load xik rfl (fun _ _ => rfl) (v := yI (p2)) rfl rfl ?_
  refine yG.iadd rfl ?_
  refine yG.invV (rest := [yR 2100]) A_hp.1 W.m.1 rfl rfl rfl rfl (a_of_ends W d A_hp.1 (p1) (4 + p2) (by omega) (by omega) (by omega) (by omega)) (fun rv hp9 q9 => ?_)
  obtain ⟨⟨z1, rfl, l_z1, u_z1⟩, e9⟩ := q9
  rw [e9]
  show yG _ _ _ _ _ _ _ _ _ _ (yI z1 :: [yR 2100]) _
  refine yG.iald A_hp.1 (v_node W) rfl (by omega) (by omega) (fun z2 e_z2 i_z2 l_z2 u_z2 => ?_)
  refine yG.ret rfl (fun _ _ => rfl) ?_
  exact yP.int ⟨by omega, by omega⟩ ⟨⟨z2, rfl, by omega, by omega⟩, rfl⟩
theorem a_islandOfLine {hp : xH} (W : yWW G) (d : Nat) (hT : zTy G hp) (p1 : Int) (h1l : 0 ≤ p1) (h1u : p1 ≤ 19) : yC (xcall 89 xfts xpools xms (d + 3)) 437 [yR 2073, yI (p1)] hp (yQpi hp 0 15) := by
  have A_hp : yAx G [] [] hp hp := yAx.rf hT
  refine yC.of (M := (xt_X13_islandOfLine, (2, (1, (14, []))))) rfl rfl (N := 33) (yfuel (by decide)) ?_
  show yG 89 xfts (xcall 89 xfts xpools xms (d + 2)) (xpool xp_RX13) [] xt_X13_islandOfLine (yP 1 (yQpi hp 0 15)) 33 0 [(0, yR 2073), (1, yI (p1))] [] hp
  refine yG.load xak rfl (fun _ _ => rfl) (v := yR 2073) rfl rfl ?_
  refine yG.getR A_hp.1 (r_island W) rfl rfl ?_
  refine yG.load xak rfl (fun _ _ => rfl) (v := yR 2073) rfl rfl ?_
  refine yG.num (c := 2) rfl (fun _ _ => rfl) (by decide) ?_
  refine yG.load xik rfl (fun _ _ => rfl) (v := yI (p1)) rfl rfl ?_
  refine yG.num (c := 4) rfl (fun _ _ => rfl) (by decide) ?_
  refine yG.invV (rest := [yR 2101]) A_hp.1 W.m.1 rfl rfl rfl rfl (a_of_2_4 W d A_hp.1 (p1) (by omega) (by omega)) (fun rv hp9 q9 => ?_)
  obtain ⟨⟨z1, rfl, l_z1, u_z1⟩, e9⟩ := q9
  rw [e9]
  show yG _ _ _ _ _ _ _ _ _ _ (yI z1 :: [yR 2101]) _
  refine yG.iald A_hp.1 (v_island W) rfl (by omega) (by omega) (fun z2 e_z2 i_z2 l_z2 u_z2 => ?_)
  refine yG.ret rfl (fun _ _ => rfl) ?_
  exact yP.int ⟨by omega, by omega⟩ ⟨⟨z2, rfl, by omega, by omega⟩, rfl⟩
theorem a_isBetween {hp : xH} (W : yWW G) (d : Nat) (hT : zTy G hp) (p1 : Int) (h1l : 0 ≤ p1) (h1u : p1 ≤ 19) : yC (xcall 89 xfts xpools xms (d + 4)) 425 [yR 2073, yI (p1)] hp (yQpi hp 0 1) := by
  have A_hp : yAx G [] [] hp hp := yAx.rf hT
  refine yC.of (M := (xt_X13_isBetween, (2, (4, (14, []))))) rfl rfl (N := 60) (yfuel (by decide)) ?_
  show yG 89 xfts (xcall 89 xfts xpools xms (d + 3)) (xpool xp_RX13) [] xt_X13_isBetween (yP 4 (yQpi hp 0 1)) 60 0 [(0, yR 2073), (1, yI (p1))] [] hp
  refine yG.load xak rfl (fun _ _ => rfl) (v := yR 2073) rfl rfl ?_
  refine yG.getR A_hp.1 (r_inNow W) rfl rfl ?_
  refine yG.load xik rfl (fun _ _ => rfl) (v := yI (p1)) rfl rfl ?_
  refine yG.iald A_hp.1 (v_inNow W) rfl (by omega) (by omega) (fun z1 e_z1 i_z1 l_z1 u_z1 => ?_)
  refine yG.num (c := 1) rfl (fun _ _ => rfl) (by decide) ?_
  refine yG.icmp rfl (t := 29) rfl ⟨by omega, by omega⟩ ⟨by omega, by omega⟩ (fun c2 => ?_) (fun c2 => ?_)
  · have c2 : (z1 : Int) ≠ 1 := c2
    refine yG.num (c := 0) rfl (fun _ _ => rfl) (by decide) ?_
    refine yG.ret rfl (fun _ _ => rfl) ?_
    exact yP.bool (by omega) ⟨⟨0, rfl, by omega, by omega⟩, rfl⟩
  · have c2 : (z1 : Int) = 1 := c2
    refine yG.load xak rfl (fun _ _ => rfl) (v := yR 2073) rfl rfl ?_
    refine yG.load xik rfl (fun _ _ => rfl) (v := yI (p1)) rfl rfl ?_
    refine yG.num (c := 0) rfl (fun _ _ => rfl) (by decide) ?_
    refine yG.invV (rest := []) A_hp.1 W.m.1 rfl rfl rfl rfl (a_nodeOfLine W d A_hp.1 (p1) (0) (by omega) (by omega) (by omega) (by omega)) (fun rv hp9 q9 => ?_)
    obtain ⟨⟨z3, rfl, l_z3, u_z3⟩, e9⟩ := q9
    rw [e9]
    show yG _ _ _ _ _ _ _ _ _ _ (yI z3 :: []) _
    refine yG.load xak rfl (fun _ _ => rfl) (v := yR 2073) rfl rfl ?_
    refine yG.load xik rfl (fun _ _ => rfl) (v := yI (p1)) rfl rfl ?_
    refine yG.num (c := 1) rfl (fun _ _ => rfl) (by decide) ?_
    refine yG.invV (rest := [yI (z3)]) A_hp.1 W.m.1 rfl rfl rfl rfl (a_nodeOfLine W d A_hp.1 (p1) (1) (by omega) (by omega) (by omega) (by omega)) (fun rv hp9 q9 => ?_)
    obtain ⟨⟨z4, rfl, l_z4, u_z4⟩, e9⟩ := q9
    rw [e9]
    show yG _ _ _ _ _ _ _ _ _ _ (yI z4 :: [yI (z3)]) _
    refine yG.icmp rfl (t := 29) rfl ⟨by omega, by omega⟩ ⟨by omega, by omega⟩ (fun c5 => ?_) (fun c5 => ?_)
    · have c5 : (z3 : Int) = z4 := c5
      refine yG.num (c := 0) rfl (fun _ _ => rfl) (by decide) ?_
      refine yG.ret rfl (fun _ _ => rfl) ?_
      exact yP.bool (by omega) ⟨⟨0, rfl, by omega, by omega⟩, rfl⟩
    · have c5 : (z3 : Int) ≠ z4 := c5
      refine yG.num (c := 1) rfl (fun _ _ => rfl) (by decide) ?_
      refine yG.goto rfl (t := 30) rfl ?_
      refine yG.ret rfl (fun _ _ => rfl) ?_
      exact yP.bool (by omega) ⟨⟨1, rfl, by omega, by omega⟩, rfl⟩
theorem a_topology {hp : xH} (W : yWW G) (d : Nat) (hT : zTy G hp) : yC (xcall 89 xfts xpools xms (d + 3)) 534 [yR 2073] hp (yQv G [] [2100, 2101, 2102] hp) := by
  have A_hp : yAx G [] [2100, 2101, 2102] hp hp := yAx.rf hT
  have H : ∀ m : Nat, (∀ a1 : Int, ∀ hq, yAx G [] [2100, 2101, 2102] hp hq → 0 ≤ a1 → (-16) ≤ 0 - a1 → 0 - 134326 * a1 + 2283541 < (m : Int) → yG 89 xfts (xcall 89 xfts xpools xms (d + 2)) (xpool xp_RX13) [] xt_X13_topology (yP 0 (yQv G [] [2100, 2101, 2102] hp)) (30 * m) 2 [(0, yR 2073), (1, yI (a1))] [] hq) ∧ (∀ a1 : Int, ∀ hq, yAx G [] [2100, 2101, 2102] hp hq → 0 ≤ a1 → (-24) ≤ 0 - a1 → 0 - 5373 * a1 + 134324 < (m : Int) → yG 89 xfts (xcall 89 xfts xpools xms (d + 2)) (xpool xp_RX13) [] xt_X13_topology (yP 0 (yQv G [] [2100, 2101, 2102] hp)) (30 * m) 34 [(0, yR 2073), (1, yI (a1))] [] hq) ∧ (∀ a1 : Int, ∀ hq, yAx G [] [2100, 2101, 2102] hp hq → 0 ≤ a1 → (-16) ≤ 0 - a1 → 0 - 316 * a1 + 5371 < (m : Int) → yG 89 xfts (xcall 89 xfts xpools xms (d + 2)) (xpool xp_RX13) [] xt_X13_topology (yP 0 (yQv G [] [2100, 2101, 2102] hp)) (30 * m) 84 [(0, yR 2073), (1, yI (a1))] [] hq) ∧ (∀ a1 : Int, ∀ hq, yAx G [] [2100, 2101, 2102] hp hq → 0 ≤ a1 → (-20) ≤ 0 - a1 → 0 - 15 * a1 + 314 < (m : Int) → yG 89 xfts (xcall 89 xfts xpools xms (d + 2)) (xpool xp_RX13) [] xt_X13_topology (yP 0 (yQv G [] [2100, 2101, 2102] hp)) (30 * m) 114 [(0, yR 2073), (1, yI (a1))] [] hq) ∧ (∀ a1 : Int, ∀ hq, yAx G [] [2100, 2101, 2102] hp hq → 0 ≤ a1 → (-6) ≤ 0 - a1 → 0 - 2 * a1 + 13 < (m : Int) → yG 89 xfts (xcall 89 xfts xpools xms (d + 2)) (xpool xp_RX13) [] xt_X13_topology (yP 0 (yQv G [] [2100, 2101, 2102] hp)) (30 * m) 164 [(0, yR 2073), (1, yI (a1))] [] hq) := by
    intro m
    induction m with
    | zero =>
      refine ⟨?_, ?_, ?_, ?_, ?_⟩ <;> (intros; exfalso; omega)
    | succ m ih =>
      obtain ⟨i_2, i_34, i_84, i_114, i_164⟩ := ih
      refine ⟨?_, ?_, ?_, ?_, ?_⟩
      · intro a1 hq A_hq f0 f1 hm
        refine yG.mono (N := 30 * m + 30) ?_ (by omega)
        refine yG.load xik rfl (fun _ _ => rfl) (v := yI (a1)) rfl rfl ?_
        refine yG.load xak rfl (fun _ _ => rfl) (v := yR 2073) rfl rfl ?_
        refine yG.getR A_hq.1 (r_count W) rfl rfl ?_
        refine yG.num (c := 0) rfl (fun _ _ => rfl) (by decide) ?_
        refine yG.ialdF A_hq.1 (p_count W) rfl rfl (by omega) (by omega) (fun z1 e_z1 i_z1 l_z1 u_z1 => ?_)
        refine yG.icmp rfl (t := 32) rfl ⟨by omega, by omega⟩ ⟨by omega, by omega⟩ (fun c2 => ?_) (fun c2 => ?_)
        · have c2 : (a1 : Int) ≥ z1 := c2
          refine yG.num (c := 0) rfl (fun _ _ => rfl) (by decide) ?_
          refine yG.store1 xik (L' := [(1, yI (0)), (0, yR 2073)]) rfl (fun _ _ => rfl) rfl rfl ?_
          exact yG.mono (yG.sub (i_34 (0)  hq A_hq  (by omega) (by omega) (by omega)) (ySub.cons rfl (ySub.cons rfl (ySub.nil)))) (by omega)
        · have c2 : (a1 : Int) < z1 := c2
          refine yG.load xak rfl (fun _ _ => rfl) (v := yR 2073) rfl rfl ?_
          refine yG.getR A_hq.1 (r_node W) rfl rfl ?_
          refine yG.load xik rfl (fun _ _ => rfl) (v := yI (a1)) rfl rfl ?_
          refine yG.load xik rfl (fun _ _ => rfl) (v := yI (a1)) rfl rfl ?_
          refine yG.iast A_hq.1 (v_node W) (by decide) rfl (by omega) (by omega) ⟨by omega, by omega⟩ (by omega) (by omega) (fun h3 T_h3 b_h3 f_h3 y_h3 => ?_)
          have A_h3 := A_hq.putA T_h3 b_h3 f_h3 (by decide)
          refine yG.load xak rfl (fun _ _ => rfl) (v := yR 2073) rfl rfl ?_
          refine yG.getR A_h3.1 (r_isLive W) rfl rfl ?_
          refine yG.load xik rfl (fun _ _ => rfl) (v := yI (a1)) rfl rfl ?_
          refine yG.num (c := 0) rfl (fun _ _ => rfl) (by decide) ?_
          refine yG.bast A_h3.1 (v_isLive W) (by decide) rfl (by omega) (by omega) ⟨by omega, by omega⟩ (by omega) (by omega) (fun h4 T_h4 b_h4 f_h4 y_h4 => ?_)
          have A_h4 := A_h3.putA T_h4 b_h4 f_h4 (by decide)
          refine yG.iinc rfl (a := a1) rfl (L' := [(1, yI (a1 + 1)), (0, yR 2073)]) rfl ?_
          refine yG.goto rfl (t := 2) rfl ?_
          exact yG.mono (yG.sub (i_2 (a1 + 1)  h4 A_h4  (by omega) (by omega) (by omega)) (ySub.cons rfl (ySub.cons rfl (ySub.nil)))) (by omega)
      · intro a1 hq A_hq f0 f1 hm
        refine yG.mono (N := 30 * m + 30) ?_ (by omega)
        refine yG.load xik rfl (fun _ _ => rfl) (v := yI (a1)) rfl rfl ?_
        refine yG.load xak rfl (fun _ _ => rfl) (v := yR 2073) rfl rfl ?_
        refine yG.getR A_hq.1 (r_count W) rfl rfl ?_
        refine yG.num (c := 1) rfl (fun _ _ => rfl) (by decide) ?_
        refine yG.ialdF A_hq.1 (p_count W) rfl rfl (by omega) (by omega) (fun z1 e_z1 i_z1 l_z1 u_z1 => ?_)
        refine yG.icmp rfl (t := 82) rfl ⟨by omega, by omega⟩ ⟨by omega, by omega⟩ (fun c2 => ?_) (fun c2 => ?_)
        · have c2 : (a1 : Int) ≥ z1 := c2
          refine yG.num (c := 0) rfl (fun _ _ => rfl) (by decide) ?_
          refine yG.store1 xik (L' := [(1, yI (0)), (0, yR 2073)]) rfl (fun _ _ => rfl) rfl rfl ?_
          exact yG.mono (yG.sub (i_84 (0)  hq A_hq  (by omega) (by omega) (by omega)) (ySub.cons rfl (ySub.cons rfl (ySub.nil)))) (by omega)
        · have c2 : (a1 : Int) < z1 := c2
          refine yG.load xak rfl (fun _ _ => rfl) (v := yR 2073) rfl rfl ?_
          refine yG.getR A_hq.1 (r_stateNow W) rfl rfl ?_
          refine yG.load xik rfl (fun _ _ => rfl) (v := yI (a1)) rfl rfl ?_
          refine yG.iald A_hq.1 (v_stateNow W) rfl (by omega) (by omega) (fun z3 e_z3 i_z3 l_z3 u_z3 => ?_)
          refine yG.num (c := 1) rfl (fun _ _ => rfl) (by decide) ?_
          refine yG.icmp rfl (t := 76) rfl ⟨by omega, by omega⟩ ⟨by omega, by omega⟩ (fun c4 => ?_) (fun c4 => ?_)
          · have c4 : (z3 : Int) ≠ 1 := c4
            refine yG.iinc rfl (a := a1) rfl (L' := [(1, yI (a1 + 1)), (0, yR 2073)]) rfl ?_
            refine yG.goto rfl (t := 34) rfl ?_
            exact yG.mono (yG.sub (i_34 (a1 + 1)  hq A_hq  (by omega) (by omega) (by omega)) (ySub.cons rfl (ySub.cons rfl (ySub.nil)))) (by omega)
          · have c4 : (z3 : Int) = 1 := c4
            refine yG.load xak rfl (fun _ _ => rfl) (v := yR 2073) rfl rfl ?_
            refine yG.load xak rfl (fun _ _ => rfl) (v := yR 2073) rfl rfl ?_
            refine yG.getR A_hq.1 (r_node W) rfl rfl ?_
            refine yG.load xak rfl (fun _ _ => rfl) (v := yR 2073) rfl rfl ?_
            refine yG.num (c := 1) rfl (fun _ _ => rfl) (by decide) ?_
            refine yG.load xik rfl (fun _ _ => rfl) (v := yI (a1)) rfl rfl ?_
            refine yG.num (c := 3) rfl (fun _ _ => rfl) (by decide) ?_
            refine yG.invV (rest := [yR 2100, yR 2073]) A_hq.1 W.m.1 rfl rfl rfl rfl (a_of_1_3 W d A_hq.1 (a1) (by omega) (by omega)) (fun rv hp9 q9 => ?_)
            obtain ⟨⟨z5, rfl, l_z5, u_z5⟩, e9⟩ := q9
            rw [e9]
            show yG _ _ _ _ _ _ _ _ _ _ (yI z5 :: [yR 2100, yR 2073]) _
            refine yG.load xak rfl (fun _ _ => rfl) (v := yR 2073) rfl rfl ?_
            refine yG.num (c := 1) rfl (fun _ _ => rfl) (by decide) ?_
            refine yG.load xik rfl (fun _ _ => rfl) (v := yI (a1)) rfl rfl ?_
            refine yG.num (c := 4) rfl (fun _ _ => rfl) (by decide) ?_
            refine yG.invV (rest := [yI (z5), yR 2100, yR 2073]) A_hq.1 W.m.1 rfl rfl rfl rfl (a_of_1_4 W d A_hq.1 (a1) (by omega) (by omega)) (fun rv hp9 q9 => ?_)
            obtain ⟨⟨z6, rfl, l_z6, u_z6⟩, e9⟩ := q9
            rw [e9]
            show yG _ _ _ _ _ _ _ _ _ _ (yI z6 :: [yI (z5), yR 2100, yR 2073]) _
            refine yG.invV (rest := []) A_hq.1 W.m.1 rfl rfl rfl rfl (a_merge_node W (d + 1) A_hq.1 (z5) (z6) (by omega) (by omega) (by omega) (by omega)) (fun rv h8 q9 => ?_)
            obtain ⟨rfl, B_h8⟩ := q9
            have A_h8 := A_hq.tr (B_h8.sub (by decide) (by decide))
            show yG _ _ _ _ _ _ _ _ _ _ [] _
            refine yG.iinc rfl (a := a1) rfl (L' := [(1, yI (a1 + 1)), (0, yR 2073)]) rfl ?_
            refine yG.goto rfl (t := 34) rfl ?_
            exact yG.mono (yG.sub (i_34 (a1 + 1)  h8 A_h8  (by omega) (by omega) (by omega)) (ySub.cons rfl (ySub.cons rfl (ySub.nil)))) (by omega)
      · intro a1 hq A_hq f0 f1 hm
        refine yG.mono (N := 30 * m + 30) ?_ (by omega)
        refine yG.load xik rfl (fun _ _ => rfl) (v := yI (a1)) rfl rfl ?_
        refine yG.load xak rfl (fun _ _ => rfl) (v := yR 2073) rfl rfl ?_
        refine yG.getR A_hq.1 (r_count W) rfl rfl ?_
        refine yG.num (c := 0) rfl (fun _ _ => rfl) (by decide) ?_
        refine yG.ialdF A_hq.1 (p_count W) rfl rfl (by omega) (by omega) (fun z1 e_z1 i_z1 l_z1 u_z1 => ?_)
        refine yG.icmp rfl (t := 112) rfl ⟨by omega, by omega⟩ ⟨by omega, by omega⟩ (fun c2 => ?_) (fun c2 => ?_)
        · have c2 : (a1 : Int) ≥ z1 := c2
          refine yG.num (c := 0) rfl (fun _ _ => rfl) (by decide) ?_
          refine yG.store1 xik (L' := [(1, yI (0)), (0, yR 2073)]) rfl (fun _ _ => rfl) rfl rfl ?_
          exact yG.mono (yG.sub (i_114 (0)  hq A_hq  (by omega) (by omega) (by omega)) (ySub.cons rfl (ySub.cons rfl (ySub.nil)))) (by omega)
        · have c2 : (a1 : Int) < z1 := c2
          refine yG.load xak rfl (fun _ _ => rfl) (v := yR 2073) rfl rfl ?_
          refine yG.getR A_hq.1 (r_island W) rfl rfl ?_
          refine yG.load xik rfl (fun _ _ => rfl) (v := yI (a1)) rfl rfl ?_
          refine yG.load xak rfl (fun _ _ => rfl) (v := yR 2073) rfl rfl ?_
          refine yG.getR A_hq.1 (r_node W) rfl rfl ?_
          refine yG.load xik rfl (fun _ _ => rfl) (v := yI (a1)) rfl rfl ?_
          refine yG.iald A_hq.1 (v_node W) rfl (by omega) (by omega) (fun z3 e_z3 i_z3 l_z3 u_z3 => ?_)
          refine yG.iast A_hq.1 (v_island W) (by decide) rfl (by omega) (by omega) ⟨by omega, by omega⟩ (by omega) (by omega) (fun h4 T_h4 b_h4 f_h4 y_h4 => ?_)
          have A_h4 := A_hq.putA T_h4 b_h4 f_h4 (by decide)
          refine yG.iinc rfl (a := a1) rfl (L' := [(1, yI (a1 + 1)), (0, yR 2073)]) rfl ?_
          refine yG.goto rfl (t := 84) rfl ?_
          exact yG.mono (yG.sub (i_84 (a1 + 1)  h4 A_h4  (by omega) (by omega) (by omega)) (ySub.cons rfl (ySub.cons rfl (ySub.nil)))) (by omega)
      · intro a1 hq A_hq f0 f1 hm
        refine yG.mono (N := 30 * m + 30) ?_ (by omega)
        refine yG.load xik rfl (fun _ _ => rfl) (v := yI (a1)) rfl rfl ?_
        refine yG.load xak rfl (fun _ _ => rfl) (v := yR 2073) rfl rfl ?_
        refine yG.getR A_hq.1 (r_count W) rfl rfl ?_
        refine yG.num (c := 2) rfl (fun _ _ => rfl) (by decide) ?_
        refine yG.ialdF A_hq.1 (p_count W) rfl rfl (by omega) (by omega) (fun z1 e_z1 i_z1 l_z1 u_z1 => ?_)
        refine yG.icmp rfl (t := 162) rfl ⟨by omega, by omega⟩ ⟨by omega, by omega⟩ (fun c2 => ?_) (fun c2 => ?_)
        · have c2 : (a1 : Int) ≥ z1 := c2
          refine yG.num (c := 0) rfl (fun _ _ => rfl) (by decide) ?_
          refine yG.store1 xik (L' := [(1, yI (0)), (0, yR 2073)]) rfl (fun _ _ => rfl) rfl rfl ?_
          exact yG.mono (yG.sub (i_164 (0)  hq A_hq  (by omega) (by omega) (by omega)) (ySub.cons rfl (ySub.cons rfl (ySub.nil)))) (by omega)
        · have c2 : (a1 : Int) < z1 := c2
          refine yG.load xak rfl (fun _ _ => rfl) (v := yR 2073) rfl rfl ?_
          refine yG.getR A_hq.1 (r_inNow W) rfl rfl ?_
          refine yG.load xik rfl (fun _ _ => rfl) (v := yI (a1)) rfl rfl ?_
          refine yG.iald A_hq.1 (v_inNow W) rfl (by omega) (by omega) (fun z3 e_z3 i_z3 l_z3 u_z3 => ?_)
          refine yG.num (c := 1) rfl (fun _ _ => rfl) (by decide) ?_
          refine yG.icmp rfl (t := 156) rfl ⟨by omega, by omega⟩ ⟨by omega, by omega⟩ (fun c4 => ?_) (fun c4 => ?_)
          · have c4 : (z3 : Int) ≠ 1 := c4
            refine yG.iinc rfl (a := a1) rfl (L' := [(1, yI (a1 + 1)), (0, yR 2073)]) rfl ?_
            refine yG.goto rfl (t := 114) rfl ?_
            exact yG.mono (yG.sub (i_114 (a1 + 1)  hq A_hq  (by omega) (by omega) (by omega)) (ySub.cons rfl (ySub.cons rfl (ySub.nil)))) (by omega)
          · have c4 : (z3 : Int) = 1 := c4
            refine yG.load xak rfl (fun _ _ => rfl) (v := yR 2073) rfl rfl ?_
            refine yG.load xak rfl (fun _ _ => rfl) (v := yR 2073) rfl rfl ?_
            refine yG.getR A_hq.1 (r_island W) rfl rfl ?_
            refine yG.load xak rfl (fun _ _ => rfl) (v := yR 2073) rfl rfl ?_
            refine yG.num (c := 2) rfl (fun _ _ => rfl) (by decide) ?_
            refine yG.load xik rfl (fun _ _ => rfl) (v := yI (a1)) rfl rfl ?_
            refine yG.num (c := 4) rfl (fun _ _ => rfl) (by decide) ?_
            refine yG.invV (rest := [yR 2101, yR 2073]) A_hq.1 W.m.1 rfl rfl rfl rfl (a_of_2_4 W d A_hq.1 (a1) (by omega) (by omega)) (fun rv hp9 q9 => ?_)
            obtain ⟨⟨z5, rfl, l_z5, u_z5⟩, e9⟩ := q9
            rw [e9]
            show yG _ _ _ _ _ _ _ _ _ _ (yI z5 :: [yR 2101, yR 2073]) _
            refine yG.load xak rfl (fun _ _ => rfl) (v := yR 2073) rfl rfl ?_
            refine yG.num (c := 2) rfl (fun _ _ => rfl) (by decide) ?_
            refine yG.load xik rfl (fun _ _ => rfl) (v := yI (a1)) rfl rfl ?_
            refine yG.num (c := 5) rfl (fun _ _ => rfl) (by decide) ?_
            refine yG.invV (rest := [yI (z5), yR 2101, yR 2073]) A_hq.1 W.m.1 rfl rfl rfl rfl (a_of_2_5 W d A_hq.1 (a1) (by omega) (by omega)) (fun rv hp9 q9 => ?_)
            obtain ⟨⟨z6, rfl, l_z6, u_z6⟩, e9⟩ := q9
            rw [e9]
            show yG _ _ _ _ _ _ _ _ _ _ (yI z6 :: [yI (z5), yR 2101, yR 2073]) _
            refine yG.invV (rest := []) A_hq.1 W.m.1 rfl rfl rfl rfl (a_merge_island W (d + 1) A_hq.1 (z5) (z6) (by omega) (by omega) (by omega) (by omega)) (fun rv h8 q9 => ?_)
            obtain ⟨rfl, B_h8⟩ := q9
            have A_h8 := A_hq.tr (B_h8.sub (by decide) (by decide))
            show yG _ _ _ _ _ _ _ _ _ _ [] _
            refine yG.iinc rfl (a := a1) rfl (L' := [(1, yI (a1 + 1)), (0, yR 2073)]) rfl ?_
            refine yG.goto rfl (t := 114) rfl ?_
            exact yG.mono (yG.sub (i_114 (a1 + 1)  h8 A_h8  (by omega) (by omega) (by omega)) (ySub.cons rfl (ySub.cons rfl (ySub.nil)))) (by omega)
      · intro a1 hq A_hq f0 f1 hm
        refine yG.mono (N := 30 * m + 30) ?_ (by omega)
        refine yG.load xik rfl (fun _ _ => rfl) (v := yI (a1)) rfl rfl ?_
        refine yG.load xak rfl (fun _ _ => rfl) (v := yR 2073) rfl rfl ?_
        refine yG.getR A_hq.1 (r_count W) rfl rfl ?_
        refine yG.num (c := 3) rfl (fun _ _ => rfl) (by decide) ?_
        refine yG.ialdF A_hq.1 (p_count W) rfl rfl (by omega) (by omega) (fun z1 e_z1 i_z1 l_z1 u_z1 => ?_)
        refine yG.icmp rfl (t := 210) rfl ⟨by omega, by omega⟩ ⟨by omega, by omega⟩ (fun c2 => ?_) (fun c2 => ?_)
        · have c2 : (a1 : Int) ≥ z1 := c2
          refine yG.ret rfl (fun _ _ => rfl) ?_
          exact yP.void ⟨rfl, A_hq⟩
        · have c2 : (a1 : Int) < z1 := c2
          refine yG.load xak rfl (fun _ _ => rfl) (v := yR 2073) rfl rfl ?_
          refine yG.num (c := 3) rfl (fun _ _ => rfl) (by decide) ?_
          refine yG.load xik rfl (fun _ _ => rfl) (v := yI (a1)) rfl rfl ?_
          refine yG.num (c := 0) rfl (fun _ _ => rfl) (by decide) ?_
          refine yG.invV (rest := []) A_hq.1 W.m.1 rfl rfl rfl rfl (a_of_3_0 W d A_hq.1 (a1) (by omega) (by omega)) (fun rv hp9 q9 => ?_)
          obtain ⟨⟨z3, rfl, l_z3, u_z3⟩, e9⟩ := q9
          rw [e9]
          show yG _ _ _ _ _ _ _ _ _ _ (yI z3 :: []) _
          refine yG.num (c := 1) rfl (fun _ _ => rfl) (by decide) ?_
          refine yG.icmp rfl (t := 204) rfl ⟨by omega, by omega⟩ ⟨by omega, by omega⟩ (fun c4 => ?_) (fun c4 => ?_)
          · have c4 : (z3 : Int) ≠ 1 := c4
            refine yG.iinc rfl (a := a1) rfl (L' := [(1, yI (a1 + 1)), (0, yR 2073)]) rfl ?_
            refine yG.goto rfl (t := 164) rfl ?_
            exact yG.mono (yG.sub (i_164 (a1 + 1)  hq A_hq  (by omega) (by omega) (by omega)) (ySub.cons rfl (ySub.cons rfl (ySub.nil)))) (by omega)
          · have c4 : (z3 : Int) = 1 := c4
            refine yG.load xak rfl (fun _ _ => rfl) (v := yR 2073) rfl rfl ?_
            refine yG.getR A_hq.1 (r_isLive W) rfl rfl ?_
            refine yG.load xak rfl (fun _ _ => rfl) (v := yR 2073) rfl rfl ?_
            refine yG.getR A_hq.1 (r_island W) rfl rfl ?_
            refine yG.load xak rfl (fun _ _ => rfl) (v := yR 2073) rfl rfl ?_
            refine yG.num (c := 3) rfl (fun _ _ => rfl) (by decide) ?_
            refine yG.load xik rfl (fun _ _ => rfl) (v := yI (a1)) rfl rfl ?_
            refine yG.num (c := 10) rfl (fun _ _ => rfl) (by decide) ?_
            refine yG.invV (rest := [yR 2101, yR 2102]) A_hq.1 W.m.1 rfl rfl rfl rfl (a_of_3_10 W d A_hq.1 (a1) (by omega) (by omega)) (fun rv hp9 q9 => ?_)
            obtain ⟨⟨z5, rfl, l_z5, u_z5⟩, e9⟩ := q9
            rw [e9]
            show yG _ _ _ _ _ _ _ _ _ _ (yI z5 :: [yR 2101, yR 2102]) _
            refine yG.iald A_hq.1 (v_island W) rfl (by omega) (by omega) (fun z6 e_z6 i_z6 l_z6 u_z6 => ?_)
            refine yG.num (c := 1) rfl (fun _ _ => rfl) (by decide) ?_
            refine yG.bast A_hq.1 (v_isLive W) (by decide) rfl (by omega) (by omega) ⟨by omega, by omega⟩ (by omega) (by omega) (fun h7 T_h7 b_h7 f_h7 y_h7 => ?_)
            have A_h7 := A_hq.putA T_h7 b_h7 f_h7 (by decide)
            refine yG.iinc rfl (a := a1) rfl (L' := [(1, yI (a1 + 1)), (0, yR 2073)]) rfl ?_
            refine yG.goto rfl (t := 164) rfl ?_
            exact yG.mono (yG.sub (i_164 (a1 + 1)  h7 A_h7  (by omega) (by omega) (by omega)) (ySub.cons rfl (ySub.cons rfl (ySub.nil)))) (by omega)
  refine yC.of (M := (xt_X13_topology, (2, (0, (14, []))))) rfl rfl (N := 68506320) (yfuel (by decide)) ?_
  show yG 89 xfts (xcall 89 xfts xpools xms (d + 2)) (xpool xp_RX13) [] xt_X13_topology (yP 0 (yQv G [] [2100, 2101, 2102] hp)) 68506320 0 [(0, yR 2073)] [] hp
  obtain ⟨i_2, i_34, i_84, i_114, i_164⟩ := H 2283543
  refine yG.num (c := 0) rfl (fun _ _ => rfl) (by decide) ?_
  refine yG.store1 xik (L' := [(1, yI (0)), (0, yR 2073)]) rfl (fun _ _ => rfl) rfl rfl ?_
  exact yG.mono (yG.sub (i_2 (0)  hp A_hp  (by omega) (by omega) (by omega)) (ySub.cons rfl (ySub.cons rfl (ySub.nil)))) (by omega)
theorem a_netTopology {hp : xH} (W : yWW G) (d : Nat) (hT : zTy G hp) : yC (xcall 89 xfts xpools xms (d + 4)) 464 [yR 2073] hp (yQv G [] [2098, 2099, 2100, 2101, 2102] hp) := by
  have A_hp : yAx G [] [2098, 2099, 2100, 2101, 2102] hp hp := yAx.rf hT
  refine yC.of (M := (xt_X13_netTopology, (1, (0, (14, []))))) rfl rfl (N := 30) (yfuel (by decide)) ?_
  show yG 89 xfts (xcall 89 xfts xpools xms (d + 3)) (xpool xp_RX13) [] xt_X13_netTopology (yP 0 (yQv G [] [2098, 2099, 2100, 2101, 2102] hp)) 30 0 [(0, yR 2073)] [] hp
  refine yG.load xak rfl (fun _ _ => rfl) (v := yR 2073) rfl rfl ?_
  refine yG.getI A_hp.1 (w_hasFlows W) rfl rfl (fun z1 e_z1 i_z1 l_z1 u_z1 => ?_)
  refine yG.ifz rfl (t := 15) rfl ⟨by omega, by omega⟩ (fun c2 => ?_) (fun c2 => ?_)
  · have c2 : (z1 : Int) ≠ 0 := c2
    refine yG.ret rfl (fun _ _ => rfl) ?_
    exact yP.void ⟨rfl, A_hp⟩
  · have c2 : (z1 : Int) = 0 := c2
    refine yG.load xak rfl (fun _ _ => rfl) (v := yR 2073) rfl rfl ?_
    refine yG.invV (rest := []) A_hp.1 W.m.1 rfl rfl rfl rfl (a_asItIs W d A_hp.1) (fun rv h4 q9 => ?_)
    obtain ⟨rfl, B_h4⟩ := q9
    have A_h4 := A_hp.tr (B_h4.sub (by decide) (by decide))
    have g40_h4 : ys h4 2073 40 = ys hp 2073 40 := B_h4.ys (by decide) (by decide)
    show yG _ _ _ _ _ _ _ _ _ _ [] _
    refine yG.load xak rfl (fun _ _ => rfl) (v := yR 2073) rfl rfl ?_
    refine yG.invV (rest := []) A_h4.1 W.m.1 rfl rfl rfl rfl (a_topology W d A_h4.1) (fun rv h6 q9 => ?_)
    obtain ⟨rfl, B_h6⟩ := q9
    have A_h6 := A_h4.tr (B_h6.sub (by decide) (by decide))
    have g40_h6 : ys h6 2073 40 = ys h4 2073 40 := B_h6.ys (by decide) (by decide)
    show yG _ _ _ _ _ _ _ _ _ _ [] _
    refine yG.ret rfl (fun _ _ => rfl) ?_
    exact yP.void ⟨rfl, A_h6⟩
theorem a_mod {hp : xH} (W : yWW G) (d : Nat) (hT : zTy G hp) (p1 : Int) (h1l : (-9223372036854775808) ≤ p1) (h1u : p1 ≤ 9223372036854775807) (q11l : 1 ≤ ys hp 2073 11) (q11u : ys hp 2073 11 ≤ 2147483647) : yC (xcall 89 xfts xpools xms (d + 1)) 457 [yR 2073, yJ (p1)] hp (yQpj hp 0 2147483646) := by
  have A_hp : yAx G [] [] hp hp := yAx.rf hT
  refine yC.of (M := (xt_X13_mod, (5, (2, (14, []))))) rfl rfl (N := 51) (yfuel (by decide)) ?_
  show yG 89 xfts (xcall 89 xfts xpools xms d) (xpool xp_RX13) [] xt_X13_mod (yP 2 (yQpj hp 0 2147483646)) 51 0 [(0, yR 2073), (1, yJ (p1))] [] hp
  obtain ⟨gg11, E_11⟩ : ∃ z : Int, ys hp 2073 11 = z := ⟨_, rfl⟩
  obtain ⟨-, -, r_11l, r_11u⟩ := (w_p W).long hT
  refine yG.load xlk2 rfl (fun _ _ => rfl) (v := yJ (p1)) rfl rfl ?_
  refine yG.load xak rfl (fun _ _ => rfl) (v := yR 2073) rfl rfl ?_
  refine yG.getJ A_hp.1 (w_p W) rfl rfl (fun z1 e_z1 i_z1 l_z1 u_z1 => ?_)
  refine yG.lremS rfl ⟨by omega, by omega⟩ ⟨by omega, by omega⟩ (by omega) (fun z2 l_z2 u_z2 => ?_)
  refine yG.store2 xlk2 (L' := [(3, yJ (z2)), (0, yR 2073), (1, yJ (p1))]) rfl (fun _ _ => rfl) rfl rfl ?_
  refine yG.load xlk2 rfl (fun _ _ => rfl) (v := yJ (z2)) rfl rfl ?_
  refine yG.numl (c := 0) rfl (fun _ _ => rfl) (by decide) ?_
  refine yG.lcmp rfl ⟨by omega, by omega⟩ ⟨by omega, by omega⟩ (fun z3 e_z3 => ?_)
  refine yG.ifz rfl (t := 22) rfl ⟨by omega, by omega⟩ (fun c4 => ?_) (fun c4 => ?_)
  · have c4 : (z3 : Int) ≥ 0 := c4
    refine yG.load xlk2 rfl (fun _ _ => rfl) (v := yJ (z2)) rfl rfl ?_
    refine yG.ret rfl (fun _ _ => rfl) ?_
    exact yP.long ⟨by omega, by omega⟩ ⟨⟨z2, rfl, by omega, by omega⟩, rfl⟩
  · have c4 : (z3 : Int) < 0 := c4
    refine yG.load xlk2 rfl (fun _ _ => rfl) (v := yJ (z2)) rfl rfl ?_
    refine yG.load xak rfl (fun _ _ => rfl) (v := yR 2073) rfl rfl ?_
    refine yG.getJ A_hp.1 (w_p W) rfl rfl (fun z5 e_z5 i_z5 l_z5 u_z5 => ?_)
    refine yG.ladd rfl ?_
    refine yG.goto rfl (t := 23) rfl ?_
    refine yG.ret rfl (fun _ _ => rfl) ?_
    exact yP.long ⟨by omega, by omega⟩ ⟨⟨z2 + z5, rfl, by omega, by omega⟩, rfl⟩
theorem a_inverse {hp : xH} (W : yWW G) (d : Nat) (hT : zTy G hp) (p1 p3 : Int) (h1l : 0 ≤ p1) (h1u : p1 ≤ 2147483647) (h3l : 1 ≤ p3) (h3u : p3 ≤ 2147483647) : yC (xcall 89 xfts xpools xms (d + 1)) 419 [yR 2073, yJ (p1), yJ (p3)] hp (yQpj hp 0 2147483646) := by
  have A_hp : yAx G [] [] hp hp := yAx.rf hT
  have H : ∀ m : Nat, (∀ a5 a7 a9 : Int, 0 ≤ a5 → (-2147483646) ≤ 0 - a5 → 0 ≤ a7 → (-2147483646) ≤ 0 - a7 → (-1) ≤ a9 → (-2147483645) ≤ 0 - a9 → 0 ≤ p1 → (-2147483647) ≤ 0 - p1 → 1 ≤ p3 → (-2147483647) ≤ 0 - p3 → (-2147483644) ≤ a5 - a9 → (-2147483646) ≤ 0 - a5 + a9 → 0 ≤ 0 - a5 + p3 → 1 ≤ 0 - a7 + p3 → (-2147483647) ≤ a9 - p3 → 2 ≤ 0 - a9 + p3 → 2 * a9 + 3 < (m : Int) → yG 89 xfts (xcall 89 xfts xpools xms d) (xpool xp_RX13) [] xt_X13_inverse (yP 2 (yQpj hp 0 2147483646)) (29 * m) 15 [(3, yJ (p3)), (5, yJ (a5)), (7, yJ (a7)), (9, yJ (a9))] [] hp) := by
    intro m
    induction m with
    | zero =>
      intros; exfalso; omega
    | succ m ih =>
      have i_15 := ih
      clear ih
      intro a5 a7 a9 f0 f1 f2 f3 f4 f5 f6 f7 f8 f9 f10 f11 f12 f13 f14 f15 hm
      refine yG.mono (N := 29 * m + 29) ?_ (by omega)
      refine yG.load xlk2 rfl (fun _ _ => rfl) (v := yJ (a9)) rfl rfl ?_
      refine yG.numl (c := 0) rfl (fun _ _ => rfl) (by decide) ?_
      refine yG.lcmp rfl ⟨by omega, by omega⟩ ⟨by omega, by omega⟩ (fun z1 e_z1 => ?_)
      refine yG.ifz rfl (t := 58) rfl ⟨by omega, by omega⟩ (fun c2 => ?_) (fun c2 => ?_)
      · have c2 : (z1 : Int) ≤ 0 := c2
        refine yG.load xlk2 rfl (fun _ _ => rfl) (v := yJ (a5)) rfl rfl ?_
        refine yG.ret rfl (fun _ _ => rfl) ?_
        exact yP.long ⟨by omega, by omega⟩ ⟨⟨a5, rfl, by omega, by omega⟩, rfl⟩
      · have c2 : (z1 : Int) > 0 := c2
        refine yG.load xlk2 rfl (fun _ _ => rfl) (v := yJ (a9)) rfl rfl ?_
        refine yG.numl (c := 1) rfl (fun _ _ => rfl) (by decide) ?_
        refine yG.bit64 rfl (fun _ _ => rfl) (fun z3 e_z3 l_z3 u_z3 => ?_)
        have b_z3 : 0 ≤ z3 ∧ z3 ≤ 1 := by rw [e_z3]; exact yland ⟨by decide, by decide⟩ (by decide)
        refine yG.numl (c := 1) rfl (fun _ _ => rfl) (by decide) ?_
        refine yG.lcmp rfl ⟨by omega, by omega⟩ ⟨by omega, by omega⟩ (fun z4 e_z4 => ?_)
        refine yG.ifz rfl (t := 40) rfl ⟨by omega, by omega⟩ (fun c5 => ?_) (fun c5 => ?_)
        · have c5 : (z4 : Int) ≠ 0 := c5
          refine yG.load xlk2 rfl (fun _ _ => rfl) (v := yJ (a7)) rfl rfl ?_
          refine yG.load xlk2 rfl (fun _ _ => rfl) (v := yJ (a7)) rfl rfl ?_
          refine yG.lmul rfl ?_
          obtain ⟨z6, e_z6⟩ : ∃ z : Int, z = a7 * a7 := ⟨_, rfl⟩
          rw [← e_z6]
          have b_z6 : 0 ≤ z6 ∧ z6 ≤ 4611686009837453316 := e_z6 ▸ ymulb (A := 2147483646) (B := 2147483646) (by omega) (by omega) (by omega) (by omega) (by decide)
          refine yG.load xlk2 rfl (fun _ _ => rfl) (v := yJ (p3)) rfl rfl ?_
          refine yG.lrem rfl ⟨by omega, by omega⟩ ⟨by omega, by omega⟩ (by omega) (by omega) ?_
          obtain ⟨z7, e_z7⟩ : ∃ z : Int, z = (z6) % (p3) := ⟨_, rfl⟩
          rw [← e_z7]
          have b_z7 : 0 ≤ z7 ∧ z7 < p3 := e_z7 ▸ ⟨Int.emod_nonneg _ (by omega), Int.emod_lt_of_pos _ (by omega)⟩
          refine yG.store2 xlk2 (L' := [(7, yJ (z7)), (3, yJ (p3)), (5, yJ (a5)), (9, yJ (a9))]) rfl (fun _ _ => rfl) rfl rfl ?_
          refine yG.load xlk2 rfl (fun _ _ => rfl) (v := yJ (a9)) rfl rfl ?_
          refine yG.num (c := 1) rfl (fun _ _ => rfl) (by decide) ?_
          refine yG.bit64 rfl (fun _ _ => rfl) (fun z8 e_z8 l_z8 u_z8 => ?_)
          have b_z8 : z8 = (a9) / 2 := by rw [e_z8]; exact ylshr (n := 1) ⟨by omega, by omega⟩ (by decide)
          refine yG.store2 xlk2 (L' := [(9, yJ (z8)), (7, yJ (z7)), (3, yJ (p3)), (5, yJ (a5))]) rfl (fun _ _ => rfl) rfl rfl ?_
          refine yG.goto rfl (t := 15) rfl ?_
          exact yG.mono (yG.sub (i_15 (a5) (z7) (z8)    (by omega) (by omega) (by omega) (by omega) (by omega) (by omega) (by omega) (by omega) (by omega) (by omega) (by omega) (by omega) (by omega) (by omega) (by omega) (by omega) (by omega)) (ySub.cons rfl (ySub.cons rfl (ySub.cons rfl (ySub.cons rfl (ySub.nil)))))) (by omega)
        · have c5 : (z4 : Int) = 0 := c5
          refine yG.load xlk2 rfl (fun _ _ => rfl) (v := yJ (a5)) rfl rfl ?_
          refine yG.load xlk2 rfl (fun _ _ => rfl) (v := yJ (a7)) rfl rfl ?_
          refine yG.lmul rfl ?_
          obtain ⟨z9, e_z9⟩ : ∃ z : Int, z = a5 * a7 := ⟨_, rfl⟩
          rw [← e_z9]
          have b_z9 : 0 ≤ z9 ∧ z9 ≤ 4611686009837453316 := e_z9 ▸ ymulb (A := 2147483646) (B := 2147483646) (by omega) (by omega) (by omega) (by omega) (by decide)
          refine yG.load xlk2 rfl (fun _ _ => rfl) (v := yJ (p3)) rfl rfl ?_
          refine yG.lrem rfl ⟨by omega, by omega⟩ ⟨by omega, by omega⟩ (by omega) (by omega) ?_
          obtain ⟨z10, e_z10⟩ : ∃ z : Int, z = (z9) % (p3) := ⟨_, rfl⟩
          rw [← e_z10]
          have b_z10 : 0 ≤ z10 ∧ z10 < p3 := e_z10 ▸ ⟨Int.emod_nonneg _ (by omega), Int.emod_lt_of_pos _ (by omega)⟩
          refine yG.store2 xlk2 (L' := [(5, yJ (z10)), (3, yJ (p3)), (7, yJ (a7)), (9, yJ (a9))]) rfl (fun _ _ => rfl) rfl rfl ?_
          refine yG.load xlk2 rfl (fun _ _ => rfl) (v := yJ (a7)) rfl rfl ?_
          refine yG.load xlk2 rfl (fun _ _ => rfl) (v := yJ (a7)) rfl rfl ?_
          refine yG.lmul rfl ?_
          obtain ⟨z11, e_z11⟩ : ∃ z : Int, z = a7 * a7 := ⟨_, rfl⟩
          rw [← e_z11]
          have b_z11 : 0 ≤ z11 ∧ z11 ≤ 4611686009837453316 := e_z11 ▸ ymulb (A := 2147483646) (B := 2147483646) (by omega) (by omega) (by omega) (by omega) (by decide)
          refine yG.load xlk2 rfl (fun _ _ => rfl) (v := yJ (p3)) rfl rfl ?_
          refine yG.lrem rfl ⟨by omega, by omega⟩ ⟨by omega, by omega⟩ (by omega) (by omega) ?_
          obtain ⟨z12, e_z12⟩ : ∃ z : Int, z = (z11) % (p3) := ⟨_, rfl⟩
          rw [← e_z12]
          have b_z12 : 0 ≤ z12 ∧ z12 < p3 := e_z12 ▸ ⟨Int.emod_nonneg _ (by omega), Int.emod_lt_of_pos _ (by omega)⟩
          refine yG.store2 xlk2 (L' := [(7, yJ (z12)), (5, yJ (z10)), (3, yJ (p3)), (9, yJ (a9))]) rfl (fun _ _ => rfl) rfl rfl ?_
          refine yG.load xlk2 rfl (fun _ _ => rfl) (v := yJ (a9)) rfl rfl ?_
          refine yG.num (c := 1) rfl (fun _ _ => rfl) (by decide) ?_
          refine yG.bit64 rfl (fun _ _ => rfl) (fun z13 e_z13 l_z13 u_z13 => ?_)
          have b_z13 : z13 = (a9) / 2 := by rw [e_z13]; exact ylshr (n := 1) ⟨by omega, by omega⟩ (by decide)
          refine yG.store2 xlk2 (L' := [(9, yJ (z13)), (7, yJ (z12)), (5, yJ (z10)), (3, yJ (p3))]) rfl (fun _ _ => rfl) rfl rfl ?_
          refine yG.goto rfl (t := 15) rfl ?_
          exact yG.mono (yG.sub (i_15 (z10) (z12) (z13)    (by omega) (by omega) (by omega) (by omega) (by omega) (by omega) (by omega) (by omega) (by omega) (by omega) (by omega) (by omega) (by omega) (by omega) (by omega) (by omega) (by omega)) (ySub.cons rfl (ySub.cons rfl (ySub.cons rfl (ySub.cons rfl (ySub.nil)))))) (by omega)
  refine yC.of (M := (xt_X13_inverse, (11, (2, (14, []))))) rfl rfl (N := 124554051584) (yfuel (by decide)) ?_
  show yG 89 xfts (xcall 89 xfts xpools xms d) (xpool xp_RX13) [] xt_X13_inverse (yP 2 (yQpj hp 0 2147483646)) 124554051584 0 [(0, yR 2073), (1, yJ (p1)), (3, yJ (p3))] [] hp
  have i_15 := H 4294967295
  refine yG.numl (c := 1) rfl (fun _ _ => rfl) (by decide) ?_
  refine yG.store2 xlk2 (L' := [(5, yJ (1)), (0, yR 2073), (1, yJ (p1)), (3, yJ (p3))]) rfl (fun _ _ => rfl) rfl rfl ?_
  refine yG.load xlk2 rfl (fun _ _ => rfl) (v := yJ (p1)) rfl rfl ?_
  refine yG.load xlk2 rfl (fun _ _ => rfl) (v := yJ (p3)) rfl rfl ?_
  refine yG.lrem rfl ⟨by omega, by omega⟩ ⟨by omega, by omega⟩ (by omega) (by omega) ?_
  obtain ⟨z1, e_z1⟩ : ∃ z : Int, z = (p1) % (p3) := ⟨_, rfl⟩
  rw [← e_z1]
  have b_z1 : 0 ≤ z1 ∧ z1 < p3 := e_z1 ▸ ⟨Int.emod_nonneg _ (by omega), Int.emod_lt_of_pos _ (by omega)⟩
  refine yG.store2 xlk2 (L' := [(7, yJ (z1)), (5, yJ (1)), (0, yR 2073), (1, yJ (p1)), (3, yJ (p3))]) rfl (fun _ _ => rfl) rfl rfl ?_
  refine yG.load xlk2 rfl (fun _ _ => rfl) (v := yJ (p3)) rfl rfl ?_
  refine yG.numl (c := 2) rfl (fun _ _ => rfl) (by decide) ?_
  refine yG.lsub rfl ?_
  obtain ⟨z2, e_z2⟩ : ∃ z : Int, z = p3 - 2 := ⟨_, rfl⟩
  rw [← e_z2]
  refine yG.store2 xlk2 (L' := [(9, yJ (z2)), (7, yJ (z1)), (5, yJ (1)), (0, yR 2073), (1, yJ (p1)), (3, yJ (p3))]) rfl (fun _ _ => rfl) rfl rfl ?_
  exact yG.mono (yG.sub (i_15 (1) (z1) (z2)    (by omega) (by omega) (by omega) (by omega) (by omega) (by omega) (by omega) (by omega) (by omega) (by omega) (by omega) (by omega) (by omega) (by omega) (by omega) (by omega) (by omega)) (ySub.cons rfl (ySub.cons rfl (ySub.cons rfl (ySub.cons rfl (ySub.nil)))))) (by omega)
theorem a_usePrime {hp : xH} (W : yWW G) (d : Nat) (hT : zTy G hp) (p1 : Int) (h1l : 0 ≤ p1) (h1u : p1 ≤ 39) (q10l : 0 ≤ ys hp 2073 10) (q10u : ys hp 2073 10 ≤ 39) : yC (xcall 89 xfts xpools xms (d + 1)) 537 [yR 2073, yI (p1)] hp (yQv G [10] [2082] hp) := by
  have A_hp : yAx G [10] [2082] hp hp := yAx.rf hT
  refine yC.of (M := (xt_X13_usePrime, (2, (0, (14, []))))) rfl rfl (N := 45) (yfuel (by decide)) ?_
  show yG 89 xfts (xcall 89 xfts xpools xms d) (xpool xp_RX13) [] xt_X13_usePrime (yP 0 (yQv G [10] [2082] hp)) 45 0 [(0, yR 2073), (1, yI (p1))] [] hp
  obtain ⟨gg10, E_10⟩ : ∃ z : Int, ys hp 2073 10 = z := ⟨_, rfl⟩
  obtain ⟨-, -, r_10l, r_10u⟩ := (w_usedCount W).int hT
  refine yG.load xak rfl (fun _ _ => rfl) (v := yR 2073) rfl rfl ?_
  refine yG.getR A_hp.1 (r_used W) rfl rfl ?_
  refine yG.load xak rfl (fun _ _ => rfl) (v := yR 2073) rfl rfl ?_
  refine yG.getI A_hp.1 (w_usedCount W) rfl rfl (fun z1 e_z1 i_z1 l_z1 u_z1 => ?_)
  refine yG.load xik rfl (fun _ _ => rfl) (v := yI (p1)) rfl rfl ?_
  refine yG.iast A_hp.1 (v_used W) (by decide) rfl (by omega) (by omega) ⟨by omega, by omega⟩ (by omega) (by omega) (fun h2 T_h2 b_h2 f_h2 y_h2 => ?_)
  have A_h2 := A_hp.putA T_h2 b_h2 f_h2 (by decide)
  have g10_h2 : ys h2 2073 10 = ys hp 2073 10 := (y_h2 2073 10).trans (if_neg (by omega))
  refine yG.load xak rfl (fun _ _ => rfl) (v := yR 2073) rfl rfl ?_
  refine yG.step (pc' := 12) (stk' := [yR 2073, yR 2073]) rfl (fun _ _ => rfl) ?_
  refine yG.getI A_h2.1 (w_usedCount W) rfl rfl (fun z3 e_z3 i_z3 l_z3 u_z3 => ?_)
  refine yG.num (c := 1) rfl (fun _ _ => rfl) (by decide) ?_
  refine yG.iadd rfl ?_
  refine yG.putI A_h2.1 (w_usedCount W) (by decide) rfl rfl (.inl rfl) ⟨by omega, by omega⟩ (by omega) (by omega) (fun h4 T_h4 b_h4 f_h4 y_h4 => ?_)
  have A_h4 := A_h2.putF T_h4 b_h4 f_h4 (by decide)
  have g10_h4 : ys h4 2073 10 = z3 + 1 := (y_h4 2073 10).trans (if_pos ⟨rfl, rfl⟩)
  refine yG.ret rfl (fun _ _ => rfl) ?_
  exact yP.void ⟨rfl, A_h4⟩
theorem a_tell {hp : xH} (W : yWW G) (d : Nat) (hT : zTy G hp) (p1 p2 : Int) (h1l : 0 ≤ p1) (h1u : p1 ≤ 179) (h2l : 0 ≤ p2) (h2u : p2 ≤ 2147483646) (q10l : 0 ≤ ys hp 2073 10) (q10u : ys hp 2073 10 ≤ 39) : yC (xcall 89 xfts xpools xms (d + 1)) 527 [yR 2073, yI (p1), yJ (p2)] hp (yQv G [] [2081] hp) := by
  have A_hp : yAx G [] [2081] hp hp := yAx.rf hT
  refine yC.of (M := (xt_X13_tell, (4, (0, (14, []))))) rfl rfl (N := 39) (yfuel (by decide)) ?_
  show yG 89 xfts (xcall 89 xfts xpools xms d) (xpool xp_RX13) [] xt_X13_tell (yP 0 (yQv G [] [2081] hp)) 39 0 [(0, yR 2073), (1, yI (p1)), (2, yJ (p2))] [] hp
  obtain ⟨gg10, E_10⟩ : ∃ z : Int, ys hp 2073 10 = z := ⟨_, rfl⟩
  obtain ⟨-, -, r_10l, r_10u⟩ := (w_usedCount W).int hT
  refine yG.load xak rfl (fun _ _ => rfl) (v := yR 2073) rfl rfl ?_
  refine yG.getR A_hp.1 (r_residue W) rfl rfl ?_
  refine yG.num (c := 180) rfl (fun _ _ => rfl) (by decide) ?_
  refine yG.load xak rfl (fun _ _ => rfl) (v := yR 2073) rfl rfl ?_
  refine yG.getI A_hp.1 (w_usedCount W) rfl rfl (fun z1 e_z1 i_z1 l_z1 u_z1 => ?_)
  refine yG.imul rfl ?_
  refine yG.load xik rfl (fun _ _ => rfl) (v := yI (p1)) rfl rfl ?_
  refine yG.iadd rfl ?_
  refine yG.load xlk2 rfl (fun _ _ => rfl) (v := yJ (p2)) rfl rfl ?_
  refine yG.last A_hp.1 (v_residue W) (by decide) rfl (by omega) (by omega) ⟨by omega, by omega⟩ (by omega) (by omega) (fun h2 T_h2 b_h2 f_h2 y_h2 => ?_)
  have A_h2 := A_hp.putA T_h2 b_h2 f_h2 (by decide)
  have g10_h2 : ys h2 2073 10 = ys hp 2073 10 := (y_h2 2073 10).trans (if_neg (by omega))
  refine yG.ret rfl (fun _ _ => rfl) ?_
  exact yP.void ⟨rfl, A_h2⟩
theorem a_times_ {hp : xH} (W : yWW G) (d : Nat) (hT : zTy G hp) (p1 : Int) (h1l : 0 ≤ p1) (h1u : p1 ≤ 15) : yC (xcall 89 xfts xpools xms (d + 1)) 532 [yR 2073, yI (p1)] hp (yQpj hp (-9223372036854775808) 9223372036854775807) := by
  have A_hp : yAx G [] [] hp hp := yAx.rf hT
  refine yC.of (M := (xt_X13_times_, (2, (2, (14, []))))) rfl rfl (N := 42) (yfuel (by decide)) ?_
  show yG 89 xfts (xcall 89 xfts xpools xms d) (xpool xp_RX13) [] xt_X13_times_ (yP 2 (yQpj hp (-9223372036854775808) 9223372036854775807)) 42 0 [(0, yR 2073), (1, yI (p1))] [] hp
  refine yG.load xak rfl (fun _ _ => rfl) (v := yR 2073) rfl rfl ?_
  refine yG.getR A_hp.1 (r_share W) rfl rfl ?_
  refine yG.load xik rfl (fun _ _ => rfl) (v := yI (p1)) rfl rfl ?_
  refine yG.lald A_hp.1 (v_share W) rfl (by omega) (by omega) (fun z1 e_z1 i_z1 l_z1 u_z1 => ?_)
  refine yG.numl (c := 0) rfl (fun _ _ => rfl) (by decide) ?_
  refine yG.lcmp rfl ⟨by omega, by omega⟩ ⟨by omega, by omega⟩ (fun z2 e_z2 => ?_)
  refine yG.ifz rfl (t := 15) rfl ⟨by omega, by omega⟩ (fun c3 => ?_) (fun c3 => ?_)
  · have c3 : (z2 : Int) ≠ 0 := c3
    refine yG.load xak rfl (fun _ _ => rfl) (v := yR 2073) rfl rfl ?_
    refine yG.getR A_hp.1 (r_share W) rfl rfl ?_
    refine yG.load xik rfl (fun _ _ => rfl) (v := yI (p1)) rfl rfl ?_
    refine yG.lald A_hp.1 (v_share W) rfl (by omega) (by omega) (fun z4 e_z4 i_z4 l_z4 u_z4 => ?_)
    refine yG.ret rfl (fun _ _ => rfl) ?_
    exact yP.long ⟨by omega, by omega⟩ ⟨⟨z4, rfl, by omega, by omega⟩, rfl⟩
  · have c3 : (z2 : Int) = 0 := c3
    refine yG.numl (c := 1) rfl (fun _ _ => rfl) (by decide) ?_
    refine yG.goto rfl (t := 21) rfl ?_
    refine yG.ret rfl (fun _ _ => rfl) ?_
    exact yP.long ⟨by omega, by omega⟩ ⟨⟨1, rfl, by omega, by omega⟩, rfl⟩
theorem a_putAllIn {hp : xH} (W : yWW G) (d : Nat) (hT : zTy G hp) (p1 : Int) (h1l : 0 ≤ p1) (h1u : p1 ≤ 15) : yC (xcall 89 xfts xpools xms (d + 3)) 486 [yR 2073, yI (p1)] hp (yQv G [] [2109] hp) := by
  have A_hp : yAx G [] [2109] hp hp := yAx.rf hT
  have H : ∀ m : Nat, (∀ a2 : Int, ∀ hq, yAx G [] [2109] hp hq → 0 ≤ a2 → (-16) ≤ 0 - a2 → 0 ≤ p1 → (-15) ≤ 0 - p1 → 0 - 190 * a2 + 3229 < (m : Int) → yG 89 xfts (xcall 89 xfts xpools xms (d + 2)) (xpool xp_RX13) [] xt_X13_putAllIn (yP 0 (yQv G [] [2109] hp)) (68 * m) 2 [(0, yR 2073), (1, yI (p1)), (2, yI (a2))] [] hq) ∧ (∀ a2 : Int, ∀ hq, yAx G [] [2109] hp hq → 0 ≤ a2 → (-6) ≤ 0 - a2 → 0 ≤ p1 → (-15) ≤ 0 - p1 → 0 - 27 * a2 + 188 < (m : Int) → yG 89 xfts (xcall 89 xfts xpools xms (d + 2)) (xpool xp_RX13) [] xt_X13_putAllIn (yP 0 (yQv G [] [2109] hp)) (68 * m) 27 [(0, yR 2073), (1, yI (p1)), (2, yI (a2))] [] hq) ∧ (∀ a2 : Int, ∀ hq, yAx G [] [2109] hp hq → 0 ≤ a2 → (-12) ≤ 0 - a2 → 0 ≤ p1 → (-15) ≤ 0 - p1 → 0 - 2 * a2 + 25 < (m : Int) → yG 89 xfts (xcall 89 xfts xpools xms (d + 2)) (xpool xp_RX13) [] xt_X13_putAllIn (yP 0 (yQv G [] [2109] hp)) (68 * m) 135 [(0, yR 2073), (1, yI (p1)), (2, yI (a2))] [] hq) := by
    intro m
    induction m with
    | zero =>
      refine ⟨?_, ?_, ?_⟩ <;> (intros; exfalso; omega)
    | succ m ih =>
      obtain ⟨i_2, i_27, i_135⟩ := ih
      refine ⟨?_, ?_, ?_⟩
      · intro a2 hq A_hq f0 f1 f2 f3 hm
        refine yG.mono (N := 68 * m + 68) ?_ (by omega)
        refine yG.load xik rfl (fun _ _ => rfl) (v := yI (a2)) rfl rfl ?_
        refine yG.load xak rfl (fun _ _ => rfl) (v := yR 2073) rfl rfl ?_
        refine yG.getR A_hq.1 (r_count W) rfl rfl ?_
        refine yG.num (c := 0) rfl (fun _ _ => rfl) (by decide) ?_
        refine yG.ialdF A_hq.1 (p_count W) rfl rfl (by omega) (by omega) (fun z1 e_z1 i_z1 l_z1 u_z1 => ?_)
        refine yG.icmp rfl (t := 25) rfl ⟨by omega, by omega⟩ ⟨by omega, by omega⟩ (fun c2 => ?_) (fun c2 => ?_)
        · have c2 : (a2 : Int) ≥ z1 := c2
          refine yG.num (c := 0) rfl (fun _ _ => rfl) (by decide) ?_
          refine yG.store1 xik (L' := [(2, yI (0)), (0, yR 2073), (1, yI (p1))]) rfl (fun _ _ => rfl) rfl rfl ?_
          exact yG.mono (yG.sub (i_27 (0)  hq A_hq  (by omega) (by omega) (by omega) (by omega) (by omega)) (ySub.cons rfl (ySub.cons rfl (ySub.cons rfl (ySub.nil))))) (by omega)
        · have c2 : (a2 : Int) < z1 := c2
          refine yG.load xak rfl (fun _ _ => rfl) (v := yR 2073) rfl rfl ?_
          refine yG.getR A_hq.1 (r_putIn W) rfl rfl ?_
          refine yG.load xik rfl (fun _ _ => rfl) (v := yI (a2)) rfl rfl ?_
          refine yG.numl (c := 0) rfl (fun _ _ => rfl) (by decide) ?_
          refine yG.last A_hq.1 (v_putIn W) (by decide) rfl (by omega) (by omega) ⟨by omega, by omega⟩ (by omega) (by omega) (fun h3 T_h3 b_h3 f_h3 y_h3 => ?_)
          have A_h3 := A_hq.putA T_h3 b_h3 f_h3 (by decide)
          refine yG.iinc rfl (a := a2) rfl (L' := [(2, yI (a2 + 1)), (0, yR 2073), (1, yI (p1))]) rfl ?_
          refine yG.goto rfl (t := 2) rfl ?_
          exact yG.mono (yG.sub (i_2 (a2 + 1)  h3 A_h3  (by omega) (by omega) (by omega) (by omega) (by omega)) (ySub.cons rfl (ySub.cons rfl (ySub.cons rfl (ySub.nil))))) (by omega)
      · intro a2 hq A_hq f0 f1 f2 f3 hm
        refine yG.mono (N := 68 * m + 68) ?_ (by omega)
        refine yG.load xik rfl (fun _ _ => rfl) (v := yI (a2)) rfl rfl ?_
        refine yG.load xak rfl (fun _ _ => rfl) (v := yR 2073) rfl rfl ?_
        refine yG.getR A_hq.1 (r_count W) rfl rfl ?_
        refine yG.num (c := 3) rfl (fun _ _ => rfl) (by decide) ?_
        refine yG.ialdF A_hq.1 (p_count W) rfl rfl (by omega) (by omega) (fun z1 e_z1 i_z1 l_z1 u_z1 => ?_)
        refine yG.icmp rfl (t := 133) rfl ⟨by omega, by omega⟩ ⟨by omega, by omega⟩ (fun c2 => ?_) (fun c2 => ?_)
        · have c2 : (a2 : Int) ≥ z1 := c2
          refine yG.num (c := 0) rfl (fun _ _ => rfl) (by decide) ?_
          refine yG.store1 xik (L' := [(2, yI (0)), (0, yR 2073), (1, yI (p1))]) rfl (fun _ _ => rfl) rfl rfl ?_
          exact yG.mono (yG.sub (i_135 (0)  hq A_hq  (by omega) (by omega) (by omega) (by omega) (by omega)) (ySub.cons rfl (ySub.cons rfl (ySub.cons rfl (ySub.nil))))) (by omega)
        · have c2 : (a2 : Int) < z1 := c2
          refine yG.load xak rfl (fun _ _ => rfl) (v := yR 2073) rfl rfl ?_
          refine yG.num (c := 3) rfl (fun _ _ => rfl) (by decide) ?_
          refine yG.load xik rfl (fun _ _ => rfl) (v := yI (a2)) rfl rfl ?_
          refine yG.num (c := 10) rfl (fun _ _ => rfl) (by decide) ?_
          refine yG.invV (rest := []) A_hq.1 W.m.1 rfl rfl rfl rfl (a_of_3_10 W d A_hq.1 (a2) (by omega) (by omega)) (fun rv hp9 q9 => ?_)
          obtain ⟨⟨z3, rfl, l_z3, u_z3⟩, e9⟩ := q9
          rw [e9]
          show yG _ _ _ _ _ _ _ _ _ _ (yI z3 :: []) _
          refine yG.store1 xik (L' := [(3, yI (z3)), (0, yR 2073), (1, yI (p1)), (2, yI (a2))]) rfl (fun _ _ => rfl) rfl rfl ?_
          refine yG.load xak rfl (fun _ _ => rfl) (v := yR 2073) rfl rfl ?_
          refine yG.getR A_hq.1 (r_island W) rfl rfl ?_
          refine yG.load xik rfl (fun _ _ => rfl) (v := yI (z3)) rfl rfl ?_
          refine yG.iald A_hq.1 (v_island W) rfl (by omega) (by omega) (fun z4 e_z4 i_z4 l_z4 u_z4 => ?_)
          refine yG.load xik rfl (fun _ _ => rfl) (v := yI (p1)) rfl rfl ?_
          refine yG.icmp rfl (t := 127) rfl ⟨by omega, by omega⟩ ⟨by omega, by omega⟩ (fun c5 => ?_) (fun c5 => ?_)
          · have c5 : (z4 : Int) ≠ p1 := c5
            refine yG.iinc rfl (a := a2) rfl (L' := [(2, yI (a2 + 1)), (3, yI (z3)), (0, yR 2073), (1, yI (p1))]) rfl ?_
            refine yG.goto rfl (t := 27) rfl ?_
            exact yG.mono (yG.sub (i_27 (a2 + 1)  hq A_hq  (by omega) (by omega) (by omega) (by omega) (by omega)) (ySub.cons rfl (ySub.cons rfl (ySub.cons rfl (ySub.nil))))) (by omega)
          · have c5 : (z4 : Int) = p1 := c5
            refine yG.load xak rfl (fun _ _ => rfl) (v := yR 2073) rfl rfl ?_
            refine yG.num (c := 3) rfl (fun _ _ => rfl) (by decide) ?_
            refine yG.load xik rfl (fun _ _ => rfl) (v := yI (a2)) rfl rfl ?_
            refine yG.num (c := 0) rfl (fun _ _ => rfl) (by decide) ?_
            refine yG.invV (rest := []) A_hq.1 W.m.1 rfl rfl rfl rfl (a_of_3_0 W d A_hq.1 (a2) (by omega) (by omega)) (fun rv hp9 q9 => ?_)
            obtain ⟨⟨z6, rfl, l_z6, u_z6⟩, e9⟩ := q9
            rw [e9]
            show yG _ _ _ _ _ _ _ _ _ _ (yI z6 :: []) _
            refine yG.num (c := 1) rfl (fun _ _ => rfl) (by decide) ?_
            refine yG.icmp rfl (t := 127) rfl ⟨by omega, by omega⟩ ⟨by omega, by omega⟩ (fun c7 => ?_) (fun c7 => ?_)
            · have c7 : (z6 : Int) ≠ 1 := c7
              refine yG.iinc rfl (a := a2) rfl (L' := [(2, yI (a2 + 1)), (3, yI (z3)), (0, yR 2073), (1, yI (p1))]) rfl ?_
              refine yG.goto rfl (t := 27) rfl ?_
              exact yG.mono (yG.sub (i_27 (a2 + 1)  hq A_hq  (by omega) (by omega) (by omega) (by omega) (by omega)) (ySub.cons rfl (ySub.cons rfl (ySub.cons rfl (ySub.nil))))) (by omega)
            · have c7 : (z6 : Int) = 1 := c7
              refine yG.load xak rfl (fun _ _ => rfl) (v := yR 2073) rfl rfl ?_
              refine yG.getR A_hq.1 (r_putIn W) rfl rfl ?_
              refine yG.load xak rfl (fun _ _ => rfl) (v := yR 2073) rfl rfl ?_
              refine yG.getR A_hq.1 (r_node W) rfl rfl ?_
              refine yG.load xik rfl (fun _ _ => rfl) (v := yI (z3)) rfl rfl ?_
              refine yG.iald A_hq.1 (v_node W) rfl (by omega) (by omega) (fun z8 e_z8 i_z8 l_z8 u_z8 => ?_)
              refine yG.step (pc' := 78) (stk' := [yI (z8), yR 2109, yI (z8), yR 2109]) rfl (fun _ _ => rfl) ?_
              refine yG.lald A_hq.1 (v_putIn W) rfl (by omega) (by omega) (fun z9 e_z9 i_z9 l_z9 u_z9 => ?_)
              refine yG.load xak rfl (fun _ _ => rfl) (v := yR 2073) rfl rfl ?_
              refine yG.num (c := 3) rfl (fun _ _ => rfl) (by decide) ?_
              refine yG.load xik rfl (fun _ _ => rfl) (v := yI (a2)) rfl rfl ?_
              refine yG.num (c := 1) rfl (fun _ _ => rfl) (by decide) ?_
              refine yG.invV (rest := [yJ (z9), yI (z8), yR 2109]) A_hq.1 W.m.1 rfl rfl rfl rfl (a_of_3_1 W d A_hq.1 (a2) (by omega) (by omega)) (fun rv hp9 q9 => ?_)
              obtain ⟨⟨z10, rfl, l_z10, u_z10⟩, e9⟩ := q9
              rw [e9]
              show yG _ _ _ _ _ _ _ _ _ _ (yI z10 :: [yJ (z9), yI (z8), yR 2109]) _
              refine yG.i2l rfl ⟨by omega, by omega⟩ ?_
              refine yG.load xak rfl (fun _ _ => rfl) (v := yR 2073) rfl rfl ?_
              refine yG.load xik rfl (fun _ _ => rfl) (v := yI (p1)) rfl rfl ?_
              refine yG.invV (rest := [yJ (z10), yJ (z9), yI (z8), yR 2109]) A_hq.1 W.m.1 rfl rfl rfl rfl (a_times_ W (d + 1) A_hq.1 (p1) (by omega) (by omega)) (fun rv hp9 q9 => ?_)
              obtain ⟨⟨z11, rfl, l_z11, u_z11⟩, e9⟩ := q9
              rw [e9]
              show yG _ _ _ _ _ _ _ _ _ _ (yJ z11 :: [yJ (z10), yJ (z9), yI (z8), yR 2109]) _
              refine yG.lmul rfl ?_
              obtain ⟨z12, e_z12⟩ : ∃ z : Int, z = z10 * z11 := ⟨_, rfl⟩
              rw [← e_z12]
              have b_z12 : -92224496996510903304192 ≤ z12 ∧ z12 ≤ 92224496996510903304192 := e_z12 ▸ ymuls (A := 9999) (B := 9223372036854775808) (by omega) (by omega) (by omega) (by omega) (by decide)
              refine yG.load xak rfl (fun _ _ => rfl) (v := yR 2073) rfl rfl ?_
              refine yG.getR A_hq.1 (r_share W) rfl rfl ?_
              refine yG.load xik rfl (fun _ _ => rfl) (v := yI (p1)) rfl rfl ?_
              refine yG.lald A_hq.1 (v_share W) rfl (by omega) (by omega) (fun z13 e_z13 i_z13 l_z13 u_z13 => ?_)
              refine yG.numl (c := 0) rfl (fun _ _ => rfl) (by decide) ?_
              refine yG.lcmp rfl ⟨by omega, by omega⟩ ⟨by omega, by omega⟩ (fun z14 e_z14 => ?_)
              refine yG.ifz rfl (t := 108) rfl ⟨by omega, by omega⟩ (fun c15 => ?_) (fun c15 => ?_)
              · have c15 : (z14 : Int) ≠ 0 := c15
                refine yG.load xak rfl (fun _ _ => rfl) (v := yR 2073) rfl rfl ?_
                refine yG.getR A_hq.1 (r_lack W) rfl rfl ?_
                refine yG.load xik rfl (fun _ _ => rfl) (v := yI (p1)) rfl rfl ?_
                refine yG.lald A_hq.1 (v_lack W) rfl (by omega) (by omega) (fun z16 e_z16 i_z16 l_z16 u_z16 => ?_)
                refine yG.load xak rfl (fun _ _ => rfl) (v := yR 2073) rfl rfl ?_
                refine yG.num (c := 3) rfl (fun _ _ => rfl) (by decide) ?_
                refine yG.load xik rfl (fun _ _ => rfl) (v := yI (a2)) rfl rfl ?_
                refine yG.num (c := 9) rfl (fun _ _ => rfl) (by decide) ?_
                refine yG.invV (rest := [yJ (z16), yJ (z12), yJ (z9), yI (z8), yR 2109]) A_hq.1 W.m.1 rfl rfl rfl rfl (a_of_3_9 W d A_hq.1 (a2) (by omega) (by omega)) (fun rv hp9 q9 => ?_)
                obtain ⟨⟨z17, rfl, l_z17, u_z17⟩, e9⟩ := q9
                rw [e9]
                show yG _ _ _ _ _ _ _ _ _ _ (yI z17 :: [yJ (z16), yJ (z12), yJ (z9), yI (z8), yR 2109]) _
                refine yG.i2l rfl ⟨by omega, by omega⟩ ?_
                refine yG.lmul rfl ?_
                obtain ⟨z18, e_z18⟩ : ∃ z : Int, z = z16 * z17 := ⟨_, rfl⟩
                rw [← e_z18]
                have b_z18 : -83010348331692982272 ≤ z18 ∧ z18 ≤ 83010348331692982272 := e_z18 ▸ ymuls (A := 9223372036854775808) (B := 9) (by omega) (by omega) (by omega) (by omega) (by decide)
                refine yG.ladd rfl ?_
                refine yG.ladd rfl ?_
                obtain ⟨z20, e_z20, l_z20, u_z20⟩ := ywJ (z9 + (z12 + z18))
                rw [e_z20]
                refine yG.last A_hq.1 (v_putIn W) (by decide) rfl (by omega) (by omega) ⟨by omega, by omega⟩ (by omega) (by omega) (fun h19 T_h19 b_h19 f_h19 y_h19 => ?_)
                have A_h19 := A_hq.putA T_h19 b_h19 f_h19 (by decide)
                refine yG.iinc rfl (a := a2) rfl (L' := [(2, yI (a2 + 1)), (3, yI (z3)), (0, yR 2073), (1, yI (p1))]) rfl ?_
                refine yG.goto rfl (t := 27) rfl ?_
                exact yG.mono (yG.sub (i_27 (a2 + 1)  h19 A_h19  (by omega) (by omega) (by omega) (by omega) (by omega)) (ySub.cons rfl (ySub.cons rfl (ySub.cons rfl (ySub.nil))))) (by omega)
              · have c15 : (z14 : Int) = 0 := c15
                refine yG.numl (c := 0) rfl (fun _ _ => rfl) (by decide) ?_
                refine yG.goto rfl (t := 124) rfl ?_
                refine yG.ladd rfl ?_
                refine yG.ladd rfl ?_
                obtain ⟨z22, e_z22, l_z22, u_z22⟩ := ywJ (z9 + (z12 + 0))
                rw [e_z22]
                refine yG.last A_hq.1 (v_putIn W) (by decide) rfl (by omega) (by omega) ⟨by omega, by omega⟩ (by omega) (by omega) (fun h21 T_h21 b_h21 f_h21 y_h21 => ?_)
                have A_h21 := A_hq.putA T_h21 b_h21 f_h21 (by decide)
                refine yG.iinc rfl (a := a2) rfl (L' := [(2, yI (a2 + 1)), (3, yI (z3)), (0, yR 2073), (1, yI (p1))]) rfl ?_
                refine yG.goto rfl (t := 27) rfl ?_
                exact yG.mono (yG.sub (i_27 (a2 + 1)  h21 A_h21  (by omega) (by omega) (by omega) (by omega) (by omega)) (ySub.cons rfl (ySub.cons rfl (ySub.cons rfl (ySub.nil))))) (by omega)
      · intro a2 hq A_hq f0 f1 f2 f3 hm
        refine yG.mono (N := 68 * m + 68) ?_ (by omega)
        refine yG.load xik rfl (fun _ _ => rfl) (v := yI (a2)) rfl rfl ?_
        refine yG.load xak rfl (fun _ _ => rfl) (v := yR 2073) rfl rfl ?_
        refine yG.getR A_hq.1 (r_count W) rfl rfl ?_
        refine yG.num (c := 4) rfl (fun _ _ => rfl) (by decide) ?_
        refine yG.ialdF A_hq.1 (p_count W) rfl rfl (by omega) (by omega) (fun z1 e_z1 i_z1 l_z1 u_z1 => ?_)
        refine yG.icmp rfl (t := 201) rfl ⟨by omega, by omega⟩ ⟨by omega, by omega⟩ (fun c2 => ?_) (fun c2 => ?_)
        · have c2 : (a2 : Int) ≥ z1 := c2
          refine yG.ret rfl (fun _ _ => rfl) ?_
          exact yP.void ⟨rfl, A_hq⟩
        · have c2 : (a2 : Int) < z1 := c2
          refine yG.load xak rfl (fun _ _ => rfl) (v := yR 2073) rfl rfl ?_
          refine yG.num (c := 4) rfl (fun _ _ => rfl) (by decide) ?_
          refine yG.load xik rfl (fun _ _ => rfl) (v := yI (a2)) rfl rfl ?_
          refine yG.num (c := 1) rfl (fun _ _ => rfl) (by decide) ?_
          refine yG.invV (rest := []) A_hq.1 W.m.1 rfl rfl rfl rfl (a_of_4_1 W d A_hq.1 (a2) (by omega) (by omega)) (fun rv hp9 q9 => ?_)
          obtain ⟨⟨z3, rfl, l_z3, u_z3⟩, e9⟩ := q9
          rw [e9]
          show yG _ _ _ _ _ _ _ _ _ _ (yI z3 :: []) _
          refine yG.store1 xik (L' := [(3, yI (z3)), (0, yR 2073), (1, yI (p1)), (2, yI (a2))]) rfl (fun _ _ => rfl) rfl rfl ?_
          refine yG.load xak rfl (fun _ _ => rfl) (v := yR 2073) rfl rfl ?_
          refine yG.getR A_hq.1 (r_putIn W) rfl rfl ?_
          refine yG.load xak rfl (fun _ _ => rfl) (v := yR 2073) rfl rfl ?_
          refine yG.getR A_hq.1 (r_node W) rfl rfl ?_
          refine yG.load xik rfl (fun _ _ => rfl) (v := yI (z3)) rfl rfl ?_
          refine yG.iald A_hq.1 (v_node W) rfl (by omega) (by omega) (fun z4 e_z4 i_z4 l_z4 u_z4 => ?_)
          refine yG.step (pc' := 164) (stk' := [yI (z4), yR 2109, yI (z4), yR 2109]) rfl (fun _ _ => rfl) ?_
          refine yG.lald A_hq.1 (v_putIn W) rfl (by omega) (by omega) (fun z5 e_z5 i_z5 l_z5 u_z5 => ?_)
          refine yG.load xak rfl (fun _ _ => rfl) (v := yR 2073) rfl rfl ?_
          refine yG.getR A_hq.1 (r_island W) rfl rfl ?_
          refine yG.load xik rfl (fun _ _ => rfl) (v := yI (z3)) rfl rfl ?_
          refine yG.iald A_hq.1 (v_island W) rfl (by omega) (by omega) (fun z6 e_z6 i_z6 l_z6 u_z6 => ?_)
          refine yG.load xik rfl (fun _ _ => rfl) (v := yI (p1)) rfl rfl ?_
          refine yG.icmp rfl (t := 192) rfl ⟨by omega, by omega⟩ ⟨by omega, by omega⟩ (fun c7 => ?_) (fun c7 => ?_)
          · have c7 : (z6 : Int) ≠ p1 := c7
            refine yG.numl (c := 0) rfl (fun _ _ => rfl) (by decide) ?_
            refine yG.lsub rfl ?_
            refine yG.last A_hq.1 (v_putIn W) (by decide) rfl (by omega) (by omega) ⟨by omega, by omega⟩ (by omega) (by omega) (fun h8 T_h8 b_h8 f_h8 y_h8 => ?_)
            have A_h8 := A_hq.putA T_h8 b_h8 f_h8 (by decide)
            refine yG.iinc rfl (a := a2) rfl (L' := [(2, yI (a2 + 1)), (3, yI (z3)), (0, yR 2073), (1, yI (p1))]) rfl ?_
            refine yG.goto rfl (t := 135) rfl ?_
            exact yG.mono (yG.sub (i_135 (a2 + 1)  h8 A_h8  (by omega) (by omega) (by omega) (by omega) (by omega)) (ySub.cons rfl (ySub.cons rfl (ySub.cons rfl (ySub.nil))))) (by omega)
          · have c7 : (z6 : Int) = p1 := c7
            refine yG.load xak rfl (fun _ _ => rfl) (v := yR 2073) rfl rfl ?_
            refine yG.num (c := 4) rfl (fun _ _ => rfl) (by decide) ?_
            refine yG.load xik rfl (fun _ _ => rfl) (v := yI (a2)) rfl rfl ?_
            refine yG.num (c := 0) rfl (fun _ _ => rfl) (by decide) ?_
            refine yG.invV (rest := [yJ (z5), yI (z4), yR 2109]) A_hq.1 W.m.1 rfl rfl rfl rfl (a_of_4_0 W d A_hq.1 (a2) (by omega) (by omega)) (fun rv hp9 q9 => ?_)
            obtain ⟨⟨z9, rfl, l_z9, u_z9⟩, e9⟩ := q9
            rw [e9]
            show yG _ _ _ _ _ _ _ _ _ _ (yI z9 :: [yJ (z5), yI (z4), yR 2109]) _
            refine yG.i2l rfl ⟨by omega, by omega⟩ ?_
            refine yG.load xak rfl (fun _ _ => rfl) (v := yR 2073) rfl rfl ?_
            refine yG.load xik rfl (fun _ _ => rfl) (v := yI (p1)) rfl rfl ?_
            refine yG.invV (rest := [yJ (z9), yJ (z5), yI (z4), yR 2109]) A_hq.1 W.m.1 rfl rfl rfl rfl (a_times_ W (d + 1) A_hq.1 (p1) (by omega) (by omega)) (fun rv hp9 q9 => ?_)
            obtain ⟨⟨z10, rfl, l_z10, u_z10⟩, e9⟩ := q9
            rw [e9]
            show yG _ _ _ _ _ _ _ _ _ _ (yJ z10 :: [yJ (z9), yJ (z5), yI (z4), yR 2109]) _
            refine yG.lmul rfl ?_
            obtain ⟨z11, e_z11⟩ : ∃ z : Int, z = z9 * z10 := ⟨_, rfl⟩
            rw [← e_z11]
            have b_z11 : -92224496996510903304192 ≤ z11 ∧ z11 ≤ 92224496996510903304192 := e_z11 ▸ ymuls (A := 9999) (B := 9223372036854775808) (by omega) (by omega) (by omega) (by omega) (by decide)
            refine yG.goto rfl (t := 193) rfl ?_
            refine yG.lsub rfl ?_
            obtain ⟨z13, e_z13, l_z13, u_z13⟩ := ywJ (z5 - z11)
            rw [e_z13]
            refine yG.last A_hq.1 (v_putIn W) (by decide) rfl (by omega) (by omega) ⟨by omega, by omega⟩ (by omega) (by omega) (fun h12 T_h12 b_h12 f_h12 y_h12 => ?_)
            have A_h12 := A_hq.putA T_h12 b_h12 f_h12 (by decide)
            refine yG.iinc rfl (a := a2) rfl (L' := [(2, yI (a2 + 1)), (3, yI (z3)), (0, yR 2073), (1, yI (p1))]) rfl ?_
            refine yG.goto rfl (t := 135) rfl ?_
            exact yG.mono (yG.sub (i_135 (a2 + 1)  h12 A_h12  (by omega) (by omega) (by omega) (by omega) (by omega)) (ySub.cons rfl (ySub.cons rfl (ySub.cons rfl (ySub.nil))))) (by omega)
  refine yC.of (M := (xt_X13_putAllIn, (4, (0, (14, []))))) rfl rfl (N := 219776) (yfuel (by decide)) ?_
  show yG 89 xfts (xcall 89 xfts xpools xms (d + 2)) (xpool xp_RX13) [] xt_X13_putAllIn (yP 0 (yQv G [] [2109] hp)) 219776 0 [(0, yR 2073), (1, yI (p1))] [] hp
  obtain ⟨i_2, i_27, i_135⟩ := H 3231
  refine yG.num (c := 0) rfl (fun _ _ => rfl) (by decide) ?_
  refine yG.store1 xik (L' := [(2, yI (0)), (0, yR 2073), (1, yI (p1))]) rfl (fun _ _ => rfl) rfl rfl ?_
  exact yG.mono (yG.sub (i_2 (0)  hp A_hp  (by omega) (by omega) (by omega) (by omega) (by omega)) (ySub.cons rfl (ySub.cons rfl (ySub.cons rfl (ySub.nil))))) (by omega)
theorem a_isOnIn {hp : xH} (W : yWW G) (d : Nat) (hT : zTy G hp) (p1 p2 : Int) (h1l : 0 ≤ p1) (h1u : p1 ≤ 5) (h2l : 0 ≤ p2) (h2u : p2 ≤ 15) : yC (xcall 89 xfts xpools xms (d + 3)) 435 [yR 2073, yI (p1), yI (p2)] hp (yQpi hp 0 1) := by
  have A_hp : yAx G [] [] hp hp := yAx.rf hT
  refine yC.of (M := (xt_X13_isOnIn, (3, (4, (14, []))))) rfl rfl (N := 66) (yfuel (by decide)) ?_
  show yG 89 xfts (xcall 89 xfts xpools xms (d + 2)) (xpool xp_RX13) [] xt_X13_isOnIn (yP 4 (yQpi hp 0 1)) 66 0 [(0, yR 2073), (1, yI (p1)), (2, yI (p2))] [] hp
  refine yG.load xak rfl (fun _ _ => rfl) (v := yR 2073) rfl rfl ?_
  refine yG.num (c := 3) rfl (fun _ _ => rfl) (by decide) ?_
  refine yG.load xik rfl (fun _ _ => rfl) (v := yI (p1)) rfl rfl ?_
  refine yG.num (c := 0) rfl (fun _ _ => rfl) (by decide) ?_
  refine yG.invV (rest := []) A_hp.1 W.m.1 rfl rfl rfl rfl (a_of_3_0 W d A_hp.1 (p1) (by omega) (by omega)) (fun rv hp9 q9 => ?_)
  obtain ⟨⟨z1, rfl, l_z1, u_z1⟩, e9⟩ := q9
  rw [e9]
  show yG _ _ _ _ _ _ _ _ _ _ (yI z1 :: []) _
  refine yG.num (c := 1) rfl (fun _ _ => rfl) (by decide) ?_
  refine yG.icmp rfl (t := 32) rfl ⟨by omega, by omega⟩ ⟨by omega, by omega⟩ (fun c2 => ?_) (fun c2 => ?_)
  · have c2 : (z1 : Int) ≠ 1 := c2
    refine yG.num (c := 0) rfl (fun _ _ => rfl) (by decide) ?_
    refine yG.ret rfl (fun _ _ => rfl) ?_
    exact yP.bool (by omega) ⟨⟨0, rfl, by omega, by omega⟩, rfl⟩
  · have c2 : (z1 : Int) = 1 := c2
    refine yG.load xak rfl (fun _ _ => rfl) (v := yR 2073) rfl rfl ?_
    refine yG.getR A_hp.1 (r_island W) rfl rfl ?_
    refine yG.load xak rfl (fun _ _ => rfl) (v := yR 2073) rfl rfl ?_
    refine yG.num (c := 3) rfl (fun _ _ => rfl) (by decide) ?_
    refine yG.load xik rfl (fun _ _ => rfl) (v := yI (p1)) rfl rfl ?_
    refine yG.num (c := 10) rfl (fun _ _ => rfl) (by decide) ?_
    refine yG.invV (rest := [yR 2101]) A_hp.1 W.m.1 rfl rfl rfl rfl (a_of_3_10 W d A_hp.1 (p1) (by omega) (by omega)) (fun rv hp9 q9 => ?_)
    obtain ⟨⟨z3, rfl, l_z3, u_z3⟩, e9⟩ := q9
    rw [e9]
    show yG _ _ _ _ _ _ _ _ _ _ (yI z3 :: [yR 2101]) _
    refine yG.iald A_hp.1 (v_island W) rfl (by omega) (by omega) (fun z4 e_z4 i_z4 l_z4 u_z4 => ?_)
    refine yG.load xik rfl (fun _ _ => rfl) (v := yI (p2)) rfl rfl ?_
    refine yG.icmp rfl (t := 32) rfl ⟨by omega, by omega⟩ ⟨by omega, by omega⟩ (fun c5 => ?_) (fun c5 => ?_)
    · have c5 : (z4 : Int) ≠ p2 := c5
      refine yG.num (c := 0) rfl (fun _ _ => rfl) (by decide) ?_
      refine yG.ret rfl (fun _ _ => rfl) ?_
      exact yP.bool (by omega) ⟨⟨0, rfl, by omega, by omega⟩, rfl⟩
    · have c5 : (z4 : Int) = p2 := c5
      refine yG.num (c := 1) rfl (fun _ _ => rfl) (by decide) ?_
      refine yG.goto rfl (t := 33) rfl ?_
      refine yG.ret rfl (fun _ _ => rfl) ?_
      exact yP.bool (by omega) ⟨⟨1, rfl, by omega, by omega⟩, rfl⟩
theorem a_isObject {hp : xH} (W : yWW G) (d : Nat) (hT : zTy G hp) (p1 p2 : Int) (h1l : (-2147483648) ≤ p1) (h1u : p1 ≤ 2147483647) (h2l : (-2147483648) ≤ p2) (h2u : p2 ≤ 2147483647) : yC (xcall 89 xfts xpools xms (d + 2)) 433 [yR 2073, yI (p1), yI (p2)] hp (fun rv hp' => (∃ z, rv = some (yI z) ∧ 0 ≤ z ∧ z ≤ 1 ∧ (z = 1 → 0 ≤ p1 ∧ 0 ≤ 0 - p1 + 4 ∧ 0 ≤ p2 ∧ 0 ≤ 0 - p2 + 23)) ∧ hp' = hp) := by
  have A_hp : yAx G [] [] hp hp := yAx.rf hT
  refine yC.of (M := (xt_X13_isObject, (3, (4, (14, []))))) rfl rfl (N := 69) (yfuel (by decide)) ?_
  show yG 89 xfts (xcall 89 xfts xpools xms (d + 1)) (xpool xp_RX13) [] xt_X13_isObject (yP 4 (fun rv hp' => (∃ z, rv = some (yI z) ∧ 0 ≤ z ∧ z ≤ 1 ∧ (z = 1 → 0 ≤ p1 ∧ 0 ≤ 0 - p1 + 4 ∧ 0 ≤ p2 ∧ 0 ≤ 0 - p2 + 23)) ∧ hp' = hp)) 69 0 [(0, yR 2073), (1, yI (p1)), (2, yI (p2))] [] hp
  refine yG.load xik rfl (fun _ _ => rfl) (v := yI (p1)) rfl rfl ?_
  refine yG.i2l rfl ⟨by omega, by omega⟩ ?_
  refine yG.numl (c := 0) rfl (fun _ _ => rfl) (by decide) ?_
  refine yG.numl (c := 4) rfl (fun _ _ => rfl) (by decide) ?_
  refine yG.invS (rest := []) rfl rfl rfl rfl (a_in W d A_hp.1 (p1) (0) (4) (by omega) (by omega) (by omega) (by omega) (by omega) (by omega)) (fun rv hp9 q9 => ?_)
  obtain ⟨⟨z1, rfl, l_z1, u_z1, r_z1⟩, e9⟩ := q9
  rw [e9]
  show yG _ _ _ _ _ _ _ _ _ _ (yI z1 :: []) _
  refine yG.ifz rfl (t := 34) rfl ⟨by omega, by omega⟩ (fun c2 => ?_) (fun c2 => ?_)
  · have c2 : (z1 : Int) = 0 := c2
    refine yG.num (c := 0) rfl (fun _ _ => rfl) (by decide) ?_
    refine yG.ret rfl (fun _ _ => rfl) ?_
    exact yP.bool (by omega) ⟨⟨0, rfl, by omega, by omega, by omega⟩, rfl⟩
  · have c2 : (z1 : Int) ≠ 0 := c2
    refine yG.load xik rfl (fun _ _ => rfl) (v := yI (p2)) rfl rfl ?_
    refine yG.i2l rfl ⟨by omega, by omega⟩ ?_
    refine yG.numl (c := 0) rfl (fun _ _ => rfl) (by decide) ?_
    refine yG.load xak rfl (fun _ _ => rfl) (v := yR 2073) rfl rfl ?_
    refine yG.getR A_hp.1 (r_count W) rfl rfl ?_
    refine yG.load xik rfl (fun _ _ => rfl) (v := yI (p1)) rfl rfl ?_
    refine yG.ialdT A_hp.1 (p_count W) (yhull2 (tf := ycT) (ycT_h _)) rfl (by omega) (by omega) (fun z3 lo_z3 hi_z3 e_z3 i_z3 T_z3 l_z3 u_z3 => ?_)
    obtain ⟨L_z3, U_z3⟩ := yhull (tf := ycT) (ycT_h _) T_z3
    refine yG.num (c := 1) rfl (fun _ _ => rfl) (by decide) ?_
    refine yG.isub rfl ?_
    refine yG.i2l rfl ⟨by omega, by omega⟩ ?_
    refine yG.invS (rest := []) rfl rfl rfl rfl (a_in W d A_hp.1 (p2) (0) (z3 - 1) (by omega) (by omega) (by omega) (by omega) (by omega) (by omega)) (fun rv hp9 q9 => ?_)
    obtain ⟨⟨z4, rfl, l_z4, u_z4, r_z4⟩, e9⟩ := q9
    rw [e9]
    show yG _ _ _ _ _ _ _ _ _ _ (yI z4 :: []) _
    refine yG.ifz rfl (t := 34) rfl ⟨by omega, by omega⟩ (fun c5 => ?_) (fun c5 => ?_)
    · have c5 : (z4 : Int) = 0 := c5
      refine yG.num (c := 0) rfl (fun _ _ => rfl) (by decide) ?_
      refine yG.ret rfl (fun _ _ => rfl) ?_
      exact yP.bool (by omega) ⟨⟨0, rfl, by omega, by omega, by omega⟩, rfl⟩
    · have c5 : (z4 : Int) ≠ 0 := c5
      refine yG.num (c := 1) rfl (fun _ _ => rfl) (by decide) ?_
      refine yG.goto rfl (t := 35) rfl ?_
      refine yG.ret rfl (fun _ _ => rfl) ?_
      exact yP.bool (by omega) ⟨⟨1, rfl, by omega, by omega, by omega⟩, rfl⟩
theorem a_remember {hp : xH} (W : yWW G) (d : Nat) (hT : zTy G hp) : yC (xcall 89 xfts xpools xms (d + 1)) 492 [yR 2073] hp (yQv G [] [2165] hp) := by
  have A_hp : yAx G [] [2165] hp hp := yAx.rf hT
  have H : ∀ m : Nat, (∀ a1 : Int, ∀ hq, yAx G [] [2165] hp hq → 0 ≤ a1 → (-1320) ≤ 0 - a1 → 0 - 2 * a1 + 2641 < (m : Int) → yG 89 xfts (xcall 89 xfts xpools xms d) (xpool xp_RX13) [] xt_X13_remember (yP 0 (yQv G [] [2165] hp)) (15 * m) 2 [(0, yR 2073), (1, yI (a1))] [] hq) := by
    intro m
    induction m with
    | zero =>
      intros; exfalso; omega
    | succ m ih =>
      have i_2 := ih
      clear ih
      intro a1 hq A_hq f0 f1 hm
      refine yG.mono (N := 15 * m + 15) ?_ (by omega)
      refine yG.load xik rfl (fun _ _ => rfl) (v := yI (a1)) rfl rfl ?_
      refine yG.num (c := 1320) rfl (fun _ _ => rfl) (by decide) ?_
      refine yG.icmp rfl (t := 27) rfl ⟨by omega, by omega⟩ ⟨by omega, by omega⟩ (fun c1 => ?_) (fun c1 => ?_)
      · have c1 : (a1 : Int) ≥ 1320 := c1
        refine yG.ret rfl (fun _ _ => rfl) ?_
        exact yP.void ⟨rfl, A_hq⟩
      · have c1 : (a1 : Int) < 1320 := c1
        refine yG.load xak rfl (fun _ _ => rfl) (v := yR 2073) rfl rfl ?_
        refine yG.getR A_hq.1 (r_fieldsBefore W) rfl rfl ?_
        refine yG.load xik rfl (fun _ _ => rfl) (v := yI (a1)) rfl rfl ?_
        refine yG.load xak rfl (fun _ _ => rfl) (v := yR 2073) rfl rfl ?_
        refine yG.getR A_hq.1 (r_field W) rfl rfl ?_
        refine yG.load xik rfl (fun _ _ => rfl) (v := yI (a1)) rfl rfl ?_
        refine yG.ialdT A_hq.1 (p_field W) (yhull2 (tf := yfT) (yfT_h _)) rfl (by omega) (by omega) (fun z2 lo_z2 hi_z2 e_z2 i_z2 T_z2 l_z2 u_z2 => ?_)
        obtain ⟨L_z2, U_z2⟩ := yhull (tf := yfT) (yfT_h _) T_z2
        refine yG.iastF A_hq.1 (p_fieldsBefore W) (show yfT ((a1).toNat) = _ from (congrArg yfT (by omega)).trans T_z2) (by decide) rfl (by omega) (by omega) ⟨by omega, by omega⟩ (by omega) (by omega) (fun h3 T_h3 b_h3 f_h3 y_h3 => ?_)
        have A_h3 := A_hq.putA T_h3 b_h3 f_h3 (by decide)
        refine yG.iinc rfl (a := a1) rfl (L' := [(1, yI (a1 + 1)), (0, yR 2073)]) rfl ?_
        refine yG.goto rfl (t := 2) rfl ?_
        exact yG.mono (yG.sub (i_2 (a1 + 1)  h3 A_h3  (by omega) (by omega) (by omega)) (ySub.cons rfl (ySub.cons rfl (ySub.nil)))) (by omega)
  refine yC.of (M := (xt_X13_remember, (2, (0, (14, []))))) rfl rfl (N := 39660) (yfuel (by decide)) ?_
  show yG 89 xfts (xcall 89 xfts xpools xms d) (xpool xp_RX13) [] xt_X13_remember (yP 0 (yQv G [] [2165] hp)) 39660 0 [(0, yR 2073)] [] hp
  have i_2 := H 2643
  refine yG.num (c := 0) rfl (fun _ _ => rfl) (by decide) ?_
  refine yG.store1 xik (L' := [(1, yI (0)), (0, yR 2073)]) rfl (fun _ _ => rfl) rfl rfl ?_
  exact yG.mono (yG.sub (i_2 (0)  hp A_hp  (by omega) (by omega) (by omega)) (ySub.cons rfl (ySub.cons rfl (ySub.nil)))) (by omega)
theorem a_comeBack {hp : xH} (W : yWW G) (d : Nat) (hT : zTy G hp) : yC (xcall 89 xfts xpools xms (d + 1)) 371 [yR 2073] hp (yQv G [40] [2089] hp) := by
  have A_hp : yAx G [40] [2089] hp hp := yAx.rf hT
  have H : ∀ m : Nat, (∀ a1 : Int, ∀ hq, yAx G [40] [2089] hp hq → 0 ≤ a1 → (-1320) ≤ 0 - a1 → 0 - 2 * a1 + 2641 < (m : Int) → yG 89 xfts (xcall 89 xfts xpools xms d) (xpool xp_RX13) [] xt_X13_comeBack (yP 0 (yQv G [40] [2089] hp)) (15 * m) 2 [(0, yR 2073), (1, yI (a1))] [] hq) := by
    intro m
    induction m with
    | zero =>
      intros; exfalso; omega
    | succ m ih =>
      have i_2 := ih
      clear ih
      intro a1 hq A_hq f0 f1 hm
      refine yG.mono (N := 15 * m + 15) ?_ (by omega)
      refine yG.load xik rfl (fun _ _ => rfl) (v := yI (a1)) rfl rfl ?_
      refine yG.num (c := 1320) rfl (fun _ _ => rfl) (by decide) ?_
      refine yG.icmp rfl (t := 27) rfl ⟨by omega, by omega⟩ ⟨by omega, by omega⟩ (fun c1 => ?_) (fun c1 => ?_)
      · have c1 : (a1 : Int) ≥ 1320 := c1
        refine yG.load xak rfl (fun _ _ => rfl) (v := yR 2073) rfl rfl ?_
        refine yG.num (c := 0) rfl (fun _ _ => rfl) (by decide) ?_
        refine yG.putI A_hq.1 (w_hasFlows W) (by decide) rfl rfl (.inr ⟨rfl, rfl, rfl⟩) ⟨by omega, by omega⟩ (by omega) (by omega) (fun h2 T_h2 b_h2 f_h2 y_h2 => ?_)
        have A_h2 := A_hq.putF T_h2 b_h2 f_h2 (by decide)
        have g40_h2 : ys h2 2073 40 = 0 := (y_h2 2073 40).trans (if_pos ⟨rfl, rfl⟩)
        refine yG.ret rfl (fun _ _ => rfl) ?_
        exact yP.void ⟨rfl, A_h2⟩
      · have c1 : (a1 : Int) < 1320 := c1
        refine yG.load xak rfl (fun _ _ => rfl) (v := yR 2073) rfl rfl ?_
        refine yG.getR A_hq.1 (r_field W) rfl rfl ?_
        refine yG.load xik rfl (fun _ _ => rfl) (v := yI (a1)) rfl rfl ?_
        refine yG.load xak rfl (fun _ _ => rfl) (v := yR 2073) rfl rfl ?_
        refine yG.getR A_hq.1 (r_fieldsBefore W) rfl rfl ?_
        refine yG.load xik rfl (fun _ _ => rfl) (v := yI (a1)) rfl rfl ?_
        refine yG.ialdT A_hq.1 (p_fieldsBefore W) (yhull2 (tf := yfT) (yfT_h _)) rfl (by omega) (by omega) (fun z3 lo_z3 hi_z3 e_z3 i_z3 T_z3 l_z3 u_z3 => ?_)
        obtain ⟨L_z3, U_z3⟩ := yhull (tf := yfT) (yfT_h _) T_z3
        refine yG.iastF A_hq.1 (p_field W) (show yfT ((a1).toNat) = _ from (congrArg yfT (by omega)).trans T_z3) (by decide) rfl (by omega) (by omega) ⟨by omega, by omega⟩ (by omega) (by omega) (fun h4 T_h4 b_h4 f_h4 y_h4 => ?_)
        have A_h4 := A_hq.putA T_h4 b_h4 f_h4 (by decide)
        refine yG.iinc rfl (a := a1) rfl (L' := [(1, yI (a1 + 1)), (0, yR 2073)]) rfl ?_
        refine yG.goto rfl (t := 2) rfl ?_
        exact yG.mono (yG.sub (i_2 (a1 + 1)  h4 A_h4  (by omega) (by omega) (by omega)) (ySub.cons rfl (ySub.cons rfl (ySub.nil)))) (by omega)
  refine yC.of (M := (xt_X13_comeBack, (2, (0, (14, []))))) rfl rfl (N := 39660) (yfuel (by decide)) ?_
  show yG 89 xfts (xcall 89 xfts xpools xms d) (xpool xp_RX13) [] xt_X13_comeBack (yP 0 (yQv G [40] [2089] hp)) 39660 0 [(0, yR 2073)] [] hp
  have i_2 := H 2643
  refine yG.num (c := 0) rfl (fun _ _ => rfl) (by decide) ?_
  refine yG.store1 xik (L' := [(1, yI (0)), (0, yR 2073)]) rfl (fun _ _ => rfl) rfl rfl ?_
  exact yG.mono (yG.sub (i_2 (0)  hp A_hp  (by omega) (by omega) (by omega)) (ySub.cons rfl (ySub.cons rfl (ySub.nil)))) (by omega)
theorem a_asInRun {hp : xH} (W : yWW G) (d : Nat) (hT : zTy G hp) : yC (xcall 89 xfts xpools xms (d + 4)) 352 [yR 2073] hp (yQv G [40, 77] [2098, 2099] hp) := by
  have A_hp : yAx G [40, 77] [2098, 2099] hp hp := yAx.rf hT
  have H : ∀ m : Nat, (∀ a1 : Int, ∀ hq, yAx G [40, 77] [2098, 2099] hp hq → 0 ≤ a1 → (-24) ≤ 0 - a1 → 0 - 2 * a1 + 49 < (m : Int) → yG 89 xfts (xcall 89 xfts xpools xms (d + 3)) (xpool xp_RX13) [] xt_X13_asInRun (yP 0 (yQv G [40, 77] [2098, 2099] hp)) (18 * m) 16 [(0, yR 2073), (1, yI (a1))] [] hq) := by
    intro m
    induction m with
    | zero =>
      intros; exfalso; omega
    | succ m ih =>
      have i_16 := ih
      clear ih
      intro a1 hq A_hq f0 f1 hm
      refine yG.mono (N := 18 * m + 18) ?_ (by omega)
      refine yG.load xik rfl (fun _ _ => rfl) (v := yI (a1)) rfl rfl ?_
      refine yG.load xak rfl (fun _ _ => rfl) (v := yR 2073) rfl rfl ?_
      refine yG.getR A_hq.1 (r_count W) rfl rfl ?_
      refine yG.num (c := 1) rfl (fun _ _ => rfl) (by decide) ?_
      refine yG.ialdF A_hq.1 (p_count W) rfl rfl (by omega) (by omega) (fun z1 e_z1 i_z1 l_z1 u_z1 => ?_)
      refine yG.icmp rfl (t := 44) rfl ⟨by omega, by omega⟩ ⟨by omega, by omega⟩ (fun c2 => ?_) (fun c2 => ?_)
      · have c2 : (a1 : Int) ≥ z1 := c2
        refine yG.ret rfl (fun _ _ => rfl) ?_
        exact yP.void ⟨rfl, A_hq⟩
      · have c2 : (a1 : Int) < z1 := c2
        refine yG.load xak rfl (fun _ _ => rfl) (v := yR 2073) rfl rfl ?_
        refine yG.getR A_hq.1 (r_stateNow W) rfl rfl ?_
        refine yG.load xik rfl (fun _ _ => rfl) (v := yI (a1)) rfl rfl ?_
        refine yG.load xak rfl (fun _ _ => rfl) (v := yR 2073) rfl rfl ?_
        refine yG.getR A_hq.1 (r_runState W) rfl rfl ?_
        refine yG.load xik rfl (fun _ _ => rfl) (v := yI (a1)) rfl rfl ?_
        refine yG.iald A_hq.1 (v_runState W) rfl (by omega) (by omega) (fun z3 e_z3 i_z3 l_z3 u_z3 => ?_)
        refine yG.iast A_hq.1 (v_stateNow W) (by decide) rfl (by omega) (by omega) ⟨by omega, by omega⟩ (by omega) (by omega) (fun h4 T_h4 b_h4 f_h4 y_h4 => ?_)
        have A_h4 := A_hq.putA T_h4 b_h4 f_h4 (by decide)
        refine yG.iinc rfl (a := a1) rfl (L' := [(1, yI (a1 + 1)), (0, yR 2073)]) rfl ?_
        refine yG.goto rfl (t := 16) rfl ?_
        exact yG.mono (yG.sub (i_16 (a1 + 1)  h4 A_h4  (by omega) (by omega) (by omega)) (ySub.cons rfl (ySub.cons rfl (ySub.nil)))) (by omega)
  refine yC.of (M := (xt_X13_asInRun, (2, (0, (14, []))))) rfl rfl (N := 936) (yfuel (by decide)) ?_
  show yG 89 xfts (xcall 89 xfts xpools xms (d + 3)) (xpool xp_RX13) [] xt_X13_asInRun (yP 0 (yQv G [40, 77] [2098, 2099] hp)) 936 0 [(0, yR 2073)] [] hp
  have i_16 := H 51
  refine yG.load xak rfl (fun _ _ => rfl) (v := yR 2073) rfl rfl ?_
  refine yG.num (c := 0) rfl (fun _ _ => rfl) (by decide) ?_
  refine yG.putI A_hp.1 (w_hasFlows W) (by decide) rfl rfl (.inr ⟨rfl, rfl, rfl⟩) ⟨by omega, by omega⟩ (by omega) (by omega) (fun h1 T_h1 b_h1 f_h1 y_h1 => ?_)
  have A_h1 := A_hp.putF T_h1 b_h1 f_h1 (by decide)
  have g40_h1 : ys h1 2073 40 = 0 := (y_h1 2073 40).trans (if_pos ⟨rfl, rfl⟩)
  refine yG.load xak rfl (fun _ _ => rfl) (v := yR 2073) rfl rfl ?_
  refine yG.num (c := 0) rfl (fun _ _ => rfl) (by decide) ?_
  refine yG.putI A_h1.1 (w_hasNetShort W) (by decide) rfl rfl (.inr ⟨rfl, rfl, rfl⟩) ⟨by omega, by omega⟩ (by omega) (by omega) (fun h2 T_h2 b_h2 f_h2 y_h2 => ?_)
  have A_h2 := A_h1.putF T_h2 b_h2 f_h2 (by decide)
  have g40_h2 : ys h2 2073 40 = ys h1 2073 40 := (y_h2 2073 40).trans (if_neg (by omega))
  have g77_h2 : ys h2 2073 77 = 0 := (y_h2 2073 77).trans (if_pos ⟨rfl, rfl⟩)
  refine yG.load xak rfl (fun _ _ => rfl) (v := yR 2073) rfl rfl ?_
  refine yG.invV (rest := []) A_h2.1 W.m.1 rfl rfl rfl rfl (a_asItIs W d A_h2.1) (fun rv h4 q9 => ?_)
  obtain ⟨rfl, B_h4⟩ := q9
  have A_h4 := A_h2.tr (B_h4.sub (by decide) (by decide))
  have g40_h4 : ys h4 2073 40 = ys h2 2073 40 := B_h4.ys (by decide) (by decide)
  have g77_h4 : ys h4 2073 77 = ys h2 2073 77 := B_h4.ys (by decide) (by decide)
  show yG _ _ _ _ _ _ _ _ _ _ [] _
  refine yG.num (c := 0) rfl (fun _ _ => rfl) (by decide) ?_
  refine yG.store1 xik (L' := [(1, yI (0)), (0, yR 2073)]) rfl (fun _ _ => rfl) rfl rfl ?_
  exact yG.mono (yG.sub (i_16 (0)  h4 A_h4  (by omega) (by omega) (by omega)) (ySub.cons rfl (ySub.cons rfl (ySub.nil)))) (by omega)
theorem a_giveOrder {hp : xH} (W : yWW G) (d : Nat) (hT : zTy G hp) (p1 p2 : Int) (h1l : 0 ≤ p1) (h1u : p1 ≤ 23) (h2l : 0 ≤ p2) (h2u : p2 ≤ 2147483647) : yC (xcall 89 xfts xpools xms (d + 3)) 410 [yR 2073, yI (p1), yJ (p2)] hp (yQi G [] [2134, 2135, 2136] hp 0 1) := by
  have A_hp : yAx G [] [2134, 2135, 2136] hp hp := yAx.rf hT
  refine yC.of (M := (xt_X13_giveOrder, (6, (4, (14, []))))) rfl rfl (N := 132) (yfuel (by decide)) ?_
  show yG 89 xfts (xcall 89 xfts xpools xms (d + 2)) (xpool xp_RX13) [] xt_X13_giveOrder (yP 4 (yQi G [] [2134, 2135, 2136] hp 0 1)) 132 0 [(0, yR 2073), (1, yI (p1)), (2, yJ (p2))] [] hp
  refine yG.load xak rfl (fun _ _ => rfl) (v := yR 2073) rfl rfl ?_
  refine yG.getR A_hp.1 (r_runState W) rfl rfl ?_
  refine yG.load xik rfl (fun _ _ => rfl) (v := yI (p1)) rfl rfl ?_
  refine yG.iald A_hp.1 (v_runState W) rfl (by omega) (by omega) (fun z1 e_z1 i_z1 l_z1 u_z1 => ?_)
  refine yG.num (c := 1) rfl (fun _ _ => rfl) (by decide) ?_
  refine yG.icmp rfl (t := 19) rfl ⟨by omega, by omega⟩ ⟨by omega, by omega⟩ (fun c2 => ?_) (fun c2 => ?_)
  · have c2 : (z1 : Int) ≠ 1 := c2
    refine yG.num (c := 0) rfl (fun _ _ => rfl) (by decide) ?_
    refine yG.ret rfl (fun _ _ => rfl) ?_
    exact yP.bool (by omega) ⟨⟨0, rfl, by omega, by omega⟩, A_hp⟩
  · have c2 : (z1 : Int) = 1 := c2
    refine yG.load xak rfl (fun _ _ => rfl) (v := yR 2073) rfl rfl ?_
    refine yG.getR A_hp.1 (r_hasOrder W) rfl rfl ?_
    refine yG.load xik rfl (fun _ _ => rfl) (v := yI (p1)) rfl rfl ?_
    refine yG.bald A_hp.1 (v_hasOrder W) rfl (by omega) (by omega) (fun z3 e_z3 i_z3 l_z3 u_z3 => ?_)
    refine yG.ifz rfl (t := 21) rfl ⟨by omega, by omega⟩ (fun c4 => ?_) (fun c4 => ?_)
    · have c4 : (z3 : Int) = 0 := c4
      refine yG.load xak rfl (fun _ _ => rfl) (v := yR 2073) rfl rfl ?_
      refine yG.getR A_hp.1 (r_hasOrder W) rfl rfl ?_
      refine yG.load xik rfl (fun _ _ => rfl) (v := yI (p1)) rfl rfl ?_
      refine yG.num (c := 1) rfl (fun _ _ => rfl) (by decide) ?_
      refine yG.bast A_hp.1 (v_hasOrder W) (by decide) rfl (by omega) (by omega) ⟨by omega, by omega⟩ (by omega) (by omega) (fun h5 T_h5 b_h5 f_h5 y_h5 => ?_)
      have A_h5 := A_hp.putA T_h5 b_h5 f_h5 (by decide)
      refine yG.load xlk2 rfl (fun _ _ => rfl) (v := yJ (p2)) rfl rfl ?_
      refine yG.load xak rfl (fun _ _ => rfl) (v := yR 2073) rfl rfl ?_
      refine yG.num (c := 1) rfl (fun _ _ => rfl) (by decide) ?_
      refine yG.load xik rfl (fun _ _ => rfl) (v := yI (p1)) rfl rfl ?_
      refine yG.num (c := 1) rfl (fun _ _ => rfl) (by decide) ?_
      refine yG.invV (rest := [yJ (p2)]) A_h5.1 W.m.1 rfl rfl rfl rfl (a_of_1_1 W d A_h5.1 (p1) (by omega) (by omega)) (fun rv hp9 q9 => ?_)
      obtain ⟨⟨z6, rfl, l_z6, u_z6⟩, e9⟩ := q9
      rw [e9]
      show yG _ _ _ _ _ _ _ _ _ _ (yI z6 :: [yJ (p2)]) _
      refine yG.i2l rfl ⟨by omega, by omega⟩ ?_
      refine yG.ladd rfl ?_
      obtain ⟨z7, e_z7⟩ : ∃ z : Int, z = p2 + z6 := ⟨_, rfl⟩
      rw [← e_z7]
      refine yG.store2 xlk2 (L' := [(4, yJ (z7)), (0, yR 2073), (1, yI (p1)), (2, yJ (p2))]) rfl (fun _ _ => rfl) rfl rfl ?_
      refine yG.load xak rfl (fun _ _ => rfl) (v := yR 2073) rfl rfl ?_
      refine yG.getR A_h5.1 (r_doesFail W) rfl rfl ?_
      refine yG.load xik rfl (fun _ _ => rfl) (v := yI (p1)) rfl rfl ?_
      refine yG.bald A_h5.1 (v_doesFail W) rfl (by omega) (by omega) (fun z8 e_z8 i_z8 l_z8 u_z8 => ?_)
      refine yG.ifz rfl (t := 66) rfl ⟨by omega, by omega⟩ (fun c9 => ?_) (fun c9 => ?_)
      · have c9 : (z8 : Int) = 0 := c9
        refine yG.load xak rfl (fun _ _ => rfl) (v := yR 2073) rfl rfl ?_
        refine yG.getR A_h5.1 (r_opensAt W) rfl rfl ?_
        refine yG.load xik rfl (fun _ _ => rfl) (v := yI (p1)) rfl rfl ?_
        refine yG.load xlk2 rfl (fun _ _ => rfl) (v := yJ (z7)) rfl rfl ?_
        refine yG.last A_h5.1 (v_opensAt W) (by decide) rfl (by omega) (by omega) ⟨by omega, by omega⟩ (by omega) (by omega) (fun h10 T_h10 b_h10 f_h10 y_h10 => ?_)
        have A_h10 := A_h5.putA T_h10 b_h10 f_h10 (by decide)
        refine yG.num (c := 1) rfl (fun _ _ => rfl) (by decide) ?_
        refine yG.ret rfl (fun _ _ => rfl) ?_
        exact yP.bool (by omega) ⟨⟨1, rfl, by omega, by omega⟩, A_h10⟩
      · have c9 : (z8 : Int) ≠ 0 := c9
        refine yG.load xak rfl (fun _ _ => rfl) (v := yR 2073) rfl rfl ?_
        refine yG.getR A_h5.1 (r_backupAt W) rfl rfl ?_
        refine yG.load xik rfl (fun _ _ => rfl) (v := yI (p1)) rfl rfl ?_
        refine yG.load xlk2 rfl (fun _ _ => rfl) (v := yJ (z7)) rfl rfl ?_
        refine yG.load xak rfl (fun _ _ => rfl) (v := yR 2073) rfl rfl ?_
        refine yG.getI A_h5.1 (w_back W) rfl rfl (fun z11 e_z11 i_z11 l_z11 u_z11 => ?_)
        refine yG.i2l rfl ⟨by omega, by omega⟩ ?_
        refine yG.ladd rfl ?_
        refine yG.last A_h5.1 (v_backupAt W) (by decide) rfl (by omega) (by omega) ⟨by omega, by omega⟩ (by omega) (by omega) (fun h12 T_h12 b_h12 f_h12 y_h12 => ?_)
        have A_h12 := A_h5.putA T_h12 b_h12 f_h12 (by decide)
        have g87_h12 : ys h12 2073 87 = ys h5 2073 87 := (y_h12 2073 87).trans (if_neg (by omega))
        refine yG.goto rfl (t := 74) rfl ?_
        refine yG.num (c := 1) rfl (fun _ _ => rfl) (by decide) ?_
        refine yG.ret rfl (fun _ _ => rfl) ?_
        exact yP.bool (by omega) ⟨⟨1, rfl, by omega, by omega⟩, A_h12⟩
    · have c4 : (z3 : Int) ≠ 0 := c4
      refine yG.num (c := 0) rfl (fun _ _ => rfl) (by decide) ?_
      refine yG.ret rfl (fun _ _ => rfl) ?_
      exact yP.bool (by omega) ⟨⟨0, rfl, by omega, by omega⟩, A_hp⟩
theorem a_nextTime {hp : xH} (W : yWW G) (d : Nat) (hT : zTy G hp) : yC (xcall 89 xfts xpools xms (d + 2)) 467 [yR 2073] hp (yQpj hp (-1) 9223372036854775807) := by
  have A_hp : yAx G [] [] hp hp := yAx.rf hT
  have H : ∀ m : Nat, (∀ a1 a3 : Int, 0 ≤ a1 → (-9223372036854775807) ≤ 0 - a1 → 0 ≤ a3 → (-24) ≤ 0 - a3 → 0 - 188 * a3 + 4699 < (m : Int) → yG 89 xfts (xcall 89 xfts xpools xms (d + 1)) (xpool xp_RX13) [] xt_X13_nextTime (yP 2 (yQpj hp (-1) 9223372036854775807)) (50 * m) 6 [(0, yR 2073), (1, yJ (a1)), (3, yI (a3))] [] hp) ∧ (∀ a1 a3 : Int, (-1) ≤ a1 → (-9223372036854775807) ≤ 0 - a1 → 0 ≤ a3 → (-16) ≤ 0 - a3 → 0 - 11 * a3 + 186 < (m : Int) → yG 89 xfts (xcall 89 xfts xpools xms (d + 1)) (xpool xp_RX13) [] xt_X13_nextTime (yP 2 (yQpj hp (-1) 9223372036854775807)) (50 * m) 90 [(0, yR 2073), (1, yJ (a1)), (3, yI (a3))] [] hp) ∧ (∀ a1 a3 a4 : Int, (-1) ≤ a1 → (-9223372036854775807) ≤ 0 - a1 → 0 ≤ a3 → (-15) ≤ 0 - a3 → 0 ≤ a4 → (-4) ≤ 0 - a4 → 0 - 11 * a3 - 2 * a4 + 185 < (m : Int) → yG 89 xfts (xcall 89 xfts xpools xms (d + 1)) (xpool xp_RX13) [] xt_X13_nextTime (yP 2 (yQpj hp (-1) 9223372036854775807)) (50 * m) 101 [(0, yR 2073), (1, yJ (a1)), (3, yI (a3)), (4, yI (a4))] [] hp) := by
    intro m
    induction m with
    | zero =>
      refine ⟨?_, ?_, ?_⟩ <;> (intros; exfalso; omega)
    | succ m ih =>
      obtain ⟨i_6, i_90, i_101⟩ := ih
      refine ⟨?_, ?_, ?_⟩
      · intro a1 a3 f0 f1 f2 f3 hm
        refine yG.mono (N := 50 * m + 50) ?_ (by omega)
        refine yG.load xik rfl (fun _ _ => rfl) (v := yI (a3)) rfl rfl ?_
        refine yG.load xak rfl (fun _ _ => rfl) (v := yR 2073) rfl rfl ?_
        refine yG.getR A_hp.1 (r_count W) rfl rfl ?_
        refine yG.num (c := 1) rfl (fun _ _ => rfl) (by decide) ?_
        refine yG.ialdF A_hp.1 (p_count W) rfl rfl (by omega) (by omega) (fun z1 e_z1 i_z1 l_z1 u_z1 => ?_)
        refine yG.icmp rfl (t := 88) rfl ⟨by omega, by omega⟩ ⟨by omega, by omega⟩ (fun c2 => ?_) (fun c2 => ?_)
        · have c2 : (a3 : Int) ≥ z1 := c2
          refine yG.num (c := 0) rfl (fun _ _ => rfl) (by decide) ?_
          refine yG.store1 xik (L' := [(3, yI (0)), (0, yR 2073), (1, yJ (a1))]) rfl (fun _ _ => rfl) rfl rfl ?_
          exact yG.mono (yG.sub (i_90 (a1) (0)    (by omega) (by omega) (by omega) (by omega) (by omega)) (ySub.cons rfl (ySub.cons rfl (ySub.cons rfl (ySub.nil))))) (by omega)
        · have c2 : (a3 : Int) < z1 := c2
          refine yG.load xak rfl (fun _ _ => rfl) (v := yR 2073) rfl rfl ?_
          refine yG.getR A_hp.1 (r_opensAt W) rfl rfl ?_
          refine yG.load xik rfl (fun _ _ => rfl) (v := yI (a3)) rfl rfl ?_
          refine yG.lald A_hp.1 (v_opensAt W) rfl (by omega) (by omega) (fun z3 e_z3 i_z3 l_z3 u_z3 => ?_)
          refine yG.numl (c := 0) rfl (fun _ _ => rfl) (by decide) ?_
          refine yG.lcmp rfl ⟨by omega, by omega⟩ ⟨by omega, by omega⟩ (fun z4 e_z4 => ?_)
          refine yG.ifz rfl (t := 47) rfl ⟨by omega, by omega⟩ (fun c5 => ?_) (fun c5 => ?_)
          · have c5 : (z4 : Int) < 0 := c5
            refine yG.load xlk2 rfl (fun _ _ => rfl) (v := yJ (a1)) rfl rfl ?_
            refine yG.store2 xlk2 (L' := [(1, yJ (a1)), (0, yR 2073), (3, yI (a3))]) rfl (fun _ _ => rfl) rfl rfl ?_
            refine yG.load xak rfl (fun _ _ => rfl) (v := yR 2073) rfl rfl ?_
            refine yG.getR A_hp.1 (r_backupAt W) rfl rfl ?_
            refine yG.load xik rfl (fun _ _ => rfl) (v := yI (a3)) rfl rfl ?_
            refine yG.lald A_hp.1 (v_backupAt W) rfl (by omega) (by omega) (fun z6 e_z6 i_z6 l_z6 u_z6 => ?_)
            refine yG.numl (c := 0) rfl (fun _ _ => rfl) (by decide) ?_
            refine yG.lcmp rfl ⟨by omega, by omega⟩ ⟨by omega, by omega⟩ (fun z7 e_z7 => ?_)
            refine yG.ifz rfl (t := 80) rfl ⟨by omega, by omega⟩ (fun c8 => ?_) (fun c8 => ?_)
            · have c8 : (z7 : Int) < 0 := c8
              refine yG.load xlk2 rfl (fun _ _ => rfl) (v := yJ (a1)) rfl rfl ?_
              refine yG.store2 xlk2 (L' := [(1, yJ (a1)), (0, yR 2073), (3, yI (a3))]) rfl (fun _ _ => rfl) rfl rfl ?_
              refine yG.iinc rfl (a := a3) rfl (L' := [(3, yI (a3 + 1)), (1, yJ (a1)), (0, yR 2073)]) rfl ?_
              refine yG.goto rfl (t := 6) rfl ?_
              exact yG.mono (yG.sub (i_6 (a1) (a3 + 1)    (by omega) (by omega) (by omega) (by omega) (by omega)) (ySub.cons rfl (ySub.cons rfl (ySub.cons rfl (ySub.nil))))) (by omega)
            · have c8 : (z7 : Int) ≥ 0 := c8
              refine yG.load xak rfl (fun _ _ => rfl) (v := yR 2073) rfl rfl ?_
              refine yG.getR A_hp.1 (r_backupAt W) rfl rfl ?_
              refine yG.load xik rfl (fun _ _ => rfl) (v := yI (a3)) rfl rfl ?_
              refine yG.lald A_hp.1 (v_backupAt W) rfl (by omega) (by omega) (fun z9 e_z9 i_z9 l_z9 u_z9 => ?_)
              refine yG.load xlk2 rfl (fun _ _ => rfl) (v := yJ (a1)) rfl rfl ?_
              refine yG.lcmp rfl ⟨by omega, by omega⟩ ⟨by omega, by omega⟩ (fun z10 e_z10 => ?_)
              refine yG.ifz rfl (t := 80) rfl ⟨by omega, by omega⟩ (fun c11 => ?_) (fun c11 => ?_)
              · have c11 : (z10 : Int) ≥ 0 := c11
                refine yG.load xlk2 rfl (fun _ _ => rfl) (v := yJ (a1)) rfl rfl ?_
                refine yG.store2 xlk2 (L' := [(1, yJ (a1)), (0, yR 2073), (3, yI (a3))]) rfl (fun _ _ => rfl) rfl rfl ?_
                refine yG.iinc rfl (a := a3) rfl (L' := [(3, yI (a3 + 1)), (1, yJ (a1)), (0, yR 2073)]) rfl ?_
                refine yG.goto rfl (t := 6) rfl ?_
                exact yG.mono (yG.sub (i_6 (a1) (a3 + 1)    (by omega) (by omega) (by omega) (by omega) (by omega)) (ySub.cons rfl (ySub.cons rfl (ySub.cons rfl (ySub.nil))))) (by omega)
              · have c11 : (z10 : Int) < 0 := c11
                refine yG.load xak rfl (fun _ _ => rfl) (v := yR 2073) rfl rfl ?_
                refine yG.getR A_hp.1 (r_backupAt W) rfl rfl ?_
                refine yG.load xik rfl (fun _ _ => rfl) (v := yI (a3)) rfl rfl ?_
                refine yG.lald A_hp.1 (v_backupAt W) rfl (by omega) (by omega) (fun z12 e_z12 i_z12 l_z12 u_z12 => ?_)
                refine yG.goto rfl (t := 81) rfl ?_
                refine yG.store2 xlk2 (L' := [(1, yJ (z12)), (0, yR 2073), (3, yI (a3))]) rfl (fun _ _ => rfl) rfl rfl ?_
                refine yG.iinc rfl (a := a3) rfl (L' := [(3, yI (a3 + 1)), (1, yJ (z12)), (0, yR 2073)]) rfl ?_
                refine yG.goto rfl (t := 6) rfl ?_
                exact yG.mono (yG.sub (i_6 (z12) (a3 + 1)    (by omega) (by omega) (by omega) (by omega) (by omega)) (ySub.cons rfl (ySub.cons rfl (ySub.cons rfl (ySub.nil))))) (by omega)
          · have c5 : (z4 : Int) ≥ 0 := c5
            refine yG.load xak rfl (fun _ _ => rfl) (v := yR 2073) rfl rfl ?_
            refine yG.getR A_hp.1 (r_opensAt W) rfl rfl ?_
            refine yG.load xik rfl (fun _ _ => rfl) (v := yI (a3)) rfl rfl ?_
            refine yG.lald A_hp.1 (v_opensAt W) rfl (by omega) (by omega) (fun z13 e_z13 i_z13 l_z13 u_z13 => ?_)
            refine yG.load xlk2 rfl (fun _ _ => rfl) (v := yJ (a1)) rfl rfl ?_
            refine yG.lcmp rfl ⟨by omega, by omega⟩ ⟨by omega, by omega⟩ (fun z14 e_z14 => ?_)
            refine yG.ifz rfl (t := 47) rfl ⟨by omega, by omega⟩ (fun c15 => ?_) (fun c15 => ?_)
            · have c15 : (z14 : Int) ≥ 0 := c15
              refine yG.load xlk2 rfl (fun _ _ => rfl) (v := yJ (a1)) rfl rfl ?_
              refine yG.store2 xlk2 (L' := [(1, yJ (a1)), (0, yR 2073), (3, yI (a3))]) rfl (fun _ _ => rfl) rfl rfl ?_
              refine yG.load xak rfl (fun _ _ => rfl) (v := yR 2073) rfl rfl ?_
              refine yG.getR A_hp.1 (r_backupAt W) rfl rfl ?_
              refine yG.load xik rfl (fun _ _ => rfl) (v := yI (a3)) rfl rfl ?_
              refine yG.lald A_hp.1 (v_backupAt W) rfl (by omega) (by omega) (fun z16 e_z16 i_z16 l_z16 u_z16 => ?_)
              refine yG.numl (c := 0) rfl (fun _ _ => rfl) (by decide) ?_
              refine yG.lcmp rfl ⟨by omega, by omega⟩ ⟨by omega, by omega⟩ (fun z17 e_z17 => ?_)
              refine yG.ifz rfl (t := 80) rfl ⟨by omega, by omega⟩ (fun c18 => ?_) (fun c18 => ?_)
              · have c18 : (z17 : Int) < 0 := c18
                refine yG.load xlk2 rfl (fun _ _ => rfl) (v := yJ (a1)) rfl rfl ?_
                refine yG.store2 xlk2 (L' := [(1, yJ (a1)), (0, yR 2073), (3, yI (a3))]) rfl (fun _ _ => rfl) rfl rfl ?_
                refine yG.iinc rfl (a := a3) rfl (L' := [(3, yI (a3 + 1)), (1, yJ (a1)), (0, yR 2073)]) rfl ?_
                refine yG.goto rfl (t := 6) rfl ?_
                exact yG.mono (yG.sub (i_6 (a1) (a3 + 1)    (by omega) (by omega) (by omega) (by omega) (by omega)) (ySub.cons rfl (ySub.cons rfl (ySub.cons rfl (ySub.nil))))) (by omega)
              · have c18 : (z17 : Int) ≥ 0 := c18
                refine yG.load xak rfl (fun _ _ => rfl) (v := yR 2073) rfl rfl ?_
                refine yG.getR A_hp.1 (r_backupAt W) rfl rfl ?_
                refine yG.load xik rfl (fun _ _ => rfl) (v := yI (a3)) rfl rfl ?_
                refine yG.lald A_hp.1 (v_backupAt W) rfl (by omega) (by omega) (fun z19 e_z19 i_z19 l_z19 u_z19 => ?_)
                refine yG.load xlk2 rfl (fun _ _ => rfl) (v := yJ (a1)) rfl rfl ?_
                refine yG.lcmp rfl ⟨by omega, by omega⟩ ⟨by omega, by omega⟩ (fun z20 e_z20 => ?_)
                refine yG.ifz rfl (t := 80) rfl ⟨by omega, by omega⟩ (fun c21 => ?_) (fun c21 => ?_)
                · have c21 : (z20 : Int) ≥ 0 := c21
                  refine yG.load xlk2 rfl (fun _ _ => rfl) (v := yJ (a1)) rfl rfl ?_
                  refine yG.store2 xlk2 (L' := [(1, yJ (a1)), (0, yR 2073), (3, yI (a3))]) rfl (fun _ _ => rfl) rfl rfl ?_
                  refine yG.iinc rfl (a := a3) rfl (L' := [(3, yI (a3 + 1)), (1, yJ (a1)), (0, yR 2073)]) rfl ?_
                  refine yG.goto rfl (t := 6) rfl ?_
                  exact yG.mono (yG.sub (i_6 (a1) (a3 + 1)    (by omega) (by omega) (by omega) (by omega) (by omega)) (ySub.cons rfl (ySub.cons rfl (ySub.cons rfl (ySub.nil))))) (by omega)
                · have c21 : (z20 : Int) < 0 := c21
                  refine yG.load xak rfl (fun _ _ => rfl) (v := yR 2073) rfl rfl ?_
                  refine yG.getR A_hp.1 (r_backupAt W) rfl rfl ?_
                  refine yG.load xik rfl (fun _ _ => rfl) (v := yI (a3)) rfl rfl ?_
                  refine yG.lald A_hp.1 (v_backupAt W) rfl (by omega) (by omega) (fun z22 e_z22 i_z22 l_z22 u_z22 => ?_)
                  refine yG.goto rfl (t := 81) rfl ?_
                  refine yG.store2 xlk2 (L' := [(1, yJ (z22)), (0, yR 2073), (3, yI (a3))]) rfl (fun _ _ => rfl) rfl rfl ?_
                  refine yG.iinc rfl (a := a3) rfl (L' := [(3, yI (a3 + 1)), (1, yJ (z22)), (0, yR 2073)]) rfl ?_
                  refine yG.goto rfl (t := 6) rfl ?_
                  exact yG.mono (yG.sub (i_6 (z22) (a3 + 1)    (by omega) (by omega) (by omega) (by omega) (by omega)) (ySub.cons rfl (ySub.cons rfl (ySub.cons rfl (ySub.nil))))) (by omega)
            · have c15 : (z14 : Int) < 0 := c15
              refine yG.load xak rfl (fun _ _ => rfl) (v := yR 2073) rfl rfl ?_
              refine yG.getR A_hp.1 (r_opensAt W) rfl rfl ?_
              refine yG.load xik rfl (fun _ _ => rfl) (v := yI (a3)) rfl rfl ?_
              refine yG.lald A_hp.1 (v_opensAt W) rfl (by omega) (by omega) (fun z23 e_z23 i_z23 l_z23 u_z23 => ?_)
              refine yG.goto rfl (t := 48) rfl ?_
              refine yG.store2 xlk2 (L' := [(1, yJ (z23)), (0, yR 2073), (3, yI (a3))]) rfl (fun _ _ => rfl) rfl rfl ?_
              refine yG.load xak rfl (fun _ _ => rfl) (v := yR 2073) rfl rfl ?_
              refine yG.getR A_hp.1 (r_backupAt W) rfl rfl ?_
              refine yG.load xik rfl (fun _ _ => rfl) (v := yI (a3)) rfl rfl ?_
              refine yG.lald A_hp.1 (v_backupAt W) rfl (by omega) (by omega) (fun z24 e_z24 i_z24 l_z24 u_z24 => ?_)
              refine yG.numl (c := 0) rfl (fun _ _ => rfl) (by decide) ?_
              refine yG.lcmp rfl ⟨by omega, by omega⟩ ⟨by omega, by omega⟩ (fun z25 e_z25 => ?_)
              refine yG.ifz rfl (t := 80) rfl ⟨by omega, by omega⟩ (fun c26 => ?_) (fun c26 => ?_)
              · have c26 : (z25 : Int) < 0 := c26
                refine yG.load xlk2 rfl (fun _ _ => rfl) (v := yJ (z23)) rfl rfl ?_
                refine yG.store2 xlk2 (L' := [(1, yJ (z23)), (0, yR 2073), (3, yI (a3))]) rfl (fun _ _ => rfl) rfl rfl ?_
                refine yG.iinc rfl (a := a3) rfl (L' := [(3, yI (a3 + 1)), (1, yJ (z23)), (0, yR 2073)]) rfl ?_
                refine yG.goto rfl (t := 6) rfl ?_
                exact yG.mono (yG.sub (i_6 (z23) (a3 + 1)    (by omega) (by omega) (by omega) (by omega) (by omega)) (ySub.cons rfl (ySub.cons rfl (ySub.cons rfl (ySub.nil))))) (by omega)
              · have c26 : (z25 : Int) ≥ 0 := c26
                refine yG.load xak rfl (fun _ _ => rfl) (v := yR 2073) rfl rfl ?_
                refine yG.getR A_hp.1 (r_backupAt W) rfl rfl ?_
                refine yG.load xik rfl (fun _ _ => rfl) (v := yI (a3)) rfl rfl ?_
                refine yG.lald A_hp.1 (v_backupAt W) rfl (by omega) (by omega) (fun z27 e_z27 i_z27 l_z27 u_z27 => ?_)
                refine yG.load xlk2 rfl (fun _ _ => rfl) (v := yJ (z23)) rfl rfl ?_
                refine yG.lcmp rfl ⟨by omega, by omega⟩ ⟨by omega, by omega⟩ (fun z28 e_z28 => ?_)
                refine yG.ifz rfl (t := 80) rfl ⟨by omega, by omega⟩ (fun c29 => ?_) (fun c29 => ?_)
                · have c29 : (z28 : Int) ≥ 0 := c29
                  refine yG.load xlk2 rfl (fun _ _ => rfl) (v := yJ (z23)) rfl rfl ?_
                  refine yG.store2 xlk2 (L' := [(1, yJ (z23)), (0, yR 2073), (3, yI (a3))]) rfl (fun _ _ => rfl) rfl rfl ?_
                  refine yG.iinc rfl (a := a3) rfl (L' := [(3, yI (a3 + 1)), (1, yJ (z23)), (0, yR 2073)]) rfl ?_
                  refine yG.goto rfl (t := 6) rfl ?_
                  exact yG.mono (yG.sub (i_6 (z23) (a3 + 1)    (by omega) (by omega) (by omega) (by omega) (by omega)) (ySub.cons rfl (ySub.cons rfl (ySub.cons rfl (ySub.nil))))) (by omega)
                · have c29 : (z28 : Int) < 0 := c29
                  refine yG.load xak rfl (fun _ _ => rfl) (v := yR 2073) rfl rfl ?_
                  refine yG.getR A_hp.1 (r_backupAt W) rfl rfl ?_
                  refine yG.load xik rfl (fun _ _ => rfl) (v := yI (a3)) rfl rfl ?_
                  refine yG.lald A_hp.1 (v_backupAt W) rfl (by omega) (by omega) (fun z30 e_z30 i_z30 l_z30 u_z30 => ?_)
                  refine yG.goto rfl (t := 81) rfl ?_
                  refine yG.store2 xlk2 (L' := [(1, yJ (z30)), (0, yR 2073), (3, yI (a3))]) rfl (fun _ _ => rfl) rfl rfl ?_
                  refine yG.iinc rfl (a := a3) rfl (L' := [(3, yI (a3 + 1)), (1, yJ (z30)), (0, yR 2073)]) rfl ?_
                  refine yG.goto rfl (t := 6) rfl ?_
                  exact yG.mono (yG.sub (i_6 (z30) (a3 + 1)    (by omega) (by omega) (by omega) (by omega) (by omega)) (ySub.cons rfl (ySub.cons rfl (ySub.cons rfl (ySub.nil))))) (by omega)
      · intro a1 a3 f0 f1 f2 f3 hm
        refine yG.mono (N := 50 * m + 50) ?_ (by omega)
        refine yG.load xik rfl (fun _ _ => rfl) (v := yI (a3)) rfl rfl ?_
        refine yG.load xak rfl (fun _ _ => rfl) (v := yR 2073) rfl rfl ?_
        refine yG.getI A_hp.1 (w_relays W) rfl rfl (fun z1 e_z1 i_z1 l_z1 u_z1 => ?_)
        refine yG.icmp rfl (t := 174) rfl ⟨by omega, by omega⟩ ⟨by omega, by omega⟩ (fun c2 => ?_) (fun c2 => ?_)
        · have c2 : (a3 : Int) ≥ z1 := c2
          refine yG.load xlk2 rfl (fun _ _ => rfl) (v := yJ (a1)) rfl rfl ?_
          refine yG.ret rfl (fun _ _ => rfl) ?_
          exact yP.long ⟨by omega, by omega⟩ ⟨⟨a1, rfl, by omega, by omega⟩, rfl⟩
        · have c2 : (a3 : Int) < z1 := c2
          refine yG.num (c := 0) rfl (fun _ _ => rfl) (by decide) ?_
          refine yG.store1 xik (L' := [(4, yI (0)), (0, yR 2073), (1, yJ (a1)), (3, yI (a3))]) rfl (fun _ _ => rfl) rfl rfl ?_
          exact yG.mono (yG.sub (i_101 (a1) (a3) (0)    (by omega) (by omega) (by omega) (by omega) (by omega) (by omega) (by omega)) (ySub.cons rfl (ySub.cons rfl (ySub.cons rfl (ySub.cons rfl (ySub.nil)))))) (by omega)
      · intro a1 a3 a4 f0 f1 f2 f3 f4 f5 hm
        refine yG.mono (N := 50 * m + 50) ?_ (by omega)
        refine yG.load xik rfl (fun _ _ => rfl) (v := yI (a4)) rfl rfl ?_
        refine yG.load xak rfl (fun _ _ => rfl) (v := yR 2073) rfl rfl ?_
        refine yG.getR A_hp.1 (r_rowCount W) rfl rfl ?_
        refine yG.load xik rfl (fun _ _ => rfl) (v := yI (a3)) rfl rfl ?_
        refine yG.iald A_hp.1 (v_rowCount W) rfl (by omega) (by omega) (fun z1 e_z1 i_z1 l_z1 u_z1 => ?_)
        refine yG.icmp rfl (t := 168) rfl ⟨by omega, by omega⟩ ⟨by omega, by omega⟩ (fun c2 => ?_) (fun c2 => ?_)
        · have c2 : (a4 : Int) ≥ z1 := c2
          refine yG.iinc rfl (a := a3) rfl (L' := [(3, yI (a3 + 1)), (0, yR 2073), (1, yJ (a1)), (4, yI (a4))]) rfl ?_
          refine yG.goto rfl (t := 90) rfl ?_
          exact yG.mono (yG.sub (i_90 (a1) (a3 + 1)    (by omega) (by omega) (by omega) (by omega) (by omega)) (ySub.cons rfl (ySub.cons rfl (ySub.cons rfl (ySub.nil))))) (by omega)
        · have c2 : (a4 : Int) < z1 := c2
          refine yG.load xak rfl (fun _ _ => rfl) (v := yR 2073) rfl rfl ?_
          refine yG.getR A_hp.1 (r_since W) rfl rfl ?_
          refine yG.num (c := 4) rfl (fun _ _ => rfl) (by decide) ?_
          refine yG.load xik rfl (fun _ _ => rfl) (v := yI (a3)) rfl rfl ?_
          refine yG.imul rfl ?_
          refine yG.load xik rfl (fun _ _ => rfl) (v := yI (a4)) rfl rfl ?_
          refine yG.iadd rfl ?_
          refine yG.lald A_hp.1 (v_since W) rfl (by omega) (by omega) (fun z3 e_z3 i_z3 l_z3 u_z3 => ?_)
          refine yG.load xak rfl (fun _ _ => rfl) (v := yR 2073) rfl rfl ?_
          refine yG.getR A_hp.1 (r_delay W) rfl rfl ?_
          refine yG.num (c := 4) rfl (fun _ _ => rfl) (by decide) ?_
          refine yG.load xik rfl (fun _ _ => rfl) (v := yI (a3)) rfl rfl ?_
          refine yG.imul rfl ?_
          refine yG.load xik rfl (fun _ _ => rfl) (v := yI (a4)) rfl rfl ?_
          refine yG.iadd rfl ?_
          refine yG.iald A_hp.1 (v_delay W) rfl (by omega) (by omega) (fun z4 e_z4 i_z4 l_z4 u_z4 => ?_)
          refine yG.i2l rfl ⟨by omega, by omega⟩ ?_
          refine yG.ladd rfl ?_
          obtain ⟨z5, e_z5⟩ : ∃ z : Int, z = z3 + z4 := ⟨_, rfl⟩
          rw [← e_z5]
          refine yG.store2 xlk2 (L' := [(5, yJ (z5)), (0, yR 2073), (1, yJ (a1)), (3, yI (a3)), (4, yI (a4))]) rfl (fun _ _ => rfl) rfl rfl ?_
          refine yG.load xak rfl (fun _ _ => rfl) (v := yR 2073) rfl rfl ?_
          refine yG.load xik rfl (fun _ _ => rfl) (v := yI (a3)) rfl rfl ?_
          refine yG.load xik rfl (fun _ _ => rfl) (v := yI (a4)) rfl rfl ?_
          refine yG.invV (rest := []) A_hp.1 W.m.1 rfl rfl rfl rfl (a_isDue W d A_hp.1 (a3) (a4) (by omega) (by omega) (by omega) (by omega)) (fun rv hp9 q9 => ?_)
          obtain ⟨⟨z6, rfl, l_z6, u_z6⟩, e9⟩ := q9
          rw [e9]
          show yG _ _ _ _ _ _ _ _ _ _ (yI z6 :: []) _
          refine yG.ifz rfl (t := 160) rfl ⟨by omega, by omega⟩ (fun c7 => ?_) (fun c7 => ?_)
          · have c7 : (z6 : Int) = 0 := c7
            refine yG.load xlk2 rfl (fun _ _ => rfl) (v := yJ (a1)) rfl rfl ?_
            refine yG.store2 xlk2 (L' := [(1, yJ (a1)), (5, yJ (z5)), (0, yR 2073), (3, yI (a3)), (4, yI (a4))]) rfl (fun _ _ => rfl) rfl rfl ?_
            refine yG.iinc rfl (a := a4) rfl (L' := [(4, yI (a4 + 1)), (1, yJ (a1)), (5, yJ (z5)), (0, yR 2073), (3, yI (a3))]) rfl ?_
            refine yG.goto rfl (t := 101) rfl ?_
            exact yG.mono (yG.sub (i_101 (a1) (a3) (a4 + 1)    (by omega) (by omega) (by omega) (by omega) (by omega) (by omega) (by omega)) (ySub.cons rfl (ySub.cons rfl (ySub.cons rfl (ySub.cons rfl (ySub.nil)))))) (by omega)
          · have c7 : (z6 : Int) ≠ 0 := c7
            refine yG.load xlk2 rfl (fun _ _ => rfl) (v := yJ (z5)) rfl rfl ?_
            refine yG.load xlk2 rfl (fun _ _ => rfl) (v := yJ (a1)) rfl rfl ?_
            refine yG.lcmp rfl ⟨by omega, by omega⟩ ⟨by omega, by omega⟩ (fun z8 e_z8 => ?_)
            refine yG.ifz rfl (t := 160) rfl ⟨by omega, by omega⟩ (fun c9 => ?_) (fun c9 => ?_)
            · have c9 : (z8 : Int) ≥ 0 := c9
              refine yG.load xlk2 rfl (fun _ _ => rfl) (v := yJ (a1)) rfl rfl ?_
              refine yG.store2 xlk2 (L' := [(1, yJ (a1)), (5, yJ (z5)), (0, yR 2073), (3, yI (a3)), (4, yI (a4))]) rfl (fun _ _ => rfl) rfl rfl ?_
              refine yG.iinc rfl (a := a4) rfl (L' := [(4, yI (a4 + 1)), (1, yJ (a1)), (5, yJ (z5)), (0, yR 2073), (3, yI (a3))]) rfl ?_
              refine yG.goto rfl (t := 101) rfl ?_
              exact yG.mono (yG.sub (i_101 (a1) (a3) (a4 + 1)    (by omega) (by omega) (by omega) (by omega) (by omega) (by omega) (by omega)) (ySub.cons rfl (ySub.cons rfl (ySub.cons rfl (ySub.cons rfl (ySub.nil)))))) (by omega)
            · have c9 : (z8 : Int) < 0 := c9
              refine yG.load xlk2 rfl (fun _ _ => rfl) (v := yJ (z5)) rfl rfl ?_
              refine yG.goto rfl (t := 161) rfl ?_
              refine yG.store2 xlk2 (L' := [(1, yJ (z5)), (5, yJ (z5)), (0, yR 2073), (3, yI (a3)), (4, yI (a4))]) rfl (fun _ _ => rfl) rfl rfl ?_
              refine yG.iinc rfl (a := a4) rfl (L' := [(4, yI (a4 + 1)), (1, yJ (z5)), (5, yJ (z5)), (0, yR 2073), (3, yI (a3))]) rfl ?_
              refine yG.goto rfl (t := 101) rfl ?_
              exact yG.mono (yG.sub (i_101 (z5) (a3) (a4 + 1)    (by omega) (by omega) (by omega) (by omega) (by omega) (by omega) (by omega)) (ySub.cons rfl (ySub.cons rfl (ySub.cons rfl (ySub.cons rfl (ySub.nil)))))) (by omega)
  refine yC.of (M := (xt_X13_nextTime, (7, (2, (14, []))))) rfl rfl (N := 235100) (yfuel (by decide)) ?_
  show yG 89 xfts (xcall 89 xfts xpools xms (d + 1)) (xpool xp_RX13) [] xt_X13_nextTime (yP 2 (yQpj hp (-1) 9223372036854775807)) 235100 0 [(0, yR 2073)] [] hp
  obtain ⟨i_6, i_90, i_101⟩ := H 4701
  refine yG.numl (c := 9223372036854775807) rfl (fun _ _ => rfl) (by decide) ?_
  refine yG.store2 xlk2 (L' := [(1, yJ (9223372036854775807)), (0, yR 2073)]) rfl (fun _ _ => rfl) rfl rfl ?_
  refine yG.num (c := 0) rfl (fun _ _ => rfl) (by decide) ?_
  refine yG.store1 xik (L' := [(3, yI (0)), (1, yJ (9223372036854775807)), (0, yR 2073)]) rfl (fun _ _ => rfl) rfl rfl ?_
  exact yG.mono (yG.sub (i_6 (9223372036854775807) (0)    (by omega) (by omega) (by omega) (by omega) (by omega)) (ySub.cons rfl (ySub.cons rfl (ySub.cons rfl (ySub.nil))))) (by omega)
theorem a_turns {hp : xH} (W : yWW G) (d : Nat) (hT : zTy G hp) (p1 : Int) (h1l : 0 ≤ p1) (h1u : p1 ≤ 5) : yC (xcall 89 xfts xpools xms (d + 3)) 536 [yR 2073, yI (p1)] hp (yQpi hp 0 1) := by
  have A_hp : yAx G [] [] hp hp := yAx.rf hT
  refine yC.of (M := (xt_X13_turns, (3, (4, (14, []))))) rfl rfl (N := 129) (yfuel (by decide)) ?_
  show yG 89 xfts (xcall 89 xfts xpools xms (d + 2)) (xpool xp_RX13) [] xt_X13_turns (yP 4 (yQpi hp 0 1)) 129 0 [(0, yR 2073), (1, yI (p1))] [] hp
  refine yG.load xak rfl (fun _ _ => rfl) (v := yR 2073) rfl rfl ?_
  refine yG.getR A_hp.1 (r_machineAt W) rfl rfl ?_
  refine yG.load xik rfl (fun _ _ => rfl) (v := yI (p1)) rfl rfl ?_
  refine yG.iald A_hp.1 (v_machineAt W) rfl (by omega) (by omega) (fun z1 e_z1 i_z1 l_z1 u_z1 => ?_)
  refine yG.store1 xik (L' := [(2, yI (z1)), (0, yR 2073), (1, yI (p1))]) rfl (fun _ _ => rfl) rfl rfl ?_
  refine yG.load xak rfl (fun _ _ => rfl) (v := yR 2073) rfl rfl ?_
  refine yG.num (c := 3) rfl (fun _ _ => rfl) (by decide) ?_
  refine yG.load xik rfl (fun _ _ => rfl) (v := yI (z1)) rfl rfl ?_
  refine yG.num (c := 7) rfl (fun _ _ => rfl) (by decide) ?_
  refine yG.invV (rest := []) A_hp.1 W.m.1 rfl rfl rfl rfl (a_of_3_7 W d A_hp.1 (z1) (by omega) (by omega)) (fun rv hp9 q9 => ?_)
  obtain ⟨⟨z2, rfl, l_z2, u_z2⟩, e9⟩ := q9
  rw [e9]
  show yG _ _ _ _ _ _ _ _ _ _ (yI z2 :: []) _
  refine yG.load xak rfl (fun _ _ => rfl) (v := yR 2073) rfl rfl ?_
  refine yG.num (c := 3) rfl (fun _ _ => rfl) (by decide) ?_
  refine yG.load xik rfl (fun _ _ => rfl) (v := yI (z1)) rfl rfl ?_
  refine yG.num (c := 4) rfl (fun _ _ => rfl) (by decide) ?_
  refine yG.invV (rest := [yI (z2)]) A_hp.1 W.m.1 rfl rfl rfl rfl (a_of_3_4 W d A_hp.1 (z1) (by omega) (by omega)) (fun rv hp9 q9 => ?_)
  obtain ⟨⟨z3, rfl, l_z3, u_z3⟩, e9⟩ := q9
  rw [e9]
  show yG _ _ _ _ _ _ _ _ _ _ (yI z3 :: [yI (z2)]) _
  refine yG.icmp rfl (t := 66) rfl ⟨by omega, by omega⟩ ⟨by omega, by omega⟩ (fun c4 => ?_) (fun c4 => ?_)
  · have c4 : (z2 : Int) ≤ z3 := c4
    refine yG.num (c := 0) rfl (fun _ _ => rfl) (by decide) ?_
    refine yG.ret rfl (fun _ _ => rfl) ?_
    exact yP.bool (by omega) ⟨⟨0, rfl, by omega, by omega⟩, rfl⟩
  · have c4 : (z2 : Int) > z3 := c4
    refine yG.load xak rfl (fun _ _ => rfl) (v := yR 2073) rfl rfl ?_
    refine yG.num (c := 3) rfl (fun _ _ => rfl) (by decide) ?_
    refine yG.load xik rfl (fun _ _ => rfl) (v := yI (z1)) rfl rfl ?_
    refine yG.num (c := 7) rfl (fun _ _ => rfl) (by decide) ?_
    refine yG.invV (rest := []) A_hp.1 W.m.1 rfl rfl rfl rfl (a_of_3_7 W d A_hp.1 (z1) (by omega) (by omega)) (fun rv hp9 q9 => ?_)
    obtain ⟨⟨z5, rfl, l_z5, u_z5⟩, e9⟩ := q9
    rw [e9]
    show yG _ _ _ _ _ _ _ _ _ _ (yI z5 :: []) _
    refine yG.load xak rfl (fun _ _ => rfl) (v := yR 2073) rfl rfl ?_
    refine yG.num (c := 3) rfl (fun _ _ => rfl) (by decide) ?_
    refine yG.load xik rfl (fun _ _ => rfl) (v := yI (z1)) rfl rfl ?_
    refine yG.num (c := 5) rfl (fun _ _ => rfl) (by decide) ?_
    refine yG.invV (rest := [yI (z5)]) A_hp.1 W.m.1 rfl rfl rfl rfl (a_of_3_5 W d A_hp.1 (z1) (by omega) (by omega)) (fun rv hp9 q9 => ?_)
    obtain ⟨⟨z6, rfl, l_z6, u_z6⟩, e9⟩ := q9
    rw [e9]
    show yG _ _ _ _ _ _ _ _ _ _ (yI z6 :: [yI (z5)]) _
    refine yG.icmp rfl (t := 66) rfl ⟨by omega, by omega⟩ ⟨by omega, by omega⟩ (fun c7 => ?_) (fun c7 => ?_)
    · have c7 : (z5 : Int) ≥ z6 := c7
      refine yG.num (c := 0) rfl (fun _ _ => rfl) (by decide) ?_
      refine yG.ret rfl (fun _ _ => rfl) ?_
      exact yP.bool (by omega) ⟨⟨0, rfl, by omega, by omega⟩, rfl⟩
    · have c7 : (z5 : Int) < z6 := c7
      refine yG.load xak rfl (fun _ _ => rfl) (v := yR 2073) rfl rfl ?_
      refine yG.num (c := 3) rfl (fun _ _ => rfl) (by decide) ?_
      refine yG.load xik rfl (fun _ _ => rfl) (v := yI (z1)) rfl rfl ?_
      refine yG.num (c := 8) rfl (fun _ _ => rfl) (by decide) ?_
      refine yG.invV (rest := []) A_hp.1 W.m.1 rfl rfl rfl rfl (a_of_3_8 W d A_hp.1 (z1) (by omega) (by omega)) (fun rv hp9 q9 => ?_)
      obtain ⟨⟨z8, rfl, l_z8, u_z8⟩, e9⟩ := q9
      rw [e9]
      show yG _ _ _ _ _ _ _ _ _ _ (yI z8 :: []) _
      refine yG.load xak rfl (fun _ _ => rfl) (v := yR 2073) rfl rfl ?_
      refine yG.num (c := 3) rfl (fun _ _ => rfl) (by decide) ?_
      refine yG.load xik rfl (fun _ _ => rfl) (v := yI (z1)) rfl rfl ?_
      refine yG.num (c := 6) rfl (fun _ _ => rfl) (by decide) ?_
      refine yG.invV (rest := [yI (z8)]) A_hp.1 W.m.1 rfl rfl rfl rfl (a_of_3_6 W d A_hp.1 (z1) (by omega) (by omega)) (fun rv hp9 q9 => ?_)
      obtain ⟨⟨z9, rfl, l_z9, u_z9⟩, e9⟩ := q9
      rw [e9]
      show yG _ _ _ _ _ _ _ _ _ _ (yI z9 :: [yI (z8)]) _
      refine yG.icmp rfl (t := 66) rfl ⟨by omega, by omega⟩ ⟨by omega, by omega⟩ (fun c10 => ?_) (fun c10 => ?_)
      · have c10 : (z8 : Int) ≤ z9 := c10
        refine yG.num (c := 0) rfl (fun _ _ => rfl) (by decide) ?_
        refine yG.ret rfl (fun _ _ => rfl) ?_
        exact yP.bool (by omega) ⟨⟨0, rfl, by omega, by omega⟩, rfl⟩
      · have c10 : (z8 : Int) > z9 := c10
        refine yG.num (c := 1) rfl (fun _ _ => rfl) (by decide) ?_
        refine yG.goto rfl (t := 67) rfl ?_
        refine yG.ret rfl (fun _ _ => rfl) ?_
        exact yP.bool (by omega) ⟨⟨1, rfl, by omega, by omega⟩, rfl⟩
theorem a_inverse_ {hp : xH} (W : yWW G) (d : Nat) (hT : zTy G hp) (p1 : Int) (h1l : (-9223372036854775808) ≤ p1) (h1u : p1 ≤ 9223372036854775807) (q11l : 1 ≤ ys hp 2073 11) (q11u : ys hp 2073 11 ≤ 2147483647) : yC (xcall 89 xfts xpools xms (d + 2)) 420 [yR 2073, yJ (p1)] hp (yQpj hp 0 2147483646) := by
  have A_hp : yAx G [] [] hp hp := yAx.rf hT
  refine yC.of (M := (xt_X13_inverse_, (3, (2, (14, []))))) rfl rfl (N := 30) (yfuel (by decide)) ?_
  show yG 89 xfts (xcall 89 xfts xpools xms (d + 1)) (xpool xp_RX13) [] xt_X13_inverse_ (yP 2 (yQpj hp 0 2147483646)) 30 0 [(0, yR 2073), (1, yJ (p1))] [] hp
  obtain ⟨gg11, E_11⟩ : ∃ z : Int, ys hp 2073 11 = z := ⟨_, rfl⟩
  obtain ⟨-, -, r_11l, r_11u⟩ := (w_p W).long hT
  refine yG.load xak rfl (fun _ _ => rfl) (v := yR 2073) rfl rfl ?_
  refine yG.load xak rfl (fun _ _ => rfl) (v := yR 2073) rfl rfl ?_
  refine yG.load xlk2 rfl (fun _ _ => rfl) (v := yJ (p1)) rfl rfl ?_
  refine yG.invV (rest := [yR 2073]) A_hp.1 W.m.1 rfl rfl rfl rfl (a_mod W d A_hp.1 (p1) (by omega) (by omega) (by omega) (by omega)) (fun rv hp9 q9 => ?_)
  obtain ⟨⟨z1, rfl, l_z1, u_z1⟩, e9⟩ := q9
  rw [e9]
  show yG _ _ _ _ _ _ _ _ _ _ (yJ z1 :: [yR 2073]) _
  refine yG.load xak rfl (fun _ _ => rfl) (v := yR 2073) rfl rfl ?_
  refine yG.getJ A_hp.1 (w_p W) rfl rfl (fun z2 e_z2 i_z2 l_z2 u_z2 => ?_)
  refine yG.invV (rest := []) A_hp.1 W.m.1 rfl rfl rfl rfl (a_inverse W d A_hp.1 (z1) (z2) (by omega) (by omega) (by omega) (by omega)) (fun rv hp9 q9 => ?_)
  obtain ⟨⟨z3, rfl, l_z3, u_z3⟩, e9⟩ := q9
  rw [e9]
  show yG _ _ _ _ _ _ _ _ _ _ (yJ z3 :: []) _
  refine yG.ret rfl (fun _ _ => rfl) ?_
  exact yP.long ⟨by omega, by omega⟩ ⟨⟨z3, rfl, by omega, by omega⟩, rfl⟩
theorem a_clear {hp : xH} (W : yWW G) (d : Nat) (hT : zTy G hp) (p1 p2 p3 p4 : Int) (h1l : 0 ≤ p1) (h1u : p1 ≤ 19) (h2l : 0 ≤ p2) (h2u : p2 ≤ 19) (h3l : 0 ≤ p3) (h3u : p3 ≤ 20) (h4l : 0 ≤ p4) (h4u : p4 ≤ 48) (q11l : 1 ≤ ys hp 2073 11) (q11u : ys hp 2073 11 ≤ 2147483647) : yC (xcall 89 xfts xpools xms (d + 3)) 368 [yR 2073, yI (p1), yI (p2), yI (p3), yI (p4)] hp (yQv G [] [2083] hp) := by
  have A_hp : yAx G [] [2083] hp hp := yAx.rf hT
  have H : ∀ m : Nat, (∀ a5 a7 gg11 : Int, ∀ hq, yAx G [] [2083] hp hq → ys hq 2073 11 = gg11 → 0 ≤ a5 → (-2147483646) ≤ 0 - a5 → 0 ≤ a7 → (-48) ≤ 0 - a7 → 1 ≤ gg11 → (-2147483647) ≤ 0 - gg11 → 0 ≤ p1 → (-19) ≤ 0 - p1 → 0 ≤ p2 → (-19) ≤ 0 - p2 → 0 ≤ p3 → (-20) ≤ 0 - p3 → 0 ≤ p4 → (-48) ≤ 0 - p4 → 0 ≤ 0 - a7 + p4 → 0 - 2080 * a7 + 101919 < (m : Int) → yG 89 xfts (xcall 89 xfts xpools xms (d + 2)) (xpool xp_RX13) [] xt_X13_clear (yP 0 (yQv G [] [2083] hp)) (46 * m) 20 [(0, yR 2073), (1, yI (p1)), (2, yI (p2)), (3, yI (p3)), (4, yI (p4)), (5, yJ (a5)), (7, yI (a7))] [] hq) ∧ (∀ a7 gg11 : Int, ∀ hq, yAx G [] [2083] hp hq → ys hq 2073 11 = gg11 → 0 ≤ a7 → (-20) ≤ 0 - a7 → 1 ≤ gg11 → (-2147483647) ≤ 0 - gg11 → 0 ≤ p1 → (-19) ≤ 0 - p1 → 0 ≤ p2 → (-19) ≤ 0 - p2 → 0 ≤ p3 → (-20) ≤ 0 - p3 → 0 ≤ p4 → (-48) ≤ 0 - p4 → 0 ≤ 0 - a7 + p3 → 0 - 99 * a7 + 2078 < (m : Int) → yG 89 xfts (xcall 89 xfts xpools xms (d + 2)) (xpool xp_RX13) [] xt_X13_clear (yP 0 (yQv G [] [2083] hp)) (46 * m) 68 [(0, yR 2073), (1, yI (p1)), (2, yI (p2)), (3, yI (p3)), (4, yI (p4)), (7, yI (a7))] [] hq) ∧ (∀ a7 a8 a10 gg11 : Int, ∀ hq, yAx G [] [2083] hp hq → ys hq 2073 11 = gg11 → 0 ≤ a7 → (-19) ≤ 0 - a7 → 0 ≤ a8 → (-2147483647) ≤ 0 - a8 → 0 ≤ a10 → (-48) ≤ 0 - a10 → 1 ≤ gg11 → (-2147483647) ≤ 0 - gg11 → 0 ≤ p1 → (-19) ≤ 0 - p1 → 0 ≤ p2 → (-19) ≤ 0 - p2 → 1 ≤ p3 → (-20) ≤ 0 - p3 → 0 ≤ p4 → (-48) ≤ 0 - p4 → (-47) ≤ 0 - a10 + a8 → 1 ≤ 0 - a7 + p3 → 0 ≤ 0 - a10 + p4 → 0 - 2 * a10 - 99 * a7 + 2077 < (m : Int) → yG 89 xfts (xcall 89 xfts xpools xms (d + 2)) (xpool xp_RX13) [] xt_X13_clear (yP 0 (yQv G [] [2083] hp)) (46 * m) 91 [(0, yR 2073), (1, yI (p1)), (2, yI (p2)), (3, yI (p3)), (4, yI (p4)), (7, yI (a7)), (8, yJ (a8)), (10, yI (a10))] [] hq) := by
    intro m
    induction m with
    | zero =>
      refine ⟨?_, ?_, ?_⟩ <;> (intros; exfalso; omega)
    | succ m ih =>
      obtain ⟨i_20, i_68, i_91⟩ := ih
      refine ⟨?_, ?_, ?_⟩
      · intro a5 a7 gg11 hq A_hq E_11 f0 f1 f2 f3 f4 f5 f6 f7 f8 f9 f10 f11 f12 f13 f14 hm
        refine yG.mono (N := 46 * m + 46) ?_ (by omega)
        refine yG.load xik rfl (fun _ _ => rfl) (v := yI (a7)) rfl rfl ?_
        refine yG.load xik rfl (fun _ _ => rfl) (v := yI (p4)) rfl rfl ?_
        refine yG.icmp rfl (t := 65) rfl ⟨by omega, by omega⟩ ⟨by omega, by omega⟩ (fun c1 => ?_) (fun c1 => ?_)
        · have c1 : (a7 : Int) ≥ p4 := c1
          refine yG.num (c := 0) rfl (fun _ _ => rfl) (by decide) ?_
          refine yG.store1 xik (L' := [(7, yI (0)), (0, yR 2073), (1, yI (p1)), (2, yI (p2)), (3, yI (p3)), (4, yI (p4)), (5, yJ (a5))]) rfl (fun _ _ => rfl) rfl rfl ?_
          exact yG.mono (yG.sub (i_68 (0) (ys hq 2073 11) hq A_hq rfl (by omega) (by omega) (by omega) (by omega) (by omega) (by omega) (by omega) (by omega) (by omega) (by omega) (by omega) (by omega) (by omega) (by omega)) (ySub.cons rfl (ySub.cons rfl (ySub.cons rfl (ySub.cons rfl (ySub.cons rfl (ySub.cons rfl (ySub.nil)))))))) (by omega)
        · have c1 : (a7 : Int) < p4 := c1
          refine yG.load xak rfl (fun _ _ => rfl) (v := yR 2073) rfl rfl ?_
          refine yG.getR A_hq.1 (r_matrix W) rfl rfl ?_
          refine yG.num (c := 48) rfl (fun _ _ => rfl) (by decide) ?_
          refine yG.load xik rfl (fun _ _ => rfl) (v := yI (p1)) rfl rfl ?_
          refine yG.imul rfl ?_
          refine yG.load xik rfl (fun _ _ => rfl) (v := yI (a7)) rfl rfl ?_
          refine yG.iadd rfl ?_
          refine yG.load xak rfl (fun _ _ => rfl) (v := yR 2073) rfl rfl ?_
          refine yG.getR A_hq.1 (r_matrix W) rfl rfl ?_
          refine yG.num (c := 48) rfl (fun _ _ => rfl) (by decide) ?_
          refine yG.load xik rfl (fun _ _ => rfl) (v := yI (p1)) rfl rfl ?_
          refine yG.imul rfl ?_
          refine yG.load xik rfl (fun _ _ => rfl) (v := yI (a7)) rfl rfl ?_
          refine yG.iadd rfl ?_
          refine yG.lald A_hq.1 (v_matrix W) rfl (by omega) (by omega) (fun z2 e_z2 i_z2 l_z2 u_z2 => ?_)
          refine yG.load xlk2 rfl (fun _ _ => rfl) (v := yJ (a5)) rfl rfl ?_
          refine yG.lmul rfl ?_
          obtain ⟨z3, e_z3⟩ : ∃ z : Int, z = z2 * a5 := ⟨_, rfl⟩
          rw [← e_z3]
          have b_z3 : 0 ≤ z3 ∧ z3 ≤ 4611686011984936962 := e_z3 ▸ ymulb (A := 2147483647) (B := 2147483646) (by omega) (by omega) (by omega) (by omega) (by decide)
          refine yG.load xak rfl (fun _ _ => rfl) (v := yR 2073) rfl rfl ?_
          refine yG.getJ A_hq.1 (w_p W) rfl rfl (fun z4 e_z4 i_z4 l_z4 u_z4 => ?_)
          refine yG.lrem rfl ⟨by omega, by omega⟩ ⟨by omega, by omega⟩ (by omega) (by omega) ?_
          obtain ⟨z5, e_z5⟩ : ∃ z : Int, z = (z3) % (z4) := ⟨_, rfl⟩
          rw [← e_z5]
          have b_z5 : 0 ≤ z5 ∧ z5 < z4 := e_z5 ▸ ⟨Int.emod_nonneg _ (by omega), Int.emod_lt_of_pos _ (by omega)⟩
          refine yG.last A_hq.1 (v_matrix W) (by decide) rfl (by omega) (by omega) ⟨by omega, by omega⟩ (by omega) (by omega) (fun h6 T_h6 b_h6 f_h6 y_h6 => ?_)
          have A_h6 := A_hq.putA T_h6 b_h6 f_h6 (by decide)
          have g11_h6 : ys h6 2073 11 = ys hq 2073 11 := (y_h6 2073 11).trans (if_neg (by omega))
          refine yG.iinc rfl (a := a7) rfl (L' := [(7, yI (a7 + 1)), (0, yR 2073), (1, yI (p1)), (2, yI (p2)), (3, yI (p3)), (4, yI (p4)), (5, yJ (a5))]) rfl ?_
          refine yG.goto rfl (t := 20) rfl ?_
          exact yG.mono (yG.sub (i_20 (a5) (a7 + 1) (ys h6 2073 11) h6 A_h6 rfl (by omega) (by omega) (by omega) (by omega) (by omega) (by omega) (by omega) (by omega) (by omega) (by omega) (by omega) (by omega) (by omega) (by omega) (by omega) (by omega)) (ySub.cons rfl (ySub.cons rfl (ySub.cons rfl (ySub.cons rfl (ySub.cons rfl (ySub.cons rfl (ySub.cons rfl (ySub.nil))))))))) (by omega)
      · intro a7 gg11 hq A_hq E_11 f0 f1 f2 f3 f4 f5 f6 f7 f8 f9 f10 f11 f12 hm
        refine yG.mono (N := 46 * m + 46) ?_ (by omega)
        refine yG.load xik rfl (fun _ _ => rfl) (v := yI (a7)) rfl rfl ?_
        refine yG.load xik rfl (fun _ _ => rfl) (v := yI (p3)) rfl rfl ?_
        refine yG.icmp rfl (t := 174) rfl ⟨by omega, by omega⟩ ⟨by omega, by omega⟩ (fun c1 => ?_) (fun c1 => ?_)
        · have c1 : (a7 : Int) ≥ p3 := c1
          refine yG.ret rfl (fun _ _ => rfl) ?_
          exact yP.void ⟨rfl, A_hq⟩
        · have c1 : (a7 : Int) < p3 := c1
          refine yG.load xak rfl (fun _ _ => rfl) (v := yR 2073) rfl rfl ?_
          refine yG.getR A_hq.1 (r_matrix W) rfl rfl ?_
          refine yG.num (c := 48) rfl (fun _ _ => rfl) (by decide) ?_
          refine yG.load xik rfl (fun _ _ => rfl) (v := yI (a7)) rfl rfl ?_
          refine yG.imul rfl ?_
          refine yG.load xik rfl (fun _ _ => rfl) (v := yI (p2)) rfl rfl ?_
          refine yG.iadd rfl ?_
          refine yG.lald A_hq.1 (v_matrix W) rfl (by omega) (by omega) (fun z2 e_z2 i_z2 l_z2 u_z2 => ?_)
          refine yG.store2 xlk2 (L' := [(8, yJ (z2)), (0, yR 2073), (1, yI (p1)), (2, yI (p2)), (3, yI (p3)), (4, yI (p4)), (7, yI (a7))]) rfl (fun _ _ => rfl) rfl rfl ?_
          refine yG.num (c := 0) rfl (fun _ _ => rfl) (by decide) ?_
          refine yG.store1 xik (L' := [(10, yI (0)), (8, yJ (z2)), (0, yR 2073), (1, yI (p1)), (2, yI (p2)), (3, yI (p3)), (4, yI (p4)), (7, yI (a7))]) rfl (fun _ _ => rfl) rfl rfl ?_
          exact yG.mono (yG.sub (i_91 (a7) (z2) (0) (ys hq 2073 11) hq A_hq rfl (by omega) (by omega) (by omega) (by omega) (by omega) (by omega) (by omega) (by omega) (by omega) (by omega) (by omega) (by omega) (by omega) (by omega) (by omega) (by omega) (by omega) (by omega) (by omega) (by omega)) (ySub.cons rfl (ySub.cons rfl (ySub.cons rfl (ySub.cons rfl (ySub.cons rfl (ySub.cons rfl (ySub.cons rfl (ySub.cons rfl (ySub.nil)))))))))) (by omega)
      · intro a7 a8 a10 gg11 hq A_hq E_11 f0 f1 f2 f3 f4 f5 f6 f7 f8 f9 f10 f11 f12 f13 f14 f15 f16 f17 f18 hm
        refine yG.mono (N := 46 * m + 46) ?_ (by omega)
        refine yG.load xik rfl (fun _ _ => rfl) (v := yI (a10)) rfl rfl ?_
        refine yG.load xik rfl (fun _ _ => rfl) (v := yI (p4)) rfl rfl ?_
        refine yG.icmp rfl (t := 168) rfl ⟨by omega, by omega⟩ ⟨by omega, by omega⟩ (fun c1 => ?_) (fun c1 => ?_)
        · have c1 : (a10 : Int) ≥ p4 := c1
          refine yG.iinc rfl (a := a7) rfl (L' := [(7, yI (a7 + 1)), (0, yR 2073), (1, yI (p1)), (2, yI (p2)), (3, yI (p3)), (4, yI (p4)), (8, yJ (a8)), (10, yI (a10))]) rfl ?_
          refine yG.goto rfl (t := 68) rfl ?_
          exact yG.mono (yG.sub (i_68 (a7 + 1) (ys hq 2073 11) hq A_hq rfl (by omega) (by omega) (by omega) (by omega) (by omega) (by omega) (by omega) (by omega) (by omega) (by omega) (by omega) (by omega) (by omega) (by omega)) (ySub.cons rfl (ySub.cons rfl (ySub.cons rfl (ySub.cons rfl (ySub.cons rfl (ySub.cons rfl (ySub.nil)))))))) (by omega)
        · have c1 : (a10 : Int) < p4 := c1
          refine yG.load xik rfl (fun _ _ => rfl) (v := yI (a7)) rfl rfl ?_
          refine yG.load xik rfl (fun _ _ => rfl) (v := yI (p1)) rfl rfl ?_
          refine yG.icmp rfl (t := 168) rfl ⟨by omega, by omega⟩ ⟨by omega, by omega⟩ (fun c2 => ?_) (fun c2 => ?_)
          · have c2 : (a7 : Int) = p1 := c2
            refine yG.iinc rfl (a := a7) rfl (L' := [(7, yI (a7 + 1)), (0, yR 2073), (1, yI (p1)), (2, yI (p2)), (3, yI (p3)), (4, yI (p4)), (8, yJ (a8)), (10, yI (a10))]) rfl ?_
            refine yG.goto rfl (t := 68) rfl ?_
            exact yG.mono (yG.sub (i_68 (a7 + 1) (ys hq 2073 11) hq A_hq rfl (by omega) (by omega) (by omega) (by omega) (by omega) (by omega) (by omega) (by omega) (by omega) (by omega) (by omega) (by omega) (by omega) (by omega)) (ySub.cons rfl (ySub.cons rfl (ySub.cons rfl (ySub.cons rfl (ySub.cons rfl (ySub.cons rfl (ySub.nil)))))))) (by omega)
          · have c2 : (a7 : Int) ≠ p1 := c2
            refine yG.load xlk2 rfl (fun _ _ => rfl) (v := yJ (a8)) rfl rfl ?_
            refine yG.numl (c := 0) rfl (fun _ _ => rfl) (by decide) ?_
            refine yG.lcmp rfl ⟨by omega, by omega⟩ ⟨by omega, by omega⟩ (fun z3 e_z3 => ?_)
            refine yG.ifz rfl (t := 168) rfl ⟨by omega, by omega⟩ (fun c4 => ?_) (fun c4 => ?_)
            · have c4 : (z3 : Int) = 0 := c4
              refine yG.iinc rfl (a := a7) rfl (L' := [(7, yI (a7 + 1)), (0, yR 2073), (1, yI (p1)), (2, yI (p2)), (3, yI (p3)), (4, yI (p4)), (8, yJ (a8)), (10, yI (a10))]) rfl ?_
              refine yG.goto rfl (t := 68) rfl ?_
              exact yG.mono (yG.sub (i_68 (a7 + 1) (ys hq 2073 11) hq A_hq rfl (by omega) (by omega) (by omega) (by omega) (by omega) (by omega) (by omega) (by omega) (by omega) (by omega) (by omega) (by omega) (by omega) (by omega)) (ySub.cons rfl (ySub.cons rfl (ySub.cons rfl (ySub.cons rfl (ySub.cons rfl (ySub.cons rfl (ySub.nil)))))))) (by omega)
            · have c4 : (z3 : Int) ≠ 0 := c4
              refine yG.load xak rfl (fun _ _ => rfl) (v := yR 2073) rfl rfl ?_
              refine yG.getR A_hq.1 (r_matrix W) rfl rfl ?_
              refine yG.num (c := 48) rfl (fun _ _ => rfl) (by decide) ?_
              refine yG.load xik rfl (fun _ _ => rfl) (v := yI (a7)) rfl rfl ?_
              refine yG.imul rfl ?_
              refine yG.load xik rfl (fun _ _ => rfl) (v := yI (a10)) rfl rfl ?_
              refine yG.iadd rfl ?_
              refine yG.load xak rfl (fun _ _ => rfl) (v := yR 2073) rfl rfl ?_
              refine yG.load xak rfl (fun _ _ => rfl) (v := yR 2073) rfl rfl ?_
              refine yG.getR A_hq.1 (r_matrix W) rfl rfl ?_
              refine yG.num (c := 48) rfl (fun _ _ => rfl) (by decide) ?_
              refine yG.load xik rfl (fun _ _ => rfl) (v := yI (a7)) rfl rfl ?_
              refine yG.imul rfl ?_
              refine yG.load xik rfl (fun _ _ => rfl) (v := yI (a10)) rfl rfl ?_
              refine yG.iadd rfl ?_
              refine yG.lald A_hq.1 (v_matrix W) rfl (by omega) (by omega) (fun z5 e_z5 i_z5 l_z5 u_z5 => ?_)
              refine yG.load xlk2 rfl (fun _ _ => rfl) (v := yJ (a8)) rfl rfl ?_
              refine yG.load xak rfl (fun _ _ => rfl) (v := yR 2073) rfl rfl ?_
              refine yG.getR A_hq.1 (r_matrix W) rfl rfl ?_
              refine yG.num (c := 48) rfl (fun _ _ => rfl) (by decide) ?_
              refine yG.load xik rfl (fun _ _ => rfl) (v := yI (p1)) rfl rfl ?_
              refine yG.imul rfl ?_
              refine yG.load xik rfl (fun _ _ => rfl) (v := yI (a10)) rfl rfl ?_
              refine yG.iadd rfl ?_
              refine yG.lald A_hq.1 (v_matrix W) rfl (by omega) (by omega) (fun z6 e_z6 i_z6 l_z6 u_z6 => ?_)
              refine yG.lmul rfl ?_
              obtain ⟨z7, e_z7⟩ : ∃ z : Int, z = a8 * z6 := ⟨_, rfl⟩
              rw [← e_z7]
              have b_z7 : 0 ≤ z7 ∧ z7 ≤ 4611686014132420609 := e_z7 ▸ ymulb (A := 2147483647) (B := 2147483647) (by omega) (by omega) (by omega) (by omega) (by decide)
              refine yG.load xak rfl (fun _ _ => rfl) (v := yR 2073) rfl rfl ?_
              refine yG.getJ A_hq.1 (w_p W) rfl rfl (fun z8 e_z8 i_z8 l_z8 u_z8 => ?_)
              refine yG.lrem rfl ⟨by omega, by omega⟩ ⟨by omega, by omega⟩ (by omega) (by omega) ?_
              obtain ⟨z9, e_z9⟩ : ∃ z : Int, z = (z7) % (z8) := ⟨_, rfl⟩
              rw [← e_z9]
              have b_z9 : 0 ≤ z9 ∧ z9 < z8 := e_z9 ▸ ⟨Int.emod_nonneg _ (by omega), Int.emod_lt_of_pos _ (by omega)⟩
              refine yG.lsub rfl ?_
              refine yG.invV (rest := [yI ((48 * a7) + a10), yR 2083]) A_hq.1 W.m.1 rfl rfl rfl rfl (a_mod W (d + 1) A_hq.1 (z5 - z9) (by omega) (by omega) (by omega) (by omega)) (fun rv hp9 q9 => ?_)
              obtain ⟨⟨z10, rfl, l_z10, u_z10⟩, e9⟩ := q9
              rw [e9]
              show yG _ _ _ _ _ _ _ _ _ _ (yJ z10 :: [yI ((48 * a7) + a10), yR 2083]) _
              refine yG.last A_hq.1 (v_matrix W) (by decide) rfl (by omega) (by omega) ⟨by omega, by omega⟩ (by omega) (by omega) (fun h11 T_h11 b_h11 f_h11 y_h11 => ?_)
              have A_h11 := A_hq.putA T_h11 b_h11 f_h11 (by decide)
              have g11_h11 : ys h11 2073 11 = ys hq 2073 11 := (y_h11 2073 11).trans (if_neg (by omega))
              refine yG.iinc rfl (a := a10) rfl (L' := [(10, yI (a10 + 1)), (0, yR 2073), (1, yI (p1)), (2, yI (p2)), (3, yI (p3)), (4, yI (p4)), (7, yI (a7)), (8, yJ (a8))]) rfl ?_
              refine yG.goto rfl (t := 91) rfl ?_
              exact yG.mono (yG.sub (i_91 (a7) (a8) (a10 + 1) (ys h11 2073 11) h11 A_h11 rfl (by omega) (by omega) (by omega) (by omega) (by omega) (by omega) (by omega) (by omega) (by omega) (by omega) (by omega) (by omega) (by omega) (by omega) (by omega) (by omega) (by omega) (by omega) (by omega) (by omega)) (ySub.cons rfl (ySub.cons rfl (ySub.cons rfl (ySub.cons rfl (ySub.cons rfl (ySub.cons rfl (ySub.cons rfl (ySub.cons rfl (ySub.nil)))))))))) (by omega)
  refine yC.of (M := (xt_X13_clear, (11, (0, (14, []))))) rfl rfl (N := 4688412) (yfuel (by decide)) ?_
  show yG 89 xfts (xcall 89 xfts xpools xms (d + 2)) (xpool xp_RX13) [] xt_X13_clear (yP 0 (yQv G [] [2083] hp)) 4688412 0 [(0, yR 2073), (1, yI (p1)), (2, yI (p2)), (3, yI (p3)), (4, yI (p4))] [] hp
  obtain ⟨i_20, i_68, i_91⟩ := H 101921
  obtain ⟨gg11, E_11⟩ : ∃ z : Int, ys hp 2073 11 = z := ⟨_, rfl⟩
  obtain ⟨-, -, r_11l, r_11u⟩ := (w_p W).long hT
  refine yG.load xak rfl (fun _ _ => rfl) (v := yR 2073) rfl rfl ?_
  refine yG.load xak rfl (fun _ _ => rfl) (v := yR 2073) rfl rfl ?_
  refine yG.getR A_hp.1 (r_matrix W) rfl rfl ?_
  refine yG.num (c := 48) rfl (fun _ _ => rfl) (by decide) ?_
  refine yG.load xik rfl (fun _ _ => rfl) (v := yI (p1)) rfl rfl ?_
  refine yG.imul rfl ?_
  refine yG.load xik rfl (fun _ _ => rfl) (v := yI (p2)) rfl rfl ?_
  refine yG.iadd rfl ?_
  refine yG.lald A_hp.1 (v_matrix W) rfl (by omega) (by omega) (fun z1 e_z1 i_z1 l_z1 u_z1 => ?_)
  refine yG.invV (rest := []) A_hp.1 W.m.1 rfl rfl rfl rfl (a_inverse_ W d A_hp.1 (z1) (by omega) (by omega) (by omega) (by omega)) (fun rv hp9 q9 => ?_)
  obtain ⟨⟨z2, rfl, l_z2, u_z2⟩, e9⟩ := q9
  rw [e9]
  show yG _ _ _ _ _ _ _ _ _ _ (yJ z2 :: []) _
  refine yG.store2 xlk2 (L' := [(5, yJ (z2)), (0, yR 2073), (1, yI (p1)), (2, yI (p2)), (3, yI (p3)), (4, yI (p4))]) rfl (fun _ _ => rfl) rfl rfl ?_
  refine yG.num (c := 0) rfl (fun _ _ => rfl) (by decide) ?_
  refine yG.store1 xik (L' := [(7, yI (0)), (5, yJ (z2)), (0, yR 2073), (1, yI (p1)), (2, yI (p2)), (3, yI (p3)), (4, yI (p4))]) rfl (fun _ _ => rfl) rfl rfl ?_
  exact yG.mono (yG.sub (i_20 (z2) (0) (ys hp 2073 11) hp A_hp rfl (by omega) (by omega) (by omega) (by omega) (by omega) (by omega) (by omega) (by omega) (by omega) (by omega) (by omega) (by omega) (by omega) (by omega) (by omega) (by omega)) (ySub.cons rfl (ySub.cons rfl (ySub.cons rfl (ySub.cons rfl (ySub.cons rfl (ySub.cons rfl (ySub.cons rfl (ySub.nil))))))))) (by omega)
theorem a_solve {hp : xH} (W : yWW G) (d : Nat) (hT : zTy G hp) (p1 p2 : Int) (h1l : 0 ≤ p1) (h1u : p1 ≤ 20) (h2l : 0 ≤ p2) (h2u : p2 ≤ 48) (q11l : 1 ≤ ys hp 2073 11) (q11u : ys hp 2073 11 ≤ 2147483647) : yC (xcall 89 xfts xpools xms (d + 4)) 516 [yR 2073, yI (p1), yI (p2)] hp (yQj G [] [2083] hp 0 2147483646) := by
  have A_hp : yAx G [] [2083] hp hp := yAx.rf hT
  have H : ∀ m : Nat, (∀ a3 a5 gg11 : Int, ∀ hq, yAx G [] [2083] hp hq → ys hq 2073 11 = gg11 → 0 ≤ a3 → (-2147483646) ≤ 0 - a3 → 0 ≤ a5 → (-20) ≤ 0 - a5 → 1 ≤ gg11 → (-2147483647) ≤ 0 - gg11 → 0 ≤ p1 → (-20) ≤ 0 - p1 → 0 ≤ p2 → (-48) ≤ 0 - p2 → (-2147483645) ≤ 0 - a3 + a5 → 0 ≤ 0 - a3 + gg11 → 0 ≤ 0 - a5 + p1 → 0 - 85 * a5 + 1784 < (m : Int) → yG 89 xfts (xcall 89 xfts xpools xms (d + 3)) (xpool xp_RX13) [] xt_X13_solve (yP 2 (yQj G [] [2083] hp 0 2147483646)) (24 * m) 5 [(0, yR 2073), (1, yI (p1)), (2, yI (p2)), (3, yJ (a3)), (5, yI (a5))] [] hq) ∧ (∀ a3 a5 a6 gg11 : Int, ∀ hq, yAx G [] [2083] hp hq → ys hq 2073 11 = gg11 → 0 ≤ a3 → (-2147483646) ≤ 0 - a3 → 0 ≤ a5 → (-19) ≤ 0 - a5 → 0 ≤ a6 → (-20) ≤ 0 - a6 → 1 ≤ gg11 → (-2147483647) ≤ 0 - gg11 → 1 ≤ p1 → (-20) ≤ 0 - p1 → 0 ≤ p2 → (-48) ≤ 0 - p2 → (-2147483645) ≤ 0 - a3 + a5 → 0 ≤ 0 - a5 + a6 → 0 ≤ 0 - a3 + gg11 → 1 ≤ 0 - a5 + p1 → 0 ≤ 0 - a6 + p1 → 0 - 85 * a5 - 4 * a6 + 1783 < (m : Int) → yG 89 xfts (xcall 89 xfts xpools xms (d + 3)) (xpool xp_RX13) [] xt_X13_solve (yP 2 (yQj G [] [2083] hp 0 2147483646)) (24 * m) 15 [(0, yR 2073), (1, yI (p1)), (2, yI (p2)), (3, yJ (a3)), (5, yI (a5)), (6, yI (a6))] [] hq) ∧ (∀ a3 a5 a6 gg11 : Int, ∀ hq, yAx G [] [2083] hp hq → ys hq 2073 11 = gg11 → 0 ≤ a3 → (-2147483646) ≤ 0 - a3 → 0 ≤ a5 → (-19) ≤ 0 - a5 → 0 ≤ a6 → (-20) ≤ 0 - a6 → 1 ≤ gg11 → (-2147483647) ≤ 0 - gg11 → 1 ≤ p1 → (-20) ≤ 0 - p1 → 0 ≤ p2 → (-48) ≤ 0 - p2 → (-2147483645) ≤ 0 - a3 + a5 → 0 ≤ 0 - a5 + a6 → 0 ≤ 0 - a3 + gg11 → 1 ≤ 0 - a5 + p1 → 0 ≤ 0 - a6 + p1 → 0 - 85 * a5 + 1702 < (m : Int) → yG 89 xfts (xcall 89 xfts xpools xms (d + 3)) (xpool xp_RX13) [] xt_X13_solve (yP 2 (yQj G [] [2083] hp 0 2147483646)) (24 * m) 45 [(0, yR 2073), (1, yI (p1)), (2, yI (p2)), (3, yJ (a3)), (5, yI (a5)), (6, yI (a6))] [] hq) ∧ (∀ a3 a5 gg11 : Int, ∀ hq, yAx G [] [2083] hp hq → ys hq 2073 11 = gg11 → 0 ≤ a3 → (-2147483647) ≤ 0 - a3 → 0 ≤ a5 → (-19) ≤ 0 - a5 → 1 ≤ gg11 → (-2147483647) ≤ 0 - gg11 → 1 ≤ p1 → (-20) ≤ 0 - p1 → 0 ≤ p2 → (-48) ≤ 0 - p2 → 0 ≤ 0 - a3 + gg11 → (-2147483645) ≤ 0 - a3 + p1 → 1 ≤ 0 - a5 + p1 → 0 - 85 * a5 + 1701 < (m : Int) → yG 89 xfts (xcall 89 xfts xpools xms (d + 3)) (xpool xp_RX13) [] xt_X13_solve (yP 2 (yQj G [] [2083] hp 0 2147483646)) (24 * m) 76 [(0, yR 2073), (1, yI (p1)), (2, yI (p2)), (3, yJ (a3)), (5, yI (a5))] [] hq) := by
    intro m
    induction m with
    | zero =>
      refine ⟨?_, ?_, ?_, ?_⟩ <;> (intros; exfalso; omega)
    | succ m ih =>
      obtain ⟨i_5, i_15, i_45, i_76⟩ := ih
      refine ⟨?_, ?_, ?_, ?_⟩
      · intro a3 a5 gg11 hq A_hq E_11 f0 f1 f2 f3 f4 f5 f6 f7 f8 f9 f10 f11 f12 hm
        refine yG.mono (N := 24 * m + 24) ?_ (by omega)
        refine yG.load xik rfl (fun _ _ => rfl) (v := yI (a5)) rfl rfl ?_
        refine yG.load xik rfl (fun _ _ => rfl) (v := yI (p1)) rfl rfl ?_
        refine yG.icmp rfl (t := 113) rfl ⟨by omega, by omega⟩ ⟨by omega, by omega⟩ (fun c1 => ?_) (fun c1 => ?_)
        · have c1 : (a5 : Int) ≥ p1 := c1
          refine yG.load xlk2 rfl (fun _ _ => rfl) (v := yJ (a3)) rfl rfl ?_
          refine yG.ret rfl (fun _ _ => rfl) ?_
          exact yP.long ⟨by omega, by omega⟩ ⟨⟨a3, rfl, by omega, by omega⟩, A_hq⟩
        · have c1 : (a5 : Int) < p1 := c1
          refine yG.load xik rfl (fun _ _ => rfl) (v := yI (a5)) rfl rfl ?_
          refine yG.store1 xik (L' := [(6, yI (a5)), (0, yR 2073), (1, yI (p1)), (2, yI (p2)), (3, yJ (a3)), (5, yI (a5))]) rfl (fun _ _ => rfl) rfl rfl ?_
          exact yG.mono (yG.sub (i_15 (a3) (a5) (a5) (ys hq 2073 11) hq A_hq rfl (by omega) (by omega) (by omega) (by omega) (by omega) (by omega) (by omega) (by omega) (by omega) (by omega) (by omega) (by omega) (by omega) (by omega) (by omega) (by omega) (by omega) (by omega)) (ySub.cons rfl (ySub.cons rfl (ySub.cons rfl (ySub.cons rfl (ySub.cons rfl (ySub.cons rfl (ySub.nil)))))))) (by omega)
      · intro a3 a5 a6 gg11 hq A_hq E_11 f0 f1 f2 f3 f4 f5 f6 f7 f8 f9 f10 f11 f12 f13 f14 f15 f16 hm
        refine yG.mono (N := 24 * m + 24) ?_ (by omega)
        refine yG.load xik rfl (fun _ _ => rfl) (v := yI (a6)) rfl rfl ?_
        refine yG.load xik rfl (fun _ _ => rfl) (v := yI (p1)) rfl rfl ?_
        refine yG.icmp rfl (t := 45) rfl ⟨by omega, by omega⟩ ⟨by omega, by omega⟩ (fun c1 => ?_) (fun c1 => ?_)
        · have c1 : (a6 : Int) ≥ p1 := c1
          exact yG.mono (yG.sub (i_45 (a3) (a5) (a6) (ys hq 2073 11) hq A_hq rfl (by omega) (by omega) (by omega) (by omega) (by omega) (by omega) (by omega) (by omega) (by omega) (by omega) (by omega) (by omega) (by omega) (by omega) (by omega) (by omega) (by omega) (by omega)) (ySub.cons rfl (ySub.cons rfl (ySub.cons rfl (ySub.cons rfl (ySub.cons rfl (ySub.cons rfl (ySub.nil)))))))) (by omega)
        · have c1 : (a6 : Int) < p1 := c1
          refine yG.load xak rfl (fun _ _ => rfl) (v := yR 2073) rfl rfl ?_
          refine yG.getR A_hq.1 (r_matrix W) rfl rfl ?_
          refine yG.num (c := 48) rfl (fun _ _ => rfl) (by decide) ?_
          refine yG.load xik rfl (fun _ _ => rfl) (v := yI (a6)) rfl rfl ?_
          refine yG.imul rfl ?_
          refine yG.load xik rfl (fun _ _ => rfl) (v := yI (a5)) rfl rfl ?_
          refine yG.iadd rfl ?_
          refine yG.lald A_hq.1 (v_matrix W) rfl (by omega) (by omega) (fun z2 e_z2 i_z2 l_z2 u_z2 => ?_)
          refine yG.numl (c := 0) rfl (fun _ _ => rfl) (by decide) ?_
          refine yG.lcmp rfl ⟨by omega, by omega⟩ ⟨by omega, by omega⟩ (fun z3 e_z3 => ?_)
          refine yG.ifz rfl (t := 45) rfl ⟨by omega, by omega⟩ (fun c4 => ?_) (fun c4 => ?_)
          · have c4 : (z3 : Int) ≠ 0 := c4
            exact yG.mono (yG.sub (i_45 (a3) (a5) (a6) (ys hq 2073 11) hq A_hq rfl (by omega) (by omega) (by omega) (by omega) (by omega) (by omega) (by omega) (by omega) (by omega) (by omega) (by omega) (by omega) (by omega) (by omega) (by omega) (by omega) (by omega) (by omega)) (ySub.cons rfl (ySub.cons rfl (ySub.cons rfl (ySub.cons rfl (ySub.cons rfl (ySub.cons rfl (ySub.nil)))))))) (by omega)
          · have c4 : (z3 : Int) = 0 := c4
            refine yG.iinc rfl (a := a6) rfl (L' := [(6, yI (a6 + 1)), (0, yR 2073), (1, yI (p1)), (2, yI (p2)), (3, yJ (a3)), (5, yI (a5))]) rfl ?_
            refine yG.goto rfl (t := 15) rfl ?_
            exact yG.mono (yG.sub (i_15 (a3) (a5) (a6 + 1) (ys hq 2073 11) hq A_hq rfl (by omega) (by omega) (by omega) (by omega) (by omega) (by omega) (by omega) (by omega) (by omega) (by omega) (by omega) (by omega) (by omega) (by omega) (by omega) (by omega) (by omega) (by omega)) (ySub.cons rfl (ySub.cons rfl (ySub.cons rfl (ySub.cons rfl (ySub.cons rfl (ySub.cons rfl (ySub.nil)))))))) (by omega)
      · intro a3 a5 a6 gg11 hq A_hq E_11 f0 f1 f2 f3 f4 f5 f6 f7 f8 f9 f10 f11 f12 f13 f14 f15 f16 hm
        refine yG.mono (N := 24 * m + 24) ?_ (by omega)
        refine yG.load xik rfl (fun _ _ => rfl) (v := yI (a6)) rfl rfl ?_
        refine yG.load xik rfl (fun _ _ => rfl) (v := yI (p1)) rfl rfl ?_
        refine yG.icmp rfl (t := 53) rfl ⟨by omega, by omega⟩ ⟨by omega, by omega⟩ (fun c1 => ?_) (fun c1 => ?_)
        · have c1 : (a6 : Int) ≠ p1 := c1
          refine yG.load xik rfl (fun _ _ => rfl) (v := yI (a6)) rfl rfl ?_
          refine yG.load xik rfl (fun _ _ => rfl) (v := yI (a5)) rfl rfl ?_
          refine yG.icmp rfl (t := 76) rfl ⟨by omega, by omega⟩ ⟨by omega, by omega⟩ (fun c2 => ?_) (fun c2 => ?_)
          · have c2 : (a6 : Int) = a5 := c2
            exact yG.mono (yG.sub (i_76 (a3) (a5) (ys hq 2073 11) hq A_hq rfl (by omega) (by omega) (by omega) (by omega) (by omega) (by omega) (by omega) (by omega) (by omega) (by omega) (by omega) (by omega) (by omega) (by omega)) (ySub.cons rfl (ySub.cons rfl (ySub.cons rfl (ySub.cons rfl (ySub.cons rfl (ySub.nil))))))) (by omega)
          · have c2 : (a6 : Int) ≠ a5 := c2
            refine yG.load xak rfl (fun _ _ => rfl) (v := yR 2073) rfl rfl ?_
            refine yG.load xik rfl (fun _ _ => rfl) (v := yI (a6)) rfl rfl ?_
            refine yG.load xik rfl (fun _ _ => rfl) (v := yI (a5)) rfl rfl ?_
            refine yG.load xik rfl (fun _ _ => rfl) (v := yI (p2)) rfl rfl ?_
            refine yG.invV (rest := []) A_hq.1 W.m.1 rfl rfl rfl rfl (a_swap W (d + 2) A_hq.1 (a6) (a5) (p2) (by omega) (by omega) (by omega) (by omega) (by omega) (by omega)) (fun rv h4 q9 => ?_)
            obtain ⟨rfl, B_h4⟩ := q9
            have A_h4 := A_hq.tr (B_h4.sub (by decide) (by decide))
            have g11_h4 : ys h4 2073 11 = ys hq 2073 11 := B_h4.ys (by decide) (by decide)
            show yG _ _ _ _ _ _ _ _ _ _ [] _
            refine yG.load xak rfl (fun _ _ => rfl) (v := yR 2073) rfl rfl ?_
            refine yG.getJ A_h4.1 (w_p W) rfl rfl (fun z5 e_z5 i_z5 l_z5 u_z5 => ?_)
            refine yG.load xlk2 rfl (fun _ _ => rfl) (v := yJ (a3)) rfl rfl ?_
            refine yG.lsub rfl ?_
            obtain ⟨z6, e_z6⟩ : ∃ z : Int, z = z5 - a3 := ⟨_, rfl⟩
            rw [← e_z6]
            refine yG.store2 xlk2 (L' := [(3, yJ (z6)), (0, yR 2073), (1, yI (p1)), (2, yI (p2)), (5, yI (a5)), (6, yI (a6))]) rfl (fun _ _ => rfl) rfl rfl ?_
            exact yG.mono (yG.sub (i_76 (z6) (a5) (ys h4 2073 11) h4 A_h4 rfl (by omega) (by omega) (by omega) (by omega) (by omega) (by omega) (by omega) (by omega) (by omega) (by omega) (by omega) (by omega) (by omega) (by omega)) (ySub.cons rfl (ySub.cons rfl (ySub.cons rfl (ySub.cons rfl (ySub.cons rfl (ySub.nil))))))) (by omega)
        · have c1 : (a6 : Int) = p1 := c1
          refine yG.numl (c := 0) rfl (fun _ _ => rfl) (by decide) ?_
          refine yG.ret rfl (fun _ _ => rfl) ?_
          exact yP.long ⟨by omega, by omega⟩ ⟨⟨0, rfl, by omega, by omega⟩, A_hq⟩
      · intro a3 a5 gg11 hq A_hq E_11 f0 f1 f2 f3 f4 f5 f6 f7 f8 f9 f10 f11 f12 hm
        refine yG.mono (N := 24 * m + 24) ?_ (by omega)
        refine yG.load xlk2 rfl (fun _ _ => rfl) (v := yJ (a3)) rfl rfl ?_
        refine yG.load xak rfl (fun _ _ => rfl) (v := yR 2073) rfl rfl ?_
        refine yG.getR A_hq.1 (r_matrix W) rfl rfl ?_
        refine yG.num (c := 48) rfl (fun _ _ => rfl) (by decide) ?_
        refine yG.load xik rfl (fun _ _ => rfl) (v := yI (a5)) rfl rfl ?_
        refine yG.imul rfl ?_
        refine yG.load xik rfl (fun _ _ => rfl) (v := yI (a5)) rfl rfl ?_
        refine yG.iadd rfl ?_
        refine yG.lald A_hq.1 (v_matrix W) rfl (by omega) (by omega) (fun z1 e_z1 i_z1 l_z1 u_z1 => ?_)
        refine yG.lmul rfl ?_
        obtain ⟨z2, e_z2⟩ : ∃ z : Int, z = a3 * z1 := ⟨_, rfl⟩
        rw [← e_z2]
        have b_z2 : 0 ≤ z2 ∧ z2 ≤ 4611686014132420609 := e_z2 ▸ ymulb (A := 2147483647) (B := 2147483647) (by omega) (by omega) (by omega) (by omega) (by decide)
        refine yG.load xak rfl (fun _ _ => rfl) (v := yR 2073) rfl rfl ?_
        refine yG.getJ A_hq.1 (w_p W) rfl rfl (fun z3 e_z3 i_z3 l_z3 u_z3 => ?_)
        refine yG.lrem rfl ⟨by omega, by omega⟩ ⟨by omega, by omega⟩ (by omega) (by omega) ?_
        obtain ⟨z4, e_z4⟩ : ∃ z : Int, z = (z2) % (z3) := ⟨_, rfl⟩
        rw [← e_z4]
        have b_z4 : 0 ≤ z4 ∧ z4 < z3 := e_z4 ▸ ⟨Int.emod_nonneg _ (by omega), Int.emod_lt_of_pos _ (by omega)⟩
        refine yG.store2 xlk2 (L' := [(3, yJ (z4)), (0, yR 2073), (1, yI (p1)), (2, yI (p2)), (5, yI (a5))]) rfl (fun _ _ => rfl) rfl rfl ?_
        refine yG.load xak rfl (fun _ _ => rfl) (v := yR 2073) rfl rfl ?_
        refine yG.load xik rfl (fun _ _ => rfl) (v := yI (a5)) rfl rfl ?_
        refine yG.load xik rfl (fun _ _ => rfl) (v := yI (a5)) rfl rfl ?_
        refine yG.load xik rfl (fun _ _ => rfl) (v := yI (p1)) rfl rfl ?_
        refine yG.load xik rfl (fun _ _ => rfl) (v := yI (p2)) rfl rfl ?_
        refine yG.invV (rest := []) A_hq.1 W.m.1 rfl rfl rfl rfl (a_clear W d A_hq.1 (a5) (a5) (p1) (p2) (by omega) (by omega) (by omega) (by omega) (by omega) (by omega) (by omega) (by omega) (by omega) (by omega)) (fun rv h6 q9 => ?_)
        obtain ⟨rfl, B_h6⟩ := q9
        have A_h6 := A_hq.tr (B_h6.sub (by decide) (by decide))
        have g11_h6 : ys h6 2073 11 = ys hq 2073 11 := B_h6.ys (by decide) (by decide)
        show yG _ _ _ _ _ _ _ _ _ _ [] _
        refine yG.iinc rfl (a := a5) rfl (L' := [(5, yI (a5 + 1)), (3, yJ (z4)), (0, yR 2073), (1, yI (p1)), (2, yI (p2))]) rfl ?_
        refine yG.goto rfl (t := 5) rfl ?_
        exact yG.mono (yG.sub (i_5 (z4) (a5 + 1) (ys h6 2073 11) h6 A_h6 rfl (by omega) (by omega) (by omega) (by omega) (by omega) (by omega) (by omega) (by omega) (by omega) (by omega) (by omega) (by omega) (by omega) (by omega)) (ySub.cons rfl (ySub.cons rfl (ySub.cons rfl (ySub.cons rfl (ySub.cons rfl (ySub.nil))))))) (by omega)
  refine yC.of (M := (xt_X13_solve, (7, (2, (14, []))))) rfl rfl (N := 42888) (yfuel (by decide)) ?_
  show yG 89 xfts (xcall 89 xfts xpools xms (d + 3)) (xpool xp_RX13) [] xt_X13_solve (yP 2 (yQj G [] [2083] hp 0 2147483646)) 42888 0 [(0, yR 2073), (1, yI (p1)), (2, yI (p2))] [] hp
  obtain ⟨i_5, i_15, i_45, i_76⟩ := H 1786
  obtain ⟨gg11, E_11⟩ : ∃ z : Int, ys hp 2073 11 = z := ⟨_, rfl⟩
  obtain ⟨-, -, r_11l, r_11u⟩ := (w_p W).long hT
  refine yG.numl (c := 1) rfl (fun _ _ => rfl) (by decide) ?_
  refine yG.store2 xlk2 (L' := [(3, yJ (1)), (0, yR 2073), (1, yI (p1)), (2, yI (p2))]) rfl (fun _ _ => rfl) rfl rfl ?_
  refine yG.num (c := 0) rfl (fun _ _ => rfl) (by decide) ?_
  refine yG.store1 xik (L' := [(5, yI (0)), (3, yJ (1)), (0, yR 2073), (1, yI (p1)), (2, yI (p2))]) rfl (fun _ _ => rfl) rfl rfl ?_
  exact yG.mono (yG.sub (i_5 (1) (0) (ys hp 2073 11) hp A_hp rfl (by omega) (by omega) (by omega) (by omega) (by omega) (by omega) (by omega) (by omega) (by omega) (by omega) (by omega) (by omega) (by omega) (by omega)) (ySub.cons rfl (ySub.cons rfl (ySub.cons rfl (ySub.cons rfl (ySub.cons rfl (ySub.nil))))))) (by omega)
theorem a_join {hp : xH} (W : yWW G) (d : Nat) (hT : zTy G hp) (p1 p2 p3 : Int) (h1l : (-1) ≤ p1) (h1u : p1 ≤ 19) (h2l : (-1) ≤ p2) (h2u : p2 ≤ 19) (h3l : 0 ≤ p3) (h3u : p3 ≤ 2147483647) (q11l : 1 ≤ ys hp 2073 11) (q11u : ys hp 2073 11 ≤ 2147483647) : yC (xcall 89 xfts xpools xms (d + 2)) 439 [yR 2073, yI (p1), yI (p2), yJ (p3)] hp (yQv G [] [2083] hp) := by
  have A_hp : yAx G [] [2083] hp hp := yAx.rf hT
  have H : ∀ m : Nat, (∀ gg11 : Int, ∀ hq, yAx G [] [2083] hp hq → ys hq 2073 11 = gg11 → 1 ≤ gg11 → (-2147483647) ≤ 0 - gg11 → (-1) ≤ p1 → (-19) ≤ 0 - p1 → (-1) ≤ p2 → (-19) ≤ 0 - p2 → 0 ≤ p3 → (-2147483647) ≤ 0 - p3 → 2 < (m : Int) → yG 89 xfts (xcall 89 xfts xpools xms (d + 1)) (xpool xp_RX13) [] xt_X13_join (yP 0 (yQv G [] [2083] hp)) (47 * m) 32 [(0, yR 2073), (1, yI (p1)), (2, yI (p2)), (3, yJ (p3))] [] hq) ∧ (∀ gg11 : Int, ∀ hq, yAx G [] [2083] hp hq → ys hq 2073 11 = gg11 → 1 ≤ gg11 → (-2147483647) ≤ 0 - gg11 → (-1) ≤ p1 → (-19) ≤ 0 - p1 → (-1) ≤ p2 → (-19) ≤ 0 - p2 → 0 ≤ p3 → (-2147483647) ≤ 0 - p3 → 1 < (m : Int) → yG 89 xfts (xcall 89 xfts xpools xms (d + 1)) (xpool xp_RX13) [] xt_X13_join (yP 0 (yQv G [] [2083] hp)) (47 * m) 64 [(0, yR 2073), (1, yI (p1)), (2, yI (p2)), (3, yJ (p3))] [] hq) := by
    intro m
    induction m with
    | zero =>
      refine ⟨?_, ?_⟩ <;> (intros; exfalso; omega)
    | succ m ih =>
      obtain ⟨i_32, i_64⟩ := ih
      refine ⟨?_, ?_⟩
      · intro gg11 hq A_hq E_11 f0 f1 f2 f3 f4 f5 f6 f7 hm
        refine yG.mono (N := 47 * m + 47) ?_ (by omega)
        refine yG.load xik rfl (fun _ _ => rfl) (v := yI (p2)) rfl rfl ?_
        refine yG.ifz rfl (t := 64) rfl ⟨by omega, by omega⟩ (fun c1 => ?_) (fun c1 => ?_)
        · have c1 : (p2 : Int) < 0 := c1
          exact yG.mono (yG.sub (i_64  (ys hq 2073 11) hq A_hq rfl (by omega) (by omega) (by omega) (by omega) (by omega) (by omega) (by omega) (by omega) (by omega)) (ySub.cons rfl (ySub.cons rfl (ySub.cons rfl (ySub.cons rfl (ySub.nil)))))) (by omega)
        · have c1 : (p2 : Int) ≥ 0 := c1
          refine yG.load xak rfl (fun _ _ => rfl) (v := yR 2073) rfl rfl ?_
          refine yG.getR A_hq.1 (r_matrix W) rfl rfl ?_
          refine yG.num (c := 48) rfl (fun _ _ => rfl) (by decide) ?_
          refine yG.load xik rfl (fun _ _ => rfl) (v := yI (p2)) rfl rfl ?_
          refine yG.imul rfl ?_
          refine yG.load xik rfl (fun _ _ => rfl) (v := yI (p2)) rfl rfl ?_
          refine yG.iadd rfl ?_
          refine yG.load xak rfl (fun _ _ => rfl) (v := yR 2073) rfl rfl ?_
          refine yG.load xak rfl (fun _ _ => rfl) (v := yR 2073) rfl rfl ?_
          refine yG.getR A_hq.1 (r_matrix W) rfl rfl ?_
          refine yG.num (c := 48) rfl (fun _ _ => rfl) (by decide) ?_
          refine yG.load xik rfl (fun _ _ => rfl) (v := yI (p2)) rfl rfl ?_
          refine yG.imul rfl ?_
          refine yG.load xik rfl (fun _ _ => rfl) (v := yI (p2)) rfl rfl ?_
          refine yG.iadd rfl ?_
          refine yG.lald A_hq.1 (v_matrix W) rfl (by omega) (by omega) (fun z2 e_z2 i_z2 l_z2 u_z2 => ?_)
          refine yG.load xlk2 rfl (fun _ _ => rfl) (v := yJ (p3)) rfl rfl ?_
          refine yG.ladd rfl ?_
          refine yG.invV (rest := [yI ((48 * p2) + p2), yR 2083]) A_hq.1 W.m.1 rfl rfl rfl rfl (a_mod W d A_hq.1 (z2 + p3) (by omega) (by omega) (by omega) (by omega)) (fun rv hp9 q9 => ?_)
          obtain ⟨⟨z3, rfl, l_z3, u_z3⟩, e9⟩ := q9
          rw [e9]
          show yG _ _ _ _ _ _ _ _ _ _ (yJ z3 :: [yI ((48 * p2) + p2), yR 2083]) _
          refine yG.last A_hq.1 (v_matrix W) (by decide) rfl (by omega) (by omega) ⟨by omega, by omega⟩ (by omega) (by omega) (fun h4 T_h4 b_h4 f_h4 y_h4 => ?_)
          have A_h4 := A_hq.putA T_h4 b_h4 f_h4 (by decide)
          have g11_h4 : ys h4 2073 11 = ys hq 2073 11 := (y_h4 2073 11).trans (if_neg (by omega))
          exact yG.mono (yG.sub (i_64  (ys h4 2073 11) h4 A_h4 rfl (by omega) (by omega) (by omega) (by omega) (by omega) (by omega) (by omega) (by omega) (by omega)) (ySub.cons rfl (ySub.cons rfl (ySub.cons rfl (ySub.cons rfl (ySub.nil)))))) (by omega)
      · intro gg11 hq A_hq E_11 f0 f1 f2 f3 f4 f5 f6 f7 hm
        refine yG.mono (N := 47 * m + 47) ?_ (by omega)
        refine yG.load xik rfl (fun _ _ => rfl) (v := yI (p1)) rfl rfl ?_
        refine yG.ifz rfl (t := 128) rfl ⟨by omega, by omega⟩ (fun c1 => ?_) (fun c1 => ?_)
        · have c1 : (p1 : Int) < 0 := c1
          refine yG.ret rfl (fun _ _ => rfl) ?_
          exact yP.void ⟨rfl, A_hq⟩
        · have c1 : (p1 : Int) ≥ 0 := c1
          refine yG.load xik rfl (fun _ _ => rfl) (v := yI (p2)) rfl rfl ?_
          refine yG.ifz rfl (t := 128) rfl ⟨by omega, by omega⟩ (fun c2 => ?_) (fun c2 => ?_)
          · have c2 : (p2 : Int) < 0 := c2
            refine yG.ret rfl (fun _ _ => rfl) ?_
            exact yP.void ⟨rfl, A_hq⟩
          · have c2 : (p2 : Int) ≥ 0 := c2
            refine yG.load xak rfl (fun _ _ => rfl) (v := yR 2073) rfl rfl ?_
            refine yG.getR A_hq.1 (r_matrix W) rfl rfl ?_
            refine yG.num (c := 48) rfl (fun _ _ => rfl) (by decide) ?_
            refine yG.load xik rfl (fun _ _ => rfl) (v := yI (p1)) rfl rfl ?_
            refine yG.imul rfl ?_
            refine yG.load xik rfl (fun _ _ => rfl) (v := yI (p2)) rfl rfl ?_
            refine yG.iadd rfl ?_
            refine yG.load xak rfl (fun _ _ => rfl) (v := yR 2073) rfl rfl ?_
            refine yG.load xak rfl (fun _ _ => rfl) (v := yR 2073) rfl rfl ?_
            refine yG.getR A_hq.1 (r_matrix W) rfl rfl ?_
            refine yG.num (c := 48) rfl (fun _ _ => rfl) (by decide) ?_
            refine yG.load xik rfl (fun _ _ => rfl) (v := yI (p1)) rfl rfl ?_
            refine yG.imul rfl ?_
            refine yG.load xik rfl (fun _ _ => rfl) (v := yI (p2)) rfl rfl ?_
            refine yG.iadd rfl ?_
            refine yG.lald A_hq.1 (v_matrix W) rfl (by omega) (by omega) (fun z3 e_z3 i_z3 l_z3 u_z3 => ?_)
            refine yG.load xlk2 rfl (fun _ _ => rfl) (v := yJ (p3)) rfl rfl ?_
            refine yG.lsub rfl ?_
            refine yG.invV (rest := [yI ((48 * p1) + p2), yR 2083]) A_hq.1 W.m.1 rfl rfl rfl rfl (a_mod W d A_hq.1 (z3 - p3) (by omega) (by omega) (by omega) (by omega)) (fun rv hp9 q9 => ?_)
            obtain ⟨⟨z4, rfl, l_z4, u_z4⟩, e9⟩ := q9
            rw [e9]
            show yG _ _ _ _ _ _ _ _ _ _ (yJ z4 :: [yI ((48 * p1) + p2), yR 2083]) _
            refine yG.last A_hq.1 (v_matrix W) (by decide) rfl (by omega) (by omega) ⟨by omega, by omega⟩ (by omega) (by omega) (fun h5 T_h5 b_h5 f_h5 y_h5 => ?_)
            have A_h5 := A_hq.putA T_h5 b_h5 f_h5 (by decide)
            have g11_h5 : ys h5 2073 11 = ys hq 2073 11 := (y_h5 2073 11).trans (if_neg (by omega))
            refine yG.load xak rfl (fun _ _ => rfl) (v := yR 2073) rfl rfl ?_
            refine yG.getR A_h5.1 (r_matrix W) rfl rfl ?_
            refine yG.num (c := 48) rfl (fun _ _ => rfl) (by decide) ?_
            refine yG.load xik rfl (fun _ _ => rfl) (v := yI (p2)) rfl rfl ?_
            refine yG.imul rfl ?_
            refine yG.load xik rfl (fun _ _ => rfl) (v := yI (p1)) rfl rfl ?_
            refine yG.iadd rfl ?_
            refine yG.load xak rfl (fun _ _ => rfl) (v := yR 2073) rfl rfl ?_
            refine yG.load xak rfl (fun _ _ => rfl) (v := yR 2073) rfl rfl ?_
            refine yG.getR A_h5.1 (r_matrix W) rfl rfl ?_
            refine yG.num (c := 48) rfl (fun _ _ => rfl) (by decide) ?_
            refine yG.load xik rfl (fun _ _ => rfl) (v := yI (p2)) rfl rfl ?_
            refine yG.imul rfl ?_
            refine yG.load xik rfl (fun _ _ => rfl) (v := yI (p1)) rfl rfl ?_
            refine yG.iadd rfl ?_
            refine yG.lald A_h5.1 (v_matrix W) rfl (by omega) (by omega) (fun z6 e_z6 i_z6 l_z6 u_z6 => ?_)
            refine yG.load xlk2 rfl (fun _ _ => rfl) (v := yJ (p3)) rfl rfl ?_
            refine yG.lsub rfl ?_
            refine yG.invV (rest := [yI ((48 * p2) + p1), yR 2083]) A_h5.1 W.m.1 rfl rfl rfl rfl (a_mod W d A_h5.1 (z6 - p3) (by omega) (by omega) (by omega) (by omega)) (fun rv hp9 q9 => ?_)
            obtain ⟨⟨z7, rfl, l_z7, u_z7⟩, e9⟩ := q9
            rw [e9]
            show yG _ _ _ _ _ _ _ _ _ _ (yJ z7 :: [yI ((48 * p2) + p1), yR 2083]) _
            refine yG.last A_h5.1 (v_matrix W) (by decide) rfl (by omega) (by omega) ⟨by omega, by omega⟩ (by omega) (by omega) (fun h8 T_h8 b_h8 f_h8 y_h8 => ?_)
            have A_h8 := A_h5.putA T_h8 b_h8 f_h8 (by decide)
            have g11_h8 : ys h8 2073 11 = ys h5 2073 11 := (y_h8 2073 11).trans (if_neg (by omega))
            refine yG.ret rfl (fun _ _ => rfl) ?_
            exact yP.void ⟨rfl, A_h8⟩
  refine yC.of (M := (xt_X13_join, (5, (0, (14, []))))) rfl rfl (N := 235) (yfuel (by decide)) ?_
  show yG 89 xfts (xcall 89 xfts xpools xms (d + 1)) (xpool xp_RX13) [] xt_X13_join (yP 0 (yQv G [] [2083] hp)) 235 0 [(0, yR 2073), (1, yI (p1)), (2, yI (p2)), (3, yJ (p3))] [] hp
  obtain ⟨i_32, i_64⟩ := H 4
  obtain ⟨gg11, E_11⟩ : ∃ z : Int, ys hp 2073 11 = z := ⟨_, rfl⟩
  obtain ⟨-, -, r_11l, r_11u⟩ := (w_p W).long hT
  refine yG.load xik rfl (fun _ _ => rfl) (v := yI (p1)) rfl rfl ?_
  refine yG.ifz rfl (t := 32) rfl ⟨by omega, by omega⟩ (fun c1 => ?_) (fun c1 => ?_)
  · have c1 : (p1 : Int) < 0 := c1
    exact yG.mono (yG.sub (i_32  (ys hp 2073 11) hp A_hp rfl (by omega) (by omega) (by omega) (by omega) (by omega) (by omega) (by omega) (by omega) (by omega)) (ySub.cons rfl (ySub.cons rfl (ySub.cons rfl (ySub.cons rfl (ySub.nil)))))) (by omega)
  · have c1 : (p1 : Int) ≥ 0 := c1
    refine yG.load xak rfl (fun _ _ => rfl) (v := yR 2073) rfl rfl ?_
    refine yG.getR A_hp.1 (r_matrix W) rfl rfl ?_
    refine yG.num (c := 48) rfl (fun _ _ => rfl) (by decide) ?_
    refine yG.load xik rfl (fun _ _ => rfl) (v := yI (p1)) rfl rfl ?_
    refine yG.imul rfl ?_
    refine yG.load xik rfl (fun _ _ => rfl) (v := yI (p1)) rfl rfl ?_
    refine yG.iadd rfl ?_
    refine yG.load xak rfl (fun _ _ => rfl) (v := yR 2073) rfl rfl ?_
    refine yG.load xak rfl (fun _ _ => rfl) (v := yR 2073) rfl rfl ?_
    refine yG.getR A_hp.1 (r_matrix W) rfl rfl ?_
    refine yG.num (c := 48) rfl (fun _ _ => rfl) (by decide) ?_
    refine yG.load xik rfl (fun _ _ => rfl) (v := yI (p1)) rfl rfl ?_
    refine yG.imul rfl ?_
    refine yG.load xik rfl (fun _ _ => rfl) (v := yI (p1)) rfl rfl ?_
    refine yG.iadd rfl ?_
    refine yG.lald A_hp.1 (v_matrix W) rfl (by omega) (by omega) (fun z2 e_z2 i_z2 l_z2 u_z2 => ?_)
    refine yG.load xlk2 rfl (fun _ _ => rfl) (v := yJ (p3)) rfl rfl ?_
    refine yG.ladd rfl ?_
    refine yG.invV (rest := [yI ((48 * p1) + p1), yR 2083]) A_hp.1 W.m.1 rfl rfl rfl rfl (a_mod W d A_hp.1 (z2 + p3) (by omega) (by omega) (by omega) (by omega)) (fun rv hp9 q9 => ?_)
    obtain ⟨⟨z3, rfl, l_z3, u_z3⟩, e9⟩ := q9
    rw [e9]
    show yG _ _ _ _ _ _ _ _ _ _ (yJ z3 :: [yI ((48 * p1) + p1), yR 2083]) _
    refine yG.last A_hp.1 (v_matrix W) (by decide) rfl (by omega) (by omega) ⟨by omega, by omega⟩ (by omega) (by omega) (fun h4 T_h4 b_h4 f_h4 y_h4 => ?_)
    have A_h4 := A_hp.putA T_h4 b_h4 f_h4 (by decide)
    have g11_h4 : ys h4 2073 11 = ys hp 2073 11 := (y_h4 2073 11).trans (if_neg (by omega))
    exact yG.mono (yG.sub (i_32  (ys h4 2073 11) h4 A_h4 rfl (by omega) (by omega) (by omega) (by omega) (by omega) (by omega) (by omega) (by omega) (by omega)) (ySub.cons rfl (ySub.cons rfl (ySub.cons rfl (ySub.cons rfl (ySub.nil)))))) (by omega)
theorem a_keep {hp : xH} (W : yWW G) (d : Nat) (hT : zTy G hp) (p1 : Int) (h1l : (-2147483648) ≤ p1) (h1u : p1 ≤ 2147483647) : yC (xcall 89 xfts xpools xms (d + 2)) 442 [yR 2073, yI (p1)] hp (yQv G [0] [2096, 2097] hp) := by
  have A_hp : yAx G [0] [2096, 2097] hp hp := yAx.rf hT
  have H : ∀ m : Nat, (∀ a2 : Int, ∀ hq, yAx G [0] [2096, 2097] hp hq → 0 ≤ a2 → (-1320) ≤ 0 - a2 → 0 ≤ p1 → (-2) ≤ 0 - p1 → 0 - 2 * a2 + 2641 < (m : Int) → yG 89 xfts (xcall 89 xfts xpools xms (d + 1)) (xpool xp_RX13) [] xt_X13_keep (yP 0 (yQv G [0] [2096, 2097] hp)) (22 * m) 38 [(0, yR 2073), (1, yI (p1)), (2, yI (a2))] [] hq) := by
    intro m
    induction m with
    | zero =>
      intros; exfalso; omega
    | succ m ih =>
      have i_38 := ih
      clear ih
      intro a2 hq A_hq f0 f1 f2 f3 hm
      refine yG.mono (N := 22 * m + 22) ?_ (by omega)
      refine yG.load xik rfl (fun _ _ => rfl) (v := yI (a2)) rfl rfl ?_
      refine yG.num (c := 1320) rfl (fun _ _ => rfl) (by decide) ?_
      refine yG.icmp rfl (t := 69) rfl ⟨by omega, by omega⟩ ⟨by omega, by omega⟩ (fun c1 => ?_) (fun c1 => ?_)
      · have c1 : (a2 : Int) ≥ 1320 := c1
        refine yG.ret rfl (fun _ _ => rfl) ?_
        exact yP.void ⟨rfl, A_hq⟩
      · have c1 : (a2 : Int) < 1320 := c1
        refine yG.load xak rfl (fun _ _ => rfl) (v := yR 2073) rfl rfl ?_
        refine yG.getR A_hq.1 (r_kept W) rfl rfl ?_
        refine yG.num (c := 1320) rfl (fun _ _ => rfl) (by decide) ?_
        refine yG.load xik rfl (fun _ _ => rfl) (v := yI (p1)) rfl rfl ?_
        refine yG.imul rfl ?_
        refine yG.load xik rfl (fun _ _ => rfl) (v := yI (a2)) rfl rfl ?_
        refine yG.iadd rfl ?_
        refine yG.load xak rfl (fun _ _ => rfl) (v := yR 2073) rfl rfl ?_
        refine yG.getR A_hq.1 (r_field W) rfl rfl ?_
        refine yG.load xik rfl (fun _ _ => rfl) (v := yI (a2)) rfl rfl ?_
        refine yG.ialdT A_hq.1 (p_field W) (yhull2 (tf := yfT) (yfT_h _)) rfl (by omega) (by omega) (fun z2 lo_z2 hi_z2 e_z2 i_z2 T_z2 l_z2 u_z2 => ?_)
        obtain ⟨L_z2, U_z2⟩ := yhull (tf := yfT) (yfT_h _) T_z2
        refine yG.iastF A_hq.1 (p_kept W) (show yfT (((1320 * p1) + a2).toNat % 1320) = _ from (congrArg yfT (by omega)).trans T_z2) (by decide) rfl (by omega) (by omega) ⟨by omega, by omega⟩ (by omega) (by omega) (fun h3 T_h3 b_h3 f_h3 y_h3 => ?_)
        have A_h3 := A_hq.putA T_h3 b_h3 f_h3 (by decide)
        refine yG.iinc rfl (a := a2) rfl (L' := [(2, yI (a2 + 1)), (0, yR 2073), (1, yI (p1))]) rfl ?_
        refine yG.goto rfl (t := 38) rfl ?_
        exact yG.mono (yG.sub (i_38 (a2 + 1)  h3 A_h3  (by omega) (by omega) (by omega) (by omega) (by omega)) (ySub.cons rfl (ySub.cons rfl (ySub.cons rfl (ySub.nil))))) (by omega)
  refine yC.of (M := (xt_X13_keep, (3, (0, (14, []))))) rfl rfl (N := 58168) (yfuel (by decide)) ?_
  show yG 89 xfts (xcall 89 xfts xpools xms (d + 1)) (xpool xp_RX13) [] xt_X13_keep (yP 0 (yQv G [0] [2096, 2097] hp)) 58168 0 [(0, yR 2073), (1, yI (p1))] [] hp
  have i_38 := H 2643
  refine yG.load xak rfl (fun _ _ => rfl) (v := yR 2073) rfl rfl ?_
  refine yG.load xik rfl (fun _ _ => rfl) (v := yI (p1)) rfl rfl ?_
  refine yG.i2l rfl ⟨by omega, by omega⟩ ?_
  refine yG.numl (c := 0) rfl (fun _ _ => rfl) (by decide) ?_
  refine yG.numl (c := 2) rfl (fun _ _ => rfl) (by decide) ?_
  refine yG.invS (rest := [yR 2073]) rfl rfl rfl rfl (a_in W d A_hp.1 (p1) (0) (2) (by omega) (by omega) (by omega) (by omega) (by omega) (by omega)) (fun rv hp9 q9 => ?_)
  obtain ⟨⟨z1, rfl, l_z1, u_z1, r_z1⟩, e9⟩ := q9
  rw [e9]
  show yG _ _ _ _ _ _ _ _ _ _ (yI z1 :: [yR 2073]) _
  refine yG.ifz rfl (t := 17) rfl ⟨by omega, by omega⟩ (fun c2 => ?_) (fun c2 => ?_)
  · have c2 : (z1 : Int) = 0 := c2
    refine yG.num (c := 1) rfl (fun _ _ => rfl) (by decide) ?_
    refine yG.putI A_hp.1 (w_thrown W) (by decide) rfl rfl (.inl rfl) ⟨by omega, by omega⟩ (by omega) (by omega) (fun h3 T_h3 b_h3 f_h3 y_h3 => ?_)
    have A_h3 := A_hp.putF T_h3 b_h3 f_h3 (by decide)
    have g0_h3 : ys h3 2073 0 = 1 := (y_h3 2073 0).trans (if_pos ⟨rfl, rfl⟩)
    refine yG.load xak rfl (fun _ _ => rfl) (v := yR 2073) rfl rfl ?_
    refine yG.getI A_h3.1 (w_thrown W) rfl rfl (fun z4 e_z4 i_z4 l_z4 u_z4 => ?_)
    refine yG.ifz rfl (t := 29) rfl ⟨by omega, by omega⟩ (fun c5 => ?_) (fun c5 => ?_)
    · have c5 : (z4 : Int) ≤ 0 := c5
      exfalso; omega
    · have c5 : (z4 : Int) > 0 := c5
      refine yG.ret rfl (fun _ _ => rfl) ?_
      exact yP.void ⟨rfl, A_h3⟩
  · have c2 : (z1 : Int) ≠ 0 := c2
    refine yG.num (c := 0) rfl (fun _ _ => rfl) (by decide) ?_
    refine yG.goto rfl (t := 18) rfl ?_
    refine yG.putI A_hp.1 (w_thrown W) (by decide) rfl rfl (.inl rfl) ⟨by omega, by omega⟩ (by omega) (by omega) (fun h6 T_h6 b_h6 f_h6 y_h6 => ?_)
    have A_h6 := A_hp.putF T_h6 b_h6 f_h6 (by decide)
    have g0_h6 : ys h6 2073 0 = 0 := (y_h6 2073 0).trans (if_pos ⟨rfl, rfl⟩)
    refine yG.load xak rfl (fun _ _ => rfl) (v := yR 2073) rfl rfl ?_
    refine yG.getI A_h6.1 (w_thrown W) rfl rfl (fun z7 e_z7 i_z7 l_z7 u_z7 => ?_)
    refine yG.ifz rfl (t := 29) rfl ⟨by omega, by omega⟩ (fun c8 => ?_) (fun c8 => ?_)
    · have c8 : (z7 : Int) ≤ 0 := c8
      refine yG.load xak rfl (fun _ _ => rfl) (v := yR 2073) rfl rfl ?_
      refine yG.getR A_h6.1 (r_isKept W) rfl rfl ?_
      refine yG.load xik rfl (fun _ _ => rfl) (v := yI (p1)) rfl rfl ?_
      refine yG.num (c := 1) rfl (fun _ _ => rfl) (by decide) ?_
      refine yG.bast A_h6.1 (v_isKept W) (by decide) rfl (by omega) (by omega) ⟨by omega, by omega⟩ (by omega) (by omega) (fun h9 T_h9 b_h9 f_h9 y_h9 => ?_)
      have A_h9 := A_h6.putA T_h9 b_h9 f_h9 (by decide)
      have g0_h9 : ys h9 2073 0 = ys h6 2073 0 := (y_h9 2073 0).trans (if_neg (by omega))
      refine yG.num (c := 0) rfl (fun _ _ => rfl) (by decide) ?_
      refine yG.store1 xik (L' := [(2, yI (0)), (0, yR 2073), (1, yI (p1))]) rfl (fun _ _ => rfl) rfl rfl ?_
      exact yG.mono (yG.sub (i_38 (0)  h9 A_h9  (by omega) (by omega) (by omega) (by omega) (by omega)) (ySub.cons rfl (ySub.cons rfl (ySub.cons rfl (ySub.nil))))) (by omega)
    · have c8 : (z7 : Int) > 0 := c8
      exfalso; omega
theorem a_back {hp : xH} (W : yWW G) (d : Nat) (hT : zTy G hp) (p1 : Int) (h1l : (-2147483648) ≤ p1) (h1u : p1 ≤ 2147483647) : yC (xcall 89 xfts xpools xms (d + 2)) 354 [yR 2073, yI (p1)] hp (yQv G [0, 40, 49, 62, 77, 90, 101] [2089] hp) := by
  have A_hp : yAx G [0, 40, 49, 62, 77, 90, 101] [2089] hp hp := yAx.rf hT
  have H : ∀ m : Nat, (∀ a2 : Int, ∀ hq, yAx G [0, 40, 49, 62, 77, 90, 101] [2089] hp hq → 0 ≤ a2 → (-1320) ≤ 0 - a2 → 0 ≤ p1 → (-2) ≤ 0 - p1 → 0 - 2 * a2 + 2641 < (m : Int) → yG 89 xfts (xcall 89 xfts xpools xms (d + 1)) (xpool xp_RX13) [] xt_X13_back (yP 0 (yQv G [0, 40, 49, 62, 77, 90, 101] [2089] hp)) (21 * m) 44 [(0, yR 2073), (1, yI (p1)), (2, yI (a2))] [] hq) := by
    intro m
    induction m with
    | zero =>
      intros; exfalso; omega
    | succ m ih =>
      have i_44 := ih
      clear ih
      intro a2 hq A_hq f0 f1 f2 f3 hm
      refine yG.mono (N := 21 * m + 21) ?_ (by omega)
      refine yG.load xik rfl (fun _ _ => rfl) (v := yI (a2)) rfl rfl ?_
      refine yG.num (c := 1320) rfl (fun _ _ => rfl) (by decide) ?_
      refine yG.icmp rfl (t := 75) rfl ⟨by omega, by omega⟩ ⟨by omega, by omega⟩ (fun c1 => ?_) (fun c1 => ?_)
      · have c1 : (a2 : Int) ≥ 1320 := c1
        refine yG.load xak rfl (fun _ _ => rfl) (v := yR 2073) rfl rfl ?_
        refine yG.invV (rest := []) A_hq.1 W.m.1 rfl rfl rfl rfl (a_changed W d A_hq.1) (fun rv h3 q9 => ?_)
        obtain ⟨rfl, B_h3⟩ := q9
        have A_h3 := A_hq.tr (B_h3.sub (by decide) (by decide))
        show yG _ _ _ _ _ _ _ _ _ _ [] _
        refine yG.ret rfl (fun _ _ => rfl) ?_
        exact yP.void ⟨rfl, A_h3⟩
      · have c1 : (a2 : Int) < 1320 := c1
        refine yG.load xak rfl (fun _ _ => rfl) (v := yR 2073) rfl rfl ?_
        refine yG.getR A_hq.1 (r_field W) rfl rfl ?_
        refine yG.load xik rfl (fun _ _ => rfl) (v := yI (a2)) rfl rfl ?_
        refine yG.load xak rfl (fun _ _ => rfl) (v := yR 2073) rfl rfl ?_
        refine yG.getR A_hq.1 (r_kept W) rfl rfl ?_
        refine yG.num (c := 1320) rfl (fun _ _ => rfl) (by decide) ?_
        refine yG.load xik rfl (fun _ _ => rfl) (v := yI (p1)) rfl rfl ?_
        refine yG.imul rfl ?_
        refine yG.load xik rfl (fun _ _ => rfl) (v := yI (a2)) rfl rfl ?_
        refine yG.iadd rfl ?_
        refine yG.ialdT A_hq.1 (p_kept W) (yhull2 (tf := yfT) (yfT_h _)) rfl (by omega) (by omega) (fun z4 lo_z4 hi_z4 e_z4 i_z4 T_z4 l_z4 u_z4 => ?_)
        obtain ⟨L_z4, U_z4⟩ := yhull (tf := yfT) (yfT_h _) T_z4
        refine yG.iastF A_hq.1 (p_field W) (show yfT ((a2).toNat) = _ from (congrArg yfT (by omega)).trans T_z4) (by decide) rfl (by omega) (by omega) ⟨by omega, by omega⟩ (by omega) (by omega) (fun h5 T_h5 b_h5 f_h5 y_h5 => ?_)
        have A_h5 := A_hq.putA T_h5 b_h5 f_h5 (by decide)
        refine yG.iinc rfl (a := a2) rfl (L' := [(2, yI (a2 + 1)), (0, yR 2073), (1, yI (p1))]) rfl ?_
        refine yG.goto rfl (t := 44) rfl ?_
        exact yG.mono (yG.sub (i_44 (a2 + 1)  h5 A_h5  (by omega) (by omega) (by omega) (by omega) (by omega)) (ySub.cons rfl (ySub.cons rfl (ySub.cons rfl (ySub.nil))))) (by omega)
  refine yC.of (M := (xt_X13_back, (3, (0, (14, []))))) rfl rfl (N := 55524) (yfuel (by decide)) ?_
  show yG 89 xfts (xcall 89 xfts xpools xms (d + 1)) (xpool xp_RX13) [] xt_X13_back (yP 0 (yQv G [0, 40, 49, 62, 77, 90, 101] [2089] hp)) 55524 0 [(0, yR 2073), (1, yI (p1))] [] hp
  have i_44 := H 2643
  refine yG.load xak rfl (fun _ _ => rfl) (v := yR 2073) rfl rfl ?_
  refine yG.load xik rfl (fun _ _ => rfl) (v := yI (p1)) rfl rfl ?_
  refine yG.i2l rfl ⟨by omega, by omega⟩ ?_
  refine yG.numl (c := 0) rfl (fun _ _ => rfl) (by decide) ?_
  refine yG.numl (c := 2) rfl (fun _ _ => rfl) (by decide) ?_
  refine yG.invS (rest := [yR 2073]) rfl rfl rfl rfl (a_in W d A_hp.1 (p1) (0) (2) (by omega) (by omega) (by omega) (by omega) (by omega) (by omega)) (fun rv hp9 q9 => ?_)
  obtain ⟨⟨z1, rfl, l_z1, u_z1, r_z1⟩, e9⟩ := q9
  rw [e9]
  show yG _ _ _ _ _ _ _ _ _ _ (yI z1 :: [yR 2073]) _
  refine yG.ifz rfl (t := 17) rfl ⟨by omega, by omega⟩ (fun c2 => ?_) (fun c2 => ?_)
  · have c2 : (z1 : Int) ≠ 0 := c2
    refine yG.load xak rfl (fun _ _ => rfl) (v := yR 2073) rfl rfl ?_
    refine yG.getR A_hp.1 (r_isKept W) rfl rfl ?_
    refine yG.load xik rfl (fun _ _ => rfl) (v := yI (p1)) rfl rfl ?_
    refine yG.bald A_hp.1 (v_isKept W) rfl (by omega) (by omega) (fun z3 e_z3 i_z3 l_z3 u_z3 => ?_)
    refine yG.ifz rfl (t := 30) rfl ⟨by omega, by omega⟩ (fun c4 => ?_) (fun c4 => ?_)
    · have c4 : (z3 : Int) ≠ 0 := c4
      refine yG.num (c := 0) rfl (fun _ _ => rfl) (by decide) ?_
      refine yG.putI A_hp.1 (w_thrown W) (by decide) rfl rfl (.inl rfl) ⟨by omega, by omega⟩ (by omega) (by omega) (fun h5 T_h5 b_h5 f_h5 y_h5 => ?_)
      have A_h5 := A_hp.putF T_h5 b_h5 f_h5 (by decide)
      have g0_h5 : ys h5 2073 0 = 0 := (y_h5 2073 0).trans (if_pos ⟨rfl, rfl⟩)
      refine yG.load xak rfl (fun _ _ => rfl) (v := yR 2073) rfl rfl ?_
      refine yG.getI A_h5.1 (w_thrown W) rfl rfl (fun z6 e_z6 i_z6 l_z6 u_z6 => ?_)
      refine yG.ifz rfl (t := 42) rfl ⟨by omega, by omega⟩ (fun c7 => ?_) (fun c7 => ?_)
      · have c7 : (z6 : Int) ≤ 0 := c7
        refine yG.num (c := 0) rfl (fun _ _ => rfl) (by decide) ?_
        refine yG.store1 xik (L' := [(2, yI (0)), (0, yR 2073), (1, yI (p1))]) rfl (fun _ _ => rfl) rfl rfl ?_
        exact yG.mono (yG.sub (i_44 (0)  h5 A_h5  (by omega) (by omega) (by omega) (by omega) (by omega)) (ySub.cons rfl (ySub.cons rfl (ySub.cons rfl (ySub.nil))))) (by omega)
      · have c7 : (z6 : Int) > 0 := c7
        exfalso; omega
    · have c4 : (z3 : Int) = 0 := c4
      refine yG.num (c := 2) rfl (fun _ _ => rfl) (by decide) ?_
      refine yG.goto rfl (t := 31) rfl ?_
      refine yG.putI A_hp.1 (w_thrown W) (by decide) rfl rfl (.inl rfl) ⟨by omega, by omega⟩ (by omega) (by omega) (fun h8 T_h8 b_h8 f_h8 y_h8 => ?_)
      have A_h8 := A_hp.putF T_h8 b_h8 f_h8 (by decide)
      have g0_h8 : ys h8 2073 0 = 2 := (y_h8 2073 0).trans (if_pos ⟨rfl, rfl⟩)
      refine yG.load xak rfl (fun _ _ => rfl) (v := yR 2073) rfl rfl ?_
      refine yG.getI A_h8.1 (w_thrown W) rfl rfl (fun z9 e_z9 i_z9 l_z9 u_z9 => ?_)
      refine yG.ifz rfl (t := 42) rfl ⟨by omega, by omega⟩ (fun c10 => ?_) (fun c10 => ?_)
      · have c10 : (z9 : Int) ≤ 0 := c10
        exfalso; omega
      · have c10 : (z9 : Int) > 0 := c10
        refine yG.ret rfl (fun _ _ => rfl) ?_
        exact yP.void ⟨rfl, A_h8⟩
  · have c2 : (z1 : Int) = 0 := c2
    refine yG.num (c := 1) rfl (fun _ _ => rfl) (by decide) ?_
    refine yG.goto rfl (t := 31) rfl ?_
    refine yG.putI A_hp.1 (w_thrown W) (by decide) rfl rfl (.inl rfl) ⟨by omega, by omega⟩ (by omega) (by omega) (fun h11 T_h11 b_h11 f_h11 y_h11 => ?_)
    have A_h11 := A_hp.putF T_h11 b_h11 f_h11 (by decide)
    have g0_h11 : ys h11 2073 0 = 1 := (y_h11 2073 0).trans (if_pos ⟨rfl, rfl⟩)
    refine yG.load xak rfl (fun _ _ => rfl) (v := yR 2073) rfl rfl ?_
    refine yG.getI A_h11.1 (w_thrown W) rfl rfl (fun z12 e_z12 i_z12 l_z12 u_z12 => ?_)
    refine yG.ifz rfl (t := 42) rfl ⟨by omega, by omega⟩ (fun c13 => ?_) (fun c13 => ?_)
    · have c13 : (z12 : Int) ≤ 0 := c13
      exfalso; omega
    · have c13 : (z12 : Int) > 0 := c13
      refine yG.ret rfl (fun _ _ => rfl) ?_
      exact yP.void ⟨rfl, A_h11⟩
theorem a_find {hp : xH} (W : yWW G) (d : Nat) (hT : zTy G hp) : yC (xcall 89 xfts xpools xms (d + 1)) 402 [yR 2073] hp (yQi G [0, 15] [] hp (-1) 423) := by
  have A_hp : yAx G [0, 15] [] hp hp := yAx.rf hT
  have H : ∀ m : Nat, (∀ a1 a2 : Int, ∀ hq, yAx G [0, 15] [] hp hq → 0 ≤ a1 → (-4000) ≤ 0 - a1 → 0 ≤ a2 → (-5) ≤ 0 - a2 → 0 - 476 * a2 + 2855 < (m : Int) → yG 89 xfts (xcall 89 xfts xpools xms d) (xpool xp_RX13) [] xt_X13_find (yP 1 (yQi G [0, 15] [] hp (-1) 423)) (29 * m) 17 [(0, yR 2073), (1, yI (a1)), (2, yI (a2))] [] hq) ∧ (∀ a1 a2 a3 : Int, ∀ hq, yAx G [0, 15] [] hp hq → 0 ≤ a1 → (-4000) ≤ 0 - a1 → 0 ≤ a2 → (-4) ≤ 0 - a2 → 0 ≤ a3 → (-24) ≤ 0 - a3 → 0 - 476 * a2 - 19 * a3 + 2854 < (m : Int) → yG 89 xfts (xcall 89 xfts xpools xms d) (xpool xp_RX13) [] xt_X13_find (yP 1 (yQi G [0, 15] [] hp (-1) 423)) (29 * m) 24 [(0, yR 2073), (1, yI (a1)), (2, yI (a2)), (3, yI (a3))] [] hq) ∧ (∀ a1 a2 a3 a4 a5 : Int, ∀ hq, yAx G [0, 15] [] hp hq → 0 ≤ a1 → (-4000) ≤ 0 - a1 → 0 ≤ a2 → (-4) ≤ 0 - a2 → 0 ≤ a3 → (-23) ≤ 0 - a3 → 0 ≤ a4 → (-1) ≤ 0 - a4 → 0 ≤ a5 → (-8) ≤ 0 - a5 → 0 ≤ a1 - a5 → (-4000) ≤ 0 - a1 - 3992 * a4 → 0 - 476 * a2 - 19 * a3 - 2 * a5 + 2853 < (m : Int) → yG 89 xfts (xcall 89 xfts xpools xms d) (xpool xp_RX13) [] xt_X13_find (yP 1 (yQi G [0, 15] [] hp (-1) 423)) (29 * m) 59 [(0, yR 2073), (1, yI (a1)), (2, yI (a2)), (3, yI (a3)), (4, yI (a4)), (5, yI (a5))] [] hq) := by
    intro m
    induction m with
    | zero =>
      refine ⟨?_, ?_, ?_⟩ <;> (intros; exfalso; omega)
    | succ m ih =>
      obtain ⟨i_17, i_24, i_59⟩ := ih
      refine ⟨?_, ?_, ?_⟩
      · intro a1 a2 hq A_hq f0 f1 f2 f3 hm
        refine yG.mono (N := 29 * m + 29) ?_ (by omega)
        refine yG.load xik rfl (fun _ _ => rfl) (v := yI (a2)) rfl rfl ?_
        refine yG.num (c := 5) rfl (fun _ _ => rfl) (by decide) ?_
        refine yG.icmp rfl (t := 134) rfl ⟨by omega, by omega⟩ ⟨by omega, by omega⟩ (fun c1 => ?_) (fun c1 => ?_)
        · have c1 : (a2 : Int) ≥ 5 := c1
          refine yG.num (c := -1) rfl (fun _ _ => rfl) (by decide) ?_
          refine yG.ret rfl (fun _ _ => rfl) ?_
          exact yP.int ⟨by omega, by omega⟩ ⟨⟨(-1), rfl, by omega, by omega⟩, A_hq⟩
        · have c1 : (a2 : Int) < 5 := c1
          refine yG.num (c := 0) rfl (fun _ _ => rfl) (by decide) ?_
          refine yG.store1 xik (L' := [(3, yI (0)), (0, yR 2073), (1, yI (a1)), (2, yI (a2))]) rfl (fun _ _ => rfl) rfl rfl ?_
          exact yG.mono (yG.sub (i_24 (a1) (a2) (0)  hq A_hq  (by omega) (by omega) (by omega) (by omega) (by omega) (by omega) (by omega)) (ySub.cons rfl (ySub.cons rfl (ySub.cons rfl (ySub.cons rfl (ySub.nil)))))) (by omega)
      · intro a1 a2 a3 hq A_hq f0 f1 f2 f3 f4 f5 hm
        refine yG.mono (N := 29 * m + 29) ?_ (by omega)
        refine yG.load xik rfl (fun _ _ => rfl) (v := yI (a3)) rfl rfl ?_
        refine yG.load xak rfl (fun _ _ => rfl) (v := yR 2073) rfl rfl ?_
        refine yG.getR A_hq.1 (r_count W) rfl rfl ?_
        refine yG.load xik rfl (fun _ _ => rfl) (v := yI (a2)) rfl rfl ?_
        refine yG.ialdT A_hq.1 (p_count W) (yhull2 (tf := ycT) (ycT_h _)) rfl (by omega) (by omega) (fun z1 lo_z1 hi_z1 e_z1 i_z1 T_z1 l_z1 u_z1 => ?_)
        obtain ⟨L_z1, U_z1⟩ := yhull (tf := ycT) (ycT_h _) T_z1
        refine yG.icmp rfl (t := 128) rfl ⟨by omega, by omega⟩ ⟨by omega, by omega⟩ (fun c2 => ?_) (fun c2 => ?_)
        · have c2 : (a3 : Int) ≥ z1 := c2
          refine yG.iinc rfl (a := a2) rfl (L' := [(2, yI (a2 + 1)), (0, yR 2073), (1, yI (a1)), (3, yI (a3))]) rfl ?_
          refine yG.goto rfl (t := 17) rfl ?_
          exact yG.mono (yG.sub (i_17 (a1) (a2 + 1)  hq A_hq  (by omega) (by omega) (by omega) (by omega) (by omega)) (ySub.cons rfl (ySub.cons rfl (ySub.cons rfl (ySub.nil))))) (by omega)
        · have c2 : (a3 : Int) < z1 := c2
          refine yG.load xak rfl (fun _ _ => rfl) (v := yR 2073) rfl rfl ?_
          refine yG.getR A_hq.1 (r_nameSize W) rfl rfl ?_
          refine yG.num (c := 24) rfl (fun _ _ => rfl) (by decide) ?_
          refine yG.load xik rfl (fun _ _ => rfl) (v := yI (a2)) rfl rfl ?_
          refine yG.imul rfl ?_
          refine yG.load xik rfl (fun _ _ => rfl) (v := yI (a3)) rfl rfl ?_
          refine yG.iadd rfl ?_
          refine yG.iald A_hq.1 (v_nameSize W) rfl (by omega) (by omega) (fun z3 e_z3 i_z3 l_z3 u_z3 => ?_)
          refine yG.load xik rfl (fun _ _ => rfl) (v := yI (a1)) rfl rfl ?_
          refine yG.icmp rfl (t := 53) rfl ⟨by omega, by omega⟩ ⟨by omega, by omega⟩ (fun c4 => ?_) (fun c4 => ?_)
          · have c4 : (z3 : Int) ≠ a1 := c4
            refine yG.num (c := 0) rfl (fun _ _ => rfl) (by decide) ?_
            refine yG.store1 xik (L' := [(4, yI (0)), (0, yR 2073), (1, yI (a1)), (2, yI (a2)), (3, yI (a3))]) rfl (fun _ _ => rfl) rfl rfl ?_
            refine yG.num (c := 0) rfl (fun _ _ => rfl) (by decide) ?_
            refine yG.store1 xik (L' := [(5, yI (0)), (4, yI (0)), (0, yR 2073), (1, yI (a1)), (2, yI (a2)), (3, yI (a3))]) rfl (fun _ _ => rfl) rfl rfl ?_
            exact yG.mono (yG.sub (i_59 (a1) (a2) (a3) (0) (0)  hq A_hq  (by omega) (by omega) (by omega) (by omega) (by omega) (by omega) (by omega) (by omega) (by omega) (by omega) (by omega) (by omega) (by omega)) (ySub.cons rfl (ySub.cons rfl (ySub.cons rfl (ySub.cons rfl (ySub.cons rfl (ySub.cons rfl (ySub.nil)))))))) (by omega)
          · have c4 : (z3 : Int) = a1 := c4
            refine yG.num (c := 1) rfl (fun _ _ => rfl) (by decide) ?_
            refine yG.goto rfl (t := 54) rfl ?_
            refine yG.store1 xik (L' := [(4, yI (1)), (0, yR 2073), (1, yI (a1)), (2, yI (a2)), (3, yI (a3))]) rfl (fun _ _ => rfl) rfl rfl ?_
            refine yG.num (c := 0) rfl (fun _ _ => rfl) (by decide) ?_
            refine yG.store1 xik (L' := [(5, yI (0)), (4, yI (1)), (0, yR 2073), (1, yI (a1)), (2, yI (a2)), (3, yI (a3))]) rfl (fun _ _ => rfl) rfl rfl ?_
            exact yG.mono (yG.sub (i_59 (a1) (a2) (a3) (1) (0)  hq A_hq  (by omega) (by omega) (by omega) (by omega) (by omega) (by omega) (by omega) (by omega) (by omega) (by omega) (by omega) (by omega) (by omega)) (ySub.cons rfl (ySub.cons rfl (ySub.cons rfl (ySub.cons rfl (ySub.cons rfl (ySub.cons rfl (ySub.nil)))))))) (by omega)
      · intro a1 a2 a3 a4 a5 hq A_hq f0 f1 f2 f3 f4 f5 f6 f7 f8 f9 f10 f11 hm
        refine yG.mono (N := 29 * m + 29) ?_ (by omega)
        refine yG.load xik rfl (fun _ _ => rfl) (v := yI (a4)) rfl rfl ?_
        refine yG.ifz rfl (t := 110) rfl ⟨by omega, by omega⟩ (fun c1 => ?_) (fun c1 => ?_)
        · have c1 : (a4 : Int) = 0 := c1
          refine yG.load xik rfl (fun _ _ => rfl) (v := yI (a4)) rfl rfl ?_
          refine yG.ifz rfl (t := 122) rfl ⟨by omega, by omega⟩ (fun c2 => ?_) (fun c2 => ?_)
          · have c2 : (a4 : Int) = 0 := c2
            refine yG.iinc rfl (a := a3) rfl (L' := [(3, yI (a3 + 1)), (0, yR 2073), (1, yI (a1)), (2, yI (a2)), (4, yI (a4)), (5, yI (a5))]) rfl ?_
            refine yG.goto rfl (t := 24) rfl ?_
            exact yG.mono (yG.sub (i_24 (a1) (a2) (a3 + 1)  hq A_hq  (by omega) (by omega) (by omega) (by omega) (by omega) (by omega) (by omega)) (ySub.cons rfl (ySub.cons rfl (ySub.cons rfl (ySub.cons rfl (ySub.nil)))))) (by omega)
          · have c2 : (a4 : Int) ≠ 0 := c2
            exfalso; omega
        · have c1 : (a4 : Int) ≠ 0 := c1
          refine yG.load xik rfl (fun _ _ => rfl) (v := yI (a5)) rfl rfl ?_
          refine yG.load xik rfl (fun _ _ => rfl) (v := yI (a1)) rfl rfl ?_
          refine yG.icmp rfl (t := 110) rfl ⟨by omega, by omega⟩ ⟨by omega, by omega⟩ (fun c3 => ?_) (fun c3 => ?_)
          · have c3 : (a5 : Int) ≥ a1 := c3
            refine yG.load xik rfl (fun _ _ => rfl) (v := yI (a4)) rfl rfl ?_
            refine yG.ifz rfl (t := 122) rfl ⟨by omega, by omega⟩ (fun c4 => ?_) (fun c4 => ?_)
            · have c4 : (a4 : Int) = 0 := c4
              exfalso; omega
            · have c4 : (a4 : Int) ≠ 0 := c4
              refine yG.num (c := 100) rfl (fun _ _ => rfl) (by decide) ?_
              refine yG.load xik rfl (fun _ _ => rfl) (v := yI (a2)) rfl rfl ?_
              refine yG.imul rfl ?_
              refine yG.load xik rfl (fun _ _ => rfl) (v := yI (a3)) rfl rfl ?_
              refine yG.iadd rfl ?_
              refine yG.ret rfl (fun _ _ => rfl) ?_
              exact yP.int ⟨by omega, by omega⟩ ⟨⟨(100 * a2) + a3, rfl, by omega, by omega⟩, A_hq⟩
          · have c3 : (a5 : Int) < a1 := c3
            refine yG.load xak rfl (fun _ _ => rfl) (v := yR 2073) rfl rfl ?_
            refine yG.getR A_hq.1 (r_name W) rfl rfl ?_
            refine yG.num (c := 8) rfl (fun _ _ => rfl) (by decide) ?_
            refine yG.num (c := 24) rfl (fun _ _ => rfl) (by decide) ?_
            refine yG.load xik rfl (fun _ _ => rfl) (v := yI (a2)) rfl rfl ?_
            refine yG.imul rfl ?_
            refine yG.load xik rfl (fun _ _ => rfl) (v := yI (a3)) rfl rfl ?_
            refine yG.iadd rfl ?_
            refine yG.imul rfl ?_
            refine yG.load xik rfl (fun _ _ => rfl) (v := yI (a5)) rfl rfl ?_
            refine yG.iadd rfl ?_
            refine yG.iald A_hq.1 (v_name W) rfl (by omega) (by omega) (fun z5 e_z5 i_z5 l_z5 u_z5 => ?_)
            refine yG.load xak rfl (fun _ _ => rfl) (v := yR 2073) rfl rfl ?_
            refine yG.getR A_hq.1 (r_tape W) rfl rfl ?_
            refine yG.load xik rfl (fun _ _ => rfl) (v := yI (a5)) rfl rfl ?_
            refine yG.iald A_hq.1 (v_tape W) rfl (by omega) (by omega) (fun z6 e_z6 i_z6 l_z6 u_z6 => ?_)
            refine yG.icmp rfl (t := 101) rfl ⟨by omega, by omega⟩ ⟨by omega, by omega⟩ (fun c7 => ?_) (fun c7 => ?_)
            · have c7 : (z5 : Int) ≠ z6 := c7
              refine yG.num (c := 0) rfl (fun _ _ => rfl) (by decide) ?_
              refine yG.store1 xik (L' := [(4, yI (0)), (0, yR 2073), (1, yI (a1)), (2, yI (a2)), (3, yI (a3)), (5, yI (a5))]) rfl (fun _ _ => rfl) rfl rfl ?_
              refine yG.iinc rfl (a := a5) rfl (L' := [(5, yI (a5 + 1)), (4, yI (0)), (0, yR 2073), (1, yI (a1)), (2, yI (a2)), (3, yI (a3))]) rfl ?_
              refine yG.goto rfl (t := 59) rfl ?_
              exact yG.mono (yG.sub (i_59 (a1) (a2) (a3) (0) (a5 + 1)  hq A_hq  (by omega) (by omega) (by omega) (by omega) (by omega) (by omega) (by omega) (by omega) (by omega) (by omega) (by omega) (by omega) (by omega)) (ySub.cons rfl (ySub.cons rfl (ySub.cons rfl (ySub.cons rfl (ySub.cons rfl (ySub.cons rfl (ySub.nil)))))))) (by omega)
            · have c7 : (z5 : Int) = z6 := c7
              refine yG.num (c := 1) rfl (fun _ _ => rfl) (by decide) ?_
              refine yG.goto rfl (t := 102) rfl ?_
              refine yG.store1 xik (L' := [(4, yI (1)), (0, yR 2073), (1, yI (a1)), (2, yI (a2)), (3, yI (a3)), (5, yI (a5))]) rfl (fun _ _ => rfl) rfl rfl ?_
              refine yG.iinc rfl (a := a5) rfl (L' := [(5, yI (a5 + 1)), (4, yI (1)), (0, yR 2073), (1, yI (a1)), (2, yI (a2)), (3, yI (a3))]) rfl ?_
              refine yG.goto rfl (t := 59) rfl ?_
              exact yG.mono (yG.sub (i_59 (a1) (a2) (a3) (1) (a5 + 1)  hq A_hq  (by omega) (by omega) (by omega) (by omega) (by omega) (by omega) (by omega) (by omega) (by omega) (by omega) (by omega) (by omega) (by omega)) (ySub.cons rfl (ySub.cons rfl (ySub.cons rfl (ySub.cons rfl (ySub.cons rfl (ySub.cons rfl (ySub.nil)))))))) (by omega)
  refine yC.of (M := (xt_X13_find, (6, (1, (14, []))))) rfl rfl (N := 82882) (yfuel (by decide)) ?_
  show yG 89 xfts (xcall 89 xfts xpools xms d) (xpool xp_RX13) [] xt_X13_find (yP 1 (yQi G [0, 15] [] hp (-1) 423)) 82882 0 [(0, yR 2073)] [] hp
  obtain ⟨i_17, i_24, i_59⟩ := H 2857
  refine yG.load xak rfl (fun _ _ => rfl) (v := yR 2073) rfl rfl ?_
  refine yG.num (c := 0) rfl (fun _ _ => rfl) (by decide) ?_
  refine yG.putI A_hp.1 (w_thrown W) (by decide) rfl rfl (.inl rfl) ⟨by omega, by omega⟩ (by omega) (by omega) (fun h1 T_h1 b_h1 f_h1 y_h1 => ?_)
  have A_h1 := A_hp.putF T_h1 b_h1 f_h1 (by decide)
  have g0_h1 : ys h1 2073 0 = 0 := (y_h1 2073 0).trans (if_pos ⟨rfl, rfl⟩)
  refine yG.load xak rfl (fun _ _ => rfl) (v := yR 2073) rfl rfl ?_
  refine yG.getI A_h1.1 (w_taped W) rfl rfl (fun z2 e_z2 i_z2 l_z2 u_z2 => ?_)
  refine yG.store1 xik (L' := [(1, yI (z2)), (0, yR 2073)]) rfl (fun _ _ => rfl) rfl rfl ?_
  refine yG.load xak rfl (fun _ _ => rfl) (v := yR 2073) rfl rfl ?_
  refine yG.num (c := 0) rfl (fun _ _ => rfl) (by decide) ?_
  refine yG.putI A_h1.1 (w_taped W) (by decide) rfl rfl (.inl rfl) ⟨by omega, by omega⟩ (by omega) (by omega) (fun h3 T_h3 b_h3 f_h3 y_h3 => ?_)
  have A_h3 := A_h1.putF T_h3 b_h3 f_h3 (by decide)
  have g0_h3 : ys h3 2073 0 = ys h1 2073 0 := (y_h3 2073 0).trans (if_neg (by omega))
  have g15_h3 : ys h3 2073 15 = 0 := (y_h3 2073 15).trans (if_pos ⟨rfl, rfl⟩)
  refine yG.num (c := 0) rfl (fun _ _ => rfl) (by decide) ?_
  refine yG.store1 xik (L' := [(2, yI (0)), (1, yI (z2)), (0, yR 2073)]) rfl (fun _ _ => rfl) rfl rfl ?_
  exact yG.mono (yG.sub (i_17 (z2) (0)  h3 A_h3  (by omega) (by omega) (by omega) (by omega) (by omega)) (ySub.cons rfl (ySub.cons rfl (ySub.cons rfl (ySub.nil))))) (by omega)
theorem a_name {hp : xH} (W : yWW G) (d : Nat) (hT : zTy G hp) (p1 p2 p3 : Int) (h1l : (-2147483648) ≤ p1) (h1u : p1 ≤ 2147483647) (h2l : (-2147483648) ≤ p2) (h2u : p2 ≤ 2147483647) (h3l : (-2147483648) ≤ p3) (h3u : p3 ≤ 2147483647) : yC (xcall 89 xfts xpools xms (d + 3)) 459 [yR 2073, yI (p1), yI (p2), yI (p3)] hp (yQi G [0] [] hp (-1) 255) := by
  have A_hp : yAx G [0] [] hp hp := yAx.rf hT
  refine yC.of (M := (xt_X13_name, (4, (1, (14, []))))) rfl rfl (N := 120) (yfuel (by decide)) ?_
  show yG 89 xfts (xcall 89 xfts xpools xms (d + 2)) (xpool xp_RX13) [] xt_X13_name (yP 1 (yQi G [0] [] hp (-1) 255)) 120 0 [(0, yR 2073), (1, yI (p1)), (2, yI (p2)), (3, yI (p3))] [] hp
  refine yG.load xak rfl (fun _ _ => rfl) (v := yR 2073) rfl rfl ?_
  refine yG.num (c := 0) rfl (fun _ _ => rfl) (by decide) ?_
  refine yG.putI A_hp.1 (w_thrown W) (by decide) rfl rfl (.inl rfl) ⟨by omega, by omega⟩ (by omega) (by omega) (fun h1 T_h1 b_h1 f_h1 y_h1 => ?_)
  have A_h1 := A_hp.putF T_h1 b_h1 f_h1 (by decide)
  have g0_h1 : ys h1 2073 0 = 0 := (y_h1 2073 0).trans (if_pos ⟨rfl, rfl⟩)
  refine yG.load xak rfl (fun _ _ => rfl) (v := yR 2073) rfl rfl ?_
  refine yG.load xik rfl (fun _ _ => rfl) (v := yI (p1)) rfl rfl ?_
  refine yG.load xik rfl (fun _ _ => rfl) (v := yI (p2)) rfl rfl ?_
  refine yG.invV (rest := []) A_h1.1 W.m.1 rfl rfl rfl rfl (a_isObject W d A_h1.1 (p1) (p2) (by omega) (by omega) (by omega) (by omega)) (fun rv hp9 q9 => ?_)
  obtain ⟨⟨z2, rfl, l_z2, u_z2, r_z2⟩, e9⟩ := q9
  rw [e9]
  show yG _ _ _ _ _ _ _ _ _ _ (yI z2 :: []) _
  refine yG.ifz rfl (t := 56) rfl ⟨by omega, by omega⟩ (fun c3 => ?_) (fun c3 => ?_)
  · have c3 : (z2 : Int) = 0 := c3
    refine yG.num (c := -1) rfl (fun _ _ => rfl) (by decide) ?_
    refine yG.ret rfl (fun _ _ => rfl) ?_
    exact yP.int ⟨by omega, by omega⟩ ⟨⟨(-1), rfl, by omega, by omega⟩, A_h1⟩
  · have c3 : (z2 : Int) ≠ 0 := c3
    refine yG.load xik rfl (fun _ _ => rfl) (v := yI (p3)) rfl rfl ?_
    refine yG.i2l rfl ⟨by omega, by omega⟩ ?_
    refine yG.numl (c := 0) rfl (fun _ _ => rfl) (by decide) ?_
    refine yG.load xak rfl (fun _ _ => rfl) (v := yR 2073) rfl rfl ?_
    refine yG.getR A_h1.1 (r_nameSize W) rfl rfl ?_
    refine yG.num (c := 24) rfl (fun _ _ => rfl) (by decide) ?_
    refine yG.load xik rfl (fun _ _ => rfl) (v := yI (p1)) rfl rfl ?_
    refine yG.imul rfl ?_
    refine yG.load xik rfl (fun _ _ => rfl) (v := yI (p2)) rfl rfl ?_
    refine yG.iadd rfl ?_
    refine yG.iald A_h1.1 (v_nameSize W) rfl (by omega) (by omega) (fun z4 e_z4 i_z4 l_z4 u_z4 => ?_)
    refine yG.num (c := 1) rfl (fun _ _ => rfl) (by decide) ?_
    refine yG.isub rfl ?_
    refine yG.i2l rfl ⟨by omega, by omega⟩ ?_
    refine yG.invS (rest := []) rfl rfl rfl rfl (a_in W (d + 1) A_h1.1 (p3) (0) (z4 - 1) (by omega) (by omega) (by omega) (by omega) (by omega) (by omega)) (fun rv hp9 q9 => ?_)
    obtain ⟨⟨z5, rfl, l_z5, u_z5, r_z5⟩, e9⟩ := q9
    rw [e9]
    show yG _ _ _ _ _ _ _ _ _ _ (yI z5 :: []) _
    refine yG.ifz rfl (t := 56) rfl ⟨by omega, by omega⟩ (fun c6 => ?_) (fun c6 => ?_)
    · have c6 : (z5 : Int) = 0 := c6
      refine yG.num (c := -1) rfl (fun _ _ => rfl) (by decide) ?_
      refine yG.ret rfl (fun _ _ => rfl) ?_
      exact yP.int ⟨by omega, by omega⟩ ⟨⟨(-1), rfl, by omega, by omega⟩, A_h1⟩
    · have c6 : (z5 : Int) ≠ 0 := c6
      refine yG.load xak rfl (fun _ _ => rfl) (v := yR 2073) rfl rfl ?_
      refine yG.getR A_h1.1 (r_name W) rfl rfl ?_
      refine yG.num (c := 8) rfl (fun _ _ => rfl) (by decide) ?_
      refine yG.num (c := 24) rfl (fun _ _ => rfl) (by decide) ?_
      refine yG.load xik rfl (fun _ _ => rfl) (v := yI (p1)) rfl rfl ?_
      refine yG.imul rfl ?_
      refine yG.load xik rfl (fun _ _ => rfl) (v := yI (p2)) rfl rfl ?_
      refine yG.iadd rfl ?_
      refine yG.imul rfl ?_
      refine yG.load xik rfl (fun _ _ => rfl) (v := yI (p3)) rfl rfl ?_
      refine yG.iadd rfl ?_
      refine yG.iald A_h1.1 (v_name W) rfl (by omega) (by omega) (fun z7 e_z7 i_z7 l_z7 u_z7 => ?_)
      refine yG.goto rfl (t := 57) rfl ?_
      refine yG.ret rfl (fun _ _ => rfl) ?_
      exact yP.int ⟨by omega, by omega⟩ ⟨⟨z7, rfl, by omega, by omega⟩, A_h1⟩
theorem a_feed {hp : xH} (W : yWW G) (d : Nat) (hT : zTy G hp) (p1 p2 p3 p4 p5 : Int) (h1l : (-2147483648) ≤ p1) (h1u : p1 ≤ 2147483647) (h2l : (-2147483648) ≤ p2) (h2u : p2 ≤ 2147483647) (h3l : (-2147483648) ≤ p3) (h3u : p3 ≤ 2147483647) (h4l : (-2147483648) ≤ p4) (h4u : p4 ≤ 2147483647) (h5l : (-2147483648) ≤ p5) (h5u : p5 ≤ 2147483647) : yC (xcall 89 xfts xpools xms (d + 1)) 397 [yR 2073, yI (p1), yI (p2), yI (p3), yI (p4), yI (p5)] hp (yQi G [0, 15] [2085] hp 0 4000) := by
  have A_hp : yAx G [0, 15] [2085] hp hp := yAx.rf hT
  have H : ∀ m : Nat, (∀ a6 gg15 : Int, ∀ hq, yAx G [0, 15] [2085] hp hq → ys hq 2073 15 = gg15 → 0 ≤ a6 → (-20) ≤ 0 - a6 → 0 ≤ gg15 → (-4000) ≤ 0 - gg15 → (-2147483648) ≤ p1 → (-2147483647) ≤ 0 - p1 → (-2147483648) ≤ p2 → (-2147483647) ≤ 0 - p2 → (-2147483648) ≤ p3 → (-2147483647) ≤ 0 - p3 → (-2147483648) ≤ p4 → (-2147483647) ≤ 0 - p4 → (-2147483648) ≤ p5 → (-2147483647) ≤ 0 - p5 → (-3980) ≤ a6 - gg15 → 0 ≤ 0 - a6 + gg15 → 0 - 2 * a6 + 41 < (m : Int) → yG 89 xfts (xcall 89 xfts xpools xms d) (xpool xp_RX13) [] xt_X13_feed (yP 1 (yQi G [0, 15] [2085] hp 0 4000)) (44 * m) 34 [(0, yR 2073), (1, yI (p1)), (2, yI (p2)), (3, yI (p3)), (4, yI (p4)), (5, yI (p5)), (6, yI (a6))] [] hq) := by
    intro m
    induction m with
    | zero =>
      intros; exfalso; omega
    | succ m ih =>
      have i_34 := ih
      clear ih
      intro a6 gg15 hq A_hq E_15 f0 f1 f2 f3 f4 f5 f6 f7 f8 f9 f10 f11 f12 f13 f14 f15 hm
      refine yG.mono (N := 44 * m + 44) ?_ (by omega)
      refine yG.load xik rfl (fun _ _ => rfl) (v := yI (a6)) rfl rfl ?_
      refine yG.num (c := 20) rfl (fun _ _ => rfl) (by decide) ?_
      refine yG.icmp rfl (t := 131) rfl ⟨by omega, by omega⟩ ⟨by omega, by omega⟩ (fun c1 => ?_) (fun c1 => ?_)
      · have c1 : (a6 : Int) ≥ 20 := c1
        refine yG.load xak rfl (fun _ _ => rfl) (v := yR 2073) rfl rfl ?_
        refine yG.getI A_hq.1 (w_taped W) rfl rfl (fun z2 e_z2 i_z2 l_z2 u_z2 => ?_)
        refine yG.ret rfl (fun _ _ => rfl) ?_
        exact yP.int ⟨by omega, by omega⟩ ⟨⟨z2, rfl, by omega, by omega⟩, A_hq⟩
      · have c1 : (a6 : Int) < 20 := c1
        refine yG.load xik rfl (fun _ _ => rfl) (v := yI (a6)) rfl rfl ?_
        refine yG.num (c := 4) rfl (fun _ _ => rfl) (by decide) ?_
        refine yG.icmp rfl (t := 51) rfl ⟨by omega, by omega⟩ ⟨by omega, by omega⟩ (fun c3 => ?_) (fun c3 => ?_)
        · have c3 : (a6 : Int) ≥ 4 := c3
          refine yG.load xik rfl (fun _ _ => rfl) (v := yI (a6)) rfl rfl ?_
          refine yG.num (c := 8) rfl (fun _ _ => rfl) (by decide) ?_
          refine yG.icmp rfl (t := 62) rfl ⟨by omega, by omega⟩ ⟨by omega, by omega⟩ (fun c4 => ?_) (fun c4 => ?_)
          · have c4 : (a6 : Int) ≥ 8 := c4
            refine yG.load xik rfl (fun _ _ => rfl) (v := yI (a6)) rfl rfl ?_
            refine yG.num (c := 12) rfl (fun _ _ => rfl) (by decide) ?_
            refine yG.icmp rfl (t := 73) rfl ⟨by omega, by omega⟩ ⟨by omega, by omega⟩ (fun c5 => ?_) (fun c5 => ?_)
            · have c5 : (a6 : Int) ≥ 12 := c5
              refine yG.load xik rfl (fun _ _ => rfl) (v := yI (a6)) rfl rfl ?_
              refine yG.num (c := 16) rfl (fun _ _ => rfl) (by decide) ?_
              refine yG.icmp rfl (t := 85) rfl ⟨by omega, by omega⟩ ⟨by omega, by omega⟩ (fun c6 => ?_) (fun c6 => ?_)
              · have c6 : (a6 : Int) ≥ 16 := c6
                refine yG.load xik rfl (fun _ _ => rfl) (v := yI (p5)) rfl rfl ?_
                refine yG.store1 xik (L' := [(7, yI (p5)), (0, yR 2073), (1, yI (p1)), (2, yI (p2)), (3, yI (p3)), (4, yI (p4)), (5, yI (p5)), (6, yI (a6))]) rfl (fun _ _ => rfl) rfl rfl ?_
                refine yG.load xak rfl (fun _ _ => rfl) (v := yR 2073) rfl rfl ?_
                refine yG.getR A_hq.1 (r_tape W) rfl rfl ?_
                refine yG.load xak rfl (fun _ _ => rfl) (v := yR 2073) rfl rfl ?_
                refine yG.getI A_hq.1 (w_taped W) rfl rfl (fun z7 e_z7 i_z7 l_z7 u_z7 => ?_)
                refine yG.load xik rfl (fun _ _ => rfl) (v := yI (p5)) rfl rfl ?_
                refine yG.num (c := 24) rfl (fun _ _ => rfl) (by decide) ?_
                refine yG.num (c := 8) rfl (fun _ _ => rfl) (by decide) ?_
                refine yG.load xik rfl (fun _ _ => rfl) (v := yI (a6)) rfl rfl ?_
                refine yG.num (c := 4) rfl (fun _ _ => rfl) (by decide) ?_
                refine yG.irem rfl ⟨by omega, by omega⟩ ⟨by omega, by omega⟩ (by omega) (by omega) ?_
                obtain ⟨z8, e_z8⟩ : ∃ z : Int, z = (a6) % (4) := ⟨_, rfl⟩
                rw [← e_z8]
                refine yG.imul rfl ?_
                refine yG.isub rfl ?_
                refine yG.bit32 rfl (fun _ _ => rfl) (fun z9 e_z9 l_z9 u_z9 => ?_)
                refine yG.num (c := 255) rfl (fun _ _ => rfl) (by decide) ?_
                refine yG.bit32 rfl (fun _ _ => rfl) (fun z10 e_z10 l_z10 u_z10 => ?_)
                have b_z10 : 0 ≤ z10 ∧ z10 ≤ 255 := by rw [e_z10]; exact yiand ⟨by decide, by decide⟩ (by decide)
                refine yG.iast A_hq.1 (v_tape W) (by decide) rfl (by omega) (by omega) ⟨by omega, by omega⟩ (by omega) (by omega) (fun h11 T_h11 b_h11 f_h11 y_h11 => ?_)
                have A_h11 := A_hq.putA T_h11 b_h11 f_h11 (by decide)
                have g15_h11 : ys h11 2073 15 = ys hq 2073 15 := (y_h11 2073 15).trans (if_neg (by omega))
                refine yG.load xak rfl (fun _ _ => rfl) (v := yR 2073) rfl rfl ?_
                refine yG.step (pc' := 117) (stk' := [yR 2073, yR 2073]) rfl (fun _ _ => rfl) ?_
                refine yG.getI A_h11.1 (w_taped W) rfl rfl (fun z12 e_z12 i_z12 l_z12 u_z12 => ?_)
                refine yG.num (c := 1) rfl (fun _ _ => rfl) (by decide) ?_
                refine yG.iadd rfl ?_
                refine yG.putI A_h11.1 (w_taped W) (by decide) rfl rfl (.inl rfl) ⟨by omega, by omega⟩ (by omega) (by omega) (fun h13 T_h13 b_h13 f_h13 y_h13 => ?_)
                have A_h13 := A_h11.putF T_h13 b_h13 f_h13 (by decide)
                have g15_h13 : ys h13 2073 15 = z12 + 1 := (y_h13 2073 15).trans (if_pos ⟨rfl, rfl⟩)
                refine yG.iinc rfl (a := a6) rfl (L' := [(6, yI (a6 + 1)), (7, yI (p5)), (0, yR 2073), (1, yI (p1)), (2, yI (p2)), (3, yI (p3)), (4, yI (p4)), (5, yI (p5))]) rfl ?_
                refine yG.goto rfl (t := 34) rfl ?_
                exact yG.mono (yG.sub (i_34 (a6 + 1) (ys h13 2073 15) h13 A_h13 rfl (by omega) (by omega) (by omega) (by omega) (by omega) (by omega) (by omega) (by omega) (by omega) (by omega) (by omega) (by omega) (by omega) (by omega) (by omega) (by omega) (by omega)) (ySub.cons rfl (ySub.cons rfl (ySub.cons rfl (ySub.cons rfl (ySub.cons rfl (ySub.cons rfl (ySub.cons rfl (ySub.nil))))))))) (by omega)
              · have c6 : (a6 : Int) < 16 := c6
                refine yG.load xik rfl (fun _ _ => rfl) (v := yI (p4)) rfl rfl ?_
                refine yG.goto rfl (t := 87) rfl ?_
                refine yG.store1 xik (L' := [(7, yI (p4)), (0, yR 2073), (1, yI (p1)), (2, yI (p2)), (3, yI (p3)), (4, yI (p4)), (5, yI (p5)), (6, yI (a6))]) rfl (fun _ _ => rfl) rfl rfl ?_
                refine yG.load xak rfl (fun _ _ => rfl) (v := yR 2073) rfl rfl ?_
                refine yG.getR A_hq.1 (r_tape W) rfl rfl ?_
                refine yG.load xak rfl (fun _ _ => rfl) (v := yR 2073) rfl rfl ?_
                refine yG.getI A_hq.1 (w_taped W) rfl rfl (fun z14 e_z14 i_z14 l_z14 u_z14 => ?_)
                refine yG.load xik rfl (fun _ _ => rfl) (v := yI (p4)) rfl rfl ?_
                refine yG.num (c := 24) rfl (fun _ _ => rfl) (by decide) ?_
                refine yG.num (c := 8) rfl (fun _ _ => rfl) (by decide) ?_
                refine yG.load xik rfl (fun _ _ => rfl) (v := yI (a6)) rfl rfl ?_
                refine yG.num (c := 4) rfl (fun _ _ => rfl) (by decide) ?_
                refine yG.irem rfl ⟨by omega, by omega⟩ ⟨by omega, by omega⟩ (by omega) (by omega) ?_
                obtain ⟨z15, e_z15⟩ : ∃ z : Int, z = (a6) % (4) := ⟨_, rfl⟩
                rw [← e_z15]
                refine yG.imul rfl ?_
                refine yG.isub rfl ?_
                refine yG.bit32 rfl (fun _ _ => rfl) (fun z16 e_z16 l_z16 u_z16 => ?_)
                refine yG.num (c := 255) rfl (fun _ _ => rfl) (by decide) ?_
                refine yG.bit32 rfl (fun _ _ => rfl) (fun z17 e_z17 l_z17 u_z17 => ?_)
                have b_z17 : 0 ≤ z17 ∧ z17 ≤ 255 := by rw [e_z17]; exact yiand ⟨by decide, by decide⟩ (by decide)
                refine yG.iast A_hq.1 (v_tape W) (by decide) rfl (by omega) (by omega) ⟨by omega, by omega⟩ (by omega) (by omega) (fun h18 T_h18 b_h18 f_h18 y_h18 => ?_)
                have A_h18 := A_hq.putA T_h18 b_h18 f_h18 (by decide)
                have g15_h18 : ys h18 2073 15 = ys hq 2073 15 := (y_h18 2073 15).trans (if_neg (by omega))
                refine yG.load xak rfl (fun _ _ => rfl) (v := yR 2073) rfl rfl ?_
                refine yG.step (pc' := 117) (stk' := [yR 2073, yR 2073]) rfl (fun _ _ => rfl) ?_
                refine yG.getI A_h18.1 (w_taped W) rfl rfl (fun z19 e_z19 i_z19 l_z19 u_z19 => ?_)
                refine yG.num (c := 1) rfl (fun _ _ => rfl) (by decide) ?_
                refine yG.iadd rfl ?_
                refine yG.putI A_h18.1 (w_taped W) (by decide) rfl rfl (.inl rfl) ⟨by omega, by omega⟩ (by omega) (by omega) (fun h20 T_h20 b_h20 f_h20 y_h20 => ?_)
                have A_h20 := A_h18.putF T_h20 b_h20 f_h20 (by decide)
                have g15_h20 : ys h20 2073 15 = z19 + 1 := (y_h20 2073 15).trans (if_pos ⟨rfl, rfl⟩)
                refine yG.iinc rfl (a := a6) rfl (L' := [(6, yI (a6 + 1)), (7, yI (p4)), (0, yR 2073), (1, yI (p1)), (2, yI (p2)), (3, yI (p3)), (4, yI (p4)), (5, yI (p5))]) rfl ?_
                refine yG.goto rfl (t := 34) rfl ?_
                exact yG.mono (yG.sub (i_34 (a6 + 1) (ys h20 2073 15) h20 A_h20 rfl (by omega) (by omega) (by omega) (by omega) (by omega) (by omega) (by omega) (by omega) (by omega) (by omega) (by omega) (by omega) (by omega) (by omega) (by omega) (by omega) (by omega)) (ySub.cons rfl (ySub.cons rfl (ySub.cons rfl (ySub.cons rfl (ySub.cons rfl (ySub.cons rfl (ySub.cons rfl (ySub.nil))))))))) (by omega)
            · have c5 : (a6 : Int) < 12 := c5
              refine yG.load xik rfl (fun _ _ => rfl) (v := yI (p3)) rfl rfl ?_
              refine yG.goto rfl (t := 87) rfl ?_
              refine yG.store1 xik (L' := [(7, yI (p3)), (0, yR 2073), (1, yI (p1)), (2, yI (p2)), (3, yI (p3)), (4, yI (p4)), (5, yI (p5)), (6, yI (a6))]) rfl (fun _ _ => rfl) rfl rfl ?_
              refine yG.load xak rfl (fun _ _ => rfl) (v := yR 2073) rfl rfl ?_
              refine yG.getR A_hq.1 (r_tape W) rfl rfl ?_
              refine yG.load xak rfl (fun _ _ => rfl) (v := yR 2073) rfl rfl ?_
              refine yG.getI A_hq.1 (w_taped W) rfl rfl (fun z21 e_z21 i_z21 l_z21 u_z21 => ?_)
              refine yG.load xik rfl (fun _ _ => rfl) (v := yI (p3)) rfl rfl ?_
              refine yG.num (c := 24) rfl (fun _ _ => rfl) (by decide) ?_
              refine yG.num (c := 8) rfl (fun _ _ => rfl) (by decide) ?_
              refine yG.load xik rfl (fun _ _ => rfl) (v := yI (a6)) rfl rfl ?_
              refine yG.num (c := 4) rfl (fun _ _ => rfl) (by decide) ?_
              refine yG.irem rfl ⟨by omega, by omega⟩ ⟨by omega, by omega⟩ (by omega) (by omega) ?_
              obtain ⟨z22, e_z22⟩ : ∃ z : Int, z = (a6) % (4) := ⟨_, rfl⟩
              rw [← e_z22]
              refine yG.imul rfl ?_
              refine yG.isub rfl ?_
              refine yG.bit32 rfl (fun _ _ => rfl) (fun z23 e_z23 l_z23 u_z23 => ?_)
              refine yG.num (c := 255) rfl (fun _ _ => rfl) (by decide) ?_
              refine yG.bit32 rfl (fun _ _ => rfl) (fun z24 e_z24 l_z24 u_z24 => ?_)
              have b_z24 : 0 ≤ z24 ∧ z24 ≤ 255 := by rw [e_z24]; exact yiand ⟨by decide, by decide⟩ (by decide)
              refine yG.iast A_hq.1 (v_tape W) (by decide) rfl (by omega) (by omega) ⟨by omega, by omega⟩ (by omega) (by omega) (fun h25 T_h25 b_h25 f_h25 y_h25 => ?_)
              have A_h25 := A_hq.putA T_h25 b_h25 f_h25 (by decide)
              have g15_h25 : ys h25 2073 15 = ys hq 2073 15 := (y_h25 2073 15).trans (if_neg (by omega))
              refine yG.load xak rfl (fun _ _ => rfl) (v := yR 2073) rfl rfl ?_
              refine yG.step (pc' := 117) (stk' := [yR 2073, yR 2073]) rfl (fun _ _ => rfl) ?_
              refine yG.getI A_h25.1 (w_taped W) rfl rfl (fun z26 e_z26 i_z26 l_z26 u_z26 => ?_)
              refine yG.num (c := 1) rfl (fun _ _ => rfl) (by decide) ?_
              refine yG.iadd rfl ?_
              refine yG.putI A_h25.1 (w_taped W) (by decide) rfl rfl (.inl rfl) ⟨by omega, by omega⟩ (by omega) (by omega) (fun h27 T_h27 b_h27 f_h27 y_h27 => ?_)
              have A_h27 := A_h25.putF T_h27 b_h27 f_h27 (by decide)
              have g15_h27 : ys h27 2073 15 = z26 + 1 := (y_h27 2073 15).trans (if_pos ⟨rfl, rfl⟩)
              refine yG.iinc rfl (a := a6) rfl (L' := [(6, yI (a6 + 1)), (7, yI (p3)), (0, yR 2073), (1, yI (p1)), (2, yI (p2)), (3, yI (p3)), (4, yI (p4)), (5, yI (p5))]) rfl ?_
              refine yG.goto rfl (t := 34) rfl ?_
              exact yG.mono (yG.sub (i_34 (a6 + 1) (ys h27 2073 15) h27 A_h27 rfl (by omega) (by omega) (by omega) (by omega) (by omega) (by omega) (by omega) (by omega) (by omega) (by omega) (by omega) (by omega) (by omega) (by omega) (by omega) (by omega) (by omega)) (ySub.cons rfl (ySub.cons rfl (ySub.cons rfl (ySub.cons rfl (ySub.cons rfl (ySub.cons rfl (ySub.cons rfl (ySub.nil))))))))) (by omega)
          · have c4 : (a6 : Int) < 8 := c4
            refine yG.load xik rfl (fun _ _ => rfl) (v := yI (p2)) rfl rfl ?_
            refine yG.goto rfl (t := 87) rfl ?_
            refine yG.store1 xik (L' := [(7, yI (p2)), (0, yR 2073), (1, yI (p1)), (2, yI (p2)), (3, yI (p3)), (4, yI (p4)), (5, yI (p5)), (6, yI (a6))]) rfl (fun _ _ => rfl) rfl rfl ?_
            refine yG.load xak rfl (fun _ _ => rfl) (v := yR 2073) rfl rfl ?_
            refine yG.getR A_hq.1 (r_tape W) rfl rfl ?_
            refine yG.load xak rfl (fun _ _ => rfl) (v := yR 2073) rfl rfl ?_
            refine yG.getI A_hq.1 (w_taped W) rfl rfl (fun z28 e_z28 i_z28 l_z28 u_z28 => ?_)
            refine yG.load xik rfl (fun _ _ => rfl) (v := yI (p2)) rfl rfl ?_
            refine yG.num (c := 24) rfl (fun _ _ => rfl) (by decide) ?_
            refine yG.num (c := 8) rfl (fun _ _ => rfl) (by decide) ?_
            refine yG.load xik rfl (fun _ _ => rfl) (v := yI (a6)) rfl rfl ?_
            refine yG.num (c := 4) rfl (fun _ _ => rfl) (by decide) ?_
            refine yG.irem rfl ⟨by omega, by omega⟩ ⟨by omega, by omega⟩ (by omega) (by omega) ?_
            obtain ⟨z29, e_z29⟩ : ∃ z : Int, z = (a6) % (4) := ⟨_, rfl⟩
            rw [← e_z29]
            refine yG.imul rfl ?_
            refine yG.isub rfl ?_
            refine yG.bit32 rfl (fun _ _ => rfl) (fun z30 e_z30 l_z30 u_z30 => ?_)
            refine yG.num (c := 255) rfl (fun _ _ => rfl) (by decide) ?_
            refine yG.bit32 rfl (fun _ _ => rfl) (fun z31 e_z31 l_z31 u_z31 => ?_)
            have b_z31 : 0 ≤ z31 ∧ z31 ≤ 255 := by rw [e_z31]; exact yiand ⟨by decide, by decide⟩ (by decide)
            refine yG.iast A_hq.1 (v_tape W) (by decide) rfl (by omega) (by omega) ⟨by omega, by omega⟩ (by omega) (by omega) (fun h32 T_h32 b_h32 f_h32 y_h32 => ?_)
            have A_h32 := A_hq.putA T_h32 b_h32 f_h32 (by decide)
            have g15_h32 : ys h32 2073 15 = ys hq 2073 15 := (y_h32 2073 15).trans (if_neg (by omega))
            refine yG.load xak rfl (fun _ _ => rfl) (v := yR 2073) rfl rfl ?_
            refine yG.step (pc' := 117) (stk' := [yR 2073, yR 2073]) rfl (fun _ _ => rfl) ?_
            refine yG.getI A_h32.1 (w_taped W) rfl rfl (fun z33 e_z33 i_z33 l_z33 u_z33 => ?_)
            refine yG.num (c := 1) rfl (fun _ _ => rfl) (by decide) ?_
            refine yG.iadd rfl ?_
            refine yG.putI A_h32.1 (w_taped W) (by decide) rfl rfl (.inl rfl) ⟨by omega, by omega⟩ (by omega) (by omega) (fun h34 T_h34 b_h34 f_h34 y_h34 => ?_)
            have A_h34 := A_h32.putF T_h34 b_h34 f_h34 (by decide)
            have g15_h34 : ys h34 2073 15 = z33 + 1 := (y_h34 2073 15).trans (if_pos ⟨rfl, rfl⟩)
            refine yG.iinc rfl (a := a6) rfl (L' := [(6, yI (a6 + 1)), (7, yI (p2)), (0, yR 2073), (1, yI (p1)), (2, yI (p2)), (3, yI (p3)), (4, yI (p4)), (5, yI (p5))]) rfl ?_
            refine yG.goto rfl (t := 34) rfl ?_
            exact yG.mono (yG.sub (i_34 (a6 + 1) (ys h34 2073 15) h34 A_h34 rfl (by omega) (by omega) (by omega) (by omega) (by omega) (by omega) (by omega) (by omega) (by omega) (by omega) (by omega) (by omega) (by omega) (by omega) (by omega) (by omega) (by omega)) (ySub.cons rfl (ySub.cons rfl (ySub.cons rfl (ySub.cons rfl (ySub.cons rfl (ySub.cons rfl (ySub.cons rfl (ySub.nil))))))))) (by omega)
        · have c3 : (a6 : Int) < 4 := c3
          refine yG.load xik rfl (fun _ _ => rfl) (v := yI (p1)) rfl rfl ?_
          refine yG.goto rfl (t := 87) rfl ?_
          refine yG.store1 xik (L' := [(7, yI (p1)), (0, yR 2073), (1, yI (p1)), (2, yI (p2)), (3, yI (p3)), (4, yI (p4)), (5, yI (p5)), (6, yI (a6))]) rfl (fun _ _ => rfl) rfl rfl ?_
          refine yG.load xak rfl (fun _ _ => rfl) (v := yR 2073) rfl rfl ?_
          refine yG.getR A_hq.1 (r_tape W) rfl rfl ?_
          refine yG.load xak rfl (fun _ _ => rfl) (v := yR 2073) rfl rfl ?_
          refine yG.getI A_hq.1 (w_taped W) rfl rfl (fun z35 e_z35 i_z35 l_z35 u_z35 => ?_)
          refine yG.load xik rfl (fun _ _ => rfl) (v := yI (p1)) rfl rfl ?_
          refine yG.num (c := 24) rfl (fun _ _ => rfl) (by decide) ?_
          refine yG.num (c := 8) rfl (fun _ _ => rfl) (by decide) ?_
          refine yG.load xik rfl (fun _ _ => rfl) (v := yI (a6)) rfl rfl ?_
          refine yG.num (c := 4) rfl (fun _ _ => rfl) (by decide) ?_
          refine yG.irem rfl ⟨by omega, by omega⟩ ⟨by omega, by omega⟩ (by omega) (by omega) ?_
          obtain ⟨z36, e_z36⟩ : ∃ z : Int, z = (a6) % (4) := ⟨_, rfl⟩
          rw [← e_z36]
          refine yG.imul rfl ?_
          refine yG.isub rfl ?_
          refine yG.bit32 rfl (fun _ _ => rfl) (fun z37 e_z37 l_z37 u_z37 => ?_)
          refine yG.num (c := 255) rfl (fun _ _ => rfl) (by decide) ?_
          refine yG.bit32 rfl (fun _ _ => rfl) (fun z38 e_z38 l_z38 u_z38 => ?_)
          have b_z38 : 0 ≤ z38 ∧ z38 ≤ 255 := by rw [e_z38]; exact yiand ⟨by decide, by decide⟩ (by decide)
          refine yG.iast A_hq.1 (v_tape W) (by decide) rfl (by omega) (by omega) ⟨by omega, by omega⟩ (by omega) (by omega) (fun h39 T_h39 b_h39 f_h39 y_h39 => ?_)
          have A_h39 := A_hq.putA T_h39 b_h39 f_h39 (by decide)
          have g15_h39 : ys h39 2073 15 = ys hq 2073 15 := (y_h39 2073 15).trans (if_neg (by omega))
          refine yG.load xak rfl (fun _ _ => rfl) (v := yR 2073) rfl rfl ?_
          refine yG.step (pc' := 117) (stk' := [yR 2073, yR 2073]) rfl (fun _ _ => rfl) ?_
          refine yG.getI A_h39.1 (w_taped W) rfl rfl (fun z40 e_z40 i_z40 l_z40 u_z40 => ?_)
          refine yG.num (c := 1) rfl (fun _ _ => rfl) (by decide) ?_
          refine yG.iadd rfl ?_
          refine yG.putI A_h39.1 (w_taped W) (by decide) rfl rfl (.inl rfl) ⟨by omega, by omega⟩ (by omega) (by omega) (fun h41 T_h41 b_h41 f_h41 y_h41 => ?_)
          have A_h41 := A_h39.putF T_h41 b_h41 f_h41 (by decide)
          have g15_h41 : ys h41 2073 15 = z40 + 1 := (y_h41 2073 15).trans (if_pos ⟨rfl, rfl⟩)
          refine yG.iinc rfl (a := a6) rfl (L' := [(6, yI (a6 + 1)), (7, yI (p1)), (0, yR 2073), (1, yI (p1)), (2, yI (p2)), (3, yI (p3)), (4, yI (p4)), (5, yI (p5))]) rfl ?_
          refine yG.goto rfl (t := 34) rfl ?_
          exact yG.mono (yG.sub (i_34 (a6 + 1) (ys h41 2073 15) h41 A_h41 rfl (by omega) (by omega) (by omega) (by omega) (by omega) (by omega) (by omega) (by omega) (by omega) (by omega) (by omega) (by omega) (by omega) (by omega) (by omega) (by omega) (by omega)) (ySub.cons rfl (ySub.cons rfl (ySub.cons rfl (ySub.cons rfl (ySub.cons rfl (ySub.cons rfl (ySub.cons rfl (ySub.nil))))))))) (by omega)
  refine yC.of (M := (xt_X13_feed, (8, (1, (14, []))))) rfl rfl (N := 1936) (yfuel (by decide)) ?_
  show yG 89 xfts (xcall 89 xfts xpools xms d) (xpool xp_RX13) [] xt_X13_feed (yP 1 (yQi G [0, 15] [2085] hp 0 4000)) 1936 0 [(0, yR 2073), (1, yI (p1)), (2, yI (p2)), (3, yI (p3)), (4, yI (p4)), (5, yI (p5))] [] hp
  have i_34 := H 43
  obtain ⟨gg15, E_15⟩ : ∃ z : Int, ys hp 2073 15 = z := ⟨_, rfl⟩
  obtain ⟨-, -, r_15l, r_15u⟩ := (w_taped W).int hT
  refine yG.load xak rfl (fun _ _ => rfl) (v := yR 2073) rfl rfl ?_
  refine yG.load xak rfl (fun _ _ => rfl) (v := yR 2073) rfl rfl ?_
  refine yG.getI A_hp.1 (w_taped W) rfl rfl (fun z1 e_z1 i_z1 l_z1 u_z1 => ?_)
  refine yG.num (c := 20) rfl (fun _ _ => rfl) (by decide) ?_
  refine yG.iadd rfl ?_
  refine yG.num (c := 4000) rfl (fun _ _ => rfl) (by decide) ?_
  refine yG.icmp rfl (t := 18) rfl ⟨by omega, by omega⟩ ⟨by omega, by omega⟩ (fun c2 => ?_) (fun c2 => ?_)
  · have c2 : (z1 + 20 : Int) ≤ 4000 := c2
    refine yG.num (c := 0) rfl (fun _ _ => rfl) (by decide) ?_
    refine yG.putI A_hp.1 (w_thrown W) (by decide) rfl rfl (.inl rfl) ⟨by omega, by omega⟩ (by omega) (by omega) (fun h3 T_h3 b_h3 f_h3 y_h3 => ?_)
    have A_h3 := A_hp.putF T_h3 b_h3 f_h3 (by decide)
    have g15_h3 : ys h3 2073 15 = ys hp 2073 15 := (y_h3 2073 15).trans (if_neg (by omega))
    have g0_h3 : ys h3 2073 0 = 0 := (y_h3 2073 0).trans (if_pos ⟨rfl, rfl⟩)
    refine yG.load xak rfl (fun _ _ => rfl) (v := yR 2073) rfl rfl ?_
    refine yG.getI A_h3.1 (w_thrown W) rfl rfl (fun z4 e_z4 i_z4 l_z4 u_z4 => ?_)
    refine yG.ifz rfl (t := 31) rfl ⟨by omega, by omega⟩ (fun c5 => ?_) (fun c5 => ?_)
    · have c5 : (z4 : Int) ≤ 0 := c5
      refine yG.num (c := 0) rfl (fun _ _ => rfl) (by decide) ?_
      refine yG.store1 xik (L' := [(6, yI (0)), (0, yR 2073), (1, yI (p1)), (2, yI (p2)), (3, yI (p3)), (4, yI (p4)), (5, yI (p5))]) rfl (fun _ _ => rfl) rfl rfl ?_
      exact yG.mono (yG.sub (i_34 (0) (ys h3 2073 15) h3 A_h3 rfl (by omega) (by omega) (by omega) (by omega) (by omega) (by omega) (by omega) (by omega) (by omega) (by omega) (by omega) (by omega) (by omega) (by omega) (by omega) (by omega) (by omega)) (ySub.cons rfl (ySub.cons rfl (ySub.cons rfl (ySub.cons rfl (ySub.cons rfl (ySub.cons rfl (ySub.cons rfl (ySub.nil))))))))) (by omega)
    · have c5 : (z4 : Int) > 0 := c5
      exfalso; omega
  · have c2 : (z1 + 20 : Int) > 4000 := c2
    refine yG.num (c := 1) rfl (fun _ _ => rfl) (by decide) ?_
    refine yG.goto rfl (t := 19) rfl ?_
    refine yG.putI A_hp.1 (w_thrown W) (by decide) rfl rfl (.inl rfl) ⟨by omega, by omega⟩ (by omega) (by omega) (fun h6 T_h6 b_h6 f_h6 y_h6 => ?_)
    have A_h6 := A_hp.putF T_h6 b_h6 f_h6 (by decide)
    have g15_h6 : ys h6 2073 15 = ys hp 2073 15 := (y_h6 2073 15).trans (if_neg (by omega))
    have g0_h6 : ys h6 2073 0 = 1 := (y_h6 2073 0).trans (if_pos ⟨rfl, rfl⟩)
    refine yG.load xak rfl (fun _ _ => rfl) (v := yR 2073) rfl rfl ?_
    refine yG.getI A_h6.1 (w_thrown W) rfl rfl (fun z7 e_z7 i_z7 l_z7 u_z7 => ?_)
    refine yG.ifz rfl (t := 31) rfl ⟨by omega, by omega⟩ (fun c8 => ?_) (fun c8 => ?_)
    · have c8 : (z7 : Int) ≤ 0 := c8
      exfalso; omega
    · have c8 : (z7 : Int) > 0 := c8
      refine yG.num (c := 0) rfl (fun _ _ => rfl) (by decide) ?_
      refine yG.ret rfl (fun _ _ => rfl) ?_
      exact yP.int ⟨by omega, by omega⟩ ⟨⟨0, rfl, by omega, by omega⟩, A_h6⟩
theorem a_end {hp : xH} (W : yWW G) (d : Nat) (hT : zTy G hp) (p1 : Int) (h1l : (-2147483648) ≤ p1) (h1u : p1 ≤ 2147483647) : yC (xcall 89 xfts xpools xms (d + 2)) 390 [yR 2073, yI (p1)] hp (yQv G [0, 15] [] hp) := by
  have A_hp : yAx G [0, 15] [] hp hp := yAx.rf hT
  refine yC.of (M := (xt_X13_end, (2, (0, (14, []))))) rfl rfl (N := 66) (yfuel (by decide)) ?_
  show yG 89 xfts (xcall 89 xfts xpools xms (d + 1)) (xpool xp_RX13) [] xt_X13_end (yP 0 (yQv G [0, 15] [] hp)) 66 0 [(0, yR 2073), (1, yI (p1))] [] hp
  refine yG.load xak rfl (fun _ _ => rfl) (v := yR 2073) rfl rfl ?_
  refine yG.load xik rfl (fun _ _ => rfl) (v := yI (p1)) rfl rfl ?_
  refine yG.i2l rfl ⟨by omega, by omega⟩ ?_
  refine yG.numl (c := 0) rfl (fun _ _ => rfl) (by decide) ?_
  refine yG.load xak rfl (fun _ _ => rfl) (v := yR 2073) rfl rfl ?_
  refine yG.getI A_hp.1 (w_taped W) rfl rfl (fun z1 e_z1 i_z1 l_z1 u_z1 => ?_)
  refine yG.i2l rfl ⟨by omega, by omega⟩ ?_
  refine yG.invS (rest := [yR 2073]) rfl rfl rfl rfl (a_in W d A_hp.1 (p1) (0) (z1) (by omega) (by omega) (by omega) (by omega) (by omega) (by omega)) (fun rv hp9 q9 => ?_)
  obtain ⟨⟨z2, rfl, l_z2, u_z2, r_z2⟩, e9⟩ := q9
  rw [e9]
  show yG _ _ _ _ _ _ _ _ _ _ (yI z2 :: [yR 2073]) _
  refine yG.ifz rfl (t := 19) rfl ⟨by omega, by omega⟩ (fun c3 => ?_) (fun c3 => ?_)
  · have c3 : (z2 : Int) = 0 := c3
    refine yG.num (c := 1) rfl (fun _ _ => rfl) (by decide) ?_
    refine yG.putI A_hp.1 (w_thrown W) (by decide) rfl rfl (.inl rfl) ⟨by omega, by omega⟩ (by omega) (by omega) (fun h4 T_h4 b_h4 f_h4 y_h4 => ?_)
    have A_h4 := A_hp.putF T_h4 b_h4 f_h4 (by decide)
    have g15_h4 : ys h4 2073 15 = ys hp 2073 15 := (y_h4 2073 15).trans (if_neg (by omega))
    have g0_h4 : ys h4 2073 0 = 1 := (y_h4 2073 0).trans (if_pos ⟨rfl, rfl⟩)
    refine yG.load xak rfl (fun _ _ => rfl) (v := yR 2073) rfl rfl ?_
    refine yG.load xak rfl (fun _ _ => rfl) (v := yR 2073) rfl rfl ?_
    refine yG.getI A_h4.1 (w_thrown W) rfl rfl (fun z5 e_z5 i_z5 l_z5 u_z5 => ?_)
    refine yG.ifz rfl (t := 35) rfl ⟨by omega, by omega⟩ (fun c6 => ?_) (fun c6 => ?_)
    · have c6 : (z5 : Int) ≠ 0 := c6
      refine yG.load xak rfl (fun _ _ => rfl) (v := yR 2073) rfl rfl ?_
      refine yG.getI A_h4.1 (w_taped W) rfl rfl (fun z7 e_z7 i_z7 l_z7 u_z7 => ?_)
      refine yG.putI A_h4.1 (w_taped W) (by decide) rfl rfl (.inl rfl) ⟨by omega, by omega⟩ (by omega) (by omega) (fun h8 T_h8 b_h8 f_h8 y_h8 => ?_)
      have A_h8 := A_h4.putF T_h8 b_h8 f_h8 (by decide)
      have g0_h8 : ys h8 2073 0 = ys h4 2073 0 := (y_h8 2073 0).trans (if_neg (by omega))
      have g15_h8 : ys h8 2073 15 = z7 := (y_h8 2073 15).trans (if_pos ⟨rfl, rfl⟩)
      refine yG.ret rfl (fun _ _ => rfl) ?_
      exact yP.void ⟨rfl, A_h8⟩
    · have c6 : (z5 : Int) = 0 := c6
      exfalso; omega
  · have c3 : (z2 : Int) ≠ 0 := c3
    refine yG.num (c := 0) rfl (fun _ _ => rfl) (by decide) ?_
    refine yG.goto rfl (t := 20) rfl ?_
    refine yG.putI A_hp.1 (w_thrown W) (by decide) rfl rfl (.inl rfl) ⟨by omega, by omega⟩ (by omega) (by omega) (fun h9 T_h9 b_h9 f_h9 y_h9 => ?_)
    have A_h9 := A_hp.putF T_h9 b_h9 f_h9 (by decide)
    have g15_h9 : ys h9 2073 15 = ys hp 2073 15 := (y_h9 2073 15).trans (if_neg (by omega))
    have g0_h9 : ys h9 2073 0 = 0 := (y_h9 2073 0).trans (if_pos ⟨rfl, rfl⟩)
    refine yG.load xak rfl (fun _ _ => rfl) (v := yR 2073) rfl rfl ?_
    refine yG.load xak rfl (fun _ _ => rfl) (v := yR 2073) rfl rfl ?_
    refine yG.getI A_h9.1 (w_thrown W) rfl rfl (fun z10 e_z10 i_z10 l_z10 u_z10 => ?_)
    refine yG.ifz rfl (t := 35) rfl ⟨by omega, by omega⟩ (fun c11 => ?_) (fun c11 => ?_)
    · have c11 : (z10 : Int) ≠ 0 := c11
      exfalso; omega
    · have c11 : (z10 : Int) = 0 := c11
      refine yG.load xik rfl (fun _ _ => rfl) (v := yI (p1)) rfl rfl ?_
      refine yG.goto rfl (t := 39) rfl ?_
      refine yG.putI A_h9.1 (w_taped W) (by decide) rfl rfl (.inl rfl) ⟨by omega, by omega⟩ (by omega) (by omega) (fun h12 T_h12 b_h12 f_h12 y_h12 => ?_)
      have A_h12 := A_h9.putF T_h12 b_h12 f_h12 (by decide)
      have g0_h12 : ys h12 2073 0 = ys h9 2073 0 := (y_h12 2073 0).trans (if_neg (by omega))
      have g15_h12 : ys h12 2073 15 = p1 := (y_h12 2073 15).trans (if_pos ⟨rfl, rfl⟩)
      refine yG.ret rfl (fun _ _ => rfl) ?_
      exact yP.void ⟨rfl, A_h12⟩
theorem a_strike {hp : xH} (W : yWW G) (d : Nat) (hT : zTy G hp) (p1 p2 : Int) (h1l : (-2147483648) ≤ p1) (h1u : p1 ≤ 2147483647) (h2l : 0 ≤ p2) (h2u : p2 ≤ 1) : yC (xcall 89 xfts xpools xms (d + 2)) 523 [yR 2073, yI (p1), yI (p2)] hp (yQi G [0, 62] [2119] hp 0 1) := by
  have A_hp : yAx G [0, 62] [2119] hp hp := yAx.rf hT
  refine yC.of (M := (xt_X13_strike, (4, (4, (14, []))))) rfl rfl (N := 102) (yfuel (by decide)) ?_
  show yG 89 xfts (xcall 89 xfts xpools xms (d + 1)) (xpool xp_RX13) [] xt_X13_strike (yP 4 (yQi G [0, 62] [2119] hp 0 1)) 102 0 [(0, yR 2073), (1, yI (p1)), (2, yI (p2))] [] hp
  refine yG.load xak rfl (fun _ _ => rfl) (v := yR 2073) rfl rfl ?_
  refine yG.load xik rfl (fun _ _ => rfl) (v := yI (p1)) rfl rfl ?_
  refine yG.i2l rfl ⟨by omega, by omega⟩ ?_
  refine yG.numl (c := 0) rfl (fun _ _ => rfl) (by decide) ?_
  refine yG.load xak rfl (fun _ _ => rfl) (v := yR 2073) rfl rfl ?_
  refine yG.getI A_hp.1 (w_meters W) rfl rfl (fun z1 e_z1 i_z1 l_z1 u_z1 => ?_)
  refine yG.num (c := 1) rfl (fun _ _ => rfl) (by decide) ?_
  refine yG.isub rfl ?_
  refine yG.i2l rfl ⟨by omega, by omega⟩ ?_
  refine yG.invS (rest := [yR 2073]) rfl rfl rfl rfl (a_in W d A_hp.1 (p1) (0) (z1 - 1) (by omega) (by omega) (by omega) (by omega) (by omega) (by omega)) (fun rv hp9 q9 => ?_)
  obtain ⟨⟨z2, rfl, l_z2, u_z2, r_z2⟩, e9⟩ := q9
  rw [e9]
  show yG _ _ _ _ _ _ _ _ _ _ (yI z2 :: [yR 2073]) _
  refine yG.ifz rfl (t := 21) rfl ⟨by omega, by omega⟩ (fun c3 => ?_) (fun c3 => ?_)
  · have c3 : (z2 : Int) = 0 := c3
    refine yG.num (c := 1) rfl (fun _ _ => rfl) (by decide) ?_
    refine yG.putI A_hp.1 (w_thrown W) (by decide) rfl rfl (.inl rfl) ⟨by omega, by omega⟩ (by omega) (by omega) (fun h4 T_h4 b_h4 f_h4 y_h4 => ?_)
    have A_h4 := A_hp.putF T_h4 b_h4 f_h4 (by decide)
    have g56_h4 : ys h4 2073 56 = ys hp 2073 56 := (y_h4 2073 56).trans (if_neg (by omega))
    have g0_h4 : ys h4 2073 0 = 1 := (y_h4 2073 0).trans (if_pos ⟨rfl, rfl⟩)
    refine yG.load xak rfl (fun _ _ => rfl) (v := yR 2073) rfl rfl ?_
    refine yG.getI A_h4.1 (w_thrown W) rfl rfl (fun z5 e_z5 i_z5 l_z5 u_z5 => ?_)
    refine yG.ifz rfl (t := 34) rfl ⟨by omega, by omega⟩ (fun c6 => ?_) (fun c6 => ?_)
    · have c6 : (z5 : Int) ≤ 0 := c6
      exfalso; omega
    · have c6 : (z5 : Int) > 0 := c6
      refine yG.num (c := 0) rfl (fun _ _ => rfl) (by decide) ?_
      refine yG.ret rfl (fun _ _ => rfl) ?_
      exact yP.bool (by omega) ⟨⟨0, rfl, by omega, by omega⟩, A_h4⟩
  · have c3 : (z2 : Int) ≠ 0 := c3
    refine yG.num (c := 0) rfl (fun _ _ => rfl) (by decide) ?_
    refine yG.goto rfl (t := 22) rfl ?_
    refine yG.putI A_hp.1 (w_thrown W) (by decide) rfl rfl (.inl rfl) ⟨by omega, by omega⟩ (by omega) (by omega) (fun h7 T_h7 b_h7 f_h7 y_h7 => ?_)
    have A_h7 := A_hp.putF T_h7 b_h7 f_h7 (by decide)
    have g56_h7 : ys h7 2073 56 = ys hp 2073 56 := (y_h7 2073 56).trans (if_neg (by omega))
    have g0_h7 : ys h7 2073 0 = 0 := (y_h7 2073 0).trans (if_pos ⟨rfl, rfl⟩)
    refine yG.load xak rfl (fun _ _ => rfl) (v := yR 2073) rfl rfl ?_
    refine yG.getI A_h7.1 (w_thrown W) rfl rfl (fun z8 e_z8 i_z8 l_z8 u_z8 => ?_)
    refine yG.ifz rfl (t := 34) rfl ⟨by omega, by omega⟩ (fun c9 => ?_) (fun c9 => ?_)
    · have c9 : (z8 : Int) ≤ 0 := c9
      refine yG.load xak rfl (fun _ _ => rfl) (v := yR 2073) rfl rfl ?_
      refine yG.getR A_h7.1 (r_isStruck W) rfl rfl ?_
      refine yG.load xik rfl (fun _ _ => rfl) (v := yI (p1)) rfl rfl ?_
      refine yG.bald A_h7.1 (v_isStruck W) rfl (by omega) (by omega) (fun z10 e_z10 i_z10 l_z10 u_z10 => ?_)
      refine yG.store1 xik (L' := [(3, yI (z10)), (0, yR 2073), (1, yI (p1)), (2, yI (p2))]) rfl (fun _ _ => rfl) rfl rfl ?_
      refine yG.load xak rfl (fun _ _ => rfl) (v := yR 2073) rfl rfl ?_
      refine yG.getR A_h7.1 (r_isStruck W) rfl rfl ?_
      refine yG.load xik rfl (fun _ _ => rfl) (v := yI (p1)) rfl rfl ?_
      refine yG.load xik rfl (fun _ _ => rfl) (v := yI (p2)) rfl rfl ?_
      refine yG.bast A_h7.1 (v_isStruck W) (by decide) rfl (by omega) (by omega) ⟨by omega, by omega⟩ (by omega) (by omega) (fun h11 T_h11 b_h11 f_h11 y_h11 => ?_)
      have A_h11 := A_h7.putA T_h11 b_h11 f_h11 (by decide)
      have g56_h11 : ys h11 2073 56 = ys h7 2073 56 := (y_h11 2073 56).trans (if_neg (by omega))
      have g0_h11 : ys h11 2073 0 = ys h7 2073 0 := (y_h11 2073 0).trans (if_neg (by omega))
      refine yG.load xak rfl (fun _ _ => rfl) (v := yR 2073) rfl rfl ?_
      refine yG.num (c := 0) rfl (fun _ _ => rfl) (by decide) ?_
      refine yG.putI A_h11.1 (w_hasEstimates W) (by decide) rfl rfl (.inr ⟨rfl, rfl, rfl⟩) ⟨by omega, by omega⟩ (by omega) (by omega) (fun h12 T_h12 b_h12 f_h12 y_h12 => ?_)
      have A_h12 := A_h11.putF T_h12 b_h12 f_h12 (by decide)
      have g56_h12 : ys h12 2073 56 = ys h11 2073 56 := (y_h12 2073 56).trans (if_neg (by omega))
      have g0_h12 : ys h12 2073 0 = ys h11 2073 0 := (y_h12 2073 0).trans (if_neg (by omega))
      have g62_h12 : ys h12 2073 62 = 0 := (y_h12 2073 62).trans (if_pos ⟨rfl, rfl⟩)
      refine yG.load xik rfl (fun _ _ => rfl) (v := yI (z10)) rfl rfl ?_
      refine yG.ret rfl (fun _ _ => rfl) ?_
      exact yP.bool (by omega) ⟨⟨z10, rfl, by omega, by omega⟩, A_h12⟩
    · have c9 : (z8 : Int) > 0 := c9
      exfalso; omega
theorem a_meter {hp : xH} (W : yWW G) (d : Nat) (hT : zTy G hp) (p1 p2 p3 p4 : Int) (h1l : (-2147483648) ≤ p1) (h1u : p1 ≤ 2147483647) (h2l : (-2147483648) ≤ p2) (h2u : p2 ≤ 2147483647) (h3l : (-2147483648) ≤ p3) (h3u : p3 ≤ 2147483647) (h4l : (-2147483648) ≤ p4) (h4u : p4 ≤ 2147483647) : yC (xcall 89 xfts xpools xms (d + 2)) 456 [yR 2073, yI (p1), yI (p2), yI (p3), yI (p4)] hp (yQi G [0, 56, 62] [2115, 2116, 2117, 2118, 2119] hp 0 31) := by
  have A_hp : yAx G [0, 56, 62] [2115, 2116, 2117, 2118, 2119] hp hp := yAx.rf hT
  refine yC.of (M := (xt_X13_meter, (5, (1, (14, []))))) rfl rfl (N := 267) (yfuel (by decide)) ?_
  show yG 89 xfts (xcall 89 xfts xpools xms (d + 1)) (xpool xp_RX13) [] xt_X13_meter (yP 1 (yQi G [0, 56, 62] [2115, 2116, 2117, 2118, 2119] hp 0 31)) 267 0 [(0, yR 2073), (1, yI (p1)), (2, yI (p2)), (3, yI (p3)), (4, yI (p4))] [] hp
  refine yG.load xak rfl (fun _ _ => rfl) (v := yR 2073) rfl rfl ?_
  refine yG.load xik rfl (fun _ _ => rfl) (v := yI (p1)) rfl rfl ?_
  refine yG.i2l rfl ⟨by omega, by omega⟩ ?_
  refine yG.numl (c := 0) rfl (fun _ _ => rfl) (by decide) ?_
  refine yG.numl (c := 2) rfl (fun _ _ => rfl) (by decide) ?_
  refine yG.invS (rest := [yR 2073]) rfl rfl rfl rfl (a_in W d A_hp.1 (p1) (0) (2) (by omega) (by omega) (by omega) (by omega) (by omega) (by omega)) (fun rv hp9 q9 => ?_)
  obtain ⟨⟨z1, rfl, l_z1, u_z1, r_z1⟩, e9⟩ := q9
  rw [e9]
  show yG _ _ _ _ _ _ _ _ _ _ (yI z1 :: [yR 2073]) _
  refine yG.ifz rfl (t := 17) rfl ⟨by omega, by omega⟩ (fun c2 => ?_) (fun c2 => ?_)
  · have c2 : (z1 : Int) ≠ 0 := c2
    refine yG.load xik rfl (fun _ _ => rfl) (v := yI (p2)) rfl rfl ?_
    refine yG.i2l rfl ⟨by omega, by omega⟩ ?_
    refine yG.numl (c := 0) rfl (fun _ _ => rfl) (by decide) ?_
    refine yG.load xak rfl (fun _ _ => rfl) (v := yR 2073) rfl rfl ?_
    refine yG.getR A_hp.1 (r_count W) rfl rfl ?_
    refine yG.load xik rfl (fun _ _ => rfl) (v := yI (p1)) rfl rfl ?_
    refine yG.ifz rfl (t := 32) rfl ⟨by omega, by omega⟩ (fun c3 => ?_) (fun c3 => ?_)
    · have c3 : (p1 : Int) ≠ 0 := c3
      refine yG.num (c := 0) rfl (fun _ _ => rfl) (by decide) ?_
      refine yG.ialdF A_hp.1 (p_count W) rfl rfl (by omega) (by omega) (fun z4 e_z4 i_z4 l_z4 u_z4 => ?_)
      refine yG.num (c := 1) rfl (fun _ _ => rfl) (by decide) ?_
      refine yG.isub rfl ?_
      refine yG.i2l rfl ⟨by omega, by omega⟩ ?_
      refine yG.invS (rest := [yR 2073]) rfl rfl rfl rfl (a_in W d A_hp.1 (p2) (0) (z4 - 1) (by omega) (by omega) (by omega) (by omega) (by omega) (by omega)) (fun rv hp9 q9 => ?_)
      obtain ⟨⟨z5, rfl, l_z5, u_z5, r_z5⟩, e9⟩ := q9
      rw [e9]
      show yG _ _ _ _ _ _ _ _ _ _ (yI z5 :: [yR 2073]) _
      refine yG.ifz rfl (t := 47) rfl ⟨by omega, by omega⟩ (fun c6 => ?_) (fun c6 => ?_)
      · have c6 : (z5 : Int) ≠ 0 := c6
        refine yG.load xik rfl (fun _ _ => rfl) (v := yI (p3)) rfl rfl ?_
        refine yG.i2l rfl ⟨by omega, by omega⟩ ?_
        refine yG.numl (c := -99999) rfl (fun _ _ => rfl) (by decide) ?_
        refine yG.numl (c := 99999) rfl (fun _ _ => rfl) (by decide) ?_
        refine yG.invS (rest := [yR 2073]) rfl rfl rfl rfl (a_in W d A_hp.1 (p3) ((-99999)) (99999) (by omega) (by omega) (by omega) (by omega) (by omega) (by omega)) (fun rv hp9 q9 => ?_)
        obtain ⟨⟨z7, rfl, l_z7, u_z7, r_z7⟩, e9⟩ := q9
        rw [e9]
        show yG _ _ _ _ _ _ _ _ _ _ (yI z7 :: [yR 2073]) _
        refine yG.ifz rfl (t := 74) rfl ⟨by omega, by omega⟩ (fun c8 => ?_) (fun c8 => ?_)
        · have c8 : (z7 : Int) = 0 := c8
          refine yG.num (c := 1) rfl (fun _ _ => rfl) (by decide) ?_
          refine yG.goto rfl (t := 92) rfl ?_
          refine yG.putI A_hp.1 (w_thrown W) (by decide) rfl rfl (.inl rfl) ⟨by omega, by omega⟩ (by omega) (by omega) (fun h9 T_h9 b_h9 f_h9 y_h9 => ?_)
          have A_h9 := A_hp.putF T_h9 b_h9 f_h9 (by decide)
          have g0_h9 : ys h9 2073 0 = 1 := (y_h9 2073 0).trans (if_pos ⟨rfl, rfl⟩)
          refine yG.load xak rfl (fun _ _ => rfl) (v := yR 2073) rfl rfl ?_
          refine yG.getI A_h9.1 (w_thrown W) rfl rfl (fun z10 e_z10 i_z10 l_z10 u_z10 => ?_)
          refine yG.ifz rfl (t := 104) rfl ⟨by omega, by omega⟩ (fun c11 => ?_) (fun c11 => ?_)
          · have c11 : (z10 : Int) ≤ 0 := c11
            exfalso; omega
          · have c11 : (z10 : Int) > 0 := c11
            refine yG.num (c := 0) rfl (fun _ _ => rfl) (by decide) ?_
            refine yG.ret rfl (fun _ _ => rfl) ?_
            exact yP.int ⟨by omega, by omega⟩ ⟨⟨0, rfl, by omega, by omega⟩, A_h9⟩
        · have c8 : (z7 : Int) ≠ 0 := c8
          refine yG.load xik rfl (fun _ _ => rfl) (v := yI (p4)) rfl rfl ?_
          refine yG.i2l rfl ⟨by omega, by omega⟩ ?_
          refine yG.numl (c := 1) rfl (fun _ _ => rfl) (by decide) ?_
          refine yG.numl (c := 99) rfl (fun _ _ => rfl) (by decide) ?_
          refine yG.invS (rest := [yR 2073]) rfl rfl rfl rfl (a_in W d A_hp.1 (p4) (1) (99) (by omega) (by omega) (by omega) (by omega) (by omega) (by omega)) (fun rv hp9 q9 => ?_)
          obtain ⟨⟨z12, rfl, l_z12, u_z12, r_z12⟩, e9⟩ := q9
          rw [e9]
          show yG _ _ _ _ _ _ _ _ _ _ (yI z12 :: [yR 2073]) _
          refine yG.ifz rfl (t := 78) rfl ⟨by omega, by omega⟩ (fun c13 => ?_) (fun c13 => ?_)
          · have c13 : (z12 : Int) ≠ 0 := c13
            refine yG.load xak rfl (fun _ _ => rfl) (v := yR 2073) rfl rfl ?_
            refine yG.getI A_hp.1 (w_meters W) rfl rfl (fun z14 e_z14 i_z14 l_z14 u_z14 => ?_)
            refine yG.num (c := 32) rfl (fun _ _ => rfl) (by decide) ?_
            refine yG.icmp rfl (t := 91) rfl ⟨by omega, by omega⟩ ⟨by omega, by omega⟩ (fun c15 => ?_) (fun c15 => ?_)
            · have c15 : (z14 : Int) ≠ 32 := c15
              refine yG.num (c := 0) rfl (fun _ _ => rfl) (by decide) ?_
              refine yG.putI A_hp.1 (w_thrown W) (by decide) rfl rfl (.inl rfl) ⟨by omega, by omega⟩ (by omega) (by omega) (fun h16 T_h16 b_h16 f_h16 y_h16 => ?_)
              have A_h16 := A_hp.putF T_h16 b_h16 f_h16 (by decide)
              have g56_h16 : ys h16 2073 56 = ys hp 2073 56 := (y_h16 2073 56).trans (if_neg (by omega))
              have g0_h16 : ys h16 2073 0 = 0 := (y_h16 2073 0).trans (if_pos ⟨rfl, rfl⟩)
              refine yG.load xak rfl (fun _ _ => rfl) (v := yR 2073) rfl rfl ?_
              refine yG.getI A_h16.1 (w_thrown W) rfl rfl (fun z17 e_z17 i_z17 l_z17 u_z17 => ?_)
              refine yG.ifz rfl (t := 104) rfl ⟨by omega, by omega⟩ (fun c18 => ?_) (fun c18 => ?_)
              · have c18 : (z17 : Int) ≤ 0 := c18
                refine yG.load xak rfl (fun _ _ => rfl) (v := yR 2073) rfl rfl ?_
                refine yG.getR A_h16.1 (r_meterKind W) rfl rfl ?_
                refine yG.load xak rfl (fun _ _ => rfl) (v := yR 2073) rfl rfl ?_
                refine yG.getI A_h16.1 (w_meters W) rfl rfl (fun z19 e_z19 i_z19 l_z19 u_z19 => ?_)
                refine yG.load xik rfl (fun _ _ => rfl) (v := yI (p1)) rfl rfl ?_
                refine yG.iast A_h16.1 (v_meterKind W) (by decide) rfl (by omega) (by omega) ⟨by omega, by omega⟩ (by omega) (by omega) (fun h20 T_h20 b_h20 f_h20 y_h20 => ?_)
                have A_h20 := A_h16.putA T_h20 b_h20 f_h20 (by decide)
                have g56_h20 : ys h20 2073 56 = ys h16 2073 56 := (y_h20 2073 56).trans (if_neg (by omega))
                have g0_h20 : ys h20 2073 0 = ys h16 2073 0 := (y_h20 2073 0).trans (if_neg (by omega))
                refine yG.load xak rfl (fun _ _ => rfl) (v := yR 2073) rfl rfl ?_
                refine yG.getR A_h20.1 (r_meterAt W) rfl rfl ?_
                refine yG.load xak rfl (fun _ _ => rfl) (v := yR 2073) rfl rfl ?_
                refine yG.getI A_h20.1 (w_meters W) rfl rfl (fun z21 e_z21 i_z21 l_z21 u_z21 => ?_)
                refine yG.load xik rfl (fun _ _ => rfl) (v := yI (p2)) rfl rfl ?_
                refine yG.iast A_h20.1 (v_meterAt W) (by decide) rfl (by omega) (by omega) ⟨by omega, by omega⟩ (by omega) (by omega) (fun h22 T_h22 b_h22 f_h22 y_h22 => ?_)
                have A_h22 := A_h20.putA T_h22 b_h22 f_h22 (by decide)
                have g56_h22 : ys h22 2073 56 = ys h20 2073 56 := (y_h22 2073 56).trans (if_neg (by omega))
                have g0_h22 : ys h22 2073 0 = ys h20 2073 0 := (y_h22 2073 0).trans (if_neg (by omega))
                refine yG.load xak rfl (fun _ _ => rfl) (v := yR 2073) rfl rfl ?_
                refine yG.getR A_h22.1 (r_meterValue W) rfl rfl ?_
                refine yG.load xak rfl (fun _ _ => rfl) (v := yR 2073) rfl rfl ?_
                refine yG.getI A_h22.1 (w_meters W) rfl rfl (fun z23 e_z23 i_z23 l_z23 u_z23 => ?_)
                refine yG.load xik rfl (fun _ _ => rfl) (v := yI (p3)) rfl rfl ?_
                refine yG.iast A_h22.1 (v_meterValue W) (by decide) rfl (by omega) (by omega) ⟨by omega, by omega⟩ (by omega) (by omega) (fun h24 T_h24 b_h24 f_h24 y_h24 => ?_)
                have A_h24 := A_h22.putA T_h24 b_h24 f_h24 (by decide)
                have g56_h24 : ys h24 2073 56 = ys h22 2073 56 := (y_h24 2073 56).trans (if_neg (by omega))
                have g0_h24 : ys h24 2073 0 = ys h22 2073 0 := (y_h24 2073 0).trans (if_neg (by omega))
                refine yG.load xak rfl (fun _ _ => rfl) (v := yR 2073) rfl rfl ?_
                refine yG.getR A_h24.1 (r_meterWeight W) rfl rfl ?_
                refine yG.load xak rfl (fun _ _ => rfl) (v := yR 2073) rfl rfl ?_
                refine yG.getI A_h24.1 (w_meters W) rfl rfl (fun z25 e_z25 i_z25 l_z25 u_z25 => ?_)
                refine yG.load xik rfl (fun _ _ => rfl) (v := yI (p4)) rfl rfl ?_
                refine yG.iast A_h24.1 (v_meterWeight W) (by decide) rfl (by omega) (by omega) ⟨by omega, by omega⟩ (by omega) (by omega) (fun h26 T_h26 b_h26 f_h26 y_h26 => ?_)
                have A_h26 := A_h24.putA T_h26 b_h26 f_h26 (by decide)
                have g56_h26 : ys h26 2073 56 = ys h24 2073 56 := (y_h26 2073 56).trans (if_neg (by omega))
                have g0_h26 : ys h26 2073 0 = ys h24 2073 0 := (y_h26 2073 0).trans (if_neg (by omega))
                refine yG.load xak rfl (fun _ _ => rfl) (v := yR 2073) rfl rfl ?_
                refine yG.getR A_h26.1 (r_isStruck W) rfl rfl ?_
                refine yG.load xak rfl (fun _ _ => rfl) (v := yR 2073) rfl rfl ?_
                refine yG.getI A_h26.1 (w_meters W) rfl rfl (fun z27 e_z27 i_z27 l_z27 u_z27 => ?_)
                refine yG.num (c := 0) rfl (fun _ _ => rfl) (by decide) ?_
                refine yG.bast A_h26.1 (v_isStruck W) (by decide) rfl (by omega) (by omega) ⟨by omega, by omega⟩ (by omega) (by omega) (fun h28 T_h28 b_h28 f_h28 y_h28 => ?_)
                have A_h28 := A_h26.putA T_h28 b_h28 f_h28 (by decide)
                have g56_h28 : ys h28 2073 56 = ys h26 2073 56 := (y_h28 2073 56).trans (if_neg (by omega))
                have g0_h28 : ys h28 2073 0 = ys h26 2073 0 := (y_h28 2073 0).trans (if_neg (by omega))
                refine yG.load xak rfl (fun _ _ => rfl) (v := yR 2073) rfl rfl ?_
                refine yG.step (pc' := 157) (stk' := [yR 2073, yR 2073]) rfl (fun _ _ => rfl) ?_
                refine yG.getI A_h28.1 (w_meters W) rfl rfl (fun z29 e_z29 i_z29 l_z29 u_z29 => ?_)
                refine yG.num (c := 1) rfl (fun _ _ => rfl) (by decide) ?_
                refine yG.iadd rfl ?_
                refine yG.putI A_h28.1 (w_meters W) (by decide) rfl rfl (.inl rfl) ⟨by omega, by omega⟩ (by omega) (by omega) (fun h30 T_h30 b_h30 f_h30 y_h30 => ?_)
                have A_h30 := A_h28.putF T_h30 b_h30 f_h30 (by decide)
                have g0_h30 : ys h30 2073 0 = ys h28 2073 0 := (y_h30 2073 0).trans (if_neg (by omega))
                have g56_h30 : ys h30 2073 56 = z29 + 1 := (y_h30 2073 56).trans (if_pos ⟨rfl, rfl⟩)
                refine yG.load xak rfl (fun _ _ => rfl) (v := yR 2073) rfl rfl ?_
                refine yG.num (c := 0) rfl (fun _ _ => rfl) (by decide) ?_
                refine yG.putI A_h30.1 (w_hasEstimates W) (by decide) rfl rfl (.inr ⟨rfl, rfl, rfl⟩) ⟨by omega, by omega⟩ (by omega) (by omega) (fun h31 T_h31 b_h31 f_h31 y_h31 => ?_)
                have A_h31 := A_h30.putF T_h31 b_h31 f_h31 (by decide)
                have g56_h31 : ys h31 2073 56 = ys h30 2073 56 := (y_h31 2073 56).trans (if_neg (by omega))
                have g0_h31 : ys h31 2073 0 = ys h30 2073 0 := (y_h31 2073 0).trans (if_neg (by omega))
                have g62_h31 : ys h31 2073 62 = 0 := (y_h31 2073 62).trans (if_pos ⟨rfl, rfl⟩)
                refine yG.load xak rfl (fun _ _ => rfl) (v := yR 2073) rfl rfl ?_
                refine yG.getI A_h31.1 (w_meters W) rfl rfl (fun z32 e_z32 i_z32 l_z32 u_z32 => ?_)
                refine yG.num (c := 1) rfl (fun _ _ => rfl) (by decide) ?_
                refine yG.isub rfl ?_
                refine yG.ret rfl (fun _ _ => rfl) ?_
                exact yP.int ⟨by omega, by omega⟩ ⟨⟨z32 - 1, rfl, by omega, by omega⟩, A_h31⟩
              · have c18 : (z17 : Int) > 0 := c18
                exfalso; omega
            · have c15 : (z14 : Int) = 32 := c15
              refine yG.num (c := 3) rfl (fun _ _ => rfl) (by decide) ?_
              refine yG.goto rfl (t := 92) rfl ?_
              refine yG.putI A_hp.1 (w_thrown W) (by decide) rfl rfl (.inl rfl) ⟨by omega, by omega⟩ (by omega) (by omega) (fun h33 T_h33 b_h33 f_h33 y_h33 => ?_)
              have A_h33 := A_hp.putF T_h33 b_h33 f_h33 (by decide)
              have g56_h33 : ys h33 2073 56 = ys hp 2073 56 := (y_h33 2073 56).trans (if_neg (by omega))
              have g0_h33 : ys h33 2073 0 = 3 := (y_h33 2073 0).trans (if_pos ⟨rfl, rfl⟩)
              refine yG.load xak rfl (fun _ _ => rfl) (v := yR 2073) rfl rfl ?_
              refine yG.getI A_h33.1 (w_thrown W) rfl rfl (fun z34 e_z34 i_z34 l_z34 u_z34 => ?_)
              refine yG.ifz rfl (t := 104) rfl ⟨by omega, by omega⟩ (fun c35 => ?_) (fun c35 => ?_)
              · have c35 : (z34 : Int) ≤ 0 := c35
                exfalso; omega
              · have c35 : (z34 : Int) > 0 := c35
                refine yG.num (c := 0) rfl (fun _ _ => rfl) (by decide) ?_
                refine yG.ret rfl (fun _ _ => rfl) ?_
                exact yP.int ⟨by omega, by omega⟩ ⟨⟨0, rfl, by omega, by omega⟩, A_h33⟩
          · have c13 : (z12 : Int) = 0 := c13
            refine yG.num (c := 1) rfl (fun _ _ => rfl) (by decide) ?_
            refine yG.goto rfl (t := 92) rfl ?_
            refine yG.putI A_hp.1 (w_thrown W) (by decide) rfl rfl (.inl rfl) ⟨by omega, by omega⟩ (by omega) (by omega) (fun h36 T_h36 b_h36 f_h36 y_h36 => ?_)
            have A_h36 := A_hp.putF T_h36 b_h36 f_h36 (by decide)
            have g0_h36 : ys h36 2073 0 = 1 := (y_h36 2073 0).trans (if_pos ⟨rfl, rfl⟩)
            refine yG.load xak rfl (fun _ _ => rfl) (v := yR 2073) rfl rfl ?_
            refine yG.getI A_h36.1 (w_thrown W) rfl rfl (fun z37 e_z37 i_z37 l_z37 u_z37 => ?_)
            refine yG.ifz rfl (t := 104) rfl ⟨by omega, by omega⟩ (fun c38 => ?_) (fun c38 => ?_)
            · have c38 : (z37 : Int) ≤ 0 := c38
              exfalso; omega
            · have c38 : (z37 : Int) > 0 := c38
              refine yG.num (c := 0) rfl (fun _ _ => rfl) (by decide) ?_
              refine yG.ret rfl (fun _ _ => rfl) ?_
              exact yP.int ⟨by omega, by omega⟩ ⟨⟨0, rfl, by omega, by omega⟩, A_h36⟩
      · have c6 : (z5 : Int) = 0 := c6
        refine yG.num (c := 2) rfl (fun _ _ => rfl) (by decide) ?_
        refine yG.goto rfl (t := 92) rfl ?_
        refine yG.putI A_hp.1 (w_thrown W) (by decide) rfl rfl (.inl rfl) ⟨by omega, by omega⟩ (by omega) (by omega) (fun h39 T_h39 b_h39 f_h39 y_h39 => ?_)
        have A_h39 := A_hp.putF T_h39 b_h39 f_h39 (by decide)
        have g0_h39 : ys h39 2073 0 = 2 := (y_h39 2073 0).trans (if_pos ⟨rfl, rfl⟩)
        refine yG.load xak rfl (fun _ _ => rfl) (v := yR 2073) rfl rfl ?_
        refine yG.getI A_h39.1 (w_thrown W) rfl rfl (fun z40 e_z40 i_z40 l_z40 u_z40 => ?_)
        refine yG.ifz rfl (t := 104) rfl ⟨by omega, by omega⟩ (fun c41 => ?_) (fun c41 => ?_)
        · have c41 : (z40 : Int) ≤ 0 := c41
          exfalso; omega
        · have c41 : (z40 : Int) > 0 := c41
          refine yG.num (c := 0) rfl (fun _ _ => rfl) (by decide) ?_
          refine yG.ret rfl (fun _ _ => rfl) ?_
          exact yP.int ⟨by omega, by omega⟩ ⟨⟨0, rfl, by omega, by omega⟩, A_h39⟩
    · have c3 : (p1 : Int) = 0 := c3
      refine yG.num (c := 2) rfl (fun _ _ => rfl) (by decide) ?_
      refine yG.goto rfl (t := 33) rfl ?_
      refine yG.ialdF A_hp.1 (p_count W) rfl rfl (by omega) (by omega) (fun z42 e_z42 i_z42 l_z42 u_z42 => ?_)
      refine yG.num (c := 1) rfl (fun _ _ => rfl) (by decide) ?_
      refine yG.isub rfl ?_
      refine yG.i2l rfl ⟨by omega, by omega⟩ ?_
      refine yG.invS (rest := [yR 2073]) rfl rfl rfl rfl (a_in W d A_hp.1 (p2) (0) (z42 - 1) (by omega) (by omega) (by omega) (by omega) (by omega) (by omega)) (fun rv hp9 q9 => ?_)
      obtain ⟨⟨z43, rfl, l_z43, u_z43, r_z43⟩, e9⟩ := q9
      rw [e9]
      show yG _ _ _ _ _ _ _ _ _ _ (yI z43 :: [yR 2073]) _
      refine yG.ifz rfl (t := 47) rfl ⟨by omega, by omega⟩ (fun c44 => ?_) (fun c44 => ?_)
      · have c44 : (z43 : Int) ≠ 0 := c44
        refine yG.load xik rfl (fun _ _ => rfl) (v := yI (p3)) rfl rfl ?_
        refine yG.i2l rfl ⟨by omega, by omega⟩ ?_
        refine yG.numl (c := -99999) rfl (fun _ _ => rfl) (by decide) ?_
        refine yG.numl (c := 99999) rfl (fun _ _ => rfl) (by decide) ?_
        refine yG.invS (rest := [yR 2073]) rfl rfl rfl rfl (a_in W d A_hp.1 (p3) ((-99999)) (99999) (by omega) (by omega) (by omega) (by omega) (by omega) (by omega)) (fun rv hp9 q9 => ?_)
        obtain ⟨⟨z45, rfl, l_z45, u_z45, r_z45⟩, e9⟩ := q9
        rw [e9]
        show yG _ _ _ _ _ _ _ _ _ _ (yI z45 :: [yR 2073]) _
        refine yG.ifz rfl (t := 74) rfl ⟨by omega, by omega⟩ (fun c46 => ?_) (fun c46 => ?_)
        · have c46 : (z45 : Int) = 0 := c46
          refine yG.num (c := 1) rfl (fun _ _ => rfl) (by decide) ?_
          refine yG.goto rfl (t := 92) rfl ?_
          refine yG.putI A_hp.1 (w_thrown W) (by decide) rfl rfl (.inl rfl) ⟨by omega, by omega⟩ (by omega) (by omega) (fun h47 T_h47 b_h47 f_h47 y_h47 => ?_)
          have A_h47 := A_hp.putF T_h47 b_h47 f_h47 (by decide)
          have g0_h47 : ys h47 2073 0 = 1 := (y_h47 2073 0).trans (if_pos ⟨rfl, rfl⟩)
          refine yG.load xak rfl (fun _ _ => rfl) (v := yR 2073) rfl rfl ?_
          refine yG.getI A_h47.1 (w_thrown W) rfl rfl (fun z48 e_z48 i_z48 l_z48 u_z48 => ?_)
          refine yG.ifz rfl (t := 104) rfl ⟨by omega, by omega⟩ (fun c49 => ?_) (fun c49 => ?_)
          · have c49 : (z48 : Int) ≤ 0 := c49
            exfalso; omega
          · have c49 : (z48 : Int) > 0 := c49
            refine yG.num (c := 0) rfl (fun _ _ => rfl) (by decide) ?_
            refine yG.ret rfl (fun _ _ => rfl) ?_
            exact yP.int ⟨by omega, by omega⟩ ⟨⟨0, rfl, by omega, by omega⟩, A_h47⟩
        · have c46 : (z45 : Int) ≠ 0 := c46
          refine yG.load xik rfl (fun _ _ => rfl) (v := yI (p4)) rfl rfl ?_
          refine yG.i2l rfl ⟨by omega, by omega⟩ ?_
          refine yG.numl (c := 1) rfl (fun _ _ => rfl) (by decide) ?_
          refine yG.numl (c := 99) rfl (fun _ _ => rfl) (by decide) ?_
          refine yG.invS (rest := [yR 2073]) rfl rfl rfl rfl (a_in W d A_hp.1 (p4) (1) (99) (by omega) (by omega) (by omega) (by omega) (by omega) (by omega)) (fun rv hp9 q9 => ?_)
          obtain ⟨⟨z50, rfl, l_z50, u_z50, r_z50⟩, e9⟩ := q9
          rw [e9]
          show yG _ _ _ _ _ _ _ _ _ _ (yI z50 :: [yR 2073]) _
          refine yG.ifz rfl (t := 78) rfl ⟨by omega, by omega⟩ (fun c51 => ?_) (fun c51 => ?_)
          · have c51 : (z50 : Int) ≠ 0 := c51
            refine yG.load xak rfl (fun _ _ => rfl) (v := yR 2073) rfl rfl ?_
            refine yG.getI A_hp.1 (w_meters W) rfl rfl (fun z52 e_z52 i_z52 l_z52 u_z52 => ?_)
            refine yG.num (c := 32) rfl (fun _ _ => rfl) (by decide) ?_
            refine yG.icmp rfl (t := 91) rfl ⟨by omega, by omega⟩ ⟨by omega, by omega⟩ (fun c53 => ?_) (fun c53 => ?_)
            · have c53 : (z52 : Int) ≠ 32 := c53
              refine yG.num (c := 0) rfl (fun _ _ => rfl) (by decide) ?_
              refine yG.putI A_hp.1 (w_thrown W) (by decide) rfl rfl (.inl rfl) ⟨by omega, by omega⟩ (by omega) (by omega) (fun h54 T_h54 b_h54 f_h54 y_h54 => ?_)
              have A_h54 := A_hp.putF T_h54 b_h54 f_h54 (by decide)
              have g56_h54 : ys h54 2073 56 = ys hp 2073 56 := (y_h54 2073 56).trans (if_neg (by omega))
              have g0_h54 : ys h54 2073 0 = 0 := (y_h54 2073 0).trans (if_pos ⟨rfl, rfl⟩)
              refine yG.load xak rfl (fun _ _ => rfl) (v := yR 2073) rfl rfl ?_
              refine yG.getI A_h54.1 (w_thrown W) rfl rfl (fun z55 e_z55 i_z55 l_z55 u_z55 => ?_)
              refine yG.ifz rfl (t := 104) rfl ⟨by omega, by omega⟩ (fun c56 => ?_) (fun c56 => ?_)
              · have c56 : (z55 : Int) ≤ 0 := c56
                refine yG.load xak rfl (fun _ _ => rfl) (v := yR 2073) rfl rfl ?_
                refine yG.getR A_h54.1 (r_meterKind W) rfl rfl ?_
                refine yG.load xak rfl (fun _ _ => rfl) (v := yR 2073) rfl rfl ?_
                refine yG.getI A_h54.1 (w_meters W) rfl rfl (fun z57 e_z57 i_z57 l_z57 u_z57 => ?_)
                refine yG.load xik rfl (fun _ _ => rfl) (v := yI (p1)) rfl rfl ?_
                refine yG.iast A_h54.1 (v_meterKind W) (by decide) rfl (by omega) (by omega) ⟨by omega, by omega⟩ (by omega) (by omega) (fun h58 T_h58 b_h58 f_h58 y_h58 => ?_)
                have A_h58 := A_h54.putA T_h58 b_h58 f_h58 (by decide)
                have g56_h58 : ys h58 2073 56 = ys h54 2073 56 := (y_h58 2073 56).trans (if_neg (by omega))
                have g0_h58 : ys h58 2073 0 = ys h54 2073 0 := (y_h58 2073 0).trans (if_neg (by omega))
                refine yG.load xak rfl (fun _ _ => rfl) (v := yR 2073) rfl rfl ?_
                refine yG.getR A_h58.1 (r_meterAt W) rfl rfl ?_
                refine yG.load xak rfl (fun _ _ => rfl) (v := yR 2073) rfl rfl ?_
                refine yG.getI A_h58.1 (w_meters W) rfl rfl (fun z59 e_z59 i_z59 l_z59 u_z59 => ?_)
                refine yG.load xik rfl (fun _ _ => rfl) (v := yI (p2)) rfl rfl ?_
                refine yG.iast A_h58.1 (v_meterAt W) (by decide) rfl (by omega) (by omega) ⟨by omega, by omega⟩ (by omega) (by omega) (fun h60 T_h60 b_h60 f_h60 y_h60 => ?_)
                have A_h60 := A_h58.putA T_h60 b_h60 f_h60 (by decide)
                have g56_h60 : ys h60 2073 56 = ys h58 2073 56 := (y_h60 2073 56).trans (if_neg (by omega))
                have g0_h60 : ys h60 2073 0 = ys h58 2073 0 := (y_h60 2073 0).trans (if_neg (by omega))
                refine yG.load xak rfl (fun _ _ => rfl) (v := yR 2073) rfl rfl ?_
                refine yG.getR A_h60.1 (r_meterValue W) rfl rfl ?_
                refine yG.load xak rfl (fun _ _ => rfl) (v := yR 2073) rfl rfl ?_
                refine yG.getI A_h60.1 (w_meters W) rfl rfl (fun z61 e_z61 i_z61 l_z61 u_z61 => ?_)
                refine yG.load xik rfl (fun _ _ => rfl) (v := yI (p3)) rfl rfl ?_
                refine yG.iast A_h60.1 (v_meterValue W) (by decide) rfl (by omega) (by omega) ⟨by omega, by omega⟩ (by omega) (by omega) (fun h62 T_h62 b_h62 f_h62 y_h62 => ?_)
                have A_h62 := A_h60.putA T_h62 b_h62 f_h62 (by decide)
                have g56_h62 : ys h62 2073 56 = ys h60 2073 56 := (y_h62 2073 56).trans (if_neg (by omega))
                have g0_h62 : ys h62 2073 0 = ys h60 2073 0 := (y_h62 2073 0).trans (if_neg (by omega))
                refine yG.load xak rfl (fun _ _ => rfl) (v := yR 2073) rfl rfl ?_
                refine yG.getR A_h62.1 (r_meterWeight W) rfl rfl ?_
                refine yG.load xak rfl (fun _ _ => rfl) (v := yR 2073) rfl rfl ?_
                refine yG.getI A_h62.1 (w_meters W) rfl rfl (fun z63 e_z63 i_z63 l_z63 u_z63 => ?_)
                refine yG.load xik rfl (fun _ _ => rfl) (v := yI (p4)) rfl rfl ?_
                refine yG.iast A_h62.1 (v_meterWeight W) (by decide) rfl (by omega) (by omega) ⟨by omega, by omega⟩ (by omega) (by omega) (fun h64 T_h64 b_h64 f_h64 y_h64 => ?_)
                have A_h64 := A_h62.putA T_h64 b_h64 f_h64 (by decide)
                have g56_h64 : ys h64 2073 56 = ys h62 2073 56 := (y_h64 2073 56).trans (if_neg (by omega))
                have g0_h64 : ys h64 2073 0 = ys h62 2073 0 := (y_h64 2073 0).trans (if_neg (by omega))
                refine yG.load xak rfl (fun _ _ => rfl) (v := yR 2073) rfl rfl ?_
                refine yG.getR A_h64.1 (r_isStruck W) rfl rfl ?_
                refine yG.load xak rfl (fun _ _ => rfl) (v := yR 2073) rfl rfl ?_
                refine yG.getI A_h64.1 (w_meters W) rfl rfl (fun z65 e_z65 i_z65 l_z65 u_z65 => ?_)
                refine yG.num (c := 0) rfl (fun _ _ => rfl) (by decide) ?_
                refine yG.bast A_h64.1 (v_isStruck W) (by decide) rfl (by omega) (by omega) ⟨by omega, by omega⟩ (by omega) (by omega) (fun h66 T_h66 b_h66 f_h66 y_h66 => ?_)
                have A_h66 := A_h64.putA T_h66 b_h66 f_h66 (by decide)
                have g56_h66 : ys h66 2073 56 = ys h64 2073 56 := (y_h66 2073 56).trans (if_neg (by omega))
                have g0_h66 : ys h66 2073 0 = ys h64 2073 0 := (y_h66 2073 0).trans (if_neg (by omega))
                refine yG.load xak rfl (fun _ _ => rfl) (v := yR 2073) rfl rfl ?_
                refine yG.step (pc' := 157) (stk' := [yR 2073, yR 2073]) rfl (fun _ _ => rfl) ?_
                refine yG.getI A_h66.1 (w_meters W) rfl rfl (fun z67 e_z67 i_z67 l_z67 u_z67 => ?_)
                refine yG.num (c := 1) rfl (fun _ _ => rfl) (by decide) ?_
                refine yG.iadd rfl ?_
                refine yG.putI A_h66.1 (w_meters W) (by decide) rfl rfl (.inl rfl) ⟨by omega, by omega⟩ (by omega) (by omega) (fun h68 T_h68 b_h68 f_h68 y_h68 => ?_)
                have A_h68 := A_h66.putF T_h68 b_h68 f_h68 (by decide)
                have g0_h68 : ys h68 2073 0 = ys h66 2073 0 := (y_h68 2073 0).trans (if_neg (by omega))
                have g56_h68 : ys h68 2073 56 = z67 + 1 := (y_h68 2073 56).trans (if_pos ⟨rfl, rfl⟩)
                refine yG.load xak rfl (fun _ _ => rfl) (v := yR 2073) rfl rfl ?_
                refine yG.num (c := 0) rfl (fun _ _ => rfl) (by decide) ?_
                refine yG.putI A_h68.1 (w_hasEstimates W) (by decide) rfl rfl (.inr ⟨rfl, rfl, rfl⟩) ⟨by omega, by omega⟩ (by omega) (by omega) (fun h69 T_h69 b_h69 f_h69 y_h69 => ?_)
                have A_h69 := A_h68.putF T_h69 b_h69 f_h69 (by decide)
                have g56_h69 : ys h69 2073 56 = ys h68 2073 56 := (y_h69 2073 56).trans (if_neg (by omega))
                have g0_h69 : ys h69 2073 0 = ys h68 2073 0 := (y_h69 2073 0).trans (if_neg (by omega))
                have g62_h69 : ys h69 2073 62 = 0 := (y_h69 2073 62).trans (if_pos ⟨rfl, rfl⟩)
                refine yG.load xak rfl (fun _ _ => rfl) (v := yR 2073) rfl rfl ?_
                refine yG.getI A_h69.1 (w_meters W) rfl rfl (fun z70 e_z70 i_z70 l_z70 u_z70 => ?_)
                refine yG.num (c := 1) rfl (fun _ _ => rfl) (by decide) ?_
                refine yG.isub rfl ?_
                refine yG.ret rfl (fun _ _ => rfl) ?_
                exact yP.int ⟨by omega, by omega⟩ ⟨⟨z70 - 1, rfl, by omega, by omega⟩, A_h69⟩
              · have c56 : (z55 : Int) > 0 := c56
                exfalso; omega
            · have c53 : (z52 : Int) = 32 := c53
              refine yG.num (c := 3) rfl (fun _ _ => rfl) (by decide) ?_
              refine yG.goto rfl (t := 92) rfl ?_
              refine yG.putI A_hp.1 (w_thrown W) (by decide) rfl rfl (.inl rfl) ⟨by omega, by omega⟩ (by omega) (by omega) (fun h71 T_h71 b_h71 f_h71 y_h71 => ?_)
              have A_h71 := A_hp.putF T_h71 b_h71 f_h71 (by decide)
              have g56_h71 : ys h71 2073 56 = ys hp 2073 56 := (y_h71 2073 56).trans (if_neg (by omega))
              have g0_h71 : ys h71 2073 0 = 3 := (y_h71 2073 0).trans (if_pos ⟨rfl, rfl⟩)
              refine yG.load xak rfl (fun _ _ => rfl) (v := yR 2073) rfl rfl ?_
              refine yG.getI A_h71.1 (w_thrown W) rfl rfl (fun z72 e_z72 i_z72 l_z72 u_z72 => ?_)
              refine yG.ifz rfl (t := 104) rfl ⟨by omega, by omega⟩ (fun c73 => ?_) (fun c73 => ?_)
              · have c73 : (z72 : Int) ≤ 0 := c73
                exfalso; omega
              · have c73 : (z72 : Int) > 0 := c73
                refine yG.num (c := 0) rfl (fun _ _ => rfl) (by decide) ?_
                refine yG.ret rfl (fun _ _ => rfl) ?_
                exact yP.int ⟨by omega, by omega⟩ ⟨⟨0, rfl, by omega, by omega⟩, A_h71⟩
          · have c51 : (z50 : Int) = 0 := c51
            refine yG.num (c := 1) rfl (fun _ _ => rfl) (by decide) ?_
            refine yG.goto rfl (t := 92) rfl ?_
            refine yG.putI A_hp.1 (w_thrown W) (by decide) rfl rfl (.inl rfl) ⟨by omega, by omega⟩ (by omega) (by omega) (fun h74 T_h74 b_h74 f_h74 y_h74 => ?_)
            have A_h74 := A_hp.putF T_h74 b_h74 f_h74 (by decide)
            have g0_h74 : ys h74 2073 0 = 1 := (y_h74 2073 0).trans (if_pos ⟨rfl, rfl⟩)
            refine yG.load xak rfl (fun _ _ => rfl) (v := yR 2073) rfl rfl ?_
            refine yG.getI A_h74.1 (w_thrown W) rfl rfl (fun z75 e_z75 i_z75 l_z75 u_z75 => ?_)
            refine yG.ifz rfl (t := 104) rfl ⟨by omega, by omega⟩ (fun c76 => ?_) (fun c76 => ?_)
            · have c76 : (z75 : Int) ≤ 0 := c76
              exfalso; omega
            · have c76 : (z75 : Int) > 0 := c76
              refine yG.num (c := 0) rfl (fun _ _ => rfl) (by decide) ?_
              refine yG.ret rfl (fun _ _ => rfl) ?_
              exact yP.int ⟨by omega, by omega⟩ ⟨⟨0, rfl, by omega, by omega⟩, A_h74⟩
      · have c44 : (z43 : Int) = 0 := c44
        refine yG.num (c := 2) rfl (fun _ _ => rfl) (by decide) ?_
        refine yG.goto rfl (t := 92) rfl ?_
        refine yG.putI A_hp.1 (w_thrown W) (by decide) rfl rfl (.inl rfl) ⟨by omega, by omega⟩ (by omega) (by omega) (fun h77 T_h77 b_h77 f_h77 y_h77 => ?_)
        have A_h77 := A_hp.putF T_h77 b_h77 f_h77 (by decide)
        have g0_h77 : ys h77 2073 0 = 2 := (y_h77 2073 0).trans (if_pos ⟨rfl, rfl⟩)
        refine yG.load xak rfl (fun _ _ => rfl) (v := yR 2073) rfl rfl ?_
        refine yG.getI A_h77.1 (w_thrown W) rfl rfl (fun z78 e_z78 i_z78 l_z78 u_z78 => ?_)
        refine yG.ifz rfl (t := 104) rfl ⟨by omega, by omega⟩ (fun c79 => ?_) (fun c79 => ?_)
        · have c79 : (z78 : Int) ≤ 0 := c79
          exfalso; omega
        · have c79 : (z78 : Int) > 0 := c79
          refine yG.num (c := 0) rfl (fun _ _ => rfl) (by decide) ?_
          refine yG.ret rfl (fun _ _ => rfl) ?_
          exact yP.int ⟨by omega, by omega⟩ ⟨⟨0, rfl, by omega, by omega⟩, A_h77⟩
  · have c2 : (z1 : Int) = 0 := c2
    refine yG.num (c := 1) rfl (fun _ _ => rfl) (by decide) ?_
    refine yG.goto rfl (t := 92) rfl ?_
    refine yG.putI A_hp.1 (w_thrown W) (by decide) rfl rfl (.inl rfl) ⟨by omega, by omega⟩ (by omega) (by omega) (fun h80 T_h80 b_h80 f_h80 y_h80 => ?_)
    have A_h80 := A_hp.putF T_h80 b_h80 f_h80 (by decide)
    have g0_h80 : ys h80 2073 0 = 1 := (y_h80 2073 0).trans (if_pos ⟨rfl, rfl⟩)
    refine yG.load xak rfl (fun _ _ => rfl) (v := yR 2073) rfl rfl ?_
    refine yG.getI A_h80.1 (w_thrown W) rfl rfl (fun z81 e_z81 i_z81 l_z81 u_z81 => ?_)
    refine yG.ifz rfl (t := 104) rfl ⟨by omega, by omega⟩ (fun c82 => ?_) (fun c82 => ?_)
    · have c82 : (z81 : Int) ≤ 0 := c82
      exfalso; omega
    · have c82 : (z81 : Int) > 0 := c82
      refine yG.num (c := 0) rfl (fun _ _ => rfl) (by decide) ?_
      refine yG.ret rfl (fun _ _ => rfl) ?_
      exact yP.int ⟨by omega, by omega⟩ ⟨⟨0, rfl, by omega, by omega⟩, A_h80⟩
theorem a_shortIs {hp : xH} (W : yWW G) (d : Nat) (hT : zTy G hp) (p1 p2 p3 p4 p5 : Int) (h1l : 0 ≤ p1) (h1u : p1 ≤ 3) (h2l : 0 ≤ p2) (h2u : p2 ≤ 1) (h3l : 0 ≤ p3) (h3u : p3 ≤ 19) (h4l : 0 ≤ p4) (h4u : p4 ≤ 15) (h5l : 0 ≤ p5) (h5u : p5 ≤ 99) : yC (xcall 89 xfts xpools xms (d + 2)) 510 [yR 2073, yI (p1), yI (p2), yI (p3), yI (p4), yI (p5)] hp (yQv G [40, 49, 62, 68, 69, 70, 71, 72, 73, 77, 90, 101] [] hp) := by
  have A_hp : yAx G [40, 49, 62, 68, 69, 70, 71, 72, 73, 77, 90, 101] [] hp hp := yAx.rf hT
  refine yC.of (M := (xt_X13_shortIs, (6, (0, (14, []))))) rfl rfl (N := 69) (yfuel (by decide)) ?_
  show yG 89 xfts (xcall 89 xfts xpools xms (d + 1)) (xpool xp_RX13) [] xt_X13_shortIs (yP 0 (yQv G [40, 49, 62, 68, 69, 70, 71, 72, 73, 77, 90, 101] [] hp)) 69 0 [(0, yR 2073), (1, yI (p1)), (2, yI (p2)), (3, yI (p3)), (4, yI (p4)), (5, yI (p5))] [] hp
  refine yG.load xak rfl (fun _ _ => rfl) (v := yR 2073) rfl rfl ?_
  refine yG.num (c := 1) rfl (fun _ _ => rfl) (by decide) ?_
  refine yG.putI A_hp.1 (w_hasShort W) (by decide) rfl rfl (.inr ⟨rfl, rfl, rfl⟩) ⟨by omega, by omega⟩ (by omega) (by omega) (fun h1 T_h1 b_h1 f_h1 y_h1 => ?_)
  have A_h1 := A_hp.putF T_h1 b_h1 f_h1 (by decide)
  have g68_h1 : ys h1 2073 68 = 1 := (y_h1 2073 68).trans (if_pos ⟨rfl, rfl⟩)
  refine yG.load xak rfl (fun _ _ => rfl) (v := yR 2073) rfl rfl ?_
  refine yG.load xik rfl (fun _ _ => rfl) (v := yI (p1)) rfl rfl ?_
  refine yG.putI A_h1.1 (w_shortKind W) (by decide) rfl rfl (.inl rfl) ⟨by omega, by omega⟩ (by omega) (by omega) (fun h2 T_h2 b_h2 f_h2 y_h2 => ?_)
  have A_h2 := A_h1.putF T_h2 b_h2 f_h2 (by decide)
  have g68_h2 : ys h2 2073 68 = ys h1 2073 68 := (y_h2 2073 68).trans (if_neg (by omega))
  have g69_h2 : ys h2 2073 69 = p1 := (y_h2 2073 69).trans (if_pos ⟨rfl, rfl⟩)
  refine yG.load xak rfl (fun _ _ => rfl) (v := yR 2073) rfl rfl ?_
  refine yG.load xik rfl (fun _ _ => rfl) (v := yI (p2)) rfl rfl ?_
  refine yG.putI A_h2.1 (w_isOnLine W) (by decide) rfl rfl (.inr ⟨rfl, rfl, rfl⟩) ⟨by omega, by omega⟩ (by omega) (by omega) (fun h3 T_h3 b_h3 f_h3 y_h3 => ?_)
  have A_h3 := A_h2.putF T_h3 b_h3 f_h3 (by decide)
  have g68_h3 : ys h3 2073 68 = ys h2 2073 68 := (y_h3 2073 68).trans (if_neg (by omega))
  have g69_h3 : ys h3 2073 69 = ys h2 2073 69 := (y_h3 2073 69).trans (if_neg (by omega))
  have g70_h3 : ys h3 2073 70 = p2 := (y_h3 2073 70).trans (if_pos ⟨rfl, rfl⟩)
  refine yG.load xak rfl (fun _ _ => rfl) (v := yR 2073) rfl rfl ?_
  refine yG.load xik rfl (fun _ _ => rfl) (v := yI (p3)) rfl rfl ?_
  refine yG.putI A_h3.1 (w_shortPlace W) (by decide) rfl rfl (.inl rfl) ⟨by omega, by omega⟩ (by omega) (by omega) (fun h4 T_h4 b_h4 f_h4 y_h4 => ?_)
  have A_h4 := A_h3.putF T_h4 b_h4 f_h4 (by decide)
  have g68_h4 : ys h4 2073 68 = ys h3 2073 68 := (y_h4 2073 68).trans (if_neg (by omega))
  have g69_h4 : ys h4 2073 69 = ys h3 2073 69 := (y_h4 2073 69).trans (if_neg (by omega))
  have g70_h4 : ys h4 2073 70 = ys h3 2073 70 := (y_h4 2073 70).trans (if_neg (by omega))
  have g71_h4 : ys h4 2073 71 = p3 := (y_h4 2073 71).trans (if_pos ⟨rfl, rfl⟩)
  refine yG.load xak rfl (fun _ _ => rfl) (v := yR 2073) rfl rfl ?_
  refine yG.load xik rfl (fun _ _ => rfl) (v := yI (p4)) rfl rfl ?_
  refine yG.putI A_h4.1 (w_shortK W) (by decide) rfl rfl (.inl rfl) ⟨by omega, by omega⟩ (by omega) (by omega) (fun h5 T_h5 b_h5 f_h5 y_h5 => ?_)
  have A_h5 := A_h4.putF T_h5 b_h5 f_h5 (by decide)
  have g68_h5 : ys h5 2073 68 = ys h4 2073 68 := (y_h5 2073 68).trans (if_neg (by omega))
  have g69_h5 : ys h5 2073 69 = ys h4 2073 69 := (y_h5 2073 69).trans (if_neg (by omega))
  have g70_h5 : ys h5 2073 70 = ys h4 2073 70 := (y_h5 2073 70).trans (if_neg (by omega))
  have g71_h5 : ys h5 2073 71 = ys h4 2073 71 := (y_h5 2073 71).trans (if_neg (by omega))
  have g72_h5 : ys h5 2073 72 = p4 := (y_h5 2073 72).trans (if_pos ⟨rfl, rfl⟩)
  refine yG.load xak rfl (fun _ _ => rfl) (v := yR 2073) rfl rfl ?_
  refine yG.load xik rfl (fun _ _ => rfl) (v := yI (p5)) rfl rfl ?_
  refine yG.putI A_h5.1 (w_shortZ W) (by decide) rfl rfl (.inl rfl) ⟨by omega, by omega⟩ (by omega) (by omega) (fun h6 T_h6 b_h6 f_h6 y_h6 => ?_)
  have A_h6 := A_h5.putF T_h6 b_h6 f_h6 (by decide)
  have g68_h6 : ys h6 2073 68 = ys h5 2073 68 := (y_h6 2073 68).trans (if_neg (by omega))
  have g69_h6 : ys h6 2073 69 = ys h5 2073 69 := (y_h6 2073 69).trans (if_neg (by omega))
  have g70_h6 : ys h6 2073 70 = ys h5 2073 70 := (y_h6 2073 70).trans (if_neg (by omega))
  have g71_h6 : ys h6 2073 71 = ys h5 2073 71 := (y_h6 2073 71).trans (if_neg (by omega))
  have g72_h6 : ys h6 2073 72 = ys h5 2073 72 := (y_h6 2073 72).trans (if_neg (by omega))
  have g73_h6 : ys h6 2073 73 = p5 := (y_h6 2073 73).trans (if_pos ⟨rfl, rfl⟩)
  refine yG.load xak rfl (fun _ _ => rfl) (v := yR 2073) rfl rfl ?_
  refine yG.invV (rest := []) A_h6.1 W.m.1 rfl rfl rfl rfl (a_changed W d A_h6.1) (fun rv h8 q9 => ?_)
  obtain ⟨rfl, B_h8⟩ := q9
  have A_h8 := A_h6.tr (B_h8.sub (by decide) (by decide))
  have g68_h8 : ys h8 2073 68 = ys h6 2073 68 := B_h8.ys (by decide) (by decide)
  have g69_h8 : ys h8 2073 69 = ys h6 2073 69 := B_h8.ys (by decide) (by decide)
  have g70_h8 : ys h8 2073 70 = ys h6 2073 70 := B_h8.ys (by decide) (by decide)
  have g71_h8 : ys h8 2073 71 = ys h6 2073 71 := B_h8.ys (by decide) (by decide)
  have g72_h8 : ys h8 2073 72 = ys h6 2073 72 := B_h8.ys (by decide) (by decide)
  have g73_h8 : ys h8 2073 73 = ys h6 2073 73 := B_h8.ys (by decide) (by decide)
  show yG _ _ _ _ _ _ _ _ _ _ [] _
  refine yG.ret rfl (fun _ _ => rfl) ?_
  exact yP.void ⟨rfl, A_h8⟩
theorem a_shortAt {hp : xH} (W : yWW G) (d : Nat) (hT : zTy G hp) (p1 p2 p3 : Int) (h1l : (-2147483648) ≤ p1) (h1u : p1 ≤ 2147483647) (h2l : (-2147483648) ≤ p2) (h2u : p2 ≤ 2147483647) (h3l : (-2147483648) ≤ p3) (h3u : p3 ≤ 2147483647) : yC (xcall 89 xfts xpools xms (d + 3)) 509 [yR 2073, yI (p1), yI (p2), yI (p3)] hp (yQv G [0, 40, 49, 62, 68, 69, 70, 71, 72, 73, 77, 90, 101] [] hp) := by
  have A_hp : yAx G [0, 40, 49, 62, 68, 69, 70, 71, 72, 73, 77, 90, 101] [] hp hp := yAx.rf hT
  refine yC.of (M := (xt_X13_shortAt, (4, (0, (14, []))))) rfl rfl (N := 120) (yfuel (by decide)) ?_
  show yG 89 xfts (xcall 89 xfts xpools xms (d + 2)) (xpool xp_RX13) [] xt_X13_shortAt (yP 0 (yQv G [0, 40, 49, 62, 68, 69, 70, 71, 72, 73, 77, 90, 101] [] hp)) 120 0 [(0, yR 2073), (1, yI (p1)), (2, yI (p2)), (3, yI (p3))] [] hp
  refine yG.load xak rfl (fun _ _ => rfl) (v := yR 2073) rfl rfl ?_
  refine yG.load xik rfl (fun _ _ => rfl) (v := yI (p2)) rfl rfl ?_
  refine yG.i2l rfl ⟨by omega, by omega⟩ ?_
  refine yG.numl (c := 0) rfl (fun _ _ => rfl) (by decide) ?_
  refine yG.load xak rfl (fun _ _ => rfl) (v := yR 2073) rfl rfl ?_
  refine yG.getR A_hp.1 (r_count W) rfl rfl ?_
  refine yG.num (c := 0) rfl (fun _ _ => rfl) (by decide) ?_
  refine yG.ialdF A_hp.1 (p_count W) rfl rfl (by omega) (by omega) (fun z1 e_z1 i_z1 l_z1 u_z1 => ?_)
  refine yG.num (c := 1) rfl (fun _ _ => rfl) (by decide) ?_
  refine yG.isub rfl ?_
  refine yG.i2l rfl ⟨by omega, by omega⟩ ?_
  refine yG.invS (rest := [yR 2073]) rfl rfl rfl rfl (a_in W (d + 1) A_hp.1 (p2) (0) (z1 - 1) (by omega) (by omega) (by omega) (by omega) (by omega) (by omega)) (fun rv hp9 q9 => ?_)
  obtain ⟨⟨z2, rfl, l_z2, u_z2, r_z2⟩, e9⟩ := q9
  rw [e9]
  show yG _ _ _ _ _ _ _ _ _ _ (yI z2 :: [yR 2073]) _
  refine yG.ifz rfl (t := 23) rfl ⟨by omega, by omega⟩ (fun c3 => ?_) (fun c3 => ?_)
  · have c3 : (z2 : Int) ≠ 0 := c3
    refine yG.load xik rfl (fun _ _ => rfl) (v := yI (p1)) rfl rfl ?_
    refine yG.i2l rfl ⟨by omega, by omega⟩ ?_
    refine yG.numl (c := 0) rfl (fun _ _ => rfl) (by decide) ?_
    refine yG.numl (c := 3) rfl (fun _ _ => rfl) (by decide) ?_
    refine yG.invS (rest := [yR 2073]) rfl rfl rfl rfl (a_in W (d + 1) A_hp.1 (p1) (0) (3) (by omega) (by omega) (by omega) (by omega) (by omega) (by omega)) (fun rv hp9 q9 => ?_)
    obtain ⟨⟨z4, rfl, l_z4, u_z4, r_z4⟩, e9⟩ := q9
    rw [e9]
    show yG _ _ _ _ _ _ _ _ _ _ (yI z4 :: [yR 2073]) _
    refine yG.ifz rfl (t := 47) rfl ⟨by omega, by omega⟩ (fun c5 => ?_) (fun c5 => ?_)
    · have c5 : (z4 : Int) = 0 := c5
      refine yG.num (c := 2) rfl (fun _ _ => rfl) (by decide) ?_
      refine yG.goto rfl (t := 52) rfl ?_
      refine yG.putI A_hp.1 (w_thrown W) (by decide) rfl rfl (.inl rfl) ⟨by omega, by omega⟩ (by omega) (by omega) (fun h6 T_h6 b_h6 f_h6 y_h6 => ?_)
      have A_h6 := A_hp.putF T_h6 b_h6 f_h6 (by decide)
      have g0_h6 : ys h6 2073 0 = 2 := (y_h6 2073 0).trans (if_pos ⟨rfl, rfl⟩)
      refine yG.load xak rfl (fun _ _ => rfl) (v := yR 2073) rfl rfl ?_
      refine yG.getI A_h6.1 (w_thrown W) rfl rfl (fun z7 e_z7 i_z7 l_z7 u_z7 => ?_)
      refine yG.ifz rfl (t := 71) rfl ⟨by omega, by omega⟩ (fun c8 => ?_) (fun c8 => ?_)
      · have c8 : (z7 : Int) ≠ 0 := c8
        refine yG.ret rfl (fun _ _ => rfl) ?_
        exact yP.void ⟨rfl, A_h6⟩
      · have c8 : (z7 : Int) = 0 := c8
        exfalso; omega
    · have c5 : (z4 : Int) ≠ 0 := c5
      refine yG.load xik rfl (fun _ _ => rfl) (v := yI (p3)) rfl rfl ?_
      refine yG.i2l rfl ⟨by omega, by omega⟩ ?_
      refine yG.numl (c := 0) rfl (fun _ _ => rfl) (by decide) ?_
      refine yG.numl (c := 99) rfl (fun _ _ => rfl) (by decide) ?_
      refine yG.invS (rest := [yR 2073]) rfl rfl rfl rfl (a_in W (d + 1) A_hp.1 (p3) (0) (99) (by omega) (by omega) (by omega) (by omega) (by omega) (by omega)) (fun rv hp9 q9 => ?_)
      obtain ⟨⟨z9, rfl, l_z9, u_z9, r_z9⟩, e9⟩ := q9
      rw [e9]
      show yG _ _ _ _ _ _ _ _ _ _ (yI z9 :: [yR 2073]) _
      refine yG.ifz rfl (t := 51) rfl ⟨by omega, by omega⟩ (fun c10 => ?_) (fun c10 => ?_)
      · have c10 : (z9 : Int) ≠ 0 := c10
        refine yG.num (c := 0) rfl (fun _ _ => rfl) (by decide) ?_
        refine yG.putI A_hp.1 (w_thrown W) (by decide) rfl rfl (.inl rfl) ⟨by omega, by omega⟩ (by omega) (by omega) (fun h11 T_h11 b_h11 f_h11 y_h11 => ?_)
        have A_h11 := A_hp.putF T_h11 b_h11 f_h11 (by decide)
        have g0_h11 : ys h11 2073 0 = 0 := (y_h11 2073 0).trans (if_pos ⟨rfl, rfl⟩)
        refine yG.load xak rfl (fun _ _ => rfl) (v := yR 2073) rfl rfl ?_
        refine yG.getI A_h11.1 (w_thrown W) rfl rfl (fun z12 e_z12 i_z12 l_z12 u_z12 => ?_)
        refine yG.ifz rfl (t := 71) rfl ⟨by omega, by omega⟩ (fun c13 => ?_) (fun c13 => ?_)
        · have c13 : (z12 : Int) ≠ 0 := c13
          exfalso; omega
        · have c13 : (z12 : Int) = 0 := c13
          refine yG.load xak rfl (fun _ _ => rfl) (v := yR 2073) rfl rfl ?_
          refine yG.load xik rfl (fun _ _ => rfl) (v := yI (p1)) rfl rfl ?_
          refine yG.num (c := 0) rfl (fun _ _ => rfl) (by decide) ?_
          refine yG.load xik rfl (fun _ _ => rfl) (v := yI (p2)) rfl rfl ?_
          refine yG.num (c := 0) rfl (fun _ _ => rfl) (by decide) ?_
          refine yG.load xik rfl (fun _ _ => rfl) (v := yI (p3)) rfl rfl ?_
          refine yG.invV (rest := []) A_h11.1 W.m.1 rfl rfl rfl rfl (a_shortIs W d A_h11.1 (p1) (0) (p2) (0) (p3) (by omega) (by omega) (by omega) (by omega) (by omega) (by omega) (by omega) (by omega) (by omega) (by omega)) (fun rv h15 q9 => ?_)
          obtain ⟨rfl, B_h15⟩ := q9
          have A_h15 := A_h11.tr (B_h15.sub (by decide) (by decide))
          have g0_h15 : ys h15 2073 0 = ys h11 2073 0 := B_h15.ys (by decide) (by decide)
          show yG _ _ _ _ _ _ _ _ _ _ [] _
          refine yG.ret rfl (fun _ _ => rfl) ?_
          exact yP.void ⟨rfl, A_h15⟩
      · have c10 : (z9 : Int) = 0 := c10
        refine yG.num (c := 2) rfl (fun _ _ => rfl) (by decide) ?_
        refine yG.goto rfl (t := 52) rfl ?_
        refine yG.putI A_hp.1 (w_thrown W) (by decide) rfl rfl (.inl rfl) ⟨by omega, by omega⟩ (by omega) (by omega) (fun h16 T_h16 b_h16 f_h16 y_h16 => ?_)
        have A_h16 := A_hp.putF T_h16 b_h16 f_h16 (by decide)
        have g0_h16 : ys h16 2073 0 = 2 := (y_h16 2073 0).trans (if_pos ⟨rfl, rfl⟩)
        refine yG.load xak rfl (fun _ _ => rfl) (v := yR 2073) rfl rfl ?_
        refine yG.getI A_h16.1 (w_thrown W) rfl rfl (fun z17 e_z17 i_z17 l_z17 u_z17 => ?_)
        refine yG.ifz rfl (t := 71) rfl ⟨by omega, by omega⟩ (fun c18 => ?_) (fun c18 => ?_)
        · have c18 : (z17 : Int) ≠ 0 := c18
          refine yG.ret rfl (fun _ _ => rfl) ?_
          exact yP.void ⟨rfl, A_h16⟩
        · have c18 : (z17 : Int) = 0 := c18
          exfalso; omega
  · have c3 : (z2 : Int) = 0 := c3
    refine yG.num (c := 1) rfl (fun _ _ => rfl) (by decide) ?_
    refine yG.goto rfl (t := 52) rfl ?_
    refine yG.putI A_hp.1 (w_thrown W) (by decide) rfl rfl (.inl rfl) ⟨by omega, by omega⟩ (by omega) (by omega) (fun h19 T_h19 b_h19 f_h19 y_h19 => ?_)
    have A_h19 := A_hp.putF T_h19 b_h19 f_h19 (by decide)
    have g0_h19 : ys h19 2073 0 = 1 := (y_h19 2073 0).trans (if_pos ⟨rfl, rfl⟩)
    refine yG.load xak rfl (fun _ _ => rfl) (v := yR 2073) rfl rfl ?_
    refine yG.getI A_h19.1 (w_thrown W) rfl rfl (fun z20 e_z20 i_z20 l_z20 u_z20 => ?_)
    refine yG.ifz rfl (t := 71) rfl ⟨by omega, by omega⟩ (fun c21 => ?_) (fun c21 => ?_)
    · have c21 : (z20 : Int) ≠ 0 := c21
      refine yG.ret rfl (fun _ _ => rfl) ?_
      exact yP.void ⟨rfl, A_h19⟩
    · have c21 : (z20 : Int) = 0 := c21
      exfalso; omega
theorem a_shortOn {hp : xH} (W : yWW G) (d : Nat) (hT : zTy G hp) (p1 p2 p3 p4 : Int) (h1l : (-2147483648) ≤ p1) (h1u : p1 ≤ 2147483647) (h2l : (-2147483648) ≤ p2) (h2u : p2 ≤ 2147483647) (h3l : (-2147483648) ≤ p3) (h3u : p3 ≤ 2147483647) (h4l : (-2147483648) ≤ p4) (h4u : p4 ≤ 2147483647) : yC (xcall 89 xfts xpools xms (d + 3)) 511 [yR 2073, yI (p1), yI (p2), yI (p3), yI (p4)] hp (yQv G [0, 40, 49, 62, 68, 69, 70, 71, 72, 73, 77, 90, 101] [] hp) := by
  have A_hp : yAx G [0, 40, 49, 62, 68, 69, 70, 71, 72, 73, 77, 90, 101] [] hp hp := yAx.rf hT
  refine yC.of (M := (xt_X13_shortOn, (5, (0, (14, []))))) rfl rfl (N := 138) (yfuel (by decide)) ?_
  show yG 89 xfts (xcall 89 xfts xpools xms (d + 2)) (xpool xp_RX13) [] xt_X13_shortOn (yP 0 (yQv G [0, 40, 49, 62, 68, 69, 70, 71, 72, 73, 77, 90, 101] [] hp)) 138 0 [(0, yR 2073), (1, yI (p1)), (2, yI (p2)), (3, yI (p3)), (4, yI (p4))] [] hp
  refine yG.load xak rfl (fun _ _ => rfl) (v := yR 2073) rfl rfl ?_
  refine yG.load xik rfl (fun _ _ => rfl) (v := yI (p2)) rfl rfl ?_
  refine yG.i2l rfl ⟨by omega, by omega⟩ ?_
  refine yG.numl (c := 0) rfl (fun _ _ => rfl) (by decide) ?_
  refine yG.load xak rfl (fun _ _ => rfl) (v := yR 2073) rfl rfl ?_
  refine yG.getR A_hp.1 (r_count W) rfl rfl ?_
  refine yG.num (c := 2) rfl (fun _ _ => rfl) (by decide) ?_
  refine yG.ialdF A_hp.1 (p_count W) rfl rfl (by omega) (by omega) (fun z1 e_z1 i_z1 l_z1 u_z1 => ?_)
  refine yG.num (c := 1) rfl (fun _ _ => rfl) (by decide) ?_
  refine yG.isub rfl ?_
  refine yG.i2l rfl ⟨by omega, by omega⟩ ?_
  refine yG.invS (rest := [yR 2073]) rfl rfl rfl rfl (a_in W (d + 1) A_hp.1 (p2) (0) (z1 - 1) (by omega) (by omega) (by omega) (by omega) (by omega) (by omega)) (fun rv hp9 q9 => ?_)
  obtain ⟨⟨z2, rfl, l_z2, u_z2, r_z2⟩, e9⟩ := q9
  rw [e9]
  show yG _ _ _ _ _ _ _ _ _ _ (yI z2 :: [yR 2073]) _
  refine yG.ifz rfl (t := 23) rfl ⟨by omega, by omega⟩ (fun c3 => ?_) (fun c3 => ?_)
  · have c3 : (z2 : Int) ≠ 0 := c3
    refine yG.load xik rfl (fun _ _ => rfl) (v := yI (p1)) rfl rfl ?_
    refine yG.i2l rfl ⟨by omega, by omega⟩ ?_
    refine yG.numl (c := 0) rfl (fun _ _ => rfl) (by decide) ?_
    refine yG.numl (c := 3) rfl (fun _ _ => rfl) (by decide) ?_
    refine yG.invS (rest := [yR 2073]) rfl rfl rfl rfl (a_in W (d + 1) A_hp.1 (p1) (0) (3) (by omega) (by omega) (by omega) (by omega) (by omega) (by omega)) (fun rv hp9 q9 => ?_)
    obtain ⟨⟨z4, rfl, l_z4, u_z4, r_z4⟩, e9⟩ := q9
    rw [e9]
    show yG _ _ _ _ _ _ _ _ _ _ (yI z4 :: [yR 2073]) _
    refine yG.ifz rfl (t := 60) rfl ⟨by omega, by omega⟩ (fun c5 => ?_) (fun c5 => ?_)
    · have c5 : (z4 : Int) = 0 := c5
      refine yG.num (c := 2) rfl (fun _ _ => rfl) (by decide) ?_
      refine yG.goto rfl (t := 65) rfl ?_
      refine yG.putI A_hp.1 (w_thrown W) (by decide) rfl rfl (.inl rfl) ⟨by omega, by omega⟩ (by omega) (by omega) (fun h6 T_h6 b_h6 f_h6 y_h6 => ?_)
      have A_h6 := A_hp.putF T_h6 b_h6 f_h6 (by decide)
      have g0_h6 : ys h6 2073 0 = 2 := (y_h6 2073 0).trans (if_pos ⟨rfl, rfl⟩)
      refine yG.load xak rfl (fun _ _ => rfl) (v := yR 2073) rfl rfl ?_
      refine yG.getI A_h6.1 (w_thrown W) rfl rfl (fun z7 e_z7 i_z7 l_z7 u_z7 => ?_)
      refine yG.ifz rfl (t := 85) rfl ⟨by omega, by omega⟩ (fun c8 => ?_) (fun c8 => ?_)
      · have c8 : (z7 : Int) ≠ 0 := c8
        refine yG.ret rfl (fun _ _ => rfl) ?_
        exact yP.void ⟨rfl, A_h6⟩
      · have c8 : (z7 : Int) = 0 := c8
        exfalso; omega
    · have c5 : (z4 : Int) ≠ 0 := c5
      refine yG.load xik rfl (fun _ _ => rfl) (v := yI (p3)) rfl rfl ?_
      refine yG.i2l rfl ⟨by omega, by omega⟩ ?_
      refine yG.numl (c := 1) rfl (fun _ _ => rfl) (by decide) ?_
      refine yG.numl (c := 15) rfl (fun _ _ => rfl) (by decide) ?_
      refine yG.invS (rest := [yR 2073]) rfl rfl rfl rfl (a_in W (d + 1) A_hp.1 (p3) (1) (15) (by omega) (by omega) (by omega) (by omega) (by omega) (by omega)) (fun rv hp9 q9 => ?_)
      obtain ⟨⟨z9, rfl, l_z9, u_z9, r_z9⟩, e9⟩ := q9
      rw [e9]
      show yG _ _ _ _ _ _ _ _ _ _ (yI z9 :: [yR 2073]) _
      refine yG.ifz rfl (t := 60) rfl ⟨by omega, by omega⟩ (fun c10 => ?_) (fun c10 => ?_)
      · have c10 : (z9 : Int) = 0 := c10
        refine yG.num (c := 2) rfl (fun _ _ => rfl) (by decide) ?_
        refine yG.goto rfl (t := 65) rfl ?_
        refine yG.putI A_hp.1 (w_thrown W) (by decide) rfl rfl (.inl rfl) ⟨by omega, by omega⟩ (by omega) (by omega) (fun h11 T_h11 b_h11 f_h11 y_h11 => ?_)
        have A_h11 := A_hp.putF T_h11 b_h11 f_h11 (by decide)
        have g0_h11 : ys h11 2073 0 = 2 := (y_h11 2073 0).trans (if_pos ⟨rfl, rfl⟩)
        refine yG.load xak rfl (fun _ _ => rfl) (v := yR 2073) rfl rfl ?_
        refine yG.getI A_h11.1 (w_thrown W) rfl rfl (fun z12 e_z12 i_z12 l_z12 u_z12 => ?_)
        refine yG.ifz rfl (t := 85) rfl ⟨by omega, by omega⟩ (fun c13 => ?_) (fun c13 => ?_)
        · have c13 : (z12 : Int) ≠ 0 := c13
          refine yG.ret rfl (fun _ _ => rfl) ?_
          exact yP.void ⟨rfl, A_h11⟩
        · have c13 : (z12 : Int) = 0 := c13
          exfalso; omega
      · have c10 : (z9 : Int) ≠ 0 := c10
        refine yG.load xik rfl (fun _ _ => rfl) (v := yI (p4)) rfl rfl ?_
        refine yG.i2l rfl ⟨by omega, by omega⟩ ?_
        refine yG.numl (c := 0) rfl (fun _ _ => rfl) (by decide) ?_
        refine yG.numl (c := 99) rfl (fun _ _ => rfl) (by decide) ?_
        refine yG.invS (rest := [yR 2073]) rfl rfl rfl rfl (a_in W (d + 1) A_hp.1 (p4) (0) (99) (by omega) (by omega) (by omega) (by omega) (by omega) (by omega)) (fun rv hp9 q9 => ?_)
        obtain ⟨⟨z14, rfl, l_z14, u_z14, r_z14⟩, e9⟩ := q9
        rw [e9]
        show yG _ _ _ _ _ _ _ _ _ _ (yI z14 :: [yR 2073]) _
        refine yG.ifz rfl (t := 64) rfl ⟨by omega, by omega⟩ (fun c15 => ?_) (fun c15 => ?_)
        · have c15 : (z14 : Int) ≠ 0 := c15
          refine yG.num (c := 0) rfl (fun _ _ => rfl) (by decide) ?_
          refine yG.putI A_hp.1 (w_thrown W) (by decide) rfl rfl (.inl rfl) ⟨by omega, by omega⟩ (by omega) (by omega) (fun h16 T_h16 b_h16 f_h16 y_h16 => ?_)
          have A_h16 := A_hp.putF T_h16 b_h16 f_h16 (by decide)
          have g0_h16 : ys h16 2073 0 = 0 := (y_h16 2073 0).trans (if_pos ⟨rfl, rfl⟩)
          refine yG.load xak rfl (fun _ _ => rfl) (v := yR 2073) rfl rfl ?_
          refine yG.getI A_h16.1 (w_thrown W) rfl rfl (fun z17 e_z17 i_z17 l_z17 u_z17 => ?_)
          refine yG.ifz rfl (t := 85) rfl ⟨by omega, by omega⟩ (fun c18 => ?_) (fun c18 => ?_)
          · have c18 : (z17 : Int) ≠ 0 := c18
            exfalso; omega
          · have c18 : (z17 : Int) = 0 := c18
            refine yG.load xak rfl (fun _ _ => rfl) (v := yR 2073) rfl rfl ?_
            refine yG.load xik rfl (fun _ _ => rfl) (v := yI (p1)) rfl rfl ?_
            refine yG.num (c := 1) rfl (fun _ _ => rfl) (by decide) ?_
            refine yG.load xik rfl (fun _ _ => rfl) (v := yI (p2)) rfl rfl ?_
            refine yG.load xik rfl (fun _ _ => rfl) (v := yI (p3)) rfl rfl ?_
            refine yG.load xik rfl (fun _ _ => rfl) (v := yI (p4)) rfl rfl ?_
            refine yG.invV (rest := []) A_h16.1 W.m.1 rfl rfl rfl rfl (a_shortIs W d A_h16.1 (p1) (1) (p2) (p3) (p4) (by omega) (by omega) (by omega) (by omega) (by omega) (by omega) (by omega) (by omega) (by omega) (by omega)) (fun rv h20 q9 => ?_)
            obtain ⟨rfl, B_h20⟩ := q9
            have A_h20 := A_h16.tr (B_h20.sub (by decide) (by decide))
            have g0_h20 : ys h20 2073 0 = ys h16 2073 0 := B_h20.ys (by decide) (by decide)
            show yG _ _ _ _ _ _ _ _ _ _ [] _
            refine yG.ret rfl (fun _ _ => rfl) ?_
            exact yP.void ⟨rfl, A_h20⟩
        · have c15 : (z14 : Int) = 0 := c15
          refine yG.num (c := 2) rfl (fun _ _ => rfl) (by decide) ?_
          refine yG.goto rfl (t := 65) rfl ?_
          refine yG.putI A_hp.1 (w_thrown W) (by decide) rfl rfl (.inl rfl) ⟨by omega, by omega⟩ (by omega) (by omega) (fun h21 T_h21 b_h21 f_h21 y_h21 => ?_)
          have A_h21 := A_hp.putF T_h21 b_h21 f_h21 (by decide)
          have g0_h21 : ys h21 2073 0 = 2 := (y_h21 2073 0).trans (if_pos ⟨rfl, rfl⟩)
          refine yG.load xak rfl (fun _ _ => rfl) (v := yR 2073) rfl rfl ?_
          refine yG.getI A_h21.1 (w_thrown W) rfl rfl (fun z22 e_z22 i_z22 l_z22 u_z22 => ?_)
          refine yG.ifz rfl (t := 85) rfl ⟨by omega, by omega⟩ (fun c23 => ?_) (fun c23 => ?_)
          · have c23 : (z22 : Int) ≠ 0 := c23
            refine yG.ret rfl (fun _ _ => rfl) ?_
            exact yP.void ⟨rfl, A_h21⟩
          · have c23 : (z22 : Int) = 0 := c23
            exfalso; omega
  · have c3 : (z2 : Int) = 0 := c3
    refine yG.num (c := 1) rfl (fun _ _ => rfl) (by decide) ?_
    refine yG.goto rfl (t := 65) rfl ?_
    refine yG.putI A_hp.1 (w_thrown W) (by decide) rfl rfl (.inl rfl) ⟨by omega, by omega⟩ (by omega) (by omega) (fun h24 T_h24 b_h24 f_h24 y_h24 => ?_)
    have A_h24 := A_hp.putF T_h24 b_h24 f_h24 (by decide)
    have g0_h24 : ys h24 2073 0 = 1 := (y_h24 2073 0).trans (if_pos ⟨rfl, rfl⟩)
    refine yG.load xak rfl (fun _ _ => rfl) (v := yR 2073) rfl rfl ?_
    refine yG.getI A_h24.1 (w_thrown W) rfl rfl (fun z25 e_z25 i_z25 l_z25 u_z25 => ?_)
    refine yG.ifz rfl (t := 85) rfl ⟨by omega, by omega⟩ (fun c26 => ?_) (fun c26 => ?_)
    · have c26 : (z25 : Int) ≠ 0 := c26
      refine yG.ret rfl (fun _ _ => rfl) ?_
      exact yP.void ⟨rfl, A_h24⟩
    · have c26 : (z25 : Int) = 0 := c26
      exfalso; omega
theorem a_clearShort {hp : xH} (W : yWW G) (d : Nat) (hT : zTy G hp) : yC (xcall 89 xfts xpools xms (d + 2)) 370 [yR 2073] hp (yQi G [0, 40, 49, 62, 68, 77, 90, 101] [] hp 0 1) := by
  have A_hp : yAx G [0, 40, 49, 62, 68, 77, 90, 101] [] hp hp := yAx.rf hT
  refine yC.of (M := (xt_X13_clearShort, (2, (4, (14, []))))) rfl rfl (N := 45) (yfuel (by decide)) ?_
  show yG 89 xfts (xcall 89 xfts xpools xms (d + 1)) (xpool xp_RX13) [] xt_X13_clearShort (yP 4 (yQi G [0, 40, 49, 62, 68, 77, 90, 101] [] hp 0 1)) 45 0 [(0, yR 2073)] [] hp
  refine yG.load xak rfl (fun _ _ => rfl) (v := yR 2073) rfl rfl ?_
  refine yG.num (c := 0) rfl (fun _ _ => rfl) (by decide) ?_
  refine yG.putI A_hp.1 (w_thrown W) (by decide) rfl rfl (.inl rfl) ⟨by omega, by omega⟩ (by omega) (by omega) (fun h1 T_h1 b_h1 f_h1 y_h1 => ?_)
  have A_h1 := A_hp.putF T_h1 b_h1 f_h1 (by decide)
  have g0_h1 : ys h1 2073 0 = 0 := (y_h1 2073 0).trans (if_pos ⟨rfl, rfl⟩)
  refine yG.load xak rfl (fun _ _ => rfl) (v := yR 2073) rfl rfl ?_
  refine yG.getI A_h1.1 (w_hasShort W) rfl rfl (fun z2 e_z2 i_z2 l_z2 u_z2 => ?_)
  refine yG.store1 xik (L' := [(1, yI (z2)), (0, yR 2073)]) rfl (fun _ _ => rfl) rfl rfl ?_
  refine yG.load xak rfl (fun _ _ => rfl) (v := yR 2073) rfl rfl ?_
  refine yG.num (c := 0) rfl (fun _ _ => rfl) (by decide) ?_
  refine yG.putI A_h1.1 (w_hasShort W) (by decide) rfl rfl (.inr ⟨rfl, rfl, rfl⟩) ⟨by omega, by omega⟩ (by omega) (by omega) (fun h3 T_h3 b_h3 f_h3 y_h3 => ?_)
  have A_h3 := A_h1.putF T_h3 b_h3 f_h3 (by decide)
  have g0_h3 : ys h3 2073 0 = ys h1 2073 0 := (y_h3 2073 0).trans (if_neg (by omega))
  have g68_h3 : ys h3 2073 68 = 0 := (y_h3 2073 68).trans (if_pos ⟨rfl, rfl⟩)
  refine yG.load xak rfl (fun _ _ => rfl) (v := yR 2073) rfl rfl ?_
  refine yG.invV (rest := []) A_h3.1 W.m.1 rfl rfl rfl rfl (a_changed W d A_h3.1) (fun rv h5 q9 => ?_)
  obtain ⟨rfl, B_h5⟩ := q9
  have A_h5 := A_h3.tr (B_h5.sub (by decide) (by decide))
  have g0_h5 : ys h5 2073 0 = ys h3 2073 0 := B_h5.ys (by decide) (by decide)
  have g68_h5 : ys h5 2073 68 = ys h3 2073 68 := B_h5.ys (by decide) (by decide)
  show yG _ _ _ _ _ _ _ _ _ _ [] _
  refine yG.load xik rfl (fun _ _ => rfl) (v := yI (z2)) rfl rfl ?_
  refine yG.ret rfl (fun _ _ => rfl) ?_
  exact yP.bool (by omega) ⟨⟨z2, rfl, by omega, by omega⟩, A_h5⟩
theorem a_relay {hp : xH} (W : yWW G) (d : Nat) (hT : zTy G hp) (p1 p2 p3 p4 : Int) (h1l : (-2147483648) ≤ p1) (h1u : p1 ≤ 2147483647) (h2l : (-2147483648) ≤ p2) (h2u : p2 ≤ 2147483647) (h3l : (-2147483648) ≤ p3) (h3u : p3 ≤ 2147483647) (h4l : (-2147483648) ≤ p4) (h4u : p4 ≤ 2147483647) : yC (xcall 89 xfts xpools xms (d + 2)) 491 [yR 2073, yI (p1), yI (p2), yI (p3), yI (p4)] hp (yQi G [0, 40, 49, 62, 77, 78, 90, 101] [2125, 2126, 2127, 2128, 2129] hp 0 15) := by
  have A_hp : yAx G [0, 40, 49, 62, 77, 78, 90, 101] [2125, 2126, 2127, 2128, 2129] hp hp := yAx.rf hT
  refine yC.of (M := (xt_X13_relay, (5, (1, (14, []))))) rfl rfl (N := 273) (yfuel (by decide)) ?_
  show yG 89 xfts (xcall 89 xfts xpools xms (d + 1)) (xpool xp_RX13) [] xt_X13_relay (yP 1 (yQi G [0, 40, 49, 62, 77, 78, 90, 101] [2125, 2126, 2127, 2128, 2129] hp 0 15)) 273 0 [(0, yR 2073), (1, yI (p1)), (2, yI (p2)), (3, yI (p3)), (4, yI (p4))] [] hp
  refine yG.load xak rfl (fun _ _ => rfl) (v := yR 2073) rfl rfl ?_
  refine yG.load xik rfl (fun _ _ => rfl) (v := yI (p1)) rfl rfl ?_
  refine yG.i2l rfl ⟨by omega, by omega⟩ ?_
  refine yG.numl (c := 0) rfl (fun _ _ => rfl) (by decide) ?_
  refine yG.load xak rfl (fun _ _ => rfl) (v := yR 2073) rfl rfl ?_
  refine yG.getR A_hp.1 (r_count W) rfl rfl ?_
  refine yG.num (c := 2) rfl (fun _ _ => rfl) (by decide) ?_
  refine yG.ialdF A_hp.1 (p_count W) rfl rfl (by omega) (by omega) (fun z1 e_z1 i_z1 l_z1 u_z1 => ?_)
  refine yG.num (c := 1) rfl (fun _ _ => rfl) (by decide) ?_
  refine yG.isub rfl ?_
  refine yG.i2l rfl ⟨by omega, by omega⟩ ?_
  refine yG.invS (rest := [yR 2073]) rfl rfl rfl rfl (a_in W d A_hp.1 (p1) (0) (z1 - 1) (by omega) (by omega) (by omega) (by omega) (by omega) (by omega)) (fun rv hp9 q9 => ?_)
  obtain ⟨⟨z2, rfl, l_z2, u_z2, r_z2⟩, e9⟩ := q9
  rw [e9]
  show yG _ _ _ _ _ _ _ _ _ _ (yI z2 :: [yR 2073]) _
  refine yG.ifz rfl (t := 37) rfl ⟨by omega, by omega⟩ (fun c3 => ?_) (fun c3 => ?_)
  · have c3 : (z2 : Int) = 0 := c3
    refine yG.num (c := 1) rfl (fun _ _ => rfl) (by decide) ?_
    refine yG.goto rfl (t := 80) rfl ?_
    refine yG.putI A_hp.1 (w_thrown W) (by decide) rfl rfl (.inl rfl) ⟨by omega, by omega⟩ (by omega) (by omega) (fun h4 T_h4 b_h4 f_h4 y_h4 => ?_)
    have A_h4 := A_hp.putF T_h4 b_h4 f_h4 (by decide)
    have g0_h4 : ys h4 2073 0 = 1 := (y_h4 2073 0).trans (if_pos ⟨rfl, rfl⟩)
    refine yG.load xak rfl (fun _ _ => rfl) (v := yR 2073) rfl rfl ?_
    refine yG.getI A_h4.1 (w_thrown W) rfl rfl (fun z5 e_z5 i_z5 l_z5 u_z5 => ?_)
    refine yG.ifz rfl (t := 92) rfl ⟨by omega, by omega⟩ (fun c6 => ?_) (fun c6 => ?_)
    · have c6 : (z5 : Int) ≤ 0 := c6
      exfalso; omega
    · have c6 : (z5 : Int) > 0 := c6
      refine yG.num (c := 0) rfl (fun _ _ => rfl) (by decide) ?_
      refine yG.ret rfl (fun _ _ => rfl) ?_
      exact yP.int ⟨by omega, by omega⟩ ⟨⟨0, rfl, by omega, by omega⟩, A_h4⟩
  · have c3 : (z2 : Int) ≠ 0 := c3
    refine yG.load xik rfl (fun _ _ => rfl) (v := yI (p3)) rfl rfl ?_
    refine yG.i2l rfl ⟨by omega, by omega⟩ ?_
    refine yG.numl (c := 0) rfl (fun _ _ => rfl) (by decide) ?_
    refine yG.load xak rfl (fun _ _ => rfl) (v := yR 2073) rfl rfl ?_
    refine yG.getR A_hp.1 (r_count W) rfl rfl ?_
    refine yG.num (c := 1) rfl (fun _ _ => rfl) (by decide) ?_
    refine yG.ialdF A_hp.1 (p_count W) rfl rfl (by omega) (by omega) (fun z7 e_z7 i_z7 l_z7 u_z7 => ?_)
    refine yG.num (c := 1) rfl (fun _ _ => rfl) (by decide) ?_
    refine yG.isub rfl ?_
    refine yG.i2l rfl ⟨by omega, by omega⟩ ?_
    refine yG.invS (rest := [yR 2073]) rfl rfl rfl rfl (a_in W d A_hp.1 (p3) (0) (z7 - 1) (by omega) (by omega) (by omega) (by omega) (by omega) (by omega)) (fun rv hp9 q9 => ?_)
    obtain ⟨⟨z8, rfl, l_z8, u_z8, r_z8⟩, e9⟩ := q9
    rw [e9]
    show yG _ _ _ _ _ _ _ _ _ _ (yI z8 :: [yR 2073]) _
    refine yG.ifz rfl (t := 41) rfl ⟨by omega, by omega⟩ (fun c9 => ?_) (fun c9 => ?_)
    · have c9 : (z8 : Int) ≠ 0 := c9
      refine yG.load xik rfl (fun _ _ => rfl) (v := yI (p2)) rfl rfl ?_
      refine yG.i2l rfl ⟨by omega, by omega⟩ ?_
      refine yG.numl (c := 0) rfl (fun _ _ => rfl) (by decide) ?_
      refine yG.numl (c := 1) rfl (fun _ _ => rfl) (by decide) ?_
      refine yG.invS (rest := [yR 2073]) rfl rfl rfl rfl (a_in W d A_hp.1 (p2) (0) (1) (by omega) (by omega) (by omega) (by omega) (by omega) (by omega)) (fun rv hp9 q9 => ?_)
      obtain ⟨⟨z10, rfl, l_z10, u_z10, r_z10⟩, e9⟩ := q9
      rw [e9]
      show yG _ _ _ _ _ _ _ _ _ _ (yI z10 :: [yR 2073]) _
      refine yG.ifz rfl (t := 62) rfl ⟨by omega, by omega⟩ (fun c11 => ?_) (fun c11 => ?_)
      · have c11 : (z10 : Int) = 0 := c11
        refine yG.num (c := 2) rfl (fun _ _ => rfl) (by decide) ?_
        refine yG.goto rfl (t := 80) rfl ?_
        refine yG.putI A_hp.1 (w_thrown W) (by decide) rfl rfl (.inl rfl) ⟨by omega, by omega⟩ (by omega) (by omega) (fun h12 T_h12 b_h12 f_h12 y_h12 => ?_)
        have A_h12 := A_hp.putF T_h12 b_h12 f_h12 (by decide)
        have g0_h12 : ys h12 2073 0 = 2 := (y_h12 2073 0).trans (if_pos ⟨rfl, rfl⟩)
        refine yG.load xak rfl (fun _ _ => rfl) (v := yR 2073) rfl rfl ?_
        refine yG.getI A_h12.1 (w_thrown W) rfl rfl (fun z13 e_z13 i_z13 l_z13 u_z13 => ?_)
        refine yG.ifz rfl (t := 92) rfl ⟨by omega, by omega⟩ (fun c14 => ?_) (fun c14 => ?_)
        · have c14 : (z13 : Int) ≤ 0 := c14
          exfalso; omega
        · have c14 : (z13 : Int) > 0 := c14
          refine yG.num (c := 0) rfl (fun _ _ => rfl) (by decide) ?_
          refine yG.ret rfl (fun _ _ => rfl) ?_
          exact yP.int ⟨by omega, by omega⟩ ⟨⟨0, rfl, by omega, by omega⟩, A_h12⟩
      · have c11 : (z10 : Int) ≠ 0 := c11
        refine yG.load xik rfl (fun _ _ => rfl) (v := yI (p4)) rfl rfl ?_
        refine yG.i2l rfl ⟨by omega, by omega⟩ ?_
        refine yG.numl (c := 0) rfl (fun _ _ => rfl) (by decide) ?_
        refine yG.numl (c := 1) rfl (fun _ _ => rfl) (by decide) ?_
        refine yG.invS (rest := [yR 2073]) rfl rfl rfl rfl (a_in W d A_hp.1 (p4) (0) (1) (by omega) (by omega) (by omega) (by omega) (by omega) (by omega)) (fun rv hp9 q9 => ?_)
        obtain ⟨⟨z15, rfl, l_z15, u_z15, r_z15⟩, e9⟩ := q9
        rw [e9]
        show yG _ _ _ _ _ _ _ _ _ _ (yI z15 :: [yR 2073]) _
        refine yG.ifz rfl (t := 66) rfl ⟨by omega, by omega⟩ (fun c16 => ?_) (fun c16 => ?_)
        · have c16 : (z15 : Int) ≠ 0 := c16
          refine yG.load xak rfl (fun _ _ => rfl) (v := yR 2073) rfl rfl ?_
          refine yG.getI A_hp.1 (w_relays W) rfl rfl (fun z17 e_z17 i_z17 l_z17 u_z17 => ?_)
          refine yG.num (c := 16) rfl (fun _ _ => rfl) (by decide) ?_
          refine yG.icmp rfl (t := 79) rfl ⟨by omega, by omega⟩ ⟨by omega, by omega⟩ (fun c18 => ?_) (fun c18 => ?_)
          · have c18 : (z17 : Int) ≠ 16 := c18
            refine yG.num (c := 0) rfl (fun _ _ => rfl) (by decide) ?_
            refine yG.putI A_hp.1 (w_thrown W) (by decide) rfl rfl (.inl rfl) ⟨by omega, by omega⟩ (by omega) (by omega) (fun h19 T_h19 b_h19 f_h19 y_h19 => ?_)
            have A_h19 := A_hp.putF T_h19 b_h19 f_h19 (by decide)
            have g78_h19 : ys h19 2073 78 = ys hp 2073 78 := (y_h19 2073 78).trans (if_neg (by omega))
            have g0_h19 : ys h19 2073 0 = 0 := (y_h19 2073 0).trans (if_pos ⟨rfl, rfl⟩)
            refine yG.load xak rfl (fun _ _ => rfl) (v := yR 2073) rfl rfl ?_
            refine yG.getI A_h19.1 (w_thrown W) rfl rfl (fun z20 e_z20 i_z20 l_z20 u_z20 => ?_)
            refine yG.ifz rfl (t := 92) rfl ⟨by omega, by omega⟩ (fun c21 => ?_) (fun c21 => ?_)
            · have c21 : (z20 : Int) ≤ 0 := c21
              refine yG.load xak rfl (fun _ _ => rfl) (v := yR 2073) rfl rfl ?_
              refine yG.getR A_h19.1 (r_relayLine W) rfl rfl ?_
              refine yG.load xak rfl (fun _ _ => rfl) (v := yR 2073) rfl rfl ?_
              refine yG.getI A_h19.1 (w_relays W) rfl rfl (fun z22 e_z22 i_z22 l_z22 u_z22 => ?_)
              refine yG.load xik rfl (fun _ _ => rfl) (v := yI (p1)) rfl rfl ?_
              refine yG.iast A_h19.1 (v_relayLine W) (by decide) rfl (by omega) (by omega) ⟨by omega, by omega⟩ (by omega) (by omega) (fun h23 T_h23 b_h23 f_h23 y_h23 => ?_)
              have A_h23 := A_h19.putA T_h23 b_h23 f_h23 (by decide)
              have g78_h23 : ys h23 2073 78 = ys h19 2073 78 := (y_h23 2073 78).trans (if_neg (by omega))
              have g0_h23 : ys h23 2073 0 = ys h19 2073 0 := (y_h23 2073 0).trans (if_neg (by omega))
              refine yG.load xak rfl (fun _ _ => rfl) (v := yR 2073) rfl rfl ?_
              refine yG.getR A_h23.1 (r_relayEnd W) rfl rfl ?_
              refine yG.load xak rfl (fun _ _ => rfl) (v := yR 2073) rfl rfl ?_
              refine yG.getI A_h23.1 (w_relays W) rfl rfl (fun z24 e_z24 i_z24 l_z24 u_z24 => ?_)
              refine yG.load xik rfl (fun _ _ => rfl) (v := yI (p2)) rfl rfl ?_
              refine yG.iast A_h23.1 (v_relayEnd W) (by decide) rfl (by omega) (by omega) ⟨by omega, by omega⟩ (by omega) (by omega) (fun h25 T_h25 b_h25 f_h25 y_h25 => ?_)
              have A_h25 := A_h23.putA T_h25 b_h25 f_h25 (by decide)
              have g78_h25 : ys h25 2073 78 = ys h23 2073 78 := (y_h25 2073 78).trans (if_neg (by omega))
              have g0_h25 : ys h25 2073 0 = ys h23 2073 0 := (y_h25 2073 0).trans (if_neg (by omega))
              refine yG.load xak rfl (fun _ _ => rfl) (v := yR 2073) rfl rfl ?_
              refine yG.getR A_h25.1 (r_relaySwitch W) rfl rfl ?_
              refine yG.load xak rfl (fun _ _ => rfl) (v := yR 2073) rfl rfl ?_
              refine yG.getI A_h25.1 (w_relays W) rfl rfl (fun z26 e_z26 i_z26 l_z26 u_z26 => ?_)
              refine yG.load xik rfl (fun _ _ => rfl) (v := yI (p3)) rfl rfl ?_
              refine yG.iast A_h25.1 (v_relaySwitch W) (by decide) rfl (by omega) (by omega) ⟨by omega, by omega⟩ (by omega) (by omega) (fun h27 T_h27 b_h27 f_h27 y_h27 => ?_)
              have A_h27 := A_h25.putA T_h27 b_h27 f_h27 (by decide)
              have g78_h27 : ys h27 2073 78 = ys h25 2073 78 := (y_h27 2073 78).trans (if_neg (by omega))
              have g0_h27 : ys h27 2073 0 = ys h25 2073 0 := (y_h27 2073 0).trans (if_neg (by omega))
              refine yG.load xak rfl (fun _ _ => rfl) (v := yR 2073) rfl rfl ?_
              refine yG.getR A_h27.1 (r_relayKind W) rfl rfl ?_
              refine yG.load xak rfl (fun _ _ => rfl) (v := yR 2073) rfl rfl ?_
              refine yG.getI A_h27.1 (w_relays W) rfl rfl (fun z28 e_z28 i_z28 l_z28 u_z28 => ?_)
              refine yG.load xik rfl (fun _ _ => rfl) (v := yI (p4)) rfl rfl ?_
              refine yG.iast A_h27.1 (v_relayKind W) (by decide) rfl (by omega) (by omega) ⟨by omega, by omega⟩ (by omega) (by omega) (fun h29 T_h29 b_h29 f_h29 y_h29 => ?_)
              have A_h29 := A_h27.putA T_h29 b_h29 f_h29 (by decide)
              have g78_h29 : ys h29 2073 78 = ys h27 2073 78 := (y_h29 2073 78).trans (if_neg (by omega))
              have g0_h29 : ys h29 2073 0 = ys h27 2073 0 := (y_h29 2073 0).trans (if_neg (by omega))
              refine yG.load xak rfl (fun _ _ => rfl) (v := yR 2073) rfl rfl ?_
              refine yG.getR A_h29.1 (r_rowCount W) rfl rfl ?_
              refine yG.load xak rfl (fun _ _ => rfl) (v := yR 2073) rfl rfl ?_
              refine yG.getI A_h29.1 (w_relays W) rfl rfl (fun z30 e_z30 i_z30 l_z30 u_z30 => ?_)
              refine yG.num (c := 0) rfl (fun _ _ => rfl) (by decide) ?_
              refine yG.iast A_h29.1 (v_rowCount W) (by decide) rfl (by omega) (by omega) ⟨by omega, by omega⟩ (by omega) (by omega) (fun h31 T_h31 b_h31 f_h31 y_h31 => ?_)
              have A_h31 := A_h29.putA T_h31 b_h31 f_h31 (by decide)
              have g78_h31 : ys h31 2073 78 = ys h29 2073 78 := (y_h31 2073 78).trans (if_neg (by omega))
              have g0_h31 : ys h31 2073 0 = ys h29 2073 0 := (y_h31 2073 0).trans (if_neg (by omega))
              refine yG.load xak rfl (fun _ _ => rfl) (v := yR 2073) rfl rfl ?_
              refine yG.step (pc' := 145) (stk' := [yR 2073, yR 2073]) rfl (fun _ _ => rfl) ?_
              refine yG.getI A_h31.1 (w_relays W) rfl rfl (fun z32 e_z32 i_z32 l_z32 u_z32 => ?_)
              refine yG.num (c := 1) rfl (fun _ _ => rfl) (by decide) ?_
              refine yG.iadd rfl ?_
              refine yG.putI A_h31.1 (w_relays W) (by decide) rfl rfl (.inl rfl) ⟨by omega, by omega⟩ (by omega) (by omega) (fun h33 T_h33 b_h33 f_h33 y_h33 => ?_)
              have A_h33 := A_h31.putF T_h33 b_h33 f_h33 (by decide)
              have g0_h33 : ys h33 2073 0 = ys h31 2073 0 := (y_h33 2073 0).trans (if_neg (by omega))
              have g78_h33 : ys h33 2073 78 = z32 + 1 := (y_h33 2073 78).trans (if_pos ⟨rfl, rfl⟩)
              refine yG.load xak rfl (fun _ _ => rfl) (v := yR 2073) rfl rfl ?_
              refine yG.invV (rest := []) A_h33.1 W.m.1 rfl rfl rfl rfl (a_changed W d A_h33.1) (fun rv h35 q9 => ?_)
              obtain ⟨rfl, B_h35⟩ := q9
              have A_h35 := A_h33.tr (B_h35.sub (by decide) (by decide))
              have g78_h35 : ys h35 2073 78 = ys h33 2073 78 := B_h35.ys (by decide) (by decide)
              have g0_h35 : ys h35 2073 0 = ys h33 2073 0 := B_h35.ys (by decide) (by decide)
              show yG _ _ _ _ _ _ _ _ _ _ [] _
              refine yG.load xak rfl (fun _ _ => rfl) (v := yR 2073) rfl rfl ?_
              refine yG.getI A_h35.1 (w_relays W) rfl rfl (fun z36 e_z36 i_z36 l_z36 u_z36 => ?_)
              refine yG.num (c := 1) rfl (fun _ _ => rfl) (by decide) ?_
              refine yG.isub rfl ?_
              refine yG.ret rfl (fun _ _ => rfl) ?_
              exact yP.int ⟨by omega, by omega⟩ ⟨⟨z36 - 1, rfl, by omega, by omega⟩, A_h35⟩
            · have c21 : (z20 : Int) > 0 := c21
              exfalso; omega
          · have c18 : (z17 : Int) = 16 := c18
            refine yG.num (c := 3) rfl (fun _ _ => rfl) (by decide) ?_
            refine yG.goto rfl (t := 80) rfl ?_
            refine yG.putI A_hp.1 (w_thrown W) (by decide) rfl rfl (.inl rfl) ⟨by omega, by omega⟩ (by omega) (by omega) (fun h37 T_h37 b_h37 f_h37 y_h37 => ?_)
            have A_h37 := A_hp.putF T_h37 b_h37 f_h37 (by decide)
            have g78_h37 : ys h37 2073 78 = ys hp 2073 78 := (y_h37 2073 78).trans (if_neg (by omega))
            have g0_h37 : ys h37 2073 0 = 3 := (y_h37 2073 0).trans (if_pos ⟨rfl, rfl⟩)
            refine yG.load xak rfl (fun _ _ => rfl) (v := yR 2073) rfl rfl ?_
            refine yG.getI A_h37.1 (w_thrown W) rfl rfl (fun z38 e_z38 i_z38 l_z38 u_z38 => ?_)
            refine yG.ifz rfl (t := 92) rfl ⟨by omega, by omega⟩ (fun c39 => ?_) (fun c39 => ?_)
            · have c39 : (z38 : Int) ≤ 0 := c39
              exfalso; omega
            · have c39 : (z38 : Int) > 0 := c39
              refine yG.num (c := 0) rfl (fun _ _ => rfl) (by decide) ?_
              refine yG.ret rfl (fun _ _ => rfl) ?_
              exact yP.int ⟨by omega, by omega⟩ ⟨⟨0, rfl, by omega, by omega⟩, A_h37⟩
        · have c16 : (z15 : Int) = 0 := c16
          refine yG.num (c := 2) rfl (fun _ _ => rfl) (by decide) ?_
          refine yG.goto rfl (t := 80) rfl ?_
          refine yG.putI A_hp.1 (w_thrown W) (by decide) rfl rfl (.inl rfl) ⟨by omega, by omega⟩ (by omega) (by omega) (fun h40 T_h40 b_h40 f_h40 y_h40 => ?_)
          have A_h40 := A_hp.putF T_h40 b_h40 f_h40 (by decide)
          have g0_h40 : ys h40 2073 0 = 2 := (y_h40 2073 0).trans (if_pos ⟨rfl, rfl⟩)
          refine yG.load xak rfl (fun _ _ => rfl) (v := yR 2073) rfl rfl ?_
          refine yG.getI A_h40.1 (w_thrown W) rfl rfl (fun z41 e_z41 i_z41 l_z41 u_z41 => ?_)
          refine yG.ifz rfl (t := 92) rfl ⟨by omega, by omega⟩ (fun c42 => ?_) (fun c42 => ?_)
          · have c42 : (z41 : Int) ≤ 0 := c42
            exfalso; omega
          · have c42 : (z41 : Int) > 0 := c42
            refine yG.num (c := 0) rfl (fun _ _ => rfl) (by decide) ?_
            refine yG.ret rfl (fun _ _ => rfl) ?_
            exact yP.int ⟨by omega, by omega⟩ ⟨⟨0, rfl, by omega, by omega⟩, A_h40⟩
    · have c9 : (z8 : Int) = 0 := c9
      refine yG.num (c := 1) rfl (fun _ _ => rfl) (by decide) ?_
      refine yG.goto rfl (t := 80) rfl ?_
      refine yG.putI A_hp.1 (w_thrown W) (by decide) rfl rfl (.inl rfl) ⟨by omega, by omega⟩ (by omega) (by omega) (fun h43 T_h43 b_h43 f_h43 y_h43 => ?_)
      have A_h43 := A_hp.putF T_h43 b_h43 f_h43 (by decide)
      have g0_h43 : ys h43 2073 0 = 1 := (y_h43 2073 0).trans (if_pos ⟨rfl, rfl⟩)
      refine yG.load xak rfl (fun _ _ => rfl) (v := yR 2073) rfl rfl ?_
      refine yG.getI A_h43.1 (w_thrown W) rfl rfl (fun z44 e_z44 i_z44 l_z44 u_z44 => ?_)
      refine yG.ifz rfl (t := 92) rfl ⟨by omega, by omega⟩ (fun c45 => ?_) (fun c45 => ?_)
      · have c45 : (z44 : Int) ≤ 0 := c45
        exfalso; omega
      · have c45 : (z44 : Int) > 0 := c45
        refine yG.num (c := 0) rfl (fun _ _ => rfl) (by decide) ?_
        refine yG.ret rfl (fun _ _ => rfl) ?_
        exact yP.int ⟨by omega, by omega⟩ ⟨⟨0, rfl, by omega, by omega⟩, A_h43⟩
theorem a_row {hp : xH} (W : yWW G) (d : Nat) (hT : zTy G hp) (p1 p2 p3 : Int) (h1l : (-2147483648) ≤ p1) (h1u : p1 ≤ 2147483647) (h2l : (-2147483648) ≤ p2) (h2u : p2 ≤ 2147483647) (h3l : (-2147483648) ≤ p3) (h3u : p3 ≤ 2147483647) : yC (xcall 89 xfts xpools xms (d + 2)) 495 [yR 2073, yI (p1), yI (p2), yI (p3)] hp (yQi G [0, 40, 49, 62, 77, 90, 101] [2129, 2130, 2131] hp 0 3) := by
  have A_hp : yAx G [0, 40, 49, 62, 77, 90, 101] [2129, 2130, 2131] hp hp := yAx.rf hT
  refine yC.of (M := (xt_X13_row, (5, (1, (14, []))))) rfl rfl (N := 213) (yfuel (by decide)) ?_
  show yG 89 xfts (xcall 89 xfts xpools xms (d + 1)) (xpool xp_RX13) [] xt_X13_row (yP 1 (yQi G [0, 40, 49, 62, 77, 90, 101] [2129, 2130, 2131] hp 0 3)) 213 0 [(0, yR 2073), (1, yI (p1)), (2, yI (p2)), (3, yI (p3))] [] hp
  refine yG.load xak rfl (fun _ _ => rfl) (v := yR 2073) rfl rfl ?_
  refine yG.load xik rfl (fun _ _ => rfl) (v := yI (p1)) rfl rfl ?_
  refine yG.i2l rfl ⟨by omega, by omega⟩ ?_
  refine yG.numl (c := 0) rfl (fun _ _ => rfl) (by decide) ?_
  refine yG.load xak rfl (fun _ _ => rfl) (v := yR 2073) rfl rfl ?_
  refine yG.getI A_hp.1 (w_relays W) rfl rfl (fun z1 e_z1 i_z1 l_z1 u_z1 => ?_)
  refine yG.num (c := 1) rfl (fun _ _ => rfl) (by decide) ?_
  refine yG.isub rfl ?_
  refine yG.i2l rfl ⟨by omega, by omega⟩ ?_
  refine yG.invS (rest := [yR 2073]) rfl rfl rfl rfl (a_in W d A_hp.1 (p1) (0) (z1 - 1) (by omega) (by omega) (by omega) (by omega) (by omega) (by omega)) (fun rv hp9 q9 => ?_)
  obtain ⟨⟨z2, rfl, l_z2, u_z2, r_z2⟩, e9⟩ := q9
  rw [e9]
  show yG _ _ _ _ _ _ _ _ _ _ (yI z2 :: [yR 2073]) _
  refine yG.ifz rfl (t := 21) rfl ⟨by omega, by omega⟩ (fun c3 => ?_) (fun c3 => ?_)
  · have c3 : (z2 : Int) ≠ 0 := c3
    refine yG.load xik rfl (fun _ _ => rfl) (v := yI (p2)) rfl rfl ?_
    refine yG.i2l rfl ⟨by omega, by omega⟩ ?_
    refine yG.numl (c := 0) rfl (fun _ _ => rfl) (by decide) ?_
    refine yG.numl (c := 99999) rfl (fun _ _ => rfl) (by decide) ?_
    refine yG.invS (rest := [yR 2073]) rfl rfl rfl rfl (a_in W d A_hp.1 (p2) (0) (99999) (by omega) (by omega) (by omega) (by omega) (by omega) (by omega)) (fun rv hp9 q9 => ?_)
    obtain ⟨⟨z4, rfl, l_z4, u_z4, r_z4⟩, e9⟩ := q9
    rw [e9]
    show yG _ _ _ _ _ _ _ _ _ _ (yI z4 :: [yR 2073]) _
    refine yG.ifz rfl (t := 45) rfl ⟨by omega, by omega⟩ (fun c5 => ?_) (fun c5 => ?_)
    · have c5 : (z4 : Int) = 0 := c5
      refine yG.num (c := 2) rfl (fun _ _ => rfl) (by decide) ?_
      refine yG.goto rfl (t := 64) rfl ?_
      refine yG.putI A_hp.1 (w_thrown W) (by decide) rfl rfl (.inl rfl) ⟨by omega, by omega⟩ (by omega) (by omega) (fun h6 T_h6 b_h6 f_h6 y_h6 => ?_)
      have A_h6 := A_hp.putF T_h6 b_h6 f_h6 (by decide)
      have g78_h6 : ys h6 2073 78 = ys hp 2073 78 := (y_h6 2073 78).trans (if_neg (by omega))
      have g0_h6 : ys h6 2073 0 = 2 := (y_h6 2073 0).trans (if_pos ⟨rfl, rfl⟩)
      refine yG.load xak rfl (fun _ _ => rfl) (v := yR 2073) rfl rfl ?_
      refine yG.getI A_h6.1 (w_thrown W) rfl rfl (fun z7 e_z7 i_z7 l_z7 u_z7 => ?_)
      refine yG.ifz rfl (t := 76) rfl ⟨by omega, by omega⟩ (fun c8 => ?_) (fun c8 => ?_)
      · have c8 : (z7 : Int) ≤ 0 := c8
        exfalso; omega
      · have c8 : (z7 : Int) > 0 := c8
        refine yG.num (c := 0) rfl (fun _ _ => rfl) (by decide) ?_
        refine yG.ret rfl (fun _ _ => rfl) ?_
        exact yP.int ⟨by omega, by omega⟩ ⟨⟨0, rfl, by omega, by omega⟩, A_h6⟩
    · have c5 : (z4 : Int) ≠ 0 := c5
      refine yG.load xik rfl (fun _ _ => rfl) (v := yI (p3)) rfl rfl ?_
      refine yG.i2l rfl ⟨by omega, by omega⟩ ?_
      refine yG.numl (c := 0) rfl (fun _ _ => rfl) (by decide) ?_
      refine yG.numl (c := 9999999) rfl (fun _ _ => rfl) (by decide) ?_
      refine yG.invS (rest := [yR 2073]) rfl rfl rfl rfl (a_in W d A_hp.1 (p3) (0) (9999999) (by omega) (by omega) (by omega) (by omega) (by omega) (by omega)) (fun rv hp9 q9 => ?_)
      obtain ⟨⟨z9, rfl, l_z9, u_z9, r_z9⟩, e9⟩ := q9
      rw [e9]
      show yG _ _ _ _ _ _ _ _ _ _ (yI z9 :: [yR 2073]) _
      refine yG.ifz rfl (t := 49) rfl ⟨by omega, by omega⟩ (fun c10 => ?_) (fun c10 => ?_)
      · have c10 : (z9 : Int) ≠ 0 := c10
        refine yG.load xak rfl (fun _ _ => rfl) (v := yR 2073) rfl rfl ?_
        refine yG.getR A_hp.1 (r_rowCount W) rfl rfl ?_
        refine yG.load xik rfl (fun _ _ => rfl) (v := yI (p1)) rfl rfl ?_
        refine yG.iald A_hp.1 (v_rowCount W) rfl (by omega) (by omega) (fun z11 e_z11 i_z11 l_z11 u_z11 => ?_)
        refine yG.num (c := 4) rfl (fun _ _ => rfl) (by decide) ?_
        refine yG.icmp rfl (t := 63) rfl ⟨by omega, by omega⟩ ⟨by omega, by omega⟩ (fun c12 => ?_) (fun c12 => ?_)
        · have c12 : (z11 : Int) ≠ 4 := c12
          refine yG.num (c := 0) rfl (fun _ _ => rfl) (by decide) ?_
          refine yG.putI A_hp.1 (w_thrown W) (by decide) rfl rfl (.inl rfl) ⟨by omega, by omega⟩ (by omega) (by omega) (fun h13 T_h13 b_h13 f_h13 y_h13 => ?_)
          have A_h13 := A_hp.putF T_h13 b_h13 f_h13 (by decide)
          have k0_h13 : ys h13 2129 (p1).toNat = ys hp 2129 (p1).toNat := (y_h13 2129 (p1).toNat).trans (if_neg (by omega))
          have g78_h13 : ys h13 2073 78 = ys hp 2073 78 := (y_h13 2073 78).trans (if_neg (by omega))
          have g0_h13 : ys h13 2073 0 = 0 := (y_h13 2073 0).trans (if_pos ⟨rfl, rfl⟩)
          refine yG.load xak rfl (fun _ _ => rfl) (v := yR 2073) rfl rfl ?_
          refine yG.getI A_h13.1 (w_thrown W) rfl rfl (fun z14 e_z14 i_z14 l_z14 u_z14 => ?_)
          refine yG.ifz rfl (t := 76) rfl ⟨by omega, by omega⟩ (fun c15 => ?_) (fun c15 => ?_)
          · have c15 : (z14 : Int) ≤ 0 := c15
            refine yG.load xak rfl (fun _ _ => rfl) (v := yR 2073) rfl rfl ?_
            refine yG.getR A_h13.1 (r_rowCount W) rfl rfl ?_
            refine yG.load xik rfl (fun _ _ => rfl) (v := yI (p1)) rfl rfl ?_
            refine yG.iald A_h13.1 (v_rowCount W) rfl (by omega) (by omega) (fun z16 e_z16 i_z16 l_z16 u_z16 => ?_)
            refine yG.store1 xik (L' := [(4, yI (z16)), (0, yR 2073), (1, yI (p1)), (2, yI (p2)), (3, yI (p3))]) rfl (fun _ _ => rfl) rfl rfl ?_
            refine yG.load xak rfl (fun _ _ => rfl) (v := yR 2073) rfl rfl ?_
            refine yG.getR A_h13.1 (r_setting W) rfl rfl ?_
            refine yG.num (c := 4) rfl (fun _ _ => rfl) (by decide) ?_
            refine yG.load xik rfl (fun _ _ => rfl) (v := yI (p1)) rfl rfl ?_
            refine yG.imul rfl ?_
            refine yG.load xik rfl (fun _ _ => rfl) (v := yI (z16)) rfl rfl ?_
            refine yG.iadd rfl ?_
            refine yG.load xik rfl (fun _ _ => rfl) (v := yI (p2)) rfl rfl ?_
            refine yG.iast A_h13.1 (v_setting W) (by decide) rfl (by omega) (by omega) ⟨by omega, by omega⟩ (by omega) (by omega) (fun h17 T_h17 b_h17 f_h17 y_h17 => ?_)
            have A_h17 := A_h13.putA T_h17 b_h17 f_h17 (by decide)
            have k0_h17 : ys h17 2129 (p1).toNat = ys h13 2129 (p1).toNat := (y_h17 2129 (p1).toNat).trans (if_neg (by omega))
            have g78_h17 : ys h17 2073 78 = ys h13 2073 78 := (y_h17 2073 78).trans (if_neg (by omega))
            have g0_h17 : ys h17 2073 0 = ys h13 2073 0 := (y_h17 2073 0).trans (if_neg (by omega))
            refine yG.load xak rfl (fun _ _ => rfl) (v := yR 2073) rfl rfl ?_
            refine yG.getR A_h17.1 (r_delay W) rfl rfl ?_
            refine yG.num (c := 4) rfl (fun _ _ => rfl) (by decide) ?_
            refine yG.load xik rfl (fun _ _ => rfl) (v := yI (p1)) rfl rfl ?_
            refine yG.imul rfl ?_
            refine yG.load xik rfl (fun _ _ => rfl) (v := yI (z16)) rfl rfl ?_
            refine yG.iadd rfl ?_
            refine yG.load xik rfl (fun _ _ => rfl) (v := yI (p3)) rfl rfl ?_
            refine yG.iast A_h17.1 (v_delay W) (by decide) rfl (by omega) (by omega) ⟨by omega, by omega⟩ (by omega) (by omega) (fun h18 T_h18 b_h18 f_h18 y_h18 => ?_)
            have A_h18 := A_h17.putA T_h18 b_h18 f_h18 (by decide)
            have k0_h18 : ys h18 2129 (p1).toNat = ys h17 2129 (p1).toNat := (y_h18 2129 (p1).toNat).trans (if_neg (by omega))
            have g78_h18 : ys h18 2073 78 = ys h17 2073 78 := (y_h18 2073 78).trans (if_neg (by omega))
            have g0_h18 : ys h18 2073 0 = ys h17 2073 0 := (y_h18 2073 0).trans (if_neg (by omega))
            refine yG.load xak rfl (fun _ _ => rfl) (v := yR 2073) rfl rfl ?_
            refine yG.getR A_h18.1 (r_rowCount W) rfl rfl ?_
            refine yG.load xik rfl (fun _ _ => rfl) (v := yI (p1)) rfl rfl ?_
            refine yG.step (pc' := 114) (stk' := [yI (p1), yR 2129, yI (p1), yR 2129]) rfl (fun _ _ => rfl) ?_
            refine yG.iald A_h18.1 (v_rowCount W) rfl (by omega) (by omega) (fun z19 e_z19 i_z19 l_z19 u_z19 => ?_)
            refine yG.num (c := 1) rfl (fun _ _ => rfl) (by decide) ?_
            refine yG.iadd rfl ?_
            refine yG.iast A_h18.1 (v_rowCount W) (by decide) rfl (by omega) (by omega) ⟨by omega, by omega⟩ (by omega) (by omega) (fun h20 T_h20 b_h20 f_h20 y_h20 => ?_)
            have A_h20 := A_h18.putA T_h20 b_h20 f_h20 (by decide)
            have g78_h20 : ys h20 2073 78 = ys h18 2073 78 := (y_h20 2073 78).trans (if_neg (by omega))
            have g0_h20 : ys h20 2073 0 = ys h18 2073 0 := (y_h20 2073 0).trans (if_neg (by omega))
            refine yG.load xak rfl (fun _ _ => rfl) (v := yR 2073) rfl rfl ?_
            refine yG.invV (rest := []) A_h20.1 W.m.1 rfl rfl rfl rfl (a_changed W d A_h20.1) (fun rv h22 q9 => ?_)
            obtain ⟨rfl, B_h22⟩ := q9
            have A_h22 := A_h20.tr (B_h22.sub (by decide) (by decide))
            have g78_h22 : ys h22 2073 78 = ys h20 2073 78 := B_h22.ys (by decide) (by decide)
            have g0_h22 : ys h22 2073 0 = ys h20 2073 0 := B_h22.ys (by decide) (by decide)
            show yG _ _ _ _ _ _ _ _ _ _ [] _
            refine yG.load xik rfl (fun _ _ => rfl) (v := yI (z16)) rfl rfl ?_
            refine yG.ret rfl (fun _ _ => rfl) ?_
            exact yP.int ⟨by omega, by omega⟩ ⟨⟨z16, rfl, by omega, by omega⟩, A_h22⟩
          · have c15 : (z14 : Int) > 0 := c15
            exfalso; omega
        · have c12 : (z11 : Int) = 4 := c12
          refine yG.num (c := 3) rfl (fun _ _ => rfl) (by decide) ?_
          refine yG.goto rfl (t := 64) rfl ?_
          refine yG.putI A_hp.1 (w_thrown W) (by decide) rfl rfl (.inl rfl) ⟨by omega, by omega⟩ (by omega) (by omega) (fun h23 T_h23 b_h23 f_h23 y_h23 => ?_)
          have A_h23 := A_hp.putF T_h23 b_h23 f_h23 (by decide)
          have k0_h23 : ys h23 2129 (p1).toNat = ys hp 2129 (p1).toNat := (y_h23 2129 (p1).toNat).trans (if_neg (by omega))
          have g78_h23 : ys h23 2073 78 = ys hp 2073 78 := (y_h23 2073 78).trans (if_neg (by omega))
          have g0_h23 : ys h23 2073 0 = 3 := (y_h23 2073 0).trans (if_pos ⟨rfl, rfl⟩)
          refine yG.load xak rfl (fun _ _ => rfl) (v := yR 2073) rfl rfl ?_
          refine yG.getI A_h23.1 (w_thrown W) rfl rfl (fun z24 e_z24 i_z24 l_z24 u_z24 => ?_)
          refine yG.ifz rfl (t := 76) rfl ⟨by omega, by omega⟩ (fun c25 => ?_) (fun c25 => ?_)
          · have c25 : (z24 : Int) ≤ 0 := c25
            exfalso; omega
          · have c25 : (z24 : Int) > 0 := c25
            refine yG.num (c := 0) rfl (fun _ _ => rfl) (by decide) ?_
            refine yG.ret rfl (fun _ _ => rfl) ?_
            exact yP.int ⟨by omega, by omega⟩ ⟨⟨0, rfl, by omega, by omega⟩, A_h23⟩
      · have c10 : (z9 : Int) = 0 := c10
        refine yG.num (c := 2) rfl (fun _ _ => rfl) (by decide) ?_
        refine yG.goto rfl (t := 64) rfl ?_
        refine yG.putI A_hp.1 (w_thrown W) (by decide) rfl rfl (.inl rfl) ⟨by omega, by omega⟩ (by omega) (by omega) (fun h26 T_h26 b_h26 f_h26 y_h26 => ?_)
        have A_h26 := A_hp.putF T_h26 b_h26 f_h26 (by decide)
        have g78_h26 : ys h26 2073 78 = ys hp 2073 78 := (y_h26 2073 78).trans (if_neg (by omega))
        have g0_h26 : ys h26 2073 0 = 2 := (y_h26 2073 0).trans (if_pos ⟨rfl, rfl⟩)
        refine yG.load xak rfl (fun _ _ => rfl) (v := yR 2073) rfl rfl ?_
        refine yG.getI A_h26.1 (w_thrown W) rfl rfl (fun z27 e_z27 i_z27 l_z27 u_z27 => ?_)
        refine yG.ifz rfl (t := 76) rfl ⟨by omega, by omega⟩ (fun c28 => ?_) (fun c28 => ?_)
        · have c28 : (z27 : Int) ≤ 0 := c28
          exfalso; omega
        · have c28 : (z27 : Int) > 0 := c28
          refine yG.num (c := 0) rfl (fun _ _ => rfl) (by decide) ?_
          refine yG.ret rfl (fun _ _ => rfl) ?_
          exact yP.int ⟨by omega, by omega⟩ ⟨⟨0, rfl, by omega, by omega⟩, A_h26⟩
  · have c3 : (z2 : Int) = 0 := c3
    refine yG.num (c := 1) rfl (fun _ _ => rfl) (by decide) ?_
    refine yG.goto rfl (t := 64) rfl ?_
    refine yG.putI A_hp.1 (w_thrown W) (by decide) rfl rfl (.inl rfl) ⟨by omega, by omega⟩ (by omega) (by omega) (fun h29 T_h29 b_h29 f_h29 y_h29 => ?_)
    have A_h29 := A_hp.putF T_h29 b_h29 f_h29 (by decide)
    have g78_h29 : ys h29 2073 78 = ys hp 2073 78 := (y_h29 2073 78).trans (if_neg (by omega))
    have g0_h29 : ys h29 2073 0 = 1 := (y_h29 2073 0).trans (if_pos ⟨rfl, rfl⟩)
    refine yG.load xak rfl (fun _ _ => rfl) (v := yR 2073) rfl rfl ?_
    refine yG.getI A_h29.1 (w_thrown W) rfl rfl (fun z30 e_z30 i_z30 l_z30 u_z30 => ?_)
    refine yG.ifz rfl (t := 76) rfl ⟨by omega, by omega⟩ (fun c31 => ?_) (fun c31 => ?_)
    · have c31 : (z30 : Int) ≤ 0 := c31
      exfalso; omega
    · have c31 : (z30 : Int) > 0 := c31
      refine yG.num (c := 0) rfl (fun _ _ => rfl) (by decide) ?_
      refine yG.ret rfl (fun _ _ => rfl) ?_
      exact yP.int ⟨by omega, by omega⟩ ⟨⟨0, rfl, by omega, by omega⟩, A_h29⟩
theorem a_fails {hp : xH} (W : yWW G) (d : Nat) (hT : zTy G hp) (p1 p2 : Int) (h1l : (-2147483648) ≤ p1) (h1u : p1 ≤ 2147483647) (h2l : 0 ≤ p2) (h2u : p2 ≤ 1) : yC (xcall 89 xfts xpools xms (d + 2)) 396 [yR 2073, yI (p1), yI (p2)] hp (yQi G [0, 40, 49, 62, 77, 90, 101] [2132] hp 0 1) := by
  have A_hp : yAx G [0, 40, 49, 62, 77, 90, 101] [2132] hp hp := yAx.rf hT
  refine yC.of (M := (xt_X13_fails, (4, (4, (14, []))))) rfl rfl (N := 105) (yfuel (by decide)) ?_
  show yG 89 xfts (xcall 89 xfts xpools xms (d + 1)) (xpool xp_RX13) [] xt_X13_fails (yP 4 (yQi G [0, 40, 49, 62, 77, 90, 101] [2132] hp 0 1)) 105 0 [(0, yR 2073), (1, yI (p1)), (2, yI (p2))] [] hp
  refine yG.load xak rfl (fun _ _ => rfl) (v := yR 2073) rfl rfl ?_
  refine yG.load xik rfl (fun _ _ => rfl) (v := yI (p1)) rfl rfl ?_
  refine yG.i2l rfl ⟨by omega, by omega⟩ ?_
  refine yG.numl (c := 0) rfl (fun _ _ => rfl) (by decide) ?_
  refine yG.load xak rfl (fun _ _ => rfl) (v := yR 2073) rfl rfl ?_
  refine yG.getR A_hp.1 (r_count W) rfl rfl ?_
  refine yG.num (c := 1) rfl (fun _ _ => rfl) (by decide) ?_
  refine yG.ialdF A_hp.1 (p_count W) rfl rfl (by omega) (by omega) (fun z1 e_z1 i_z1 l_z1 u_z1 => ?_)
  refine yG.num (c := 1) rfl (fun _ _ => rfl) (by decide) ?_
  refine yG.isub rfl ?_
  refine yG.i2l rfl ⟨by omega, by omega⟩ ?_
  refine yG.invS (rest := [yR 2073]) rfl rfl rfl rfl (a_in W d A_hp.1 (p1) (0) (z1 - 1) (by omega) (by omega) (by omega) (by omega) (by omega) (by omega)) (fun rv hp9 q9 => ?_)
  obtain ⟨⟨z2, rfl, l_z2, u_z2, r_z2⟩, e9⟩ := q9
  rw [e9]
  show yG _ _ _ _ _ _ _ _ _ _ (yI z2 :: [yR 2073]) _
  refine yG.ifz rfl (t := 23) rfl ⟨by omega, by omega⟩ (fun c3 => ?_) (fun c3 => ?_)
  · have c3 : (z2 : Int) = 0 := c3
    refine yG.num (c := 1) rfl (fun _ _ => rfl) (by decide) ?_
    refine yG.putI A_hp.1 (w_thrown W) (by decide) rfl rfl (.inl rfl) ⟨by omega, by omega⟩ (by omega) (by omega) (fun h4 T_h4 b_h4 f_h4 y_h4 => ?_)
    have A_h4 := A_hp.putF T_h4 b_h4 f_h4 (by decide)
    have g0_h4 : ys h4 2073 0 = 1 := (y_h4 2073 0).trans (if_pos ⟨rfl, rfl⟩)
    refine yG.load xak rfl (fun _ _ => rfl) (v := yR 2073) rfl rfl ?_
    refine yG.getI A_h4.1 (w_thrown W) rfl rfl (fun z5 e_z5 i_z5 l_z5 u_z5 => ?_)
    refine yG.ifz rfl (t := 36) rfl ⟨by omega, by omega⟩ (fun c6 => ?_) (fun c6 => ?_)
    · have c6 : (z5 : Int) ≤ 0 := c6
      exfalso; omega
    · have c6 : (z5 : Int) > 0 := c6
      refine yG.num (c := 0) rfl (fun _ _ => rfl) (by decide) ?_
      refine yG.ret rfl (fun _ _ => rfl) ?_
      exact yP.bool (by omega) ⟨⟨0, rfl, by omega, by omega⟩, A_h4⟩
  · have c3 : (z2 : Int) ≠ 0 := c3
    refine yG.num (c := 0) rfl (fun _ _ => rfl) (by decide) ?_
    refine yG.goto rfl (t := 24) rfl ?_
    refine yG.putI A_hp.1 (w_thrown W) (by decide) rfl rfl (.inl rfl) ⟨by omega, by omega⟩ (by omega) (by omega) (fun h7 T_h7 b_h7 f_h7 y_h7 => ?_)
    have A_h7 := A_hp.putF T_h7 b_h7 f_h7 (by decide)
    have g0_h7 : ys h7 2073 0 = 0 := (y_h7 2073 0).trans (if_pos ⟨rfl, rfl⟩)
    refine yG.load xak rfl (fun _ _ => rfl) (v := yR 2073) rfl rfl ?_
    refine yG.getI A_h7.1 (w_thrown W) rfl rfl (fun z8 e_z8 i_z8 l_z8 u_z8 => ?_)
    refine yG.ifz rfl (t := 36) rfl ⟨by omega, by omega⟩ (fun c9 => ?_) (fun c9 => ?_)
    · have c9 : (z8 : Int) ≤ 0 := c9
      refine yG.load xak rfl (fun _ _ => rfl) (v := yR 2073) rfl rfl ?_
      refine yG.getR A_h7.1 (r_doesFail W) rfl rfl ?_
      refine yG.load xik rfl (fun _ _ => rfl) (v := yI (p1)) rfl rfl ?_
      refine yG.bald A_h7.1 (v_doesFail W) rfl (by omega) (by omega) (fun z10 e_z10 i_z10 l_z10 u_z10 => ?_)
      refine yG.store1 xik (L' := [(3, yI (z10)), (0, yR 2073), (1, yI (p1)), (2, yI (p2))]) rfl (fun _ _ => rfl) rfl rfl ?_
      refine yG.load xak rfl (fun _ _ => rfl) (v := yR 2073) rfl rfl ?_
      refine yG.getR A_h7.1 (r_doesFail W) rfl rfl ?_
      refine yG.load xik rfl (fun _ _ => rfl) (v := yI (p1)) rfl rfl ?_
      refine yG.load xik rfl (fun _ _ => rfl) (v := yI (p2)) rfl rfl ?_
      refine yG.bast A_h7.1 (v_doesFail W) (by decide) rfl (by omega) (by omega) ⟨by omega, by omega⟩ (by omega) (by omega) (fun h11 T_h11 b_h11 f_h11 y_h11 => ?_)
      have A_h11 := A_h7.putA T_h11 b_h11 f_h11 (by decide)
      have g0_h11 : ys h11 2073 0 = ys h7 2073 0 := (y_h11 2073 0).trans (if_neg (by omega))
      refine yG.load xak rfl (fun _ _ => rfl) (v := yR 2073) rfl rfl ?_
      refine yG.invV (rest := []) A_h11.1 W.m.1 rfl rfl rfl rfl (a_changed W d A_h11.1) (fun rv h13 q9 => ?_)
      obtain ⟨rfl, B_h13⟩ := q9
      have A_h13 := A_h11.tr (B_h13.sub (by decide) (by decide))
      have g0_h13 : ys h13 2073 0 = ys h11 2073 0 := B_h13.ys (by decide) (by decide)
      show yG _ _ _ _ _ _ _ _ _ _ [] _
      refine yG.load xik rfl (fun _ _ => rfl) (v := yI (z10)) rfl rfl ?_
      refine yG.ret rfl (fun _ _ => rfl) ?_
      exact yP.bool (by omega) ⟨⟨z10, rfl, by omega, by omega⟩, A_h13⟩
    · have c9 : (z8 : Int) > 0 := c9
      exfalso; omega
theorem a_backup {hp : xH} (W : yWW G) (d : Nat) (hT : zTy G hp) (p1 : Int) (h1l : (-2147483648) ≤ p1) (h1u : p1 ≤ 2147483647) : yC (xcall 89 xfts xpools xms (d + 2)) 356 [yR 2073, yI (p1)] hp (yQi G [0, 40, 49, 62, 77, 87, 90, 101] [] hp 0 9999999) := by
  have A_hp : yAx G [0, 40, 49, 62, 77, 87, 90, 101] [] hp hp := yAx.rf hT
  refine yC.of (M := (xt_X13_backup, (3, (1, (14, []))))) rfl rfl (N := 75) (yfuel (by decide)) ?_
  show yG 89 xfts (xcall 89 xfts xpools xms (d + 1)) (xpool xp_RX13) [] xt_X13_backup (yP 1 (yQi G [0, 40, 49, 62, 77, 87, 90, 101] [] hp 0 9999999)) 75 0 [(0, yR 2073), (1, yI (p1))] [] hp
  refine yG.load xak rfl (fun _ _ => rfl) (v := yR 2073) rfl rfl ?_
  refine yG.load xik rfl (fun _ _ => rfl) (v := yI (p1)) rfl rfl ?_
  refine yG.i2l rfl ⟨by omega, by omega⟩ ?_
  refine yG.numl (c := 0) rfl (fun _ _ => rfl) (by decide) ?_
  refine yG.numl (c := 9999999) rfl (fun _ _ => rfl) (by decide) ?_
  refine yG.invS (rest := [yR 2073]) rfl rfl rfl rfl (a_in W d A_hp.1 (p1) (0) (9999999) (by omega) (by omega) (by omega) (by omega) (by omega) (by omega)) (fun rv hp9 q9 => ?_)
  obtain ⟨⟨z1, rfl, l_z1, u_z1, r_z1⟩, e9⟩ := q9
  rw [e9]
  show yG _ _ _ _ _ _ _ _ _ _ (yI z1 :: [yR 2073]) _
  refine yG.ifz rfl (t := 17) rfl ⟨by omega, by omega⟩ (fun c2 => ?_) (fun c2 => ?_)
  · have c2 : (z1 : Int) = 0 := c2
    refine yG.num (c := 1) rfl (fun _ _ => rfl) (by decide) ?_
    refine yG.putI A_hp.1 (w_thrown W) (by decide) rfl rfl (.inl rfl) ⟨by omega, by omega⟩ (by omega) (by omega) (fun h3 T_h3 b_h3 f_h3 y_h3 => ?_)
    have A_h3 := A_hp.putF T_h3 b_h3 f_h3 (by decide)
    have g0_h3 : ys h3 2073 0 = 1 := (y_h3 2073 0).trans (if_pos ⟨rfl, rfl⟩)
    refine yG.load xak rfl (fun _ _ => rfl) (v := yR 2073) rfl rfl ?_
    refine yG.getI A_h3.1 (w_thrown W) rfl rfl (fun z4 e_z4 i_z4 l_z4 u_z4 => ?_)
    refine yG.ifz rfl (t := 30) rfl ⟨by omega, by omega⟩ (fun c5 => ?_) (fun c5 => ?_)
    · have c5 : (z4 : Int) ≤ 0 := c5
      exfalso; omega
    · have c5 : (z4 : Int) > 0 := c5
      refine yG.num (c := 0) rfl (fun _ _ => rfl) (by decide) ?_
      refine yG.ret rfl (fun _ _ => rfl) ?_
      exact yP.int ⟨by omega, by omega⟩ ⟨⟨0, rfl, by omega, by omega⟩, A_h3⟩
  · have c2 : (z1 : Int) ≠ 0 := c2
    refine yG.num (c := 0) rfl (fun _ _ => rfl) (by decide) ?_
    refine yG.goto rfl (t := 18) rfl ?_
    refine yG.putI A_hp.1 (w_thrown W) (by decide) rfl rfl (.inl rfl) ⟨by omega, by omega⟩ (by omega) (by omega) (fun h6 T_h6 b_h6 f_h6 y_h6 => ?_)
    have A_h6 := A_hp.putF T_h6 b_h6 f_h6 (by decide)
    have g0_h6 : ys h6 2073 0 = 0 := (y_h6 2073 0).trans (if_pos ⟨rfl, rfl⟩)
    refine yG.load xak rfl (fun _ _ => rfl) (v := yR 2073) rfl rfl ?_
    refine yG.getI A_h6.1 (w_thrown W) rfl rfl (fun z7 e_z7 i_z7 l_z7 u_z7 => ?_)
    refine yG.ifz rfl (t := 30) rfl ⟨by omega, by omega⟩ (fun c8 => ?_) (fun c8 => ?_)
    · have c8 : (z7 : Int) ≤ 0 := c8
      refine yG.load xak rfl (fun _ _ => rfl) (v := yR 2073) rfl rfl ?_
      refine yG.getI A_h6.1 (w_back W) rfl rfl (fun z9 e_z9 i_z9 l_z9 u_z9 => ?_)
      refine yG.store1 xik (L' := [(2, yI (z9)), (0, yR 2073), (1, yI (p1))]) rfl (fun _ _ => rfl) rfl rfl ?_
      refine yG.load xak rfl (fun _ _ => rfl) (v := yR 2073) rfl rfl ?_
      refine yG.load xik rfl (fun _ _ => rfl) (v := yI (p1)) rfl rfl ?_
      refine yG.putI A_h6.1 (w_back W) (by decide) rfl rfl (.inl rfl) ⟨by omega, by omega⟩ (by omega) (by omega) (fun h10 T_h10 b_h10 f_h10 y_h10 => ?_)
      have A_h10 := A_h6.putF T_h10 b_h10 f_h10 (by decide)
      have g0_h10 : ys h10 2073 0 = ys h6 2073 0 := (y_h10 2073 0).trans (if_neg (by omega))
      have g87_h10 : ys h10 2073 87 = p1 := (y_h10 2073 87).trans (if_pos ⟨rfl, rfl⟩)
      refine yG.load xak rfl (fun _ _ => rfl) (v := yR 2073) rfl rfl ?_
      refine yG.invV (rest := []) A_h10.1 W.m.1 rfl rfl rfl rfl (a_changed W d A_h10.1) (fun rv h12 q9 => ?_)
      obtain ⟨rfl, B_h12⟩ := q9
      have A_h12 := A_h10.tr (B_h12.sub (by decide) (by decide))
      have g0_h12 : ys h12 2073 0 = ys h10 2073 0 := B_h12.ys (by decide) (by decide)
      have g87_h12 : ys h12 2073 87 = ys h10 2073 87 := B_h12.ys (by decide) (by decide)
      show yG _ _ _ _ _ _ _ _ _ _ [] _
      refine yG.load xik rfl (fun _ _ => rfl) (v := yI (z9)) rfl rfl ?_
      refine yG.ret rfl (fun _ _ => rfl) ?_
      exact yP.int ⟨by omega, by omega⟩ ⟨⟨z9, rfl, by omega, by omega⟩, A_h12⟩
    · have c8 : (z7 : Int) > 0 := c8
      exfalso; omega
theorem a_opened {hp : xH} (W : yWW G) (d : Nat) (hT : zTy G hp) (p1 p2 : Int) (h1l : (-2147483648) ≤ p1) (h1u : p1 ≤ 2147483647) (h2l : (-2147483648) ≤ p2) (h2u : p2 ≤ 2147483647) : yC (xcall 89 xfts xpools xms (d + 2)) 475 [yR 2073, yI (p1), yI (p2)] hp (yQi G [0] [] hp (-2147483648) 2147483647) := by
  have A_hp : yAx G [0] [] hp hp := yAx.rf hT
  refine yC.of (M := (xt_X13_opened, (3, (1, (14, []))))) rfl rfl (N := 96) (yfuel (by decide)) ?_
  show yG 89 xfts (xcall 89 xfts xpools xms (d + 1)) (xpool xp_RX13) [] xt_X13_opened (yP 1 (yQi G [0] [] hp (-2147483648) 2147483647)) 96 0 [(0, yR 2073), (1, yI (p1)), (2, yI (p2))] [] hp
  refine yG.load xak rfl (fun _ _ => rfl) (v := yR 2073) rfl rfl ?_
  refine yG.num (c := 0) rfl (fun _ _ => rfl) (by decide) ?_
  refine yG.putI A_hp.1 (w_thrown W) (by decide) rfl rfl (.inl rfl) ⟨by omega, by omega⟩ (by omega) (by omega) (fun h1 T_h1 b_h1 f_h1 y_h1 => ?_)
  have A_h1 := A_hp.putF T_h1 b_h1 f_h1 (by decide)
  have g0_h1 : ys h1 2073 0 = 0 := (y_h1 2073 0).trans (if_pos ⟨rfl, rfl⟩)
  refine yG.load xak rfl (fun _ _ => rfl) (v := yR 2073) rfl rfl ?_
  refine yG.getI A_h1.1 (w_hasRun W) rfl rfl (fun z2 e_z2 i_z2 l_z2 u_z2 => ?_)
  refine yG.ifz rfl (t := 38) rfl ⟨by omega, by omega⟩ (fun c3 => ?_) (fun c3 => ?_)
  · have c3 : (z2 : Int) = 0 := c3
    refine yG.num (c := -1) rfl (fun _ _ => rfl) (by decide) ?_
    refine yG.ret rfl (fun _ _ => rfl) ?_
    exact yP.int ⟨by omega, by omega⟩ ⟨⟨(-1), rfl, by omega, by omega⟩, A_h1⟩
  · have c3 : (z2 : Int) ≠ 0 := c3
    refine yG.load xik rfl (fun _ _ => rfl) (v := yI (p1)) rfl rfl ?_
    refine yG.i2l rfl ⟨by omega, by omega⟩ ?_
    refine yG.numl (c := 0) rfl (fun _ _ => rfl) (by decide) ?_
    refine yG.load xak rfl (fun _ _ => rfl) (v := yR 2073) rfl rfl ?_
    refine yG.getI A_h1.1 (w_openedCount W) rfl rfl (fun z4 e_z4 i_z4 l_z4 u_z4 => ?_)
    refine yG.num (c := 1) rfl (fun _ _ => rfl) (by decide) ?_
    refine yG.isub rfl ?_
    refine yG.i2l rfl ⟨by omega, by omega⟩ ?_
    refine yG.invS (rest := []) rfl rfl rfl rfl (a_in W d A_h1.1 (p1) (0) (z4 - 1) (by omega) (by omega) (by omega) (by omega) (by omega) (by omega)) (fun rv hp9 q9 => ?_)
    obtain ⟨⟨z5, rfl, l_z5, u_z5, r_z5⟩, e9⟩ := q9
    rw [e9]
    show yG _ _ _ _ _ _ _ _ _ _ (yI z5 :: []) _
    refine yG.ifz rfl (t := 38) rfl ⟨by omega, by omega⟩ (fun c6 => ?_) (fun c6 => ?_)
    · have c6 : (z5 : Int) = 0 := c6
      refine yG.num (c := -1) rfl (fun _ _ => rfl) (by decide) ?_
      refine yG.ret rfl (fun _ _ => rfl) ?_
      exact yP.int ⟨by omega, by omega⟩ ⟨⟨(-1), rfl, by omega, by omega⟩, A_h1⟩
    · have c6 : (z5 : Int) ≠ 0 := c6
      refine yG.load xik rfl (fun _ _ => rfl) (v := yI (p2)) rfl rfl ?_
      refine yG.i2l rfl ⟨by omega, by omega⟩ ?_
      refine yG.numl (c := 0) rfl (fun _ _ => rfl) (by decide) ?_
      refine yG.numl (c := 1) rfl (fun _ _ => rfl) (by decide) ?_
      refine yG.invS (rest := []) rfl rfl rfl rfl (a_in W d A_h1.1 (p2) (0) (1) (by omega) (by omega) (by omega) (by omega) (by omega) (by omega)) (fun rv hp9 q9 => ?_)
      obtain ⟨⟨z7, rfl, l_z7, u_z7, r_z7⟩, e9⟩ := q9
      rw [e9]
      show yG _ _ _ _ _ _ _ _ _ _ (yI z7 :: []) _
      refine yG.ifz rfl (t := 40) rfl ⟨by omega, by omega⟩ (fun c8 => ?_) (fun c8 => ?_)
      · have c8 : (z7 : Int) ≠ 0 := c8
        refine yG.load xik rfl (fun _ _ => rfl) (v := yI (p2)) rfl rfl ?_
        refine yG.ifz rfl (t := 53) rfl ⟨by omega, by omega⟩ (fun c9 => ?_) (fun c9 => ?_)
        · have c9 : (p2 : Int) ≠ 0 := c9
          refine yG.load xak rfl (fun _ _ => rfl) (v := yR 2073) rfl rfl ?_
          refine yG.getR A_h1.1 (r_openedAt W) rfl rfl ?_
          refine yG.load xik rfl (fun _ _ => rfl) (v := yI (p1)) rfl rfl ?_
          refine yG.iald A_h1.1 (v_openedAt W) rfl (by omega) (by omega) (fun z10 e_z10 i_z10 l_z10 u_z10 => ?_)
          refine yG.ret rfl (fun _ _ => rfl) ?_
          exact yP.int ⟨by omega, by omega⟩ ⟨⟨z10, rfl, by omega, by omega⟩, A_h1⟩
        · have c9 : (p2 : Int) = 0 := c9
          refine yG.load xak rfl (fun _ _ => rfl) (v := yR 2073) rfl rfl ?_
          refine yG.getR A_h1.1 (r_openedSwitch W) rfl rfl ?_
          refine yG.load xik rfl (fun _ _ => rfl) (v := yI (p1)) rfl rfl ?_
          refine yG.iald A_h1.1 (v_openedSwitch W) rfl (by omega) (by omega) (fun z11 e_z11 i_z11 l_z11 u_z11 => ?_)
          refine yG.goto rfl (t := 59) rfl ?_
          refine yG.ret rfl (fun _ _ => rfl) ?_
          exact yP.int ⟨by omega, by omega⟩ ⟨⟨z11, rfl, by omega, by omega⟩, A_h1⟩
      · have c8 : (z7 : Int) = 0 := c8
        refine yG.num (c := -1) rfl (fun _ _ => rfl) (by decide) ?_
        refine yG.ret rfl (fun _ _ => rfl) ?_
        exact yP.int ⟨by omega, by omega⟩ ⟨⟨(-1), rfl, by omega, by omega⟩, A_h1⟩
theorem a_ordered {hp : xH} (W : yWW G) (d : Nat) (hT : zTy G hp) (p1 : Int) (h1l : (-2147483648) ≤ p1) (h1u : p1 ≤ 2147483647) : yC (xcall 89 xfts xpools xms (d + 2)) 477 [yR 2073, yI (p1)] hp (yQi G [0] [] hp 0 1) := by
  have A_hp : yAx G [0] [] hp hp := yAx.rf hT
  refine yC.of (M := (xt_X13_ordered, (2, (4, (14, []))))) rfl rfl (N := 84) (yfuel (by decide)) ?_
  show yG 89 xfts (xcall 89 xfts xpools xms (d + 1)) (xpool xp_RX13) [] xt_X13_ordered (yP 4 (yQi G [0] [] hp 0 1)) 84 0 [(0, yR 2073), (1, yI (p1))] [] hp
  refine yG.load xak rfl (fun _ _ => rfl) (v := yR 2073) rfl rfl ?_
  refine yG.num (c := 0) rfl (fun _ _ => rfl) (by decide) ?_
  refine yG.putI A_hp.1 (w_thrown W) (by decide) rfl rfl (.inl rfl) ⟨by omega, by omega⟩ (by omega) (by omega) (fun h1 T_h1 b_h1 f_h1 y_h1 => ?_)
  have A_h1 := A_hp.putF T_h1 b_h1 f_h1 (by decide)
  have g0_h1 : ys h1 2073 0 = 0 := (y_h1 2073 0).trans (if_pos ⟨rfl, rfl⟩)
  refine yG.load xak rfl (fun _ _ => rfl) (v := yR 2073) rfl rfl ?_
  refine yG.getI A_h1.1 (w_hasRun W) rfl rfl (fun z2 e_z2 i_z2 l_z2 u_z2 => ?_)
  refine yG.ifz rfl (t := 43) rfl ⟨by omega, by omega⟩ (fun c3 => ?_) (fun c3 => ?_)
  · have c3 : (z2 : Int) = 0 := c3
    refine yG.num (c := 0) rfl (fun _ _ => rfl) (by decide) ?_
    refine yG.ret rfl (fun _ _ => rfl) ?_
    exact yP.bool (by omega) ⟨⟨0, rfl, by omega, by omega⟩, A_h1⟩
  · have c3 : (z2 : Int) ≠ 0 := c3
    refine yG.load xik rfl (fun _ _ => rfl) (v := yI (p1)) rfl rfl ?_
    refine yG.i2l rfl ⟨by omega, by omega⟩ ?_
    refine yG.numl (c := 0) rfl (fun _ _ => rfl) (by decide) ?_
    refine yG.load xak rfl (fun _ _ => rfl) (v := yR 2073) rfl rfl ?_
    refine yG.getR A_h1.1 (r_count W) rfl rfl ?_
    refine yG.num (c := 1) rfl (fun _ _ => rfl) (by decide) ?_
    refine yG.ialdF A_h1.1 (p_count W) rfl rfl (by omega) (by omega) (fun z4 e_z4 i_z4 l_z4 u_z4 => ?_)
    refine yG.num (c := 1) rfl (fun _ _ => rfl) (by decide) ?_
    refine yG.isub rfl ?_
    refine yG.i2l rfl ⟨by omega, by omega⟩ ?_
    refine yG.invS (rest := []) rfl rfl rfl rfl (a_in W d A_h1.1 (p1) (0) (z4 - 1) (by omega) (by omega) (by omega) (by omega) (by omega) (by omega)) (fun rv hp9 q9 => ?_)
    obtain ⟨⟨z5, rfl, l_z5, u_z5, r_z5⟩, e9⟩ := q9
    rw [e9]
    show yG _ _ _ _ _ _ _ _ _ _ (yI z5 :: []) _
    refine yG.ifz rfl (t := 43) rfl ⟨by omega, by omega⟩ (fun c6 => ?_) (fun c6 => ?_)
    · have c6 : (z5 : Int) = 0 := c6
      refine yG.num (c := 0) rfl (fun _ _ => rfl) (by decide) ?_
      refine yG.ret rfl (fun _ _ => rfl) ?_
      exact yP.bool (by omega) ⟨⟨0, rfl, by omega, by omega⟩, A_h1⟩
    · have c6 : (z5 : Int) ≠ 0 := c6
      refine yG.load xak rfl (fun _ _ => rfl) (v := yR 2073) rfl rfl ?_
      refine yG.getR A_h1.1 (r_hasOrder W) rfl rfl ?_
      refine yG.load xik rfl (fun _ _ => rfl) (v := yI (p1)) rfl rfl ?_
      refine yG.bald A_h1.1 (v_hasOrder W) rfl (by omega) (by omega) (fun z7 e_z7 i_z7 l_z7 u_z7 => ?_)
      refine yG.ifz rfl (t := 43) rfl ⟨by omega, by omega⟩ (fun c8 => ?_) (fun c8 => ?_)
      · have c8 : (z7 : Int) = 0 := c8
        refine yG.num (c := 0) rfl (fun _ _ => rfl) (by decide) ?_
        refine yG.ret rfl (fun _ _ => rfl) ?_
        exact yP.bool (by omega) ⟨⟨0, rfl, by omega, by omega⟩, A_h1⟩
      · have c8 : (z7 : Int) ≠ 0 := c8
        refine yG.num (c := 1) rfl (fun _ _ => rfl) (by decide) ?_
        refine yG.goto rfl (t := 44) rfl ?_
        refine yG.ret rfl (fun _ _ => rfl) ?_
        exact yP.bool (by omega) ⟨⟨1, rfl, by omega, by omega⟩, A_h1⟩
theorem a_step {hp : xH} (W : yWW G) (d : Nat) (hT : zTy G hp) (p1 : Int) (h1l : (-2147483648) ≤ p1) (h1u : p1 ≤ 2147483647) : yC (xcall 89 xfts xpools xms (d + 2)) 521 [yR 2073, yI (p1)] hp (yQi G [0] [] hp (-1) 23) := by
  have A_hp : yAx G [0] [] hp hp := yAx.rf hT
  refine yC.of (M := (xt_X13_step, (2, (1, (14, []))))) rfl rfl (N := 63) (yfuel (by decide)) ?_
  show yG 89 xfts (xcall 89 xfts xpools xms (d + 1)) (xpool xp_RX13) [] xt_X13_step (yP 1 (yQi G [0] [] hp (-1) 23)) 63 0 [(0, yR 2073), (1, yI (p1))] [] hp
  refine yG.load xak rfl (fun _ _ => rfl) (v := yR 2073) rfl rfl ?_
  refine yG.num (c := 0) rfl (fun _ _ => rfl) (by decide) ?_
  refine yG.putI A_hp.1 (w_thrown W) (by decide) rfl rfl (.inl rfl) ⟨by omega, by omega⟩ (by omega) (by omega) (fun h1 T_h1 b_h1 f_h1 y_h1 => ?_)
  have A_h1 := A_hp.putF T_h1 b_h1 f_h1 (by decide)
  have g0_h1 : ys h1 2073 0 = 0 := (y_h1 2073 0).trans (if_pos ⟨rfl, rfl⟩)
  refine yG.load xik rfl (fun _ _ => rfl) (v := yI (p1)) rfl rfl ?_
  refine yG.i2l rfl ⟨by omega, by omega⟩ ?_
  refine yG.numl (c := 0) rfl (fun _ _ => rfl) (by decide) ?_
  refine yG.load xak rfl (fun _ _ => rfl) (v := yR 2073) rfl rfl ?_
  refine yG.getI A_h1.1 (w_restored W) rfl rfl (fun z2 e_z2 i_z2 l_z2 u_z2 => ?_)
  refine yG.num (c := 1) rfl (fun _ _ => rfl) (by decide) ?_
  refine yG.isub rfl ?_
  refine yG.i2l rfl ⟨by omega, by omega⟩ ?_
  refine yG.invS (rest := []) rfl rfl rfl rfl (a_in W d A_h1.1 (p1) (0) (z2 - 1) (by omega) (by omega) (by omega) (by omega) (by omega) (by omega)) (fun rv hp9 q9 => ?_)
  obtain ⟨⟨z3, rfl, l_z3, u_z3, r_z3⟩, e9⟩ := q9
  rw [e9]
  show yG _ _ _ _ _ _ _ _ _ _ (yI z3 :: []) _
  refine yG.ifz rfl (t := 30) rfl ⟨by omega, by omega⟩ (fun c4 => ?_) (fun c4 => ?_)
  · have c4 : (z3 : Int) = 0 := c4
    refine yG.num (c := -1) rfl (fun _ _ => rfl) (by decide) ?_
    refine yG.ret rfl (fun _ _ => rfl) ?_
    exact yP.int ⟨by omega, by omega⟩ ⟨⟨(-1), rfl, by omega, by omega⟩, A_h1⟩
  · have c4 : (z3 : Int) ≠ 0 := c4
    refine yG.load xak rfl (fun _ _ => rfl) (v := yR 2073) rfl rfl ?_
    refine yG.getR A_h1.1 (r_restoredSwitch W) rfl rfl ?_
    refine yG.load xik rfl (fun _ _ => rfl) (v := yI (p1)) rfl rfl ?_
    refine yG.iald A_h1.1 (v_restoredSwitch W) rfl (by omega) (by omega) (fun z5 e_z5 i_z5 l_z5 u_z5 => ?_)
    refine yG.goto rfl (t := 31) rfl ?_
    refine yG.ret rfl (fun _ _ => rfl) ?_
    exact yP.int ⟨by omega, by omega⟩ ⟨⟨z5, rfl, by omega, by omega⟩, A_h1⟩
theorem a_rowsOfShort {hp : xH} (W : yWW G) (d : Nat) (hT : zTy G hp) : yC (xcall 89 xfts xpools xms (d + 2)) 496 [yR 2073] hp (yQv G [38] [2103, 2104] hp) := by
  have A_hp : yAx G [38] [2103, 2104] hp hp := yAx.rf hT
  refine yC.of (M := (xt_X13_rowsOfShort, (1, (0, (14, []))))) rfl rfl (N := 30) (yfuel (by decide)) ?_
  show yG 89 xfts (xcall 89 xfts xpools xms (d + 1)) (xpool xp_RX13) [] xt_X13_rowsOfShort (yP 0 (yQv G [38] [2103, 2104] hp)) 30 0 [(0, yR 2073)] [] hp
  refine yG.load xak rfl (fun _ _ => rfl) (v := yR 2073) rfl rfl ?_
  refine yG.getI A_hp.1 (w_isVoid W) rfl rfl (fun z1 e_z1 i_z1 l_z1 u_z1 => ?_)
  refine yG.ifz rfl (t := 15) rfl ⟨by omega, by omega⟩ (fun c2 => ?_) (fun c2 => ?_)
  · have c2 : (z1 : Int) ≠ 0 := c2
    refine yG.ret rfl (fun _ _ => rfl) ?_
    exact yP.void ⟨rfl, A_hp⟩
  · have c2 : (z1 : Int) = 0 := c2
    refine yG.load xak rfl (fun _ _ => rfl) (v := yR 2073) rfl rfl ?_
    refine yG.load xak rfl (fun _ _ => rfl) (v := yR 2073) rfl rfl ?_
    refine yG.getI A_hp.1 (w_shortIsland W) rfl rfl (fun z3 e_z3 i_z3 l_z3 u_z3 => ?_)
    refine yG.invV (rest := []) A_hp.1 W.m.1 rfl rfl rfl rfl (a_listNodes W d A_hp.1 (z3) (by omega) (by omega)) (fun rv h5 q9 => ?_)
    obtain ⟨rfl, B_h5⟩ := q9
    have A_h5 := A_hp.tr (B_h5.sub (by decide) (by decide))
    have g74_h5 : ys h5 2073 74 = ys hp 2073 74 := B_h5.ys (by decide) (by decide)
    have g75_h5 : ys h5 2073 75 = ys hp 2073 75 := B_h5.ys (by decide) (by decide)
    show yG _ _ _ _ _ _ _ _ _ _ [] _
    refine yG.ret rfl (fun _ _ => rfl) ?_
    exact yP.void ⟨rfl, A_h5⟩
theorem a_get {hp : xH} (W : yWW G) (d : Nat) (hT : zTy G hp) (p1 p2 p3 : Int) (h1l : (-2147483648) ≤ p1) (h1u : p1 ≤ 2147483647) (h2l : (-2147483648) ≤ p2) (h2u : p2 ≤ 2147483647) (h3l : (-2147483648) ≤ p3) (h3u : p3 ≤ 2147483647) : yC (xcall 89 xfts xpools xms (d + 3)) 409 [yR 2073, yI (p1), yI (p2), yI (p3)] hp (yQi G [0] [] hp 0 999999) := by
  have A_hp : yAx G [0] [] hp hp := yAx.rf hT
  refine yC.of (M := (xt_X13_get, (4, (1, (14, []))))) rfl rfl (N := 87) (yfuel (by decide)) ?_
  show yG 89 xfts (xcall 89 xfts xpools xms (d + 2)) (xpool xp_RX13) [] xt_X13_get (yP 1 (yQi G [0] [] hp 0 999999)) 87 0 [(0, yR 2073), (1, yI (p1)), (2, yI (p2)), (3, yI (p3))] [] hp
  refine yG.load xak rfl (fun _ _ => rfl) (v := yR 2073) rfl rfl ?_
  refine yG.load xak rfl (fun _ _ => rfl) (v := yR 2073) rfl rfl ?_
  refine yG.load xik rfl (fun _ _ => rfl) (v := yI (p1)) rfl rfl ?_
  refine yG.load xik rfl (fun _ _ => rfl) (v := yI (p2)) rfl rfl ?_
  refine yG.invV (rest := [yR 2073]) A_hp.1 W.m.1 rfl rfl rfl rfl (a_isObject W d A_hp.1 (p1) (p2) (by omega) (by omega) (by omega) (by omega)) (fun rv hp9 q9 => ?_)
  obtain ⟨⟨z1, rfl, l_z1, u_z1, r_z1⟩, e9⟩ := q9
  rw [e9]
  show yG _ _ _ _ _ _ _ _ _ _ (yI z1 :: [yR 2073]) _
  refine yG.ifz rfl (t := 14) rfl ⟨by omega, by omega⟩ (fun c2 => ?_) (fun c2 => ?_)
  · have c2 : (z1 : Int) ≠ 0 := c2
    refine yG.load xik rfl (fun _ _ => rfl) (v := yI (p3)) rfl rfl ?_
    refine yG.i2l rfl ⟨by omega, by omega⟩ ?_
    refine yG.numl (c := 0) rfl (fun _ _ => rfl) (by decide) ?_
    refine yG.load xik rfl (fun _ _ => rfl) (v := yI (p1)) rfl rfl ?_
    refine yG.invS (rest := [yJ (0), yJ (p3), yR 2073]) rfl rfl rfl rfl (a_fields W (d + 1) A_hp.1 (p1) (by omega) (by omega)) (fun rv hp9 q9 => ?_)
    obtain ⟨⟨z3, rfl, l_z3, u_z3⟩, e9⟩ := q9
    rw [e9]
    show yG _ _ _ _ _ _ _ _ _ _ (yI z3 :: [yJ (0), yJ (p3), yR 2073]) _
    refine yG.num (c := 1) rfl (fun _ _ => rfl) (by decide) ?_
    refine yG.isub rfl ?_
    refine yG.i2l rfl ⟨by omega, by omega⟩ ?_
    refine yG.invS (rest := [yR 2073]) rfl rfl rfl rfl (a_in W (d + 1) A_hp.1 (p3) (0) (z3 - 1) (by omega) (by omega) (by omega) (by omega) (by omega) (by omega)) (fun rv hp9 q9 => ?_)
    obtain ⟨⟨z4, rfl, l_z4, u_z4, r_z4⟩, e9⟩ := q9
    rw [e9]
    show yG _ _ _ _ _ _ _ _ _ _ (yI z4 :: [yR 2073]) _
    refine yG.ifz rfl (t := 34) rfl ⟨by omega, by omega⟩ (fun c5 => ?_) (fun c5 => ?_)
    · have c5 : (z4 : Int) ≠ 0 := c5
      refine yG.num (c := 0) rfl (fun _ _ => rfl) (by decide) ?_
      refine yG.putI A_hp.1 (w_thrown W) (by decide) rfl rfl (.inl rfl) ⟨by omega, by omega⟩ (by omega) (by omega) (fun h6 T_h6 b_h6 f_h6 y_h6 => ?_)
      have A_h6 := A_hp.putF T_h6 b_h6 f_h6 (by decide)
      have g0_h6 : ys h6 2073 0 = 0 := (y_h6 2073 0).trans (if_pos ⟨rfl, rfl⟩)
      refine yG.load xak rfl (fun _ _ => rfl) (v := yR 2073) rfl rfl ?_
      refine yG.getI A_h6.1 (w_thrown W) rfl rfl (fun z7 e_z7 i_z7 l_z7 u_z7 => ?_)
      refine yG.ifz rfl (t := 49) rfl ⟨by omega, by omega⟩ (fun c8 => ?_) (fun c8 => ?_)
      · have c8 : (z7 : Int) ≤ 0 := c8
        refine yG.load xak rfl (fun _ _ => rfl) (v := yR 2073) rfl rfl ?_
        refine yG.load xik rfl (fun _ _ => rfl) (v := yI (p1)) rfl rfl ?_
        refine yG.load xik rfl (fun _ _ => rfl) (v := yI (p2)) rfl rfl ?_
        refine yG.load xik rfl (fun _ _ => rfl) (v := yI (p3)) rfl rfl ?_
        refine yG.invV (rest := []) A_h6.1 W.m.1 rfl rfl rfl rfl (a_of_any W d A_h6.1 (p1) (p2) (p3) (by omega) (by omega) (by omega) (by omega) (by omega) (by omega)) (fun rv hp9 q9 => ?_)
        obtain ⟨⟨z9, rfl, l_z9, u_z9⟩, e9⟩ := q9
        rw [e9]
        show yG _ _ _ _ _ _ _ _ _ _ (yI z9 :: []) _
        refine yG.ret rfl (fun _ _ => rfl) ?_
        exact yP.int ⟨by omega, by omega⟩ ⟨⟨z9, rfl, by omega, by omega⟩, A_h6⟩
      · have c8 : (z7 : Int) > 0 := c8
        exfalso; omega
    · have c5 : (z4 : Int) = 0 := c5
      refine yG.num (c := 2) rfl (fun _ _ => rfl) (by decide) ?_
      refine yG.goto rfl (t := 35) rfl ?_
      refine yG.putI A_hp.1 (w_thrown W) (by decide) rfl rfl (.inl rfl) ⟨by omega, by omega⟩ (by omega) (by omega) (fun h10 T_h10 b_h10 f_h10 y_h10 => ?_)
      have A_h10 := A_hp.putF T_h10 b_h10 f_h10 (by decide)
      have g0_h10 : ys h10 2073 0 = 2 := (y_h10 2073 0).trans (if_pos ⟨rfl, rfl⟩)
      refine yG.load xak rfl (fun _ _ => rfl) (v := yR 2073) rfl rfl ?_
      refine yG.getI A_h10.1 (w_thrown W) rfl rfl (fun z11 e_z11 i_z11 l_z11 u_z11 => ?_)
      refine yG.ifz rfl (t := 49) rfl ⟨by omega, by omega⟩ (fun c12 => ?_) (fun c12 => ?_)
      · have c12 : (z11 : Int) ≤ 0 := c12
        exfalso; omega
      · have c12 : (z11 : Int) > 0 := c12
        refine yG.num (c := 0) rfl (fun _ _ => rfl) (by decide) ?_
        refine yG.goto rfl (t := 56) rfl ?_
        refine yG.ret rfl (fun _ _ => rfl) ?_
        exact yP.int ⟨by omega, by omega⟩ ⟨⟨0, rfl, by omega, by omega⟩, A_h10⟩
  · have c2 : (z1 : Int) = 0 := c2
    refine yG.num (c := 1) rfl (fun _ _ => rfl) (by decide) ?_
    refine yG.goto rfl (t := 35) rfl ?_
    refine yG.putI A_hp.1 (w_thrown W) (by decide) rfl rfl (.inl rfl) ⟨by omega, by omega⟩ (by omega) (by omega) (fun h13 T_h13 b_h13 f_h13 y_h13 => ?_)
    have A_h13 := A_hp.putF T_h13 b_h13 f_h13 (by decide)
    have g0_h13 : ys h13 2073 0 = 1 := (y_h13 2073 0).trans (if_pos ⟨rfl, rfl⟩)
    refine yG.load xak rfl (fun _ _ => rfl) (v := yR 2073) rfl rfl ?_
    refine yG.getI A_h13.1 (w_thrown W) rfl rfl (fun z14 e_z14 i_z14 l_z14 u_z14 => ?_)
    refine yG.ifz rfl (t := 49) rfl ⟨by omega, by omega⟩ (fun c15 => ?_) (fun c15 => ?_)
    · have c15 : (z14 : Int) ≤ 0 := c15
      exfalso; omega
    · have c15 : (z14 : Int) > 0 := c15
      refine yG.num (c := 0) rfl (fun _ _ => rfl) (by decide) ?_
      refine yG.goto rfl (t := 56) rfl ?_
      refine yG.ret rfl (fun _ _ => rfl) ?_
      exact yP.int ⟨by omega, by omega⟩ ⟨⟨0, rfl, by omega, by omega⟩, A_h13⟩
theorem a_findWords {hp : xH} (W : yWW G) (d : Nat) (hT : zTy G hp) : yC (xcall 89 xfts xpools xms (d + 2)) 403 [yR 2073] hp (yQv G [15, 18, 19, 20, 21] [2086, 2087] hp) := by
  have A_hp : yAx G [15, 18, 19, 20, 21] [2086, 2087] hp hp := yAx.rf hT
  have H : ∀ m : Nat, (∀ a1 gg18 gg15 : Int, ∀ hq, yAx G [15, 18, 19, 20, 21] [2086, 2087] hp hq → ys hq 2073 18 = gg18 → ys hq 2073 15 = gg15 → 0 ≤ a1 → (-4000) ≤ 0 - a1 → 0 ≤ gg18 → (-4000) ≤ 0 - gg18 → 0 ≤ gg15 → (-4000) ≤ 0 - gg15 → 0 ≤ a1 - gg18 → 0 ≤ 0 - a1 + gg15 → 0 - 16005 * a1 + 16005 * gg15 + 16004 < (m : Int) → yG 89 xfts (xcall 89 xfts xpools xms (d + 1)) (xpool xp_RX13) [] xt_X13_findWords (yP 0 (yQv G [15, 18, 19, 20, 21] [2086, 2087] hp)) (23 * m) 15 [(0, yR 2073), (1, yI (a1))] [] hq) ∧ (∀ a1 a2 gg18 gg15 : Int, ∀ hq, yAx G [15, 18, 19, 20, 21] [2086, 2087] hp hq → ys hq 2073 18 = gg18 → ys hq 2073 15 = gg15 → 0 ≤ a1 → (-4000) ≤ 0 - a1 → 0 ≤ a2 → (-3999) ≤ 0 - a2 → 0 ≤ gg18 → (-3999) ≤ 0 - gg18 → 1 ≤ gg15 → (-4000) ≤ 0 - gg15 → 0 ≤ a1 - a2 → 0 ≤ a2 - gg18 → 0 ≤ 0 - a1 + gg15 → 1 ≤ 0 - a2 + gg15 → 0 - 4 * a1 - 16005 * a2 + 16005 * gg15 + 16003 < (m : Int) → yG 89 xfts (xcall 89 xfts xpools xms (d + 1)) (xpool xp_RX13) [] xt_X13_findWords (yP 0 (yQv G [15, 18, 19, 20, 21] [2086, 2087] hp)) (23 * m) 25 [(0, yR 2073), (1, yI (a1)), (2, yI (a2))] [] hq) ∧ (∀ a1 a2 gg18 gg15 : Int, ∀ hq, yAx G [15, 18, 19, 20, 21] [2086, 2087] hp hq → ys hq 2073 18 = gg18 → ys hq 2073 15 = gg15 → 0 ≤ a1 → (-4000) ≤ 0 - a1 → 0 ≤ a2 → (-3999) ≤ 0 - a2 → 0 ≤ gg18 → (-3999) ≤ 0 - gg18 → 1 ≤ gg15 → (-4000) ≤ 0 - gg15 → 0 ≤ a1 - a2 → 0 ≤ a2 - gg18 → 0 ≤ 0 - a1 + gg15 → 1 ≤ 0 - a2 + gg15 → 0 - 16005 * a2 + 16005 * gg15 + 2 < (m : Int) → yG 89 xfts (xcall 89 xfts xpools xms (d + 1)) (xpool xp_RX13) [] xt_X13_findWords (yP 0 (yQv G [15, 18, 19, 20, 21] [2086, 2087] hp)) (23 * m) 63 [(0, yR 2073), (1, yI (a1)), (2, yI (a2))] [] hq) ∧ (∀ a1 a2 gg18 gg15 : Int, ∀ hq, yAx G [15, 18, 19, 20, 21] [2086, 2087] hp hq → ys hq 2073 18 = gg18 → ys hq 2073 15 = gg15 → 1 ≤ a1 → (-4000) ≤ 0 - a1 → 0 ≤ a2 → (-3999) ≤ 0 - a2 → 0 ≤ gg18 → (-3999) ≤ 0 - gg18 → 1 ≤ gg15 → (-4000) ≤ 0 - gg15 → 1 ≤ a1 - a2 → 0 ≤ a2 - gg18 → 0 ≤ 0 - a1 + gg15 → 0 - 16005 * a2 + 16005 * gg15 + 1 < (m : Int) → yG 89 xfts (xcall 89 xfts xpools xms (d + 1)) (xpool xp_RX13) [] xt_X13_findWords (yP 0 (yQv G [15, 18, 19, 20, 21] [2086, 2087] hp)) (23 * m) 96 [(0, yR 2073), (1, yI (a1)), (2, yI (a2))] [] hq) := by
    intro m
    induction m with
    | zero =>
      refine ⟨?_, ?_, ?_, ?_⟩ <;> (intros; exfalso; omega)
    | succ m ih =>
      obtain ⟨i_15, i_25, i_63, i_96⟩ := ih
      refine ⟨?_, ?_, ?_, ?_⟩
      · intro a1 gg18 gg15 hq A_hq E_18 E_15 f0 f1 f2 f3 f4 f5 f6 f7 hm
        refine yG.mono (N := 23 * m + 23) ?_ (by omega)
        refine yG.load xik rfl (fun _ _ => rfl) (v := yI (a1)) rfl rfl ?_
        refine yG.load xak rfl (fun _ _ => rfl) (v := yR 2073) rfl rfl ?_
        refine yG.getI A_hq.1 (w_taped W) rfl rfl (fun z1 e_z1 i_z1 l_z1 u_z1 => ?_)
        refine yG.icmp rfl (t := 131) rfl ⟨by omega, by omega⟩ ⟨by omega, by omega⟩ (fun c2 => ?_) (fun c2 => ?_)
        · have c2 : (a1 : Int) ≥ z1 := c2
          refine yG.load xak rfl (fun _ _ => rfl) (v := yR 2073) rfl rfl ?_
          refine yG.num (c := 0) rfl (fun _ _ => rfl) (by decide) ?_
          refine yG.putI A_hq.1 (w_taped W) (by decide) rfl rfl (.inl rfl) ⟨by omega, by omega⟩ (by omega) (by omega) (fun h3 T_h3 b_h3 f_h3 y_h3 => ?_)
          have A_h3 := A_hq.putF T_h3 b_h3 f_h3 (by decide)
          have g18_h3 : ys h3 2073 18 = ys hq 2073 18 := (y_h3 2073 18).trans (if_neg (by omega))
          have g15_h3 : ys h3 2073 15 = 0 := (y_h3 2073 15).trans (if_pos ⟨rfl, rfl⟩)
          refine yG.load xak rfl (fun _ _ => rfl) (v := yR 2073) rfl rfl ?_
          refine yG.num (c := 0) rfl (fun _ _ => rfl) (by decide) ?_
          refine yG.putI A_h3.1 (w_at W) (by decide) rfl rfl (.inl rfl) ⟨by omega, by omega⟩ (by omega) (by omega) (fun h4 T_h4 b_h4 f_h4 y_h4 => ?_)
          have A_h4 := A_h3.putF T_h4 b_h4 f_h4 (by decide)
          have g18_h4 : ys h4 2073 18 = ys h3 2073 18 := (y_h4 2073 18).trans (if_neg (by omega))
          have g15_h4 : ys h4 2073 15 = ys h3 2073 15 := (y_h4 2073 15).trans (if_neg (by omega))
          have g19_h4 : ys h4 2073 19 = 0 := (y_h4 2073 19).trans (if_pos ⟨rfl, rfl⟩)
          refine yG.load xak rfl (fun _ _ => rfl) (v := yR 2073) rfl rfl ?_
          refine yG.num (c := -1) rfl (fun _ _ => rfl) (by decide) ?_
          refine yG.putI A_h4.1 (w_fault W) (by decide) rfl rfl (.inl rfl) ⟨by omega, by omega⟩ (by omega) (by omega) (fun h5 T_h5 b_h5 f_h5 y_h5 => ?_)
          have A_h5 := A_h4.putF T_h5 b_h5 f_h5 (by decide)
          have g18_h5 : ys h5 2073 18 = ys h4 2073 18 := (y_h5 2073 18).trans (if_neg (by omega))
          have g15_h5 : ys h5 2073 15 = ys h4 2073 15 := (y_h5 2073 15).trans (if_neg (by omega))
          have g19_h5 : ys h5 2073 19 = ys h4 2073 19 := (y_h5 2073 19).trans (if_neg (by omega))
          have g21_h5 : ys h5 2073 21 = (-1) := (y_h5 2073 21).trans (if_pos ⟨rfl, rfl⟩)
          refine yG.ret rfl (fun _ _ => rfl) ?_
          exact yP.void ⟨rfl, A_h5⟩
        · have c2 : (a1 : Int) < z1 := c2
          refine yG.load xik rfl (fun _ _ => rfl) (v := yI (a1)) rfl rfl ?_
          refine yG.store1 xik (L' := [(2, yI (a1)), (0, yR 2073), (1, yI (a1))]) rfl (fun _ _ => rfl) rfl rfl ?_
          exact yG.mono (yG.sub (i_25 (a1) (a1) (ys hq 2073 18) (ys hq 2073 15) hq A_hq rfl rfl (by omega) (by omega) (by omega) (by omega) (by omega) (by omega) (by omega) (by omega) (by omega) (by omega) (by omega) (by omega) (by omega)) (ySub.cons rfl (ySub.cons rfl (ySub.cons rfl (ySub.nil))))) (by omega)
      · intro a1 a2 gg18 gg15 hq A_hq E_18 E_15 f0 f1 f2 f3 f4 f5 f6 f7 f8 f9 f10 f11 hm
        refine yG.mono (N := 23 * m + 23) ?_ (by omega)
        refine yG.load xik rfl (fun _ _ => rfl) (v := yI (a1)) rfl rfl ?_
        refine yG.load xak rfl (fun _ _ => rfl) (v := yR 2073) rfl rfl ?_
        refine yG.getI A_hq.1 (w_taped W) rfl rfl (fun z1 e_z1 i_z1 l_z1 u_z1 => ?_)
        refine yG.icmp rfl (t := 63) rfl ⟨by omega, by omega⟩ ⟨by omega, by omega⟩ (fun c2 => ?_) (fun c2 => ?_)
        · have c2 : (a1 : Int) ≥ z1 := c2
          exact yG.mono (yG.sub (i_63 (a1) (a2) (ys hq 2073 18) (ys hq 2073 15) hq A_hq rfl rfl (by omega) (by omega) (by omega) (by omega) (by omega) (by omega) (by omega) (by omega) (by omega) (by omega) (by omega) (by omega) (by omega)) (ySub.cons rfl (ySub.cons rfl (ySub.cons rfl (ySub.nil))))) (by omega)
        · have c2 : (a1 : Int) < z1 := c2
          refine yG.load xak rfl (fun _ _ => rfl) (v := yR 2073) rfl rfl ?_
          refine yG.getR A_hq.1 (r_tape W) rfl rfl ?_
          refine yG.load xik rfl (fun _ _ => rfl) (v := yI (a1)) rfl rfl ?_
          refine yG.iald A_hq.1 (v_tape W) rfl (by omega) (by omega) (fun z3 e_z3 i_z3 l_z3 u_z3 => ?_)
          refine yG.invS (rest := []) rfl rfl rfl rfl (a_isLetter W d A_hq.1 (z3) (by omega) (by omega)) (fun rv hp9 q9 => ?_)
          obtain ⟨⟨z4, rfl, l_z4, u_z4, r_z4⟩, e9⟩ := q9
          rw [e9]
          show yG _ _ _ _ _ _ _ _ _ _ (yI z4 :: []) _
          refine yG.ifz rfl (t := 57) rfl ⟨by omega, by omega⟩ (fun c5 => ?_) (fun c5 => ?_)
          · have c5 : (z4 : Int) ≠ 0 := c5
            refine yG.iinc rfl (a := a1) rfl (L' := [(1, yI (a1 + 1)), (0, yR 2073), (2, yI (a2))]) rfl ?_
            refine yG.goto rfl (t := 25) rfl ?_
            exact yG.mono (yG.sub (i_25 (a1 + 1) (a2) (ys hq 2073 18) (ys hq 2073 15) hq A_hq rfl rfl (by omega) (by omega) (by omega) (by omega) (by omega) (by omega) (by omega) (by omega) (by omega) (by omega) (by omega) (by omega) (by omega)) (ySub.cons rfl (ySub.cons rfl (ySub.cons rfl (ySub.nil))))) (by omega)
          · have c5 : (z4 : Int) = 0 := c5
            refine yG.load xak rfl (fun _ _ => rfl) (v := yR 2073) rfl rfl ?_
            refine yG.getR A_hq.1 (r_tape W) rfl rfl ?_
            refine yG.load xik rfl (fun _ _ => rfl) (v := yI (a1)) rfl rfl ?_
            refine yG.iald A_hq.1 (v_tape W) rfl (by omega) (by omega) (fun z6 e_z6 i_z6 l_z6 u_z6 => ?_)
            refine yG.invS (rest := []) rfl rfl rfl rfl (a_isFigure W d A_hq.1 (z6) (by omega) (by omega)) (fun rv hp9 q9 => ?_)
            obtain ⟨⟨z7, rfl, l_z7, u_z7, r_z7⟩, e9⟩ := q9
            rw [e9]
            show yG _ _ _ _ _ _ _ _ _ _ (yI z7 :: []) _
            refine yG.ifz rfl (t := 63) rfl ⟨by omega, by omega⟩ (fun c8 => ?_) (fun c8 => ?_)
            · have c8 : (z7 : Int) = 0 := c8
              exact yG.mono (yG.sub (i_63 (a1) (a2) (ys hq 2073 18) (ys hq 2073 15) hq A_hq rfl rfl (by omega) (by omega) (by omega) (by omega) (by omega) (by omega) (by omega) (by omega) (by omega) (by omega) (by omega) (by omega) (by omega)) (ySub.cons rfl (ySub.cons rfl (ySub.cons rfl (ySub.nil))))) (by omega)
            · have c8 : (z7 : Int) ≠ 0 := c8
              refine yG.iinc rfl (a := a1) rfl (L' := [(1, yI (a1 + 1)), (0, yR 2073), (2, yI (a2))]) rfl ?_
              refine yG.goto rfl (t := 25) rfl ?_
              exact yG.mono (yG.sub (i_25 (a1 + 1) (a2) (ys hq 2073 18) (ys hq 2073 15) hq A_hq rfl rfl (by omega) (by omega) (by omega) (by omega) (by omega) (by omega) (by omega) (by omega) (by omega) (by omega) (by omega) (by omega) (by omega)) (ySub.cons rfl (ySub.cons rfl (ySub.cons rfl (ySub.nil))))) (by omega)
      · intro a1 a2 gg18 gg15 hq A_hq E_18 E_15 f0 f1 f2 f3 f4 f5 f6 f7 f8 f9 f10 f11 hm
        refine yG.mono (N := 23 * m + 23) ?_ (by omega)
        refine yG.load xik rfl (fun _ _ => rfl) (v := yI (a1)) rfl rfl ?_
        refine yG.load xik rfl (fun _ _ => rfl) (v := yI (a2)) rfl rfl ?_
        refine yG.icmp rfl (t := 96) rfl ⟨by omega, by omega⟩ ⟨by omega, by omega⟩ (fun c1 => ?_) (fun c1 => ?_)
        · have c1 : (a1 : Int) ≠ a2 := c1
          exact yG.mono (yG.sub (i_96 (a1) (a2) (ys hq 2073 18) (ys hq 2073 15) hq A_hq rfl rfl (by omega) (by omega) (by omega) (by omega) (by omega) (by omega) (by omega) (by omega) (by omega) (by omega) (by omega) (by omega)) (ySub.cons rfl (ySub.cons rfl (ySub.cons rfl (ySub.nil))))) (by omega)
        · have c1 : (a1 : Int) = a2 := c1
          refine yG.iinc rfl (a := a1) rfl (L' := [(1, yI (a1 + 1)), (0, yR 2073), (2, yI (a2))]) rfl ?_
          refine yG.load xak rfl (fun _ _ => rfl) (v := yR 2073) rfl rfl ?_
          refine yG.getR A_hq.1 (r_tape W) rfl rfl ?_
          refine yG.load xik rfl (fun _ _ => rfl) (v := yI (a2)) rfl rfl ?_
          refine yG.iald A_hq.1 (v_tape W) rfl (by omega) (by omega) (fun z2 e_z2 i_z2 l_z2 u_z2 => ?_)
          refine yG.num (c := 32) rfl (fun _ _ => rfl) (by decide) ?_
          refine yG.icmp rfl (t := 15) rfl ⟨by omega, by omega⟩ ⟨by omega, by omega⟩ (fun c3 => ?_) (fun c3 => ?_)
          · have c3 : (z2 : Int) = 32 := c3
            exact yG.mono (yG.sub (i_15 (a1 + 1) (ys hq 2073 18) (ys hq 2073 15) hq A_hq rfl rfl (by omega) (by omega) (by omega) (by omega) (by omega) (by omega) (by omega) (by omega) (by omega)) (ySub.cons rfl (ySub.cons rfl (ySub.nil)))) (by omega)
          · have c3 : (z2 : Int) ≠ 32 := c3
            refine yG.load xak rfl (fun _ _ => rfl) (v := yR 2073) rfl rfl ?_
            refine yG.getR A_hq.1 (r_tape W) rfl rfl ?_
            refine yG.load xik rfl (fun _ _ => rfl) (v := yI (a2)) rfl rfl ?_
            refine yG.iald A_hq.1 (v_tape W) rfl (by omega) (by omega) (fun z4 e_z4 i_z4 l_z4 u_z4 => ?_)
            refine yG.num (c := 10) rfl (fun _ _ => rfl) (by decide) ?_
            refine yG.icmp rfl (t := 96) rfl ⟨by omega, by omega⟩ ⟨by omega, by omega⟩ (fun c5 => ?_) (fun c5 => ?_)
            · have c5 : (z4 : Int) ≠ 10 := c5
              exact yG.mono (yG.sub (i_96 (a1 + 1) (a2) (ys hq 2073 18) (ys hq 2073 15) hq A_hq rfl rfl (by omega) (by omega) (by omega) (by omega) (by omega) (by omega) (by omega) (by omega) (by omega) (by omega) (by omega) (by omega)) (ySub.cons rfl (ySub.cons rfl (ySub.cons rfl (ySub.nil))))) (by omega)
            · have c5 : (z4 : Int) = 10 := c5
              refine yG.goto rfl (t := 15) rfl ?_
              exact yG.mono (yG.sub (i_15 (a1 + 1) (ys hq 2073 18) (ys hq 2073 15) hq A_hq rfl rfl (by omega) (by omega) (by omega) (by omega) (by omega) (by omega) (by omega) (by omega) (by omega)) (ySub.cons rfl (ySub.cons rfl (ySub.nil)))) (by omega)
      · intro a1 a2 gg18 gg15 hq A_hq E_18 E_15 f0 f1 f2 f3 f4 f5 f6 f7 f8 f9 f10 hm
        refine yG.mono (N := 23 * m + 23) ?_ (by omega)
        refine yG.load xak rfl (fun _ _ => rfl) (v := yR 2073) rfl rfl ?_
        refine yG.getR A_hq.1 (r_wordAt W) rfl rfl ?_
        refine yG.load xak rfl (fun _ _ => rfl) (v := yR 2073) rfl rfl ?_
        refine yG.getI A_hq.1 (w_words W) rfl rfl (fun z1 e_z1 i_z1 l_z1 u_z1 => ?_)
        refine yG.load xik rfl (fun _ _ => rfl) (v := yI (a2)) rfl rfl ?_
        refine yG.iast A_hq.1 (v_wordAt W) (by decide) rfl (by omega) (by omega) ⟨by omega, by omega⟩ (by omega) (by omega) (fun h2 T_h2 b_h2 f_h2 y_h2 => ?_)
        have A_h2 := A_hq.putA T_h2 b_h2 f_h2 (by decide)
        have g18_h2 : ys h2 2073 18 = ys hq 2073 18 := (y_h2 2073 18).trans (if_neg (by omega))
        have g15_h2 : ys h2 2073 15 = ys hq 2073 15 := (y_h2 2073 15).trans (if_neg (by omega))
        refine yG.load xak rfl (fun _ _ => rfl) (v := yR 2073) rfl rfl ?_
        refine yG.getR A_h2.1 (r_wordSize W) rfl rfl ?_
        refine yG.load xak rfl (fun _ _ => rfl) (v := yR 2073) rfl rfl ?_
        refine yG.getI A_h2.1 (w_words W) rfl rfl (fun z3 e_z3 i_z3 l_z3 u_z3 => ?_)
        refine yG.load xik rfl (fun _ _ => rfl) (v := yI (a1)) rfl rfl ?_
        refine yG.load xik rfl (fun _ _ => rfl) (v := yI (a2)) rfl rfl ?_
        refine yG.isub rfl ?_
        refine yG.iast A_h2.1 (v_wordSize W) (by decide) rfl (by omega) (by omega) ⟨by omega, by omega⟩ (by omega) (by omega) (fun h4 T_h4 b_h4 f_h4 y_h4 => ?_)
        have A_h4 := A_h2.putA T_h4 b_h4 f_h4 (by decide)
        have g18_h4 : ys h4 2073 18 = ys h2 2073 18 := (y_h4 2073 18).trans (if_neg (by omega))
        have g15_h4 : ys h4 2073 15 = ys h2 2073 15 := (y_h4 2073 15).trans (if_neg (by omega))
        refine yG.load xak rfl (fun _ _ => rfl) (v := yR 2073) rfl rfl ?_
        refine yG.step (pc' := 120) (stk' := [yR 2073, yR 2073]) rfl (fun _ _ => rfl) ?_
        refine yG.getI A_h4.1 (w_words W) rfl rfl (fun z5 e_z5 i_z5 l_z5 u_z5 => ?_)
        refine yG.num (c := 1) rfl (fun _ _ => rfl) (by decide) ?_
        refine yG.iadd rfl ?_
        refine yG.putI A_h4.1 (w_words W) (by decide) rfl rfl (.inl rfl) ⟨by omega, by omega⟩ (by omega) (by omega) (fun h6 T_h6 b_h6 f_h6 y_h6 => ?_)
        have A_h6 := A_h4.putF T_h6 b_h6 f_h6 (by decide)
        have g15_h6 : ys h6 2073 15 = ys h4 2073 15 := (y_h6 2073 15).trans (if_neg (by omega))
        have g18_h6 : ys h6 2073 18 = z5 + 1 := (y_h6 2073 18).trans (if_pos ⟨rfl, rfl⟩)
        refine yG.goto rfl (t := 15) rfl ?_
        exact yG.mono (yG.sub (i_15 (a1) (ys h6 2073 18) (ys h6 2073 15) h6 A_h6 rfl rfl (by omega) (by omega) (by omega) (by omega) (by omega) (by omega) (by omega) (by omega) (by omega)) (ySub.cons rfl (ySub.cons rfl (ySub.nil)))) (by omega)
  refine yC.of (M := (xt_X13_findWords, (3, (0, (14, []))))) rfl rfl (N := 1472828161) (yfuel (by decide)) ?_
  show yG 89 xfts (xcall 89 xfts xpools xms (d + 1)) (xpool xp_RX13) [] xt_X13_findWords (yP 0 (yQv G [15, 18, 19, 20, 21] [2086, 2087] hp)) 1472828161 0 [(0, yR 2073)] [] hp
  obtain ⟨i_15, i_25, i_63, i_96⟩ := H 64036006
  obtain ⟨gg18, E_18⟩ : ∃ z : Int, ys hp 2073 18 = z := ⟨_, rfl⟩
  obtain ⟨gg15, E_15⟩ : ∃ z : Int, ys hp 2073 15 = z := ⟨_, rfl⟩
  obtain ⟨-, -, r_18l, r_18u⟩ := (w_words W).int hT
  obtain ⟨-, -, r_15l, r_15u⟩ := (w_taped W).int hT
  refine yG.load xak rfl (fun _ _ => rfl) (v := yR 2073) rfl rfl ?_
  refine yG.load xak rfl (fun _ _ => rfl) (v := yR 2073) rfl rfl ?_
  refine yG.getI A_hp.1 (w_taped W) rfl rfl (fun z1 e_z1 i_z1 l_z1 u_z1 => ?_)
  refine yG.putI A_hp.1 (w_textSize W) (by decide) rfl rfl (.inl rfl) ⟨by omega, by omega⟩ (by omega) (by omega) (fun h2 T_h2 b_h2 f_h2 y_h2 => ?_)
  have A_h2 := A_hp.putF T_h2 b_h2 f_h2 (by decide)
  have g18_h2 : ys h2 2073 18 = ys hp 2073 18 := (y_h2 2073 18).trans (if_neg (by omega))
  have g15_h2 : ys h2 2073 15 = ys hp 2073 15 := (y_h2 2073 15).trans (if_neg (by omega))
  have g20_h2 : ys h2 2073 20 = z1 := (y_h2 2073 20).trans (if_pos ⟨rfl, rfl⟩)
  refine yG.load xak rfl (fun _ _ => rfl) (v := yR 2073) rfl rfl ?_
  refine yG.num (c := 0) rfl (fun _ _ => rfl) (by decide) ?_
  refine yG.putI A_h2.1 (w_words W) (by decide) rfl rfl (.inl rfl) ⟨by omega, by omega⟩ (by omega) (by omega) (fun h3 T_h3 b_h3 f_h3 y_h3 => ?_)
  have A_h3 := A_h2.putF T_h3 b_h3 f_h3 (by decide)
  have g15_h3 : ys h3 2073 15 = ys h2 2073 15 := (y_h3 2073 15).trans (if_neg (by omega))
  have g20_h3 : ys h3 2073 20 = ys h2 2073 20 := (y_h3 2073 20).trans (if_neg (by omega))
  have g18_h3 : ys h3 2073 18 = 0 := (y_h3 2073 18).trans (if_pos ⟨rfl, rfl⟩)
  refine yG.num (c := 0) rfl (fun _ _ => rfl) (by decide) ?_
  refine yG.store1 xik (L' := [(1, yI (0)), (0, yR 2073)]) rfl (fun _ _ => rfl) rfl rfl ?_
  exact yG.mono (yG.sub (i_15 (0) (ys h3 2073 18) (ys h3 2073 15) h3 A_h3 rfl rfl (by omega) (by omega) (by omega) (by omega) (by omega) (by omega) (by omega) (by omega) (by omega)) (ySub.cons rfl (ySub.cons rfl (ySub.nil)))) (by omega)
theorem a_wrong {hp : xH} (W : yWW G) (d : Nat) (hT : zTy G hp) : yC (xcall 89 xfts xpools xms (d + 1)) 546 [yR 2073] hp (yQv G [21] [] hp) := by
  have A_hp : yAx G [21] [] hp hp := yAx.rf hT
  refine yC.of (M := (xt_X13_wrong, (1, (0, (14, []))))) rfl rfl (N := 57) (yfuel (by decide)) ?_
  show yG 89 xfts (xcall 89 xfts xpools xms d) (xpool xp_RX13) [] xt_X13_wrong (yP 0 (yQv G [21] [] hp)) 57 0 [(0, yR 2073)] [] hp
  refine yG.load xak rfl (fun _ _ => rfl) (v := yR 2073) rfl rfl ?_
  refine yG.getI A_hp.1 (w_fault W) rfl rfl (fun z1 e_z1 i_z1 l_z1 u_z1 => ?_)
  refine yG.ifz rfl (t := 38) rfl ⟨by omega, by omega⟩ (fun c2 => ?_) (fun c2 => ?_)
  · have c2 : (z1 : Int) ≥ 0 := c2
    refine yG.ret rfl (fun _ _ => rfl) ?_
    exact yP.void ⟨rfl, A_hp⟩
  · have c2 : (z1 : Int) < 0 := c2
    refine yG.load xak rfl (fun _ _ => rfl) (v := yR 2073) rfl rfl ?_
    refine yG.load xak rfl (fun _ _ => rfl) (v := yR 2073) rfl rfl ?_
    refine yG.getI A_hp.1 (w_at W) rfl rfl (fun z3 e_z3 i_z3 l_z3 u_z3 => ?_)
    refine yG.load xak rfl (fun _ _ => rfl) (v := yR 2073) rfl rfl ?_
    refine yG.getI A_hp.1 (w_words W) rfl rfl (fun z4 e_z4 i_z4 l_z4 u_z4 => ?_)
    refine yG.icmp rfl (t := 31) rfl ⟨by omega, by omega⟩ ⟨by omega, by omega⟩ (fun c5 => ?_) (fun c5 => ?_)
    · have c5 : (z3 : Int) ≥ z4 := c5
      refine yG.load xak rfl (fun _ _ => rfl) (v := yR 2073) rfl rfl ?_
      refine yG.getI A_hp.1 (w_textSize W) rfl rfl (fun z6 e_z6 i_z6 l_z6 u_z6 => ?_)
      refine yG.putI A_hp.1 (w_fault W) (by decide) rfl rfl (.inl rfl) ⟨by omega, by omega⟩ (by omega) (by omega) (fun h7 T_h7 b_h7 f_h7 y_h7 => ?_)
      have A_h7 := A_hp.putF T_h7 b_h7 f_h7 (by decide)
      have g19_h7 : ys h7 2073 19 = ys hp 2073 19 := (y_h7 2073 19).trans (if_neg (by omega))
      have g18_h7 : ys h7 2073 18 = ys hp 2073 18 := (y_h7 2073 18).trans (if_neg (by omega))
      have g20_h7 : ys h7 2073 20 = ys hp 2073 20 := (y_h7 2073 20).trans (if_neg (by omega))
      have g21_h7 : ys h7 2073 21 = z6 := (y_h7 2073 21).trans (if_pos ⟨rfl, rfl⟩)
      refine yG.ret rfl (fun _ _ => rfl) ?_
      exact yP.void ⟨rfl, A_h7⟩
    · have c5 : (z3 : Int) < z4 := c5
      refine yG.load xak rfl (fun _ _ => rfl) (v := yR 2073) rfl rfl ?_
      refine yG.getR A_hp.1 (r_wordAt W) rfl rfl ?_
      refine yG.load xak rfl (fun _ _ => rfl) (v := yR 2073) rfl rfl ?_
      refine yG.getI A_hp.1 (w_at W) rfl rfl (fun z8 e_z8 i_z8 l_z8 u_z8 => ?_)
      refine yG.iald A_hp.1 (v_wordAt W) rfl (by omega) (by omega) (fun z9 e_z9 i_z9 l_z9 u_z9 => ?_)
      refine yG.goto rfl (t := 35) rfl ?_
      refine yG.putI A_hp.1 (w_fault W) (by decide) rfl rfl (.inl rfl) ⟨by omega, by omega⟩ (by omega) (by omega) (fun h10 T_h10 b_h10 f_h10 y_h10 => ?_)
      have A_h10 := A_hp.putF T_h10 b_h10 f_h10 (by decide)
      have g19_h10 : ys h10 2073 19 = ys hp 2073 19 := (y_h10 2073 19).trans (if_neg (by omega))
      have g18_h10 : ys h10 2073 18 = ys hp 2073 18 := (y_h10 2073 18).trans (if_neg (by omega))
      have g21_h10 : ys h10 2073 21 = z9 := (y_h10 2073 21).trans (if_pos ⟨rfl, rfl⟩)
      refine yG.ret rfl (fun _ _ => rfl) ?_
      exact yP.void ⟨rfl, A_h10⟩
theorem a_cell {hp : xH} (W : yWW G) (d : Nat) (hT : zTy G hp) (p1 : Int) (h1l : 0 ≤ p1) (h1u : p1 ≤ 63) : yC (xcall 89 xfts xpools xms (d + 4)) 365 [yR 2073, yI (p1)] hp (yQv G [] [2142, 2143, 2144] hp) := by
  have A_hp : yAx G [] [2142, 2143, 2144] hp hp := yAx.rf hT
  have H : ∀ m : Nat, (∀ a2 : Int, ∀ hq, yAx G [] [2142, 2143, 2144] hp hq → 0 ≤ a2 → (-6) ≤ 0 - a2 → 0 ≤ p1 → (-63) ≤ 0 - p1 → 0 - 2 * a2 + 13 < (m : Int) → yG 89 xfts (xcall 89 xfts xpools xms (d + 3)) (xpool xp_RX13) [] xt_X13_cell (yP 0 (yQv G [] [2142, 2143, 2144] hp)) (74 * m) 2 [(0, yR 2073), (1, yI (p1)), (2, yI (a2))] [] hq) := by
    intro m
    induction m with
    | zero =>
      intros; exfalso; omega
    | succ m ih =>
      have i_2 := ih
      clear ih
      intro a2 hq A_hq f0 f1 f2 f3 hm
      refine yG.mono (N := 74 * m + 74) ?_ (by omega)
      refine yG.load xik rfl (fun _ _ => rfl) (v := yI (a2)) rfl rfl ?_
      refine yG.load xak rfl (fun _ _ => rfl) (v := yR 2073) rfl rfl ?_
      refine yG.getI A_hq.1 (w_machines W) rfl rfl (fun z1 e_z1 i_z1 l_z1 u_z1 => ?_)
      refine yG.icmp rfl (t := 177) rfl ⟨by omega, by omega⟩ ⟨by omega, by omega⟩ (fun c2 => ?_) (fun c2 => ?_)
      · have c2 : (a2 : Int) ≥ z1 := c2
        refine yG.ret rfl (fun _ _ => rfl) ?_
        exact yP.void ⟨rfl, A_hq⟩
      · have c2 : (a2 : Int) < z1 := c2
        refine yG.load xak rfl (fun _ _ => rfl) (v := yR 2073) rfl rfl ?_
        refine yG.getR A_hq.1 (r_machineAt W) rfl rfl ?_
        refine yG.load xik rfl (fun _ _ => rfl) (v := yI (a2)) rfl rfl ?_
        refine yG.iald A_hq.1 (v_machineAt W) rfl (by omega) (by omega) (fun z3 e_z3 i_z3 l_z3 u_z3 => ?_)
        refine yG.store1 xik (L' := [(3, yI (z3)), (0, yR 2073), (1, yI (p1)), (2, yI (a2))]) rfl (fun _ _ => rfl) rfl rfl ?_
        refine yG.load xak rfl (fun _ _ => rfl) (v := yR 2073) rfl rfl ?_
        refine yG.load xik rfl (fun _ _ => rfl) (v := yI (a2)) rfl rfl ?_
        refine yG.invV (rest := []) A_hq.1 W.m.1 rfl rfl rfl rfl (a_turns W d A_hq.1 (a2) (by omega) (by omega)) (fun rv hp9 q9 => ?_)
        obtain ⟨⟨z4, rfl, l_z4, u_z4⟩, e9⟩ := q9
        rw [e9]
        show yG _ _ _ _ _ _ _ _ _ _ (yI z4 :: []) _
        refine yG.ifz rfl (t := 42) rfl ⟨by omega, by omega⟩ (fun c5 => ?_) (fun c5 => ?_)
        · have c5 : (z4 : Int) = 0 := c5
          refine yG.load xak rfl (fun _ _ => rfl) (v := yR 2073) rfl rfl ?_
          refine yG.num (c := 3) rfl (fun _ _ => rfl) (by decide) ?_
          refine yG.load xik rfl (fun _ _ => rfl) (v := yI (z3)) rfl rfl ?_
          refine yG.num (c := 7) rfl (fun _ _ => rfl) (by decide) ?_
          refine yG.invV (rest := []) A_hq.1 W.m.1 rfl rfl rfl rfl (a_of_3_7 W (d + 1) A_hq.1 (z3) (by omega) (by omega)) (fun rv hp9 q9 => ?_)
          obtain ⟨⟨z6, rfl, l_z6, u_z6⟩, e9⟩ := q9
          rw [e9]
          show yG _ _ _ _ _ _ _ _ _ _ (yI z6 :: []) _
          refine yG.load xak rfl (fun _ _ => rfl) (v := yR 2073) rfl rfl ?_
          refine yG.num (c := 3) rfl (fun _ _ => rfl) (by decide) ?_
          refine yG.load xik rfl (fun _ _ => rfl) (v := yI (z3)) rfl rfl ?_
          refine yG.num (c := 4) rfl (fun _ _ => rfl) (by decide) ?_
          refine yG.invV (rest := [yI (z6)]) A_hq.1 W.m.1 rfl rfl rfl rfl (a_of_3_4 W (d + 1) A_hq.1 (z3) (by omega) (by omega)) (fun rv hp9 q9 => ?_)
          obtain ⟨⟨z7, rfl, l_z7, u_z7⟩, e9⟩ := q9
          rw [e9]
          show yG _ _ _ _ _ _ _ _ _ _ (yI z7 :: [yI (z6)]) _
          refine yG.icmp rfl (t := 64) rfl ⟨by omega, by omega⟩ ⟨by omega, by omega⟩ (fun c8 => ?_) (fun c8 => ?_)
          · have c8 : (z6 : Int) > z7 := c8
            refine yG.num (c := 0) rfl (fun _ _ => rfl) (by decide) ?_
            refine yG.store1 xik (L' := [(4, yI (0)), (3, yI (z3)), (0, yR 2073), (1, yI (p1)), (2, yI (a2))]) rfl (fun _ _ => rfl) rfl rfl ?_
            refine yG.load xak rfl (fun _ _ => rfl) (v := yR 2073) rfl rfl ?_
            refine yG.getR A_hq.1 (r_low W) rfl rfl ?_
            refine yG.load xik rfl (fun _ _ => rfl) (v := yI (a2)) rfl rfl ?_
            refine yG.load xak rfl (fun _ _ => rfl) (v := yR 2073) rfl rfl ?_
            refine yG.load xik rfl (fun _ _ => rfl) (v := yI (a2)) rfl rfl ?_
            refine yG.invV (rest := [yI (a2), yR 2142]) A_hq.1 W.m.1 rfl rfl rfl rfl (a_turns W d A_hq.1 (a2) (by omega) (by omega)) (fun rv hp9 q9 => ?_)
            obtain ⟨⟨z9, rfl, l_z9, u_z9⟩, e9⟩ := q9
            rw [e9]
            show yG _ _ _ _ _ _ _ _ _ _ (yI z9 :: [yI (a2), yR 2142]) _
            refine yG.ifz rfl (t := 96) rfl ⟨by omega, by omega⟩ (fun c10 => ?_) (fun c10 => ?_)
            · have c10 : (z9 : Int) = 0 := c10
              refine yG.load xak rfl (fun _ _ => rfl) (v := yR 2073) rfl rfl ?_
              refine yG.num (c := 3) rfl (fun _ _ => rfl) (by decide) ?_
              refine yG.load xik rfl (fun _ _ => rfl) (v := yI (z3)) rfl rfl ?_
              refine yG.num (c := 4) rfl (fun _ _ => rfl) (by decide) ?_
              refine yG.invV (rest := [yI (a2), yR 2142]) A_hq.1 W.m.1 rfl rfl rfl rfl (a_of_3_4 W (d + 1) A_hq.1 (z3) (by omega) (by omega)) (fun rv hp9 q9 => ?_)
              obtain ⟨⟨z11, rfl, l_z11, u_z11⟩, e9⟩ := q9
              rw [e9]
              show yG _ _ _ _ _ _ _ _ _ _ (yI z11 :: [yI (a2), yR 2142]) _
              refine yG.iast A_hq.1 (v_low W) (by decide) rfl (by omega) (by omega) ⟨by omega, by omega⟩ (by omega) (by omega) (fun h12 T_h12 b_h12 f_h12 y_h12 => ?_)
              have A_h12 := A_hq.putA T_h12 b_h12 f_h12 (by decide)
              have g102_h12 : ys h12 2073 102 = ys hq 2073 102 := (y_h12 2073 102).trans (if_neg (by omega))
              refine yG.load xak rfl (fun _ _ => rfl) (v := yR 2073) rfl rfl ?_
              refine yG.getR A_h12.1 (r_high W) rfl rfl ?_
              refine yG.load xik rfl (fun _ _ => rfl) (v := yI (a2)) rfl rfl ?_
              refine yG.load xak rfl (fun _ _ => rfl) (v := yR 2073) rfl rfl ?_
              refine yG.load xik rfl (fun _ _ => rfl) (v := yI (a2)) rfl rfl ?_
              refine yG.invV (rest := [yI (a2), yR 2143]) A_h12.1 W.m.1 rfl rfl rfl rfl (a_turns W d A_h12.1 (a2) (by omega) (by omega)) (fun rv hp9 q9 => ?_)
              obtain ⟨⟨z13, rfl, l_z13, u_z13⟩, e9⟩ := q9
              rw [e9]
              show yG _ _ _ _ _ _ _ _ _ _ (yI z13 :: [yI (a2), yR 2143]) _
              refine yG.ifz rfl (t := 133) rfl ⟨by omega, by omega⟩ (fun c14 => ?_) (fun c14 => ?_)
              · have c14 : (z13 : Int) = 0 := c14
                refine yG.load xak rfl (fun _ _ => rfl) (v := yR 2073) rfl rfl ?_
                refine yG.num (c := 3) rfl (fun _ _ => rfl) (by decide) ?_
                refine yG.load xik rfl (fun _ _ => rfl) (v := yI (z3)) rfl rfl ?_
                refine yG.num (c := 5) rfl (fun _ _ => rfl) (by decide) ?_
                refine yG.invV (rest := [yI (a2), yR 2143]) A_h12.1 W.m.1 rfl rfl rfl rfl (a_of_3_5 W (d + 1) A_h12.1 (z3) (by omega) (by omega)) (fun rv hp9 q9 => ?_)
                obtain ⟨⟨z15, rfl, l_z15, u_z15⟩, e9⟩ := q9
                rw [e9]
                show yG _ _ _ _ _ _ _ _ _ _ (yI z15 :: [yI (a2), yR 2143]) _
                refine yG.iast A_h12.1 (v_high W) (by decide) rfl (by omega) (by omega) ⟨by omega, by omega⟩ (by omega) (by omega) (fun h16 T_h16 b_h16 f_h16 y_h16 => ?_)
                have A_h16 := A_h12.putA T_h16 b_h16 f_h16 (by decide)
                have g102_h16 : ys h16 2073 102 = ys h12 2073 102 := (y_h16 2073 102).trans (if_neg (by omega))
                refine yG.load xak rfl (fun _ _ => rfl) (v := yR 2073) rfl rfl ?_
                refine yG.getR A_h16.1 (r_slope W) rfl rfl ?_
                refine yG.load xik rfl (fun _ _ => rfl) (v := yI (a2)) rfl rfl ?_
                refine yG.load xik rfl (fun _ _ => rfl) (v := yI (0)) rfl rfl ?_
                refine yG.ifz rfl (t := 162) rfl ⟨by omega, by omega⟩ (fun c17 => ?_) (fun c17 => ?_)
                · have c17 : (0 : Int) = 0 := c17
                  refine yG.load xak rfl (fun _ _ => rfl) (v := yR 2073) rfl rfl ?_
                  refine yG.num (c := 3) rfl (fun _ _ => rfl) (by decide) ?_
                  refine yG.load xik rfl (fun _ _ => rfl) (v := yI (z3)) rfl rfl ?_
                  refine yG.num (c := 6) rfl (fun _ _ => rfl) (by decide) ?_
                  refine yG.invV (rest := [yI (a2), yR 2144]) A_h16.1 W.m.1 rfl rfl rfl rfl (a_of_3_6 W (d + 1) A_h16.1 (z3) (by omega) (by omega)) (fun rv hp9 q9 => ?_)
                  obtain ⟨⟨z18, rfl, l_z18, u_z18⟩, e9⟩ := q9
                  rw [e9]
                  show yG _ _ _ _ _ _ _ _ _ _ (yI z18 :: [yI (a2), yR 2144]) _
                  refine yG.iast A_h16.1 (v_slope W) (by decide) rfl (by omega) (by omega) ⟨by omega, by omega⟩ (by omega) (by omega) (fun h19 T_h19 b_h19 f_h19 y_h19 => ?_)
                  have A_h19 := A_h16.putA T_h19 b_h19 f_h19 (by decide)
                  have g102_h19 : ys h19 2073 102 = ys h16 2073 102 := (y_h19 2073 102).trans (if_neg (by omega))
                  refine yG.iinc rfl (a := a2) rfl (L' := [(2, yI (a2 + 1)), (4, yI (0)), (3, yI (z3)), (0, yR 2073), (1, yI (p1))]) rfl ?_
                  refine yG.goto rfl (t := 2) rfl ?_
                  exact yG.mono (yG.sub (i_2 (a2 + 1)  h19 A_h19  (by omega) (by omega) (by omega) (by omega) (by omega)) (ySub.cons rfl (ySub.cons rfl (ySub.cons rfl (ySub.nil))))) (by omega)
                · have c17 : (0 : Int) ≠ 0 := c17
                  exfalso; omega
              · have c14 : (z13 : Int) ≠ 0 := c14
                refine yG.load xik rfl (fun _ _ => rfl) (v := yI (0)) rfl rfl ?_
                refine yG.ifz rfl (t := 133) rfl ⟨by omega, by omega⟩ (fun c20 => ?_) (fun c20 => ?_)
                · have c20 : (0 : Int) ≠ 0 := c20
                  exfalso; omega
                · have c20 : (0 : Int) = 0 := c20
                  refine yG.load xak rfl (fun _ _ => rfl) (v := yR 2073) rfl rfl ?_
                  refine yG.num (c := 3) rfl (fun _ _ => rfl) (by decide) ?_
                  refine yG.load xik rfl (fun _ _ => rfl) (v := yI (z3)) rfl rfl ?_
                  refine yG.num (c := 7) rfl (fun _ _ => rfl) (by decide) ?_
                  refine yG.invV (rest := [yI (a2), yR 2143]) A_h12.1 W.m.1 rfl rfl rfl rfl (a_of_3_7 W (d + 1) A_h12.1 (z3) (by omega) (by omega)) (fun rv hp9 q9 => ?_)
                  obtain ⟨⟨z21, rfl, l_z21, u_z21⟩, e9⟩ := q9
                  rw [e9]
                  show yG _ _ _ _ _ _ _ _ _ _ (yI z21 :: [yI (a2), yR 2143]) _
                  refine yG.goto rfl (t := 140) rfl ?_
                  refine yG.iast A_h12.1 (v_high W) (by decide) rfl (by omega) (by omega) ⟨by omega, by omega⟩ (by omega) (by omega) (fun h22 T_h22 b_h22 f_h22 y_h22 => ?_)
                  have A_h22 := A_h12.putA T_h22 b_h22 f_h22 (by decide)
                  have g102_h22 : ys h22 2073 102 = ys h12 2073 102 := (y_h22 2073 102).trans (if_neg (by omega))
                  refine yG.load xak rfl (fun _ _ => rfl) (v := yR 2073) rfl rfl ?_
                  refine yG.getR A_h22.1 (r_slope W) rfl rfl ?_
                  refine yG.load xik rfl (fun _ _ => rfl) (v := yI (a2)) rfl rfl ?_
                  refine yG.load xik rfl (fun _ _ => rfl) (v := yI (0)) rfl rfl ?_
                  refine yG.ifz rfl (t := 162) rfl ⟨by omega, by omega⟩ (fun c23 => ?_) (fun c23 => ?_)
                  · have c23 : (0 : Int) = 0 := c23
                    refine yG.load xak rfl (fun _ _ => rfl) (v := yR 2073) rfl rfl ?_
                    refine yG.num (c := 3) rfl (fun _ _ => rfl) (by decide) ?_
                    refine yG.load xik rfl (fun _ _ => rfl) (v := yI (z3)) rfl rfl ?_
                    refine yG.num (c := 6) rfl (fun _ _ => rfl) (by decide) ?_
                    refine yG.invV (rest := [yI (a2), yR 2144]) A_h22.1 W.m.1 rfl rfl rfl rfl (a_of_3_6 W (d + 1) A_h22.1 (z3) (by omega) (by omega)) (fun rv hp9 q9 => ?_)
                    obtain ⟨⟨z24, rfl, l_z24, u_z24⟩, e9⟩ := q9
                    rw [e9]
                    show yG _ _ _ _ _ _ _ _ _ _ (yI z24 :: [yI (a2), yR 2144]) _
                    refine yG.iast A_h22.1 (v_slope W) (by decide) rfl (by omega) (by omega) ⟨by omega, by omega⟩ (by omega) (by omega) (fun h25 T_h25 b_h25 f_h25 y_h25 => ?_)
                    have A_h25 := A_h22.putA T_h25 b_h25 f_h25 (by decide)
                    have g102_h25 : ys h25 2073 102 = ys h22 2073 102 := (y_h25 2073 102).trans (if_neg (by omega))
                    refine yG.iinc rfl (a := a2) rfl (L' := [(2, yI (a2 + 1)), (4, yI (0)), (3, yI (z3)), (0, yR 2073), (1, yI (p1))]) rfl ?_
                    refine yG.goto rfl (t := 2) rfl ?_
                    exact yG.mono (yG.sub (i_2 (a2 + 1)  h25 A_h25  (by omega) (by omega) (by omega) (by omega) (by omega)) (ySub.cons rfl (ySub.cons rfl (ySub.cons rfl (ySub.nil))))) (by omega)
                  · have c23 : (0 : Int) ≠ 0 := c23
                    exfalso; omega
            · have c10 : (z9 : Int) ≠ 0 := c10
              refine yG.load xik rfl (fun _ _ => rfl) (v := yI (0)) rfl rfl ?_
              refine yG.ifz rfl (t := 96) rfl ⟨by omega, by omega⟩ (fun c26 => ?_) (fun c26 => ?_)
              · have c26 : (0 : Int) = 0 := c26
                refine yG.load xak rfl (fun _ _ => rfl) (v := yR 2073) rfl rfl ?_
                refine yG.num (c := 3) rfl (fun _ _ => rfl) (by decide) ?_
                refine yG.load xik rfl (fun _ _ => rfl) (v := yI (z3)) rfl rfl ?_
                refine yG.num (c := 4) rfl (fun _ _ => rfl) (by decide) ?_
                refine yG.invV (rest := [yI (a2), yR 2142]) A_hq.1 W.m.1 rfl rfl rfl rfl (a_of_3_4 W (d + 1) A_hq.1 (z3) (by omega) (by omega)) (fun rv hp9 q9 => ?_)
                obtain ⟨⟨z27, rfl, l_z27, u_z27⟩, e9⟩ := q9
                rw [e9]
                show yG _ _ _ _ _ _ _ _ _ _ (yI z27 :: [yI (a2), yR 2142]) _
                refine yG.iast A_hq.1 (v_low W) (by decide) rfl (by omega) (by omega) ⟨by omega, by omega⟩ (by omega) (by omega) (fun h28 T_h28 b_h28 f_h28 y_h28 => ?_)
                have A_h28 := A_hq.putA T_h28 b_h28 f_h28 (by decide)
                have g102_h28 : ys h28 2073 102 = ys hq 2073 102 := (y_h28 2073 102).trans (if_neg (by omega))
                refine yG.load xak rfl (fun _ _ => rfl) (v := yR 2073) rfl rfl ?_
                refine yG.getR A_h28.1 (r_high W) rfl rfl ?_
                refine yG.load xik rfl (fun _ _ => rfl) (v := yI (a2)) rfl rfl ?_
                refine yG.load xak rfl (fun _ _ => rfl) (v := yR 2073) rfl rfl ?_
                refine yG.load xik rfl (fun _ _ => rfl) (v := yI (a2)) rfl rfl ?_
                refine yG.invV (rest := [yI (a2), yR 2143]) A_h28.1 W.m.1 rfl rfl rfl rfl (a_turns W d A_h28.1 (a2) (by omega) (by omega)) (fun rv hp9 q9 => ?_)
                obtain ⟨⟨z29, rfl, l_z29, u_z29⟩, e9⟩ := q9
                rw [e9]
                show yG _ _ _ _ _ _ _ _ _ _ (yI z29 :: [yI (a2), yR 2143]) _
                refine yG.ifz rfl (t := 133) rfl ⟨by omega, by omega⟩ (fun c30 => ?_) (fun c30 => ?_)
                · have c30 : (z29 : Int) = 0 := c30
                  refine yG.load xak rfl (fun _ _ => rfl) (v := yR 2073) rfl rfl ?_
                  refine yG.num (c := 3) rfl (fun _ _ => rfl) (by decide) ?_
                  refine yG.load xik rfl (fun _ _ => rfl) (v := yI (z3)) rfl rfl ?_
                  refine yG.num (c := 5) rfl (fun _ _ => rfl) (by decide) ?_
                  refine yG.invV (rest := [yI (a2), yR 2143]) A_h28.1 W.m.1 rfl rfl rfl rfl (a_of_3_5 W (d + 1) A_h28.1 (z3) (by omega) (by omega)) (fun rv hp9 q9 => ?_)
                  obtain ⟨⟨z31, rfl, l_z31, u_z31⟩, e9⟩ := q9
                  rw [e9]
                  show yG _ _ _ _ _ _ _ _ _ _ (yI z31 :: [yI (a2), yR 2143]) _
                  refine yG.iast A_h28.1 (v_high W) (by decide) rfl (by omega) (by omega) ⟨by omega, by omega⟩ (by omega) (by omega) (fun h32 T_h32 b_h32 f_h32 y_h32 => ?_)
                  have A_h32 := A_h28.putA T_h32 b_h32 f_h32 (by decide)
                  have g102_h32 : ys h32 2073 102 = ys h28 2073 102 := (y_h32 2073 102).trans (if_neg (by omega))
                  refine yG.load xak rfl (fun _ _ => rfl) (v := yR 2073) rfl rfl ?_
                  refine yG.getR A_h32.1 (r_slope W) rfl rfl ?_
                  refine yG.load xik rfl (fun _ _ => rfl) (v := yI (a2)) rfl rfl ?_
                  refine yG.load xik rfl (fun _ _ => rfl) (v := yI (0)) rfl rfl ?_
                  refine yG.ifz rfl (t := 162) rfl ⟨by omega, by omega⟩ (fun c33 => ?_) (fun c33 => ?_)
                  · have c33 : (0 : Int) = 0 := c33
                    refine yG.load xak rfl (fun _ _ => rfl) (v := yR 2073) rfl rfl ?_
                    refine yG.num (c := 3) rfl (fun _ _ => rfl) (by decide) ?_
                    refine yG.load xik rfl (fun _ _ => rfl) (v := yI (z3)) rfl rfl ?_
                    refine yG.num (c := 6) rfl (fun _ _ => rfl) (by decide) ?_
                    refine yG.invV (rest := [yI (a2), yR 2144]) A_h32.1 W.m.1 rfl rfl rfl rfl (a_of_3_6 W (d + 1) A_h32.1 (z3) (by omega) (by omega)) (fun rv hp9 q9 => ?_)
                    obtain ⟨⟨z34, rfl, l_z34, u_z34⟩, e9⟩ := q9
                    rw [e9]
                    show yG _ _ _ _ _ _ _ _ _ _ (yI z34 :: [yI (a2), yR 2144]) _
                    refine yG.iast A_h32.1 (v_slope W) (by decide) rfl (by omega) (by omega) ⟨by omega, by omega⟩ (by omega) (by omega) (fun h35 T_h35 b_h35 f_h35 y_h35 => ?_)
                    have A_h35 := A_h32.putA T_h35 b_h35 f_h35 (by decide)
                    have g102_h35 : ys h35 2073 102 = ys h32 2073 102 := (y_h35 2073 102).trans (if_neg (by omega))
                    refine yG.iinc rfl (a := a2) rfl (L' := [(2, yI (a2 + 1)), (4, yI (0)), (3, yI (z3)), (0, yR 2073), (1, yI (p1))]) rfl ?_
                    refine yG.goto rfl (t := 2) rfl ?_
                    exact yG.mono (yG.sub (i_2 (a2 + 1)  h35 A_h35  (by omega) (by omega) (by omega) (by omega) (by omega)) (ySub.cons rfl (ySub.cons rfl (ySub.cons rfl (ySub.nil))))) (by omega)
                  · have c33 : (0 : Int) ≠ 0 := c33
                    exfalso; omega
                · have c30 : (z29 : Int) ≠ 0 := c30
                  refine yG.load xik rfl (fun _ _ => rfl) (v := yI (0)) rfl rfl ?_
                  refine yG.ifz rfl (t := 133) rfl ⟨by omega, by omega⟩ (fun c36 => ?_) (fun c36 => ?_)
                  · have c36 : (0 : Int) ≠ 0 := c36
                    exfalso; omega
                  · have c36 : (0 : Int) = 0 := c36
                    refine yG.load xak rfl (fun _ _ => rfl) (v := yR 2073) rfl rfl ?_
                    refine yG.num (c := 3) rfl (fun _ _ => rfl) (by decide) ?_
                    refine yG.load xik rfl (fun _ _ => rfl) (v := yI (z3)) rfl rfl ?_
                    refine yG.num (c := 7) rfl (fun _ _ => rfl) (by decide) ?_
                    refine yG.invV (rest := [yI (a2), yR 2143]) A_h28.1 W.m.1 rfl rfl rfl rfl (a_of_3_7 W (d + 1) A_h28.1 (z3) (by omega) (by omega)) (fun rv hp9 q9 => ?_)
                    obtain ⟨⟨z37, rfl, l_z37, u_z37⟩, e9⟩ := q9
                    rw [e9]
                    show yG _ _ _ _ _ _ _ _ _ _ (yI z37 :: [yI (a2), yR 2143]) _
                    refine yG.goto rfl (t := 140) rfl ?_
                    refine yG.iast A_h28.1 (v_high W) (by decide) rfl (by omega) (by omega) ⟨by omega, by omega⟩ (by omega) (by omega) (fun h38 T_h38 b_h38 f_h38 y_h38 => ?_)
                    have A_h38 := A_h28.putA T_h38 b_h38 f_h38 (by decide)
                    have g102_h38 : ys h38 2073 102 = ys h28 2073 102 := (y_h38 2073 102).trans (if_neg (by omega))
                    refine yG.load xak rfl (fun _ _ => rfl) (v := yR 2073) rfl rfl ?_
                    refine yG.getR A_h38.1 (r_slope W) rfl rfl ?_
                    refine yG.load xik rfl (fun _ _ => rfl) (v := yI (a2)) rfl rfl ?_
                    refine yG.load xik rfl (fun _ _ => rfl) (v := yI (0)) rfl rfl ?_
                    refine yG.ifz rfl (t := 162) rfl ⟨by omega, by omega⟩ (fun c39 => ?_) (fun c39 => ?_)
                    · have c39 : (0 : Int) = 0 := c39
                      refine yG.load xak rfl (fun _ _ => rfl) (v := yR 2073) rfl rfl ?_
                      refine yG.num (c := 3) rfl (fun _ _ => rfl) (by decide) ?_
                      refine yG.load xik rfl (fun _ _ => rfl) (v := yI (z3)) rfl rfl ?_
                      refine yG.num (c := 6) rfl (fun _ _ => rfl) (by decide) ?_
                      refine yG.invV (rest := [yI (a2), yR 2144]) A_h38.1 W.m.1 rfl rfl rfl rfl (a_of_3_6 W (d + 1) A_h38.1 (z3) (by omega) (by omega)) (fun rv hp9 q9 => ?_)
                      obtain ⟨⟨z40, rfl, l_z40, u_z40⟩, e9⟩ := q9
                      rw [e9]
                      show yG _ _ _ _ _ _ _ _ _ _ (yI z40 :: [yI (a2), yR 2144]) _
                      refine yG.iast A_h38.1 (v_slope W) (by decide) rfl (by omega) (by omega) ⟨by omega, by omega⟩ (by omega) (by omega) (fun h41 T_h41 b_h41 f_h41 y_h41 => ?_)
                      have A_h41 := A_h38.putA T_h41 b_h41 f_h41 (by decide)
                      have g102_h41 : ys h41 2073 102 = ys h38 2073 102 := (y_h41 2073 102).trans (if_neg (by omega))
                      refine yG.iinc rfl (a := a2) rfl (L' := [(2, yI (a2 + 1)), (4, yI (0)), (3, yI (z3)), (0, yR 2073), (1, yI (p1))]) rfl ?_
                      refine yG.goto rfl (t := 2) rfl ?_
                      exact yG.mono (yG.sub (i_2 (a2 + 1)  h41 A_h41  (by omega) (by omega) (by omega) (by omega) (by omega)) (ySub.cons rfl (ySub.cons rfl (ySub.cons rfl (ySub.nil))))) (by omega)
                    · have c39 : (0 : Int) ≠ 0 := c39
                      exfalso; omega
              · have c26 : (0 : Int) ≠ 0 := c26
                exfalso; omega
          · have c8 : (z6 : Int) ≤ z7 := c8
            refine yG.num (c := 1) rfl (fun _ _ => rfl) (by decide) ?_
            refine yG.goto rfl (t := 65) rfl ?_
            refine yG.store1 xik (L' := [(4, yI (1)), (3, yI (z3)), (0, yR 2073), (1, yI (p1)), (2, yI (a2))]) rfl (fun _ _ => rfl) rfl rfl ?_
            refine yG.load xak rfl (fun _ _ => rfl) (v := yR 2073) rfl rfl ?_
            refine yG.getR A_hq.1 (r_low W) rfl rfl ?_
            refine yG.load xik rfl (fun _ _ => rfl) (v := yI (a2)) rfl rfl ?_
            refine yG.load xak rfl (fun _ _ => rfl) (v := yR 2073) rfl rfl ?_
            refine yG.load xik rfl (fun _ _ => rfl) (v := yI (a2)) rfl rfl ?_
            refine yG.invV (rest := [yI (a2), yR 2142]) A_hq.1 W.m.1 rfl rfl rfl rfl (a_turns W d A_hq.1 (a2) (by omega) (by omega)) (fun rv hp9 q9 => ?_)
            obtain ⟨⟨z42, rfl, l_z42, u_z42⟩, e9⟩ := q9
            rw [e9]
            show yG _ _ _ _ _ _ _ _ _ _ (yI z42 :: [yI (a2), yR 2142]) _
            refine yG.ifz rfl (t := 96) rfl ⟨by omega, by omega⟩ (fun c43 => ?_) (fun c43 => ?_)
            · have c43 : (z42 : Int) = 0 := c43
              refine yG.load xak rfl (fun _ _ => rfl) (v := yR 2073) rfl rfl ?_
              refine yG.num (c := 3) rfl (fun _ _ => rfl) (by decide) ?_
              refine yG.load xik rfl (fun _ _ => rfl) (v := yI (z3)) rfl rfl ?_
              refine yG.num (c := 4) rfl (fun _ _ => rfl) (by decide) ?_
              refine yG.invV (rest := [yI (a2), yR 2142]) A_hq.1 W.m.1 rfl rfl rfl rfl (a_of_3_4 W (d + 1) A_hq.1 (z3) (by omega) (by omega)) (fun rv hp9 q9 => ?_)
              obtain ⟨⟨z44, rfl, l_z44, u_z44⟩, e9⟩ := q9
              rw [e9]
              show yG _ _ _ _ _ _ _ _ _ _ (yI z44 :: [yI (a2), yR 2142]) _
              refine yG.iast A_hq.1 (v_low W) (by decide) rfl (by omega) (by omega) ⟨by omega, by omega⟩ (by omega) (by omega) (fun h45 T_h45 b_h45 f_h45 y_h45 => ?_)
              have A_h45 := A_hq.putA T_h45 b_h45 f_h45 (by decide)
              have g102_h45 : ys h45 2073 102 = ys hq 2073 102 := (y_h45 2073 102).trans (if_neg (by omega))
              refine yG.load xak rfl (fun _ _ => rfl) (v := yR 2073) rfl rfl ?_
              refine yG.getR A_h45.1 (r_high W) rfl rfl ?_
              refine yG.load xik rfl (fun _ _ => rfl) (v := yI (a2)) rfl rfl ?_
              refine yG.load xak rfl (fun _ _ => rfl) (v := yR 2073) rfl rfl ?_
              refine yG.load xik rfl (fun _ _ => rfl) (v := yI (a2)) rfl rfl ?_
              refine yG.invV (rest := [yI (a2), yR 2143]) A_h45.1 W.m.1 rfl rfl rfl rfl (a_turns W d A_h45.1 (a2) (by omega) (by omega)) (fun rv hp9 q9 => ?_)
              obtain ⟨⟨z46, rfl, l_z46, u_z46⟩, e9⟩ := q9
              rw [e9]
              show yG _ _ _ _ _ _ _ _ _ _ (yI z46 :: [yI (a2), yR 2143]) _
              refine yG.ifz rfl (t := 133) rfl ⟨by omega, by omega⟩ (fun c47 => ?_) (fun c47 => ?_)
              · have c47 : (z46 : Int) = 0 := c47
                refine yG.load xak rfl (fun _ _ => rfl) (v := yR 2073) rfl rfl ?_
                refine yG.num (c := 3) rfl (fun _ _ => rfl) (by decide) ?_
                refine yG.load xik rfl (fun _ _ => rfl) (v := yI (z3)) rfl rfl ?_
                refine yG.num (c := 5) rfl (fun _ _ => rfl) (by decide) ?_
                refine yG.invV (rest := [yI (a2), yR 2143]) A_h45.1 W.m.1 rfl rfl rfl rfl (a_of_3_5 W (d + 1) A_h45.1 (z3) (by omega) (by omega)) (fun rv hp9 q9 => ?_)
                obtain ⟨⟨z48, rfl, l_z48, u_z48⟩, e9⟩ := q9
                rw [e9]
                show yG _ _ _ _ _ _ _ _ _ _ (yI z48 :: [yI (a2), yR 2143]) _
                refine yG.iast A_h45.1 (v_high W) (by decide) rfl (by omega) (by omega) ⟨by omega, by omega⟩ (by omega) (by omega) (fun h49 T_h49 b_h49 f_h49 y_h49 => ?_)
                have A_h49 := A_h45.putA T_h49 b_h49 f_h49 (by decide)
                have g102_h49 : ys h49 2073 102 = ys h45 2073 102 := (y_h49 2073 102).trans (if_neg (by omega))
                refine yG.load xak rfl (fun _ _ => rfl) (v := yR 2073) rfl rfl ?_
                refine yG.getR A_h49.1 (r_slope W) rfl rfl ?_
                refine yG.load xik rfl (fun _ _ => rfl) (v := yI (a2)) rfl rfl ?_
                refine yG.load xik rfl (fun _ _ => rfl) (v := yI (1)) rfl rfl ?_
                refine yG.ifz rfl (t := 162) rfl ⟨by omega, by omega⟩ (fun c50 => ?_) (fun c50 => ?_)
                · have c50 : (1 : Int) = 0 := c50
                  exfalso; omega
                · have c50 : (1 : Int) ≠ 0 := c50
                  refine yG.load xak rfl (fun _ _ => rfl) (v := yR 2073) rfl rfl ?_
                  refine yG.num (c := 3) rfl (fun _ _ => rfl) (by decide) ?_
                  refine yG.load xik rfl (fun _ _ => rfl) (v := yI (z3)) rfl rfl ?_
                  refine yG.num (c := 8) rfl (fun _ _ => rfl) (by decide) ?_
                  refine yG.invV (rest := [yI (a2), yR 2144]) A_h49.1 W.m.1 rfl rfl rfl rfl (a_of_3_8 W (d + 1) A_h49.1 (z3) (by omega) (by omega)) (fun rv hp9 q9 => ?_)
                  obtain ⟨⟨z51, rfl, l_z51, u_z51⟩, e9⟩ := q9
                  rw [e9]
                  show yG _ _ _ _ _ _ _ _ _ _ (yI z51 :: [yI (a2), yR 2144]) _
                  refine yG.goto rfl (t := 170) rfl ?_
                  refine yG.iast A_h49.1 (v_slope W) (by decide) rfl (by omega) (by omega) ⟨by omega, by omega⟩ (by omega) (by omega) (fun h52 T_h52 b_h52 f_h52 y_h52 => ?_)
                  have A_h52 := A_h49.putA T_h52 b_h52 f_h52 (by decide)
                  have g102_h52 : ys h52 2073 102 = ys h49 2073 102 := (y_h52 2073 102).trans (if_neg (by omega))
                  refine yG.iinc rfl (a := a2) rfl (L' := [(2, yI (a2 + 1)), (4, yI (1)), (3, yI (z3)), (0, yR 2073), (1, yI (p1))]) rfl ?_
                  refine yG.goto rfl (t := 2) rfl ?_
                  exact yG.mono (yG.sub (i_2 (a2 + 1)  h52 A_h52  (by omega) (by omega) (by omega) (by omega) (by omega)) (ySub.cons rfl (ySub.cons rfl (ySub.cons rfl (ySub.nil))))) (by omega)
              · have c47 : (z46 : Int) ≠ 0 := c47
                refine yG.load xik rfl (fun _ _ => rfl) (v := yI (1)) rfl rfl ?_
                refine yG.ifz rfl (t := 133) rfl ⟨by omega, by omega⟩ (fun c53 => ?_) (fun c53 => ?_)
                · have c53 : (1 : Int) ≠ 0 := c53
                  refine yG.load xak rfl (fun _ _ => rfl) (v := yR 2073) rfl rfl ?_
                  refine yG.num (c := 3) rfl (fun _ _ => rfl) (by decide) ?_
                  refine yG.load xik rfl (fun _ _ => rfl) (v := yI (z3)) rfl rfl ?_
                  refine yG.num (c := 5) rfl (fun _ _ => rfl) (by decide) ?_
                  refine yG.invV (rest := [yI (a2), yR 2143]) A_h45.1 W.m.1 rfl rfl rfl rfl (a_of_3_5 W (d + 1) A_h45.1 (z3) (by omega) (by omega)) (fun rv hp9 q9 => ?_)
                  obtain ⟨⟨z54, rfl, l_z54, u_z54⟩, e9⟩ := q9
                  rw [e9]
                  show yG _ _ _ _ _ _ _ _ _ _ (yI z54 :: [yI (a2), yR 2143]) _
                  refine yG.iast A_h45.1 (v_high W) (by decide) rfl (by omega) (by omega) ⟨by omega, by omega⟩ (by omega) (by omega) (fun h55 T_h55 b_h55 f_h55 y_h55 => ?_)
                  have A_h55 := A_h45.putA T_h55 b_h55 f_h55 (by decide)
                  have g102_h55 : ys h55 2073 102 = ys h45 2073 102 := (y_h55 2073 102).trans (if_neg (by omega))
                  refine yG.load xak rfl (fun _ _ => rfl) (v := yR 2073) rfl rfl ?_
                  refine yG.getR A_h55.1 (r_slope W) rfl rfl ?_
                  refine yG.load xik rfl (fun _ _ => rfl) (v := yI (a2)) rfl rfl ?_
                  refine yG.load xik rfl (fun _ _ => rfl) (v := yI (1)) rfl rfl ?_
                  refine yG.ifz rfl (t := 162) rfl ⟨by omega, by omega⟩ (fun c56 => ?_) (fun c56 => ?_)
                  · have c56 : (1 : Int) = 0 := c56
                    exfalso; omega
                  · have c56 : (1 : Int) ≠ 0 := c56
                    refine yG.load xak rfl (fun _ _ => rfl) (v := yR 2073) rfl rfl ?_
                    refine yG.num (c := 3) rfl (fun _ _ => rfl) (by decide) ?_
                    refine yG.load xik rfl (fun _ _ => rfl) (v := yI (z3)) rfl rfl ?_
                    refine yG.num (c := 8) rfl (fun _ _ => rfl) (by decide) ?_
                    refine yG.invV (rest := [yI (a2), yR 2144]) A_h55.1 W.m.1 rfl rfl rfl rfl (a_of_3_8 W (d + 1) A_h55.1 (z3) (by omega) (by omega)) (fun rv hp9 q9 => ?_)
                    obtain ⟨⟨z57, rfl, l_z57, u_z57⟩, e9⟩ := q9
                    rw [e9]
                    show yG _ _ _ _ _ _ _ _ _ _ (yI z57 :: [yI (a2), yR 2144]) _
                    refine yG.goto rfl (t := 170) rfl ?_
                    refine yG.iast A_h55.1 (v_slope W) (by decide) rfl (by omega) (by omega) ⟨by omega, by omega⟩ (by omega) (by omega) (fun h58 T_h58 b_h58 f_h58 y_h58 => ?_)
                    have A_h58 := A_h55.putA T_h58 b_h58 f_h58 (by decide)
                    have g102_h58 : ys h58 2073 102 = ys h55 2073 102 := (y_h58 2073 102).trans (if_neg (by omega))
                    refine yG.iinc rfl (a := a2) rfl (L' := [(2, yI (a2 + 1)), (4, yI (1)), (3, yI (z3)), (0, yR 2073), (1, yI (p1))]) rfl ?_
                    refine yG.goto rfl (t := 2) rfl ?_
                    exact yG.mono (yG.sub (i_2 (a2 + 1)  h58 A_h58  (by omega) (by omega) (by omega) (by omega) (by omega)) (ySub.cons rfl (ySub.cons rfl (ySub.cons rfl (ySub.nil))))) (by omega)
                · have c53 : (1 : Int) = 0 := c53
                  exfalso; omega
            · have c43 : (z42 : Int) ≠ 0 := c43
              refine yG.load xik rfl (fun _ _ => rfl) (v := yI (1)) rfl rfl ?_
              refine yG.ifz rfl (t := 96) rfl ⟨by omega, by omega⟩ (fun c59 => ?_) (fun c59 => ?_)
              · have c59 : (1 : Int) = 0 := c59
                exfalso; omega
              · have c59 : (1 : Int) ≠ 0 := c59
                refine yG.load xak rfl (fun _ _ => rfl) (v := yR 2073) rfl rfl ?_
                refine yG.num (c := 3) rfl (fun _ _ => rfl) (by decide) ?_
                refine yG.load xik rfl (fun _ _ => rfl) (v := yI (z3)) rfl rfl ?_
                refine yG.num (c := 7) rfl (fun _ _ => rfl) (by decide) ?_
                refine yG.invV (rest := [yI (a2), yR 2142]) A_hq.1 W.m.1 rfl rfl rfl rfl (a_of_3_7 W (d + 1) A_hq.1 (z3) (by omega) (by omega)) (fun rv hp9 q9 => ?_)
                obtain ⟨⟨z60, rfl, l_z60, u_z60⟩, e9⟩ := q9
                rw [e9]
                show yG _ _ _ _ _ _ _ _ _ _ (yI z60 :: [yI (a2), yR 2142]) _
                refine yG.goto rfl (t := 103) rfl ?_
                refine yG.iast A_hq.1 (v_low W) (by decide) rfl (by omega) (by omega) ⟨by omega, by omega⟩ (by omega) (by omega) (fun h61 T_h61 b_h61 f_h61 y_h61 => ?_)
                have A_h61 := A_hq.putA T_h61 b_h61 f_h61 (by decide)
                have g102_h61 : ys h61 2073 102 = ys hq 2073 102 := (y_h61 2073 102).trans (if_neg (by omega))
                refine yG.load xak rfl (fun _ _ => rfl) (v := yR 2073) rfl rfl ?_
                refine yG.getR A_h61.1 (r_high W) rfl rfl ?_
                refine yG.load xik rfl (fun _ _ => rfl) (v := yI (a2)) rfl rfl ?_
                refine yG.load xak rfl (fun _ _ => rfl) (v := yR 2073) rfl rfl ?_
                refine yG.load xik rfl (fun _ _ => rfl) (v := yI (a2)) rfl rfl ?_
                refine yG.invV (rest := [yI (a2), yR 2143]) A_h61.1 W.m.1 rfl rfl rfl rfl (a_turns W d A_h61.1 (a2) (by omega) (by omega)) (fun rv hp9 q9 => ?_)
                obtain ⟨⟨z62, rfl, l_z62, u_z62⟩, e9⟩ := q9
                rw [e9]
                show yG _ _ _ _ _ _ _ _ _ _ (yI z62 :: [yI (a2), yR 2143]) _
                refine yG.ifz rfl (t := 133) rfl ⟨by omega, by omega⟩ (fun c63 => ?_) (fun c63 => ?_)
                · have c63 : (z62 : Int) = 0 := c63
                  refine yG.load xak rfl (fun _ _ => rfl) (v := yR 2073) rfl rfl ?_
                  refine yG.num (c := 3) rfl (fun _ _ => rfl) (by decide) ?_
                  refine yG.load xik rfl (fun _ _ => rfl) (v := yI (z3)) rfl rfl ?_
                  refine yG.num (c := 5) rfl (fun _ _ => rfl) (by decide) ?_
                  refine yG.invV (rest := [yI (a2), yR 2143]) A_h61.1 W.m.1 rfl rfl rfl rfl (a_of_3_5 W (d + 1) A_h61.1 (z3) (by omega) (by omega)) (fun rv hp9 q9 => ?_)
                  obtain ⟨⟨z64, rfl, l_z64, u_z64⟩, e9⟩ := q9
                  rw [e9]
                  show yG _ _ _ _ _ _ _ _ _ _ (yI z64 :: [yI (a2), yR 2143]) _
                  refine yG.iast A_h61.1 (v_high W) (by decide) rfl (by omega) (by omega) ⟨by omega, by omega⟩ (by omega) (by omega) (fun h65 T_h65 b_h65 f_h65 y_h65 => ?_)
                  have A_h65 := A_h61.putA T_h65 b_h65 f_h65 (by decide)
                  have g102_h65 : ys h65 2073 102 = ys h61 2073 102 := (y_h65 2073 102).trans (if_neg (by omega))
                  refine yG.load xak rfl (fun _ _ => rfl) (v := yR 2073) rfl rfl ?_
                  refine yG.getR A_h65.1 (r_slope W) rfl rfl ?_
                  refine yG.load xik rfl (fun _ _ => rfl) (v := yI (a2)) rfl rfl ?_
                  refine yG.load xik rfl (fun _ _ => rfl) (v := yI (1)) rfl rfl ?_
                  refine yG.ifz rfl (t := 162) rfl ⟨by omega, by omega⟩ (fun c66 => ?_) (fun c66 => ?_)
                  · have c66 : (1 : Int) = 0 := c66
                    exfalso; omega
                  · have c66 : (1 : Int) ≠ 0 := c66
                    refine yG.load xak rfl (fun _ _ => rfl) (v := yR 2073) rfl rfl ?_
                    refine yG.num (c := 3) rfl (fun _ _ => rfl) (by decide) ?_
                    refine yG.load xik rfl (fun _ _ => rfl) (v := yI (z3)) rfl rfl ?_
                    refine yG.num (c := 8) rfl (fun _ _ => rfl) (by decide) ?_
                    refine yG.invV (rest := [yI (a2), yR 2144]) A_h65.1 W.m.1 rfl rfl rfl rfl (a_of_3_8 W (d + 1) A_h65.1 (z3) (by omega) (by omega)) (fun rv hp9 q9 => ?_)
                    obtain ⟨⟨z67, rfl, l_z67, u_z67⟩, e9⟩ := q9
                    rw [e9]
                    show yG _ _ _ _ _ _ _ _ _ _ (yI z67 :: [yI (a2), yR 2144]) _
                    refine yG.goto rfl (t := 170) rfl ?_
                    refine yG.iast A_h65.1 (v_slope W) (by decide) rfl (by omega) (by omega) ⟨by omega, by omega⟩ (by omega) (by omega) (fun h68 T_h68 b_h68 f_h68 y_h68 => ?_)
                    have A_h68 := A_h65.putA T_h68 b_h68 f_h68 (by decide)
                    have g102_h68 : ys h68 2073 102 = ys h65 2073 102 := (y_h68 2073 102).trans (if_neg (by omega))
                    refine yG.iinc rfl (a := a2) rfl (L' := [(2, yI (a2 + 1)), (4, yI (1)), (3, yI (z3)), (0, yR 2073), (1, yI (p1))]) rfl ?_
                    refine yG.goto rfl (t := 2) rfl ?_
                    exact yG.mono (yG.sub (i_2 (a2 + 1)  h68 A_h68  (by omega) (by omega) (by omega) (by omega) (by omega)) (ySub.cons rfl (ySub.cons rfl (ySub.cons rfl (ySub.nil))))) (by omega)
                · have c63 : (z62 : Int) ≠ 0 := c63
                  refine yG.load xik rfl (fun _ _ => rfl) (v := yI (1)) rfl rfl ?_
                  refine yG.ifz rfl (t := 133) rfl ⟨by omega, by omega⟩ (fun c69 => ?_) (fun c69 => ?_)
                  · have c69 : (1 : Int) ≠ 0 := c69
                    refine yG.load xak rfl (fun _ _ => rfl) (v := yR 2073) rfl rfl ?_
                    refine yG.num (c := 3) rfl (fun _ _ => rfl) (by decide) ?_
                    refine yG.load xik rfl (fun _ _ => rfl) (v := yI (z3)) rfl rfl ?_
                    refine yG.num (c := 5) rfl (fun _ _ => rfl) (by decide) ?_
                    refine yG.invV (rest := [yI (a2), yR 2143]) A_h61.1 W.m.1 rfl rfl rfl rfl (a_of_3_5 W (d + 1) A_h61.1 (z3) (by omega) (by omega)) (fun rv hp9 q9 => ?_)
                    obtain ⟨⟨z70, rfl, l_z70, u_z70⟩, e9⟩ := q9
                    rw [e9]
                    show yG _ _ _ _ _ _ _ _ _ _ (yI z70 :: [yI (a2), yR 2143]) _
                    refine yG.iast A_h61.1 (v_high W) (by decide) rfl (by omega) (by omega) ⟨by omega, by omega⟩ (by omega) (by omega) (fun h71 T_h71 b_h71 f_h71 y_h71 => ?_)
                    have A_h71 := A_h61.putA T_h71 b_h71 f_h71 (by decide)
                    have g102_h71 : ys h71 2073 102 = ys h61 2073 102 := (y_h71 2073 102).trans (if_neg (by omega))
                    refine yG.load xak rfl (fun _ _ => rfl) (v := yR 2073) rfl rfl ?_
                    refine yG.getR A_h71.1 (r_slope W) rfl rfl ?_
                    refine yG.load xik rfl (fun _ _ => rfl) (v := yI (a2)) rfl rfl ?_
                    refine yG.load xik rfl (fun _ _ => rfl) (v := yI (1)) rfl rfl ?_
                    refine yG.ifz rfl (t := 162) rfl ⟨by omega, by omega⟩ (fun c72 => ?_) (fun c72 => ?_)
                    · have c72 : (1 : Int) = 0 := c72
                      exfalso; omega
                    · have c72 : (1 : Int) ≠ 0 := c72
                      refine yG.load xak rfl (fun _ _ => rfl) (v := yR 2073) rfl rfl ?_
                      refine yG.num (c := 3) rfl (fun _ _ => rfl) (by decide) ?_
                      refine yG.load xik rfl (fun _ _ => rfl) (v := yI (z3)) rfl rfl ?_
                      refine yG.num (c := 8) rfl (fun _ _ => rfl) (by decide) ?_
                      refine yG.invV (rest := [yI (a2), yR 2144]) A_h71.1 W.m.1 rfl rfl rfl rfl (a_of_3_8 W (d + 1) A_h71.1 (z3) (by omega) (by omega)) (fun rv hp9 q9 => ?_)
                      obtain ⟨⟨z73, rfl, l_z73, u_z73⟩, e9⟩ := q9
                      rw [e9]
                      show yG _ _ _ _ _ _ _ _ _ _ (yI z73 :: [yI (a2), yR 2144]) _
                      refine yG.goto rfl (t := 170) rfl ?_
                      refine yG.iast A_h71.1 (v_slope W) (by decide) rfl (by omega) (by omega) ⟨by omega, by omega⟩ (by omega) (by omega) (fun h74 T_h74 b_h74 f_h74 y_h74 => ?_)
                      have A_h74 := A_h71.putA T_h74 b_h74 f_h74 (by decide)
                      have g102_h74 : ys h74 2073 102 = ys h71 2073 102 := (y_h74 2073 102).trans (if_neg (by omega))
                      refine yG.iinc rfl (a := a2) rfl (L' := [(2, yI (a2 + 1)), (4, yI (1)), (3, yI (z3)), (0, yR 2073), (1, yI (p1))]) rfl ?_
                      refine yG.goto rfl (t := 2) rfl ?_
                      exact yG.mono (yG.sub (i_2 (a2 + 1)  h74 A_h74  (by omega) (by omega) (by omega) (by omega) (by omega)) (ySub.cons rfl (ySub.cons rfl (ySub.cons rfl (ySub.nil))))) (by omega)
                  · have c69 : (1 : Int) = 0 := c69
                    exfalso; omega
        · have c5 : (z4 : Int) ≠ 0 := c5
          refine yG.load xik rfl (fun _ _ => rfl) (v := yI (p1)) rfl rfl ?_
          refine yG.load xik rfl (fun _ _ => rfl) (v := yI (a2)) rfl rfl ?_
          refine yG.bit32 rfl (fun _ _ => rfl) (fun z75 e_z75 l_z75 u_z75 => ?_)
          refine yG.num (c := 1) rfl (fun _ _ => rfl) (by decide) ?_
          refine yG.bit32 rfl (fun _ _ => rfl) (fun z76 e_z76 l_z76 u_z76 => ?_)
          have b_z76 : 0 ≤ z76 ∧ z76 ≤ 1 := by rw [e_z76]; exact yiand ⟨by decide, by decide⟩ (by decide)
          refine yG.num (c := 1) rfl (fun _ _ => rfl) (by decide) ?_
          refine yG.icmp rfl (t := 38) rfl ⟨by omega, by omega⟩ ⟨by omega, by omega⟩ (fun c77 => ?_) (fun c77 => ?_)
          · have c77 : (z76 : Int) ≠ 1 := c77
            refine yG.num (c := 0) rfl (fun _ _ => rfl) (by decide) ?_
            refine yG.goto rfl (t := 65) rfl ?_
            refine yG.store1 xik (L' := [(4, yI (0)), (3, yI (z3)), (0, yR 2073), (1, yI (p1)), (2, yI (a2))]) rfl (fun _ _ => rfl) rfl rfl ?_
            refine yG.load xak rfl (fun _ _ => rfl) (v := yR 2073) rfl rfl ?_
            refine yG.getR A_hq.1 (r_low W) rfl rfl ?_
            refine yG.load xik rfl (fun _ _ => rfl) (v := yI (a2)) rfl rfl ?_
            refine yG.load xak rfl (fun _ _ => rfl) (v := yR 2073) rfl rfl ?_
            refine yG.load xik rfl (fun _ _ => rfl) (v := yI (a2)) rfl rfl ?_
            refine yG.invV (rest := [yI (a2), yR 2142]) A_hq.1 W.m.1 rfl rfl rfl rfl (a_turns W d A_hq.1 (a2) (by omega) (by omega)) (fun rv hp9 q9 => ?_)
            obtain ⟨⟨z78, rfl, l_z78, u_z78⟩, e9⟩ := q9
            rw [e9]
            show yG _ _ _ _ _ _ _ _ _ _ (yI z78 :: [yI (a2), yR 2142]) _
            refine yG.ifz rfl (t := 96) rfl ⟨by omega, by omega⟩ (fun c79 => ?_) (fun c79 => ?_)
            · have c79 : (z78 : Int) = 0 := c79
              refine yG.load xak rfl (fun _ _ => rfl) (v := yR 2073) rfl rfl ?_
              refine yG.num (c := 3) rfl (fun _ _ => rfl) (by decide) ?_
              refine yG.load xik rfl (fun _ _ => rfl) (v := yI (z3)) rfl rfl ?_
              refine yG.num (c := 4) rfl (fun _ _ => rfl) (by decide) ?_
              refine yG.invV (rest := [yI (a2), yR 2142]) A_hq.1 W.m.1 rfl rfl rfl rfl (a_of_3_4 W (d + 1) A_hq.1 (z3) (by omega) (by omega)) (fun rv hp9 q9 => ?_)
              obtain ⟨⟨z80, rfl, l_z80, u_z80⟩, e9⟩ := q9
              rw [e9]
              show yG _ _ _ _ _ _ _ _ _ _ (yI z80 :: [yI (a2), yR 2142]) _
              refine yG.iast A_hq.1 (v_low W) (by decide) rfl (by omega) (by omega) ⟨by omega, by omega⟩ (by omega) (by omega) (fun h81 T_h81 b_h81 f_h81 y_h81 => ?_)
              have A_h81 := A_hq.putA T_h81 b_h81 f_h81 (by decide)
              have g102_h81 : ys h81 2073 102 = ys hq 2073 102 := (y_h81 2073 102).trans (if_neg (by omega))
              refine yG.load xak rfl (fun _ _ => rfl) (v := yR 2073) rfl rfl ?_
              refine yG.getR A_h81.1 (r_high W) rfl rfl ?_
              refine yG.load xik rfl (fun _ _ => rfl) (v := yI (a2)) rfl rfl ?_
              refine yG.load xak rfl (fun _ _ => rfl) (v := yR 2073) rfl rfl ?_
              refine yG.load xik rfl (fun _ _ => rfl) (v := yI (a2)) rfl rfl ?_
              refine yG.invV (rest := [yI (a2), yR 2143]) A_h81.1 W.m.1 rfl rfl rfl rfl (a_turns W d A_h81.1 (a2) (by omega) (by omega)) (fun rv hp9 q9 => ?_)
              obtain ⟨⟨z82, rfl, l_z82, u_z82⟩, e9⟩ := q9
              rw [e9]
              show yG _ _ _ _ _ _ _ _ _ _ (yI z82 :: [yI (a2), yR 2143]) _
              refine yG.ifz rfl (t := 133) rfl ⟨by omega, by omega⟩ (fun c83 => ?_) (fun c83 => ?_)
              · have c83 : (z82 : Int) = 0 := c83
                refine yG.load xak rfl (fun _ _ => rfl) (v := yR 2073) rfl rfl ?_
                refine yG.num (c := 3) rfl (fun _ _ => rfl) (by decide) ?_
                refine yG.load xik rfl (fun _ _ => rfl) (v := yI (z3)) rfl rfl ?_
                refine yG.num (c := 5) rfl (fun _ _ => rfl) (by decide) ?_
                refine yG.invV (rest := [yI (a2), yR 2143]) A_h81.1 W.m.1 rfl rfl rfl rfl (a_of_3_5 W (d + 1) A_h81.1 (z3) (by omega) (by omega)) (fun rv hp9 q9 => ?_)
                obtain ⟨⟨z84, rfl, l_z84, u_z84⟩, e9⟩ := q9
                rw [e9]
                show yG _ _ _ _ _ _ _ _ _ _ (yI z84 :: [yI (a2), yR 2143]) _
                refine yG.iast A_h81.1 (v_high W) (by decide) rfl (by omega) (by omega) ⟨by omega, by omega⟩ (by omega) (by omega) (fun h85 T_h85 b_h85 f_h85 y_h85 => ?_)
                have A_h85 := A_h81.putA T_h85 b_h85 f_h85 (by decide)
                have g102_h85 : ys h85 2073 102 = ys h81 2073 102 := (y_h85 2073 102).trans (if_neg (by omega))
                refine yG.load xak rfl (fun _ _ => rfl) (v := yR 2073) rfl rfl ?_
                refine yG.getR A_h85.1 (r_slope W) rfl rfl ?_
                refine yG.load xik rfl (fun _ _ => rfl) (v := yI (a2)) rfl rfl ?_
                refine yG.load xik rfl (fun _ _ => rfl) (v := yI (0)) rfl rfl ?_
                refine yG.ifz rfl (t := 162) rfl ⟨by omega, by omega⟩ (fun c86 => ?_) (fun c86 => ?_)
                · have c86 : (0 : Int) = 0 := c86
                  refine yG.load xak rfl (fun _ _ => rfl) (v := yR 2073) rfl rfl ?_
                  refine yG.num (c := 3) rfl (fun _ _ => rfl) (by decide) ?_
                  refine yG.load xik rfl (fun _ _ => rfl) (v := yI (z3)) rfl rfl ?_
                  refine yG.num (c := 6) rfl (fun _ _ => rfl) (by decide) ?_
                  refine yG.invV (rest := [yI (a2), yR 2144]) A_h85.1 W.m.1 rfl rfl rfl rfl (a_of_3_6 W (d + 1) A_h85.1 (z3) (by omega) (by omega)) (fun rv hp9 q9 => ?_)
                  obtain ⟨⟨z87, rfl, l_z87, u_z87⟩, e9⟩ := q9
                  rw [e9]
                  show yG _ _ _ _ _ _ _ _ _ _ (yI z87 :: [yI (a2), yR 2144]) _
                  refine yG.iast A_h85.1 (v_slope W) (by decide) rfl (by omega) (by omega) ⟨by omega, by omega⟩ (by omega) (by omega) (fun h88 T_h88 b_h88 f_h88 y_h88 => ?_)
                  have A_h88 := A_h85.putA T_h88 b_h88 f_h88 (by decide)
                  have g102_h88 : ys h88 2073 102 = ys h85 2073 102 := (y_h88 2073 102).trans (if_neg (by omega))
                  refine yG.iinc rfl (a := a2) rfl (L' := [(2, yI (a2 + 1)), (4, yI (0)), (3, yI (z3)), (0, yR 2073), (1, yI (p1))]) rfl ?_
                  refine yG.goto rfl (t := 2) rfl ?_
                  exact yG.mono (yG.sub (i_2 (a2 + 1)  h88 A_h88  (by omega) (by omega) (by omega) (by omega) (by omega)) (ySub.cons rfl (ySub.cons rfl (ySub.cons rfl (ySub.nil))))) (by omega)
                · have c86 : (0 : Int) ≠ 0 := c86
                  exfalso; omega
              · have c83 : (z82 : Int) ≠ 0 := c83
                refine yG.load xik rfl (fun _ _ => rfl) (v := yI (0)) rfl rfl ?_
                refine yG.ifz rfl (t := 133) rfl ⟨by omega, by omega⟩ (fun c89 => ?_) (fun c89 => ?_)
                · have c89 : (0 : Int) ≠ 0 := c89
                  exfalso; omega
                · have c89 : (0 : Int) = 0 := c89
                  refine yG.load xak rfl (fun _ _ => rfl) (v := yR 2073) rfl rfl ?_
                  refine yG.num (c := 3) rfl (fun _ _ => rfl) (by decide) ?_
                  refine yG.load xik rfl (fun _ _ => rfl) (v := yI (z3)) rfl rfl ?_
                  refine yG.num (c := 7) rfl (fun _ _ => rfl) (by decide) ?_
                  refine yG.invV (rest := [yI (a2), yR 2143]) A_h81.1 W.m.1 rfl rfl rfl rfl (a_of_3_7 W (d + 1) A_h81.1 (z3) (by omega) (by omega)) (fun rv hp9 q9 => ?_)
                  obtain ⟨⟨z90, rfl, l_z90, u_z90⟩, e9⟩ := q9
                  rw [e9]
                  show yG _ _ _ _ _ _ _ _ _ _ (yI z90 :: [yI (a2), yR 2143]) _
                  refine yG.goto rfl (t := 140) rfl ?_
                  refine yG.iast A_h81.1 (v_high W) (by decide) rfl (by omega) (by omega) ⟨by omega, by omega⟩ (by omega) (by omega) (fun h91 T_h91 b_h91 f_h91 y_h91 => ?_)
                  have A_h91 := A_h81.putA T_h91 b_h91 f_h91 (by decide)
                  have g102_h91 : ys h91 2073 102 = ys h81 2073 102 := (y_h91 2073 102).trans (if_neg (by omega))
                  refine yG.load xak rfl (fun _ _ => rfl) (v := yR 2073) rfl rfl ?_
                  refine yG.getR A_h91.1 (r_slope W) rfl rfl ?_
                  refine yG.load xik rfl (fun _ _ => rfl) (v := yI (a2)) rfl rfl ?_
                  refine yG.load xik rfl (fun _ _ => rfl) (v := yI (0)) rfl rfl ?_
                  refine yG.ifz rfl (t := 162) rfl ⟨by omega, by omega⟩ (fun c92 => ?_) (fun c92 => ?_)
                  · have c92 : (0 : Int) = 0 := c92
                    refine yG.load xak rfl (fun _ _ => rfl) (v := yR 2073) rfl rfl ?_
                    refine yG.num (c := 3) rfl (fun _ _ => rfl) (by decide) ?_
                    refine yG.load xik rfl (fun _ _ => rfl) (v := yI (z3)) rfl rfl ?_
                    refine yG.num (c := 6) rfl (fun _ _ => rfl) (by decide) ?_
                    refine yG.invV (rest := [yI (a2), yR 2144]) A_h91.1 W.m.1 rfl rfl rfl rfl (a_of_3_6 W (d + 1) A_h91.1 (z3) (by omega) (by omega)) (fun rv hp9 q9 => ?_)
                    obtain ⟨⟨z93, rfl, l_z93, u_z93⟩, e9⟩ := q9
                    rw [e9]
                    show yG _ _ _ _ _ _ _ _ _ _ (yI z93 :: [yI (a2), yR 2144]) _
                    refine yG.iast A_h91.1 (v_slope W) (by decide) rfl (by omega) (by omega) ⟨by omega, by omega⟩ (by omega) (by omega) (fun h94 T_h94 b_h94 f_h94 y_h94 => ?_)
                    have A_h94 := A_h91.putA T_h94 b_h94 f_h94 (by decide)
                    have g102_h94 : ys h94 2073 102 = ys h91 2073 102 := (y_h94 2073 102).trans (if_neg (by omega))
                    refine yG.iinc rfl (a := a2) rfl (L' := [(2, yI (a2 + 1)), (4, yI (0)), (3, yI (z3)), (0, yR 2073), (1, yI (p1))]) rfl ?_
                    refine yG.goto rfl (t := 2) rfl ?_
                    exact yG.mono (yG.sub (i_2 (a2 + 1)  h94 A_h94  (by omega) (by omega) (by omega) (by omega) (by omega)) (ySub.cons rfl (ySub.cons rfl (ySub.cons rfl (ySub.nil))))) (by omega)
                  · have c92 : (0 : Int) ≠ 0 := c92
                    exfalso; omega
            · have c79 : (z78 : Int) ≠ 0 := c79
              refine yG.load xik rfl (fun _ _ => rfl) (v := yI (0)) rfl rfl ?_
              refine yG.ifz rfl (t := 96) rfl ⟨by omega, by omega⟩ (fun c95 => ?_) (fun c95 => ?_)
              · have c95 : (0 : Int) = 0 := c95
                refine yG.load xak rfl (fun _ _ => rfl) (v := yR 2073) rfl rfl ?_
                refine yG.num (c := 3) rfl (fun _ _ => rfl) (by decide) ?_
                refine yG.load xik rfl (fun _ _ => rfl) (v := yI (z3)) rfl rfl ?_
                refine yG.num (c := 4) rfl (fun _ _ => rfl) (by decide) ?_
                refine yG.invV (rest := [yI (a2), yR 2142]) A_hq.1 W.m.1 rfl rfl rfl rfl (a_of_3_4 W (d + 1) A_hq.1 (z3) (by omega) (by omega)) (fun rv hp9 q9 => ?_)
                obtain ⟨⟨z96, rfl, l_z96, u_z96⟩, e9⟩ := q9
                rw [e9]
                show yG _ _ _ _ _ _ _ _ _ _ (yI z96 :: [yI (a2), yR 2142]) _
                refine yG.iast A_hq.1 (v_low W) (by decide) rfl (by omega) (by omega) ⟨by omega, by omega⟩ (by omega) (by omega) (fun h97 T_h97 b_h97 f_h97 y_h97 => ?_)
                have A_h97 := A_hq.putA T_h97 b_h97 f_h97 (by decide)
                have g102_h97 : ys h97 2073 102 = ys hq 2073 102 := (y_h97 2073 102).trans (if_neg (by omega))
                refine yG.load xak rfl (fun _ _ => rfl) (v := yR 2073) rfl rfl ?_
                refine yG.getR A_h97.1 (r_high W) rfl rfl ?_
                refine yG.load xik rfl (fun _ _ => rfl) (v := yI (a2)) rfl rfl ?_
                refine yG.load xak rfl (fun _ _ => rfl) (v := yR 2073) rfl rfl ?_
                refine yG.load xik rfl (fun _ _ => rfl) (v := yI (a2)) rfl rfl ?_
                refine yG.invV (rest := [yI (a2), yR 2143]) A_h97.1 W.m.1 rfl rfl rfl rfl (a_turns W d A_h97.1 (a2) (by omega) (by omega)) (fun rv hp9 q9 => ?_)
                obtain ⟨⟨z98, rfl, l_z98, u_z98⟩, e9⟩ := q9
                rw [e9]
                show yG _ _ _ _ _ _ _ _ _ _ (yI z98 :: [yI (a2), yR 2143]) _
                refine yG.ifz rfl (t := 133) rfl ⟨by omega, by omega⟩ (fun c99 => ?_) (fun c99 => ?_)
                · have c99 : (z98 : Int) = 0 := c99
                  refine yG.load xak rfl (fun _ _ => rfl) (v := yR 2073) rfl rfl ?_
                  refine yG.num (c := 3) rfl (fun _ _ => rfl) (by decide) ?_
                  refine yG.load xik rfl (fun _ _ => rfl) (v := yI (z3)) rfl rfl ?_
                  refine yG.num (c := 5) rfl (fun _ _ => rfl) (by decide) ?_
                  refine yG.invV (rest := [yI (a2), yR 2143]) A_h97.1 W.m.1 rfl rfl rfl rfl (a_of_3_5 W (d + 1) A_h97.1 (z3) (by omega) (by omega)) (fun rv hp9 q9 => ?_)
                  obtain ⟨⟨z100, rfl, l_z100, u_z100⟩, e9⟩ := q9
                  rw [e9]
                  show yG _ _ _ _ _ _ _ _ _ _ (yI z100 :: [yI (a2), yR 2143]) _
                  refine yG.iast A_h97.1 (v_high W) (by decide) rfl (by omega) (by omega) ⟨by omega, by omega⟩ (by omega) (by omega) (fun h101 T_h101 b_h101 f_h101 y_h101 => ?_)
                  have A_h101 := A_h97.putA T_h101 b_h101 f_h101 (by decide)
                  have g102_h101 : ys h101 2073 102 = ys h97 2073 102 := (y_h101 2073 102).trans (if_neg (by omega))
                  refine yG.load xak rfl (fun _ _ => rfl) (v := yR 2073) rfl rfl ?_
                  refine yG.getR A_h101.1 (r_slope W) rfl rfl ?_
                  refine yG.load xik rfl (fun _ _ => rfl) (v := yI (a2)) rfl rfl ?_
                  refine yG.load xik rfl (fun _ _ => rfl) (v := yI (0)) rfl rfl ?_
                  refine yG.ifz rfl (t := 162) rfl ⟨by omega, by omega⟩ (fun c102 => ?_) (fun c102 => ?_)
                  · have c102 : (0 : Int) = 0 := c102
                    refine yG.load xak rfl (fun _ _ => rfl) (v := yR 2073) rfl rfl ?_
                    refine yG.num (c := 3) rfl (fun _ _ => rfl) (by decide) ?_
                    refine yG.load xik rfl (fun _ _ => rfl) (v := yI (z3)) rfl rfl ?_
                    refine yG.num (c := 6) rfl (fun _ _ => rfl) (by decide) ?_
                    refine yG.invV (rest := [yI (a2), yR 2144]) A_h101.1 W.m.1 rfl rfl rfl rfl (a_of_3_6 W (d + 1) A_h101.1 (z3) (by omega) (by omega)) (fun rv hp9 q9 => ?_)
                    obtain ⟨⟨z103, rfl, l_z103, u_z103⟩, e9⟩ := q9
                    rw [e9]
                    show yG _ _ _ _ _ _ _ _ _ _ (yI z103 :: [yI (a2), yR 2144]) _
                    refine yG.iast A_h101.1 (v_slope W) (by decide) rfl (by omega) (by omega) ⟨by omega, by omega⟩ (by omega) (by omega) (fun h104 T_h104 b_h104 f_h104 y_h104 => ?_)
                    have A_h104 := A_h101.putA T_h104 b_h104 f_h104 (by decide)
                    have g102_h104 : ys h104 2073 102 = ys h101 2073 102 := (y_h104 2073 102).trans (if_neg (by omega))
                    refine yG.iinc rfl (a := a2) rfl (L' := [(2, yI (a2 + 1)), (4, yI (0)), (3, yI (z3)), (0, yR 2073), (1, yI (p1))]) rfl ?_
                    refine yG.goto rfl (t := 2) rfl ?_
                    exact yG.mono (yG.sub (i_2 (a2 + 1)  h104 A_h104  (by omega) (by omega) (by omega) (by omega) (by omega)) (ySub.cons rfl (ySub.cons rfl (ySub.cons rfl (ySub.nil))))) (by omega)
                  · have c102 : (0 : Int) ≠ 0 := c102
                    exfalso; omega
                · have c99 : (z98 : Int) ≠ 0 := c99
                  refine yG.load xik rfl (fun _ _ => rfl) (v := yI (0)) rfl rfl ?_
                  refine yG.ifz rfl (t := 133) rfl ⟨by omega, by omega⟩ (fun c105 => ?_) (fun c105 => ?_)
                  · have c105 : (0 : Int) ≠ 0 := c105
                    exfalso; omega
                  · have c105 : (0 : Int) = 0 := c105
                    refine yG.load xak rfl (fun _ _ => rfl) (v := yR 2073) rfl rfl ?_
                    refine yG.num (c := 3) rfl (fun _ _ => rfl) (by decide) ?_
                    refine yG.load xik rfl (fun _ _ => rfl) (v := yI (z3)) rfl rfl ?_
                    refine yG.num (c := 7) rfl (fun _ _ => rfl) (by decide) ?_
                    refine yG.invV (rest := [yI (a2), yR 2143]) A_h97.1 W.m.1 rfl rfl rfl rfl (a_of_3_7 W (d + 1) A_h97.1 (z3) (by omega) (by omega)) (fun rv hp9 q9 => ?_)
                    obtain ⟨⟨z106, rfl, l_z106, u_z106⟩, e9⟩ := q9
                    rw [e9]
                    show yG _ _ _ _ _ _ _ _ _ _ (yI z106 :: [yI (a2), yR 2143]) _
                    refine yG.goto rfl (t := 140) rfl ?_
                    refine yG.iast A_h97.1 (v_high W) (by decide) rfl (by omega) (by omega) ⟨by omega, by omega⟩ (by omega) (by omega) (fun h107 T_h107 b_h107 f_h107 y_h107 => ?_)
                    have A_h107 := A_h97.putA T_h107 b_h107 f_h107 (by decide)
                    have g102_h107 : ys h107 2073 102 = ys h97 2073 102 := (y_h107 2073 102).trans (if_neg (by omega))
                    refine yG.load xak rfl (fun _ _ => rfl) (v := yR 2073) rfl rfl ?_
                    refine yG.getR A_h107.1 (r_slope W) rfl rfl ?_
                    refine yG.load xik rfl (fun _ _ => rfl) (v := yI (a2)) rfl rfl ?_
                    refine yG.load xik rfl (fun _ _ => rfl) (v := yI (0)) rfl rfl ?_
                    refine yG.ifz rfl (t := 162) rfl ⟨by omega, by omega⟩ (fun c108 => ?_) (fun c108 => ?_)
                    · have c108 : (0 : Int) = 0 := c108
                      refine yG.load xak rfl (fun _ _ => rfl) (v := yR 2073) rfl rfl ?_
                      refine yG.num (c := 3) rfl (fun _ _ => rfl) (by decide) ?_
                      refine yG.load xik rfl (fun _ _ => rfl) (v := yI (z3)) rfl rfl ?_
                      refine yG.num (c := 6) rfl (fun _ _ => rfl) (by decide) ?_
                      refine yG.invV (rest := [yI (a2), yR 2144]) A_h107.1 W.m.1 rfl rfl rfl rfl (a_of_3_6 W (d + 1) A_h107.1 (z3) (by omega) (by omega)) (fun rv hp9 q9 => ?_)
                      obtain ⟨⟨z109, rfl, l_z109, u_z109⟩, e9⟩ := q9
                      rw [e9]
                      show yG _ _ _ _ _ _ _ _ _ _ (yI z109 :: [yI (a2), yR 2144]) _
                      refine yG.iast A_h107.1 (v_slope W) (by decide) rfl (by omega) (by omega) ⟨by omega, by omega⟩ (by omega) (by omega) (fun h110 T_h110 b_h110 f_h110 y_h110 => ?_)
                      have A_h110 := A_h107.putA T_h110 b_h110 f_h110 (by decide)
                      have g102_h110 : ys h110 2073 102 = ys h107 2073 102 := (y_h110 2073 102).trans (if_neg (by omega))
                      refine yG.iinc rfl (a := a2) rfl (L' := [(2, yI (a2 + 1)), (4, yI (0)), (3, yI (z3)), (0, yR 2073), (1, yI (p1))]) rfl ?_
                      refine yG.goto rfl (t := 2) rfl ?_
                      exact yG.mono (yG.sub (i_2 (a2 + 1)  h110 A_h110  (by omega) (by omega) (by omega) (by omega) (by omega)) (ySub.cons rfl (ySub.cons rfl (ySub.cons rfl (ySub.nil))))) (by omega)
                    · have c108 : (0 : Int) ≠ 0 := c108
                      exfalso; omega
              · have c95 : (0 : Int) ≠ 0 := c95
                exfalso; omega
          · have c77 : (z76 : Int) = 1 := c77
            refine yG.num (c := 1) rfl (fun _ _ => rfl) (by decide) ?_
            refine yG.goto rfl (t := 65) rfl ?_
            refine yG.store1 xik (L' := [(4, yI (1)), (3, yI (z3)), (0, yR 2073), (1, yI (p1)), (2, yI (a2))]) rfl (fun _ _ => rfl) rfl rfl ?_
            refine yG.load xak rfl (fun _ _ => rfl) (v := yR 2073) rfl rfl ?_
            refine yG.getR A_hq.1 (r_low W) rfl rfl ?_
            refine yG.load xik rfl (fun _ _ => rfl) (v := yI (a2)) rfl rfl ?_
            refine yG.load xak rfl (fun _ _ => rfl) (v := yR 2073) rfl rfl ?_
            refine yG.load xik rfl (fun _ _ => rfl) (v := yI (a2)) rfl rfl ?_
            refine yG.invV (rest := [yI (a2), yR 2142]) A_hq.1 W.m.1 rfl rfl rfl rfl (a_turns W d A_hq.1 (a2) (by omega) (by omega)) (fun rv hp9 q9 => ?_)
            obtain ⟨⟨z111, rfl, l_z111, u_z111⟩, e9⟩ := q9
            rw [e9]
            show yG _ _ _ _ _ _ _ _ _ _ (yI z111 :: [yI (a2), yR 2142]) _
            refine yG.ifz rfl (t := 96) rfl ⟨by omega, by omega⟩ (fun c112 => ?_) (fun c112 => ?_)
            · have c112 : (z111 : Int) = 0 := c112
              refine yG.load xak rfl (fun _ _ => rfl) (v := yR 2073) rfl rfl ?_
              refine yG.num (c := 3) rfl (fun _ _ => rfl) (by decide) ?_
              refine yG.load xik rfl (fun _ _ => rfl) (v := yI (z3)) rfl rfl ?_
              refine yG.num (c := 4) rfl (fun _ _ => rfl) (by decide) ?_
              refine yG.invV (rest := [yI (a2), yR 2142]) A_hq.1 W.m.1 rfl rfl rfl rfl (a_of_3_4 W (d + 1) A_hq.1 (z3) (by omega) (by omega)) (fun rv hp9 q9 => ?_)
              obtain ⟨⟨z113, rfl, l_z113, u_z113⟩, e9⟩ := q9
              rw [e9]
              show yG _ _ _ _ _ _ _ _ _ _ (yI z113 :: [yI (a2), yR 2142]) _
              refine yG.iast A_hq.1 (v_low W) (by decide) rfl (by omega) (by omega) ⟨by omega, by omega⟩ (by omega) (by omega) (fun h114 T_h114 b_h114 f_h114 y_h114 => ?_)
              have A_h114 := A_hq.putA T_h114 b_h114 f_h114 (by decide)
              have g102_h114 : ys h114 2073 102 = ys hq 2073 102 := (y_h114 2073 102).trans (if_neg (by omega))
              refine yG.load xak rfl (fun _ _ => rfl) (v := yR 2073) rfl rfl ?_
              refine yG.getR A_h114.1 (r_high W) rfl rfl ?_
              refine yG.load xik rfl (fun _ _ => rfl) (v := yI (a2)) rfl rfl ?_
              refine yG.load xak rfl (fun _ _ => rfl) (v := yR 2073) rfl rfl ?_
              refine yG.load xik rfl (fun _ _ => rfl) (v := yI (a2)) rfl rfl ?_
              refine yG.invV (rest := [yI (a2), yR 2143]) A_h114.1 W.m.1 rfl rfl rfl rfl (a_turns W d A_h114.1 (a2) (by omega) (by omega)) (fun rv hp9 q9 => ?_)
              obtain ⟨⟨z115, rfl, l_z115, u_z115⟩, e9⟩ := q9
              rw [e9]
              show yG _ _ _ _ _ _ _ _ _ _ (yI z115 :: [yI (a2), yR 2143]) _
              refine yG.ifz rfl (t := 133) rfl ⟨by omega, by omega⟩ (fun c116 => ?_) (fun c116 => ?_)
              · have c116 : (z115 : Int) = 0 := c116
                refine yG.load xak rfl (fun _ _ => rfl) (v := yR 2073) rfl rfl ?_
                refine yG.num (c := 3) rfl (fun _ _ => rfl) (by decide) ?_
                refine yG.load xik rfl (fun _ _ => rfl) (v := yI (z3)) rfl rfl ?_
                refine yG.num (c := 5) rfl (fun _ _ => rfl) (by decide) ?_
                refine yG.invV (rest := [yI (a2), yR 2143]) A_h114.1 W.m.1 rfl rfl rfl rfl (a_of_3_5 W (d + 1) A_h114.1 (z3) (by omega) (by omega)) (fun rv hp9 q9 => ?_)
                obtain ⟨⟨z117, rfl, l_z117, u_z117⟩, e9⟩ := q9
                rw [e9]
                show yG _ _ _ _ _ _ _ _ _ _ (yI z117 :: [yI (a2), yR 2143]) _
                refine yG.iast A_h114.1 (v_high W) (by decide) rfl (by omega) (by omega) ⟨by omega, by omega⟩ (by omega) (by omega) (fun h118 T_h118 b_h118 f_h118 y_h118 => ?_)
                have A_h118 := A_h114.putA T_h118 b_h118 f_h118 (by decide)
                have g102_h118 : ys h118 2073 102 = ys h114 2073 102 := (y_h118 2073 102).trans (if_neg (by omega))
                refine yG.load xak rfl (fun _ _ => rfl) (v := yR 2073) rfl rfl ?_
                refine yG.getR A_h118.1 (r_slope W) rfl rfl ?_
                refine yG.load xik rfl (fun _ _ => rfl) (v := yI (a2)) rfl rfl ?_
                refine yG.load xik rfl (fun _ _ => rfl) (v := yI (1)) rfl rfl ?_
                refine yG.ifz rfl (t := 162) rfl ⟨by omega, by omega⟩ (fun c119 => ?_) (fun c119 => ?_)
                · have c119 : (1 : Int) = 0 := c119
                  exfalso; omega
                · have c119 : (1 : Int) ≠ 0 := c119
                  refine yG.load xak rfl (fun _ _ => rfl) (v := yR 2073) rfl rfl ?_
                  refine yG.num (c := 3) rfl (fun _ _ => rfl) (by decide) ?_
                  refine yG.load xik rfl (fun _ _ => rfl) (v := yI (z3)) rfl rfl ?_
                  refine yG.num (c := 8) rfl (fun _ _ => rfl) (by decide) ?_
                  refine yG.invV (rest := [yI (a2), yR 2144]) A_h118.1 W.m.1 rfl rfl rfl rfl (a_of_3_8 W (d + 1) A_h118.1 (z3) (by omega) (by omega)) (fun rv hp9 q9 => ?_)
                  obtain ⟨⟨z120, rfl, l_z120, u_z120⟩, e9⟩ := q9
                  rw [e9]
                  show yG _ _ _ _ _ _ _ _ _ _ (yI z120 :: [yI (a2), yR 2144]) _
                  refine yG.goto rfl (t := 170) rfl ?_
                  refine yG.iast A_h118.1 (v_slope W) (by decide) rfl (by omega) (by omega) ⟨by omega, by omega⟩ (by omega) (by omega) (fun h121 T_h121 b_h121 f_h121 y_h121 => ?_)
                  have A_h121 := A_h118.putA T_h121 b_h121 f_h121 (by decide)
                  have g102_h121 : ys h121 2073 102 = ys h118 2073 102 := (y_h121 2073 102).trans (if_neg (by omega))
                  refine yG.iinc rfl (a := a2) rfl (L' := [(2, yI (a2 + 1)), (4, yI (1)), (3, yI (z3)), (0, yR 2073), (1, yI (p1))]) rfl ?_
                  refine yG.goto rfl (t := 2) rfl ?_
                  exact yG.mono (yG.sub (i_2 (a2 + 1)  h121 A_h121  (by omega) (by omega) (by omega) (by omega) (by omega)) (ySub.cons rfl (ySub.cons rfl (ySub.cons rfl (ySub.nil))))) (by omega)
              · have c116 : (z115 : Int) ≠ 0 := c116
                refine yG.load xik rfl (fun _ _ => rfl) (v := yI (1)) rfl rfl ?_
                refine yG.ifz rfl (t := 133) rfl ⟨by omega, by omega⟩ (fun c122 => ?_) (fun c122 => ?_)
                · have c122 : (1 : Int) ≠ 0 := c122
                  refine yG.load xak rfl (fun _ _ => rfl) (v := yR 2073) rfl rfl ?_
                  refine yG.num (c := 3) rfl (fun _ _ => rfl) (by decide) ?_
                  refine yG.load xik rfl (fun _ _ => rfl) (v := yI (z3)) rfl rfl ?_
                  refine yG.num (c := 5) rfl (fun _ _ => rfl) (by decide) ?_
                  refine yG.invV (rest := [yI (a2), yR 2143]) A_h114.1 W.m.1 rfl rfl rfl rfl (a_of_3_5 W (d + 1) A_h114.1 (z3) (by omega) (by omega)) (fun rv hp9 q9 => ?_)
                  obtain ⟨⟨z123, rfl, l_z123, u_z123⟩, e9⟩ := q9
                  rw [e9]
                  show yG _ _ _ _ _ _ _ _ _ _ (yI z123 :: [yI (a2), yR 2143]) _
                  refine yG.iast A_h114.1 (v_high W) (by decide) rfl (by omega) (by omega) ⟨by omega, by omega⟩ (by omega) (by omega) (fun h124 T_h124 b_h124 f_h124 y_h124 => ?_)
                  have A_h124 := A_h114.putA T_h124 b_h124 f_h124 (by decide)
                  have g102_h124 : ys h124 2073 102 = ys h114 2073 102 := (y_h124 2073 102).trans (if_neg (by omega))
                  refine yG.load xak rfl (fun _ _ => rfl) (v := yR 2073) rfl rfl ?_
                  refine yG.getR A_h124.1 (r_slope W) rfl rfl ?_
                  refine yG.load xik rfl (fun _ _ => rfl) (v := yI (a2)) rfl rfl ?_
                  refine yG.load xik rfl (fun _ _ => rfl) (v := yI (1)) rfl rfl ?_
                  refine yG.ifz rfl (t := 162) rfl ⟨by omega, by omega⟩ (fun c125 => ?_) (fun c125 => ?_)
                  · have c125 : (1 : Int) = 0 := c125
                    exfalso; omega
                  · have c125 : (1 : Int) ≠ 0 := c125
                    refine yG.load xak rfl (fun _ _ => rfl) (v := yR 2073) rfl rfl ?_
                    refine yG.num (c := 3) rfl (fun _ _ => rfl) (by decide) ?_
                    refine yG.load xik rfl (fun _ _ => rfl) (v := yI (z3)) rfl rfl ?_
                    refine yG.num (c := 8) rfl (fun _ _ => rfl) (by decide) ?_
                    refine yG.invV (rest := [yI (a2), yR 2144]) A_h124.1 W.m.1 rfl rfl rfl rfl (a_of_3_8 W (d + 1) A_h124.1 (z3) (by omega) (by omega)) (fun rv hp9 q9 => ?_)
                    obtain ⟨⟨z126, rfl, l_z126, u_z126⟩, e9⟩ := q9
                    rw [e9]
                    show yG _ _ _ _ _ _ _ _ _ _ (yI z126 :: [yI (a2), yR 2144]) _
                    refine yG.goto rfl (t := 170) rfl ?_
                    refine yG.iast A_h124.1 (v_slope W) (by decide) rfl (by omega) (by omega) ⟨by omega, by omega⟩ (by omega) (by omega) (fun h127 T_h127 b_h127 f_h127 y_h127 => ?_)
                    have A_h127 := A_h124.putA T_h127 b_h127 f_h127 (by decide)
                    have g102_h127 : ys h127 2073 102 = ys h124 2073 102 := (y_h127 2073 102).trans (if_neg (by omega))
                    refine yG.iinc rfl (a := a2) rfl (L' := [(2, yI (a2 + 1)), (4, yI (1)), (3, yI (z3)), (0, yR 2073), (1, yI (p1))]) rfl ?_
                    refine yG.goto rfl (t := 2) rfl ?_
                    exact yG.mono (yG.sub (i_2 (a2 + 1)  h127 A_h127  (by omega) (by omega) (by omega) (by omega) (by omega)) (ySub.cons rfl (ySub.cons rfl (ySub.cons rfl (ySub.nil))))) (by omega)
                · have c122 : (1 : Int) = 0 := c122
                  exfalso; omega
            · have c112 : (z111 : Int) ≠ 0 := c112
              refine yG.load xik rfl (fun _ _ => rfl) (v := yI (1)) rfl rfl ?_
              refine yG.ifz rfl (t := 96) rfl ⟨by omega, by omega⟩ (fun c128 => ?_) (fun c128 => ?_)
              · have c128 : (1 : Int) = 0 := c128
                exfalso; omega
              · have c128 : (1 : Int) ≠ 0 := c128
                refine yG.load xak rfl (fun _ _ => rfl) (v := yR 2073) rfl rfl ?_
                refine yG.num (c := 3) rfl (fun _ _ => rfl) (by decide) ?_
                refine yG.load xik rfl (fun _ _ => rfl) (v := yI (z3)) rfl rfl ?_
                refine yG.num (c := 7) rfl (fun _ _ => rfl) (by decide) ?_
                refine yG.invV (rest := [yI (a2), yR 2142]) A_hq.1 W.m.1 rfl rfl rfl rfl (a_of_3_7 W (d + 1) A_hq.1 (z3) (by omega) (by omega)) (fun rv hp9 q9 => ?_)
                obtain ⟨⟨z129, rfl, l_z129, u_z129⟩, e9⟩ := q9
                rw [e9]
                show yG _ _ _ _ _ _ _ _ _ _ (yI z129 :: [yI (a2), yR 2142]) _
                refine yG.goto rfl (t := 103) rfl ?_
                refine yG.iast A_hq.1 (v_low W) (by decide) rfl (by omega) (by omega) ⟨by omega, by omega⟩ (by omega) (by omega) (fun h130 T_h130 b_h130 f_h130 y_h130 => ?_)
                have A_h130 := A_hq.putA T_h130 b_h130 f_h130 (by decide)
                have g102_h130 : ys h130 2073 102 = ys hq 2073 102 := (y_h130 2073 102).trans (if_neg (by omega))
                refine yG.load xak rfl (fun _ _ => rfl) (v := yR 2073) rfl rfl ?_
                refine yG.getR A_h130.1 (r_high W) rfl rfl ?_
                refine yG.load xik rfl (fun _ _ => rfl) (v := yI (a2)) rfl rfl ?_
                refine yG.load xak rfl (fun _ _ => rfl) (v := yR 2073) rfl rfl ?_
                refine yG.load xik rfl (fun _ _ => rfl) (v := yI (a2)) rfl rfl ?_
                refine yG.invV (rest := [yI (a2), yR 2143]) A_h130.1 W.m.1 rfl rfl rfl rfl (a_turns W d A_h130.1 (a2) (by omega) (by omega)) (fun rv hp9 q9 => ?_)
                obtain ⟨⟨z131, rfl, l_z131, u_z131⟩, e9⟩ := q9
                rw [e9]
                show yG _ _ _ _ _ _ _ _ _ _ (yI z131 :: [yI (a2), yR 2143]) _
                refine yG.ifz rfl (t := 133) rfl ⟨by omega, by omega⟩ (fun c132 => ?_) (fun c132 => ?_)
                · have c132 : (z131 : Int) = 0 := c132
                  refine yG.load xak rfl (fun _ _ => rfl) (v := yR 2073) rfl rfl ?_
                  refine yG.num (c := 3) rfl (fun _ _ => rfl) (by decide) ?_
                  refine yG.load xik rfl (fun _ _ => rfl) (v := yI (z3)) rfl rfl ?_
                  refine yG.num (c := 5) rfl (fun _ _ => rfl) (by decide) ?_
                  refine yG.invV (rest := [yI (a2), yR 2143]) A_h130.1 W.m.1 rfl rfl rfl rfl (a_of_3_5 W (d + 1) A_h130.1 (z3) (by omega) (by omega)) (fun rv hp9 q9 => ?_)
                  obtain ⟨⟨z133, rfl, l_z133, u_z133⟩, e9⟩ := q9
                  rw [e9]
                  show yG _ _ _ _ _ _ _ _ _ _ (yI z133 :: [yI (a2), yR 2143]) _
                  refine yG.iast A_h130.1 (v_high W) (by decide) rfl (by omega) (by omega) ⟨by omega, by omega⟩ (by omega) (by omega) (fun h134 T_h134 b_h134 f_h134 y_h134 => ?_)
                  have A_h134 := A_h130.putA T_h134 b_h134 f_h134 (by decide)
                  have g102_h134 : ys h134 2073 102 = ys h130 2073 102 := (y_h134 2073 102).trans (if_neg (by omega))
                  refine yG.load xak rfl (fun _ _ => rfl) (v := yR 2073) rfl rfl ?_
                  refine yG.getR A_h134.1 (r_slope W) rfl rfl ?_
                  refine yG.load xik rfl (fun _ _ => rfl) (v := yI (a2)) rfl rfl ?_
                  refine yG.load xik rfl (fun _ _ => rfl) (v := yI (1)) rfl rfl ?_
                  refine yG.ifz rfl (t := 162) rfl ⟨by omega, by omega⟩ (fun c135 => ?_) (fun c135 => ?_)
                  · have c135 : (1 : Int) = 0 := c135
                    exfalso; omega
                  · have c135 : (1 : Int) ≠ 0 := c135
                    refine yG.load xak rfl (fun _ _ => rfl) (v := yR 2073) rfl rfl ?_
                    refine yG.num (c := 3) rfl (fun _ _ => rfl) (by decide) ?_
                    refine yG.load xik rfl (fun _ _ => rfl) (v := yI (z3)) rfl rfl ?_
                    refine yG.num (c := 8) rfl (fun _ _ => rfl) (by decide) ?_
                    refine yG.invV (rest := [yI (a2), yR 2144]) A_h134.1 W.m.1 rfl rfl rfl rfl (a_of_3_8 W (d + 1) A_h134.1 (z3) (by omega) (by omega)) (fun rv hp9 q9 => ?_)
                    obtain ⟨⟨z136, rfl, l_z136, u_z136⟩, e9⟩ := q9
                    rw [e9]
                    show yG _ _ _ _ _ _ _ _ _ _ (yI z136 :: [yI (a2), yR 2144]) _
                    refine yG.goto rfl (t := 170) rfl ?_
                    refine yG.iast A_h134.1 (v_slope W) (by decide) rfl (by omega) (by omega) ⟨by omega, by omega⟩ (by omega) (by omega) (fun h137 T_h137 b_h137 f_h137 y_h137 => ?_)
                    have A_h137 := A_h134.putA T_h137 b_h137 f_h137 (by decide)
                    have g102_h137 : ys h137 2073 102 = ys h134 2073 102 := (y_h137 2073 102).trans (if_neg (by omega))
                    refine yG.iinc rfl (a := a2) rfl (L' := [(2, yI (a2 + 1)), (4, yI (1)), (3, yI (z3)), (0, yR 2073), (1, yI (p1))]) rfl ?_
                    refine yG.goto rfl (t := 2) rfl ?_
                    exact yG.mono (yG.sub (i_2 (a2 + 1)  h137 A_h137  (by omega) (by omega) (by omega) (by omega) (by omega)) (ySub.cons rfl (ySub.cons rfl (ySub.cons rfl (ySub.nil))))) (by omega)
                · have c132 : (z131 : Int) ≠ 0 := c132
                  refine yG.load xik rfl (fun _ _ => rfl) (v := yI (1)) rfl rfl ?_
                  refine yG.ifz rfl (t := 133) rfl ⟨by omega, by omega⟩ (fun c138 => ?_) (fun c138 => ?_)
                  · have c138 : (1 : Int) ≠ 0 := c138
                    refine yG.load xak rfl (fun _ _ => rfl) (v := yR 2073) rfl rfl ?_
                    refine yG.num (c := 3) rfl (fun _ _ => rfl) (by decide) ?_
                    refine yG.load xik rfl (fun _ _ => rfl) (v := yI (z3)) rfl rfl ?_
                    refine yG.num (c := 5) rfl (fun _ _ => rfl) (by decide) ?_
                    refine yG.invV (rest := [yI (a2), yR 2143]) A_h130.1 W.m.1 rfl rfl rfl rfl (a_of_3_5 W (d + 1) A_h130.1 (z3) (by omega) (by omega)) (fun rv hp9 q9 => ?_)
                    obtain ⟨⟨z139, rfl, l_z139, u_z139⟩, e9⟩ := q9
                    rw [e9]
                    show yG _ _ _ _ _ _ _ _ _ _ (yI z139 :: [yI (a2), yR 2143]) _
                    refine yG.iast A_h130.1 (v_high W) (by decide) rfl (by omega) (by omega) ⟨by omega, by omega⟩ (by omega) (by omega) (fun h140 T_h140 b_h140 f_h140 y_h140 => ?_)
                    have A_h140 := A_h130.putA T_h140 b_h140 f_h140 (by decide)
                    have g102_h140 : ys h140 2073 102 = ys h130 2073 102 := (y_h140 2073 102).trans (if_neg (by omega))
                    refine yG.load xak rfl (fun _ _ => rfl) (v := yR 2073) rfl rfl ?_
                    refine yG.getR A_h140.1 (r_slope W) rfl rfl ?_
                    refine yG.load xik rfl (fun _ _ => rfl) (v := yI (a2)) rfl rfl ?_
                    refine yG.load xik rfl (fun _ _ => rfl) (v := yI (1)) rfl rfl ?_
                    refine yG.ifz rfl (t := 162) rfl ⟨by omega, by omega⟩ (fun c141 => ?_) (fun c141 => ?_)
                    · have c141 : (1 : Int) = 0 := c141
                      exfalso; omega
                    · have c141 : (1 : Int) ≠ 0 := c141
                      refine yG.load xak rfl (fun _ _ => rfl) (v := yR 2073) rfl rfl ?_
                      refine yG.num (c := 3) rfl (fun _ _ => rfl) (by decide) ?_
                      refine yG.load xik rfl (fun _ _ => rfl) (v := yI (z3)) rfl rfl ?_
                      refine yG.num (c := 8) rfl (fun _ _ => rfl) (by decide) ?_
                      refine yG.invV (rest := [yI (a2), yR 2144]) A_h140.1 W.m.1 rfl rfl rfl rfl (a_of_3_8 W (d + 1) A_h140.1 (z3) (by omega) (by omega)) (fun rv hp9 q9 => ?_)
                      obtain ⟨⟨z142, rfl, l_z142, u_z142⟩, e9⟩ := q9
                      rw [e9]
                      show yG _ _ _ _ _ _ _ _ _ _ (yI z142 :: [yI (a2), yR 2144]) _
                      refine yG.goto rfl (t := 170) rfl ?_
                      refine yG.iast A_h140.1 (v_slope W) (by decide) rfl (by omega) (by omega) ⟨by omega, by omega⟩ (by omega) (by omega) (fun h143 T_h143 b_h143 f_h143 y_h143 => ?_)
                      have A_h143 := A_h140.putA T_h143 b_h143 f_h143 (by decide)
                      have g102_h143 : ys h143 2073 102 = ys h140 2073 102 := (y_h143 2073 102).trans (if_neg (by omega))
                      refine yG.iinc rfl (a := a2) rfl (L' := [(2, yI (a2 + 1)), (4, yI (1)), (3, yI (z3)), (0, yR 2073), (1, yI (p1))]) rfl ?_
                      refine yG.goto rfl (t := 2) rfl ?_
                      exact yG.mono (yG.sub (i_2 (a2 + 1)  h143 A_h143  (by omega) (by omega) (by omega) (by omega) (by omega)) (ySub.cons rfl (ySub.cons rfl (ySub.cons rfl (ySub.nil))))) (by omega)
                  · have c138 : (1 : Int) = 0 := c138
                    exfalso; omega
  refine yC.of (M := (xt_X13_cell, (5, (0, (14, []))))) rfl rfl (N := 1184) (yfuel (by decide)) ?_
  show yG 89 xfts (xcall 89 xfts xpools xms (d + 3)) (xpool xp_RX13) [] xt_X13_cell (yP 0 (yQv G [] [2142, 2143, 2144] hp)) 1184 0 [(0, yR 2073), (1, yI (p1))] [] hp
  have i_2 := H 15
  refine yG.num (c := 0) rfl (fun _ _ => rfl) (by decide) ?_
  refine yG.store1 xik (L' := [(2, yI (0)), (0, yR 2073), (1, yI (p1))]) rfl (fun _ _ => rfl) rfl rfl ?_
  exact yG.mono (yG.sub (i_2 (0)  hp A_hp  (by omega) (by omega) (by omega) (by omega) (by omega)) (ySub.cons rfl (ySub.cons rfl (ySub.cons rfl (ySub.nil))))) (by omega)
theorem a_addShown {hp : xH} (W : yWW G) (d : Nat) (hT : zTy G hp) (p1 p2 p3 : Int) (h1l : 0 ≤ p1) (h1u : p1 ≤ 31) (h2l : 0 ≤ p2) (h2u : p2 ≤ 15) (h3l : 0 ≤ p3) (h3u : p3 ≤ 2147483647) (q11l : 1 ≤ ys hp 2073 11) (q11u : ys hp 2073 11 ≤ 2147483647) : yC (xcall 89 xfts xpools xms (d + 2)) 346 [yR 2073, yI (p1), yI (p2), yJ (p3)] hp (yQv G [] [2122] hp) := by
  have A_hp : yAx G [] [2122] hp hp := yAx.rf hT
  refine yC.of (M := (xt_X13_addShown, (6, (0, (14, []))))) rfl rfl (N := 90) (yfuel (by decide)) ?_
  show yG 89 xfts (xcall 89 xfts xpools xms (d + 1)) (xpool xp_RX13) [] xt_X13_addShown (yP 0 (yQv G [] [2122] hp)) 90 0 [(0, yR 2073), (1, yI (p1)), (2, yI (p2)), (3, yJ (p3))] [] hp
  obtain ⟨gg11, E_11⟩ : ∃ z : Int, ys hp 2073 11 = z := ⟨_, rfl⟩
  obtain ⟨-, -, r_11l, r_11u⟩ := (w_p W).long hT
  refine yG.load xak rfl (fun _ _ => rfl) (v := yR 2073) rfl rfl ?_
  refine yG.getR A_hp.1 (r_placeOf W) rfl rfl ?_
  refine yG.load xik rfl (fun _ _ => rfl) (v := yI (p2)) rfl rfl ?_
  refine yG.iald A_hp.1 (v_placeOf W) rfl (by omega) (by omega) (fun z1 e_z1 i_z1 l_z1 u_z1 => ?_)
  refine yG.store1 xik (L' := [(5, yI (z1)), (0, yR 2073), (1, yI (p1)), (2, yI (p2)), (3, yJ (p3))]) rfl (fun _ _ => rfl) rfl rfl ?_
  refine yG.load xik rfl (fun _ _ => rfl) (v := yI (z1)) rfl rfl ?_
  refine yG.ifz rfl (t := 43) rfl ⟨by omega, by omega⟩ (fun c2 => ?_) (fun c2 => ?_)
  · have c2 : (z1 : Int) < 0 := c2
    refine yG.ret rfl (fun _ _ => rfl) ?_
    exact yP.void ⟨rfl, A_hp⟩
  · have c2 : (z1 : Int) ≥ 0 := c2
    refine yG.load xak rfl (fun _ _ => rfl) (v := yR 2073) rfl rfl ?_
    refine yG.getR A_hp.1 (r_shows W) rfl rfl ?_
    refine yG.num (c := 16) rfl (fun _ _ => rfl) (by decide) ?_
    refine yG.load xik rfl (fun _ _ => rfl) (v := yI (p1)) rfl rfl ?_
    refine yG.imul rfl ?_
    refine yG.load xik rfl (fun _ _ => rfl) (v := yI (z1)) rfl rfl ?_
    refine yG.iadd rfl ?_
    refine yG.load xak rfl (fun _ _ => rfl) (v := yR 2073) rfl rfl ?_
    refine yG.load xak rfl (fun _ _ => rfl) (v := yR 2073) rfl rfl ?_
    refine yG.getR A_hp.1 (r_shows W) rfl rfl ?_
    refine yG.num (c := 16) rfl (fun _ _ => rfl) (by decide) ?_
    refine yG.load xik rfl (fun _ _ => rfl) (v := yI (p1)) rfl rfl ?_
    refine yG.imul rfl ?_
    refine yG.load xik rfl (fun _ _ => rfl) (v := yI (z1)) rfl rfl ?_
    refine yG.iadd rfl ?_
    refine yG.lald A_hp.1 (v_shows W) rfl (by omega) (by omega) (fun z3 e_z3 i_z3 l_z3 u_z3 => ?_)
    refine yG.load xlk2 rfl (fun _ _ => rfl) (v := yJ (p3)) rfl rfl ?_
    refine yG.ladd rfl ?_
    refine yG.invV (rest := [yI ((16 * p1) + z1), yR 2122]) A_hp.1 W.m.1 rfl rfl rfl rfl (a_mod W d A_hp.1 (z3 + p3) (by omega) (by omega) (by omega) (by omega)) (fun rv hp9 q9 => ?_)
    obtain ⟨⟨z4, rfl, l_z4, u_z4⟩, e9⟩ := q9
    rw [e9]
    show yG _ _ _ _ _ _ _ _ _ _ (yJ z4 :: [yI ((16 * p1) + z1), yR 2122]) _
    refine yG.last A_hp.1 (v_shows W) (by decide) rfl (by omega) (by omega) ⟨by omega, by omega⟩ (by omega) (by omega) (fun h5 T_h5 b_h5 f_h5 y_h5 => ?_)
    have A_h5 := A_hp.putA T_h5 b_h5 f_h5 (by decide)
    have g11_h5 : ys h5 2073 11 = ys hp 2073 11 := (y_h5 2073 11).trans (if_neg (by omega))
    refine yG.ret rfl (fun _ _ => rfl) ?_
    exact yP.void ⟨rfl, A_h5⟩
theorem a_joinLines {hp : xH} (W : yWW G) (d : Nat) (hT : zTy G hp) (p1 : Int) (h1l : 0 ≤ p1) (h1u : p1 ≤ 15) (q11l : 1 ≤ ys hp 2073 11) (q11u : ys hp 2073 11 ≤ 2147483647) : yC (xcall 89 xfts xpools xms (d + 5)) 440 [yR 2073, yI (p1)] hp (yQj G [] [2083] hp 0 2147483646) := by
  have A_hp : yAx G [] [2083] hp hp := yAx.rf hT
  have H : ∀ m : Nat, (∀ a2 a4 gg11 : Int, ∀ hq, yAx G [] [2083] hp hq → ys hq 2073 11 = gg11 → 0 ≤ a2 → (-2147483646) ≤ 0 - a2 → 0 ≤ a4 → (-20) ≤ 0 - a4 → 1 ≤ gg11 → (-2147483647) ≤ 0 - gg11 → 0 ≤ p1 → (-15) ≤ 0 - p1 → (-2147483645) ≤ 0 - a2 + a4 → 0 ≤ 0 - a2 + gg11 → 0 - 2 * a4 + 41 < (m : Int) → yG 89 xfts (xcall 89 xfts xpools xms (d + 4)) (xpool xp_RX13) [] xt_X13_joinLines (yP 2 (yQj G [] [2083] hp 0 2147483646)) (52 * m) 5 [(0, yR 2073), (1, yI (p1)), (2, yJ (a2)), (4, yI (a4))] [] hq) := by
    intro m
    induction m with
    | zero =>
      intros; exfalso; omega
    | succ m ih =>
      have i_5 := ih
      clear ih
      intro a2 a4 gg11 hq A_hq E_11 f0 f1 f2 f3 f4 f5 f6 f7 f8 f9 hm
      refine yG.mono (N := 52 * m + 52) ?_ (by omega)
      refine yG.load xik rfl (fun _ _ => rfl) (v := yI (a4)) rfl rfl ?_
      refine yG.load xak rfl (fun _ _ => rfl) (v := yR 2073) rfl rfl ?_
      refine yG.getR A_hq.1 (r_count W) rfl rfl ?_
      refine yG.num (c := 2) rfl (fun _ _ => rfl) (by decide) ?_
      refine yG.ialdF A_hq.1 (p_count W) rfl rfl (by omega) (by omega) (fun z1 e_z1 i_z1 l_z1 u_z1 => ?_)
      refine yG.icmp rfl (t := 96) rfl ⟨by omega, by omega⟩ ⟨by omega, by omega⟩ (fun c2 => ?_) (fun c2 => ?_)
      · have c2 : (a4 : Int) ≥ z1 := c2
        refine yG.load xlk2 rfl (fun _ _ => rfl) (v := yJ (a2)) rfl rfl ?_
        refine yG.ret rfl (fun _ _ => rfl) ?_
        exact yP.long ⟨by omega, by omega⟩ ⟨⟨a2, rfl, by omega, by omega⟩, A_hq⟩
      · have c2 : (a4 : Int) < z1 := c2
        refine yG.load xak rfl (fun _ _ => rfl) (v := yR 2073) rfl rfl ?_
        refine yG.load xik rfl (fun _ _ => rfl) (v := yI (a4)) rfl rfl ?_
        refine yG.invV (rest := []) A_hq.1 W.m.1 rfl rfl rfl rfl (a_islandOfLine W (d + 1) A_hq.1 (a4) (by omega) (by omega)) (fun rv hp9 q9 => ?_)
        obtain ⟨⟨z3, rfl, l_z3, u_z3⟩, e9⟩ := q9
        rw [e9]
        show yG _ _ _ _ _ _ _ _ _ _ (yI z3 :: []) _
        refine yG.load xik rfl (fun _ _ => rfl) (v := yI (p1)) rfl rfl ?_
        refine yG.icmp rfl (t := 90) rfl ⟨by omega, by omega⟩ ⟨by omega, by omega⟩ (fun c4 => ?_) (fun c4 => ?_)
        · have c4 : (z3 : Int) ≠ p1 := c4
          refine yG.iinc rfl (a := a4) rfl (L' := [(4, yI (a4 + 1)), (0, yR 2073), (1, yI (p1)), (2, yJ (a2))]) rfl ?_
          refine yG.goto rfl (t := 5) rfl ?_
          exact yG.mono (yG.sub (i_5 (a2) (a4 + 1) (ys hq 2073 11) hq A_hq rfl (by omega) (by omega) (by omega) (by omega) (by omega) (by omega) (by omega) (by omega) (by omega) (by omega) (by omega)) (ySub.cons rfl (ySub.cons rfl (ySub.cons rfl (ySub.cons rfl (ySub.nil)))))) (by omega)
        · have c4 : (z3 : Int) = p1 := c4
          refine yG.load xak rfl (fun _ _ => rfl) (v := yR 2073) rfl rfl ?_
          refine yG.load xik rfl (fun _ _ => rfl) (v := yI (a4)) rfl rfl ?_
          refine yG.invV (rest := []) A_hq.1 W.m.1 rfl rfl rfl rfl (a_isBetween W d A_hq.1 (a4) (by omega) (by omega)) (fun rv hp9 q9 => ?_)
          obtain ⟨⟨z5, rfl, l_z5, u_z5⟩, e9⟩ := q9
          rw [e9]
          show yG _ _ _ _ _ _ _ _ _ _ (yI z5 :: []) _
          refine yG.ifz rfl (t := 90) rfl ⟨by omega, by omega⟩ (fun c6 => ?_) (fun c6 => ?_)
          · have c6 : (z5 : Int) = 0 := c6
            refine yG.iinc rfl (a := a4) rfl (L' := [(4, yI (a4 + 1)), (0, yR 2073), (1, yI (p1)), (2, yJ (a2))]) rfl ?_
            refine yG.goto rfl (t := 5) rfl ?_
            exact yG.mono (yG.sub (i_5 (a2) (a4 + 1) (ys hq 2073 11) hq A_hq rfl (by omega) (by omega) (by omega) (by omega) (by omega) (by omega) (by omega) (by omega) (by omega) (by omega) (by omega)) (ySub.cons rfl (ySub.cons rfl (ySub.cons rfl (ySub.cons rfl (ySub.nil)))))) (by omega)
          · have c6 : (z5 : Int) ≠ 0 := c6
            refine yG.load xak rfl (fun _ _ => rfl) (v := yR 2073) rfl rfl ?_
            refine yG.num (c := 2) rfl (fun _ _ => rfl) (by decide) ?_
            refine yG.load xik rfl (fun _ _ => rfl) (v := yI (a4)) rfl rfl ?_
            refine yG.num (c := 1) rfl (fun _ _ => rfl) (by decide) ?_
            refine yG.invV (rest := []) A_hq.1 W.m.1 rfl rfl rfl rfl (a_of_2_1 W (d + 2) A_hq.1 (a4) (by omega) (by omega)) (fun rv hp9 q9 => ?_)
            obtain ⟨⟨z7, rfl, l_z7, u_z7⟩, e9⟩ := q9
            rw [e9]
            show yG _ _ _ _ _ _ _ _ _ _ (yI z7 :: []) _
            refine yG.i2l rfl ⟨by omega, by omega⟩ ?_
            refine yG.store2 xlk2 (L' := [(5, yJ (z7)), (0, yR 2073), (1, yI (p1)), (2, yJ (a2)), (4, yI (a4))]) rfl (fun _ _ => rfl) rfl rfl ?_
            refine yG.load xak rfl (fun _ _ => rfl) (v := yR 2073) rfl rfl ?_
            refine yG.load xak rfl (fun _ _ => rfl) (v := yR 2073) rfl rfl ?_
            refine yG.getR A_hq.1 (r_placeOf W) rfl rfl ?_
            refine yG.load xak rfl (fun _ _ => rfl) (v := yR 2073) rfl rfl ?_
            refine yG.load xik rfl (fun _ _ => rfl) (v := yI (a4)) rfl rfl ?_
            refine yG.num (c := 0) rfl (fun _ _ => rfl) (by decide) ?_
            refine yG.invV (rest := [yR 2104, yR 2073]) A_hq.1 W.m.1 rfl rfl rfl rfl (a_nodeOfLine W (d + 1) A_hq.1 (a4) (0) (by omega) (by omega) (by omega) (by omega)) (fun rv hp9 q9 => ?_)
            obtain ⟨⟨z8, rfl, l_z8, u_z8⟩, e9⟩ := q9
            rw [e9]
            show yG _ _ _ _ _ _ _ _ _ _ (yI z8 :: [yR 2104, yR 2073]) _
            refine yG.iald A_hq.1 (v_placeOf W) rfl (by omega) (by omega) (fun z9 e_z9 i_z9 l_z9 u_z9 => ?_)
            refine yG.load xak rfl (fun _ _ => rfl) (v := yR 2073) rfl rfl ?_
            refine yG.getR A_hq.1 (r_placeOf W) rfl rfl ?_
            refine yG.load xak rfl (fun _ _ => rfl) (v := yR 2073) rfl rfl ?_
            refine yG.load xik rfl (fun _ _ => rfl) (v := yI (a4)) rfl rfl ?_
            refine yG.num (c := 1) rfl (fun _ _ => rfl) (by decide) ?_
            refine yG.invV (rest := [yR 2104, yI (z9), yR 2073]) A_hq.1 W.m.1 rfl rfl rfl rfl (a_nodeOfLine W (d + 1) A_hq.1 (a4) (1) (by omega) (by omega) (by omega) (by omega)) (fun rv hp9 q9 => ?_)
            obtain ⟨⟨z10, rfl, l_z10, u_z10⟩, e9⟩ := q9
            rw [e9]
            show yG _ _ _ _ _ _ _ _ _ _ (yI z10 :: [yR 2104, yI (z9), yR 2073]) _
            refine yG.iald A_hq.1 (v_placeOf W) rfl (by omega) (by omega) (fun z11 e_z11 i_z11 l_z11 u_z11 => ?_)
            refine yG.load xak rfl (fun _ _ => rfl) (v := yR 2073) rfl rfl ?_
            refine yG.load xlk2 rfl (fun _ _ => rfl) (v := yJ (z7)) rfl rfl ?_
            refine yG.invV (rest := [yI (z11), yI (z9), yR 2073]) A_hq.1 W.m.1 rfl rfl rfl rfl (a_inverse_ W (d + 2) A_hq.1 (z7) (by omega) (by omega) (by omega) (by omega)) (fun rv hp9 q9 => ?_)
            obtain ⟨⟨z12, rfl, l_z12, u_z12⟩, e9⟩ := q9
            rw [e9]
            show yG _ _ _ _ _ _ _ _ _ _ (yJ z12 :: [yI (z11), yI (z9), yR 2073]) _
            refine yG.invV (rest := []) A_hq.1 W.m.1 rfl rfl rfl rfl (a_join W (d + 2) A_hq.1 (z9) (z11) (z12) (by omega) (by omega) (by omega) (by omega) (by omega) (by omega) (by omega) (by omega)) (fun rv h14 q9 => ?_)
            obtain ⟨rfl, B_h14⟩ := q9
            have A_h14 := A_hq.tr (B_h14.sub (by decide) (by decide))
            have g11_h14 : ys h14 2073 11 = ys hq 2073 11 := B_h14.ys (by decide) (by decide)
            show yG _ _ _ _ _ _ _ _ _ _ [] _
            refine yG.load xlk2 rfl (fun _ _ => rfl) (v := yJ (a2)) rfl rfl ?_
            refine yG.load xlk2 rfl (fun _ _ => rfl) (v := yJ (z7)) rfl rfl ?_
            refine yG.lmul rfl ?_
            obtain ⟨z15, e_z15⟩ : ∃ z : Int, z = a2 * z7 := ⟨_, rfl⟩
            rw [← e_z15]
            have b_z15 : 0 ≤ z15 ∧ z15 ≤ 212600880954 := e_z15 ▸ ymulb (A := 2147483646) (B := 99) (by omega) (by omega) (by omega) (by omega) (by decide)
            refine yG.load xak rfl (fun _ _ => rfl) (v := yR 2073) rfl rfl ?_
            refine yG.getJ A_h14.1 (w_p W) rfl rfl (fun z16 e_z16 i_z16 l_z16 u_z16 => ?_)
            refine yG.lrem rfl ⟨by omega, by omega⟩ ⟨by omega, by omega⟩ (by omega) (by omega) ?_
            obtain ⟨z17, e_z17⟩ : ∃ z : Int, z = (z15) % (z16) := ⟨_, rfl⟩
            rw [← e_z17]
            have b_z17 : 0 ≤ z17 ∧ z17 < z16 := e_z17 ▸ ⟨Int.emod_nonneg _ (by omega), Int.emod_lt_of_pos _ (by omega)⟩
            refine yG.store2 xlk2 (L' := [(2, yJ (z17)), (5, yJ (z7)), (0, yR 2073), (1, yI (p1)), (4, yI (a4))]) rfl (fun _ _ => rfl) rfl rfl ?_
            refine yG.iinc rfl (a := a4) rfl (L' := [(4, yI (a4 + 1)), (2, yJ (z17)), (5, yJ (z7)), (0, yR 2073), (1, yI (p1))]) rfl ?_
            refine yG.goto rfl (t := 5) rfl ?_
            exact yG.mono (yG.sub (i_5 (z17) (a4 + 1) (ys h14 2073 11) h14 A_h14 rfl (by omega) (by omega) (by omega) (by omega) (by omega) (by omega) (by omega) (by omega) (by omega) (by omega) (by omega)) (ySub.cons rfl (ySub.cons rfl (ySub.cons rfl (ySub.cons rfl (ySub.nil)))))) (by omega)
  refine yC.of (M := (xt_X13_joinLines, (7, (2, (14, []))))) rfl rfl (N := 2288) (yfuel (by decide)) ?_
  show yG 89 xfts (xcall 89 xfts xpools xms (d + 4)) (xpool xp_RX13) [] xt_X13_joinLines (yP 2 (yQj G [] [2083] hp 0 2147483646)) 2288 0 [(0, yR 2073), (1, yI (p1))] [] hp
  have i_5 := H 43
  obtain ⟨gg11, E_11⟩ : ∃ z : Int, ys hp 2073 11 = z := ⟨_, rfl⟩
  obtain ⟨-, -, r_11l, r_11u⟩ := (w_p W).long hT
  refine yG.numl (c := 1) rfl (fun _ _ => rfl) (by decide) ?_
  refine yG.store2 xlk2 (L' := [(2, yJ (1)), (0, yR 2073), (1, yI (p1))]) rfl (fun _ _ => rfl) rfl rfl ?_
  refine yG.num (c := 0) rfl (fun _ _ => rfl) (by decide) ?_
  refine yG.store1 xik (L' := [(4, yI (0)), (2, yJ (1)), (0, yR 2073), (1, yI (p1))]) rfl (fun _ _ => rfl) rfl rfl ?_
  exact yG.mono (yG.sub (i_5 (1) (0) (ys hp 2073 11) hp A_hp rfl (by omega) (by omega) (by omega) (by omega) (by omega) (by omega) (by omega) (by omega) (by omega) (by omega) (by omega)) (ySub.cons rfl (ySub.cons rfl (ySub.cons rfl (ySub.cons rfl (ySub.nil)))))) (by omega)
theorem a_see {hp : xH} (W : yWW G) (d : Nat) (hT : zTy G hp) (p1 : Int) (h1l : 0 ≤ p1) (h1u : p1 ≤ 1) : yC (xcall 89 xfts xpools xms (d + 4)) 502 [yR 2073, yI (p1)] hp (yQv G [40] [2098, 2099, 2100, 2101, 2102, 2158, 2159, 2160, 2161, 2162, 2163] hp) := by
  have A_hp : yAx G [40] [2098, 2099, 2100, 2101, 2102, 2158, 2159, 2160, 2161, 2162, 2163] hp hp := yAx.rf hT
  have H : ∀ m : Nat, (∀ a2 a3 a4 : Int, ∀ hq, yAx G [40] [2098, 2099, 2100, 2101, 2102, 2158, 2159, 2160, 2161, 2162, 2163] hp hq → 0 ≤ a2 → (-24) ≤ 0 - a2 → 0 ≤ a3 → 0 ≤ 0 - a3 → 0 ≤ a4 → (-24) ≤ 0 - a4 → 0 ≤ p1 → (-1) ≤ 0 - p1 → 0 ≤ 0 - a2 + a4 → 0 - 12266542 * a4 + 306663549 < (m : Int) → yG 89 xfts (xcall 89 xfts xpools xms (d + 3)) (xpool xp_RX13) [] xt_X13_see (yP 0 (yQv G [40] [2098, 2099, 2100, 2101, 2102, 2158, 2159, 2160, 2161, 2162, 2163] hp)) (48 * m) 20 [(0, yR 2073), (1, yI (p1)), (2, yI (a2)), (3, yI (a3)), (4, yI (a4))] [] hq) ∧ (∀ a2 a3 a4 : Int, ∀ hq, yAx G [40] [2098, 2099, 2100, 2101, 2102, 2158, 2159, 2160, 2161, 2162, 2163] hp hq → (-2147483648) ≤ a2 → (-2147483647) ≤ 0 - a2 → 0 ≤ a3 → 0 ≤ 0 - a3 → 0 ≤ a4 → (-20) ≤ 0 - a4 → 0 ≤ p1 → (-1) ≤ 0 - p1 → (-2147483646) ≤ 0 - a2 + a4 → 0 - 584121 * a4 + 12266540 < (m : Int) → yG 89 xfts (xcall 89 xfts xpools xms (d + 3)) (xpool xp_RX13) [] xt_X13_see (yP 0 (yQv G [40] [2098, 2099, 2100, 2101, 2102, 2158, 2159, 2160, 2161, 2162, 2163] hp)) (48 * m) 59 [(0, yR 2073), (1, yI (p1)), (2, yI (a2)), (3, yI (a3)), (4, yI (a4))] [] hq) ∧ (∀ a2 a3 a4 : Int, ∀ hq, yAx G [40] [2098, 2099, 2100, 2101, 2102, 2158, 2159, 2160, 2161, 2162, 2163] hp hq → (-2147483648) ≤ a2 → (-2147483647) ≤ 0 - a2 → 0 ≤ a3 → (-16) ≤ 0 - a3 → 0 ≤ a4 → (-16) ≤ 0 - a4 → 0 ≤ p1 → (-1) ≤ 0 - p1 → 0 ≤ 0 - a3 + a4 → 0 - 34360 * a4 + 584119 < (m : Int) → yG 89 xfts (xcall 89 xfts xpools xms (d + 3)) (xpool xp_RX13) [] xt_X13_see (yP 0 (yQv G [40] [2098, 2099, 2100, 2101, 2102, 2158, 2159, 2160, 2161, 2162, 2163] hp)) (48 * m) 89 [(0, yR 2073), (1, yI (p1)), (2, yI (a2)), (3, yI (a3)), (4, yI (a4))] [] hq) ∧ (∀ a4 : Int, ∀ hq, yAx G [40] [2098, 2099, 2100, 2101, 2102, 2158, 2159, 2160, 2161, 2162, 2163] hp hq → 0 ≤ a4 → (-12) ≤ 0 - a4 → 0 ≤ p1 → (-1) ≤ 0 - p1 → 0 - 2643 * a4 + 34358 < (m : Int) → yG 89 xfts (xcall 89 xfts xpools xms (d + 3)) (xpool xp_RX13) [] xt_X13_see (yP 0 (yQv G [40] [2098, 2099, 2100, 2101, 2102, 2158, 2159, 2160, 2161, 2162, 2163] hp)) (48 * m) 195 [(0, yR 2073), (1, yI (p1)), (4, yI (a4))] [] hq) ∧ (∀ a4 : Int, ∀ hq, yAx G [40] [2098, 2099, 2100, 2101, 2102, 2158, 2159, 2160, 2161, 2162, 2163] hp hq → 0 ≤ a4 → (-1320) ≤ 0 - a4 → 0 ≤ p1 → (-1) ≤ 0 - p1 → 0 - 2 * a4 + 2641 < (m : Int) → yG 89 xfts (xcall 89 xfts xpools xms (d + 3)) (xpool xp_RX13) [] xt_X13_see (yP 0 (yQv G [40] [2098, 2099, 2100, 2101, 2102, 2158, 2159, 2160, 2161, 2162, 2163] hp)) (48 * m) 264 [(0, yR 2073), (1, yI (p1)), (4, yI (a4))] [] hq) := by
    intro m
    induction m with
    | zero =>
      refine ⟨?_, ?_, ?_, ?_, ?_⟩ <;> (intros; exfalso; omega)
    | succ m ih =>
      obtain ⟨i_20, i_59, i_89, i_195, i_264⟩ := ih
      refine ⟨?_, ?_, ?_, ?_, ?_⟩
      · intro a2 a3 a4 hq A_hq f0 f1 f2 f3 f4 f5 f6 f7 f8 hm
        refine yG.mono (N := 48 * m + 48) ?_ (by omega)
        refine yG.load xik rfl (fun _ _ => rfl) (v := yI (a4)) rfl rfl ?_
        refine yG.load xak rfl (fun _ _ => rfl) (v := yR 2073) rfl rfl ?_
        refine yG.getR A_hq.1 (r_count W) rfl rfl ?_
        refine yG.num (c := 1) rfl (fun _ _ => rfl) (by decide) ?_
        refine yG.ialdF A_hq.1 (p_count W) rfl rfl (by omega) (by omega) (fun z1 e_z1 i_z1 l_z1 u_z1 => ?_)
        refine yG.icmp rfl (t := 56) rfl ⟨by omega, by omega⟩ ⟨by omega, by omega⟩ (fun c2 => ?_) (fun c2 => ?_)
        · have c2 : (a4 : Int) ≥ z1 := c2
          refine yG.num (c := 0) rfl (fun _ _ => rfl) (by decide) ?_
          refine yG.store1 xik (L' := [(4, yI (0)), (0, yR 2073), (1, yI (p1)), (2, yI (a2)), (3, yI (a3))]) rfl (fun _ _ => rfl) rfl rfl ?_
          exact yG.mono (yG.sub (i_59 (a2) (a3) (0)  hq A_hq  (by omega) (by omega) (by omega) (by omega) (by omega) (by omega) (by omega) (by omega) (by omega) (by omega)) (ySub.cons rfl (ySub.cons rfl (ySub.cons rfl (ySub.cons rfl (ySub.cons rfl (ySub.nil))))))) (by omega)
        · have c2 : (a4 : Int) < z1 := c2
          refine yG.load xik rfl (fun _ _ => rfl) (v := yI (a2)) rfl rfl ?_
          refine yG.load xak rfl (fun _ _ => rfl) (v := yR 2073) rfl rfl ?_
          refine yG.getR A_hq.1 (r_stateNow W) rfl rfl ?_
          refine yG.load xik rfl (fun _ _ => rfl) (v := yI (a4)) rfl rfl ?_
          refine yG.iald A_hq.1 (v_stateNow W) rfl (by omega) (by omega) (fun z3 e_z3 i_z3 l_z3 u_z3 => ?_)
          refine yG.num (c := 1) rfl (fun _ _ => rfl) (by decide) ?_
          refine yG.icmp rfl (t := 47) rfl ⟨by omega, by omega⟩ ⟨by omega, by omega⟩ (fun c4 => ?_) (fun c4 => ?_)
          · have c4 : (z3 : Int) ≠ 1 := c4
            refine yG.num (c := 0) rfl (fun _ _ => rfl) (by decide) ?_
            refine yG.iadd rfl ?_
            obtain ⟨z5, e_z5⟩ : ∃ z : Int, z = a2 + 0 := ⟨_, rfl⟩
            rw [← e_z5]
            refine yG.store1 xik (L' := [(2, yI (z5)), (0, yR 2073), (1, yI (p1)), (3, yI (a3)), (4, yI (a4))]) rfl (fun _ _ => rfl) rfl rfl ?_
            refine yG.iinc rfl (a := a4) rfl (L' := [(4, yI (a4 + 1)), (2, yI (z5)), (0, yR 2073), (1, yI (p1)), (3, yI (a3))]) rfl ?_
            refine yG.goto rfl (t := 20) rfl ?_
            exact yG.mono (yG.sub (i_20 (z5) (a3) (a4 + 1)  hq A_hq  (by omega) (by omega) (by omega) (by omega) (by omega) (by omega) (by omega) (by omega) (by omega) (by omega)) (ySub.cons rfl (ySub.cons rfl (ySub.cons rfl (ySub.cons rfl (ySub.cons rfl (ySub.nil))))))) (by omega)
          · have c4 : (z3 : Int) = 1 := c4
            refine yG.num (c := 1) rfl (fun _ _ => rfl) (by decide) ?_
            refine yG.goto rfl (t := 48) rfl ?_
            refine yG.iadd rfl ?_
            obtain ⟨z6, e_z6⟩ : ∃ z : Int, z = a2 + 1 := ⟨_, rfl⟩
            rw [← e_z6]
            refine yG.store1 xik (L' := [(2, yI (z6)), (0, yR 2073), (1, yI (p1)), (3, yI (a3)), (4, yI (a4))]) rfl (fun _ _ => rfl) rfl rfl ?_
            refine yG.iinc rfl (a := a4) rfl (L' := [(4, yI (a4 + 1)), (2, yI (z6)), (0, yR 2073), (1, yI (p1)), (3, yI (a3))]) rfl ?_
            refine yG.goto rfl (t := 20) rfl ?_
            exact yG.mono (yG.sub (i_20 (z6) (a3) (a4 + 1)  hq A_hq  (by omega) (by omega) (by omega) (by omega) (by omega) (by omega) (by omega) (by omega) (by omega) (by omega)) (ySub.cons rfl (ySub.cons rfl (ySub.cons rfl (ySub.cons rfl (ySub.cons rfl (ySub.nil))))))) (by omega)
      · intro a2 a3 a4 hq A_hq f0 f1 f2 f3 f4 f5 f6 f7 f8 hm
        refine yG.mono (N := 48 * m + 48) ?_ (by omega)
        refine yG.load xik rfl (fun _ _ => rfl) (v := yI (a4)) rfl rfl ?_
        refine yG.load xak rfl (fun _ _ => rfl) (v := yR 2073) rfl rfl ?_
        refine yG.getR A_hq.1 (r_count W) rfl rfl ?_
        refine yG.num (c := 2) rfl (fun _ _ => rfl) (by decide) ?_
        refine yG.ialdF A_hq.1 (p_count W) rfl rfl (by omega) (by omega) (fun z1 e_z1 i_z1 l_z1 u_z1 => ?_)
        refine yG.icmp rfl (t := 86) rfl ⟨by omega, by omega⟩ ⟨by omega, by omega⟩ (fun c2 => ?_) (fun c2 => ?_)
        · have c2 : (a4 : Int) ≥ z1 := c2
          refine yG.num (c := 0) rfl (fun _ _ => rfl) (by decide) ?_
          refine yG.store1 xik (L' := [(4, yI (0)), (0, yR 2073), (1, yI (p1)), (2, yI (a2)), (3, yI (a3))]) rfl (fun _ _ => rfl) rfl rfl ?_
          exact yG.mono (yG.sub (i_89 (a2) (a3) (0)  hq A_hq  (by omega) (by omega) (by omega) (by omega) (by omega) (by omega) (by omega) (by omega) (by omega) (by omega)) (ySub.cons rfl (ySub.cons rfl (ySub.cons rfl (ySub.cons rfl (ySub.cons rfl (ySub.nil))))))) (by omega)
        · have c2 : (a4 : Int) < z1 := c2
          refine yG.load xik rfl (fun _ _ => rfl) (v := yI (a2)) rfl rfl ?_
          refine yG.load xak rfl (fun _ _ => rfl) (v := yR 2073) rfl rfl ?_
          refine yG.getR A_hq.1 (r_inNow W) rfl rfl ?_
          refine yG.load xik rfl (fun _ _ => rfl) (v := yI (a4)) rfl rfl ?_
          refine yG.iald A_hq.1 (v_inNow W) rfl (by omega) (by omega) (fun z3 e_z3 i_z3 l_z3 u_z3 => ?_)
          refine yG.iadd rfl ?_
          obtain ⟨z4, e_z4, l_z4, u_z4⟩ := ywI (a2 + z3)
          rw [e_z4]
          refine yG.store1 xik (L' := [(2, yI (z4)), (0, yR 2073), (1, yI (p1)), (3, yI (a3)), (4, yI (a4))]) rfl (fun _ _ => rfl) rfl rfl ?_
          refine yG.iinc rfl (a := a4) rfl (L' := [(4, yI (a4 + 1)), (2, yI (z4)), (0, yR 2073), (1, yI (p1)), (3, yI (a3))]) rfl ?_
          refine yG.goto rfl (t := 59) rfl ?_
          exact yG.mono (yG.sub (i_59 (z4) (a3) (a4 + 1)  hq A_hq  (by omega) (by omega) (by omega) (by omega) (by omega) (by omega) (by omega) (by omega) (by omega) (by omega)) (ySub.cons rfl (ySub.cons rfl (ySub.cons rfl (ySub.cons rfl (ySub.cons rfl (ySub.nil))))))) (by omega)
      · intro a2 a3 a4 hq A_hq f0 f1 f2 f3 f4 f5 f6 f7 f8 hm
        refine yG.mono (N := 48 * m + 48) ?_ (by omega)
        refine yG.load xik rfl (fun _ _ => rfl) (v := yI (a4)) rfl rfl ?_
        refine yG.load xak rfl (fun _ _ => rfl) (v := yR 2073) rfl rfl ?_
        refine yG.getR A_hq.1 (r_count W) rfl rfl ?_
        refine yG.num (c := 0) rfl (fun _ _ => rfl) (by decide) ?_
        refine yG.ialdF A_hq.1 (p_count W) rfl rfl (by omega) (by omega) (fun z1 e_z1 i_z1 l_z1 u_z1 => ?_)
        refine yG.icmp rfl (t := 169) rfl ⟨by omega, by omega⟩ ⟨by omega, by omega⟩ (fun c2 => ?_) (fun c2 => ?_)
        · have c2 : (a4 : Int) ≥ z1 := c2
          refine yG.load xak rfl (fun _ _ => rfl) (v := yR 2073) rfl rfl ?_
          refine yG.getR A_hq.1 (r_seenLoops W) rfl rfl ?_
          refine yG.load xik rfl (fun _ _ => rfl) (v := yI (p1)) rfl rfl ?_
          refine yG.load xik rfl (fun _ _ => rfl) (v := yI (a2)) rfl rfl ?_
          refine yG.load xak rfl (fun _ _ => rfl) (v := yR 2073) rfl rfl ?_
          refine yG.getR A_hq.1 (r_count W) rfl rfl ?_
          refine yG.num (c := 0) rfl (fun _ _ => rfl) (by decide) ?_
          refine yG.ialdF A_hq.1 (p_count W) rfl rfl (by omega) (by omega) (fun z3 e_z3 i_z3 l_z3 u_z3 => ?_)
          refine yG.load xik rfl (fun _ _ => rfl) (v := yI (a3)) rfl rfl ?_
          refine yG.isub rfl ?_
          refine yG.isub rfl ?_
          obtain ⟨z5, e_z5, l_z5, u_z5⟩ := ywI (a2 - (z3 - a3))
          rw [e_z5]
          refine yG.iast A_hq.1 (v_seenLoops W) (by decide) rfl (by omega) (by omega) ⟨by omega, by omega⟩ (by omega) (by omega) (fun h4 T_h4 b_h4 f_h4 y_h4 => ?_)
          have A_h4 := A_hq.putA T_h4 b_h4 f_h4 (by decide)
          refine yG.load xak rfl (fun _ _ => rfl) (v := yR 2073) rfl rfl ?_
          refine yG.getR A_h4.1 (r_seenLost W) rfl rfl ?_
          refine yG.load xik rfl (fun _ _ => rfl) (v := yI (p1)) rfl rfl ?_
          refine yG.num (c := 0) rfl (fun _ _ => rfl) (by decide) ?_
          refine yG.iast A_h4.1 (v_seenLost W) (by decide) rfl (by omega) (by omega) ⟨by omega, by omega⟩ (by omega) (by omega) (fun h6 T_h6 b_h6 f_h6 y_h6 => ?_)
          have A_h6 := A_h4.putA T_h6 b_h6 f_h6 (by decide)
          refine yG.num (c := 0) rfl (fun _ _ => rfl) (by decide) ?_
          refine yG.store1 xik (L' := [(4, yI (0)), (0, yR 2073), (1, yI (p1)), (2, yI (a2)), (3, yI (a3))]) rfl (fun _ _ => rfl) rfl rfl ?_
          exact yG.mono (yG.sub (i_195 (0)  h6 A_h6  (by omega) (by omega) (by omega) (by omega) (by omega)) (ySub.cons rfl (ySub.cons rfl (ySub.cons rfl (ySub.nil))))) (by omega)
        · have c2 : (a4 : Int) < z1 := c2
          refine yG.load xik rfl (fun _ _ => rfl) (v := yI (a3)) rfl rfl ?_
          refine yG.load xak rfl (fun _ _ => rfl) (v := yR 2073) rfl rfl ?_
          refine yG.getR A_hq.1 (r_island W) rfl rfl ?_
          refine yG.load xik rfl (fun _ _ => rfl) (v := yI (a4)) rfl rfl ?_
          refine yG.iald A_hq.1 (v_island W) rfl (by omega) (by omega) (fun z7 e_z7 i_z7 l_z7 u_z7 => ?_)
          refine yG.load xik rfl (fun _ _ => rfl) (v := yI (a4)) rfl rfl ?_
          refine yG.icmp rfl (t := 117) rfl ⟨by omega, by omega⟩ ⟨by omega, by omega⟩ (fun c8 => ?_) (fun c8 => ?_)
          · have c8 : (z7 : Int) ≠ a4 := c8
            refine yG.num (c := 0) rfl (fun _ _ => rfl) (by decide) ?_
            refine yG.iadd rfl ?_
            obtain ⟨z9, e_z9⟩ : ∃ z : Int, z = a3 + 0 := ⟨_, rfl⟩
            rw [← e_z9]
            refine yG.store1 xik (L' := [(3, yI (z9)), (0, yR 2073), (1, yI (p1)), (2, yI (a2)), (4, yI (a4))]) rfl (fun _ _ => rfl) rfl rfl ?_
            refine yG.load xak rfl (fun _ _ => rfl) (v := yR 2073) rfl rfl ?_
            refine yG.getR A_hq.1 (r_seenNode W) rfl rfl ?_
            refine yG.num (c := 16) rfl (fun _ _ => rfl) (by decide) ?_
            refine yG.load xik rfl (fun _ _ => rfl) (v := yI (p1)) rfl rfl ?_
            refine yG.imul rfl ?_
            refine yG.load xik rfl (fun _ _ => rfl) (v := yI (a4)) rfl rfl ?_
            refine yG.iadd rfl ?_
            refine yG.load xak rfl (fun _ _ => rfl) (v := yR 2073) rfl rfl ?_
            refine yG.getR A_hq.1 (r_node W) rfl rfl ?_
            refine yG.load xik rfl (fun _ _ => rfl) (v := yI (a4)) rfl rfl ?_
            refine yG.iald A_hq.1 (v_node W) rfl (by omega) (by omega) (fun z10 e_z10 i_z10 l_z10 u_z10 => ?_)
            refine yG.iast A_hq.1 (v_seenNode W) (by decide) rfl (by omega) (by omega) ⟨by omega, by omega⟩ (by omega) (by omega) (fun h11 T_h11 b_h11 f_h11 y_h11 => ?_)
            have A_h11 := A_hq.putA T_h11 b_h11 f_h11 (by decide)
            refine yG.load xak rfl (fun _ _ => rfl) (v := yR 2073) rfl rfl ?_
            refine yG.getR A_h11.1 (r_seenLive W) rfl rfl ?_
            refine yG.num (c := 16) rfl (fun _ _ => rfl) (by decide) ?_
            refine yG.load xik rfl (fun _ _ => rfl) (v := yI (p1)) rfl rfl ?_
            refine yG.imul rfl ?_
            refine yG.load xik rfl (fun _ _ => rfl) (v := yI (a4)) rfl rfl ?_
            refine yG.iadd rfl ?_
            refine yG.load xak rfl (fun _ _ => rfl) (v := yR 2073) rfl rfl ?_
            refine yG.getR A_h11.1 (r_isLive W) rfl rfl ?_
            refine yG.load xak rfl (fun _ _ => rfl) (v := yR 2073) rfl rfl ?_
            refine yG.getR A_h11.1 (r_island W) rfl rfl ?_
            refine yG.load xik rfl (fun _ _ => rfl) (v := yI (a4)) rfl rfl ?_
            refine yG.iald A_h11.1 (v_island W) rfl (by omega) (by omega) (fun z12 e_z12 i_z12 l_z12 u_z12 => ?_)
            refine yG.bald A_h11.1 (v_isLive W) rfl (by omega) (by omega) (fun z13 e_z13 i_z13 l_z13 u_z13 => ?_)
            refine yG.bast A_h11.1 (v_seenLive W) (by decide) rfl (by omega) (by omega) ⟨by omega, by omega⟩ (by omega) (by omega) (fun h14 T_h14 b_h14 f_h14 y_h14 => ?_)
            have A_h14 := A_h11.putA T_h14 b_h14 f_h14 (by decide)
            refine yG.iinc rfl (a := a4) rfl (L' := [(4, yI (a4 + 1)), (3, yI (z9)), (0, yR 2073), (1, yI (p1)), (2, yI (a2))]) rfl ?_
            refine yG.goto rfl (t := 89) rfl ?_
            exact yG.mono (yG.sub (i_89 (a2) (z9) (a4 + 1)  h14 A_h14  (by omega) (by omega) (by omega) (by omega) (by omega) (by omega) (by omega) (by omega) (by omega) (by omega)) (ySub.cons rfl (ySub.cons rfl (ySub.cons rfl (ySub.cons rfl (ySub.cons rfl (ySub.nil))))))) (by omega)
          · have c8 : (z7 : Int) = a4 := c8
            refine yG.num (c := 1) rfl (fun _ _ => rfl) (by decide) ?_
            refine yG.goto rfl (t := 118) rfl ?_
            refine yG.iadd rfl ?_
            obtain ⟨z15, e_z15⟩ : ∃ z : Int, z = a3 + 1 := ⟨_, rfl⟩
            rw [← e_z15]
            refine yG.store1 xik (L' := [(3, yI (z15)), (0, yR 2073), (1, yI (p1)), (2, yI (a2)), (4, yI (a4))]) rfl (fun _ _ => rfl) rfl rfl ?_
            refine yG.load xak rfl (fun _ _ => rfl) (v := yR 2073) rfl rfl ?_
            refine yG.getR A_hq.1 (r_seenNode W) rfl rfl ?_
            refine yG.num (c := 16) rfl (fun _ _ => rfl) (by decide) ?_
            refine yG.load xik rfl (fun _ _ => rfl) (v := yI (p1)) rfl rfl ?_
            refine yG.imul rfl ?_
            refine yG.load xik rfl (fun _ _ => rfl) (v := yI (a4)) rfl rfl ?_
            refine yG.iadd rfl ?_
            refine yG.load xak rfl (fun _ _ => rfl) (v := yR 2073) rfl rfl ?_
            refine yG.getR A_hq.1 (r_node W) rfl rfl ?_
            refine yG.load xik rfl (fun _ _ => rfl) (v := yI (a4)) rfl rfl ?_
            refine yG.iald A_hq.1 (v_node W) rfl (by omega) (by omega) (fun z16 e_z16 i_z16 l_z16 u_z16 => ?_)
            refine yG.iast A_hq.1 (v_seenNode W) (by decide) rfl (by omega) (by omega) ⟨by omega, by omega⟩ (by omega) (by omega) (fun h17 T_h17 b_h17 f_h17 y_h17 => ?_)
            have A_h17 := A_hq.putA T_h17 b_h17 f_h17 (by decide)
            refine yG.load xak rfl (fun _ _ => rfl) (v := yR 2073) rfl rfl ?_
            refine yG.getR A_h17.1 (r_seenLive W) rfl rfl ?_
            refine yG.num (c := 16) rfl (fun _ _ => rfl) (by decide) ?_
            refine yG.load xik rfl (fun _ _ => rfl) (v := yI (p1)) rfl rfl ?_
            refine yG.imul rfl ?_
            refine yG.load xik rfl (fun _ _ => rfl) (v := yI (a4)) rfl rfl ?_
            refine yG.iadd rfl ?_
            refine yG.load xak rfl (fun _ _ => rfl) (v := yR 2073) rfl rfl ?_
            refine yG.getR A_h17.1 (r_isLive W) rfl rfl ?_
            refine yG.load xak rfl (fun _ _ => rfl) (v := yR 2073) rfl rfl ?_
            refine yG.getR A_h17.1 (r_island W) rfl rfl ?_
            refine yG.load xik rfl (fun _ _ => rfl) (v := yI (a4)) rfl rfl ?_
            refine yG.iald A_h17.1 (v_island W) rfl (by omega) (by omega) (fun z18 e_z18 i_z18 l_z18 u_z18 => ?_)
            refine yG.bald A_h17.1 (v_isLive W) rfl (by omega) (by omega) (fun z19 e_z19 i_z19 l_z19 u_z19 => ?_)
            refine yG.bast A_h17.1 (v_seenLive W) (by decide) rfl (by omega) (by omega) ⟨by omega, by omega⟩ (by omega) (by omega) (fun h20 T_h20 b_h20 f_h20 y_h20 => ?_)
            have A_h20 := A_h17.putA T_h20 b_h20 f_h20 (by decide)
            refine yG.iinc rfl (a := a4) rfl (L' := [(4, yI (a4 + 1)), (3, yI (z15)), (0, yR 2073), (1, yI (p1)), (2, yI (a2))]) rfl ?_
            refine yG.goto rfl (t := 89) rfl ?_
            exact yG.mono (yG.sub (i_89 (a2) (z15) (a4 + 1)  h20 A_h20  (by omega) (by omega) (by omega) (by omega) (by omega) (by omega) (by omega) (by omega) (by omega) (by omega)) (ySub.cons rfl (ySub.cons rfl (ySub.cons rfl (ySub.cons rfl (ySub.cons rfl (ySub.nil))))))) (by omega)
      · intro a4 hq A_hq f0 f1 f2 f3 hm
        refine yG.mono (N := 48 * m + 48) ?_ (by omega)
        refine yG.load xik rfl (fun _ _ => rfl) (v := yI (a4)) rfl rfl ?_
        refine yG.load xak rfl (fun _ _ => rfl) (v := yR 2073) rfl rfl ?_
        refine yG.getR A_hq.1 (r_count W) rfl rfl ?_
        refine yG.num (c := 4) rfl (fun _ _ => rfl) (by decide) ?_
        refine yG.ialdF A_hq.1 (p_count W) rfl rfl (by omega) (by omega) (fun z1 e_z1 i_z1 l_z1 u_z1 => ?_)
        refine yG.icmp rfl (t := 254) rfl ⟨by omega, by omega⟩ ⟨by omega, by omega⟩ (fun c2 => ?_) (fun c2 => ?_)
        · have c2 : (a4 : Int) ≥ z1 := c2
          refine yG.load xak rfl (fun _ _ => rfl) (v := yR 2073) rfl rfl ?_
          refine yG.getR A_hq.1 (r_seenOver W) rfl rfl ?_
          refine yG.load xik rfl (fun _ _ => rfl) (v := yI (p1)) rfl rfl ?_
          refine yG.num (c := -1) rfl (fun _ _ => rfl) (by decide) ?_
          refine yG.iast A_hq.1 (v_seenOver W) (by decide) rfl (by omega) (by omega) ⟨by omega, by omega⟩ (by omega) (by omega) (fun h3 T_h3 b_h3 f_h3 y_h3 => ?_)
          have A_h3 := A_hq.putA T_h3 b_h3 f_h3 (by decide)
          refine yG.num (c := 0) rfl (fun _ _ => rfl) (by decide) ?_
          refine yG.store1 xik (L' := [(4, yI (0)), (0, yR 2073), (1, yI (p1))]) rfl (fun _ _ => rfl) rfl rfl ?_
          exact yG.mono (yG.sub (i_264 (0)  h3 A_h3  (by omega) (by omega) (by omega) (by omega) (by omega)) (ySub.cons rfl (ySub.cons rfl (ySub.cons rfl (ySub.nil))))) (by omega)
        · have c2 : (a4 : Int) < z1 := c2
          refine yG.load xak rfl (fun _ _ => rfl) (v := yR 2073) rfl rfl ?_
          refine yG.getR A_hq.1 (r_seenLost W) rfl rfl ?_
          refine yG.load xik rfl (fun _ _ => rfl) (v := yI (p1)) rfl rfl ?_
          refine yG.step (pc' := 212) (stk' := [yI (p1), yR 2161, yI (p1), yR 2161]) rfl (fun _ _ => rfl) ?_
          refine yG.iald A_hq.1 (v_seenLost W) rfl (by omega) (by omega) (fun z4 e_z4 i_z4 l_z4 u_z4 => ?_)
          refine yG.load xak rfl (fun _ _ => rfl) (v := yR 2073) rfl rfl ?_
          refine yG.getR A_hq.1 (r_isLive W) rfl rfl ?_
          refine yG.load xak rfl (fun _ _ => rfl) (v := yR 2073) rfl rfl ?_
          refine yG.getR A_hq.1 (r_island W) rfl rfl ?_
          refine yG.load xak rfl (fun _ _ => rfl) (v := yR 2073) rfl rfl ?_
          refine yG.num (c := 4) rfl (fun _ _ => rfl) (by decide) ?_
          refine yG.load xik rfl (fun _ _ => rfl) (v := yI (a4)) rfl rfl ?_
          refine yG.num (c := 1) rfl (fun _ _ => rfl) (by decide) ?_
          refine yG.invV (rest := [yR 2101, yR 2102, yI (z4), yI (p1), yR 2161]) A_hq.1 W.m.1 rfl rfl rfl rfl (a_of_4_1 W (d + 1) A_hq.1 (a4) (by omega) (by omega)) (fun rv hp9 q9 => ?_)
          obtain ⟨⟨z5, rfl, l_z5, u_z5⟩, e9⟩ := q9
          rw [e9]
          show yG _ _ _ _ _ _ _ _ _ _ (yI z5 :: [yR 2101, yR 2102, yI (z4), yI (p1), yR 2161]) _
          refine yG.iald A_hq.1 (v_island W) rfl (by omega) (by omega) (fun z6 e_z6 i_z6 l_z6 u_z6 => ?_)
          refine yG.bald A_hq.1 (v_isLive W) rfl (by omega) (by omega) (fun z7 e_z7 i_z7 l_z7 u_z7 => ?_)
          refine yG.ifz rfl (t := 238) rfl ⟨by omega, by omega⟩ (fun c8 => ?_) (fun c8 => ?_)
          · have c8 : (z7 : Int) = 0 := c8
            refine yG.load xak rfl (fun _ _ => rfl) (v := yR 2073) rfl rfl ?_
            refine yG.num (c := 4) rfl (fun _ _ => rfl) (by decide) ?_
            refine yG.load xik rfl (fun _ _ => rfl) (v := yI (a4)) rfl rfl ?_
            refine yG.num (c := 0) rfl (fun _ _ => rfl) (by decide) ?_
            refine yG.invV (rest := [yI (z4), yI (p1), yR 2161]) A_hq.1 W.m.1 rfl rfl rfl rfl (a_of_4_0 W (d + 1) A_hq.1 (a4) (by omega) (by omega)) (fun rv hp9 q9 => ?_)
            obtain ⟨⟨z9, rfl, l_z9, u_z9⟩, e9⟩ := q9
            rw [e9]
            show yG _ _ _ _ _ _ _ _ _ _ (yI z9 :: [yI (z4), yI (p1), yR 2161]) _
            refine yG.iadd rfl ?_
            obtain ⟨z11, e_z11, l_z11, u_z11⟩ := ywI (z4 + z9)
            rw [e_z11]
            refine yG.iast A_hq.1 (v_seenLost W) (by decide) rfl (by omega) (by omega) ⟨by omega, by omega⟩ (by omega) (by omega) (fun h10 T_h10 b_h10 f_h10 y_h10 => ?_)
            have A_h10 := A_hq.putA T_h10 b_h10 f_h10 (by decide)
            refine yG.iinc rfl (a := a4) rfl (L' := [(4, yI (a4 + 1)), (0, yR 2073), (1, yI (p1))]) rfl ?_
            refine yG.goto rfl (t := 195) rfl ?_
            exact yG.mono (yG.sub (i_195 (a4 + 1)  h10 A_h10  (by omega) (by omega) (by omega) (by omega) (by omega)) (ySub.cons rfl (ySub.cons rfl (ySub.cons rfl (ySub.nil))))) (by omega)
          · have c8 : (z7 : Int) ≠ 0 := c8
            refine yG.num (c := 0) rfl (fun _ _ => rfl) (by decide) ?_
            refine yG.goto rfl (t := 246) rfl ?_
            refine yG.iadd rfl ?_
            refine yG.iast A_hq.1 (v_seenLost W) (by decide) rfl (by omega) (by omega) ⟨by omega, by omega⟩ (by omega) (by omega) (fun h12 T_h12 b_h12 f_h12 y_h12 => ?_)
            have A_h12 := A_hq.putA T_h12 b_h12 f_h12 (by decide)
            refine yG.iinc rfl (a := a4) rfl (L' := [(4, yI (a4 + 1)), (0, yR 2073), (1, yI (p1))]) rfl ?_
            refine yG.goto rfl (t := 195) rfl ?_
            exact yG.mono (yG.sub (i_195 (a4 + 1)  h12 A_h12  (by omega) (by omega) (by omega) (by omega) (by omega)) (ySub.cons rfl (ySub.cons rfl (ySub.cons rfl (ySub.nil))))) (by omega)
      · intro a4 hq A_hq f0 f1 f2 f3 hm
        refine yG.mono (N := 48 * m + 48) ?_ (by omega)
        refine yG.load xik rfl (fun _ _ => rfl) (v := yI (a4)) rfl rfl ?_
        refine yG.num (c := 1320) rfl (fun _ _ => rfl) (by decide) ?_
        refine yG.icmp rfl (t := 298) rfl ⟨by omega, by omega⟩ ⟨by omega, by omega⟩ (fun c1 => ?_) (fun c1 => ?_)
        · have c1 : (a4 : Int) ≥ 1320 := c1
          refine yG.ret rfl (fun _ _ => rfl) ?_
          exact yP.void ⟨rfl, A_hq⟩
        · have c1 : (a4 : Int) < 1320 := c1
          refine yG.load xak rfl (fun _ _ => rfl) (v := yR 2073) rfl rfl ?_
          refine yG.getR A_hq.1 (r_seenField W) rfl rfl ?_
          refine yG.num (c := 1320) rfl (fun _ _ => rfl) (by decide) ?_
          refine yG.load xik rfl (fun _ _ => rfl) (v := yI (p1)) rfl rfl ?_
          refine yG.imul rfl ?_
          refine yG.load xik rfl (fun _ _ => rfl) (v := yI (a4)) rfl rfl ?_
          refine yG.iadd rfl ?_
          refine yG.load xak rfl (fun _ _ => rfl) (v := yR 2073) rfl rfl ?_
          refine yG.getR A_hq.1 (r_field W) rfl rfl ?_
          refine yG.load xik rfl (fun _ _ => rfl) (v := yI (a4)) rfl rfl ?_
          refine yG.ialdT A_hq.1 (p_field W) (yhull2 (tf := yfT) (yfT_h _)) rfl (by omega) (by omega) (fun z2 lo_z2 hi_z2 e_z2 i_z2 T_z2 l_z2 u_z2 => ?_)
          obtain ⟨L_z2, U_z2⟩ := yhull (tf := yfT) (yfT_h _) T_z2
          refine yG.iastF A_hq.1 (p_seenField W) (show yfT (((1320 * p1) + a4).toNat % 1320) = _ from (congrArg yfT (by omega)).trans T_z2) (by decide) rfl (by omega) (by omega) ⟨by omega, by omega⟩ (by omega) (by omega) (fun h3 T_h3 b_h3 f_h3 y_h3 => ?_)
          have A_h3 := A_hq.putA T_h3 b_h3 f_h3 (by decide)
          refine yG.iinc rfl (a := a4) rfl (L' := [(4, yI (a4 + 1)), (0, yR 2073), (1, yI (p1))]) rfl ?_
          refine yG.goto rfl (t := 264) rfl ?_
          exact yG.mono (yG.sub (i_264 (a4 + 1)  h3 A_h3  (by omega) (by omega) (by omega) (by omega) (by omega)) (ySub.cons rfl (ySub.cons rfl (ySub.cons rfl (ySub.nil))))) (by omega)
  refine yC.of (M := (xt_X13_see, (5, (0, (14, []))))) rfl rfl (N := 14719850496) (yfuel (by decide)) ?_
  show yG 89 xfts (xcall 89 xfts xpools xms (d + 3)) (xpool xp_RX13) [] xt_X13_see (yP 0 (yQv G [40] [2098, 2099, 2100, 2101, 2102, 2158, 2159, 2160, 2161, 2162, 2163] hp)) 14719850496 0 [(0, yR 2073), (1, yI (p1))] [] hp
  obtain ⟨i_20, i_59, i_89, i_195, i_264⟩ := H 306663551
  refine yG.load xak rfl (fun _ _ => rfl) (v := yR 2073) rfl rfl ?_
  refine yG.num (c := 0) rfl (fun _ _ => rfl) (by decide) ?_
  refine yG.putI A_hp.1 (w_hasFlows W) (by decide) rfl rfl (.inr ⟨rfl, rfl, rfl⟩) ⟨by omega, by omega⟩ (by omega) (by omega) (fun h1 T_h1 b_h1 f_h1 y_h1 => ?_)
  have A_h1 := A_hp.putF T_h1 b_h1 f_h1 (by decide)
  have g40_h1 : ys h1 2073 40 = 0 := (y_h1 2073 40).trans (if_pos ⟨rfl, rfl⟩)
  refine yG.load xak rfl (fun _ _ => rfl) (v := yR 2073) rfl rfl ?_
  refine yG.invV (rest := []) A_h1.1 W.m.1 rfl rfl rfl rfl (a_asItIs W d A_h1.1) (fun rv h3 q9 => ?_)
  obtain ⟨rfl, B_h3⟩ := q9
  have A_h3 := A_h1.tr (B_h3.sub (by decide) (by decide))
  have g40_h3 : ys h3 2073 40 = ys h1 2073 40 := B_h3.ys (by decide) (by decide)
  show yG _ _ _ _ _ _ _ _ _ _ [] _
  refine yG.load xak rfl (fun _ _ => rfl) (v := yR 2073) rfl rfl ?_
  refine yG.invV (rest := []) A_h3.1 W.m.1 rfl rfl rfl rfl (a_topology W d A_h3.1) (fun rv h5 q9 => ?_)
  obtain ⟨rfl, B_h5⟩ := q9
  have A_h5 := A_h3.tr (B_h5.sub (by decide) (by decide))
  have g40_h5 : ys h5 2073 40 = ys h3 2073 40 := B_h5.ys (by decide) (by decide)
  show yG _ _ _ _ _ _ _ _ _ _ [] _
  refine yG.num (c := 0) rfl (fun _ _ => rfl) (by decide) ?_
  refine yG.store1 xik (L' := [(2, yI (0)), (0, yR 2073), (1, yI (p1))]) rfl (fun _ _ => rfl) rfl rfl ?_
  refine yG.num (c := 0) rfl (fun _ _ => rfl) (by decide) ?_
  refine yG.store1 xik (L' := [(3, yI (0)), (2, yI (0)), (0, yR 2073), (1, yI (p1))]) rfl (fun _ _ => rfl) rfl rfl ?_
  refine yG.num (c := 0) rfl (fun _ _ => rfl) (by decide) ?_
  refine yG.store1 xik (L' := [(4, yI (0)), (3, yI (0)), (2, yI (0)), (0, yR 2073), (1, yI (p1))]) rfl (fun _ _ => rfl) rfl rfl ?_
  exact yG.mono (yG.sub (i_20 (0) (0) (0)  h5 A_h5  (by omega) (by omega) (by omega) (by omega) (by omega) (by omega) (by omega) (by omega) (by omega) (by omega)) (ySub.cons rfl (ySub.cons rfl (ySub.cons rfl (ySub.cons rfl (ySub.cons rfl (ySub.nil))))))) (by omega)
theorem a_tellLines {hp : xH} (W : yWW G) (d : Nat) (hT : zTy G hp) (p1 p2 p3 : Int) (h1l : 0 ≤ p1) (h1u : p1 ≤ 15) (h2l : 0 ≤ p2) (h2u : p2 ≤ 15) (h3l : 0 ≤ p3) (h3u : p3 ≤ 2147483646) (q10l : 0 ≤ ys hp 2073 10) (q10u : ys hp 2073 10 ≤ 39) (q11l : 1 ≤ ys hp 2073 11) (q11u : ys hp 2073 11 ≤ 2147483647) : yC (xcall 89 xfts xpools xms (d + 5)) 529 [yR 2073, yI (p1), yI (p2), yJ (p3)] hp (yQv G [] [2081] hp) := by
  have A_hp : yAx G [] [2081] hp hp := yAx.rf hT
  have H : ∀ m : Nat, (∀ a5 gg11 gg10 : Int, ∀ hq, yAx G [] [2081] hp hq → ys hq 2073 11 = gg11 → ys hq 2073 10 = gg10 → 0 ≤ a5 → (-20) ≤ 0 - a5 → 1 ≤ gg11 → (-2147483647) ≤ 0 - gg11 → 0 ≤ gg10 → (-39) ≤ 0 - gg10 → 0 ≤ p1 → (-15) ≤ 0 - p1 → 0 ≤ p2 → (-15) ≤ 0 - p2 → 0 ≤ p3 → (-2147483646) ≤ 0 - p3 → 0 - 2 * a5 + 41 < (m : Int) → yG 89 xfts (xcall 89 xfts xpools xms (d + 4)) (xpool xp_RX13) [] xt_X13_tellLines (yP 0 (yQv G [] [2081] hp)) (60 * m) 3 [(0, yR 2073), (1, yI (p1)), (2, yI (p2)), (3, yJ (p3)), (5, yI (a5))] [] hq) := by
    intro m
    induction m with
    | zero =>
      intros; exfalso; omega
    | succ m ih =>
      have i_3 := ih
      clear ih
      intro a5 gg11 gg10 hq A_hq E_11 E_10 f0 f1 f2 f3 f4 f5 f6 f7 f8 f9 f10 f11 hm
      refine yG.mono (N := 60 * m + 60) ?_ (by omega)
      refine yG.load xik rfl (fun _ _ => rfl) (v := yI (a5)) rfl rfl ?_
      refine yG.load xak rfl (fun _ _ => rfl) (v := yR 2073) rfl rfl ?_
      refine yG.getR A_hq.1 (r_count W) rfl rfl ?_
      refine yG.num (c := 2) rfl (fun _ _ => rfl) (by decide) ?_
      refine yG.ialdF A_hq.1 (p_count W) rfl rfl (by omega) (by omega) (fun z1 e_z1 i_z1 l_z1 u_z1 => ?_)
      refine yG.icmp rfl (t := 107) rfl ⟨by omega, by omega⟩ ⟨by omega, by omega⟩ (fun c2 => ?_) (fun c2 => ?_)
      · have c2 : (a5 : Int) ≥ z1 := c2
        refine yG.ret rfl (fun _ _ => rfl) ?_
        exact yP.void ⟨rfl, A_hq⟩
      · have c2 : (a5 : Int) < z1 := c2
        refine yG.load xak rfl (fun _ _ => rfl) (v := yR 2073) rfl rfl ?_
        refine yG.load xik rfl (fun _ _ => rfl) (v := yI (a5)) rfl rfl ?_
        refine yG.invV (rest := []) A_hq.1 W.m.1 rfl rfl rfl rfl (a_islandOfLine W (d + 1) A_hq.1 (a5) (by omega) (by omega)) (fun rv hp9 q9 => ?_)
        obtain ⟨⟨z3, rfl, l_z3, u_z3⟩, e9⟩ := q9
        rw [e9]
        show yG _ _ _ _ _ _ _ _ _ _ (yI z3 :: []) _
        refine yG.load xik rfl (fun _ _ => rfl) (v := yI (p1)) rfl rfl ?_
        refine yG.icmp rfl (t := 101) rfl ⟨by omega, by omega⟩ ⟨by omega, by omega⟩ (fun c4 => ?_) (fun c4 => ?_)
        · have c4 : (z3 : Int) ≠ p1 := c4
          refine yG.iinc rfl (a := a5) rfl (L' := [(5, yI (a5 + 1)), (0, yR 2073), (1, yI (p1)), (2, yI (p2)), (3, yJ (p3))]) rfl ?_
          refine yG.goto rfl (t := 3) rfl ?_
          exact yG.mono (yG.sub (i_3 (a5 + 1) (ys hq 2073 11) (ys hq 2073 10) hq A_hq rfl rfl (by omega) (by omega) (by omega) (by omega) (by omega) (by omega) (by omega) (by omega) (by omega) (by omega) (by omega) (by omega) (by omega)) (ySub.cons rfl (ySub.cons rfl (ySub.cons rfl (ySub.cons rfl (ySub.cons rfl (ySub.nil))))))) (by omega)
        · have c4 : (z3 : Int) = p1 := c4
          refine yG.load xak rfl (fun _ _ => rfl) (v := yR 2073) rfl rfl ?_
          refine yG.load xik rfl (fun _ _ => rfl) (v := yI (a5)) rfl rfl ?_
          refine yG.invV (rest := []) A_hq.1 W.m.1 rfl rfl rfl rfl (a_isBetween W d A_hq.1 (a5) (by omega) (by omega)) (fun rv hp9 q9 => ?_)
          obtain ⟨⟨z5, rfl, l_z5, u_z5⟩, e9⟩ := q9
          rw [e9]
          show yG _ _ _ _ _ _ _ _ _ _ (yI z5 :: []) _
          refine yG.ifz rfl (t := 101) rfl ⟨by omega, by omega⟩ (fun c6 => ?_) (fun c6 => ?_)
          · have c6 : (z5 : Int) = 0 := c6
            refine yG.iinc rfl (a := a5) rfl (L' := [(5, yI (a5 + 1)), (0, yR 2073), (1, yI (p1)), (2, yI (p2)), (3, yJ (p3))]) rfl ?_
            refine yG.goto rfl (t := 3) rfl ?_
            exact yG.mono (yG.sub (i_3 (a5 + 1) (ys hq 2073 11) (ys hq 2073 10) hq A_hq rfl rfl (by omega) (by omega) (by omega) (by omega) (by omega) (by omega) (by omega) (by omega) (by omega) (by omega) (by omega) (by omega) (by omega)) (ySub.cons rfl (ySub.cons rfl (ySub.cons rfl (ySub.cons rfl (ySub.cons rfl (ySub.nil))))))) (by omega)
          · have c6 : (z5 : Int) ≠ 0 := c6
            refine yG.load xak rfl (fun _ _ => rfl) (v := yR 2073) rfl rfl ?_
            refine yG.load xak rfl (fun _ _ => rfl) (v := yR 2073) rfl rfl ?_
            refine yG.load xak rfl (fun _ _ => rfl) (v := yR 2073) rfl rfl ?_
            refine yG.load xik rfl (fun _ _ => rfl) (v := yI (a5)) rfl rfl ?_
            refine yG.num (c := 0) rfl (fun _ _ => rfl) (by decide) ?_
            refine yG.invV (rest := [yR 2073, yR 2073]) A_hq.1 W.m.1 rfl rfl rfl rfl (a_nodeOfLine W (d + 1) A_hq.1 (a5) (0) (by omega) (by omega) (by omega) (by omega)) (fun rv hp9 q9 => ?_)
            obtain ⟨⟨z7, rfl, l_z7, u_z7⟩, e9⟩ := q9
            rw [e9]
            show yG _ _ _ _ _ _ _ _ _ _ (yI z7 :: [yR 2073, yR 2073]) _
            refine yG.load xik rfl (fun _ _ => rfl) (v := yI (p2)) rfl rfl ?_
            refine yG.invV (rest := [yR 2073]) A_hq.1 W.m.1 rfl rfl rfl rfl (a_angleAt W (d + 3) A_hq.1 (z7) (p2) (by omega) (by omega) (by omega) (by omega)) (fun rv hp9 q9 => ?_)
            obtain ⟨⟨z8, rfl, l_z8, u_z8⟩, e9⟩ := q9
            rw [e9]
            show yG _ _ _ _ _ _ _ _ _ _ (yJ z8 :: [yR 2073]) _
            refine yG.load xak rfl (fun _ _ => rfl) (v := yR 2073) rfl rfl ?_
            refine yG.load xak rfl (fun _ _ => rfl) (v := yR 2073) rfl rfl ?_
            refine yG.load xik rfl (fun _ _ => rfl) (v := yI (a5)) rfl rfl ?_
            refine yG.num (c := 1) rfl (fun _ _ => rfl) (by decide) ?_
            refine yG.invV (rest := [yR 2073, yJ (z8), yR 2073]) A_hq.1 W.m.1 rfl rfl rfl rfl (a_nodeOfLine W (d + 1) A_hq.1 (a5) (1) (by omega) (by omega) (by omega) (by omega)) (fun rv hp9 q9 => ?_)
            obtain ⟨⟨z9, rfl, l_z9, u_z9⟩, e9⟩ := q9
            rw [e9]
            show yG _ _ _ _ _ _ _ _ _ _ (yI z9 :: [yR 2073, yJ (z8), yR 2073]) _
            refine yG.load xik rfl (fun _ _ => rfl) (v := yI (p2)) rfl rfl ?_
            refine yG.invV (rest := [yJ (z8), yR 2073]) A_hq.1 W.m.1 rfl rfl rfl rfl (a_angleAt W (d + 3) A_hq.1 (z9) (p2) (by omega) (by omega) (by omega) (by omega)) (fun rv hp9 q9 => ?_)
            obtain ⟨⟨z10, rfl, l_z10, u_z10⟩, e9⟩ := q9
            rw [e9]
            show yG _ _ _ _ _ _ _ _ _ _ (yJ z10 :: [yJ (z8), yR 2073]) _
            refine yG.lsub rfl ?_
            refine yG.invV (rest := []) A_hq.1 W.m.1 rfl rfl rfl rfl (a_mod W (d + 3) A_hq.1 (z8 - z10) (by omega) (by omega) (by omega) (by omega)) (fun rv hp9 q9 => ?_)
            obtain ⟨⟨z11, rfl, l_z11, u_z11⟩, e9⟩ := q9
            rw [e9]
            show yG _ _ _ _ _ _ _ _ _ _ (yJ z11 :: []) _
            refine yG.store2 xlk2 (L' := [(6, yJ (z11)), (0, yR 2073), (1, yI (p1)), (2, yI (p2)), (3, yJ (p3)), (5, yI (a5))]) rfl (fun _ _ => rfl) rfl rfl ?_
            refine yG.load xak rfl (fun _ _ => rfl) (v := yR 2073) rfl rfl ?_
            refine yG.num (c := 20) rfl (fun _ _ => rfl) (by decide) ?_
            refine yG.load xik rfl (fun _ _ => rfl) (v := yI (a5)) rfl rfl ?_
            refine yG.iadd rfl ?_
            refine yG.load xlk2 rfl (fun _ _ => rfl) (v := yJ (z11)) rfl rfl ?_
            refine yG.load xak rfl (fun _ _ => rfl) (v := yR 2073) rfl rfl ?_
            refine yG.load xak rfl (fun _ _ => rfl) (v := yR 2073) rfl rfl ?_
            refine yG.num (c := 2) rfl (fun _ _ => rfl) (by decide) ?_
            refine yG.load xik rfl (fun _ _ => rfl) (v := yI (a5)) rfl rfl ?_
            refine yG.num (c := 1) rfl (fun _ _ => rfl) (by decide) ?_
            refine yG.invV (rest := [yR 2073, yJ (z11), yI (20 + a5), yR 2073]) A_hq.1 W.m.1 rfl rfl rfl rfl (a_of_2_1 W (d + 2) A_hq.1 (a5) (by omega) (by omega)) (fun rv hp9 q9 => ?_)
            obtain ⟨⟨z12, rfl, l_z12, u_z12⟩, e9⟩ := q9
            rw [e9]
            show yG _ _ _ _ _ _ _ _ _ _ (yI z12 :: [yR 2073, yJ (z11), yI (20 + a5), yR 2073]) _
            refine yG.i2l rfl ⟨by omega, by omega⟩ ?_
            refine yG.invV (rest := [yJ (z11), yI (20 + a5), yR 2073]) A_hq.1 W.m.1 rfl rfl rfl rfl (a_inverse_ W (d + 2) A_hq.1 (z12) (by omega) (by omega) (by omega) (by omega)) (fun rv hp9 q9 => ?_)
            obtain ⟨⟨z13, rfl, l_z13, u_z13⟩, e9⟩ := q9
            rw [e9]
            show yG _ _ _ _ _ _ _ _ _ _ (yJ z13 :: [yJ (z11), yI (20 + a5), yR 2073]) _
            refine yG.lmul rfl ?_
            obtain ⟨z14, e_z14⟩ : ∃ z : Int, z = z11 * z13 := ⟨_, rfl⟩
            rw [← e_z14]
            have b_z14 : 0 ≤ z14 ∧ z14 ≤ 4611686009837453316 := e_z14 ▸ ymulb (A := 2147483646) (B := 2147483646) (by omega) (by omega) (by omega) (by omega) (by decide)
            refine yG.load xak rfl (fun _ _ => rfl) (v := yR 2073) rfl rfl ?_
            refine yG.getJ A_hq.1 (w_p W) rfl rfl (fun z15 e_z15 i_z15 l_z15 u_z15 => ?_)
            refine yG.lrem rfl ⟨by omega, by omega⟩ ⟨by omega, by omega⟩ (by omega) (by omega) ?_
            obtain ⟨z16, e_z16⟩ : ∃ z : Int, z = (z14) % (z15) := ⟨_, rfl⟩
            rw [← e_z16]
            have b_z16 : 0 ≤ z16 ∧ z16 < z15 := e_z16 ▸ ⟨Int.emod_nonneg _ (by omega), Int.emod_lt_of_pos _ (by omega)⟩
            refine yG.load xlk2 rfl (fun _ _ => rfl) (v := yJ (p3)) rfl rfl ?_
            refine yG.lmul rfl ?_
            obtain ⟨z17, e_z17⟩ : ∃ z : Int, z = z16 * p3 := ⟨_, rfl⟩
            rw [← e_z17]
            have b_z17 : 0 ≤ z17 ∧ z17 ≤ 4611686009837453316 := e_z17 ▸ ymulb (A := 2147483646) (B := 2147483646) (by omega) (by omega) (by omega) (by omega) (by decide)
            refine yG.load xak rfl (fun _ _ => rfl) (v := yR 2073) rfl rfl ?_
            refine yG.getJ A_hq.1 (w_p W) rfl rfl (fun z18 e_z18 i_z18 l_z18 u_z18 => ?_)
            refine yG.lrem rfl ⟨by omega, by omega⟩ ⟨by omega, by omega⟩ (by omega) (by omega) ?_
            obtain ⟨z19, e_z19⟩ : ∃ z : Int, z = (z17) % (z18) := ⟨_, rfl⟩
            rw [← e_z19]
            have b_z19 : 0 ≤ z19 ∧ z19 < z18 := e_z19 ▸ ⟨Int.emod_nonneg _ (by omega), Int.emod_lt_of_pos _ (by omega)⟩
            refine yG.invV (rest := []) A_hq.1 W.m.1 rfl rfl rfl rfl (a_tell W (d + 3) A_hq.1 (20 + a5) (z19) (by omega) (by omega) (by omega) (by omega) (by omega) (by omega)) (fun rv h21 q9 => ?_)
            obtain ⟨rfl, B_h21⟩ := q9
            have A_h21 := A_hq.tr (B_h21.sub (by decide) (by decide))
            have g11_h21 : ys h21 2073 11 = ys hq 2073 11 := B_h21.ys (by decide) (by decide)
            have g10_h21 : ys h21 2073 10 = ys hq 2073 10 := B_h21.ys (by decide) (by decide)
            show yG _ _ _ _ _ _ _ _ _ _ [] _
            refine yG.iinc rfl (a := a5) rfl (L' := [(5, yI (a5 + 1)), (6, yJ (z11)), (0, yR 2073), (1, yI (p1)), (2, yI (p2)), (3, yJ (p3))]) rfl ?_
            refine yG.goto rfl (t := 3) rfl ?_
            exact yG.mono (yG.sub (i_3 (a5 + 1) (ys h21 2073 11) (ys h21 2073 10) h21 A_h21 rfl rfl (by omega) (by omega) (by omega) (by omega) (by omega) (by omega) (by omega) (by omega) (by omega) (by omega) (by omega) (by omega) (by omega)) (ySub.cons rfl (ySub.cons rfl (ySub.cons rfl (ySub.cons rfl (ySub.cons rfl (ySub.nil))))))) (by omega)
  refine yC.of (M := (xt_X13_tellLines, (8, (0, (14, []))))) rfl rfl (N := 2640) (yfuel (by decide)) ?_
  show yG 89 xfts (xcall 89 xfts xpools xms (d + 4)) (xpool xp_RX13) [] xt_X13_tellLines (yP 0 (yQv G [] [2081] hp)) 2640 0 [(0, yR 2073), (1, yI (p1)), (2, yI (p2)), (3, yJ (p3))] [] hp
  have i_3 := H 43
  obtain ⟨gg11, E_11⟩ : ∃ z : Int, ys hp 2073 11 = z := ⟨_, rfl⟩
  obtain ⟨gg10, E_10⟩ : ∃ z : Int, ys hp 2073 10 = z := ⟨_, rfl⟩
  obtain ⟨-, -, r_11l, r_11u⟩ := (w_p W).long hT
  obtain ⟨-, -, r_10l, r_10u⟩ := (w_usedCount W).int hT
  refine yG.num (c := 0) rfl (fun _ _ => rfl) (by decide) ?_
  refine yG.store1 xik (L' := [(5, yI (0)), (0, yR 2073), (1, yI (p1)), (2, yI (p2)), (3, yJ (p3))]) rfl (fun _ _ => rfl) rfl rfl ?_
  exact yG.mono (yG.sub (i_3 (0) (ys hp 2073 11) (ys hp 2073 10) hp A_hp rfl rfl (by omega) (by omega) (by omega) (by omega) (by omega) (by omega) (by omega) (by omega) (by omega) (by omega) (by omega) (by omega) (by omega)) (ySub.cons rfl (ySub.cons rfl (ySub.cons rfl (ySub.cons rfl (ySub.cons rfl (ySub.nil))))))) (by omega)
theorem a_fieldOf {hp : xH} (W : yWW G) (d : Nat) (hT : zTy G hp) (p0 p1 : Int) (h0l : 0 ≤ p0) (h0u : p0 ≤ 5) (h1l : 0 ≤ p1) (h1u : p1 ≤ 23) : yC (xcall 89 xfts xpools xms (d + 2)) 398 [yI (p0), yI (p1)] hp (yQpi hp 0 519) := by
  have A_hp : yAx G [] [] hp hp := yAx.rf hT
  refine yC.of (M := (xt_X13_fieldOf, (2, (1, (14, []))))) rfl rfl (N := 48) (yfuel (by decide)) ?_
  show yG 89 xfts (xcall 89 xfts xpools xms (d + 1)) (xpool xp_RX13) [] xt_X13_fieldOf (yP 1 (yQpi hp 0 519)) 48 0 [(0, yI (p0)), (1, yI (p1))] [] hp
  refine yG.load xik rfl (fun _ _ => rfl) (v := yI (p0)) rfl rfl ?_
  refine yG.invS (rest := []) rfl rfl rfl rfl (a_isOfBar W d A_hp.1 (p0) (by omega) (by omega)) (fun rv hp9 q9 => ?_)
  obtain ⟨⟨z1, rfl, l_z1, u_z1, r_z1⟩, e9⟩ := q9
  rw [e9]
  show yG _ _ _ _ _ _ _ _ _ _ (yI z1 :: []) _
  refine yG.ifz rfl (t := 16) rfl ⟨by omega, by omega⟩ (fun c2 => ?_) (fun c2 => ?_)
  · have c2 : (z1 : Int) = 0 := c2
    refine yG.num (c := 1) rfl (fun _ _ => rfl) (by decide) ?_
    refine yG.load xik rfl (fun _ _ => rfl) (v := yI (p1)) rfl rfl ?_
    refine yG.load xik rfl (fun _ _ => rfl) (v := yI (p0)) rfl rfl ?_
    refine yG.ifz rfl (t := 27) rfl ⟨by omega, by omega⟩ (fun c3 => ?_) (fun c3 => ?_)
    · have c3 : (p0 : Int) = 0 := c3
      refine yG.num (c := 0) rfl (fun _ _ => rfl) (by decide) ?_
      refine yG.goto rfl (t := 32) rfl ?_
      refine yG.invS (rest := []) rfl rfl rfl rfl (a_f W d A_hp.1 (1) (p1) (0) (by omega) (by omega) (by omega) (by omega) (by omega) (by omega)) (fun rv hp9 q9 => ?_)
      obtain ⟨rfl, e9⟩ := q9
      rw [e9]
      obtain ⟨z4, e_z4⟩ : ∃ z : Int, z = 264 * (1) + 11 * (p1) + (0) := ⟨_, rfl⟩
      show yG _ _ _ _ _ _ _ _ _ _ (yI (264 * (1) + 11 * (p1) + (0)) :: []) _
      rw [← e_z4]
      refine yG.ret rfl (fun _ _ => rfl) ?_
      exact yP.int ⟨by omega, by omega⟩ ⟨⟨z4, rfl, by omega, by omega⟩, rfl⟩
    · have c3 : (p0 : Int) ≠ 0 := c3
      refine yG.load xik rfl (fun _ _ => rfl) (v := yI (p0)) rfl rfl ?_
      refine yG.num (c := 1) rfl (fun _ _ => rfl) (by decide) ?_
      refine yG.icmp rfl (t := 31) rfl ⟨by omega, by omega⟩ ⟨by omega, by omega⟩ (fun c5 => ?_) (fun c5 => ?_)
      · have c5 : (p0 : Int) ≠ 1 := c5
        refine yG.num (c := 2) rfl (fun _ _ => rfl) (by decide) ?_
        refine yG.invS (rest := []) rfl rfl rfl rfl (a_f W d A_hp.1 (1) (p1) (2) (by omega) (by omega) (by omega) (by omega) (by omega) (by omega)) (fun rv hp9 q9 => ?_)
        obtain ⟨rfl, e9⟩ := q9
        rw [e9]
        obtain ⟨z6, e_z6⟩ : ∃ z : Int, z = 264 * (1) + 11 * (p1) + (2) := ⟨_, rfl⟩
        show yG _ _ _ _ _ _ _ _ _ _ (yI (264 * (1) + 11 * (p1) + (2)) :: []) _
        rw [← e_z6]
        refine yG.ret rfl (fun _ _ => rfl) ?_
        exact yP.int ⟨by omega, by omega⟩ ⟨⟨z6, rfl, by omega, by omega⟩, rfl⟩
      · have c5 : (p0 : Int) = 1 := c5
        refine yG.num (c := 0) rfl (fun _ _ => rfl) (by decide) ?_
        refine yG.goto rfl (t := 32) rfl ?_
        refine yG.invS (rest := []) rfl rfl rfl rfl (a_f W d A_hp.1 (1) (p1) (0) (by omega) (by omega) (by omega) (by omega) (by omega) (by omega)) (fun rv hp9 q9 => ?_)
        obtain ⟨rfl, e9⟩ := q9
        rw [e9]
        obtain ⟨z7, e_z7⟩ : ∃ z : Int, z = 264 * (1) + 11 * (p1) + (0) := ⟨_, rfl⟩
        show yG _ _ _ _ _ _ _ _ _ _ (yI (264 * (1) + 11 * (p1) + (0)) :: []) _
        rw [← e_z7]
        refine yG.ret rfl (fun _ _ => rfl) ?_
        exact yP.int ⟨by omega, by omega⟩ ⟨⟨z7, rfl, by omega, by omega⟩, rfl⟩
  · have c2 : (z1 : Int) ≠ 0 := c2
    refine yG.num (c := 0) rfl (fun _ _ => rfl) (by decide) ?_
    refine yG.load xik rfl (fun _ _ => rfl) (v := yI (p1)) rfl rfl ?_
    refine yG.num (c := 0) rfl (fun _ _ => rfl) (by decide) ?_
    refine yG.invS (rest := []) rfl rfl rfl rfl (a_f W d A_hp.1 (0) (p1) (0) (by omega) (by omega) (by omega) (by omega) (by omega) (by omega)) (fun rv hp9 q9 => ?_)
    obtain ⟨rfl, e9⟩ := q9
    rw [e9]
    obtain ⟨z8, e_z8⟩ : ∃ z : Int, z = 264 * (0) + 11 * (p1) + (0) := ⟨_, rfl⟩
    show yG _ _ _ _ _ _ _ _ _ _ (yI (264 * (0) + 11 * (p1) + (0)) :: []) _
    rw [← e_z8]
    refine yG.goto rfl (t := 35) rfl ?_
    refine yG.ret rfl (fun _ _ => rfl) ?_
    exact yP.int ⟨by omega, by omega⟩ ⟨⟨z8, rfl, by omega, by omega⟩, rfl⟩
theorem a_backUp {hp : xH} (W : yWW G) (d : Nat) (hT : zTy G hp) (p1 p2 : Int) (h1l : 0 ≤ p1) (h1u : p1 ≤ 23) (h2l : 0 ≤ p2) (h2u : p2 ≤ 2147483647) : yC (xcall 89 xfts xpools xms (d + 5)) 355 [yR 2073, yI (p1), yJ (p2)] hp (yQv G [40, 77] [2098, 2099, 2100, 2101, 2102, 2134, 2135, 2136] hp) := by
  have A_hp : yAx G [40, 77] [2098, 2099, 2100, 2101, 2102, 2134, 2135, 2136] hp hp := yAx.rf hT
  have H : ∀ m : Nat, (∀ a4 a5 a6 : Int, ∀ hq, yAx G [40, 77] [2098, 2099, 2100, 2101, 2102, 2134, 2135, 2136] hp hq → 0 ≤ a4 → (-15) ≤ 0 - a4 → 0 ≤ a5 → (-15) ≤ 0 - a5 → 0 ≤ a6 → (-24) ≤ 0 - a6 → 0 ≤ p1 → (-23) ≤ 0 - p1 → 0 ≤ p2 → (-2147483647) ≤ 0 - p2 → 0 - 3 * a6 + 74 < (m : Int) → yG 89 xfts (xcall 89 xfts xpools xms (d + 4)) (xpool xp_RX13) [] xt_X13_backUp (yP 0 (yQv G [40, 77] [2098, 2099, 2100, 2101, 2102, 2134, 2135, 2136] hp)) (43 * m) 39 [(0, yR 2073), (1, yI (p1)), (2, yJ (p2)), (4, yI (a4)), (5, yI (a5)), (6, yI (a6))] [] hq) ∧ (∀ a4 a5 a6 : Int, ∀ hq, yAx G [40, 77] [2098, 2099, 2100, 2101, 2102, 2134, 2135, 2136] hp hq → 0 ≤ a4 → (-15) ≤ 0 - a4 → 0 ≤ a5 → (-15) ≤ 0 - a5 → 0 ≤ a6 → (-23) ≤ 0 - a6 → 0 ≤ p1 → (-23) ≤ 0 - p1 → 0 ≤ p2 → (-2147483647) ≤ 0 - p2 → 0 - 3 * a6 + 73 < (m : Int) → yG 89 xfts (xcall 89 xfts xpools xms (d + 4)) (xpool xp_RX13) [] xt_X13_backUp (yP 0 (yQv G [40, 77] [2098, 2099, 2100, 2101, 2102, 2134, 2135, 2136] hp)) (43 * m) 114 [(0, yR 2073), (1, yI (p1)), (2, yJ (p2)), (4, yI (a4)), (5, yI (a5)), (6, yI (a6))] [] hq) := by
    intro m
    induction m with
    | zero =>
      refine ⟨?_, ?_⟩ <;> (intros; exfalso; omega)
    | succ m ih =>
      obtain ⟨i_39, i_114⟩ := ih
      refine ⟨?_, ?_⟩
      · intro a4 a5 a6 hq A_hq f0 f1 f2 f3 f4 f5 f6 f7 f8 f9 hm
        refine yG.mono (N := 43 * m + 43) ?_ (by omega)
        refine yG.load xik rfl (fun _ _ => rfl) (v := yI (a6)) rfl rfl ?_
        refine yG.load xak rfl (fun _ _ => rfl) (v := yR 2073) rfl rfl ?_
        refine yG.getR A_hq.1 (r_count W) rfl rfl ?_
        refine yG.num (c := 1) rfl (fun _ _ => rfl) (by decide) ?_
        refine yG.ialdF A_hq.1 (p_count W) rfl rfl (by omega) (by omega) (fun z1 e_z1 i_z1 l_z1 u_z1 => ?_)
        refine yG.icmp rfl (t := 129) rfl ⟨by omega, by omega⟩ ⟨by omega, by omega⟩ (fun c2 => ?_) (fun c2 => ?_)
        · have c2 : (a6 : Int) ≥ z1 := c2
          refine yG.ret rfl (fun _ _ => rfl) ?_
          exact yP.void ⟨rfl, A_hq⟩
        · have c2 : (a6 : Int) < z1 := c2
          refine yG.load xak rfl (fun _ _ => rfl) (v := yR 2073) rfl rfl ?_
          refine yG.getR A_hq.1 (r_node W) rfl rfl ?_
          refine yG.load xak rfl (fun _ _ => rfl) (v := yR 2073) rfl rfl ?_
          refine yG.num (c := 1) rfl (fun _ _ => rfl) (by decide) ?_
          refine yG.load xik rfl (fun _ _ => rfl) (v := yI (a6)) rfl rfl ?_
          refine yG.num (c := 3) rfl (fun _ _ => rfl) (by decide) ?_
          refine yG.invV (rest := [yR 2100]) A_hq.1 W.m.1 rfl rfl rfl rfl (a_of_1_3 W (d + 2) A_hq.1 (a6) (by omega) (by omega)) (fun rv hp9 q9 => ?_)
          obtain ⟨⟨z3, rfl, l_z3, u_z3⟩, e9⟩ := q9
          rw [e9]
          show yG _ _ _ _ _ _ _ _ _ _ (yI z3 :: [yR 2100]) _
          refine yG.iald A_hq.1 (v_node W) rfl (by omega) (by omega) (fun z4 e_z4 i_z4 l_z4 u_z4 => ?_)
          refine yG.store1 xik (L' := [(7, yI (z4)), (0, yR 2073), (1, yI (p1)), (2, yJ (p2)), (4, yI (a4)), (5, yI (a5)), (6, yI (a6))]) rfl (fun _ _ => rfl) rfl rfl ?_
          refine yG.load xak rfl (fun _ _ => rfl) (v := yR 2073) rfl rfl ?_
          refine yG.getR A_hq.1 (r_node W) rfl rfl ?_
          refine yG.load xak rfl (fun _ _ => rfl) (v := yR 2073) rfl rfl ?_
          refine yG.num (c := 1) rfl (fun _ _ => rfl) (by decide) ?_
          refine yG.load xik rfl (fun _ _ => rfl) (v := yI (a6)) rfl rfl ?_
          refine yG.num (c := 4) rfl (fun _ _ => rfl) (by decide) ?_
          refine yG.invV (rest := [yR 2100]) A_hq.1 W.m.1 rfl rfl rfl rfl (a_of_1_4 W (d + 2) A_hq.1 (a6) (by omega) (by omega)) (fun rv hp9 q9 => ?_)
          obtain ⟨⟨z5, rfl, l_z5, u_z5⟩, e9⟩ := q9
          rw [e9]
          show yG _ _ _ _ _ _ _ _ _ _ (yI z5 :: [yR 2100]) _
          refine yG.iald A_hq.1 (v_node W) rfl (by omega) (by omega) (fun z6 e_z6 i_z6 l_z6 u_z6 => ?_)
          refine yG.store1 xik (L' := [(8, yI (z6)), (7, yI (z4)), (0, yR 2073), (1, yI (p1)), (2, yJ (p2)), (4, yI (a4)), (5, yI (a5)), (6, yI (a6))]) rfl (fun _ _ => rfl) rfl rfl ?_
          refine yG.load xik rfl (fun _ _ => rfl) (v := yI (a6)) rfl rfl ?_
          refine yG.load xik rfl (fun _ _ => rfl) (v := yI (p1)) rfl rfl ?_
          refine yG.icmp rfl (t := 123) rfl ⟨by omega, by omega⟩ ⟨by omega, by omega⟩ (fun c7 => ?_) (fun c7 => ?_)
          · have c7 : (a6 : Int) = p1 := c7
            refine yG.iinc rfl (a := a6) rfl (L' := [(6, yI (a6 + 1)), (8, yI (z6)), (7, yI (z4)), (0, yR 2073), (1, yI (p1)), (2, yJ (p2)), (4, yI (a4)), (5, yI (a5))]) rfl ?_
            refine yG.goto rfl (t := 39) rfl ?_
            exact yG.mono (yG.sub (i_39 (a4) (a5) (a6 + 1)  hq A_hq  (by omega) (by omega) (by omega) (by omega) (by omega) (by omega) (by omega) (by omega) (by omega) (by omega) (by omega)) (ySub.cons rfl (ySub.cons rfl (ySub.cons rfl (ySub.cons rfl (ySub.cons rfl (ySub.cons rfl (ySub.nil)))))))) (by omega)
          · have c7 : (a6 : Int) ≠ p1 := c7
            refine yG.load xik rfl (fun _ _ => rfl) (v := yI (z4)) rfl rfl ?_
            refine yG.load xik rfl (fun _ _ => rfl) (v := yI (a4)) rfl rfl ?_
            refine yG.icmp rfl (t := 114) rfl ⟨by omega, by omega⟩ ⟨by omega, by omega⟩ (fun c8 => ?_) (fun c8 => ?_)
            · have c8 : (z4 : Int) = a4 := c8
              exact yG.mono (yG.sub (i_114 (a4) (a5) (a6)  hq A_hq  (by omega) (by omega) (by omega) (by omega) (by omega) (by omega) (by omega) (by omega) (by omega) (by omega) (by omega)) (ySub.cons rfl (ySub.cons rfl (ySub.cons rfl (ySub.cons rfl (ySub.cons rfl (ySub.cons rfl (ySub.nil)))))))) (by omega)
            · have c8 : (z4 : Int) ≠ a4 := c8
              refine yG.load xik rfl (fun _ _ => rfl) (v := yI (z4)) rfl rfl ?_
              refine yG.load xik rfl (fun _ _ => rfl) (v := yI (a5)) rfl rfl ?_
              refine yG.icmp rfl (t := 114) rfl ⟨by omega, by omega⟩ ⟨by omega, by omega⟩ (fun c9 => ?_) (fun c9 => ?_)
              · have c9 : (z4 : Int) = a5 := c9
                exact yG.mono (yG.sub (i_114 (a4) (a5) (a6)  hq A_hq  (by omega) (by omega) (by omega) (by omega) (by omega) (by omega) (by omega) (by omega) (by omega) (by omega) (by omega)) (ySub.cons rfl (ySub.cons rfl (ySub.cons rfl (ySub.cons rfl (ySub.cons rfl (ySub.cons rfl (ySub.nil)))))))) (by omega)
              · have c9 : (z4 : Int) ≠ a5 := c9
                refine yG.load xik rfl (fun _ _ => rfl) (v := yI (z6)) rfl rfl ?_
                refine yG.load xik rfl (fun _ _ => rfl) (v := yI (a4)) rfl rfl ?_
                refine yG.icmp rfl (t := 114) rfl ⟨by omega, by omega⟩ ⟨by omega, by omega⟩ (fun c10 => ?_) (fun c10 => ?_)
                · have c10 : (z6 : Int) = a4 := c10
                  exact yG.mono (yG.sub (i_114 (a4) (a5) (a6)  hq A_hq  (by omega) (by omega) (by omega) (by omega) (by omega) (by omega) (by omega) (by omega) (by omega) (by omega) (by omega)) (ySub.cons rfl (ySub.cons rfl (ySub.cons rfl (ySub.cons rfl (ySub.cons rfl (ySub.cons rfl (ySub.nil)))))))) (by omega)
                · have c10 : (z6 : Int) ≠ a4 := c10
                  refine yG.load xik rfl (fun _ _ => rfl) (v := yI (z6)) rfl rfl ?_
                  refine yG.load xik rfl (fun _ _ => rfl) (v := yI (a5)) rfl rfl ?_
                  refine yG.icmp rfl (t := 123) rfl ⟨by omega, by omega⟩ ⟨by omega, by omega⟩ (fun c11 => ?_) (fun c11 => ?_)
                  · have c11 : (z6 : Int) ≠ a5 := c11
                    refine yG.iinc rfl (a := a6) rfl (L' := [(6, yI (a6 + 1)), (8, yI (z6)), (7, yI (z4)), (0, yR 2073), (1, yI (p1)), (2, yJ (p2)), (4, yI (a4)), (5, yI (a5))]) rfl ?_
                    refine yG.goto rfl (t := 39) rfl ?_
                    exact yG.mono (yG.sub (i_39 (a4) (a5) (a6 + 1)  hq A_hq  (by omega) (by omega) (by omega) (by omega) (by omega) (by omega) (by omega) (by omega) (by omega) (by omega) (by omega)) (ySub.cons rfl (ySub.cons rfl (ySub.cons rfl (ySub.cons rfl (ySub.cons rfl (ySub.cons rfl (ySub.nil)))))))) (by omega)
                  · have c11 : (z6 : Int) = a5 := c11
                    exact yG.mono (yG.sub (i_114 (a4) (a5) (a6)  hq A_hq  (by omega) (by omega) (by omega) (by omega) (by omega) (by omega) (by omega) (by omega) (by omega) (by omega) (by omega)) (ySub.cons rfl (ySub.cons rfl (ySub.cons rfl (ySub.cons rfl (ySub.cons rfl (ySub.cons rfl (ySub.nil)))))))) (by omega)
      · intro a4 a5 a6 hq A_hq f0 f1 f2 f3 f4 f5 f6 f7 f8 f9 hm
        refine yG.mono (N := 43 * m + 43) ?_ (by omega)
        refine yG.load xak rfl (fun _ _ => rfl) (v := yR 2073) rfl rfl ?_
        refine yG.load xik rfl (fun _ _ => rfl) (v := yI (a6)) rfl rfl ?_
        refine yG.load xlk2 rfl (fun _ _ => rfl) (v := yJ (p2)) rfl rfl ?_
        refine yG.invV (rest := []) A_hq.1 W.m.1 rfl rfl rfl rfl (a_giveOrder W (d + 1) A_hq.1 (a6) (p2) (by omega) (by omega) (by omega) (by omega)) (fun rv h2 q9 => ?_)
        obtain ⟨⟨z1, rfl, l_z1, u_z1⟩, B_h2⟩ := q9
        have A_h2 := A_hq.tr (B_h2.sub (by decide) (by decide))
        show yG _ _ _ _ _ _ _ _ _ _ (yI z1 :: []) _
        refine yG.store1 xik (L' := [(9, yI (z1)), (0, yR 2073), (1, yI (p1)), (2, yJ (p2)), (4, yI (a4)), (5, yI (a5)), (6, yI (a6))]) rfl (fun _ _ => rfl) rfl rfl ?_
        refine yG.iinc rfl (a := a6) rfl (L' := [(6, yI (a6 + 1)), (9, yI (z1)), (0, yR 2073), (1, yI (p1)), (2, yJ (p2)), (4, yI (a4)), (5, yI (a5))]) rfl ?_
        refine yG.goto rfl (t := 39) rfl ?_
        exact yG.mono (yG.sub (i_39 (a4) (a5) (a6 + 1)  h2 A_h2  (by omega) (by omega) (by omega) (by omega) (by omega) (by omega) (by omega) (by omega) (by omega) (by omega) (by omega)) (ySub.cons rfl (ySub.cons rfl (ySub.cons rfl (ySub.cons rfl (ySub.cons rfl (ySub.cons rfl (ySub.nil)))))))) (by omega)
  refine yC.of (M := (xt_X13_backUp, (10, (0, (14, []))))) rfl rfl (N := 3311) (yfuel (by decide)) ?_
  show yG 89 xfts (xcall 89 xfts xpools xms (d + 4)) (xpool xp_RX13) [] xt_X13_backUp (yP 0 (yQv G [40, 77] [2098, 2099, 2100, 2101, 2102, 2134, 2135, 2136] hp)) 3311 0 [(0, yR 2073), (1, yI (p1)), (2, yJ (p2))] [] hp
  obtain ⟨i_39, i_114⟩ := H 76
  refine yG.load xak rfl (fun _ _ => rfl) (v := yR 2073) rfl rfl ?_
  refine yG.invV (rest := []) A_hp.1 W.m.1 rfl rfl rfl rfl (a_asInRun W d A_hp.1) (fun rv h2 q9 => ?_)
  obtain ⟨rfl, B_h2⟩ := q9
  have A_h2 := A_hp.tr (B_h2.sub (by decide) (by decide))
  show yG _ _ _ _ _ _ _ _ _ _ [] _
  refine yG.load xak rfl (fun _ _ => rfl) (v := yR 2073) rfl rfl ?_
  refine yG.invV (rest := []) A_h2.1 W.m.1 rfl rfl rfl rfl (a_topology W (d + 1) A_h2.1) (fun rv h4 q9 => ?_)
  obtain ⟨rfl, B_h4⟩ := q9
  have A_h4 := A_h2.tr (B_h4.sub (by decide) (by decide))
  show yG _ _ _ _ _ _ _ _ _ _ [] _
  refine yG.load xak rfl (fun _ _ => rfl) (v := yR 2073) rfl rfl ?_
  refine yG.getR A_h4.1 (r_node W) rfl rfl ?_
  refine yG.load xak rfl (fun _ _ => rfl) (v := yR 2073) rfl rfl ?_
  refine yG.num (c := 1) rfl (fun _ _ => rfl) (by decide) ?_
  refine yG.load xik rfl (fun _ _ => rfl) (v := yI (p1)) rfl rfl ?_
  refine yG.num (c := 3) rfl (fun _ _ => rfl) (by decide) ?_
  refine yG.invV (rest := [yR 2100]) A_h4.1 W.m.1 rfl rfl rfl rfl (a_of_1_3 W (d + 2) A_h4.1 (p1) (by omega) (by omega)) (fun rv hp9 q9 => ?_)
  obtain ⟨⟨z5, rfl, l_z5, u_z5⟩, e9⟩ := q9
  rw [e9]
  show yG _ _ _ _ _ _ _ _ _ _ (yI z5 :: [yR 2100]) _
  refine yG.iald A_h4.1 (v_node W) rfl (by omega) (by omega) (fun z6 e_z6 i_z6 l_z6 u_z6 => ?_)
  refine yG.store1 xik (L' := [(4, yI (z6)), (0, yR 2073), (1, yI (p1)), (2, yJ (p2))]) rfl (fun _ _ => rfl) rfl rfl ?_
  refine yG.load xak rfl (fun _ _ => rfl) (v := yR 2073) rfl rfl ?_
  refine yG.getR A_h4.1 (r_node W) rfl rfl ?_
  refine yG.load xak rfl (fun _ _ => rfl) (v := yR 2073) rfl rfl ?_
  refine yG.num (c := 1) rfl (fun _ _ => rfl) (by decide) ?_
  refine yG.load xik rfl (fun _ _ => rfl) (v := yI (p1)) rfl rfl ?_
  refine yG.num (c := 4) rfl (fun _ _ => rfl) (by decide) ?_
  refine yG.invV (rest := [yR 2100]) A_h4.1 W.m.1 rfl rfl rfl rfl (a_of_1_4 W (d + 2) A_h4.1 (p1) (by omega) (by omega)) (fun rv hp9 q9 => ?_)
  obtain ⟨⟨z7, rfl, l_z7, u_z7⟩, e9⟩ := q9
  rw [e9]
  show yG _ _ _ _ _ _ _ _ _ _ (yI z7 :: [yR 2100]) _
  refine yG.iald A_h4.1 (v_node W) rfl (by omega) (by omega) (fun z8 e_z8 i_z8 l_z8 u_z8 => ?_)
  refine yG.store1 xik (L' := [(5, yI (z8)), (4, yI (z6)), (0, yR 2073), (1, yI (p1)), (2, yJ (p2))]) rfl (fun _ _ => rfl) rfl rfl ?_
  refine yG.num (c := 0) rfl (fun _ _ => rfl) (by decide) ?_
  refine yG.store1 xik (L' := [(6, yI (0)), (5, yI (z8)), (4, yI (z6)), (0, yR 2073), (1, yI (p1)), (2, yJ (p2))]) rfl (fun _ _ => rfl) rfl rfl ?_
  exact yG.mono (yG.sub (i_39 (z6) (z8) (0)  h4 A_h4  (by omega) (by omega) (by omega) (by omega) (by omega) (by omega) (by omega) (by omega) (by omega) (by omega) (by omega)) (ySub.cons rfl (ySub.cons rfl (ySub.cons rfl (ySub.cons rfl (ySub.cons rfl (ySub.cons rfl (ySub.nil)))))))) (by omega)
end YSimple
