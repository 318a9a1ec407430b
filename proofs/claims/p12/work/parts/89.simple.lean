/-! ===== the reference: plain methods, printed by a program ===== -/
section YSimple
variable {G : zW}
def yQin (hp : xH) (v lo hi : Int) : Option xA → xH → Prop := fun rv hp' => (∃ z, rv = some (yI z) ∧ 0 ≤ z ∧ z ≤ 1 ∧ ((z = 1 ∧ lo ≤ v ∧ v ≤ hi) ∨ (z = 0 ∧ (v < lo ∨ hi < v)))) ∧ hp' = hp
theorem a_in {hp : xH} (W : yWW G) (d : Nat) (hT : zTy G hp) (p0 p2 p4 : Int) (h0l : (-9223372036854775808) ≤ p0) (h0u : p0 ≤ 9223372036854775807) (h2l : (-9223372036854775808) ≤ p2) (h2u : p2 ≤ 9223372036854775807) (h4l : (-9223372036854775808) ≤ p4) (h4u : p4 ≤ 9223372036854775807) : yC (xcall 89 xfts xpools xms (d + 1)) 416 [yJ (p0), yJ (p2), yJ (p4)] hp (yQin hp p0 p2 p4) := by
  have A_hp : yAx G [] [] hp hp := yAx.rf hT
  refine yC.of (M := (xt_X13_in, (6, (4, (14, []))))) rfl rfl (N := 39) (yfuel (by decide)) ?_
  show yG 89 xfts (xcall 89 xfts xpools xms d) (xpool xp_RX13) [] xt_X13_in (yP 4 (yQin hp p0 p2 p4)) 39 0 [(0, yJ (p0)), (2, yJ (p2)), (4, yJ (p4))] [] hp
  refine yG.load xlk2 rfl (fun _ _ => rfl) (v := yJ (p0)) rfl rfl ?_
  refine yG.load xlk2 rfl (fun _ _ => rfl) (v := yJ (p2)) rfl rfl ?_
  refine yG.lcmp rfl ⟨by omega, by omega⟩ ⟨by omega, by omega⟩ (fun z1 e_z1 => ?_)
  refine yG.ifz rfl (t := 17) rfl ⟨by omega, by omega⟩ (fun c2 => ?_) (fun c2 => ?_)
  · have c2 : z1 < 0 := c2
    refine yG.num (c := 0) rfl (fun _ _ => rfl) (by decide) ?_
    refine yG.ret rfl (fun _ _ => rfl) ?_
    exact yP.bool (by omega) ⟨⟨0, rfl, by omega, by omega, by omega⟩, rfl⟩
  · have c2 : z1 ≥ 0 := c2
    refine yG.load xlk2 rfl (fun _ _ => rfl) (v := yJ (p0)) rfl rfl ?_
    refine yG.load xlk2 rfl (fun _ _ => rfl) (v := yJ (p4)) rfl rfl ?_
    refine yG.lcmp rfl ⟨by omega, by omega⟩ ⟨by omega, by omega⟩ (fun z3 e_z3 => ?_)
    refine yG.ifz rfl (t := 17) rfl ⟨by omega, by omega⟩ (fun c4 => ?_) (fun c4 => ?_)
    · have c4 : z3 > 0 := c4
      refine yG.num (c := 0) rfl (fun _ _ => rfl) (by decide) ?_
      refine yG.ret rfl (fun _ _ => rfl) ?_
      exact yP.bool (by omega) ⟨⟨0, rfl, by omega, by omega, by omega⟩, rfl⟩
    · have c4 : z3 ≤ 0 := c4
      refine yG.num (c := 1) rfl (fun _ _ => rfl) (by decide) ?_
      refine yG.goto rfl (t := 18) rfl ?_
      refine yG.ret rfl (fun _ _ => rfl) ?_
      exact yP.bool (by omega) ⟨⟨1, rfl, by omega, by omega, by omega⟩, rfl⟩
theorem a_f {hp : xH} (W : yWW G) (d : Nat) (hT : zTy G hp) (p0 p1 p2 : Int) (h0l : 0 ≤ p0) (h0u : p0 ≤ 4) (h1l : 0 ≤ p1) (h1u : p1 ≤ 23) (h2l : 0 ≤ p2) (h2u : p2 ≤ 10) : yC (xcall 89 xfts xpools xms (d + 1)) 395 [yI (p0), yI (p1), yI (p2)] hp (yQei hp (264 * p0 + 11 * p1 + p2)) := by
  have A_hp : yAx G [] [] hp hp := yAx.rf hT
  refine yC.of (M := (xt_X13_f, (3, (1, (14, []))))) rfl rfl (N := 36) (yfuel (by decide)) ?_
  show yG 89 xfts (xcall 89 xfts xpools xms d) (xpool xp_RX13) [] xt_X13_f (yP 1 (yQei hp (264 * p0 + 11 * p1 + p2))) 36 0 [(0, yI (p0)), (1, yI (p1)), (2, yI (p2))] [] hp
  refine yG.num (c := 264) rfl (fun _ _ => rfl) (by decide) ?_
  refine yG.load xik rfl (fun _ _ => rfl) (v := yI (p0)) rfl rfl ?_
  refine yG.imul rfl ?_
  refine yG.num (c := 11) rfl (fun _ _ => rfl) (by decide) ?_
  refine yG.load xik rfl (fun _ _ => rfl) (v := yI (p1)) rfl rfl ?_
  refine yG.imul rfl ?_
  refine yG.iadd rfl ?_
  refine yG.load xik rfl (fun _ _ => rfl) (v := yI (p2)) rfl rfl ?_
  refine yG.iadd rfl ?_
  refine yG.ret rfl (fun _ _ => rfl) ?_
  exact yP.int ⟨by omega, by omega⟩ ⟨congrArg (fun z => some (yI z)) (by omega), rfl⟩
theorem a_isLetter {hp : xH} (W : yWW G) (d : Nat) (hT : zTy G hp) (p0 : Int) (h0l : (-2147483648) ≤ p0) (h0u : p0 ≤ 2147483647) : yC (xcall 89 xfts xpools xms (d + 1)) 429 [yI (p0)] hp (yQpi hp 0 1) := by
  have A_hp : yAx G [] [] hp hp := yAx.rf hT
  refine yC.of (M := (xt_X13_isLetter, (1, (4, (14, []))))) rfl rfl (N := 33) (yfuel (by decide)) ?_
  show yG 89 xfts (xcall 89 xfts xpools xms d) (xpool xp_RX13) [] xt_X13_isLetter (yP 4 (yQpi hp 0 1)) 33 0 [(0, yI (p0))] [] hp
  refine yG.load xik rfl (fun _ _ => rfl) (v := yI (p0)) rfl rfl ?_
  refine yG.num (c := 97) rfl (fun _ _ => rfl) (by decide) ?_
  refine yG.icmp rfl (t := 16) rfl ⟨by omega, by omega⟩ ⟨by omega, by omega⟩ (fun c1 => ?_) (fun c1 => ?_)
  · have c1 : p0 < 97 := c1
    refine yG.num (c := 0) rfl (fun _ _ => rfl) (by decide) ?_
    refine yG.ret rfl (fun _ _ => rfl) ?_
    exact yP.bool (by omega) ⟨⟨0, rfl, by omega, by omega⟩, rfl⟩
  · have c1 : p0 ≥ 97 := c1
    refine yG.load xik rfl (fun _ _ => rfl) (v := yI (p0)) rfl rfl ?_
    refine yG.num (c := 122) rfl (fun _ _ => rfl) (by decide) ?_
    refine yG.icmp rfl (t := 16) rfl ⟨by omega, by omega⟩ ⟨by omega, by omega⟩ (fun c2 => ?_) (fun c2 => ?_)
    · have c2 : p0 > 122 := c2
      refine yG.num (c := 0) rfl (fun _ _ => rfl) (by decide) ?_
      refine yG.ret rfl (fun _ _ => rfl) ?_
      exact yP.bool (by omega) ⟨⟨0, rfl, by omega, by omega⟩, rfl⟩
    · have c2 : p0 ≤ 122 := c2
      refine yG.num (c := 1) rfl (fun _ _ => rfl) (by decide) ?_
      refine yG.goto rfl (t := 17) rfl ?_
      refine yG.ret rfl (fun _ _ => rfl) ?_
      exact yP.bool (by omega) ⟨⟨1, rfl, by omega, by omega⟩, rfl⟩
theorem a_isFigure {hp : xH} (W : yWW G) (d : Nat) (hT : zTy G hp) (p0 : Int) (h0l : (-2147483648) ≤ p0) (h0u : p0 ≤ 2147483647) : yC (xcall 89 xfts xpools xms (d + 1)) 427 [yI (p0)] hp (yQpi hp 0 1) := by
  have A_hp : yAx G [] [] hp hp := yAx.rf hT
  refine yC.of (M := (xt_X13_isFigure, (1, (4, (14, []))))) rfl rfl (N := 33) (yfuel (by decide)) ?_
  show yG 89 xfts (xcall 89 xfts xpools xms d) (xpool xp_RX13) [] xt_X13_isFigure (yP 4 (yQpi hp 0 1)) 33 0 [(0, yI (p0))] [] hp
  refine yG.load xik rfl (fun _ _ => rfl) (v := yI (p0)) rfl rfl ?_
  refine yG.num (c := 48) rfl (fun _ _ => rfl) (by decide) ?_
  refine yG.icmp rfl (t := 16) rfl ⟨by omega, by omega⟩ ⟨by omega, by omega⟩ (fun c1 => ?_) (fun c1 => ?_)
  · have c1 : p0 < 48 := c1
    refine yG.num (c := 0) rfl (fun _ _ => rfl) (by decide) ?_
    refine yG.ret rfl (fun _ _ => rfl) ?_
    exact yP.bool (by omega) ⟨⟨0, rfl, by omega, by omega⟩, rfl⟩
  · have c1 : p0 ≥ 48 := c1
    refine yG.load xik rfl (fun _ _ => rfl) (v := yI (p0)) rfl rfl ?_
    refine yG.num (c := 57) rfl (fun _ _ => rfl) (by decide) ?_
    refine yG.icmp rfl (t := 16) rfl ⟨by omega, by omega⟩ ⟨by omega, by omega⟩ (fun c2 => ?_) (fun c2 => ?_)
    · have c2 : p0 > 57 := c2
      refine yG.num (c := 0) rfl (fun _ _ => rfl) (by decide) ?_
      refine yG.ret rfl (fun _ _ => rfl) ?_
      exact yP.bool (by omega) ⟨⟨0, rfl, by omega, by omega⟩, rfl⟩
    · have c2 : p0 ≤ 57 := c2
      refine yG.num (c := 1) rfl (fun _ _ => rfl) (by decide) ?_
      refine yG.goto rfl (t := 17) rfl ?_
      refine yG.ret rfl (fun _ _ => rfl) ?_
      exact yP.bool (by omega) ⟨⟨1, rfl, by omega, by omega⟩, rfl⟩
theorem a_most {hp : xH} (W : yWW G) (d : Nat) (hT : zTy G hp) (p0 : Int) (h0l : (-2147483648) ≤ p0) (h0u : p0 ≤ 2147483647) : yC (xcall 89 xfts xpools xms (d + 1)) 458 [yI (p0)] hp (yQpi hp 6 24) := by
  have A_hp : yAx G [] [] hp hp := yAx.rf hT
  refine yC.of (M := (xt_X13_most, (1, (1, (14, []))))) rfl rfl (N := 48) (yfuel (by decide)) ?_
  show yG 89 xfts (xcall 89 xfts xpools xms d) (xpool xp_RX13) [] xt_X13_most (yP 1 (yQpi hp 6 24)) 48 0 [(0, yI (p0))] [] hp
  refine yG.load xik rfl (fun _ _ => rfl) (v := yI (p0)) rfl rfl ?_
  refine yG.ifz rfl (t := 9) rfl ⟨by omega, by omega⟩ (fun c1 => ?_) (fun c1 => ?_)
  · have c1 : p0 ≠ 0 := c1
    refine yG.load xik rfl (fun _ _ => rfl) (v := yI (p0)) rfl rfl ?_
    refine yG.num (c := 1) rfl (fun _ _ => rfl) (by decide) ?_
    refine yG.icmp rfl (t := 19) rfl ⟨by omega, by omega⟩ ⟨by omega, by omega⟩ (fun c2 => ?_) (fun c2 => ?_)
    · have c2 : p0 ≠ 1 := c2
      refine yG.load xik rfl (fun _ _ => rfl) (v := yI (p0)) rfl rfl ?_
      refine yG.num (c := 2) rfl (fun _ _ => rfl) (by decide) ?_
      refine yG.icmp rfl (t := 29) rfl ⟨by omega, by omega⟩ ⟨by omega, by omega⟩ (fun c3 => ?_) (fun c3 => ?_)
      · have c3 : p0 ≠ 2 := c3
        refine yG.load xik rfl (fun _ _ => rfl) (v := yI (p0)) rfl rfl ?_
        refine yG.num (c := 3) rfl (fun _ _ => rfl) (by decide) ?_
        refine yG.icmp rfl (t := 39) rfl ⟨by omega, by omega⟩ ⟨by omega, by omega⟩ (fun c4 => ?_) (fun c4 => ?_)
        · have c4 : p0 ≠ 3 := c4
          refine yG.num (c := 12) rfl (fun _ _ => rfl) (by decide) ?_
          refine yG.ret rfl (fun _ _ => rfl) ?_
          exact yP.int ⟨by omega, by omega⟩ ⟨⟨12, rfl, by omega, by omega⟩, rfl⟩
        · have c4 : p0 = 3 := c4
          refine yG.num (c := 6) rfl (fun _ _ => rfl) (by decide) ?_
          refine yG.goto rfl (t := 41) rfl ?_
          refine yG.ret rfl (fun _ _ => rfl) ?_
          exact yP.int ⟨by omega, by omega⟩ ⟨⟨6, rfl, by omega, by omega⟩, rfl⟩
      · have c3 : p0 = 2 := c3
        refine yG.num (c := 20) rfl (fun _ _ => rfl) (by decide) ?_
        refine yG.goto rfl (t := 41) rfl ?_
        refine yG.ret rfl (fun _ _ => rfl) ?_
        exact yP.int ⟨by omega, by omega⟩ ⟨⟨20, rfl, by omega, by omega⟩, rfl⟩
    · have c2 : p0 = 1 := c2
      refine yG.num (c := 24) rfl (fun _ _ => rfl) (by decide) ?_
      refine yG.goto rfl (t := 41) rfl ?_
      refine yG.ret rfl (fun _ _ => rfl) ?_
      exact yP.int ⟨by omega, by omega⟩ ⟨⟨24, rfl, by omega, by omega⟩, rfl⟩
  · have c1 : p0 = 0 := c1
    refine yG.num (c := 16) rfl (fun _ _ => rfl) (by decide) ?_
    refine yG.goto rfl (t := 41) rfl ?_
    refine yG.ret rfl (fun _ _ => rfl) ?_
    exact yP.int ⟨by omega, by omega⟩ ⟨⟨16, rfl, by omega, by omega⟩, rfl⟩
theorem a_fields {hp : xH} (W : yWW G) (d : Nat) (hT : zTy G hp) (p0 : Int) (h0l : (-2147483648) ≤ p0) (h0u : p0 ≤ 2147483647) : yC (xcall 89 xfts xpools xms (d + 1)) 399 [yI (p0)] hp (yQpi hp 1 11) := by
  have A_hp : yAx G [] [] hp hp := yAx.rf hT
  refine yC.of (M := (xt_X13_fields, (1, (1, (14, []))))) rfl rfl (N := 48) (yfuel (by decide)) ?_
  show yG 89 xfts (xcall 89 xfts xpools xms d) (xpool xp_RX13) [] xt_X13_fields (yP 1 (yQpi hp 1 11)) 48 0 [(0, yI (p0))] [] hp
  refine yG.load xik rfl (fun _ _ => rfl) (v := yI (p0)) rfl rfl ?_
  refine yG.ifz rfl (t := 8) rfl ⟨by omega, by omega⟩ (fun c1 => ?_) (fun c1 => ?_)
  · have c1 : p0 ≠ 0 := c1
    refine yG.load xik rfl (fun _ _ => rfl) (v := yI (p0)) rfl rfl ?_
    refine yG.num (c := 1) rfl (fun _ _ => rfl) (by decide) ?_
    refine yG.icmp rfl (t := 17) rfl ⟨by omega, by omega⟩ ⟨by omega, by omega⟩ (fun c2 => ?_) (fun c2 => ?_)
    · have c2 : p0 ≠ 1 := c2
      refine yG.load xik rfl (fun _ _ => rfl) (v := yI (p0)) rfl rfl ?_
      refine yG.num (c := 2) rfl (fun _ _ => rfl) (by decide) ?_
      refine yG.icmp rfl (t := 27) rfl ⟨by omega, by omega⟩ ⟨by omega, by omega⟩ (fun c3 => ?_) (fun c3 => ?_)
      · have c3 : p0 ≠ 2 := c3
        refine yG.load xik rfl (fun _ _ => rfl) (v := yI (p0)) rfl rfl ?_
        refine yG.num (c := 3) rfl (fun _ _ => rfl) (by decide) ?_
        refine yG.icmp rfl (t := 37) rfl ⟨by omega, by omega⟩ ⟨by omega, by omega⟩ (fun c4 => ?_) (fun c4 => ?_)
        · have c4 : p0 ≠ 3 := c4
          refine yG.num (c := 2) rfl (fun _ _ => rfl) (by decide) ?_
          refine yG.ret rfl (fun _ _ => rfl) ?_
          exact yP.int ⟨by omega, by omega⟩ ⟨⟨2, rfl, by omega, by omega⟩, rfl⟩
        · have c4 : p0 = 3 := c4
          refine yG.num (c := 11) rfl (fun _ _ => rfl) (by decide) ?_
          refine yG.goto rfl (t := 38) rfl ?_
          refine yG.ret rfl (fun _ _ => rfl) ?_
          exact yP.int ⟨by omega, by omega⟩ ⟨⟨11, rfl, by omega, by omega⟩, rfl⟩
      · have c3 : p0 = 2 := c3
        refine yG.num (c := 6) rfl (fun _ _ => rfl) (by decide) ?_
        refine yG.goto rfl (t := 38) rfl ?_
        refine yG.ret rfl (fun _ _ => rfl) ?_
        exact yP.int ⟨by omega, by omega⟩ ⟨⟨6, rfl, by omega, by omega⟩, rfl⟩
    · have c2 : p0 = 1 := c2
      refine yG.num (c := 5) rfl (fun _ _ => rfl) (by decide) ?_
      refine yG.goto rfl (t := 38) rfl ?_
      refine yG.ret rfl (fun _ _ => rfl) ?_
      exact yP.int ⟨by omega, by omega⟩ ⟨⟨5, rfl, by omega, by omega⟩, rfl⟩
  · have c1 : p0 = 0 := c1
    refine yG.num (c := 1) rfl (fun _ _ => rfl) (by decide) ?_
    refine yG.goto rfl (t := 38) rfl ?_
    refine yG.ret rfl (fun _ _ => rfl) ?_
    exact yP.int ⟨by omega, by omega⟩ ⟨⟨1, rfl, by omega, by omega⟩, rfl⟩
theorem a_isOfBar {hp : xH} (W : yWW G) (d : Nat) (hT : zTy G hp) (p0 : Int) (h0l : (-2147483648) ≤ p0) (h0u : p0 ≤ 2147483647) : yC (xcall 89 xfts xpools xms (d + 1)) 434 [yI (p0)] hp (yQpi hp 0 1) := by
  have A_hp : yAx G [] [] hp hp := yAx.rf hT
  refine yC.of (M := (xt_X13_isOfBar, (1, (4, (14, []))))) rfl rfl (N := 33) (yfuel (by decide)) ?_
  show yG 89 xfts (xcall 89 xfts xpools xms d) (xpool xp_RX13) [] xt_X13_isOfBar (yP 4 (yQpi hp 0 1)) 33 0 [(0, yI (p0))] [] hp
  refine yG.load xik rfl (fun _ _ => rfl) (v := yI (p0)) rfl rfl ?_
  refine yG.num (c := 2) rfl (fun _ _ => rfl) (by decide) ?_
  refine yG.icmp rfl (t := 10) rfl ⟨by omega, by omega⟩ ⟨by omega, by omega⟩ (fun c1 => ?_) (fun c1 => ?_)
  · have c1 : p0 = 2 := c1
    refine yG.num (c := 1) rfl (fun _ _ => rfl) (by decide) ?_
    refine yG.goto rfl (t := 15) rfl ?_
    refine yG.ret rfl (fun _ _ => rfl) ?_
    exact yP.bool (by omega) ⟨⟨1, rfl, by omega, by omega⟩, rfl⟩
  · have c1 : p0 ≠ 2 := c1
    refine yG.load xik rfl (fun _ _ => rfl) (v := yI (p0)) rfl rfl ?_
    refine yG.num (c := 3) rfl (fun _ _ => rfl) (by decide) ?_
    refine yG.icmp rfl (t := 14) rfl ⟨by omega, by omega⟩ ⟨by omega, by omega⟩ (fun c2 => ?_) (fun c2 => ?_)
    · have c2 : p0 ≠ 3 := c2
      refine yG.num (c := 0) rfl (fun _ _ => rfl) (by decide) ?_
      refine yG.ret rfl (fun _ _ => rfl) ?_
      exact yP.bool (by omega) ⟨⟨0, rfl, by omega, by omega⟩, rfl⟩
    · have c2 : p0 = 3 := c2
      refine yG.num (c := 1) rfl (fun _ _ => rfl) (by decide) ?_
      refine yG.goto rfl (t := 15) rfl ?_
      refine yG.ret rfl (fun _ _ => rfl) ?_
      exact yP.bool (by omega) ⟨⟨1, rfl, by omega, by omega⟩, rfl⟩
theorem a_valueOf {hp : xH} (W : yWW G) (d : Nat) (hT : zTy G hp) (p0 : Int) (h0l : (-2147483648) ≤ p0) (h0u : p0 ≤ 2147483647) : yC (xcall 89 xfts xpools xms (d + 1)) 538 [yI (p0)] hp (yQpi hp 0 1) := by
  have A_hp : yAx G [] [] hp hp := yAx.rf hT
  refine yC.of (M := (xt_X13_valueOf, (1, (1, (14, []))))) rfl rfl (N := 42) (yfuel (by decide)) ?_
  show yG 89 xfts (xcall 89 xfts xpools xms d) (xpool xp_RX13) [] xt_X13_valueOf (yP 1 (yQpi hp 0 1)) 42 0 [(0, yI (p0))] [] hp
  refine yG.load xik rfl (fun _ _ => rfl) (v := yI (p0)) rfl rfl ?_
  refine yG.num (c := 1) rfl (fun _ _ => rfl) (by decide) ?_
  refine yG.icmp rfl (t := 15) rfl ⟨by omega, by omega⟩ ⟨by omega, by omega⟩ (fun c1 => ?_) (fun c1 => ?_)
  · have c1 : p0 = 1 := c1
    refine yG.num (c := 1) rfl (fun _ _ => rfl) (by decide) ?_
    refine yG.goto rfl (t := 20) rfl ?_
    refine yG.ret rfl (fun _ _ => rfl) ?_
    exact yP.int ⟨by omega, by omega⟩ ⟨⟨1, rfl, by omega, by omega⟩, rfl⟩
  · have c1 : p0 ≠ 1 := c1
    refine yG.load xik rfl (fun _ _ => rfl) (v := yI (p0)) rfl rfl ?_
    refine yG.num (c := 2) rfl (fun _ _ => rfl) (by decide) ?_
    refine yG.icmp rfl (t := 15) rfl ⟨by omega, by omega⟩ ⟨by omega, by omega⟩ (fun c2 => ?_) (fun c2 => ?_)
    · have c2 : p0 = 2 := c2
      refine yG.num (c := 1) rfl (fun _ _ => rfl) (by decide) ?_
      refine yG.goto rfl (t := 20) rfl ?_
      refine yG.ret rfl (fun _ _ => rfl) ?_
      exact yP.int ⟨by omega, by omega⟩ ⟨⟨1, rfl, by omega, by omega⟩, rfl⟩
    · have c2 : p0 ≠ 2 := c2
      refine yG.load xik rfl (fun _ _ => rfl) (v := yI (p0)) rfl rfl ?_
      refine yG.num (c := 4) rfl (fun _ _ => rfl) (by decide) ?_
      refine yG.icmp rfl (t := 19) rfl ⟨by omega, by omega⟩ ⟨by omega, by omega⟩ (fun c3 => ?_) (fun c3 => ?_)
      · have c3 : p0 ≠ 4 := c3
        refine yG.num (c := 0) rfl (fun _ _ => rfl) (by decide) ?_
        refine yG.ret rfl (fun _ _ => rfl) ?_
        exact yP.int ⟨by omega, by omega⟩ ⟨⟨0, rfl, by omega, by omega⟩, rfl⟩
      · have c3 : p0 = 4 := c3
        refine yG.num (c := 1) rfl (fun _ _ => rfl) (by decide) ?_
        refine yG.goto rfl (t := 20) rfl ?_
        refine yG.ret rfl (fun _ _ => rfl) ?_
        exact yP.int ⟨by omega, by omega⟩ ⟨⟨1, rfl, by omega, by omega⟩, rfl⟩
theorem a_cellOf {hp : xH} (W : yWW G) (d : Nat) (hT : zTy G hp) (p0 p1 p2 : Int) (h0l : 0 ≤ p0) (h0u : p0 ≤ 5) (h1l : 0 ≤ p1) (h1u : p1 ≤ 63) (h2l : 0 ≤ p2) (h2u : p2 ≤ 6) : yC (xcall 89 xfts xpools xms (d + 1)) 366 [yI (p0), yI (p1), yI (p2)] hp (yQei hp (448 * p0 + 7 * p1 + p2 + 264)) := by
  have A_hp : yAx G [] [] hp hp := yAx.rf hT
  refine yC.of (M := (xt_X13_cellOf, (3, (1, (14, []))))) rfl rfl (N := 42) (yfuel (by decide)) ?_
  show yG 89 xfts (xcall 89 xfts xpools xms d) (xpool xp_RX13) [] xt_X13_cellOf (yP 1 (yQei hp (448 * p0 + 7 * p1 + p2 + 264))) 42 0 [(0, yI (p0)), (1, yI (p1)), (2, yI (p2))] [] hp
  refine yG.num (c := 264) rfl (fun _ _ => rfl) (by decide) ?_
  refine yG.load xik rfl (fun _ _ => rfl) (v := yI (p0)) rfl rfl ?_
  refine yG.num (c := 64) rfl (fun _ _ => rfl) (by decide) ?_
  refine yG.imul rfl ?_
  refine yG.load xik rfl (fun _ _ => rfl) (v := yI (p1)) rfl rfl ?_
  refine yG.iadd rfl ?_
  refine yG.num (c := 7) rfl (fun _ _ => rfl) (by decide) ?_
  refine yG.imul rfl ?_
  refine yG.iadd rfl ?_
  refine yG.load xik rfl (fun _ _ => rfl) (v := yI (p2)) rfl rfl ?_
  refine yG.iadd rfl ?_
  refine yG.ret rfl (fun _ _ => rfl) ?_
  exact yP.int ⟨by omega, by omega⟩ ⟨congrArg (fun z => some (yI z)) (by omega), rfl⟩
theorem a_aimOf {hp : xH} (W : yWW G) (d : Nat) (hT : zTy G hp) (p0 p1 p2 : Int) (h0l : 0 ≤ p0) (h0u : p0 ≤ 5) (h1l : 0 ≤ p1) (h1u : p1 ≤ 6) (h2l : 0 ≤ p2) (h2u : p2 ≤ 5) : yC (xcall 89 xfts xpools xms (d + 1)) 348 [yI (p0), yI (p1), yI (p2)] hp (yQei hp (42 * p0 + 6 * p1 + p2 + 2952)) := by
  have A_hp : yAx G [] [] hp hp := yAx.rf hT
  refine yC.of (M := (xt_X13_aimOf, (3, (1, (14, []))))) rfl rfl (N := 42) (yfuel (by decide)) ?_
  show yG 89 xfts (xcall 89 xfts xpools xms d) (xpool xp_RX13) [] xt_X13_aimOf (yP 1 (yQei hp (42 * p0 + 6 * p1 + p2 + 2952))) 42 0 [(0, yI (p0)), (1, yI (p1)), (2, yI (p2))] [] hp
  refine yG.num (c := 2952) rfl (fun _ _ => rfl) (by decide) ?_
  refine yG.load xik rfl (fun _ _ => rfl) (v := yI (p0)) rfl rfl ?_
  refine yG.num (c := 7) rfl (fun _ _ => rfl) (by decide) ?_
  refine yG.imul rfl ?_
  refine yG.load xik rfl (fun _ _ => rfl) (v := yI (p1)) rfl rfl ?_
  refine yG.iadd rfl ?_
  refine yG.num (c := 6) rfl (fun _ _ => rfl) (by decide) ?_
  refine yG.imul rfl ?_
  refine yG.iadd rfl ?_
  refine yG.load xik rfl (fun _ _ => rfl) (v := yI (p2)) rfl rfl ?_
  refine yG.iadd rfl ?_
  refine yG.ret rfl (fun _ _ => rfl) ?_
  exact yP.int ⟨by omega, by omega⟩ ⟨congrArg (fun z => some (yI z)) (by omega), rfl⟩
theorem a_pointOf {hp : xH} (W : yWW G) (d : Nat) (hT : zTy G hp) (p0 p1 : Int) (h0l : 0 ≤ p0) (h0u : p0 ≤ 5) (h1l : 0 ≤ p1) (h1u : p1 ≤ 7) : yC (xcall 89 xfts xpools xms (d + 1)) 482 [yI (p0), yI (p1)] hp (yQei hp (8 * p0 + p1 + 3204)) := by
  have A_hp : yAx G [] [] hp hp := yAx.rf hT
  refine yC.of (M := (xt_X13_pointOf, (2, (1, (14, []))))) rfl rfl (N := 30) (yfuel (by decide)) ?_
  show yG 89 xfts (xcall 89 xfts xpools xms d) (xpool xp_RX13) [] xt_X13_pointOf (yP 1 (yQei hp (8 * p0 + p1 + 3204))) 30 0 [(0, yI (p0)), (1, yI (p1))] [] hp
  refine yG.num (c := 3204) rfl (fun _ _ => rfl) (by decide) ?_
  refine yG.load xik rfl (fun _ _ => rfl) (v := yI (p0)) rfl rfl ?_
  refine yG.num (c := 8) rfl (fun _ _ => rfl) (by decide) ?_
  refine yG.imul rfl ?_
  refine yG.iadd rfl ?_
  refine yG.load xik rfl (fun _ _ => rfl) (v := yI (p1)) rfl rfl ?_
  refine yG.iadd rfl ?_
  refine yG.ret rfl (fun _ _ => rfl) ?_
  exact yP.int ⟨by omega, by omega⟩ ⟨congrArg (fun z => some (yI z)) (by omega), rfl⟩
theorem a_changed {hp : xH} (W : yWW G) (d : Nat) (hT : zTy G hp) : yC (xcall 89 xfts xpools xms (d + 1)) 367 [yR 2073] hp (yQv G [40, 49, 62, 77, 90, 101] [] hp) := by
  have A_hp : yAx G [40, 49, 62, 77, 90, 101] [] hp hp := yAx.rf hT
  refine yC.of (M := (xt_X13_changed, (1, (0, (14, []))))) rfl rfl (N := 63) (yfuel (by decide)) ?_
  show yG 89 xfts (xcall 89 xfts xpools xms d) (xpool xp_RX13) [] xt_X13_changed (yP 0 (yQv G [40, 49, 62, 77, 90, 101] [] hp)) 63 0 [(0, yR 2073)] [] hp
  refine yG.load xak rfl (fun _ _ => rfl) (v := yR 2073) rfl rfl ?_
  refine yG.num (c := 0) rfl (fun _ _ => rfl) (by decide) ?_
  refine yG.putI A_hp.1 (w_hasRun W) (by decide) rfl rfl (.inr ⟨rfl, rfl, rfl⟩) ⟨by omega, by omega⟩ (by omega) (by omega) (fun h1 T_h1 b_h1 f_h1 y_h1 => ?_)
  have A_h1 := A_hp.putF T_h1 b_h1 f_h1 (by decide)
  have g90_h1 : ys h1 2073 90 = 0 := (y_h1 2073 90).trans (if_pos ⟨rfl, rfl⟩)
  refine yG.load xak rfl (fun _ _ => rfl) (v := yR 2073) rfl rfl ?_
  refine yG.num (c := 0) rfl (fun _ _ => rfl) (by decide) ?_
  refine yG.putI A_h1.1 (w_hasFlows W) (by decide) rfl rfl (.inr ⟨rfl, rfl, rfl⟩) ⟨by omega, by omega⟩ (by omega) (by omega) (fun h2 T_h2 b_h2 f_h2 y_h2 => ?_)
  have A_h2 := A_h1.putF T_h2 b_h2 f_h2 (by decide)
  have g90_h2 : ys h2 2073 90 = ys h1 2073 90 := (y_h2 2073 90).trans (if_neg (by omega))
  have g40_h2 : ys h2 2073 40 = 0 := (y_h2 2073 40).trans (if_pos ⟨rfl, rfl⟩)
  refine yG.load xak rfl (fun _ _ => rfl) (v := yR 2073) rfl rfl ?_
  refine yG.num (c := 0) rfl (fun _ _ => rfl) (by decide) ?_
  refine yG.putI A_h2.1 (w_hasTroubles W) (by decide) rfl rfl (.inr ⟨rfl, rfl, rfl⟩) ⟨by omega, by omega⟩ (by omega) (by omega) (fun h3 T_h3 b_h3 f_h3 y_h3 => ?_)
  have A_h3 := A_h2.putF T_h3 b_h3 f_h3 (by decide)
  have g90_h3 : ys h3 2073 90 = ys h2 2073 90 := (y_h3 2073 90).trans (if_neg (by omega))
  have g40_h3 : ys h3 2073 40 = ys h2 2073 40 := (y_h3 2073 40).trans (if_neg (by omega))
  have g49_h3 : ys h3 2073 49 = 0 := (y_h3 2073 49).trans (if_pos ⟨rfl, rfl⟩)
  refine yG.load xak rfl (fun _ _ => rfl) (v := yR 2073) rfl rfl ?_
  refine yG.num (c := 0) rfl (fun _ _ => rfl) (by decide) ?_
  refine yG.putI A_h3.1 (w_hasEstimates W) (by decide) rfl rfl (.inr ⟨rfl, rfl, rfl⟩) ⟨by omega, by omega⟩ (by omega) (by omega) (fun h4 T_h4 b_h4 f_h4 y_h4 => ?_)
  have A_h4 := A_h3.putF T_h4 b_h4 f_h4 (by decide)
  have g90_h4 : ys h4 2073 90 = ys h3 2073 90 := (y_h4 2073 90).trans (if_neg (by omega))
  have g40_h4 : ys h4 2073 40 = ys h3 2073 40 := (y_h4 2073 40).trans (if_neg (by omega))
  have g49_h4 : ys h4 2073 49 = ys h3 2073 49 := (y_h4 2073 49).trans (if_neg (by omega))
  have g62_h4 : ys h4 2073 62 = 0 := (y_h4 2073 62).trans (if_pos ⟨rfl, rfl⟩)
  refine yG.load xak rfl (fun _ _ => rfl) (v := yR 2073) rfl rfl ?_
  refine yG.num (c := 0) rfl (fun _ _ => rfl) (by decide) ?_
  refine yG.putI A_h4.1 (w_hasNetShort W) (by decide) rfl rfl (.inr ⟨rfl, rfl, rfl⟩) ⟨by omega, by omega⟩ (by omega) (by omega) (fun h5 T_h5 b_h5 f_h5 y_h5 => ?_)
  have A_h5 := A_h4.putF T_h5 b_h5 f_h5 (by decide)
  have g90_h5 : ys h5 2073 90 = ys h4 2073 90 := (y_h5 2073 90).trans (if_neg (by omega))
  have g40_h5 : ys h5 2073 40 = ys h4 2073 40 := (y_h5 2073 40).trans (if_neg (by omega))
  have g49_h5 : ys h5 2073 49 = ys h4 2073 49 := (y_h5 2073 49).trans (if_neg (by omega))
  have g62_h5 : ys h5 2073 62 = ys h4 2073 62 := (y_h5 2073 62).trans (if_neg (by omega))
  have g77_h5 : ys h5 2073 77 = 0 := (y_h5 2073 77).trans (if_pos ⟨rfl, rfl⟩)
  refine yG.load xak rfl (fun _ _ => rfl) (v := yR 2073) rfl rfl ?_
  refine yG.num (c := 0) rfl (fun _ _ => rfl) (by decide) ?_
  refine yG.putI A_h5.1 (w_hasDispatch W) (by decide) rfl rfl (.inl rfl) ⟨by omega, by omega⟩ (by omega) (by omega) (fun h6 T_h6 b_h6 f_h6 y_h6 => ?_)
  have A_h6 := A_h5.putF T_h6 b_h6 f_h6 (by decide)
  have g90_h6 : ys h6 2073 90 = ys h5 2073 90 := (y_h6 2073 90).trans (if_neg (by omega))
  have g40_h6 : ys h6 2073 40 = ys h5 2073 40 := (y_h6 2073 40).trans (if_neg (by omega))
  have g49_h6 : ys h6 2073 49 = ys h5 2073 49 := (y_h6 2073 49).trans (if_neg (by omega))
  have g62_h6 : ys h6 2073 62 = ys h5 2073 62 := (y_h6 2073 62).trans (if_neg (by omega))
  have g77_h6 : ys h6 2073 77 = ys h5 2073 77 := (y_h6 2073 77).trans (if_neg (by omega))
  have g101_h6 : ys h6 2073 101 = 0 := (y_h6 2073 101).trans (if_pos ⟨rfl, rfl⟩)
  refine yG.ret rfl (fun _ _ => rfl) ?_
  exact yP.void ⟨rfl, A_h6⟩
theorem a_thrown {hp : xH} (W : yWW G) (d : Nat) (hT : zTy G hp) : yC (xcall 89 xfts xpools xms (d + 1)) 530 [yR 2073] hp (yQpi hp 0 3) := by
  have A_hp : yAx G [] [] hp hp := yAx.rf hT
  refine yC.of (M := (xt_X13_thrown, (1, (1, (14, []))))) rfl rfl (N := 15) (yfuel (by decide)) ?_
  show yG 89 xfts (xcall 89 xfts xpools xms d) (xpool xp_RX13) [] xt_X13_thrown (yP 1 (yQpi hp 0 3)) 15 0 [(0, yR 2073)] [] hp
  refine yG.load xak rfl (fun _ _ => rfl) (v := yR 2073) rfl rfl ?_
  refine yG.getI A_hp.1 (w_thrown W) rfl rfl (fun z1 e_z1 i_z1 l_z1 u_z1 => ?_)
  refine yG.ret rfl (fun _ _ => rfl) ?_
  exact yP.int ⟨by omega, by omega⟩ ⟨⟨z1, rfl, by omega, by omega⟩, rfl⟩
theorem a_clearMatrix {hp : xH} (W : yWW G) (d : Nat) (hT : zTy G hp) (p1 p2 : Int) (h1l : 0 ≤ p1) (h1u : p1 ≤ 20) (h2l : 0 ≤ p2) (h2u : p2 ≤ 48) : yC (xcall 89 xfts xpools xms (d + 1)) 369 [yR 2073, yI (p1), yI (p2)] hp (yQv G [] [2083] hp) := by
  have A_hp : yAx G [] [2083] hp hp := yAx.rf hT
  have H : ∀ m : Nat, (∀ a3 : Int, ∀ hq, yAx G [] [2083] hp hq → 0 ≤ a3 → (-20) ≤ 0 - a3 → 0 ≤ 0 - a3 + p1 → 0 - 99 * a3 + 2078 < (m : Int) → yG 89 xfts (xcall 89 xfts xpools xms d) (xpool xp_RX13) [] xt_X13_clearMatrix (yP 0 (yQv G [] [2083] hp)) (16 * m) 2 [(0, yR 2073), (1, yI (p1)), (2, yI (p2)), (3, yI (a3))] [] hq) ∧ (∀ a3 a4 : Int, ∀ hq, yAx G [] [2083] hp hq → 0 ≤ a3 → (-19) ≤ 0 - a3 → 0 ≤ a4 → (-48) ≤ 0 - a4 → 1 ≤ 0 - a3 + p1 → 0 ≤ 0 - a4 + p2 → 0 - 99 * a3 - 2 * a4 + 2077 < (m : Int) → yG 89 xfts (xcall 89 xfts xpools xms d) (xpool xp_RX13) [] xt_X13_clearMatrix (yP 0 (yQv G [] [2083] hp)) (16 * m) 10 [(0, yR 2073), (1, yI (p1)), (2, yI (p2)), (3, yI (a3)), (4, yI (a4))] [] hq) := by
    intro m
    induction m with
    | zero =>
      refine ⟨?_, ?_⟩ <;> (intros; exfalso; omega)
    | succ m ih =>
      obtain ⟨i_2, i_10⟩ := ih
      refine ⟨?_, ?_⟩
      · intro a3 hq A_hq f0 f1 f2 hm
        refine yG.mono (N := 16 * m + 16) ?_ (by omega)
        refine yG.load xik rfl (fun _ _ => rfl) (v := yI (a3)) rfl rfl ?_
        refine yG.load xik rfl (fun _ _ => rfl) (v := yI (p1)) rfl rfl ?_
        refine yG.icmp rfl (t := 41) rfl ⟨by omega, by omega⟩ ⟨by omega, by omega⟩ (fun c1 => ?_) (fun c1 => ?_)
        · have c1 : a3 ≥ p1 := c1
          refine yG.ret rfl (fun _ _ => rfl) ?_
          exact yP.void ⟨rfl, A_hq⟩
        · have c1 : a3 < p1 := c1
          refine yG.num (c := 0) rfl (fun _ _ => rfl) (by decide) ?_
          refine yG.store1 xik (L' := [(4, yI (0)), (0, yR 2073), (1, yI (p1)), (2, yI (p2)), (3, yI (a3))]) rfl (fun _ _ => rfl) rfl rfl ?_
          exact yG.mono (yG.sub (i_10 (a3) (0)  hq A_hq  (by omega) (by omega) (by omega) (by omega) (by omega) (by omega) (by omega)) (ySub.cons rfl (ySub.cons rfl (ySub.cons rfl (ySub.cons rfl (ySub.cons rfl (ySub.nil))))))) (by omega)
      · intro a3 a4 hq A_hq f0 f1 f2 f3 f4 f5 hm
        refine yG.mono (N := 16 * m + 16) ?_ (by omega)
        refine yG.load xik rfl (fun _ _ => rfl) (v := yI (a4)) rfl rfl ?_
        refine yG.load xik rfl (fun _ _ => rfl) (v := yI (p2)) rfl rfl ?_
        refine yG.icmp rfl (t := 35) rfl ⟨by omega, by omega⟩ ⟨by omega, by omega⟩ (fun c1 => ?_) (fun c1 => ?_)
        · have c1 : a4 ≥ p2 := c1
          refine yG.iinc rfl (a := a3) rfl (L' := [(3, yI (a3 + 1)), (0, yR 2073), (1, yI (p1)), (2, yI (p2)), (4, yI (a4))]) rfl ?_
          refine yG.goto rfl (t := 2) rfl ?_
          exact yG.mono (yG.sub (i_2 (a3 + 1)  hq A_hq  (by omega) (by omega) (by omega) (by omega)) (ySub.cons rfl (ySub.cons rfl (ySub.cons rfl (ySub.cons rfl (ySub.nil)))))) (by omega)
        · have c1 : a4 < p2 := c1
          refine yG.load xak rfl (fun _ _ => rfl) (v := yR 2073) rfl rfl ?_
          refine yG.getR A_hq.1 (r_matrix W) rfl rfl ?_
          refine yG.num (c := 48) rfl (fun _ _ => rfl) (by decide) ?_
          refine yG.load xik rfl (fun _ _ => rfl) (v := yI (a3)) rfl rfl ?_
          refine yG.imul rfl ?_
          refine yG.load xik rfl (fun _ _ => rfl) (v := yI (a4)) rfl rfl ?_
          refine yG.iadd rfl ?_
          refine yG.numl (c := 0) rfl (fun _ _ => rfl) (by decide) ?_
          refine yG.last A_hq.1 (v_matrix W) (by decide) rfl (by omega) (by omega) ⟨by omega, by omega⟩ (by omega) (by omega) (fun h2 T_h2 b_h2 f_h2 y_h2 => ?_)
          have A_h2 := A_hq.putA T_h2 b_h2 f_h2 (by decide)
          refine yG.iinc rfl (a := a4) rfl (L' := [(4, yI (a4 + 1)), (0, yR 2073), (1, yI (p1)), (2, yI (p2)), (3, yI (a3))]) rfl ?_
          refine yG.goto rfl (t := 10) rfl ?_
          exact yG.mono (yG.sub (i_10 (a3) (a4 + 1)  h2 A_h2  (by omega) (by omega) (by omega) (by omega) (by omega) (by omega) (by omega)) (ySub.cons rfl (ySub.cons rfl (ySub.cons rfl (ySub.cons rfl (ySub.cons rfl (ySub.nil))))))) (by omega)
  refine yC.of (M := (xt_X13_clearMatrix, (5, (0, (14, []))))) rfl rfl (N := 33296) (yfuel (by decide)) ?_
  show yG 89 xfts (xcall 89 xfts xpools xms d) (xpool xp_RX13) [] xt_X13_clearMatrix (yP 0 (yQv G [] [2083] hp)) 33296 0 [(0, yR 2073), (1, yI (p1)), (2, yI (p2))] [] hp
  obtain ⟨i_2, i_10⟩ := H 2080
  refine yG.num (c := 0) rfl (fun _ _ => rfl) (by decide) ?_
  refine yG.store1 xik (L' := [(3, yI (0)), (0, yR 2073), (1, yI (p1)), (2, yI (p2))]) rfl (fun _ _ => rfl) rfl rfl ?_
  exact yG.mono (yG.sub (i_2 (0)  hp A_hp  (by omega) (by omega) (by omega) (by omega)) (ySub.cons rfl (ySub.cons rfl (ySub.cons rfl (ySub.cons rfl (ySub.nil)))))) (by omega)
theorem a_angleAt {hp : xH} (W : yWW G) (d : Nat) (hT : zTy G hp) (p1 p2 : Int) (h1l : 0 ≤ p1) (h1u : p1 ≤ 15) (h2l : 0 ≤ p2) (h2u : p2 ≤ 47) : yC (xcall 89 xfts xpools xms (d + 1)) 351 [yR 2073, yI (p1), yI (p2)] hp (yQpj hp 0 2147483647) := by
  have A_hp : yAx G [] [] hp hp := yAx.rf hT
  refine yC.of (M := (xt_X13_angleAt, (3, (2, (14, []))))) rfl rfl (N := 57) (yfuel (by decide)) ?_
  show yG 89 xfts (xcall 89 xfts xpools xms d) (xpool xp_RX13) [] xt_X13_angleAt (yP 2 (yQpj hp 0 2147483647)) 57 0 [(0, yR 2073), (1, yI (p1)), (2, yI (p2))] [] hp
  refine yG.load xak rfl (fun _ _ => rfl) (v := yR 2073) rfl rfl ?_
  refine yG.getR A_hp.1 (r_placeOf W) rfl rfl ?_
  refine yG.load xik rfl (fun _ _ => rfl) (v := yI (p1)) rfl rfl ?_
  refine yG.iald A_hp.1 (v_placeOf W) rfl (by omega) (by omega) (fun z1 e_z1 i_z1 l_z1 u_z1 => ?_)
  refine yG.ifz rfl (t := 13) rfl ⟨by omega, by omega⟩ (fun c2 => ?_) (fun c2 => ?_)
  · have c2 : z1 ≥ 0 := c2
    refine yG.load xak rfl (fun _ _ => rfl) (v := yR 2073) rfl rfl ?_
    refine yG.getR A_hp.1 (r_matrix W) rfl rfl ?_
    refine yG.num (c := 48) rfl (fun _ _ => rfl) (by decide) ?_
    refine yG.load xak rfl (fun _ _ => rfl) (v := yR 2073) rfl rfl ?_
    refine yG.getR A_hp.1 (r_placeOf W) rfl rfl ?_
    refine yG.load xik rfl (fun _ _ => rfl) (v := yI (p1)) rfl rfl ?_
    refine yG.iald A_hp.1 (v_placeOf W) rfl (by omega) (by omega) (fun z3 e_z3 i_z3 l_z3 u_z3 => ?_)
    refine yG.imul rfl ?_
    refine yG.load xik rfl (fun _ _ => rfl) (v := yI (p2)) rfl rfl ?_
    refine yG.iadd rfl ?_
    refine yG.lald A_hp.1 (v_matrix W) rfl (by omega) (by omega) (fun z4 e_z4 i_z4 l_z4 u_z4 => ?_)
    refine yG.ret rfl (fun _ _ => rfl) ?_
    exact yP.long ⟨by omega, by omega⟩ ⟨⟨z4, rfl, by omega, by omega⟩, rfl⟩
  · have c2 : z1 < 0 := c2
    refine yG.numl (c := 0) rfl (fun _ _ => rfl) (by decide) ?_
    refine yG.goto rfl (t := 29) rfl ?_
    refine yG.ret rfl (fun _ _ => rfl) ?_
    exact yP.long ⟨by omega, by omega⟩ ⟨⟨0, rfl, by omega, by omega⟩, rfl⟩
theorem a_merge_node {hp : xH} (W : yWW G) (d : Nat) (hT : zTy G hp) (p2 p3 : Int) (h2l : 0 ≤ p2) (h2u : p2 ≤ 15) (h3l : 0 ≤ p3) (h3u : p3 ≤ 15) : yC (xcall 89 xfts xpools xms (d + 1)) 454 [yR 2073, yR 2100, yI (p2), yI (p3)] hp (yQv G [] [2100] hp) := by
  have A_hp : yAx G [] [2100] hp hp := yAx.rf hT
  have H : ∀ m : Nat, (∀ a4 a5 a6 a7 : Int, ∀ hq, yAx G [] [2100] hp hq → 0 ≤ a4 → (-15) ≤ 0 - a4 → 0 ≤ a5 → (-15) ≤ 0 - a5 → 0 ≤ a6 → (-15) ≤ 0 - a6 → 0 ≤ a7 → (-16) ≤ 0 - a7 → 0 ≤ a4 - a6 → 0 ≤ a5 - a6 → 0 - 2 * a7 + 33 < (m : Int) → yG 89 xfts (xcall 89 xfts xpools xms d) (xpool xp_RX13) [] xt_X13_merge (yP 0 (yQv G [] [2100] hp)) (26 * m) 29 [(0, yR 2073), (1, yR 2100), (4, yI (a4)), (5, yI (a5)), (6, yI (a6)), (7, yI (a7))] [] hq) := by
    intro m
    induction m with
    | zero =>
      intros; exfalso; omega
    | succ m ih =>
      have i_29 := ih
      clear ih
      intro a4 a5 a6 a7 hq A_hq f0 f1 f2 f3 f4 f5 f6 f7 f8 f9 hm
      refine yG.mono (N := 26 * m + 26) ?_ (by omega)
      refine yG.load xik rfl (fun _ _ => rfl) (v := yI (a7)) rfl rfl ?_
      refine yG.load xak rfl (fun _ _ => rfl) (v := yR 2073) rfl rfl ?_
      refine yG.getR A_hq.1 (r_count W) rfl rfl ?_
      refine yG.num (c := 0) rfl (fun _ _ => rfl) (by decide) ?_
      refine yG.ialdF A_hq.1 (p_count W) rfl rfl (by omega) (by omega) (fun z1 e_z1 i_z1 l_z1 u_z1 => ?_)
      refine yG.icmp rfl (t := 77) rfl ⟨by omega, by omega⟩ ⟨by omega, by omega⟩ (fun c2 => ?_) (fun c2 => ?_)
      · have c2 : a7 ≥ z1 := c2
        refine yG.ret rfl (fun _ _ => rfl) ?_
        exact yP.void ⟨rfl, A_hq⟩
      · have c2 : a7 < z1 := c2
        refine yG.load xak rfl (fun _ _ => rfl) (v := yR 2100) rfl rfl ?_
        refine yG.load xik rfl (fun _ _ => rfl) (v := yI (a7)) rfl rfl ?_
        refine yG.load xak rfl (fun _ _ => rfl) (v := yR 2100) rfl rfl ?_
        refine yG.load xik rfl (fun _ _ => rfl) (v := yI (a7)) rfl rfl ?_
        refine yG.iald A_hq.1 (v_node W) rfl (by omega) (by omega) (fun z3 e_z3 i_z3 l_z3 u_z3 => ?_)
        refine yG.load xik rfl (fun _ _ => rfl) (v := yI (a4)) rfl rfl ?_
        refine yG.icmp rfl (t := 61) rfl ⟨by omega, by omega⟩ ⟨by omega, by omega⟩ (fun c4 => ?_) (fun c4 => ?_)
        · have c4 : z3 = a4 := c4
          refine yG.load xik rfl (fun _ _ => rfl) (v := yI (a6)) rfl rfl ?_
          refine yG.goto rfl (t := 70) rfl ?_
          refine yG.iast A_hq.1 (v_node W) (by decide) rfl (by omega) (by omega) ⟨by omega, by omega⟩ (by omega) (by omega) (fun h5 T_h5 b_h5 f_h5 y_h5 => ?_)
          have A_h5 := A_hq.putA T_h5 b_h5 f_h5 (by decide)
          refine yG.iinc rfl (a := a7) rfl (L' := [(7, yI (a7 + 1)), (0, yR 2073), (1, yR 2100), (4, yI (a4)), (5, yI (a5)), (6, yI (a6))]) rfl ?_
          refine yG.goto rfl (t := 29) rfl ?_
          exact yG.mono (yG.sub (i_29 (a4) (a5) (a6) (a7 + 1)  h5 A_h5  (by omega) (by omega) (by omega) (by omega) (by omega) (by omega) (by omega) (by omega) (by omega) (by omega) (by omega)) (ySub.cons rfl (ySub.cons rfl (ySub.cons rfl (ySub.cons rfl (ySub.cons rfl (ySub.cons rfl (ySub.nil)))))))) (by omega)
        · have c4 : z3 ≠ a4 := c4
          refine yG.load xak rfl (fun _ _ => rfl) (v := yR 2100) rfl rfl ?_
          refine yG.load xik rfl (fun _ _ => rfl) (v := yI (a7)) rfl rfl ?_
          refine yG.iald A_hq.1 (v_node W) rfl (by omega) (by omega) (fun z6 e_z6 i_z6 l_z6 u_z6 => ?_)
          refine yG.load xik rfl (fun _ _ => rfl) (v := yI (a5)) rfl rfl ?_
          refine yG.icmp rfl (t := 66) rfl ⟨by omega, by omega⟩ ⟨by omega, by omega⟩ (fun c7 => ?_) (fun c7 => ?_)
          · have c7 : z6 ≠ a5 := c7
            refine yG.load xak rfl (fun _ _ => rfl) (v := yR 2100) rfl rfl ?_
            refine yG.load xik rfl (fun _ _ => rfl) (v := yI (a7)) rfl rfl ?_
            refine yG.iald A_hq.1 (v_node W) rfl (by omega) (by omega) (fun z8 e_z8 i_z8 l_z8 u_z8 => ?_)
            refine yG.iast A_hq.1 (v_node W) (by decide) rfl (by omega) (by omega) ⟨by omega, by omega⟩ (by omega) (by omega) (fun h9 T_h9 b_h9 f_h9 y_h9 => ?_)
            have A_h9 := A_hq.putA T_h9 b_h9 f_h9 (by decide)
            refine yG.iinc rfl (a := a7) rfl (L' := [(7, yI (a7 + 1)), (0, yR 2073), (1, yR 2100), (4, yI (a4)), (5, yI (a5)), (6, yI (a6))]) rfl ?_
            refine yG.goto rfl (t := 29) rfl ?_
            exact yG.mono (yG.sub (i_29 (a4) (a5) (a6) (a7 + 1)  h9 A_h9  (by omega) (by omega) (by omega) (by omega) (by omega) (by omega) (by omega) (by omega) (by omega) (by omega) (by omega)) (ySub.cons rfl (ySub.cons rfl (ySub.cons rfl (ySub.cons rfl (ySub.cons rfl (ySub.cons rfl (ySub.nil)))))))) (by omega)
          · have c7 : z6 = a5 := c7
            refine yG.load xik rfl (fun _ _ => rfl) (v := yI (a6)) rfl rfl ?_
            refine yG.goto rfl (t := 70) rfl ?_
            refine yG.iast A_hq.1 (v_node W) (by decide) rfl (by omega) (by omega) ⟨by omega, by omega⟩ (by omega) (by omega) (fun h10 T_h10 b_h10 f_h10 y_h10 => ?_)
            have A_h10 := A_hq.putA T_h10 b_h10 f_h10 (by decide)
            refine yG.iinc rfl (a := a7) rfl (L' := [(7, yI (a7 + 1)), (0, yR 2073), (1, yR 2100), (4, yI (a4)), (5, yI (a5)), (6, yI (a6))]) rfl ?_
            refine yG.goto rfl (t := 29) rfl ?_
            exact yG.mono (yG.sub (i_29 (a4) (a5) (a6) (a7 + 1)  h10 A_h10  (by omega) (by omega) (by omega) (by omega) (by omega) (by omega) (by omega) (by omega) (by omega) (by omega) (by omega)) (ySub.cons rfl (ySub.cons rfl (ySub.cons rfl (ySub.cons rfl (ySub.cons rfl (ySub.cons rfl (ySub.nil)))))))) (by omega)
  refine yC.of (M := (xt_X13_merge, (8, (0, (14, []))))) rfl rfl (N := 936) (yfuel (by decide)) ?_
  show yG 89 xfts (xcall 89 xfts xpools xms d) (xpool xp_RX13) [] xt_X13_merge (yP 0 (yQv G [] [2100] hp)) 936 0 [(0, yR 2073), (1, yR 2100), (2, yI (p2)), (3, yI (p3))] [] hp
  have i_29 := H 35
  refine yG.load xak rfl (fun _ _ => rfl) (v := yR 2100) rfl rfl ?_
  refine yG.load xik rfl (fun _ _ => rfl) (v := yI (p2)) rfl rfl ?_
  refine yG.iald A_hp.1 (v_node W) rfl (by omega) (by omega) (fun z1 e_z1 i_z1 l_z1 u_z1 => ?_)
  refine yG.store1 xik (L' := [(4, yI (z1)), (0, yR 2073), (1, yR 2100), (2, yI (p2)), (3, yI (p3))]) rfl (fun _ _ => rfl) rfl rfl ?_
  refine yG.load xak rfl (fun _ _ => rfl) (v := yR 2100) rfl rfl ?_
  refine yG.load xik rfl (fun _ _ => rfl) (v := yI (p3)) rfl rfl ?_
  refine yG.iald A_hp.1 (v_node W) rfl (by omega) (by omega) (fun z2 e_z2 i_z2 l_z2 u_z2 => ?_)
  refine yG.store1 xik (L' := [(5, yI (z2)), (4, yI (z1)), (0, yR 2073), (1, yR 2100), (2, yI (p2)), (3, yI (p3))]) rfl (fun _ _ => rfl) rfl rfl ?_
  refine yG.load xik rfl (fun _ _ => rfl) (v := yI (z1)) rfl rfl ?_
  refine yG.load xik rfl (fun _ _ => rfl) (v := yI (z2)) rfl rfl ?_
  refine yG.icmp rfl (t := 22) rfl ⟨by omega, by omega⟩ ⟨by omega, by omega⟩ (fun c3 => ?_) (fun c3 => ?_)
  · have c3 : z1 ≥ z2 := c3
    refine yG.load xik rfl (fun _ _ => rfl) (v := yI (z2)) rfl rfl ?_
    refine yG.store1 xik (L' := [(6, yI (z2)), (5, yI (z2)), (4, yI (z1)), (0, yR 2073), (1, yR 2100), (2, yI (p2)), (3, yI (p3))]) rfl (fun _ _ => rfl) rfl rfl ?_
    refine yG.num (c := 0) rfl (fun _ _ => rfl) (by decide) ?_
    refine yG.store1 xik (L' := [(7, yI (0)), (6, yI (z2)), (5, yI (z2)), (4, yI (z1)), (0, yR 2073), (1, yR 2100), (2, yI (p2)), (3, yI (p3))]) rfl (fun _ _ => rfl) rfl rfl ?_
    exact yG.mono (yG.sub (i_29 (z1) (z2) (z2) (0)  hp A_hp  (by omega) (by omega) (by omega) (by omega) (by omega) (by omega) (by omega) (by omega) (by omega) (by omega) (by omega)) (ySub.cons rfl (ySub.cons rfl (ySub.cons rfl (ySub.cons rfl (ySub.cons rfl (ySub.cons rfl (ySub.nil)))))))) (by omega)
  · have c3 : z1 < z2 := c3
    refine yG.load xik rfl (fun _ _ => rfl) (v := yI (z1)) rfl rfl ?_
    refine yG.goto rfl (t := 24) rfl ?_
    refine yG.store1 xik (L' := [(6, yI (z1)), (5, yI (z2)), (4, yI (z1)), (0, yR 2073), (1, yR 2100), (2, yI (p2)), (3, yI (p3))]) rfl (fun _ _ => rfl) rfl rfl ?_
    refine yG.num (c := 0) rfl (fun _ _ => rfl) (by decide) ?_
    refine yG.store1 xik (L' := [(7, yI (0)), (6, yI (z1)), (5, yI (z2)), (4, yI (z1)), (0, yR 2073), (1, yR 2100), (2, yI (p2)), (3, yI (p3))]) rfl (fun _ _ => rfl) rfl rfl ?_
    exact yG.mono (yG.sub (i_29 (z1) (z2) (z1) (0)  hp A_hp  (by omega) (by omega) (by omega) (by omega) (by omega) (by omega) (by omega) (by omega) (by omega) (by omega) (by omega)) (ySub.cons rfl (ySub.cons rfl (ySub.cons rfl (ySub.cons rfl (ySub.cons rfl (ySub.cons rfl (ySub.nil)))))))) (by omega)
theorem a_merge_island {hp : xH} (W : yWW G) (d : Nat) (hT : zTy G hp) (p2 p3 : Int) (h2l : 0 ≤ p2) (h2u : p2 ≤ 15) (h3l : 0 ≤ p3) (h3u : p3 ≤ 15) : yC (xcall 89 xfts xpools xms (d + 1)) 454 [yR 2073, yR 2101, yI (p2), yI (p3)] hp (yQv G [] [2101] hp) := by
  have A_hp : yAx G [] [2101] hp hp := yAx.rf hT
  have H : ∀ m : Nat, (∀ a4 a5 a6 a7 : Int, ∀ hq, yAx G [] [2101] hp hq → 0 ≤ a4 → (-15) ≤ 0 - a4 → 0 ≤ a5 → (-15) ≤ 0 - a5 → 0 ≤ a6 → (-15) ≤ 0 - a6 → 0 ≤ a7 → (-16) ≤ 0 - a7 → 0 ≤ a4 - a6 → 0 ≤ a5 - a6 → 0 - 2 * a7 + 33 < (m : Int) → yG 89 xfts (xcall 89 xfts xpools xms d) (xpool xp_RX13) [] xt_X13_merge (yP 0 (yQv G [] [2101] hp)) (26 * m) 29 [(0, yR 2073), (1, yR 2101), (4, yI (a4)), (5, yI (a5)), (6, yI (a6)), (7, yI (a7))] [] hq) := by
    intro m
    induction m with
    | zero =>
      intros; exfalso; omega
    | succ m ih =>
      have i_29 := ih
      clear ih
      intro a4 a5 a6 a7 hq A_hq f0 f1 f2 f3 f4 f5 f6 f7 f8 f9 hm
      refine yG.mono (N := 26 * m + 26) ?_ (by omega)
      refine yG.load xik rfl (fun _ _ => rfl) (v := yI (a7)) rfl rfl ?_
      refine yG.load xak rfl (fun _ _ => rfl) (v := yR 2073) rfl rfl ?_
      refine yG.getR A_hq.1 (r_count W) rfl rfl ?_
      refine yG.num (c := 0) rfl (fun _ _ => rfl) (by decide) ?_
      refine yG.ialdF A_hq.1 (p_count W) rfl rfl (by omega) (by omega) (fun z1 e_z1 i_z1 l_z1 u_z1 => ?_)
      refine yG.icmp rfl (t := 77) rfl ⟨by omega, by omega⟩ ⟨by omega, by omega⟩ (fun c2 => ?_) (fun c2 => ?_)
      · have c2 : a7 ≥ z1 := c2
        refine yG.ret rfl (fun _ _ => rfl) ?_
        exact yP.void ⟨rfl, A_hq⟩
      · have c2 : a7 < z1 := c2
        refine yG.load xak rfl (fun _ _ => rfl) (v := yR 2101) rfl rfl ?_
        refine yG.load xik rfl (fun _ _ => rfl) (v := yI (a7)) rfl rfl ?_
        refine yG.load xak rfl (fun _ _ => rfl) (v := yR 2101) rfl rfl ?_
        refine yG.load xik rfl (fun _ _ => rfl) (v := yI (a7)) rfl rfl ?_
        refine yG.iald A_hq.1 (v_island W) rfl (by omega) (by omega) (fun z3 e_z3 i_z3 l_z3 u_z3 => ?_)
        refine yG.load xik rfl (fun _ _ => rfl) (v := yI (a4)) rfl rfl ?_
        refine yG.icmp rfl (t := 61) rfl ⟨by omega, by omega⟩ ⟨by omega, by omega⟩ (fun c4 => ?_) (fun c4 => ?_)
        · have c4 : z3 = a4 := c4
          refine yG.load xik rfl (fun _ _ => rfl) (v := yI (a6)) rfl rfl ?_
          refine yG.goto rfl (t := 70) rfl ?_
          refine yG.iast A_hq.1 (v_island W) (by decide) rfl (by omega) (by omega) ⟨by omega, by omega⟩ (by omega) (by omega) (fun h5 T_h5 b_h5 f_h5 y_h5 => ?_)
          have A_h5 := A_hq.putA T_h5 b_h5 f_h5 (by decide)
          refine yG.iinc rfl (a := a7) rfl (L' := [(7, yI (a7 + 1)), (0, yR 2073), (1, yR 2101), (4, yI (a4)), (5, yI (a5)), (6, yI (a6))]) rfl ?_
          refine yG.goto rfl (t := 29) rfl ?_
          exact yG.mono (yG.sub (i_29 (a4) (a5) (a6) (a7 + 1)  h5 A_h5  (by omega) (by omega) (by omega) (by omega) (by omega) (by omega) (by omega) (by omega) (by omega) (by omega) (by omega)) (ySub.cons rfl (ySub.cons rfl (ySub.cons rfl (ySub.cons rfl (ySub.cons rfl (ySub.cons rfl (ySub.nil)))))))) (by omega)
        · have c4 : z3 ≠ a4 := c4
          refine yG.load xak rfl (fun _ _ => rfl) (v := yR 2101) rfl rfl ?_
          refine yG.load xik rfl (fun _ _ => rfl) (v := yI (a7)) rfl rfl ?_
          refine yG.iald A_hq.1 (v_island W) rfl (by omega) (by omega) (fun z6 e_z6 i_z6 l_z6 u_z6 => ?_)
          refine yG.load xik rfl (fun _ _ => rfl) (v := yI (a5)) rfl rfl ?_
          refine yG.icmp rfl (t := 66) rfl ⟨by omega, by omega⟩ ⟨by omega, by omega⟩ (fun c7 => ?_) (fun c7 => ?_)
          · have c7 : z6 ≠ a5 := c7
            refine yG.load xak rfl (fun _ _ => rfl) (v := yR 2101) rfl rfl ?_
            refine yG.load xik rfl (fun _ _ => rfl) (v := yI (a7)) rfl rfl ?_
            refine yG.iald A_hq.1 (v_island W) rfl (by omega) (by omega) (fun z8 e_z8 i_z8 l_z8 u_z8 => ?_)
            refine yG.iast A_hq.1 (v_island W) (by decide) rfl (by omega) (by omega) ⟨by omega, by omega⟩ (by omega) (by omega) (fun h9 T_h9 b_h9 f_h9 y_h9 => ?_)
            have A_h9 := A_hq.putA T_h9 b_h9 f_h9 (by decide)
            refine yG.iinc rfl (a := a7) rfl (L' := [(7, yI (a7 + 1)), (0, yR 2073), (1, yR 2101), (4, yI (a4)), (5, yI (a5)), (6, yI (a6))]) rfl ?_
            refine yG.goto rfl (t := 29) rfl ?_
            exact yG.mono (yG.sub (i_29 (a4) (a5) (a6) (a7 + 1)  h9 A_h9  (by omega) (by omega) (by omega) (by omega) (by omega) (by omega) (by omega) (by omega) (by omega) (by omega) (by omega)) (ySub.cons rfl (ySub.cons rfl (ySub.cons rfl (ySub.cons rfl (ySub.cons rfl (ySub.cons rfl (ySub.nil)))))))) (by omega)
          · have c7 : z6 = a5 := c7
            refine yG.load xik rfl (fun _ _ => rfl) (v := yI (a6)) rfl rfl ?_
            refine yG.goto rfl (t := 70) rfl ?_
            refine yG.iast A_hq.1 (v_island W) (by decide) rfl (by omega) (by omega) ⟨by omega, by omega⟩ (by omega) (by omega) (fun h10 T_h10 b_h10 f_h10 y_h10 => ?_)
            have A_h10 := A_hq.putA T_h10 b_h10 f_h10 (by decide)
            refine yG.iinc rfl (a := a7) rfl (L' := [(7, yI (a7 + 1)), (0, yR 2073), (1, yR 2101), (4, yI (a4)), (5, yI (a5)), (6, yI (a6))]) rfl ?_
            refine yG.goto rfl (t := 29) rfl ?_
            exact yG.mono (yG.sub (i_29 (a4) (a5) (a6) (a7 + 1)  h10 A_h10  (by omega) (by omega) (by omega) (by omega) (by omega) (by omega) (by omega) (by omega) (by omega) (by omega) (by omega)) (ySub.cons rfl (ySub.cons rfl (ySub.cons rfl (ySub.cons rfl (ySub.cons rfl (ySub.cons rfl (ySub.nil)))))))) (by omega)
  refine yC.of (M := (xt_X13_merge, (8, (0, (14, []))))) rfl rfl (N := 936) (yfuel (by decide)) ?_
  show yG 89 xfts (xcall 89 xfts xpools xms d) (xpool xp_RX13) [] xt_X13_merge (yP 0 (yQv G [] [2101] hp)) 936 0 [(0, yR 2073), (1, yR 2101), (2, yI (p2)), (3, yI (p3))] [] hp
  have i_29 := H 35
  refine yG.load xak rfl (fun _ _ => rfl) (v := yR 2101) rfl rfl ?_
  refine yG.load xik rfl (fun _ _ => rfl) (v := yI (p2)) rfl rfl ?_
  refine yG.iald A_hp.1 (v_island W) rfl (by omega) (by omega) (fun z1 e_z1 i_z1 l_z1 u_z1 => ?_)
  refine yG.store1 xik (L' := [(4, yI (z1)), (0, yR 2073), (1, yR 2101), (2, yI (p2)), (3, yI (p3))]) rfl (fun _ _ => rfl) rfl rfl ?_
  refine yG.load xak rfl (fun _ _ => rfl) (v := yR 2101) rfl rfl ?_
  refine yG.load xik rfl (fun _ _ => rfl) (v := yI (p3)) rfl rfl ?_
  refine yG.iald A_hp.1 (v_island W) rfl (by omega) (by omega) (fun z2 e_z2 i_z2 l_z2 u_z2 => ?_)
  refine yG.store1 xik (L' := [(5, yI (z2)), (4, yI (z1)), (0, yR 2073), (1, yR 2101), (2, yI (p2)), (3, yI (p3))]) rfl (fun _ _ => rfl) rfl rfl ?_
  refine yG.load xik rfl (fun _ _ => rfl) (v := yI (z1)) rfl rfl ?_
  refine yG.load xik rfl (fun _ _ => rfl) (v := yI (z2)) rfl rfl ?_
  refine yG.icmp rfl (t := 22) rfl ⟨by omega, by omega⟩ ⟨by omega, by omega⟩ (fun c3 => ?_) (fun c3 => ?_)
  · have c3 : z1 ≥ z2 := c3
    refine yG.load xik rfl (fun _ _ => rfl) (v := yI (z2)) rfl rfl ?_
    refine yG.store1 xik (L' := [(6, yI (z2)), (5, yI (z2)), (4, yI (z1)), (0, yR 2073), (1, yR 2101), (2, yI (p2)), (3, yI (p3))]) rfl (fun _ _ => rfl) rfl rfl ?_
    refine yG.num (c := 0) rfl (fun _ _ => rfl) (by decide) ?_
    refine yG.store1 xik (L' := [(7, yI (0)), (6, yI (z2)), (5, yI (z2)), (4, yI (z1)), (0, yR 2073), (1, yR 2101), (2, yI (p2)), (3, yI (p3))]) rfl (fun _ _ => rfl) rfl rfl ?_
    exact yG.mono (yG.sub (i_29 (z1) (z2) (z2) (0)  hp A_hp  (by omega) (by omega) (by omega) (by omega) (by omega) (by omega) (by omega) (by omega) (by omega) (by omega) (by omega)) (ySub.cons rfl (ySub.cons rfl (ySub.cons rfl (ySub.cons rfl (ySub.cons rfl (ySub.cons rfl (ySub.nil)))))))) (by omega)
  · have c3 : z1 < z2 := c3
    refine yG.load xik rfl (fun _ _ => rfl) (v := yI (z1)) rfl rfl ?_
    refine yG.goto rfl (t := 24) rfl ?_
    refine yG.store1 xik (L' := [(6, yI (z1)), (5, yI (z2)), (4, yI (z1)), (0, yR 2073), (1, yR 2101), (2, yI (p2)), (3, yI (p3))]) rfl (fun _ _ => rfl) rfl rfl ?_
    refine yG.num (c := 0) rfl (fun _ _ => rfl) (by decide) ?_
    refine yG.store1 xik (L' := [(7, yI (0)), (6, yI (z1)), (5, yI (z2)), (4, yI (z1)), (0, yR 2073), (1, yR 2101), (2, yI (p2)), (3, yI (p3))]) rfl (fun _ _ => rfl) rfl rfl ?_
    exact yG.mono (yG.sub (i_29 (z1) (z2) (z1) (0)  hp A_hp  (by omega) (by omega) (by omega) (by omega) (by omega) (by omega) (by omega) (by omega) (by omega) (by omega) (by omega)) (ySub.cons rfl (ySub.cons rfl (ySub.cons rfl (ySub.cons rfl (ySub.cons rfl (ySub.cons rfl (ySub.nil)))))))) (by omega)
theorem a_listNodes {hp : xH} (W : yWW G) (d : Nat) (hT : zTy G hp) (p1 : Int) (h1l : (-1) ≤ p1) (h1u : p1 ≤ 15) : yC (xcall 89 xfts xpools xms (d + 1)) 445 [yR 2073, yI (p1)] hp (yQv G [38] [2103, 2104] hp) := by
  have A_hp : yAx G [38] [2103, 2104] hp hp := yAx.rf hT
  have H : ∀ m : Nat, (∀ a2 gg38 : Int, ∀ hq, yAx G [38] [2103, 2104] hp hq → ys hq 2073 38 = gg38 → 0 ≤ a2 → (-16) ≤ 0 - a2 → 0 ≤ gg38 → (-16) ≤ 0 - gg38 → 0 ≤ a2 - gg38 → (-16) ≤ 0 - gg38 + p1 → 0 - 2 * a2 + 33 < (m : Int) → yG 89 xfts (xcall 89 xfts xpools xms d) (xpool xp_RX13) [] xt_X13_listNodes (yP 0 (yQv G [38] [2103, 2104] hp)) (42 * m) 7 [(0, yR 2073), (1, yI (p1)), (2, yI (a2))] [] hq) := by
    intro m
    induction m with
    | zero =>
      intros; exfalso; omega
    | succ m ih =>
      have i_7 := ih
      clear ih
      intro a2 gg38 hq A_hq E_38 f0 f1 f2 f3 f4 f5 hm
      refine yG.mono (N := 42 * m + 42) ?_ (by omega)
      refine yG.load xik rfl (fun _ _ => rfl) (v := yI (a2)) rfl rfl ?_
      refine yG.load xak rfl (fun _ _ => rfl) (v := yR 2073) rfl rfl ?_
      refine yG.getR A_hq.1 (r_count W) rfl rfl ?_
      refine yG.num (c := 0) rfl (fun _ _ => rfl) (by decide) ?_
      refine yG.ialdF A_hq.1 (p_count W) rfl rfl (by omega) (by omega) (fun z1 e_z1 i_z1 l_z1 u_z1 => ?_)
      refine yG.icmp rfl (t := 75) rfl ⟨by omega, by omega⟩ ⟨by omega, by omega⟩ (fun c2 => ?_) (fun c2 => ?_)
      · have c2 : a2 ≥ z1 := c2
        refine yG.ret rfl (fun _ _ => rfl) ?_
        exact yP.void ⟨rfl, A_hq⟩
      · have c2 : a2 < z1 := c2
        refine yG.load xak rfl (fun _ _ => rfl) (v := yR 2073) rfl rfl ?_
        refine yG.getR A_hq.1 (r_island W) rfl rfl ?_
        refine yG.load xik rfl (fun _ _ => rfl) (v := yI (a2)) rfl rfl ?_
        refine yG.iald A_hq.1 (v_island W) rfl (by omega) (by omega) (fun z3 e_z3 i_z3 l_z3 u_z3 => ?_)
        refine yG.load xik rfl (fun _ _ => rfl) (v := yI (p1)) rfl rfl ?_
        refine yG.icmp rfl (t := 69) rfl ⟨by omega, by omega⟩ ⟨by omega, by omega⟩ (fun c4 => ?_) (fun c4 => ?_)
        · have c4 : z3 ≠ p1 := c4
          refine yG.iinc rfl (a := a2) rfl (L' := [(2, yI (a2 + 1)), (0, yR 2073), (1, yI (p1))]) rfl ?_
          refine yG.goto rfl (t := 7) rfl ?_
          exact yG.mono (yG.sub (i_7 (a2 + 1) (ys hq 2073 38) hq A_hq rfl (by omega) (by omega) (by omega) (by omega) (by omega) (by omega) (by omega)) (ySub.cons rfl (ySub.cons rfl (ySub.cons rfl (ySub.nil))))) (by omega)
        · have c4 : z3 = p1 := c4
          refine yG.load xak rfl (fun _ _ => rfl) (v := yR 2073) rfl rfl ?_
          refine yG.getR A_hq.1 (r_node W) rfl rfl ?_
          refine yG.load xik rfl (fun _ _ => rfl) (v := yI (a2)) rfl rfl ?_
          refine yG.iald A_hq.1 (v_node W) rfl (by omega) (by omega) (fun z5 e_z5 i_z5 l_z5 u_z5 => ?_)
          refine yG.load xik rfl (fun _ _ => rfl) (v := yI (a2)) rfl rfl ?_
          refine yG.icmp rfl (t := 69) rfl ⟨by omega, by omega⟩ ⟨by omega, by omega⟩ (fun c6 => ?_) (fun c6 => ?_)
          · have c6 : z5 ≠ a2 := c6
            refine yG.iinc rfl (a := a2) rfl (L' := [(2, yI (a2 + 1)), (0, yR 2073), (1, yI (p1))]) rfl ?_
            refine yG.goto rfl (t := 7) rfl ?_
            exact yG.mono (yG.sub (i_7 (a2 + 1) (ys hq 2073 38) hq A_hq rfl (by omega) (by omega) (by omega) (by omega) (by omega) (by omega) (by omega)) (ySub.cons rfl (ySub.cons rfl (ySub.cons rfl (ySub.nil))))) (by omega)
          · have c6 : z5 = a2 := c6
            refine yG.load xak rfl (fun _ _ => rfl) (v := yR 2073) rfl rfl ?_
            refine yG.getR A_hq.1 (r_nodeAt W) rfl rfl ?_
            refine yG.load xak rfl (fun _ _ => rfl) (v := yR 2073) rfl rfl ?_
            refine yG.getI A_hq.1 (w_nodes W) rfl rfl (fun z7 e_z7 i_z7 l_z7 u_z7 => ?_)
            refine yG.load xik rfl (fun _ _ => rfl) (v := yI (a2)) rfl rfl ?_
            refine yG.iast A_hq.1 (v_nodeAt W) (by decide) rfl (by omega) (by omega) ⟨by omega, by omega⟩ (by omega) (by omega) (fun h8 T_h8 b_h8 f_h8 y_h8 => ?_)
            have A_h8 := A_hq.putA T_h8 b_h8 f_h8 (by decide)
            have g38_h8 : ys h8 2073 38 = ys hq 2073 38 := (y_h8 2073 38).trans (if_neg (by omega))
            refine yG.load xak rfl (fun _ _ => rfl) (v := yR 2073) rfl rfl ?_
            refine yG.getR A_h8.1 (r_placeOf W) rfl rfl ?_
            refine yG.load xik rfl (fun _ _ => rfl) (v := yI (a2)) rfl rfl ?_
            refine yG.load xak rfl (fun _ _ => rfl) (v := yR 2073) rfl rfl ?_
            refine yG.getI A_h8.1 (w_nodes W) rfl rfl (fun z9 e_z9 i_z9 l_z9 u_z9 => ?_)
            refine yG.num (c := 1) rfl (fun _ _ => rfl) (by decide) ?_
            refine yG.isub rfl ?_
            refine yG.iast A_h8.1 (v_placeOf W) (by decide) rfl (by omega) (by omega) ⟨by omega, by omega⟩ (by omega) (by omega) (fun h10 T_h10 b_h10 f_h10 y_h10 => ?_)
            have A_h10 := A_h8.putA T_h10 b_h10 f_h10 (by decide)
            have g38_h10 : ys h10 2073 38 = ys h8 2073 38 := (y_h10 2073 38).trans (if_neg (by omega))
            refine yG.load xak rfl (fun _ _ => rfl) (v := yR 2073) rfl rfl ?_
            refine yG.step (pc' := 61) (stk' := [yR 2073, yR 2073]) rfl (fun _ _ => rfl) ?_
            refine yG.getI A_h10.1 (w_nodes W) rfl rfl (fun z11 e_z11 i_z11 l_z11 u_z11 => ?_)
            refine yG.num (c := 1) rfl (fun _ _ => rfl) (by decide) ?_
            refine yG.iadd rfl ?_
            refine yG.putI A_h10.1 (w_nodes W) (by decide) rfl rfl (.inl rfl) ⟨by omega, by omega⟩ (by omega) (by omega) (fun h12 T_h12 b_h12 f_h12 y_h12 => ?_)
            have A_h12 := A_h10.putF T_h12 b_h12 f_h12 (by decide)
            have g38_h12 : ys h12 2073 38 = z11 + 1 := (y_h12 2073 38).trans (if_pos ⟨rfl, rfl⟩)
            refine yG.iinc rfl (a := a2) rfl (L' := [(2, yI (a2 + 1)), (0, yR 2073), (1, yI (p1))]) rfl ?_
            refine yG.goto rfl (t := 7) rfl ?_
            exact yG.mono (yG.sub (i_7 (a2 + 1) (ys h12 2073 38) h12 A_h12 rfl (by omega) (by omega) (by omega) (by omega) (by omega) (by omega) (by omega)) (ySub.cons rfl (ySub.cons rfl (ySub.cons rfl (ySub.nil))))) (by omega)
  refine yC.of (M := (xt_X13_listNodes, (3, (0, (14, []))))) rfl rfl (N := 1512) (yfuel (by decide)) ?_
  show yG 89 xfts (xcall 89 xfts xpools xms d) (xpool xp_RX13) [] xt_X13_listNodes (yP 0 (yQv G [38] [2103, 2104] hp)) 1512 0 [(0, yR 2073), (1, yI (p1))] [] hp
  have i_7 := H 35
  obtain ⟨gg38, E_38⟩ : ∃ z : Int, ys hp 2073 38 = z := ⟨_, rfl⟩
  obtain ⟨-, -, r_38l, r_38u⟩ := (w_nodes W).int hT
  refine yG.load xak rfl (fun _ _ => rfl) (v := yR 2073) rfl rfl ?_
  refine yG.num (c := 0) rfl (fun _ _ => rfl) (by decide) ?_
  refine yG.putI A_hp.1 (w_nodes W) (by decide) rfl rfl (.inl rfl) ⟨by omega, by omega⟩ (by omega) (by omega) (fun h1 T_h1 b_h1 f_h1 y_h1 => ?_)
  have A_h1 := A_hp.putF T_h1 b_h1 f_h1 (by decide)
  have g38_h1 : ys h1 2073 38 = 0 := (y_h1 2073 38).trans (if_pos ⟨rfl, rfl⟩)
  refine yG.num (c := 0) rfl (fun _ _ => rfl) (by decide) ?_
  refine yG.store1 xik (L' := [(2, yI (0)), (0, yR 2073), (1, yI (p1))]) rfl (fun _ _ => rfl) rfl rfl ?_
  exact yG.mono (yG.sub (i_7 (0) (ys h1 2073 38) h1 A_h1 rfl (by omega) (by omega) (by omega) (by omega) (by omega) (by omega) (by omega)) (ySub.cons rfl (ySub.cons rfl (ySub.cons rfl (ySub.nil))))) (by omega)
theorem a_swap {hp : xH} (W : yWW G) (d : Nat) (hT : zTy G hp) (p1 p2 p3 : Int) (h1l : 0 ≤ p1) (h1u : p1 ≤ 19) (h2l : 0 ≤ p2) (h2u : p2 ≤ 19) (h3l : 0 ≤ p3) (h3u : p3 ≤ 48) : yC (xcall 89 xfts xpools xms (d + 1)) 524 [yR 2073, yI (p1), yI (p2), yI (p3)] hp (yQv G [] [2083] hp) := by
  have A_hp : yAx G [] [2083] hp hp := yAx.rf hT
  have H : ∀ m : Nat, (∀ a4 : Int, ∀ hq, yAx G [] [2083] hp hq → 0 ≤ a4 → (-48) ≤ 0 - a4 → 0 ≤ 0 - a4 + p3 → 0 - 2 * a4 + 97 < (m : Int) → yG 89 xfts (xcall 89 xfts xpools xms d) (xpool xp_RX13) [] xt_X13_swap (yP 0 (yQv G [] [2083] hp)) (41 * m) 3 [(0, yR 2073), (1, yI (p1)), (2, yI (p2)), (3, yI (p3)), (4, yI (a4))] [] hq) := by
    intro m
    induction m with
    | zero =>
      intros; exfalso; omega
    | succ m ih =>
      have i_3 := ih
      clear ih
      intro a4 hq A_hq f0 f1 f2 hm
      refine yG.mono (N := 41 * m + 41) ?_ (by omega)
      refine yG.load xik rfl (fun _ _ => rfl) (v := yI (a4)) rfl rfl ?_
      refine yG.load xik rfl (fun _ _ => rfl) (v := yI (p3)) rfl rfl ?_
      refine yG.icmp rfl (t := 67) rfl ⟨by omega, by omega⟩ ⟨by omega, by omega⟩ (fun c1 => ?_) (fun c1 => ?_)
      · have c1 : a4 ≥ p3 := c1
        refine yG.ret rfl (fun _ _ => rfl) ?_
        exact yP.void ⟨rfl, A_hq⟩
      · have c1 : a4 < p3 := c1
        refine yG.load xak rfl (fun _ _ => rfl) (v := yR 2073) rfl rfl ?_
        refine yG.getR A_hq.1 (r_matrix W) rfl rfl ?_
        refine yG.num (c := 48) rfl (fun _ _ => rfl) (by decide) ?_
        refine yG.load xik rfl (fun _ _ => rfl) (v := yI (p1)) rfl rfl ?_
        refine yG.imul rfl ?_
        refine yG.load xik rfl (fun _ _ => rfl) (v := yI (a4)) rfl rfl ?_
        refine yG.iadd rfl ?_
        refine yG.lald A_hq.1 (v_matrix W) rfl (by omega) (by omega) (fun z2 e_z2 i_z2 l_z2 u_z2 => ?_)
        refine yG.store2 xlk2 (L' := [(5, yJ (z2)), (0, yR 2073), (1, yI (p1)), (2, yI (p2)), (3, yI (p3)), (4, yI (a4))]) rfl (fun _ _ => rfl) rfl rfl ?_
        refine yG.load xak rfl (fun _ _ => rfl) (v := yR 2073) rfl rfl ?_
        refine yG.getR A_hq.1 (r_matrix W) rfl rfl ?_
        refine yG.num (c := 48) rfl (fun _ _ => rfl) (by decide) ?_
        refine yG.load xik rfl (fun _ _ => rfl) (v := yI (p1)) rfl rfl ?_
        refine yG.imul rfl ?_
        refine yG.load xik rfl (fun _ _ => rfl) (v := yI (a4)) rfl rfl ?_
        refine yG.iadd rfl ?_
        refine yG.load xak rfl (fun _ _ => rfl) (v := yR 2073) rfl rfl ?_
        refine yG.getR A_hq.1 (r_matrix W) rfl rfl ?_
        refine yG.num (c := 48) rfl (fun _ _ => rfl) (by decide) ?_
        refine yG.load xik rfl (fun _ _ => rfl) (v := yI (p2)) rfl rfl ?_
        refine yG.imul rfl ?_
        refine yG.load xik rfl (fun _ _ => rfl) (v := yI (a4)) rfl rfl ?_
        refine yG.iadd rfl ?_
        refine yG.lald A_hq.1 (v_matrix W) rfl (by omega) (by omega) (fun z3 e_z3 i_z3 l_z3 u_z3 => ?_)
        refine yG.last A_hq.1 (v_matrix W) (by decide) rfl (by omega) (by omega) ⟨by omega, by omega⟩ (by omega) (by omega) (fun h4 T_h4 b_h4 f_h4 y_h4 => ?_)
        have A_h4 := A_hq.putA T_h4 b_h4 f_h4 (by decide)
        refine yG.load xak rfl (fun _ _ => rfl) (v := yR 2073) rfl rfl ?_
        refine yG.getR A_h4.1 (r_matrix W) rfl rfl ?_
        refine yG.num (c := 48) rfl (fun _ _ => rfl) (by decide) ?_
        refine yG.load xik rfl (fun _ _ => rfl) (v := yI (p2)) rfl rfl ?_
        refine yG.imul rfl ?_
        refine yG.load xik rfl (fun _ _ => rfl) (v := yI (a4)) rfl rfl ?_
        refine yG.iadd rfl ?_
        refine yG.load xlk2 rfl (fun _ _ => rfl) (v := yJ (z2)) rfl rfl ?_
        refine yG.last A_h4.1 (v_matrix W) (by decide) rfl (by omega) (by omega) ⟨by omega, by omega⟩ (by omega) (by omega) (fun h5 T_h5 b_h5 f_h5 y_h5 => ?_)
        have A_h5 := A_h4.putA T_h5 b_h5 f_h5 (by decide)
        refine yG.iinc rfl (a := a4) rfl (L' := [(4, yI (a4 + 1)), (5, yJ (z2)), (0, yR 2073), (1, yI (p1)), (2, yI (p2)), (3, yI (p3))]) rfl ?_
        refine yG.goto rfl (t := 3) rfl ?_
        exact yG.mono (yG.sub (i_3 (a4 + 1)  h5 A_h5  (by omega) (by omega) (by omega) (by omega)) (ySub.cons rfl (ySub.cons rfl (ySub.cons rfl (ySub.cons rfl (ySub.cons rfl (ySub.nil))))))) (by omega)
  refine yC.of (M := (xt_X13_swap, (7, (0, (14, []))))) rfl rfl (N := 4100) (yfuel (by decide)) ?_
  show yG 89 xfts (xcall 89 xfts xpools xms d) (xpool xp_RX13) [] xt_X13_swap (yP 0 (yQv G [] [2083] hp)) 4100 0 [(0, yR 2073), (1, yI (p1)), (2, yI (p2)), (3, yI (p3))] [] hp
  have i_3 := H 99
  refine yG.num (c := 0) rfl (fun _ _ => rfl) (by decide) ?_
  refine yG.store1 xik (L' := [(4, yI (0)), (0, yR 2073), (1, yI (p1)), (2, yI (p2)), (3, yI (p3))]) rfl (fun _ _ => rfl) rfl rfl ?_
  exact yG.mono (yG.sub (i_3 (0)  hp A_hp  (by omega) (by omega) (by omega) (by omega)) (ySub.cons rfl (ySub.cons rfl (ySub.cons rfl (ySub.cons rfl (ySub.cons rfl (ySub.nil))))))) (by omega)
theorem a_isDue {hp : xH} (W : yWW G) (d : Nat) (hT : zTy G hp) (p1 p2 : Int) (h1l : 0 ≤ p1) (h1u : p1 ≤ 15) (h2l : 0 ≤ p2) (h2u : p2 ≤ 3) : yC (xcall 89 xfts xpools xms (d + 1)) 426 [yR 2073, yI (p1), yI (p2)] hp (yQpi hp 0 1) := by
  have A_hp : yAx G [] [] hp hp := yAx.rf hT
  refine yC.of (M := (xt_X13_isDue, (3, (4, (14, []))))) rfl rfl (N := 75) (yfuel (by decide)) ?_
  show yG 89 xfts (xcall 89 xfts xpools xms d) (xpool xp_RX13) [] xt_X13_isDue (yP 4 (yQpi hp 0 1)) 75 0 [(0, yR 2073), (1, yI (p1)), (2, yI (p2))] [] hp
  refine yG.load xak rfl (fun _ _ => rfl) (v := yR 2073) rfl rfl ?_
  refine yG.getR A_hp.1 (r_since W) rfl rfl ?_
  refine yG.num (c := 4) rfl (fun _ _ => rfl) (by decide) ?_
  refine yG.load xik rfl (fun _ _ => rfl) (v := yI (p1)) rfl rfl ?_
  refine yG.imul rfl ?_
  refine yG.load xik rfl (fun _ _ => rfl) (v := yI (p2)) rfl rfl ?_
  refine yG.iadd rfl ?_
  refine yG.lald A_hp.1 (v_since W) rfl (by omega) (by omega) (fun z1 e_z1 i_z1 l_z1 u_z1 => ?_)
  refine yG.numl (c := 0) rfl (fun _ _ => rfl) (by decide) ?_
  refine yG.lcmp rfl ⟨by omega, by omega⟩ ⟨by omega, by omega⟩ (fun z2 e_z2 => ?_)
  refine yG.ifz rfl (t := 32) rfl ⟨by omega, by omega⟩ (fun c3 => ?_) (fun c3 => ?_)
  · have c3 : z2 < 0 := c3
    refine yG.num (c := 0) rfl (fun _ _ => rfl) (by decide) ?_
    refine yG.ret rfl (fun _ _ => rfl) ?_
    exact yP.bool (by omega) ⟨⟨0, rfl, by omega, by omega⟩, rfl⟩
  · have c3 : z2 ≥ 0 := c3
    refine yG.load xak rfl (fun _ _ => rfl) (v := yR 2073) rfl rfl ?_
    refine yG.getR A_hp.1 (r_hasTripped W) rfl rfl ?_
    refine yG.num (c := 4) rfl (fun _ _ => rfl) (by decide) ?_
    refine yG.load xik rfl (fun _ _ => rfl) (v := yI (p1)) rfl rfl ?_
    refine yG.imul rfl ?_
    refine yG.load xik rfl (fun _ _ => rfl) (v := yI (p2)) rfl rfl ?_
    refine yG.iadd rfl ?_
    refine yG.bald A_hp.1 (v_hasTripped W) rfl (by omega) (by omega) (fun z4 e_z4 i_z4 l_z4 u_z4 => ?_)
    refine yG.ifz rfl (t := 32) rfl ⟨by omega, by omega⟩ (fun c5 => ?_) (fun c5 => ?_)
    · have c5 : z4 ≠ 0 := c5
      refine yG.num (c := 0) rfl (fun _ _ => rfl) (by decide) ?_
      refine yG.ret rfl (fun _ _ => rfl) ?_
      exact yP.bool (by omega) ⟨⟨0, rfl, by omega, by omega⟩, rfl⟩
    · have c5 : z4 = 0 := c5
      refine yG.num (c := 1) rfl (fun _ _ => rfl) (by decide) ?_
      refine yG.goto rfl (t := 33) rfl ?_
      refine yG.ret rfl (fun _ _ => rfl) ?_
      exact yP.bool (by omega) ⟨⟨1, rfl, by omega, by omega⟩, rfl⟩
theorem yfT_of {s i k : Nat} (hi : i < 24) (hk : k < 11) : yfT (264 * s + 11 * i + k) = yfT (264 * s + k) := by
  unfold yfT
  rw [show (264 * s + 11 * i + k) / 264 = (264 * s + k) / 264 by omega, show (264 * s + 11 * i + k) % 264 % 11 = (264 * s + k) % 264 % 11 by omega]
theorem y_of {hp : xH} (W : yWW G) (d : Nat) (hT : zTy G hp) (s k : Nat) (i lo hi : Int) (h0 : 0 ≤ i) (h1 : i ≤ 23) (hs : s < 5) (hk : k < 11) (ht : yfT (264 * s + k) = (0, (lo, hi))) : yC (xcall 89 xfts xpools xms (d + 2)) 471 [yR 2073, yI (s : Int), yI i, yI (k : Int)] hp (yQpi hp lo hi) := by
  obtain ⟨i, rfl⟩ : ∃ n : Nat, i = (n : Int) := ⟨i.toNat, by omega⟩
  refine yC.of (M := (xt_X13_of, (4, (1, (14, []))))) rfl rfl (N := 20) (yfuel (by decide)) ?_
  show yG 89 xfts (xcall 89 xfts xpools xms (d + 1)) (xpool xp_RX13) [] xt_X13_of (yP 1 (yQpi hp lo hi)) 20 0 [(0, yR 2073), (1, yI (s : Int)), (2, yI (i : Int)), (3, yI (k : Int))] [] hp
  refine yG.load xak rfl (fun _ _ => rfl) (v := yR 2073) rfl rfl ?_
  refine yG.getR hT (r_field W) rfl rfl ?_
  refine yG.load xik rfl (fun _ _ => rfl) (v := yI (s : Int)) rfl rfl ?_
  refine yG.load xik rfl (fun _ _ => rfl) (v := yI (i : Int)) rfl rfl ?_
  refine yG.load xik rfl (fun _ _ => rfl) (v := yI (k : Int)) rfl rfl ?_
  refine yG.invS (rest := [yR 2089]) rfl rfl rfl rfl (a_f W d hT (s : Int) (i : Int) (k : Int) (by omega) (by omega) (by omega) (by omega) (by omega) (by omega)) (fun rv hp9 q9 => ?_)
  obtain ⟨rfl, e9⟩ := q9
  rw [e9]
  have e : (264 * (s : Int) + 11 * (i : Int) + (k : Int) : Int) = ((264 * s + 11 * i + k : Nat) : Int) := by omega
  rw [e]
  show yG _ _ _ _ _ _ _ _ _ _ (yI ((264 * s + 11 * i + k : Nat) : Int) :: [yR 2089]) _
  refine yG.ialdF hT (p_field W) (lo := lo) (hi := hi) ((congrArg yfT (by omega)).trans ((yfT_of (by omega) hk).trans ht)) rfl (by omega) (by omega) (fun z e_z i_z l_z u_z => ?_)
  refine yG.ret rfl (fun _ _ => rfl) ?_
  exact yP.int ⟨i_z.1, i_z.2⟩ ⟨⟨z, rfl, l_z, u_z⟩, rfl⟩
theorem a_of_0_0 {hp : xH} (W : yWW G) (d : Nat) (hT : zTy G hp) (p2 : Int) (h0 : 0 ≤ p2) (h1 : p2 ≤ 23) : yC (xcall 89 xfts xpools xms (d + 2)) 471 [yR 2073, yI 0, yI p2, yI 0] hp (yQpi hp 0 1) := y_of W d hT 0 0 p2 0 1 h0 h1 (by decide) (by decide) rfl
theorem a_of_1_0 {hp : xH} (W : yWW G) (d : Nat) (hT : zTy G hp) (p2 : Int) (h0 : 0 ≤ p2) (h1 : p2 ≤ 23) : yC (xcall 89 xfts xpools xms (d + 2)) 471 [yR 2073, yI 1, yI p2, yI 0] hp (yQpi hp 0 2) := y_of W d hT 1 0 p2 0 2 h0 h1 (by decide) (by decide) rfl
theorem a_of_1_1 {hp : xH} (W : yWW G) (d : Nat) (hT : zTy G hp) (p2 : Int) (h0 : 0 ≤ p2) (h1 : p2 ≤ 23) : yC (xcall 89 xfts xpools xms (d + 2)) 471 [yR 2073, yI 1, yI p2, yI 1] hp (yQpi hp 0 999999) := y_of W d hT 1 1 p2 0 999999 h0 h1 (by decide) (by decide) rfl
theorem a_of_1_2 {hp : xH} (W : yWW G) (d : Nat) (hT : zTy G hp) (p2 : Int) (h0 : 0 ≤ p2) (h1 : p2 ≤ 23) : yC (xcall 89 xfts xpools xms (d + 2)) 471 [yR 2073, yI 1, yI p2, yI 2] hp (yQpi hp 0 1) := y_of W d hT 1 2 p2 0 1 h0 h1 (by decide) (by decide) rfl
theorem a_of_1_3 {hp : xH} (W : yWW G) (d : Nat) (hT : zTy G hp) (p2 : Int) (h0 : 0 ≤ p2) (h1 : p2 ≤ 23) : yC (xcall 89 xfts xpools xms (d + 2)) 471 [yR 2073, yI 1, yI p2, yI 3] hp (yQpi hp 0 15) := y_of W d hT 1 3 p2 0 15 h0 h1 (by decide) (by decide) rfl
theorem a_of_1_4 {hp : xH} (W : yWW G) (d : Nat) (hT : zTy G hp) (p2 : Int) (h0 : 0 ≤ p2) (h1 : p2 ≤ 23) : yC (xcall 89 xfts xpools xms (d + 2)) 471 [yR 2073, yI 1, yI p2, yI 4] hp (yQpi hp 0 15) := y_of W d hT 1 4 p2 0 15 h0 h1 (by decide) (by decide) rfl
theorem a_of_2_0 {hp : xH} (W : yWW G) (d : Nat) (hT : zTy G hp) (p2 : Int) (h0 : 0 ≤ p2) (h1 : p2 ≤ 23) : yC (xcall 89 xfts xpools xms (d + 2)) 471 [yR 2073, yI 2, yI p2, yI 0] hp (yQpi hp 0 1) := y_of W d hT 2 0 p2 0 1 h0 h1 (by decide) (by decide) rfl
theorem a_of_2_1 {hp : xH} (W : yWW G) (d : Nat) (hT : zTy G hp) (p2 : Int) (h0 : 0 ≤ p2) (h1 : p2 ≤ 23) : yC (xcall 89 xfts xpools xms (d + 2)) 471 [yR 2073, yI 2, yI p2, yI 1] hp (yQpi hp 0 99) := y_of W d hT 2 1 p2 0 99 h0 h1 (by decide) (by decide) rfl
theorem a_of_2_2 {hp : xH} (W : yWW G) (d : Nat) (hT : zTy G hp) (p2 : Int) (h0 : 0 ≤ p2) (h1 : p2 ≤ 23) : yC (xcall 89 xfts xpools xms (d + 2)) 471 [yR 2073, yI 2, yI p2, yI 2] hp (yQpi hp 0 299) := y_of W d hT 2 2 p2 0 299 h0 h1 (by decide) (by decide) rfl
theorem a_of_2_3 {hp : xH} (W : yWW G) (d : Nat) (hT : zTy G hp) (p2 : Int) (h0 : 0 ≤ p2) (h1 : p2 ≤ 23) : yC (xcall 89 xfts xpools xms (d + 2)) 471 [yR 2073, yI 2, yI p2, yI 3] hp (yQpi hp 0 9999) := y_of W d hT 2 3 p2 0 9999 h0 h1 (by decide) (by decide) rfl
theorem a_of_2_4 {hp : xH} (W : yWW G) (d : Nat) (hT : zTy G hp) (p2 : Int) (h0 : 0 ≤ p2) (h1 : p2 ≤ 23) : yC (xcall 89 xfts xpools xms (d + 2)) 471 [yR 2073, yI 2, yI p2, yI 4] hp (yQpi hp 0 15) := y_of W d hT 2 4 p2 0 15 h0 h1 (by decide) (by decide) rfl
theorem a_of_2_5 {hp : xH} (W : yWW G) (d : Nat) (hT : zTy G hp) (p2 : Int) (h0 : 0 ≤ p2) (h1 : p2 ≤ 23) : yC (xcall 89 xfts xpools xms (d + 2)) 471 [yR 2073, yI 2, yI p2, yI 5] hp (yQpi hp 0 15) := y_of W d hT 2 5 p2 0 15 h0 h1 (by decide) (by decide) rfl
theorem a_of_3_0 {hp : xH} (W : yWW G) (d : Nat) (hT : zTy G hp) (p2 : Int) (h0 : 0 ≤ p2) (h1 : p2 ≤ 23) : yC (xcall 89 xfts xpools xms (d + 2)) 471 [yR 2073, yI 3, yI p2, yI 0] hp (yQpi hp 0 1) := y_of W d hT 3 0 p2 0 1 h0 h1 (by decide) (by decide) rfl
theorem a_of_3_1 {hp : xH} (W : yWW G) (d : Nat) (hT : zTy G hp) (p2 : Int) (h0 : 0 ≤ p2) (h1 : p2 ≤ 23) : yC (xcall 89 xfts xpools xms (d + 2)) 471 [yR 2073, yI 3, yI p2, yI 1] hp (yQpi hp 0 9999) := y_of W d hT 3 1 p2 0 9999 h0 h1 (by decide) (by decide) rfl
theorem a_of_3_2 {hp : xH} (W : yWW G) (d : Nat) (hT : zTy G hp) (p2 : Int) (h0 : 0 ≤ p2) (h1 : p2 ≤ 23) : yC (xcall 89 xfts xpools xms (d + 2)) 471 [yR 2073, yI 3, yI p2, yI 2] hp (yQpi hp 0 99) := y_of W d hT 3 2 p2 0 99 h0 h1 (by decide) (by decide) rfl
theorem a_of_3_3 {hp : xH} (W : yWW G) (d : Nat) (hT : zTy G hp) (p2 : Int) (h0 : 0 ≤ p2) (h1 : p2 ≤ 23) : yC (xcall 89 xfts xpools xms (d + 2)) 471 [yR 2073, yI 3, yI p2, yI 3] hp (yQpi hp 0 299) := y_of W d hT 3 3 p2 0 299 h0 h1 (by decide) (by decide) rfl
theorem a_of_3_4 {hp : xH} (W : yWW G) (d : Nat) (hT : zTy G hp) (p2 : Int) (h0 : 0 ≤ p2) (h1 : p2 ≤ 23) : yC (xcall 89 xfts xpools xms (d + 2)) 471 [yR 2073, yI 3, yI p2, yI 4] hp (yQpi hp 0 9999) := y_of W d hT 3 4 p2 0 9999 h0 h1 (by decide) (by decide) rfl
theorem a_of_3_5 {hp : xH} (W : yWW G) (d : Nat) (hT : zTy G hp) (p2 : Int) (h0 : 0 ≤ p2) (h1 : p2 ≤ 23) : yC (xcall 89 xfts xpools xms (d + 2)) 471 [yR 2073, yI 3, yI p2, yI 5] hp (yQpi hp 0 9999) := y_of W d hT 3 5 p2 0 9999 h0 h1 (by decide) (by decide) rfl
theorem a_of_3_6 {hp : xH} (W : yWW G) (d : Nat) (hT : zTy G hp) (p2 : Int) (h0 : 0 ≤ p2) (h1 : p2 ≤ 23) : yC (xcall 89 xfts xpools xms (d + 2)) 471 [yR 2073, yI 3, yI p2, yI 6] hp (yQpi hp 0 999) := y_of W d hT 3 6 p2 0 999 h0 h1 (by decide) (by decide) rfl
theorem a_of_3_7 {hp : xH} (W : yWW G) (d : Nat) (hT : zTy G hp) (p2 : Int) (h0 : 0 ≤ p2) (h1 : p2 ≤ 23) : yC (xcall 89 xfts xpools xms (d + 2)) 471 [yR 2073, yI 3, yI p2, yI 7] hp (yQpi hp 0 9999) := y_of W d hT 3 7 p2 0 9999 h0 h1 (by decide) (by decide) rfl
theorem a_of_3_8 {hp : xH} (W : yWW G) (d : Nat) (hT : zTy G hp) (p2 : Int) (h0 : 0 ≤ p2) (h1 : p2 ≤ 23) : yC (xcall 89 xfts xpools xms (d + 2)) 471 [yR 2073, yI 3, yI p2, yI 8] hp (yQpi hp 0 999) := y_of W d hT 3 8 p2 0 999 h0 h1 (by decide) (by decide) rfl
theorem a_of_3_9 {hp : xH} (W : yWW G) (d : Nat) (hT : zTy G hp) (p2 : Int) (h0 : 0 ≤ p2) (h1 : p2 ≤ 23) : yC (xcall 89 xfts xpools xms (d + 2)) 471 [yR 2073, yI 3, yI p2, yI 9] hp (yQpi hp 0 9) := y_of W d hT 3 9 p2 0 9 h0 h1 (by decide) (by decide) rfl
theorem a_of_3_10 {hp : xH} (W : yWW G) (d : Nat) (hT : zTy G hp) (p2 : Int) (h0 : 0 ≤ p2) (h1 : p2 ≤ 23) : yC (xcall 89 xfts xpools xms (d + 2)) 471 [yR 2073, yI 3, yI p2, yI 10] hp (yQpi hp 0 15) := y_of W d hT 3 10 p2 0 15 h0 h1 (by decide) (by decide) rfl
theorem a_of_4_0 {hp : xH} (W : yWW G) (d : Nat) (hT : zTy G hp) (p2 : Int) (h0 : 0 ≤ p2) (h1 : p2 ≤ 23) : yC (xcall 89 xfts xpools xms (d + 2)) 471 [yR 2073, yI 4, yI p2, yI 0] hp (yQpi hp 0 9999) := y_of W d hT 4 0 p2 0 9999 h0 h1 (by decide) (by decide) rfl
theorem a_of_4_1 {hp : xH} (W : yWW G) (d : Nat) (hT : zTy G hp) (p2 : Int) (h0 : 0 ≤ p2) (h1 : p2 ≤ 23) : yC (xcall 89 xfts xpools xms (d + 2)) 471 [yR 2073, yI 4, yI p2, yI 1] hp (yQpi hp 0 15) := y_of W d hT 4 1 p2 0 15 h0 h1 (by decide) (by decide) rfl
theorem a_of_ends {hp : xH} (W : yWW G) (d : Nat) (hT : zTy G hp) (p2 p3 : Int) (h0 : 0 ≤ p2) (h1 : p2 ≤ 23) (h2 : 4 ≤ p3) (h3 : p3 ≤ 5) : yC (xcall 89 xfts xpools xms (d + 2)) 471 [yR 2073, yI 2, yI p2, yI p3] hp (yQpi hp 0 15) := by
  have : p3 = 4 ∨ p3 = 5 := by omega
  rcases this with rfl | rfl
  · exact a_of_2_4 W d hT p2 h0 h1
  · exact a_of_2_5 W d hT p2 h0 h1
theorem a_asItIs {hp : xH} (W : yWW G) (d : Nat) (hT : zTy G hp) : yC (xcall 89 xfts xpools xms (d + 3)) 353 [yR 2073] hp (yQv G [] [2098, 2099] hp) := by
  have A_hp : yAx G [] [2098, 2099] hp hp := yAx.rf hT
  have H : ∀ m : Nat, (∀ a1 : Int, ∀ hq, yAx G [] [2098, 2099] hp hq → 0 ≤ a1 → (-24) ≤ 0 - a1 → 0 - 43 * a1 + 1074 < (m : Int) → yG 89 xfts (xcall 89 xfts xpools xms (d + 2)) (xpool xp_RX13) [] xt_X13_asItIs (yP 0 (yQv G [] [2098, 2099] hp)) (19 * m) 2 [(0, yR 2073), (1, yI (a1))] [] hq) ∧ (∀ a1 : Int, ∀ hq, yAx G [] [2098, 2099] hp hq → 0 ≤ a1 → (-20) ≤ 0 - a1 → 0 - 2 * a1 + 41 < (m : Int) → yG 89 xfts (xcall 89 xfts xpools xms (d + 2)) (xpool xp_RX13) [] xt_X13_asItIs (yP 0 (yQv G [] [2098, 2099] hp)) (19 * m) 33 [(0, yR 2073), (1, yI (a1))] [] hq) := by
    intro m
    induction m with
    | zero =>
      refine ⟨?_, ?_⟩ <;> (intros; exfalso; omega)
    | succ m ih =>
      obtain ⟨i_2, i_33⟩ := ih
      refine ⟨?_, ?_⟩
      · intro a1 hq A_hq f0 f1 hm
        refine yG.mono (N := 19 * m + 19) ?_ (by omega)
        refine yG.load xik rfl (fun _ _ => rfl) (v := yI (a1)) rfl rfl ?_
        refine yG.load xak rfl (fun _ _ => rfl) (v := yR 2073) rfl rfl ?_
        refine yG.getR A_hq.1 (r_count W) rfl rfl ?_
        refine yG.num (c := 1) rfl (fun _ _ => rfl) (by decide) ?_
        refine yG.ialdF A_hq.1 (p_count W) rfl rfl (by omega) (by omega) (fun z1 e_z1 i_z1 l_z1 u_z1 => ?_)
        refine yG.icmp rfl (t := 31) rfl ⟨by omega, by omega⟩ ⟨by omega, by omega⟩ (fun c2 => ?_) (fun c2 => ?_)
        · have c2 : a1 ≥ z1 := c2
          refine yG.num (c := 0) rfl (fun _ _ => rfl) (by decide) ?_
          refine yG.store1 xik (L' := [(1, yI (0)), (0, yR 2073)]) rfl (fun _ _ => rfl) rfl rfl ?_
          exact yG.mono (yG.sub (i_33 (0)  hq A_hq  (by omega) (by omega) (by omega)) (ySub.cons rfl (ySub.cons rfl (ySub.nil)))) (by omega)
        · have c2 : a1 < z1 := c2
          refine yG.load xak rfl (fun _ _ => rfl) (v := yR 2073) rfl rfl ?_
          refine yG.getR A_hq.1 (r_stateNow W) rfl rfl ?_
          refine yG.load xik rfl (fun _ _ => rfl) (v := yI (a1)) rfl rfl ?_
          refine yG.load xak rfl (fun _ _ => rfl) (v := yR 2073) rfl rfl ?_
          refine yG.num (c := 1) rfl (fun _ _ => rfl) (by decide) ?_
          refine yG.load xik rfl (fun _ _ => rfl) (v := yI (a1)) rfl rfl ?_
          refine yG.num (c := 0) rfl (fun _ _ => rfl) (by decide) ?_
          refine yG.invV (rest := [yI (a1), yR 2098]) A_hq.1 W.m.1 rfl rfl rfl rfl (a_of_1_0 W d A_hq.1 (a1) (by omega) (by omega)) (fun rv hp9 q9 => ?_)
          obtain ⟨⟨z3, rfl, l_z3, u_z3⟩, e9⟩ := q9
          rw [e9]
          show yG _ _ _ _ _ _ _ _ _ _ (yI z3 :: [yI (a1), yR 2098]) _
          refine yG.iast A_hq.1 (v_stateNow W) (by decide) rfl (by omega) (by omega) ⟨by omega, by omega⟩ (by omega) (by omega) (fun h4 T_h4 b_h4 f_h4 y_h4 => ?_)
          have A_h4 := A_hq.putA T_h4 b_h4 f_h4 (by decide)
          refine yG.iinc rfl (a := a1) rfl (L' := [(1, yI (a1 + 1)), (0, yR 2073)]) rfl ?_
          refine yG.goto rfl (t := 2) rfl ?_
          exact yG.mono (yG.sub (i_2 (a1 + 1)  h4 A_h4  (by omega) (by omega) (by omega)) (ySub.cons rfl (ySub.cons rfl (ySub.nil)))) (by omega)
      · intro a1 hq A_hq f0 f1 hm
        refine yG.mono (N := 19 * m + 19) ?_ (by omega)
        refine yG.load xik rfl (fun _ _ => rfl) (v := yI (a1)) rfl rfl ?_
        refine yG.load xak rfl (fun _ _ => rfl) (v := yR 2073) rfl rfl ?_
        refine yG.getR A_hq.1 (r_count W) rfl rfl ?_
        refine yG.num (c := 2) rfl (fun _ _ => rfl) (by decide) ?_
        refine yG.ialdF A_hq.1 (p_count W) rfl rfl (by omega) (by omega) (fun z1 e_z1 i_z1 l_z1 u_z1 => ?_)
        refine yG.icmp rfl (t := 62) rfl ⟨by omega, by omega⟩ ⟨by omega, by omega⟩ (fun c2 => ?_) (fun c2 => ?_)
        · have c2 : a1 ≥ z1 := c2
          refine yG.ret rfl (fun _ _ => rfl) ?_
          exact yP.void ⟨rfl, A_hq⟩
        · have c2 : a1 < z1 := c2
          refine yG.load xak rfl (fun _ _ => rfl) (v := yR 2073) rfl rfl ?_
          refine yG.getR A_hq.1 (r_inNow W) rfl rfl ?_
          refine yG.load xik rfl (fun _ _ => rfl) (v := yI (a1)) rfl rfl ?_
          refine yG.load xak rfl (fun _ _ => rfl) (v := yR 2073) rfl rfl ?_
          refine yG.num (c := 2) rfl (fun _ _ => rfl) (by decide) ?_
          refine yG.load xik rfl (fun _ _ => rfl) (v := yI (a1)) rfl rfl ?_
          refine yG.num (c := 0) rfl (fun _ _ => rfl) (by decide) ?_
          refine yG.invV (rest := [yI (a1), yR 2099]) A_hq.1 W.m.1 rfl rfl rfl rfl (a_of_2_0 W d A_hq.1 (a1) (by omega) (by omega)) (fun rv hp9 q9 => ?_)
          obtain ⟨⟨z3, rfl, l_z3, u_z3⟩, e9⟩ := q9
          rw [e9]
          show yG _ _ _ _ _ _ _ _ _ _ (yI z3 :: [yI (a1), yR 2099]) _
          refine yG.iast A_hq.1 (v_inNow W) (by decide) rfl (by omega) (by omega) ⟨by omega, by omega⟩ (by omega) (by omega) (fun h4 T_h4 b_h4 f_h4 y_h4 => ?_)
          have A_h4 := A_hq.putA T_h4 b_h4 f_h4 (by decide)
          refine yG.iinc rfl (a := a1) rfl (L' := [(1, yI (a1 + 1)), (0, yR 2073)]) rfl ?_
          refine yG.goto rfl (t := 33) rfl ?_
          exact yG.mono (yG.sub (i_33 (a1 + 1)  h4 A_h4  (by omega) (by omega) (by omega)) (ySub.cons rfl (ySub.cons rfl (ySub.nil)))) (by omega)
  refine yC.of (M := (xt_X13_asItIs, (2, (0, (14, []))))) rfl rfl (N := 20463) (yfuel (by decide)) ?_
  show yG 89 xfts (xcall 89 xfts xpools xms (d + 2)) (xpool xp_RX13) [] xt_X13_asItIs (yP 0 (yQv G [] [2098, 2099] hp)) 20463 0 [(0, yR 2073)] [] hp
  obtain ⟨i_2, i_33⟩ := H 1076
  refine yG.num (c := 0) rfl (fun _ _ => rfl) (by decide) ?_
  refine yG.store1 xik (L' := [(1, yI (0)), (0, yR 2073)]) rfl (fun _ _ => rfl) rfl rfl ?_
  exact yG.mono (yG.sub (i_2 (0)  hp A_hp  (by omega) (by omega) (by omega)) (ySub.cons rfl (ySub.cons rfl (ySub.nil)))) (by omega)
theorem a_nodeOfLine {hp : xH} (W : yWW G) (d : Nat) (hT : zTy G hp) (p1 p2 : Int) (h1l : 0 ≤ p1) (h1u : p1 ≤ 19) (h2l : 0 ≤ p2) (h2u : p2 ≤ 1) : yC (xcall 89 xfts xpools xms (d + 3)) 468 [yR 2073, yI (p1), yI (p2)] hp (yQpi hp 0 15) := by
  have A_hp : yAx G [] [] hp hp := yAx.rf hT
  refine yC.of (M := (xt_X13_nodeOfLine, (3, (1, (14, []))))) rfl rfl (N := 39) (yfuel (by decide)) ?_
  show yG 89 xfts (xcall 89 xfts xpools xms (d + 2)) (xpool xp_RX13) [] xt_X13_nodeOfLine (yP 1 (yQpi hp 0 15)) 39 0 [(0, yR 2073), (1, yI (p1)), (2, yI (p2))] [] hp
  refine yG.load xak rfl (fun _ _ => rfl) (v := yR 2073) rfl rfl ?_
  refine yG.getR A_hp.1 (r_node W) rfl rfl ?_
  refine yG.load xak rfl (fun _ _ => rfl) (v := yR 2073) rfl rfl ?_
  refine yG.num (c := 2) rfl (fun _ _ => rfl) (by decide) ?_
  refine yG.load xik rfl (fun _ _ => rfl) (v := yI (p1)) rfl rfl ?_
  refine yG.num (c := 4) rfl (fun _ _ => rfl) (by decide) ?_
  refine yG.load xik rfl (fun _ _ => rfl) (v := yI (p2)) rfl rfl ?_
  refine yG.iadd rfl ?_
  refine yG.invV (rest := [yR 2100]) A_hp.1 W.m.1 rfl rfl rfl rfl (a_of_ends W d A_hp.1 (p1) (4 + p2) (by omega) (by omega) (by omega) (by omega)) (fun rv hp9 q9 => ?_)
  obtain ⟨⟨z1, rfl, l_z1, u_z1⟩, e9⟩ := q9
  rw [e9]
  show yG _ _ _ _ _ _ _ _ _ _ (yI z1 :: [yR 2100]) _
  refine yG.iald A_hp.1 (v_node W) rfl (by omega) (by omega) (fun z2 e_z2 i_z2 l_z2 u_z2 => ?_)
  refine yG.ret rfl (fun _ _ => rfl) ?_
  exact yP.int ⟨by omega, by omega⟩ ⟨⟨z2, rfl, by omega, by omega⟩, rfl⟩
theorem a_islandOfLine {hp : xH} (W : yWW G) (d : Nat) (hT : zTy G hp) (p1 : Int) (h1l : 0 ≤ p1) (h1u : p1 ≤ 19) : yC (xcall 89 xfts xpools xms (d + 3)) 437 [yR 2073, yI (p1)] hp (yQpi hp 0 15) := by
  have A_hp : yAx G [] [] hp hp := yAx.rf hT
  refine yC.of (M := (xt_X13_islandOfLine, (2, (1, (14, []))))) rfl rfl (N := 33) (yfuel (by decide)) ?_
  show yG 89 xfts (xcall 89 xfts xpools xms (d + 2)) (xpool xp_RX13) [] xt_X13_islandOfLine (yP 1 (yQpi hp 0 15)) 33 0 [(0, yR 2073), (1, yI (p1))] [] hp
  refine yG.load xak rfl (fun _ _ => rfl) (v := yR 2073) rfl rfl ?_
  refine yG.getR A_hp.1 (r_island W) rfl rfl ?_
  refine yG.load xak rfl (fun _ _ => rfl) (v := yR 2073) rfl rfl ?_
  refine yG.num (c := 2) rfl (fun _ _ => rfl) (by decide) ?_
  refine yG.load xik rfl (fun _ _ => rfl) (v := yI (p1)) rfl rfl ?_
  refine yG.num (c := 4) rfl (fun _ _ => rfl) (by decide) ?_
  refine yG.invV (rest := [yR 2101]) A_hp.1 W.m.1 rfl rfl rfl rfl (a_of_2_4 W d A_hp.1 (p1) (by omega) (by omega)) (fun rv hp9 q9 => ?_)
  obtain ⟨⟨z1, rfl, l_z1, u_z1⟩, e9⟩ := q9
  rw [e9]
  show yG _ _ _ _ _ _ _ _ _ _ (yI z1 :: [yR 2101]) _
  refine yG.iald A_hp.1 (v_island W) rfl (by omega) (by omega) (fun z2 e_z2 i_z2 l_z2 u_z2 => ?_)
  refine yG.ret rfl (fun _ _ => rfl) ?_
  exact yP.int ⟨by omega, by omega⟩ ⟨⟨z2, rfl, by omega, by omega⟩, rfl⟩
theorem a_isBetween {hp : xH} (W : yWW G) (d : Nat) (hT : zTy G hp) (p1 : Int) (h1l : 0 ≤ p1) (h1u : p1 ≤ 19) : yC (xcall 89 xfts xpools xms (d + 4)) 425 [yR 2073, yI (p1)] hp (yQpi hp 0 1) := by
  have A_hp : yAx G [] [] hp hp := yAx.rf hT
  refine yC.of (M := (xt_X13_isBetween, (2, (4, (14, []))))) rfl rfl (N := 60) (yfuel (by decide)) ?_
  show yG 89 xfts (xcall 89 xfts xpools xms (d + 3)) (xpool xp_RX13) [] xt_X13_isBetween (yP 4 (yQpi hp 0 1)) 60 0 [(0, yR 2073), (1, yI (p1))] [] hp
  refine yG.load xak rfl (fun _ _ => rfl) (v := yR 2073) rfl rfl ?_
  refine yG.getR A_hp.1 (r_inNow W) rfl rfl ?_
  refine yG.load xik rfl (fun _ _ => rfl) (v := yI (p1)) rfl rfl ?_
  refine yG.iald A_hp.1 (v_inNow W) rfl (by omega) (by omega) (fun z1 e_z1 i_z1 l_z1 u_z1 => ?_)
  refine yG.num (c := 1) rfl (fun _ _ => rfl) (by decide) ?_
  refine yG.icmp rfl (t := 29) rfl ⟨by omega, by omega⟩ ⟨by omega, by omega⟩ (fun c2 => ?_) (fun c2 => ?_)
  · have c2 : z1 ≠ 1 := c2
    refine yG.num (c := 0) rfl (fun _ _ => rfl) (by decide) ?_
    refine yG.ret rfl (fun _ _ => rfl) ?_
    exact yP.bool (by omega) ⟨⟨0, rfl, by omega, by omega⟩, rfl⟩
  · have c2 : z1 = 1 := c2
    refine yG.load xak rfl (fun _ _ => rfl) (v := yR 2073) rfl rfl ?_
    refine yG.load xik rfl (fun _ _ => rfl) (v := yI (p1)) rfl rfl ?_
    refine yG.num (c := 0) rfl (fun _ _ => rfl) (by decide) ?_
    refine yG.invV (rest := []) A_hp.1 W.m.1 rfl rfl rfl rfl (a_nodeOfLine W d A_hp.1 (p1) (0) (by omega) (by omega) (by omega) (by omega)) (fun rv hp9 q9 => ?_)
    obtain ⟨⟨z3, rfl, l_z3, u_z3⟩, e9⟩ := q9
    rw [e9]
    show yG _ _ _ _ _ _ _ _ _ _ (yI z3 :: []) _
    refine yG.load xak rfl (fun _ _ => rfl) (v := yR 2073) rfl rfl ?_
    refine yG.load xik rfl (fun _ _ => rfl) (v := yI (p1)) rfl rfl ?_
    refine yG.num (c := 1) rfl (fun _ _ => rfl) (by decide) ?_
    refine yG.invV (rest := [yI (z3)]) A_hp.1 W.m.1 rfl rfl rfl rfl (a_nodeOfLine W d A_hp.1 (p1) (1) (by omega) (by omega) (by omega) (by omega)) (fun rv hp9 q9 => ?_)
    obtain ⟨⟨z4, rfl, l_z4, u_z4⟩, e9⟩ := q9
    rw [e9]
    show yG _ _ _ _ _ _ _ _ _ _ (yI z4 :: [yI (z3)]) _
    refine yG.icmp rfl (t := 29) rfl ⟨by omega, by omega⟩ ⟨by omega, by omega⟩ (fun c5 => ?_) (fun c5 => ?_)
    · have c5 : z3 = z4 := c5
      refine yG.num (c := 0) rfl (fun _ _ => rfl) (by decide) ?_
      refine yG.ret rfl (fun _ _ => rfl) ?_
      exact yP.bool (by omega) ⟨⟨0, rfl, by omega, by omega⟩, rfl⟩
    · have c5 : z3 ≠ z4 := c5
      refine yG.num (c := 1) rfl (fun _ _ => rfl) (by decide) ?_
      refine yG.goto rfl (t := 30) rfl ?_
      refine yG.ret rfl (fun _ _ => rfl) ?_
      exact yP.bool (by omega) ⟨⟨1, rfl, by omega, by omega⟩, rfl⟩
theorem a_topology {hp : xH} (W : yWW G) (d : Nat) (hT : zTy G hp) : yC (xcall 89 xfts xpools xms (d + 3)) 534 [yR 2073] hp (yQv G [] [2100, 2101, 2102] hp) := by
  have A_hp : yAx G [] [2100, 2101, 2102] hp hp := yAx.rf hT
  have H : ∀ m : Nat, (∀ a1 : Int, ∀ hq, yAx G [] [2100, 2101, 2102] hp hq → 0 ≤ a1 → (-16) ≤ 0 - a1 → 0 - 134326 * a1 + 2283541 < (m : Int) → yG 89 xfts (xcall 89 xfts xpools xms (d + 2)) (xpool xp_RX13) [] xt_X13_topology (yP 0 (yQv G [] [2100, 2101, 2102] hp)) (30 * m) 2 [(0, yR 2073), (1, yI (a1))] [] hq) ∧ (∀ a1 : Int, ∀ hq, yAx G [] [2100, 2101, 2102] hp hq → 0 ≤ a1 → (-24) ≤ 0 - a1 → 0 - 5373 * a1 + 134324 < (m : Int) → yG 89 xfts (xcall 89 xfts xpools xms (d + 2)) (xpool xp_RX13) [] xt_X13_topology (yP 0 (yQv G [] [2100, 2101, 2102] hp)) (30 * m) 34 [(0, yR 2073), (1, yI (a1))] [] hq) ∧ (∀ a1 : Int, ∀ hq, yAx G [] [2100, 2101, 2102] hp hq → 0 ≤ a1 → (-16) ≤ 0 - a1 → 0 - 316 * a1 + 5371 < (m : Int) → yG 89 xfts (xcall 89 xfts xpools xms (d + 2)) (xpool xp_RX13) [] xt_X13_topology (yP 0 (yQv G [] [2100, 2101, 2102] hp)) (30 * m) 84 [(0, yR 2073), (1, yI (a1))] [] hq) ∧ (∀ a1 : Int, ∀ hq, yAx G [] [2100, 2101, 2102] hp hq → 0 ≤ a1 → (-20) ≤ 0 - a1 → 0 - 15 * a1 + 314 < (m : Int) → yG 89 xfts (xcall 89 xfts xpools xms (d + 2)) (xpool xp_RX13) [] xt_X13_topology (yP 0 (yQv G [] [2100, 2101, 2102] hp)) (30 * m) 114 [(0, yR 2073), (1, yI (a1))] [] hq) ∧ (∀ a1 : Int, ∀ hq, yAx G [] [2100, 2101, 2102] hp hq → 0 ≤ a1 → (-6) ≤ 0 - a1 → 0 - 2 * a1 + 13 < (m : Int) → yG 89 xfts (xcall 89 xfts xpools xms (d + 2)) (xpool xp_RX13) [] xt_X13_topology (yP 0 (yQv G [] [2100, 2101, 2102] hp)) (30 * m) 164 [(0, yR 2073), (1, yI (a1))] [] hq) := by
    intro m
    induction m with
    | zero =>
      refine ⟨?_, ?_, ?_, ?_, ?_⟩ <;> (intros; exfalso; omega)
    | succ m ih =>
      obtain ⟨i_2, i_34, i_84, i_114, i_164⟩ := ih
      refine ⟨?_, ?_, ?_, ?_, ?_⟩
      · intro a1 hq A_hq f0 f1 hm
        refine yG.mono (N := 30 * m + 30) ?_ (by omega)
        refine yG.load xik rfl (fun _ _ => rfl) (v := yI (a1)) rfl rfl ?_
        refine yG.load xak rfl (fun _ _ => rfl) (v := yR 2073) rfl rfl ?_
        refine yG.getR A_hq.1 (r_count W) rfl rfl ?_
        refine yG.num (c := 0) rfl (fun _ _ => rfl) (by decide) ?_
        refine yG.ialdF A_hq.1 (p_count W) rfl rfl (by omega) (by omega) (fun z1 e_z1 i_z1 l_z1 u_z1 => ?_)
        refine yG.icmp rfl (t := 32) rfl ⟨by omega, by omega⟩ ⟨by omega, by omega⟩ (fun c2 => ?_) (fun c2 => ?_)
        · have c2 : a1 ≥ z1 := c2
          refine yG.num (c := 0) rfl (fun _ _ => rfl) (by decide) ?_
          refine yG.store1 xik (L' := [(1, yI (0)), (0, yR 2073)]) rfl (fun _ _ => rfl) rfl rfl ?_
          exact yG.mono (yG.sub (i_34 (0)  hq A_hq  (by omega) (by omega) (by omega)) (ySub.cons rfl (ySub.cons rfl (ySub.nil)))) (by omega)
        · have c2 : a1 < z1 := c2
          refine yG.load xak rfl (fun _ _ => rfl) (v := yR 2073) rfl rfl ?_
          refine yG.getR A_hq.1 (r_node W) rfl rfl ?_
          refine yG.load xik rfl (fun _ _ => rfl) (v := yI (a1)) rfl rfl ?_
          refine yG.load xik rfl (fun _ _ => rfl) (v := yI (a1)) rfl rfl ?_
          refine yG.iast A_hq.1 (v_node W) (by decide) rfl (by omega) (by omega) ⟨by omega, by omega⟩ (by omega) (by omega) (fun h3 T_h3 b_h3 f_h3 y_h3 => ?_)
          have A_h3 := A_hq.putA T_h3 b_h3 f_h3 (by decide)
          refine yG.load xak rfl (fun _ _ => rfl) (v := yR 2073) rfl rfl ?_
          refine yG.getR A_h3.1 (r_isLive W) rfl rfl ?_
          refine yG.load xik rfl (fun _ _ => rfl) (v := yI (a1)) rfl rfl ?_
          refine yG.num (c := 0) rfl (fun _ _ => rfl) (by decide) ?_
          refine yG.bast A_h3.1 (v_isLive W) (by decide) rfl (by omega) (by omega) ⟨by omega, by omega⟩ (by omega) (by omega) (fun h4 T_h4 b_h4 f_h4 y_h4 => ?_)
          have A_h4 := A_h3.putA T_h4 b_h4 f_h4 (by decide)
          refine yG.iinc rfl (a := a1) rfl (L' := [(1, yI (a1 + 1)), (0, yR 2073)]) rfl ?_
          refine yG.goto rfl (t := 2) rfl ?_
          exact yG.mono (yG.sub (i_2 (a1 + 1)  h4 A_h4  (by omega) (by omega) (by omega)) (ySub.cons rfl (ySub.cons rfl (ySub.nil)))) (by omega)
      · intro a1 hq A_hq f0 f1 hm
        refine yG.mono (N := 30 * m + 30) ?_ (by omega)
        refine yG.load xik rfl (fun _ _ => rfl) (v := yI (a1)) rfl rfl ?_
        refine yG.load xak rfl (fun _ _ => rfl) (v := yR 2073) rfl rfl ?_
        refine yG.getR A_hq.1 (r_count W) rfl rfl ?_
        refine yG.num (c := 1) rfl (fun _ _ => rfl) (by decide) ?_
        refine yG.ialdF A_hq.1 (p_count W) rfl rfl (by omega) (by omega) (fun z1 e_z1 i_z1 l_z1 u_z1 => ?_)
        refine yG.icmp rfl (t := 82) rfl ⟨by omega, by omega⟩ ⟨by omega, by omega⟩ (fun c2 => ?_) (fun c2 => ?_)
        · have c2 : a1 ≥ z1 := c2
          refine yG.num (c := 0) rfl (fun _ _ => rfl) (by decide) ?_
          refine yG.store1 xik (L' := [(1, yI (0)), (0, yR 2073)]) rfl (fun _ _ => rfl) rfl rfl ?_
          exact yG.mono (yG.sub (i_84 (0)  hq A_hq  (by omega) (by omega) (by omega)) (ySub.cons rfl (ySub.cons rfl (ySub.nil)))) (by omega)
        · have c2 : a1 < z1 := c2
          refine yG.load xak rfl (fun _ _ => rfl) (v := yR 2073) rfl rfl ?_
          refine yG.getR A_hq.1 (r_stateNow W) rfl rfl ?_
          refine yG.load xik rfl (fun _ _ => rfl) (v := yI (a1)) rfl rfl ?_
          refine yG.iald A_hq.1 (v_stateNow W) rfl (by omega) (by omega) (fun z3 e_z3 i_z3 l_z3 u_z3 => ?_)
          refine yG.num (c := 1) rfl (fun _ _ => rfl) (by decide) ?_
          refine yG.icmp rfl (t := 76) rfl ⟨by omega, by omega⟩ ⟨by omega, by omega⟩ (fun c4 => ?_) (fun c4 => ?_)
          · have c4 : z3 ≠ 1 := c4
            refine yG.iinc rfl (a := a1) rfl (L' := [(1, yI (a1 + 1)), (0, yR 2073)]) rfl ?_
            refine yG.goto rfl (t := 34) rfl ?_
            exact yG.mono (yG.sub (i_34 (a1 + 1)  hq A_hq  (by omega) (by omega) (by omega)) (ySub.cons rfl (ySub.cons rfl (ySub.nil)))) (by omega)
          · have c4 : z3 = 1 := c4
            refine yG.load xak rfl (fun _ _ => rfl) (v := yR 2073) rfl rfl ?_
            refine yG.load xak rfl (fun _ _ => rfl) (v := yR 2073) rfl rfl ?_
            refine yG.getR A_hq.1 (r_node W) rfl rfl ?_
            refine yG.load xak rfl (fun _ _ => rfl) (v := yR 2073) rfl rfl ?_
            refine yG.num (c := 1) rfl (fun _ _ => rfl) (by decide) ?_
            refine yG.load xik rfl (fun _ _ => rfl) (v := yI (a1)) rfl rfl ?_
            refine yG.num (c := 3) rfl (fun _ _ => rfl) (by decide) ?_
            refine yG.invV (rest := [yR 2100, yR 2073]) A_hq.1 W.m.1 rfl rfl rfl rfl (a_of_1_3 W d A_hq.1 (a1) (by omega) (by omega)) (fun rv hp9 q9 => ?_)
            obtain ⟨⟨z5, rfl, l_z5, u_z5⟩, e9⟩ := q9
            rw [e9]
            show yG _ _ _ _ _ _ _ _ _ _ (yI z5 :: [yR 2100, yR 2073]) _
            refine yG.load xak rfl (fun _ _ => rfl) (v := yR 2073) rfl rfl ?_
            refine yG.num (c := 1) rfl (fun _ _ => rfl) (by decide) ?_
            refine yG.load xik rfl (fun _ _ => rfl) (v := yI (a1)) rfl rfl ?_
            refine yG.num (c := 4) rfl (fun _ _ => rfl) (by decide) ?_
            refine yG.invV (rest := [yI (z5), yR 2100, yR 2073]) A_hq.1 W.m.1 rfl rfl rfl rfl (a_of_1_4 W d A_hq.1 (a1) (by omega) (by omega)) (fun rv hp9 q9 => ?_)
            obtain ⟨⟨z6, rfl, l_z6, u_z6⟩, e9⟩ := q9
            rw [e9]
            show yG _ _ _ _ _ _ _ _ _ _ (yI z6 :: [yI (z5), yR 2100, yR 2073]) _
            refine yG.invV (rest := []) A_hq.1 W.m.1 rfl rfl rfl rfl (a_merge_node W (d + 1) A_hq.1 (z5) (z6) (by omega) (by omega) (by omega) (by omega)) (fun rv h8 q9 => ?_)
            obtain ⟨rfl, B_h8⟩ := q9
            have A_h8 := A_hq.tr (B_h8.sub (by decide) (by decide))
            show yG _ _ _ _ _ _ _ _ _ _ [] _
            refine yG.iinc rfl (a := a1) rfl (L' := [(1, yI (a1 + 1)), (0, yR 2073)]) rfl ?_
            refine yG.goto rfl (t := 34) rfl ?_
            exact yG.mono (yG.sub (i_34 (a1 + 1)  h8 A_h8  (by omega) (by omega) (by omega)) (ySub.cons rfl (ySub.cons rfl (ySub.nil)))) (by omega)
      · intro a1 hq A_hq f0 f1 hm
        refine yG.mono (N := 30 * m + 30) ?_ (by omega)
        refine yG.load xik rfl (fun _ _ => rfl) (v := yI (a1)) rfl rfl ?_
        refine yG.load xak rfl (fun _ _ => rfl) (v := yR 2073) rfl rfl ?_
        refine yG.getR A_hq.1 (r_count W) rfl rfl ?_
        refine yG.num (c := 0) rfl (fun _ _ => rfl) (by decide) ?_
        refine yG.ialdF A_hq.1 (p_count W) rfl rfl (by omega) (by omega) (fun z1 e_z1 i_z1 l_z1 u_z1 => ?_)
        refine yG.icmp rfl (t := 112) rfl ⟨by omega, by omega⟩ ⟨by omega, by omega⟩ (fun c2 => ?_) (fun c2 => ?_)
        · have c2 : a1 ≥ z1 := c2
          refine yG.num (c := 0) rfl (fun _ _ => rfl) (by decide) ?_
          refine yG.store1 xik (L' := [(1, yI (0)), (0, yR 2073)]) rfl (fun _ _ => rfl) rfl rfl ?_
          exact yG.mono (yG.sub (i_114 (0)  hq A_hq  (by omega) (by omega) (by omega)) (ySub.cons rfl (ySub.cons rfl (ySub.nil)))) (by omega)
        · have c2 : a1 < z1 := c2
          refine yG.load xak rfl (fun _ _ => rfl) (v := yR 2073) rfl rfl ?_
          refine yG.getR A_hq.1 (r_island W) rfl rfl ?_
          refine yG.load xik rfl (fun _ _ => rfl) (v := yI (a1)) rfl rfl ?_
          refine yG.load xak rfl (fun _ _ => rfl) (v := yR 2073) rfl rfl ?_
          refine yG.getR A_hq.1 (r_node W) rfl rfl ?_
          refine yG.load xik rfl (fun _ _ => rfl) (v := yI (a1)) rfl rfl ?_
          refine yG.iald A_hq.1 (v_node W) rfl (by omega) (by omega) (fun z3 e_z3 i_z3 l_z3 u_z3 => ?_)
          refine yG.iast A_hq.1 (v_island W) (by decide) rfl (by omega) (by omega) ⟨by omega, by omega⟩ (by omega) (by omega) (fun h4 T_h4 b_h4 f_h4 y_h4 => ?_)
          have A_h4 := A_hq.putA T_h4 b_h4 f_h4 (by decide)
          refine yG.iinc rfl (a := a1) rfl (L' := [(1, yI (a1 + 1)), (0, yR 2073)]) rfl ?_
          refine yG.goto rfl (t := 84) rfl ?_
          exact yG.mono (yG.sub (i_84 (a1 + 1)  h4 A_h4  (by omega) (by omega) (by omega)) (ySub.cons rfl (ySub.cons rfl (ySub.nil)))) (by omega)
      · intro a1 hq A_hq f0 f1 hm
        refine yG.mono (N := 30 * m + 30) ?_ (by omega)
        refine yG.load xik rfl (fun _ _ => rfl) (v := yI (a1)) rfl rfl ?_
        refine yG.load xak rfl (fun _ _ => rfl) (v := yR 2073) rfl rfl ?_
        refine yG.getR A_hq.1 (r_count W) rfl rfl ?_
        refine yG.num (c := 2) rfl (fun _ _ => rfl) (by decide) ?_
        refine yG.ialdF A_hq.1 (p_count W) rfl rfl (by omega) (by omega) (fun z1 e_z1 i_z1 l_z1 u_z1 => ?_)
        refine yG.icmp rfl (t := 162) rfl ⟨by omega, by omega⟩ ⟨by omega, by omega⟩ (fun c2 => ?_) (fun c2 => ?_)
        · have c2 : a1 ≥ z1 := c2
          refine yG.num (c := 0) rfl (fun _ _ => rfl) (by decide) ?_
          refine yG.store1 xik (L' := [(1, yI (0)), (0, yR 2073)]) rfl (fun _ _ => rfl) rfl rfl ?_
          exact yG.mono (yG.sub (i_164 (0)  hq A_hq  (by omega) (by omega) (by omega)) (ySub.cons rfl (ySub.cons rfl (ySub.nil)))) (by omega)
        · have c2 : a1 < z1 := c2
          refine yG.load xak rfl (fun _ _ => rfl) (v := yR 2073) rfl rfl ?_
          refine yG.getR A_hq.1 (r_inNow W) rfl rfl ?_
          refine yG.load xik rfl (fun _ _ => rfl) (v := yI (a1)) rfl rfl ?_
          refine yG.iald A_hq.1 (v_inNow W) rfl (by omega) (by omega) (fun z3 e_z3 i_z3 l_z3 u_z3 => ?_)
          refine yG.num (c := 1) rfl (fun _ _ => rfl) (by decide) ?_
          refine yG.icmp rfl (t := 156) rfl ⟨by omega, by omega⟩ ⟨by omega, by omega⟩ (fun c4 => ?_) (fun c4 => ?_)
          · have c4 : z3 ≠ 1 := c4
            refine yG.iinc rfl (a := a1) rfl (L' := [(1, yI (a1 + 1)), (0, yR 2073)]) rfl ?_
            refine yG.goto rfl (t := 114) rfl ?_
            exact yG.mono (yG.sub (i_114 (a1 + 1)  hq A_hq  (by omega) (by omega) (by omega)) (ySub.cons rfl (ySub.cons rfl (ySub.nil)))) (by omega)
          · have c4 : z3 = 1 := c4
            refine yG.load xak rfl (fun _ _ => rfl) (v := yR 2073) rfl rfl ?_
            refine yG.load xak rfl (fun _ _ => rfl) (v := yR 2073) rfl rfl ?_
            refine yG.getR A_hq.1 (r_island W) rfl rfl ?_
            refine yG.load xak rfl (fun _ _ => rfl) (v := yR 2073) rfl rfl ?_
            refine yG.num (c := 2) rfl (fun _ _ => rfl) (by decide) ?_
            refine yG.load xik rfl (fun _ _ => rfl) (v := yI (a1)) rfl rfl ?_
            refine yG.num (c := 4) rfl (fun _ _ => rfl) (by decide) ?_
            refine yG.invV (rest := [yR 2101, yR 2073]) A_hq.1 W.m.1 rfl rfl rfl rfl (a_of_2_4 W d A_hq.1 (a1) (by omega) (by omega)) (fun rv hp9 q9 => ?_)
            obtain ⟨⟨z5, rfl, l_z5, u_z5⟩, e9⟩ := q9
            rw [e9]
            show yG _ _ _ _ _ _ _ _ _ _ (yI z5 :: [yR 2101, yR 2073]) _
            refine yG.load xak rfl (fun _ _ => rfl) (v := yR 2073) rfl rfl ?_
            refine yG.num (c := 2) rfl (fun _ _ => rfl) (by decide) ?_
            refine yG.load xik rfl (fun _ _ => rfl) (v := yI (a1)) rfl rfl ?_
            refine yG.num (c := 5) rfl (fun _ _ => rfl) (by decide) ?_
            refine yG.invV (rest := [yI (z5), yR 2101, yR 2073]) A_hq.1 W.m.1 rfl rfl rfl rfl (a_of_2_5 W d A_hq.1 (a1) (by omega) (by omega)) (fun rv hp9 q9 => ?_)
            obtain ⟨⟨z6, rfl, l_z6, u_z6⟩, e9⟩ := q9
            rw [e9]
            show yG _ _ _ _ _ _ _ _ _ _ (yI z6 :: [yI (z5), yR 2101, yR 2073]) _
            refine yG.invV (rest := []) A_hq.1 W.m.1 rfl rfl rfl rfl (a_merge_island W (d + 1) A_hq.1 (z5) (z6) (by omega) (by omega) (by omega) (by omega)) (fun rv h8 q9 => ?_)
            obtain ⟨rfl, B_h8⟩ := q9
            have A_h8 := A_hq.tr (B_h8.sub (by decide) (by decide))
            show yG _ _ _ _ _ _ _ _ _ _ [] _
            refine yG.iinc rfl (a := a1) rfl (L' := [(1, yI (a1 + 1)), (0, yR 2073)]) rfl ?_
            refine yG.goto rfl (t := 114) rfl ?_
            exact yG.mono (yG.sub (i_114 (a1 + 1)  h8 A_h8  (by omega) (by omega) (by omega)) (ySub.cons rfl (ySub.cons rfl (ySub.nil)))) (by omega)
      · intro a1 hq A_hq f0 f1 hm
        refine yG.mono (N := 30 * m + 30) ?_ (by omega)
        refine yG.load xik rfl (fun _ _ => rfl) (v := yI (a1)) rfl rfl ?_
        refine yG.load xak rfl (fun _ _ => rfl) (v := yR 2073) rfl rfl ?_
        refine yG.getR A_hq.1 (r_count W) rfl rfl ?_
        refine yG.num (c := 3) rfl (fun _ _ => rfl) (by decide) ?_
        refine yG.ialdF A_hq.1 (p_count W) rfl rfl (by omega) (by omega) (fun z1 e_z1 i_z1 l_z1 u_z1 => ?_)
        refine yG.icmp rfl (t := 210) rfl ⟨by omega, by omega⟩ ⟨by omega, by omega⟩ (fun c2 => ?_) (fun c2 => ?_)
        · have c2 : a1 ≥ z1 := c2
          refine yG.ret rfl (fun _ _ => rfl) ?_
          exact yP.void ⟨rfl, A_hq⟩
        · have c2 : a1 < z1 := c2
          refine yG.load xak rfl (fun _ _ => rfl) (v := yR 2073) rfl rfl ?_
          refine yG.num (c := 3) rfl (fun _ _ => rfl) (by decide) ?_
          refine yG.load xik rfl (fun _ _ => rfl) (v := yI (a1)) rfl rfl ?_
          refine yG.num (c := 0) rfl (fun _ _ => rfl) (by decide) ?_
          refine yG.invV (rest := []) A_hq.1 W.m.1 rfl rfl rfl rfl (a_of_3_0 W d A_hq.1 (a1) (by omega) (by omega)) (fun rv hp9 q9 => ?_)
          obtain ⟨⟨z3, rfl, l_z3, u_z3⟩, e9⟩ := q9
          rw [e9]
          show yG _ _ _ _ _ _ _ _ _ _ (yI z3 :: []) _
          refine yG.num (c := 1) rfl (fun _ _ => rfl) (by decide) ?_
          refine yG.icmp rfl (t := 204) rfl ⟨by omega, by omega⟩ ⟨by omega, by omega⟩ (fun c4 => ?_) (fun c4 => ?_)
          · have c4 : z3 ≠ 1 := c4
            refine yG.iinc rfl (a := a1) rfl (L' := [(1, yI (a1 + 1)), (0, yR 2073)]) rfl ?_
            refine yG.goto rfl (t := 164) rfl ?_
            exact yG.mono (yG.sub (i_164 (a1 + 1)  hq A_hq  (by omega) (by omega) (by omega)) (ySub.cons rfl (ySub.cons rfl (ySub.nil)))) (by omega)
          · have c4 : z3 = 1 := c4
            refine yG.load xak rfl (fun _ _ => rfl) (v := yR 2073) rfl rfl ?_
            refine yG.getR A_hq.1 (r_isLive W) rfl rfl ?_
            refine yG.load xak rfl (fun _ _ => rfl) (v := yR 2073) rfl rfl ?_
            refine yG.getR A_hq.1 (r_island W) rfl rfl ?_
            refine yG.load xak rfl (fun _ _ => rfl) (v := yR 2073) rfl rfl ?_
            refine yG.num (c := 3) rfl (fun _ _ => rfl) (by decide) ?_
            refine yG.load xik rfl (fun _ _ => rfl) (v := yI (a1)) rfl rfl ?_
            refine yG.num (c := 10) rfl (fun _ _ => rfl) (by decide) ?_
            refine yG.invV (rest := [yR 2101, yR 2102]) A_hq.1 W.m.1 rfl rfl rfl rfl (a_of_3_10 W d A_hq.1 (a1) (by omega) (by omega)) (fun rv hp9 q9 => ?_)
            obtain ⟨⟨z5, rfl, l_z5, u_z5⟩, e9⟩ := q9
            rw [e9]
            show yG _ _ _ _ _ _ _ _ _ _ (yI z5 :: [yR 2101, yR 2102]) _
            refine yG.iald A_hq.1 (v_island W) rfl (by omega) (by omega) (fun z6 e_z6 i_z6 l_z6 u_z6 => ?_)
            refine yG.num (c := 1) rfl (fun _ _ => rfl) (by decide) ?_
            refine yG.bast A_hq.1 (v_isLive W) (by decide) rfl (by omega) (by omega) ⟨by omega, by omega⟩ (by omega) (by omega) (fun h7 T_h7 b_h7 f_h7 y_h7 => ?_)
            have A_h7 := A_hq.putA T_h7 b_h7 f_h7 (by decide)
            refine yG.iinc rfl (a := a1) rfl (L' := [(1, yI (a1 + 1)), (0, yR 2073)]) rfl ?_
            refine yG.goto rfl (t := 164) rfl ?_
            exact yG.mono (yG.sub (i_164 (a1 + 1)  h7 A_h7  (by omega) (by omega) (by omega)) (ySub.cons rfl (ySub.cons rfl (ySub.nil)))) (by omega)
  refine yC.of (M := (xt_X13_topology, (2, (0, (14, []))))) rfl rfl (N := 68506320) (yfuel (by decide)) ?_
  show yG 89 xfts (xcall 89 xfts xpools xms (d + 2)) (xpool xp_RX13) [] xt_X13_topology (yP 0 (yQv G [] [2100, 2101, 2102] hp)) 68506320 0 [(0, yR 2073)] [] hp
  obtain ⟨i_2, i_34, i_84, i_114, i_164⟩ := H 2283543
  refine yG.num (c := 0) rfl (fun _ _ => rfl) (by decide) ?_
  refine yG.store1 xik (L' := [(1, yI (0)), (0, yR 2073)]) rfl (fun _ _ => rfl) rfl rfl ?_
  exact yG.mono (yG.sub (i_2 (0)  hp A_hp  (by omega) (by omega) (by omega)) (ySub.cons rfl (ySub.cons rfl (ySub.nil)))) (by omega)
theorem a_netTopology {hp : xH} (W : yWW G) (d : Nat) (hT : zTy G hp) : yC (xcall 89 xfts xpools xms (d + 4)) 464 [yR 2073] hp (yQv G [] [2098, 2099, 2100, 2101, 2102] hp) := by
  have A_hp : yAx G [] [2098, 2099, 2100, 2101, 2102] hp hp := yAx.rf hT
  refine yC.of (M := (xt_X13_netTopology, (1, (0, (14, []))))) rfl rfl (N := 30) (yfuel (by decide)) ?_
  show yG 89 xfts (xcall 89 xfts xpools xms (d + 3)) (xpool xp_RX13) [] xt_X13_netTopology (yP 0 (yQv G [] [2098, 2099, 2100, 2101, 2102] hp)) 30 0 [(0, yR 2073)] [] hp
  refine yG.load xak rfl (fun _ _ => rfl) (v := yR 2073) rfl rfl ?_
  refine yG.getI A_hp.1 (w_hasFlows W) rfl rfl (fun z1 e_z1 i_z1 l_z1 u_z1 => ?_)
  refine yG.ifz rfl (t := 15) rfl ⟨by omega, by omega⟩ (fun c2 => ?_) (fun c2 => ?_)
  · have c2 : z1 ≠ 0 := c2
    refine yG.ret rfl (fun _ _ => rfl) ?_
    exact yP.void ⟨rfl, A_hp⟩
  · have c2 : z1 = 0 := c2
    refine yG.load xak rfl (fun _ _ => rfl) (v := yR 2073) rfl rfl ?_
    refine yG.invV (rest := []) A_hp.1 W.m.1 rfl rfl rfl rfl (a_asItIs W d A_hp.1) (fun rv h4 q9 => ?_)
    obtain ⟨rfl, B_h4⟩ := q9
    have A_h4 := A_hp.tr (B_h4.sub (by decide) (by decide))
    have g40_h4 : ys h4 2073 40 = ys hp 2073 40 := B_h4.ys (by decide) (by decide)
    show yG _ _ _ _ _ _ _ _ _ _ [] _
    refine yG.load xak rfl (fun _ _ => rfl) (v := yR 2073) rfl rfl ?_
    refine yG.invV (rest := []) A_h4.1 W.m.1 rfl rfl rfl rfl (a_topology W d A_h4.1) (fun rv h6 q9 => ?_)
    obtain ⟨rfl, B_h6⟩ := q9
    have A_h6 := A_h4.tr (B_h6.sub (by decide) (by decide))
    have g40_h6 : ys h6 2073 40 = ys h4 2073 40 := B_h6.ys (by decide) (by decide)
    show yG _ _ _ _ _ _ _ _ _ _ [] _
    refine yG.ret rfl (fun _ _ => rfl) ?_
    exact yP.void ⟨rfl, A_h6⟩
theorem a_mod {hp : xH} (W : yWW G) (d : Nat) (hT : zTy G hp) (p1 : Int) (h1l : (-9223372036854775808) ≤ p1) (h1u : p1 ≤ 9223372036854775807) (q11l : 1 ≤ ys hp 2073 11) (q11u : ys hp 2073 11 ≤ 2147483647) : yC (xcall 89 xfts xpools xms (d + 1)) 457 [yR 2073, yJ (p1)] hp (yQpj hp 0 2147483646) := by
  have A_hp : yAx G [] [] hp hp := yAx.rf hT
  refine yC.of (M := (xt_X13_mod, (5, (2, (14, []))))) rfl rfl (N := 51) (yfuel (by decide)) ?_
  show yG 89 xfts (xcall 89 xfts xpools xms d) (xpool xp_RX13) [] xt_X13_mod (yP 2 (yQpj hp 0 2147483646)) 51 0 [(0, yR 2073), (1, yJ (p1))] [] hp
  obtain ⟨gg11, E_11⟩ : ∃ z : Int, ys hp 2073 11 = z := ⟨_, rfl⟩
  obtain ⟨-, -, r_11l, r_11u⟩ := (w_p W).long hT
  refine yG.load xlk2 rfl (fun _ _ => rfl) (v := yJ (p1)) rfl rfl ?_
  refine yG.load xak rfl (fun _ _ => rfl) (v := yR 2073) rfl rfl ?_
  refine yG.getJ A_hp.1 (w_p W) rfl rfl (fun z1 e_z1 i_z1 l_z1 u_z1 => ?_)
  refine yG.lremS rfl ⟨by omega, by omega⟩ ⟨by omega, by omega⟩ (by omega) (fun z2 l_z2 u_z2 => ?_)
  refine yG.store2 xlk2 (L' := [(3, yJ (z2)), (0, yR 2073), (1, yJ (p1))]) rfl (fun _ _ => rfl) rfl rfl ?_
  refine yG.load xlk2 rfl (fun _ _ => rfl) (v := yJ (z2)) rfl rfl ?_
  refine yG.numl (c := 0) rfl (fun _ _ => rfl) (by decide) ?_
  refine yG.lcmp rfl ⟨by omega, by omega⟩ ⟨by omega, by omega⟩ (fun z3 e_z3 => ?_)
  refine yG.ifz rfl (t := 22) rfl ⟨by omega, by omega⟩ (fun c4 => ?_) (fun c4 => ?_)
  · have c4 : z3 ≥ 0 := c4
    refine yG.load xlk2 rfl (fun _ _ => rfl) (v := yJ (z2)) rfl rfl ?_
    refine yG.ret rfl (fun _ _ => rfl) ?_
    exact yP.long ⟨by omega, by omega⟩ ⟨⟨z2, rfl, by omega, by omega⟩, rfl⟩
  · have c4 : z3 < 0 := c4
    refine yG.load xlk2 rfl (fun _ _ => rfl) (v := yJ (z2)) rfl rfl ?_
    refine yG.load xak rfl (fun _ _ => rfl) (v := yR 2073) rfl rfl ?_
    refine yG.getJ A_hp.1 (w_p W) rfl rfl (fun z5 e_z5 i_z5 l_z5 u_z5 => ?_)
    refine yG.ladd rfl ?_
    refine yG.goto rfl (t := 23) rfl ?_
    refine yG.ret rfl (fun _ _ => rfl) ?_
    exact yP.long ⟨by omega, by omega⟩ ⟨⟨z2 + z5, rfl, by omega, by omega⟩, rfl⟩
theorem a_usePrime {hp : xH} (W : yWW G) (d : Nat) (hT : zTy G hp) (p1 : Int) (h1l : 0 ≤ p1) (h1u : p1 ≤ 39) (q10l : 0 ≤ ys hp 2073 10) (q10u : ys hp 2073 10 ≤ 39) : yC (xcall 89 xfts xpools xms (d + 1)) 537 [yR 2073, yI (p1)] hp (yQv G [10] [2082] hp) := by
  have A_hp : yAx G [10] [2082] hp hp := yAx.rf hT
  refine yC.of (M := (xt_X13_usePrime, (2, (0, (14, []))))) rfl rfl (N := 45) (yfuel (by decide)) ?_
  show yG 89 xfts (xcall 89 xfts xpools xms d) (xpool xp_RX13) [] xt_X13_usePrime (yP 0 (yQv G [10] [2082] hp)) 45 0 [(0, yR 2073), (1, yI (p1))] [] hp
  obtain ⟨gg10, E_10⟩ : ∃ z : Int, ys hp 2073 10 = z := ⟨_, rfl⟩
  obtain ⟨-, -, r_10l, r_10u⟩ := (w_usedCount W).int hT
  refine yG.load xak rfl (fun _ _ => rfl) (v := yR 2073) rfl rfl ?_
  refine yG.getR A_hp.1 (r_used W) rfl rfl ?_
  refine yG.load xak rfl (fun _ _ => rfl) (v := yR 2073) rfl rfl ?_
  refine yG.getI A_hp.1 (w_usedCount W) rfl rfl (fun z1 e_z1 i_z1 l_z1 u_z1 => ?_)
  refine yG.load xik rfl (fun _ _ => rfl) (v := yI (p1)) rfl rfl ?_
  refine yG.iast A_hp.1 (v_used W) (by decide) rfl (by omega) (by omega) ⟨by omega, by omega⟩ (by omega) (by omega) (fun h2 T_h2 b_h2 f_h2 y_h2 => ?_)
  have A_h2 := A_hp.putA T_h2 b_h2 f_h2 (by decide)
  have g10_h2 : ys h2 2073 10 = ys hp 2073 10 := (y_h2 2073 10).trans (if_neg (by omega))
  refine yG.load xak rfl (fun _ _ => rfl) (v := yR 2073) rfl rfl ?_
  refine yG.step (pc' := 12) (stk' := [yR 2073, yR 2073]) rfl (fun _ _ => rfl) ?_
  refine yG.getI A_h2.1 (w_usedCount W) rfl rfl (fun z3 e_z3 i_z3 l_z3 u_z3 => ?_)
  refine yG.num (c := 1) rfl (fun _ _ => rfl) (by decide) ?_
  refine yG.iadd rfl ?_
  refine yG.putI A_h2.1 (w_usedCount W) (by decide) rfl rfl (.inl rfl) ⟨by omega, by omega⟩ (by omega) (by omega) (fun h4 T_h4 b_h4 f_h4 y_h4 => ?_)
  have A_h4 := A_h2.putF T_h4 b_h4 f_h4 (by decide)
  have g10_h4 : ys h4 2073 10 = z3 + 1 := (y_h4 2073 10).trans (if_pos ⟨rfl, rfl⟩)
  refine yG.ret rfl (fun _ _ => rfl) ?_
  exact yP.void ⟨rfl, A_h4⟩
theorem a_tell {hp : xH} (W : yWW G) (d : Nat) (hT : zTy G hp) (p1 p2 : Int) (h1l : 0 ≤ p1) (h1u : p1 ≤ 179) (h2l : 0 ≤ p2) (h2u : p2 ≤ 2147483646) (q10l : 0 ≤ ys hp 2073 10) (q10u : ys hp 2073 10 ≤ 39) : yC (xcall 89 xfts xpools xms (d + 1)) 527 [yR 2073, yI (p1), yJ (p2)] hp (yQv G [] [2081] hp) := by
  have A_hp : yAx G [] [2081] hp hp := yAx.rf hT
  refine yC.of (M := (xt_X13_tell, (4, (0, (14, []))))) rfl rfl (N := 39) (yfuel (by decide)) ?_
  show yG 89 xfts (xcall 89 xfts xpools xms d) (xpool xp_RX13) [] xt_X13_tell (yP 0 (yQv G [] [2081] hp)) 39 0 [(0, yR 2073), (1, yI (p1)), (2, yJ (p2))] [] hp
  obtain ⟨gg10, E_10⟩ : ∃ z : Int, ys hp 2073 10 = z := ⟨_, rfl⟩
  obtain ⟨-, -, r_10l, r_10u⟩ := (w_usedCount W).int hT
  refine yG.load xak rfl (fun _ _ => rfl) (v := yR 2073) rfl rfl ?_
  refine yG.getR A_hp.1 (r_residue W) rfl rfl ?_
  refine yG.num (c := 180) rfl (fun _ _ => rfl) (by decide) ?_
  refine yG.load xak rfl (fun _ _ => rfl) (v := yR 2073) rfl rfl ?_
  refine yG.getI A_hp.1 (w_usedCount W) rfl rfl (fun z1 e_z1 i_z1 l_z1 u_z1 => ?_)
  refine yG.imul rfl ?_
  refine yG.load xik rfl (fun _ _ => rfl) (v := yI (p1)) rfl rfl ?_
  refine yG.iadd rfl ?_
  refine yG.load xlk2 rfl (fun _ _ => rfl) (v := yJ (p2)) rfl rfl ?_
  refine yG.last A_hp.1 (v_residue W) (by decide) rfl (by omega) (by omega) ⟨by omega, by omega⟩ (by omega) (by omega) (fun h2 T_h2 b_h2 f_h2 y_h2 => ?_)
  have A_h2 := A_hp.putA T_h2 b_h2 f_h2 (by decide)
  have g10_h2 : ys h2 2073 10 = ys hp 2073 10 := (y_h2 2073 10).trans (if_neg (by omega))
  refine yG.ret rfl (fun _ _ => rfl) ?_
  exact yP.void ⟨rfl, A_h2⟩
theorem a_times_ {hp : xH} (W : yWW G) (d : Nat) (hT : zTy G hp) (p1 : Int) (h1l : 0 ≤ p1) (h1u : p1 ≤ 15) : yC (xcall 89 xfts xpools xms (d + 1)) 532 [yR 2073, yI (p1)] hp (yQpj hp (-9223372036854775808) 9223372036854775807) := by
  have A_hp : yAx G [] [] hp hp := yAx.rf hT
  refine yC.of (M := (xt_X13_times_, (2, (2, (14, []))))) rfl rfl (N := 42) (yfuel (by decide)) ?_
  show yG 89 xfts (xcall 89 xfts xpools xms d) (xpool xp_RX13) [] xt_X13_times_ (yP 2 (yQpj hp (-9223372036854775808) 9223372036854775807)) 42 0 [(0, yR 2073), (1, yI (p1))] [] hp
  refine yG.load xak rfl (fun _ _ => rfl) (v := yR 2073) rfl rfl ?_
  refine yG.getR A_hp.1 (r_share W) rfl rfl ?_
  refine yG.load xik rfl (fun _ _ => rfl) (v := yI (p1)) rfl rfl ?_
  refine yG.lald A_hp.1 (v_share W) rfl (by omega) (by omega) (fun z1 e_z1 i_z1 l_z1 u_z1 => ?_)
  refine yG.numl (c := 0) rfl (fun _ _ => rfl) (by decide) ?_
  refine yG.lcmp rfl ⟨by omega, by omega⟩ ⟨by omega, by omega⟩ (fun z2 e_z2 => ?_)
  refine yG.ifz rfl (t := 15) rfl ⟨by omega, by omega⟩ (fun c3 => ?_) (fun c3 => ?_)
  · have c3 : z2 ≠ 0 := c3
    refine yG.load xak rfl (fun _ _ => rfl) (v := yR 2073) rfl rfl ?_
    refine yG.getR A_hp.1 (r_share W) rfl rfl ?_
    refine yG.load xik rfl (fun _ _ => rfl) (v := yI (p1)) rfl rfl ?_
    refine yG.lald A_hp.1 (v_share W) rfl (by omega) (by omega) (fun z4 e_z4 i_z4 l_z4 u_z4 => ?_)
    refine yG.ret rfl (fun _ _ => rfl) ?_
    exact yP.long ⟨by omega, by omega⟩ ⟨⟨z4, rfl, by omega, by omega⟩, rfl⟩
  · have c3 : z2 = 0 := c3
    refine yG.numl (c := 1) rfl (fun _ _ => rfl) (by decide) ?_
    refine yG.goto rfl (t := 21) rfl ?_
    refine yG.ret rfl (fun _ _ => rfl) ?_
    exact yP.long ⟨by omega, by omega⟩ ⟨⟨1, rfl, by omega, by omega⟩, rfl⟩
theorem a_putAllIn {hp : xH} (W : yWW G) (d : Nat) (hT : zTy G hp) (p1 : Int) (h1l : 0 ≤ p1) (h1u : p1 ≤ 15) : yC (xcall 89 xfts xpools xms (d + 3)) 486 [yR 2073, yI (p1)] hp (yQv G [] [2109] hp) := by
  have A_hp : yAx G [] [2109] hp hp := yAx.rf hT
  have H : ∀ m : Nat, (∀ a2 : Int, ∀ hq, yAx G [] [2109] hp hq → 0 ≤ a2 → (-16) ≤ 0 - a2 → 0 - 190 * a2 + 3229 < (m : Int) → yG 89 xfts (xcall 89 xfts xpools xms (d + 2)) (xpool xp_RX13) [] xt_X13_putAllIn (yP 0 (yQv G [] [2109] hp)) (68 * m) 2 [(0, yR 2073), (1, yI (p1)), (2, yI (a2))] [] hq) ∧ (∀ a2 : Int, ∀ hq, yAx G [] [2109] hp hq → 0 ≤ a2 → (-6) ≤ 0 - a2 → 0 - 27 * a2 + 188 < (m : Int) → yG 89 xfts (xcall 89 xfts xpools xms (d + 2)) (xpool xp_RX13) [] xt_X13_putAllIn (yP 0 (yQv G [] [2109] hp)) (68 * m) 27 [(0, yR 2073), (1, yI (p1)), (2, yI (a2))] [] hq) ∧ (∀ a2 : Int, ∀ hq, yAx G [] [2109] hp hq → 0 ≤ a2 → (-12) ≤ 0 - a2 → 0 - 2 * a2 + 25 < (m : Int) → yG 89 xfts (xcall 89 xfts xpools xms (d + 2)) (xpool xp_RX13) [] xt_X13_putAllIn (yP 0 (yQv G [] [2109] hp)) (68 * m) 135 [(0, yR 2073), (1, yI (p1)), (2, yI (a2))] [] hq) := by
    intro m
    induction m with
    | zero =>
      refine ⟨?_, ?_, ?_⟩ <;> (intros; exfalso; omega)
    | succ m ih =>
      obtain ⟨i_2, i_27, i_135⟩ := ih
      refine ⟨?_, ?_, ?_⟩
      · intro a2 hq A_hq f0 f1 hm
        refine yG.mono (N := 68 * m + 68) ?_ (by omega)
        refine yG.load xik rfl (fun _ _ => rfl) (v := yI (a2)) rfl rfl ?_
        refine yG.load xak rfl (fun _ _ => rfl) (v := yR 2073) rfl rfl ?_
        refine yG.getR A_hq.1 (r_count W) rfl rfl ?_
        refine yG.num (c := 0) rfl (fun _ _ => rfl) (by decide) ?_
        refine yG.ialdF A_hq.1 (p_count W) rfl rfl (by omega) (by omega) (fun z1 e_z1 i_z1 l_z1 u_z1 => ?_)
        refine yG.icmp rfl (t := 25) rfl ⟨by omega, by omega⟩ ⟨by omega, by omega⟩ (fun c2 => ?_) (fun c2 => ?_)
        · have c2 : a2 ≥ z1 := c2
          refine yG.num (c := 0) rfl (fun _ _ => rfl) (by decide) ?_
          refine yG.store1 xik (L' := [(2, yI (0)), (0, yR 2073), (1, yI (p1))]) rfl (fun _ _ => rfl) rfl rfl ?_
          exact yG.mono (yG.sub (i_27 (0)  hq A_hq  (by omega) (by omega) (by omega)) (ySub.cons rfl (ySub.cons rfl (ySub.cons rfl (ySub.nil))))) (by omega)
        · have c2 : a2 < z1 := c2
          refine yG.load xak rfl (fun _ _ => rfl) (v := yR 2073) rfl rfl ?_
          refine yG.getR A_hq.1 (r_putIn W) rfl rfl ?_
          refine yG.load xik rfl (fun _ _ => rfl) (v := yI (a2)) rfl rfl ?_
          refine yG.numl (c := 0) rfl (fun _ _ => rfl) (by decide) ?_
          refine yG.last A_hq.1 (v_putIn W) (by decide) rfl (by omega) (by omega) ⟨by omega, by omega⟩ (by omega) (by omega) (fun h3 T_h3 b_h3 f_h3 y_h3 => ?_)
          have A_h3 := A_hq.putA T_h3 b_h3 f_h3 (by decide)
          refine yG.iinc rfl (a := a2) rfl (L' := [(2, yI (a2 + 1)), (0, yR 2073), (1, yI (p1))]) rfl ?_
          refine yG.goto rfl (t := 2) rfl ?_
          exact yG.mono (yG.sub (i_2 (a2 + 1)  h3 A_h3  (by omega) (by omega) (by omega)) (ySub.cons rfl (ySub.cons rfl (ySub.cons rfl (ySub.nil))))) (by omega)
      · intro a2 hq A_hq f0 f1 hm
        refine yG.mono (N := 68 * m + 68) ?_ (by omega)
        refine yG.load xik rfl (fun _ _ => rfl) (v := yI (a2)) rfl rfl ?_
        refine yG.load xak rfl (fun _ _ => rfl) (v := yR 2073) rfl rfl ?_
        refine yG.getR A_hq.1 (r_count W) rfl rfl ?_
        refine yG.num (c := 3) rfl (fun _ _ => rfl) (by decide) ?_
        refine yG.ialdF A_hq.1 (p_count W) rfl rfl (by omega) (by omega) (fun z1 e_z1 i_z1 l_z1 u_z1 => ?_)
        refine yG.icmp rfl (t := 133) rfl ⟨by omega, by omega⟩ ⟨by omega, by omega⟩ (fun c2 => ?_) (fun c2 => ?_)
        · have c2 : a2 ≥ z1 := c2
          refine yG.num (c := 0) rfl (fun _ _ => rfl) (by decide) ?_
          refine yG.store1 xik (L' := [(2, yI (0)), (0, yR 2073), (1, yI (p1))]) rfl (fun _ _ => rfl) rfl rfl ?_
          exact yG.mono (yG.sub (i_135 (0)  hq A_hq  (by omega) (by omega) (by omega)) (ySub.cons rfl (ySub.cons rfl (ySub.cons rfl (ySub.nil))))) (by omega)
        · have c2 : a2 < z1 := c2
          refine yG.load xak rfl (fun _ _ => rfl) (v := yR 2073) rfl rfl ?_
          refine yG.num (c := 3) rfl (fun _ _ => rfl) (by decide) ?_
          refine yG.load xik rfl (fun _ _ => rfl) (v := yI (a2)) rfl rfl ?_
          refine yG.num (c := 10) rfl (fun _ _ => rfl) (by decide) ?_
          refine yG.invV (rest := []) A_hq.1 W.m.1 rfl rfl rfl rfl (a_of_3_10 W d A_hq.1 (a2) (by omega) (by omega)) (fun rv hp9 q9 => ?_)
          obtain ⟨⟨z3, rfl, l_z3, u_z3⟩, e9⟩ := q9
          rw [e9]
          show yG _ _ _ _ _ _ _ _ _ _ (yI z3 :: []) _
          refine yG.store1 xik (L' := [(3, yI (z3)), (0, yR 2073), (1, yI (p1)), (2, yI (a2))]) rfl (fun _ _ => rfl) rfl rfl ?_
          refine yG.load xak rfl (fun _ _ => rfl) (v := yR 2073) rfl rfl ?_
          refine yG.getR A_hq.1 (r_island W) rfl rfl ?_
          refine yG.load xik rfl (fun _ _ => rfl) (v := yI (z3)) rfl rfl ?_
          refine yG.iald A_hq.1 (v_island W) rfl (by omega) (by omega) (fun z4 e_z4 i_z4 l_z4 u_z4 => ?_)
          refine yG.load xik rfl (fun _ _ => rfl) (v := yI (p1)) rfl rfl ?_
          refine yG.icmp rfl (t := 127) rfl ⟨by omega, by omega⟩ ⟨by omega, by omega⟩ (fun c5 => ?_) (fun c5 => ?_)
          · have c5 : z4 ≠ p1 := c5
            refine yG.iinc rfl (a := a2) rfl (L' := [(2, yI (a2 + 1)), (3, yI (z3)), (0, yR 2073), (1, yI (p1))]) rfl ?_
            refine yG.goto rfl (t := 27) rfl ?_
            exact yG.mono (yG.sub (i_27 (a2 + 1)  hq A_hq  (by omega) (by omega) (by omega)) (ySub.cons rfl (ySub.cons rfl (ySub.cons rfl (ySub.nil))))) (by omega)
          · have c5 : z4 = p1 := c5
            refine yG.load xak rfl (fun _ _ => rfl) (v := yR 2073) rfl rfl ?_
            refine yG.num (c := 3) rfl (fun _ _ => rfl) (by decide) ?_
            refine yG.load xik rfl (fun _ _ => rfl) (v := yI (a2)) rfl rfl ?_
            refine yG.num (c := 0) rfl (fun _ _ => rfl) (by decide) ?_
            refine yG.invV (rest := []) A_hq.1 W.m.1 rfl rfl rfl rfl (a_of_3_0 W d A_hq.1 (a2) (by omega) (by omega)) (fun rv hp9 q9 => ?_)
            obtain ⟨⟨z6, rfl, l_z6, u_z6⟩, e9⟩ := q9
            rw [e9]
            show yG _ _ _ _ _ _ _ _ _ _ (yI z6 :: []) _
            refine yG.num (c := 1) rfl (fun _ _ => rfl) (by decide) ?_
            refine yG.icmp rfl (t := 127) rfl ⟨by omega, by omega⟩ ⟨by omega, by omega⟩ (fun c7 => ?_) (fun c7 => ?_)
            · have c7 : z6 ≠ 1 := c7
              refine yG.iinc rfl (a := a2) rfl (L' := [(2, yI (a2 + 1)), (3, yI (z3)), (0, yR 2073), (1, yI (p1))]) rfl ?_
              refine yG.goto rfl (t := 27) rfl ?_
              exact yG.mono (yG.sub (i_27 (a2 + 1)  hq A_hq  (by omega) (by omega) (by omega)) (ySub.cons rfl (ySub.cons rfl (ySub.cons rfl (ySub.nil))))) (by omega)
            · have c7 : z6 = 1 := c7
              refine yG.load xak rfl (fun _ _ => rfl) (v := yR 2073) rfl rfl ?_
              refine yG.getR A_hq.1 (r_putIn W) rfl rfl ?_
              refine yG.load xak rfl (fun _ _ => rfl) (v := yR 2073) rfl rfl ?_
              refine yG.getR A_hq.1 (r_node W) rfl rfl ?_
              refine yG.load xik rfl (fun _ _ => rfl) (v := yI (z3)) rfl rfl ?_
              refine yG.iald A_hq.1 (v_node W) rfl (by omega) (by omega) (fun z8 e_z8 i_z8 l_z8 u_z8 => ?_)
              refine yG.step (pc' := 78) (stk' := [yI (z8), yR 2109, yI (z8), yR 2109]) rfl (fun _ _ => rfl) ?_
              refine yG.lald A_hq.1 (v_putIn W) rfl (by omega) (by omega) (fun z9 e_z9 i_z9 l_z9 u_z9 => ?_)
              refine yG.load xak rfl (fun _ _ => rfl) (v := yR 2073) rfl rfl ?_
              refine yG.num (c := 3) rfl (fun _ _ => rfl) (by decide) ?_
              refine yG.load xik rfl (fun _ _ => rfl) (v := yI (a2)) rfl rfl ?_
              refine yG.num (c := 1) rfl (fun _ _ => rfl) (by decide) ?_
              refine yG.invV (rest := [yJ (z9), yI (z8), yR 2109]) A_hq.1 W.m.1 rfl rfl rfl rfl (a_of_3_1 W d A_hq.1 (a2) (by omega) (by omega)) (fun rv hp9 q9 => ?_)
              obtain ⟨⟨z10, rfl, l_z10, u_z10⟩, e9⟩ := q9
              rw [e9]
              show yG _ _ _ _ _ _ _ _ _ _ (yI z10 :: [yJ (z9), yI (z8), yR 2109]) _
              refine yG.i2l rfl ⟨by omega, by omega⟩ ?_
              refine yG.load xak rfl (fun _ _ => rfl) (v := yR 2073) rfl rfl ?_
              refine yG.load xik rfl (fun _ _ => rfl) (v := yI (p1)) rfl rfl ?_
              refine yG.invV (rest := [yJ (z10), yJ (z9), yI (z8), yR 2109]) A_hq.1 W.m.1 rfl rfl rfl rfl (a_times_ W (d + 1) A_hq.1 (p1) (by omega) (by omega)) (fun rv hp9 q9 => ?_)
              obtain ⟨⟨z11, rfl, l_z11, u_z11⟩, e9⟩ := q9
              rw [e9]
              show yG _ _ _ _ _ _ _ _ _ _ (yJ z11 :: [yJ (z10), yJ (z9), yI (z8), yR 2109]) _
              refine yG.lmul rfl ?_
              obtain ⟨z12, e_z12⟩ : ∃ z : Int, z = z10 * z11 := ⟨_, rfl⟩
              rw [← e_z12]
              have b_z12 : -92224496996510903304192 ≤ z12 ∧ z12 ≤ 92224496996510903304192 := e_z12 ▸ ymuls (A := 9999) (B := 9223372036854775808) (by omega) (by omega) (by omega) (by omega) (by decide)
              refine yG.load xak rfl (fun _ _ => rfl) (v := yR 2073) rfl rfl ?_
              refine yG.getR A_hq.1 (r_share W) rfl rfl ?_
              refine yG.load xik rfl (fun _ _ => rfl) (v := yI (p1)) rfl rfl ?_
              refine yG.lald A_hq.1 (v_share W) rfl (by omega) (by omega) (fun z13 e_z13 i_z13 l_z13 u_z13 => ?_)
              refine yG.numl (c := 0) rfl (fun _ _ => rfl) (by decide) ?_
              refine yG.lcmp rfl ⟨by omega, by omega⟩ ⟨by omega, by omega⟩ (fun z14 e_z14 => ?_)
              refine yG.ifz rfl (t := 108) rfl ⟨by omega, by omega⟩ (fun c15 => ?_) (fun c15 => ?_)
              · have c15 : z14 ≠ 0 := c15
                refine yG.load xak rfl (fun _ _ => rfl) (v := yR 2073) rfl rfl ?_
                refine yG.getR A_hq.1 (r_lack W) rfl rfl ?_
                refine yG.load xik rfl (fun _ _ => rfl) (v := yI (p1)) rfl rfl ?_
                refine yG.lald A_hq.1 (v_lack W) rfl (by omega) (by omega) (fun z16 e_z16 i_z16 l_z16 u_z16 => ?_)
                refine yG.load xak rfl (fun _ _ => rfl) (v := yR 2073) rfl rfl ?_
                refine yG.num (c := 3) rfl (fun _ _ => rfl) (by decide) ?_
                refine yG.load xik rfl (fun _ _ => rfl) (v := yI (a2)) rfl rfl ?_
                refine yG.num (c := 9) rfl (fun _ _ => rfl) (by decide) ?_
                refine yG.invV (rest := [yJ (z16), yJ (z12), yJ (z9), yI (z8), yR 2109]) A_hq.1 W.m.1 rfl rfl rfl rfl (a_of_3_9 W d A_hq.1 (a2) (by omega) (by omega)) (fun rv hp9 q9 => ?_)
                obtain ⟨⟨z17, rfl, l_z17, u_z17⟩, e9⟩ := q9
                rw [e9]
                show yG _ _ _ _ _ _ _ _ _ _ (yI z17 :: [yJ (z16), yJ (z12), yJ (z9), yI (z8), yR 2109]) _
                refine yG.i2l rfl ⟨by omega, by omega⟩ ?_
                refine yG.lmul rfl ?_
                obtain ⟨z18, e_z18⟩ : ∃ z : Int, z = z16 * z17 := ⟨_, rfl⟩
                rw [← e_z18]
                have b_z18 : -83010348331692982272 ≤ z18 ∧ z18 ≤ 83010348331692982272 := e_z18 ▸ ymuls (A := 9223372036854775808) (B := 9) (by omega) (by omega) (by omega) (by omega) (by decide)
                refine yG.ladd rfl ?_
                refine yG.ladd rfl ?_
                obtain ⟨z20, e_z20, l_z20, u_z20⟩ := ywJ (z9 + (z12 + z18))
                rw [e_z20]
                refine yG.last A_hq.1 (v_putIn W) (by decide) rfl (by omega) (by omega) ⟨by omega, by omega⟩ (by omega) (by omega) (fun h19 T_h19 b_h19 f_h19 y_h19 => ?_)
                have A_h19 := A_hq.putA T_h19 b_h19 f_h19 (by decide)
                refine yG.iinc rfl (a := a2) rfl (L' := [(2, yI (a2 + 1)), (3, yI (z3)), (0, yR 2073), (1, yI (p1))]) rfl ?_
                refine yG.goto rfl (t := 27) rfl ?_
                exact yG.mono (yG.sub (i_27 (a2 + 1)  h19 A_h19  (by omega) (by omega) (by omega)) (ySub.cons rfl (ySub.cons rfl (ySub.cons rfl (ySub.nil))))) (by omega)
              · have c15 : z14 = 0 := c15
                refine yG.numl (c := 0) rfl (fun _ _ => rfl) (by decide) ?_
                refine yG.goto rfl (t := 124) rfl ?_
                refine yG.ladd rfl ?_
                refine yG.ladd rfl ?_
                obtain ⟨z22, e_z22, l_z22, u_z22⟩ := ywJ (z9 + (z12 + 0))
                rw [e_z22]
                refine yG.last A_hq.1 (v_putIn W) (by decide) rfl (by omega) (by omega) ⟨by omega, by omega⟩ (by omega) (by omega) (fun h21 T_h21 b_h21 f_h21 y_h21 => ?_)
                have A_h21 := A_hq.putA T_h21 b_h21 f_h21 (by decide)
                refine yG.iinc rfl (a := a2) rfl (L' := [(2, yI (a2 + 1)), (3, yI (z3)), (0, yR 2073), (1, yI (p1))]) rfl ?_
                refine yG.goto rfl (t := 27) rfl ?_
                exact yG.mono (yG.sub (i_27 (a2 + 1)  h21 A_h21  (by omega) (by omega) (by omega)) (ySub.cons rfl (ySub.cons rfl (ySub.cons rfl (ySub.nil))))) (by omega)
      · intro a2 hq A_hq f0 f1 hm
        refine yG.mono (N := 68 * m + 68) ?_ (by omega)
        refine yG.load xik rfl (fun _ _ => rfl) (v := yI (a2)) rfl rfl ?_
        refine yG.load xak rfl (fun _ _ => rfl) (v := yR 2073) rfl rfl ?_
        refine yG.getR A_hq.1 (r_count W) rfl rfl ?_
        refine yG.num (c := 4) rfl (fun _ _ => rfl) (by decide) ?_
        refine yG.ialdF A_hq.1 (p_count W) rfl rfl (by omega) (by omega) (fun z1 e_z1 i_z1 l_z1 u_z1 => ?_)
        refine yG.icmp rfl (t := 201) rfl ⟨by omega, by omega⟩ ⟨by omega, by omega⟩ (fun c2 => ?_) (fun c2 => ?_)
        · have c2 : a2 ≥ z1 := c2
          refine yG.ret rfl (fun _ _ => rfl) ?_
          exact yP.void ⟨rfl, A_hq⟩
        · have c2 : a2 < z1 := c2
          refine yG.load xak rfl (fun _ _ => rfl) (v := yR 2073) rfl rfl ?_
          refine yG.num (c := 4) rfl (fun _ _ => rfl) (by decide) ?_
          refine yG.load xik rfl (fun _ _ => rfl) (v := yI (a2)) rfl rfl ?_
          refine yG.num (c := 1) rfl (fun _ _ => rfl) (by decide) ?_
          refine yG.invV (rest := []) A_hq.1 W.m.1 rfl rfl rfl rfl (a_of_4_1 W d A_hq.1 (a2) (by omega) (by omega)) (fun rv hp9 q9 => ?_)
          obtain ⟨⟨z3, rfl, l_z3, u_z3⟩, e9⟩ := q9
          rw [e9]
          show yG _ _ _ _ _ _ _ _ _ _ (yI z3 :: []) _
          refine yG.store1 xik (L' := [(3, yI (z3)), (0, yR 2073), (1, yI (p1)), (2, yI (a2))]) rfl (fun _ _ => rfl) rfl rfl ?_
          refine yG.load xak rfl (fun _ _ => rfl) (v := yR 2073) rfl rfl ?_
          refine yG.getR A_hq.1 (r_putIn W) rfl rfl ?_
          refine yG.load xak rfl (fun _ _ => rfl) (v := yR 2073) rfl rfl ?_
          refine yG.getR A_hq.1 (r_node W) rfl rfl ?_
          refine yG.load xik rfl (fun _ _ => rfl) (v := yI (z3)) rfl rfl ?_
          refine yG.iald A_hq.1 (v_node W) rfl (by omega) (by omega) (fun z4 e_z4 i_z4 l_z4 u_z4 => ?_)
          refine yG.step (pc' := 164) (stk' := [yI (z4), yR 2109, yI (z4), yR 2109]) rfl (fun _ _ => rfl) ?_
          refine yG.lald A_hq.1 (v_putIn W) rfl (by omega) (by omega) (fun z5 e_z5 i_z5 l_z5 u_z5 => ?_)
          refine yG.load xak rfl (fun _ _ => rfl) (v := yR 2073) rfl rfl ?_
          refine yG.getR A_hq.1 (r_island W) rfl rfl ?_
          refine yG.load xik rfl (fun _ _ => rfl) (v := yI (z3)) rfl rfl ?_
          refine yG.iald A_hq.1 (v_island W) rfl (by omega) (by omega) (fun z6 e_z6 i_z6 l_z6 u_z6 => ?_)
          refine yG.load xik rfl (fun _ _ => rfl) (v := yI (p1)) rfl rfl ?_
          refine yG.icmp rfl (t := 192) rfl ⟨by omega, by omega⟩ ⟨by omega, by omega⟩ (fun c7 => ?_) (fun c7 => ?_)
          · have c7 : z6 ≠ p1 := c7
            refine yG.numl (c := 0) rfl (fun _ _ => rfl) (by decide) ?_
            refine yG.lsub rfl ?_
            refine yG.last A_hq.1 (v_putIn W) (by decide) rfl (by omega) (by omega) ⟨by omega, by omega⟩ (by omega) (by omega) (fun h8 T_h8 b_h8 f_h8 y_h8 => ?_)
            have A_h8 := A_hq.putA T_h8 b_h8 f_h8 (by decide)
            refine yG.iinc rfl (a := a2) rfl (L' := [(2, yI (a2 + 1)), (3, yI (z3)), (0, yR 2073), (1, yI (p1))]) rfl ?_
            refine yG.goto rfl (t := 135) rfl ?_
            exact yG.mono (yG.sub (i_135 (a2 + 1)  h8 A_h8  (by omega) (by omega) (by omega)) (ySub.cons rfl (ySub.cons rfl (ySub.cons rfl (ySub.nil))))) (by omega)
          · have c7 : z6 = p1 := c7
            refine yG.load xak rfl (fun _ _ => rfl) (v := yR 2073) rfl rfl ?_
            refine yG.num (c := 4) rfl (fun _ _ => rfl) (by decide) ?_
            refine yG.load xik rfl (fun _ _ => rfl) (v := yI (a2)) rfl rfl ?_
            refine yG.num (c := 0) rfl (fun _ _ => rfl) (by decide) ?_
            refine yG.invV (rest := [yJ (z5), yI (z4), yR 2109]) A_hq.1 W.m.1 rfl rfl rfl rfl (a_of_4_0 W d A_hq.1 (a2) (by omega) (by omega)) (fun rv hp9 q9 => ?_)
            obtain ⟨⟨z9, rfl, l_z9, u_z9⟩, e9⟩ := q9
            rw [e9]
            show yG _ _ _ _ _ _ _ _ _ _ (yI z9 :: [yJ (z5), yI (z4), yR 2109]) _
            refine yG.i2l rfl ⟨by omega, by omega⟩ ?_
            refine yG.load xak rfl (fun _ _ => rfl) (v := yR 2073) rfl rfl ?_
            refine yG.load xik rfl (fun _ _ => rfl) (v := yI (p1)) rfl rfl ?_
            refine yG.invV (rest := [yJ (z9), yJ (z5), yI (z4), yR 2109]) A_hq.1 W.m.1 rfl rfl rfl rfl (a_times_ W (d + 1) A_hq.1 (p1) (by omega) (by omega)) (fun rv hp9 q9 => ?_)
            obtain ⟨⟨z10, rfl, l_z10, u_z10⟩, e9⟩ := q9
            rw [e9]
            show yG _ _ _ _ _ _ _ _ _ _ (yJ z10 :: [yJ (z9), yJ (z5), yI (z4), yR 2109]) _
            refine yG.lmul rfl ?_
            obtain ⟨z11, e_z11⟩ : ∃ z : Int, z = z9 * z10 := ⟨_, rfl⟩
            rw [← e_z11]
            have b_z11 : -92224496996510903304192 ≤ z11 ∧ z11 ≤ 92224496996510903304192 := e_z11 ▸ ymuls (A := 9999) (B := 9223372036854775808) (by omega) (by omega) (by omega) (by omega) (by decide)
            refine yG.goto rfl (t := 193) rfl ?_
            refine yG.lsub rfl ?_
            obtain ⟨z13, e_z13, l_z13, u_z13⟩ := ywJ (z5 - z11)
            rw [e_z13]
            refine yG.last A_hq.1 (v_putIn W) (by decide) rfl (by omega) (by omega) ⟨by omega, by omega⟩ (by omega) (by omega) (fun h12 T_h12 b_h12 f_h12 y_h12 => ?_)
            have A_h12 := A_hq.putA T_h12 b_h12 f_h12 (by decide)
            refine yG.iinc rfl (a := a2) rfl (L' := [(2, yI (a2 + 1)), (3, yI (z3)), (0, yR 2073), (1, yI (p1))]) rfl ?_
            refine yG.goto rfl (t := 135) rfl ?_
            exact yG.mono (yG.sub (i_135 (a2 + 1)  h12 A_h12  (by omega) (by omega) (by omega)) (ySub.cons rfl (ySub.cons rfl (ySub.cons rfl (ySub.nil))))) (by omega)
  refine yC.of (M := (xt_X13_putAllIn, (4, (0, (14, []))))) rfl rfl (N := 219776) (yfuel (by decide)) ?_
  show yG 89 xfts (xcall 89 xfts xpools xms (d + 2)) (xpool xp_RX13) [] xt_X13_putAllIn (yP 0 (yQv G [] [2109] hp)) 219776 0 [(0, yR 2073), (1, yI (p1))] [] hp
  obtain ⟨i_2, i_27, i_135⟩ := H 3231
  refine yG.num (c := 0) rfl (fun _ _ => rfl) (by decide) ?_
  refine yG.store1 xik (L' := [(2, yI (0)), (0, yR 2073), (1, yI (p1))]) rfl (fun _ _ => rfl) rfl rfl ?_
  exact yG.mono (yG.sub (i_2 (0)  hp A_hp  (by omega) (by omega) (by omega)) (ySub.cons rfl (ySub.cons rfl (ySub.cons rfl (ySub.nil))))) (by omega)
theorem a_isOnIn {hp : xH} (W : yWW G) (d : Nat) (hT : zTy G hp) (p1 p2 : Int) (h1l : 0 ≤ p1) (h1u : p1 ≤ 5) (h2l : 0 ≤ p2) (h2u : p2 ≤ 15) : yC (xcall 89 xfts xpools xms (d + 3)) 435 [yR 2073, yI (p1), yI (p2)] hp (yQpi hp 0 1) := by
  have A_hp : yAx G [] [] hp hp := yAx.rf hT
  refine yC.of (M := (xt_X13_isOnIn, (3, (4, (14, []))))) rfl rfl (N := 66) (yfuel (by decide)) ?_
  show yG 89 xfts (xcall 89 xfts xpools xms (d + 2)) (xpool xp_RX13) [] xt_X13_isOnIn (yP 4 (yQpi hp 0 1)) 66 0 [(0, yR 2073), (1, yI (p1)), (2, yI (p2))] [] hp
  refine yG.load xak rfl (fun _ _ => rfl) (v := yR 2073) rfl rfl ?_
  refine yG.num (c := 3) rfl (fun _ _ => rfl) (by decide) ?_
  refine yG.load xik rfl (fun _ _ => rfl) (v := yI (p1)) rfl rfl ?_
  refine yG.num (c := 0) rfl (fun _ _ => rfl) (by decide) ?_
  refine yG.invV (rest := []) A_hp.1 W.m.1 rfl rfl rfl rfl (a_of_3_0 W d A_hp.1 (p1) (by omega) (by omega)) (fun rv hp9 q9 => ?_)
  obtain ⟨⟨z1, rfl, l_z1, u_z1⟩, e9⟩ := q9
  rw [e9]
  show yG _ _ _ _ _ _ _ _ _ _ (yI z1 :: []) _
  refine yG.num (c := 1) rfl (fun _ _ => rfl) (by decide) ?_
  refine yG.icmp rfl (t := 32) rfl ⟨by omega, by omega⟩ ⟨by omega, by omega⟩ (fun c2 => ?_) (fun c2 => ?_)
  · have c2 : z1 ≠ 1 := c2
    refine yG.num (c := 0) rfl (fun _ _ => rfl) (by decide) ?_
    refine yG.ret rfl (fun _ _ => rfl) ?_
    exact yP.bool (by omega) ⟨⟨0, rfl, by omega, by omega⟩, rfl⟩
  · have c2 : z1 = 1 := c2
    refine yG.load xak rfl (fun _ _ => rfl) (v := yR 2073) rfl rfl ?_
    refine yG.getR A_hp.1 (r_island W) rfl rfl ?_
    refine yG.load xak rfl (fun _ _ => rfl) (v := yR 2073) rfl rfl ?_
    refine yG.num (c := 3) rfl (fun _ _ => rfl) (by decide) ?_
    refine yG.load xik rfl (fun _ _ => rfl) (v := yI (p1)) rfl rfl ?_
    refine yG.num (c := 10) rfl (fun _ _ => rfl) (by decide) ?_
    refine yG.invV (rest := [yR 2101]) A_hp.1 W.m.1 rfl rfl rfl rfl (a_of_3_10 W d A_hp.1 (p1) (by omega) (by omega)) (fun rv hp9 q9 => ?_)
    obtain ⟨⟨z3, rfl, l_z3, u_z3⟩, e9⟩ := q9
    rw [e9]
    show yG _ _ _ _ _ _ _ _ _ _ (yI z3 :: [yR 2101]) _
    refine yG.iald A_hp.1 (v_island W) rfl (by omega) (by omega) (fun z4 e_z4 i_z4 l_z4 u_z4 => ?_)
    refine yG.load xik rfl (fun _ _ => rfl) (v := yI (p2)) rfl rfl ?_
    refine yG.icmp rfl (t := 32) rfl ⟨by omega, by omega⟩ ⟨by omega, by omega⟩ (fun c5 => ?_) (fun c5 => ?_)
    · have c5 : z4 ≠ p2 := c5
      refine yG.num (c := 0) rfl (fun _ _ => rfl) (by decide) ?_
      refine yG.ret rfl (fun _ _ => rfl) ?_
      exact yP.bool (by omega) ⟨⟨0, rfl, by omega, by omega⟩, rfl⟩
    · have c5 : z4 = p2 := c5
      refine yG.num (c := 1) rfl (fun _ _ => rfl) (by decide) ?_
      refine yG.goto rfl (t := 33) rfl ?_
      refine yG.ret rfl (fun _ _ => rfl) ?_
      exact yP.bool (by omega) ⟨⟨1, rfl, by omega, by omega⟩, rfl⟩
theorem a_asInRun {hp : xH} (W : yWW G) (d : Nat) (hT : zTy G hp) : yC (xcall 89 xfts xpools xms (d + 4)) 352 [yR 2073] hp (yQv G [40, 77] [2098, 2099] hp) := by
  have A_hp : yAx G [40, 77] [2098, 2099] hp hp := yAx.rf hT
  have H : ∀ m : Nat, (∀ a1 : Int, ∀ hq, yAx G [40, 77] [2098, 2099] hp hq → 0 ≤ a1 → (-24) ≤ 0 - a1 → 0 - 2 * a1 + 49 < (m : Int) → yG 89 xfts (xcall 89 xfts xpools xms (d + 3)) (xpool xp_RX13) [] xt_X13_asInRun (yP 0 (yQv G [40, 77] [2098, 2099] hp)) (18 * m) 16 [(0, yR 2073), (1, yI (a1))] [] hq) := by
    intro m
    induction m with
    | zero =>
      intros; exfalso; omega
    | succ m ih =>
      have i_16 := ih
      clear ih
      intro a1 hq A_hq f0 f1 hm
      refine yG.mono (N := 18 * m + 18) ?_ (by omega)
      refine yG.load xik rfl (fun _ _ => rfl) (v := yI (a1)) rfl rfl ?_
      refine yG.load xak rfl (fun _ _ => rfl) (v := yR 2073) rfl rfl ?_
      refine yG.getR A_hq.1 (r_count W) rfl rfl ?_
      refine yG.num (c := 1) rfl (fun _ _ => rfl) (by decide) ?_
      refine yG.ialdF A_hq.1 (p_count W) rfl rfl (by omega) (by omega) (fun z1 e_z1 i_z1 l_z1 u_z1 => ?_)
      refine yG.icmp rfl (t := 44) rfl ⟨by omega, by omega⟩ ⟨by omega, by omega⟩ (fun c2 => ?_) (fun c2 => ?_)
      · have c2 : a1 ≥ z1 := c2
        refine yG.ret rfl (fun _ _ => rfl) ?_
        exact yP.void ⟨rfl, A_hq⟩
      · have c2 : a1 < z1 := c2
        refine yG.load xak rfl (fun _ _ => rfl) (v := yR 2073) rfl rfl ?_
        refine yG.getR A_hq.1 (r_stateNow W) rfl rfl ?_
        refine yG.load xik rfl (fun _ _ => rfl) (v := yI (a1)) rfl rfl ?_
        refine yG.load xak rfl (fun _ _ => rfl) (v := yR 2073) rfl rfl ?_
        refine yG.getR A_hq.1 (r_runState W) rfl rfl ?_
        refine yG.load xik rfl (fun _ _ => rfl) (v := yI (a1)) rfl rfl ?_
        refine yG.iald A_hq.1 (v_runState W) rfl (by omega) (by omega) (fun z3 e_z3 i_z3 l_z3 u_z3 => ?_)
        refine yG.iast A_hq.1 (v_stateNow W) (by decide) rfl (by omega) (by omega) ⟨by omega, by omega⟩ (by omega) (by omega) (fun h4 T_h4 b_h4 f_h4 y_h4 => ?_)
        have A_h4 := A_hq.putA T_h4 b_h4 f_h4 (by decide)
        refine yG.iinc rfl (a := a1) rfl (L' := [(1, yI (a1 + 1)), (0, yR 2073)]) rfl ?_
        refine yG.goto rfl (t := 16) rfl ?_
        exact yG.mono (yG.sub (i_16 (a1 + 1)  h4 A_h4  (by omega) (by omega) (by omega)) (ySub.cons rfl (ySub.cons rfl (ySub.nil)))) (by omega)
  refine yC.of (M := (xt_X13_asInRun, (2, (0, (14, []))))) rfl rfl (N := 936) (yfuel (by decide)) ?_
  show yG 89 xfts (xcall 89 xfts xpools xms (d + 3)) (xpool xp_RX13) [] xt_X13_asInRun (yP 0 (yQv G [40, 77] [2098, 2099] hp)) 936 0 [(0, yR 2073)] [] hp
  have i_16 := H 51
  refine yG.load xak rfl (fun _ _ => rfl) (v := yR 2073) rfl rfl ?_
  refine yG.num (c := 0) rfl (fun _ _ => rfl) (by decide) ?_
  refine yG.putI A_hp.1 (w_hasFlows W) (by decide) rfl rfl (.inr ⟨rfl, rfl, rfl⟩) ⟨by omega, by omega⟩ (by omega) (by omega) (fun h1 T_h1 b_h1 f_h1 y_h1 => ?_)
  have A_h1 := A_hp.putF T_h1 b_h1 f_h1 (by decide)
  have g40_h1 : ys h1 2073 40 = 0 := (y_h1 2073 40).trans (if_pos ⟨rfl, rfl⟩)
  refine yG.load xak rfl (fun _ _ => rfl) (v := yR 2073) rfl rfl ?_
  refine yG.num (c := 0) rfl (fun _ _ => rfl) (by decide) ?_
  refine yG.putI A_h1.1 (w_hasNetShort W) (by decide) rfl rfl (.inr ⟨rfl, rfl, rfl⟩) ⟨by omega, by omega⟩ (by omega) (by omega) (fun h2 T_h2 b_h2 f_h2 y_h2 => ?_)
  have A_h2 := A_h1.putF T_h2 b_h2 f_h2 (by decide)
  have g40_h2 : ys h2 2073 40 = ys h1 2073 40 := (y_h2 2073 40).trans (if_neg (by omega))
  have g77_h2 : ys h2 2073 77 = 0 := (y_h2 2073 77).trans (if_pos ⟨rfl, rfl⟩)
  refine yG.load xak rfl (fun _ _ => rfl) (v := yR 2073) rfl rfl ?_
  refine yG.invV (rest := []) A_h2.1 W.m.1 rfl rfl rfl rfl (a_asItIs W d A_h2.1) (fun rv h4 q9 => ?_)
  obtain ⟨rfl, B_h4⟩ := q9
  have A_h4 := A_h2.tr (B_h4.sub (by decide) (by decide))
  have g40_h4 : ys h4 2073 40 = ys h2 2073 40 := B_h4.ys (by decide) (by decide)
  have g77_h4 : ys h4 2073 77 = ys h2 2073 77 := B_h4.ys (by decide) (by decide)
  show yG _ _ _ _ _ _ _ _ _ _ [] _
  refine yG.num (c := 0) rfl (fun _ _ => rfl) (by decide) ?_
  refine yG.store1 xik (L' := [(1, yI (0)), (0, yR 2073)]) rfl (fun _ _ => rfl) rfl rfl ?_
  exact yG.mono (yG.sub (i_16 (0)  h4 A_h4  (by omega) (by omega) (by omega)) (ySub.cons rfl (ySub.cons rfl (ySub.nil)))) (by omega)
theorem a_giveOrder {hp : xH} (W : yWW G) (d : Nat) (hT : zTy G hp) (p1 p2 : Int) (h1l : 0 ≤ p1) (h1u : p1 ≤ 23) (h2l : 0 ≤ p2) (h2u : p2 ≤ 2147483647) : yC (xcall 89 xfts xpools xms (d + 3)) 410 [yR 2073, yI (p1), yJ (p2)] hp (yQi G [] [2134, 2135, 2136] hp 0 1) := by
  have A_hp : yAx G [] [2134, 2135, 2136] hp hp := yAx.rf hT
  refine yC.of (M := (xt_X13_giveOrder, (6, (4, (14, []))))) rfl rfl (N := 132) (yfuel (by decide)) ?_
  show yG 89 xfts (xcall 89 xfts xpools xms (d + 2)) (xpool xp_RX13) [] xt_X13_giveOrder (yP 4 (yQi G [] [2134, 2135, 2136] hp 0 1)) 132 0 [(0, yR 2073), (1, yI (p1)), (2, yJ (p2))] [] hp
  refine yG.load xak rfl (fun _ _ => rfl) (v := yR 2073) rfl rfl ?_
  refine yG.getR A_hp.1 (r_runState W) rfl rfl ?_
  refine yG.load xik rfl (fun _ _ => rfl) (v := yI (p1)) rfl rfl ?_
  refine yG.iald A_hp.1 (v_runState W) rfl (by omega) (by omega) (fun z1 e_z1 i_z1 l_z1 u_z1 => ?_)
  refine yG.num (c := 1) rfl (fun _ _ => rfl) (by decide) ?_
  refine yG.icmp rfl (t := 19) rfl ⟨by omega, by omega⟩ ⟨by omega, by omega⟩ (fun c2 => ?_) (fun c2 => ?_)
  · have c2 : z1 ≠ 1 := c2
    refine yG.num (c := 0) rfl (fun _ _ => rfl) (by decide) ?_
    refine yG.ret rfl (fun _ _ => rfl) ?_
    exact yP.bool (by omega) ⟨⟨0, rfl, by omega, by omega⟩, A_hp⟩
  · have c2 : z1 = 1 := c2
    refine yG.load xak rfl (fun _ _ => rfl) (v := yR 2073) rfl rfl ?_
    refine yG.getR A_hp.1 (r_hasOrder W) rfl rfl ?_
    refine yG.load xik rfl (fun _ _ => rfl) (v := yI (p1)) rfl rfl ?_
    refine yG.bald A_hp.1 (v_hasOrder W) rfl (by omega) (by omega) (fun z3 e_z3 i_z3 l_z3 u_z3 => ?_)
    refine yG.ifz rfl (t := 21) rfl ⟨by omega, by omega⟩ (fun c4 => ?_) (fun c4 => ?_)
    · have c4 : z3 = 0 := c4
      refine yG.load xak rfl (fun _ _ => rfl) (v := yR 2073) rfl rfl ?_
      refine yG.getR A_hp.1 (r_hasOrder W) rfl rfl ?_
      refine yG.load xik rfl (fun _ _ => rfl) (v := yI (p1)) rfl rfl ?_
      refine yG.num (c := 1) rfl (fun _ _ => rfl) (by decide) ?_
      refine yG.bast A_hp.1 (v_hasOrder W) (by decide) rfl (by omega) (by omega) ⟨by omega, by omega⟩ (by omega) (by omega) (fun h5 T_h5 b_h5 f_h5 y_h5 => ?_)
      have A_h5 := A_hp.putA T_h5 b_h5 f_h5 (by decide)
      refine yG.load xlk2 rfl (fun _ _ => rfl) (v := yJ (p2)) rfl rfl ?_
      refine yG.load xak rfl (fun _ _ => rfl) (v := yR 2073) rfl rfl ?_
      refine yG.num (c := 1) rfl (fun _ _ => rfl) (by decide) ?_
      refine yG.load xik rfl (fun _ _ => rfl) (v := yI (p1)) rfl rfl ?_
      refine yG.num (c := 1) rfl (fun _ _ => rfl) (by decide) ?_
      refine yG.invV (rest := [yJ (p2)]) A_h5.1 W.m.1 rfl rfl rfl rfl (a_of_1_1 W d A_h5.1 (p1) (by omega) (by omega)) (fun rv hp9 q9 => ?_)
      obtain ⟨⟨z6, rfl, l_z6, u_z6⟩, e9⟩ := q9
      rw [e9]
      show yG _ _ _ _ _ _ _ _ _ _ (yI z6 :: [yJ (p2)]) _
      refine yG.i2l rfl ⟨by omega, by omega⟩ ?_
      refine yG.ladd rfl ?_
      obtain ⟨z7, e_z7⟩ : ∃ z : Int, z = p2 + z6 := ⟨_, rfl⟩
      rw [← e_z7]
      refine yG.store2 xlk2 (L' := [(4, yJ (z7)), (0, yR 2073), (1, yI (p1)), (2, yJ (p2))]) rfl (fun _ _ => rfl) rfl rfl ?_
      refine yG.load xak rfl (fun _ _ => rfl) (v := yR 2073) rfl rfl ?_
      refine yG.getR A_h5.1 (r_doesFail W) rfl rfl ?_
      refine yG.load xik rfl (fun _ _ => rfl) (v := yI (p1)) rfl rfl ?_
      refine yG.bald A_h5.1 (v_doesFail W) rfl (by omega) (by omega) (fun z8 e_z8 i_z8 l_z8 u_z8 => ?_)
      refine yG.ifz rfl (t := 66) rfl ⟨by omega, by omega⟩ (fun c9 => ?_) (fun c9 => ?_)
      · have c9 : z8 = 0 := c9
        refine yG.load xak rfl (fun _ _ => rfl) (v := yR 2073) rfl rfl ?_
        refine yG.getR A_h5.1 (r_opensAt W) rfl rfl ?_
        refine yG.load xik rfl (fun _ _ => rfl) (v := yI (p1)) rfl rfl ?_
        refine yG.load xlk2 rfl (fun _ _ => rfl) (v := yJ (z7)) rfl rfl ?_
        refine yG.last A_h5.1 (v_opensAt W) (by decide) rfl (by omega) (by omega) ⟨by omega, by omega⟩ (by omega) (by omega) (fun h10 T_h10 b_h10 f_h10 y_h10 => ?_)
        have A_h10 := A_h5.putA T_h10 b_h10 f_h10 (by decide)
        refine yG.num (c := 1) rfl (fun _ _ => rfl) (by decide) ?_
        refine yG.ret rfl (fun _ _ => rfl) ?_
        exact yP.bool (by omega) ⟨⟨1, rfl, by omega, by omega⟩, A_h10⟩
      · have c9 : z8 ≠ 0 := c9
        refine yG.load xak rfl (fun _ _ => rfl) (v := yR 2073) rfl rfl ?_
        refine yG.getR A_h5.1 (r_backupAt W) rfl rfl ?_
        refine yG.load xik rfl (fun _ _ => rfl) (v := yI (p1)) rfl rfl ?_
        refine yG.load xlk2 rfl (fun _ _ => rfl) (v := yJ (z7)) rfl rfl ?_
        refine yG.load xak rfl (fun _ _ => rfl) (v := yR 2073) rfl rfl ?_
        refine yG.getI A_h5.1 (w_back W) rfl rfl (fun z11 e_z11 i_z11 l_z11 u_z11 => ?_)
        refine yG.i2l rfl ⟨by omega, by omega⟩ ?_
        refine yG.ladd rfl ?_
        refine yG.last A_h5.1 (v_backupAt W) (by decide) rfl (by omega) (by omega) ⟨by omega, by omega⟩ (by omega) (by omega) (fun h12 T_h12 b_h12 f_h12 y_h12 => ?_)
        have A_h12 := A_h5.putA T_h12 b_h12 f_h12 (by decide)
        have g87_h12 : ys h12 2073 87 = ys h5 2073 87 := (y_h12 2073 87).trans (if_neg (by omega))
        refine yG.goto rfl (t := 74) rfl ?_
        refine yG.num (c := 1) rfl (fun _ _ => rfl) (by decide) ?_
        refine yG.ret rfl (fun _ _ => rfl) ?_
        exact yP.bool (by omega) ⟨⟨1, rfl, by omega, by omega⟩, A_h12⟩
    · have c4 : z3 ≠ 0 := c4
      refine yG.num (c := 0) rfl (fun _ _ => rfl) (by decide) ?_
      refine yG.ret rfl (fun _ _ => rfl) ?_
      exact yP.bool (by omega) ⟨⟨0, rfl, by omega, by omega⟩, A_hp⟩
theorem a_turns {hp : xH} (W : yWW G) (d : Nat) (hT : zTy G hp) (p1 : Int) (h1l : 0 ≤ p1) (h1u : p1 ≤ 5) : yC (xcall 89 xfts xpools xms (d + 3)) 536 [yR 2073, yI (p1)] hp (yQpi hp 0 1) := by
  have A_hp : yAx G [] [] hp hp := yAx.rf hT
  refine yC.of (M := (xt_X13_turns, (3, (4, (14, []))))) rfl rfl (N := 129) (yfuel (by decide)) ?_
  show yG 89 xfts (xcall 89 xfts xpools xms (d + 2)) (xpool xp_RX13) [] xt_X13_turns (yP 4 (yQpi hp 0 1)) 129 0 [(0, yR 2073), (1, yI (p1))] [] hp
  refine yG.load xak rfl (fun _ _ => rfl) (v := yR 2073) rfl rfl ?_
  refine yG.getR A_hp.1 (r_machineAt W) rfl rfl ?_
  refine yG.load xik rfl (fun _ _ => rfl) (v := yI (p1)) rfl rfl ?_
  refine yG.iald A_hp.1 (v_machineAt W) rfl (by omega) (by omega) (fun z1 e_z1 i_z1 l_z1 u_z1 => ?_)
  refine yG.store1 xik (L' := [(2, yI (z1)), (0, yR 2073), (1, yI (p1))]) rfl (fun _ _ => rfl) rfl rfl ?_
  refine yG.load xak rfl (fun _ _ => rfl) (v := yR 2073) rfl rfl ?_
  refine yG.num (c := 3) rfl (fun _ _ => rfl) (by decide) ?_
  refine yG.load xik rfl (fun _ _ => rfl) (v := yI (z1)) rfl rfl ?_
  refine yG.num (c := 7) rfl (fun _ _ => rfl) (by decide) ?_
  refine yG.invV (rest := []) A_hp.1 W.m.1 rfl rfl rfl rfl (a_of_3_7 W d A_hp.1 (z1) (by omega) (by omega)) (fun rv hp9 q9 => ?_)
  obtain ⟨⟨z2, rfl, l_z2, u_z2⟩, e9⟩ := q9
  rw [e9]
  show yG _ _ _ _ _ _ _ _ _ _ (yI z2 :: []) _
  refine yG.load xak rfl (fun _ _ => rfl) (v := yR 2073) rfl rfl ?_
  refine yG.num (c := 3) rfl (fun _ _ => rfl) (by decide) ?_
  refine yG.load xik rfl (fun _ _ => rfl) (v := yI (z1)) rfl rfl ?_
  refine yG.num (c := 4) rfl (fun _ _ => rfl) (by decide) ?_
  refine yG.invV (rest := [yI (z2)]) A_hp.1 W.m.1 rfl rfl rfl rfl (a_of_3_4 W d A_hp.1 (z1) (by omega) (by omega)) (fun rv hp9 q9 => ?_)
  obtain ⟨⟨z3, rfl, l_z3, u_z3⟩, e9⟩ := q9
  rw [e9]
  show yG _ _ _ _ _ _ _ _ _ _ (yI z3 :: [yI (z2)]) _
  refine yG.icmp rfl (t := 66) rfl ⟨by omega, by omega⟩ ⟨by omega, by omega⟩ (fun c4 => ?_) (fun c4 => ?_)
  · have c4 : z2 ≤ z3 := c4
    refine yG.num (c := 0) rfl (fun _ _ => rfl) (by decide) ?_
    refine yG.ret rfl (fun _ _ => rfl) ?_
    exact yP.bool (by omega) ⟨⟨0, rfl, by omega, by omega⟩, rfl⟩
  · have c4 : z2 > z3 := c4
    refine yG.load xak rfl (fun _ _ => rfl) (v := yR 2073) rfl rfl ?_
    refine yG.num (c := 3) rfl (fun _ _ => rfl) (by decide) ?_
    refine yG.load xik rfl (fun _ _ => rfl) (v := yI (z1)) rfl rfl ?_
    refine yG.num (c := 7) rfl (fun _ _ => rfl) (by decide) ?_
    refine yG.invV (rest := []) A_hp.1 W.m.1 rfl rfl rfl rfl (a_of_3_7 W d A_hp.1 (z1) (by omega) (by omega)) (fun rv hp9 q9 => ?_)
    obtain ⟨⟨z5, rfl, l_z5, u_z5⟩, e9⟩ := q9
    rw [e9]
    show yG _ _ _ _ _ _ _ _ _ _ (yI z5 :: []) _
    refine yG.load xak rfl (fun _ _ => rfl) (v := yR 2073) rfl rfl ?_
    refine yG.num (c := 3) rfl (fun _ _ => rfl) (by decide) ?_
    refine yG.load xik rfl (fun _ _ => rfl) (v := yI (z1)) rfl rfl ?_
    refine yG.num (c := 5) rfl (fun _ _ => rfl) (by decide) ?_
    refine yG.invV (rest := [yI (z5)]) A_hp.1 W.m.1 rfl rfl rfl rfl (a_of_3_5 W d A_hp.1 (z1) (by omega) (by omega)) (fun rv hp9 q9 => ?_)
    obtain ⟨⟨z6, rfl, l_z6, u_z6⟩, e9⟩ := q9
    rw [e9]
    show yG _ _ _ _ _ _ _ _ _ _ (yI z6 :: [yI (z5)]) _
    refine yG.icmp rfl (t := 66) rfl ⟨by omega, by omega⟩ ⟨by omega, by omega⟩ (fun c7 => ?_) (fun c7 => ?_)
    · have c7 : z5 ≥ z6 := c7
      refine yG.num (c := 0) rfl (fun _ _ => rfl) (by decide) ?_
      refine yG.ret rfl (fun _ _ => rfl) ?_
      exact yP.bool (by omega) ⟨⟨0, rfl, by omega, by omega⟩, rfl⟩
    · have c7 : z5 < z6 := c7
      refine yG.load xak rfl (fun _ _ => rfl) (v := yR 2073) rfl rfl ?_
      refine yG.num (c := 3) rfl (fun _ _ => rfl) (by decide) ?_
      refine yG.load xik rfl (fun _ _ => rfl) (v := yI (z1)) rfl rfl ?_
      refine yG.num (c := 8) rfl (fun _ _ => rfl) (by decide) ?_
      refine yG.invV (rest := []) A_hp.1 W.m.1 rfl rfl rfl rfl (a_of_3_8 W d A_hp.1 (z1) (by omega) (by omega)) (fun rv hp9 q9 => ?_)
      obtain ⟨⟨z8, rfl, l_z8, u_z8⟩, e9⟩ := q9
      rw [e9]
      show yG _ _ _ _ _ _ _ _ _ _ (yI z8 :: []) _
      refine yG.load xak rfl (fun _ _ => rfl) (v := yR 2073) rfl rfl ?_
      refine yG.num (c := 3) rfl (fun _ _ => rfl) (by decide) ?_
      refine yG.load xik rfl (fun _ _ => rfl) (v := yI (z1)) rfl rfl ?_
      refine yG.num (c := 6) rfl (fun _ _ => rfl) (by decide) ?_
      refine yG.invV (rest := [yI (z8)]) A_hp.1 W.m.1 rfl rfl rfl rfl (a_of_3_6 W d A_hp.1 (z1) (by omega) (by omega)) (fun rv hp9 q9 => ?_)
      obtain ⟨⟨z9, rfl, l_z9, u_z9⟩, e9⟩ := q9
      rw [e9]
      show yG _ _ _ _ _ _ _ _ _ _ (yI z9 :: [yI (z8)]) _
      refine yG.icmp rfl (t := 66) rfl ⟨by omega, by omega⟩ ⟨by omega, by omega⟩ (fun c10 => ?_) (fun c10 => ?_)
      · have c10 : z8 ≤ z9 := c10
        refine yG.num (c := 0) rfl (fun _ _ => rfl) (by decide) ?_
        refine yG.ret rfl (fun _ _ => rfl) ?_
        exact yP.bool (by omega) ⟨⟨0, rfl, by omega, by omega⟩, rfl⟩
      · have c10 : z8 > z9 := c10
        refine yG.num (c := 1) rfl (fun _ _ => rfl) (by decide) ?_
        refine yG.goto rfl (t := 67) rfl ?_
        refine yG.ret rfl (fun _ _ => rfl) ?_
        exact yP.bool (by omega) ⟨⟨1, rfl, by omega, by omega⟩, rfl⟩
theorem a_fieldOf {hp : xH} (W : yWW G) (d : Nat) (hT : zTy G hp) (p0 p1 : Int) (h0l : 0 ≤ p0) (h0u : p0 ≤ 5) (h1l : 0 ≤ p1) (h1u : p1 ≤ 23) : yC (xcall 89 xfts xpools xms (d + 2)) 398 [yI (p0), yI (p1)] hp (yQpi hp 0 519) := by
  have A_hp : yAx G [] [] hp hp := yAx.rf hT
  refine yC.of (M := (xt_X13_fieldOf, (2, (1, (14, []))))) rfl rfl (N := 48) (yfuel (by decide)) ?_
  show yG 89 xfts (xcall 89 xfts xpools xms (d + 1)) (xpool xp_RX13) [] xt_X13_fieldOf (yP 1 (yQpi hp 0 519)) 48 0 [(0, yI (p0)), (1, yI (p1))] [] hp
  refine yG.load xik rfl (fun _ _ => rfl) (v := yI (p0)) rfl rfl ?_
  refine yG.invS (rest := []) rfl rfl rfl rfl (a_isOfBar W d A_hp.1 (p0) (by omega) (by omega)) (fun rv hp9 q9 => ?_)
  obtain ⟨⟨z1, rfl, l_z1, u_z1⟩, e9⟩ := q9
  rw [e9]
  show yG _ _ _ _ _ _ _ _ _ _ (yI z1 :: []) _
  refine yG.ifz rfl (t := 16) rfl ⟨by omega, by omega⟩ (fun c2 => ?_) (fun c2 => ?_)
  · have c2 : z1 = 0 := c2
    refine yG.num (c := 1) rfl (fun _ _ => rfl) (by decide) ?_
    refine yG.load xik rfl (fun _ _ => rfl) (v := yI (p1)) rfl rfl ?_
    refine yG.load xik rfl (fun _ _ => rfl) (v := yI (p0)) rfl rfl ?_
    refine yG.ifz rfl (t := 27) rfl ⟨by omega, by omega⟩ (fun c3 => ?_) (fun c3 => ?_)
    · have c3 : p0 = 0 := c3
      refine yG.num (c := 0) rfl (fun _ _ => rfl) (by decide) ?_
      refine yG.goto rfl (t := 32) rfl ?_
      refine yG.invS (rest := []) rfl rfl rfl rfl (a_f W d A_hp.1 (1) (p1) (0) (by omega) (by omega) (by omega) (by omega) (by omega) (by omega)) (fun rv hp9 q9 => ?_)
      obtain ⟨rfl, e9⟩ := q9
      rw [e9]
      obtain ⟨z4, e_z4⟩ : ∃ z : Int, z = 264 * (1) + 11 * (p1) + (0) := ⟨_, rfl⟩
      show yG _ _ _ _ _ _ _ _ _ _ (yI (264 * (1) + 11 * (p1) + (0)) :: []) _
      rw [← e_z4]
      refine yG.ret rfl (fun _ _ => rfl) ?_
      exact yP.int ⟨by omega, by omega⟩ ⟨⟨z4, rfl, by omega, by omega⟩, rfl⟩
    · have c3 : p0 ≠ 0 := c3
      refine yG.load xik rfl (fun _ _ => rfl) (v := yI (p0)) rfl rfl ?_
      refine yG.num (c := 1) rfl (fun _ _ => rfl) (by decide) ?_
      refine yG.icmp rfl (t := 31) rfl ⟨by omega, by omega⟩ ⟨by omega, by omega⟩ (fun c5 => ?_) (fun c5 => ?_)
      · have c5 : p0 ≠ 1 := c5
        refine yG.num (c := 2) rfl (fun _ _ => rfl) (by decide) ?_
        refine yG.invS (rest := []) rfl rfl rfl rfl (a_f W d A_hp.1 (1) (p1) (2) (by omega) (by omega) (by omega) (by omega) (by omega) (by omega)) (fun rv hp9 q9 => ?_)
        obtain ⟨rfl, e9⟩ := q9
        rw [e9]
        obtain ⟨z6, e_z6⟩ : ∃ z : Int, z = 264 * (1) + 11 * (p1) + (2) := ⟨_, rfl⟩
        show yG _ _ _ _ _ _ _ _ _ _ (yI (264 * (1) + 11 * (p1) + (2)) :: []) _
        rw [← e_z6]
        refine yG.ret rfl (fun _ _ => rfl) ?_
        exact yP.int ⟨by omega, by omega⟩ ⟨⟨z6, rfl, by omega, by omega⟩, rfl⟩
      · have c5 : p0 = 1 := c5
        refine yG.num (c := 0) rfl (fun _ _ => rfl) (by decide) ?_
        refine yG.goto rfl (t := 32) rfl ?_
        refine yG.invS (rest := []) rfl rfl rfl rfl (a_f W d A_hp.1 (1) (p1) (0) (by omega) (by omega) (by omega) (by omega) (by omega) (by omega)) (fun rv hp9 q9 => ?_)
        obtain ⟨rfl, e9⟩ := q9
        rw [e9]
        obtain ⟨z7, e_z7⟩ : ∃ z : Int, z = 264 * (1) + 11 * (p1) + (0) := ⟨_, rfl⟩
        show yG _ _ _ _ _ _ _ _ _ _ (yI (264 * (1) + 11 * (p1) + (0)) :: []) _
        rw [← e_z7]
        refine yG.ret rfl (fun _ _ => rfl) ?_
        exact yP.int ⟨by omega, by omega⟩ ⟨⟨z7, rfl, by omega, by omega⟩, rfl⟩
  · have c2 : z1 ≠ 0 := c2
    refine yG.num (c := 0) rfl (fun _ _ => rfl) (by decide) ?_
    refine yG.load xik rfl (fun _ _ => rfl) (v := yI (p1)) rfl rfl ?_
    refine yG.num (c := 0) rfl (fun _ _ => rfl) (by decide) ?_
    refine yG.invS (rest := []) rfl rfl rfl rfl (a_f W d A_hp.1 (0) (p1) (0) (by omega) (by omega) (by omega) (by omega) (by omega) (by omega)) (fun rv hp9 q9 => ?_)
    obtain ⟨rfl, e9⟩ := q9
    rw [e9]
    obtain ⟨z8, e_z8⟩ : ∃ z : Int, z = 264 * (0) + 11 * (p1) + (0) := ⟨_, rfl⟩
    show yG _ _ _ _ _ _ _ _ _ _ (yI (264 * (0) + 11 * (p1) + (0)) :: []) _
    rw [← e_z8]
    refine yG.goto rfl (t := 35) rfl ?_
    refine yG.ret rfl (fun _ _ => rfl) ?_
    exact yP.int ⟨by omega, by omega⟩ ⟨⟨z8, rfl, by omega, by omega⟩, rfl⟩
theorem a_backUp {hp : xH} (W : yWW G) (d : Nat) (hT : zTy G hp) (p1 p2 : Int) (h1l : 0 ≤ p1) (h1u : p1 ≤ 23) (h2l : 0 ≤ p2) (h2u : p2 ≤ 2147483647) : yC (xcall 89 xfts xpools xms (d + 5)) 355 [yR 2073, yI (p1), yJ (p2)] hp (yQv G [40, 77] [2098, 2099, 2100, 2101, 2102, 2134, 2135, 2136] hp) := by
  have A_hp : yAx G [40, 77] [2098, 2099, 2100, 2101, 2102, 2134, 2135, 2136] hp hp := yAx.rf hT
  have H : ∀ m : Nat, (∀ a4 a5 a6 : Int, ∀ hq, yAx G [40, 77] [2098, 2099, 2100, 2101, 2102, 2134, 2135, 2136] hp hq → 0 ≤ a4 → (-15) ≤ 0 - a4 → 0 ≤ a5 → (-15) ≤ 0 - a5 → 0 ≤ a6 → (-24) ≤ 0 - a6 → 0 - 3 * a6 + 74 < (m : Int) → yG 89 xfts (xcall 89 xfts xpools xms (d + 4)) (xpool xp_RX13) [] xt_X13_backUp (yP 0 (yQv G [40, 77] [2098, 2099, 2100, 2101, 2102, 2134, 2135, 2136] hp)) (43 * m) 39 [(0, yR 2073), (1, yI (p1)), (2, yJ (p2)), (4, yI (a4)), (5, yI (a5)), (6, yI (a6))] [] hq) ∧ (∀ a4 a5 a6 : Int, ∀ hq, yAx G [40, 77] [2098, 2099, 2100, 2101, 2102, 2134, 2135, 2136] hp hq → 0 ≤ a4 → (-15) ≤ 0 - a4 → 0 ≤ a5 → (-15) ≤ 0 - a5 → 0 ≤ a6 → (-23) ≤ 0 - a6 → 0 - 3 * a6 + 73 < (m : Int) → yG 89 xfts (xcall 89 xfts xpools xms (d + 4)) (xpool xp_RX13) [] xt_X13_backUp (yP 0 (yQv G [40, 77] [2098, 2099, 2100, 2101, 2102, 2134, 2135, 2136] hp)) (43 * m) 114 [(0, yR 2073), (1, yI (p1)), (2, yJ (p2)), (4, yI (a4)), (5, yI (a5)), (6, yI (a6))] [] hq) := by
    intro m
    induction m with
    | zero =>
      refine ⟨?_, ?_⟩ <;> (intros; exfalso; omega)
    | succ m ih =>
      obtain ⟨i_39, i_114⟩ := ih
      refine ⟨?_, ?_⟩
      · intro a4 a5 a6 hq A_hq f0 f1 f2 f3 f4 f5 hm
        refine yG.mono (N := 43 * m + 43) ?_ (by omega)
        refine yG.load xik rfl (fun _ _ => rfl) (v := yI (a6)) rfl rfl ?_
        refine yG.load xak rfl (fun _ _ => rfl) (v := yR 2073) rfl rfl ?_
        refine yG.getR A_hq.1 (r_count W) rfl rfl ?_
        refine yG.num (c := 1) rfl (fun _ _ => rfl) (by decide) ?_
        refine yG.ialdF A_hq.1 (p_count W) rfl rfl (by omega) (by omega) (fun z1 e_z1 i_z1 l_z1 u_z1 => ?_)
        refine yG.icmp rfl (t := 129) rfl ⟨by omega, by omega⟩ ⟨by omega, by omega⟩ (fun c2 => ?_) (fun c2 => ?_)
        · have c2 : a6 ≥ z1 := c2
          refine yG.ret rfl (fun _ _ => rfl) ?_
          exact yP.void ⟨rfl, A_hq⟩
        · have c2 : a6 < z1 := c2
          refine yG.load xak rfl (fun _ _ => rfl) (v := yR 2073) rfl rfl ?_
          refine yG.getR A_hq.1 (r_node W) rfl rfl ?_
          refine yG.load xak rfl (fun _ _ => rfl) (v := yR 2073) rfl rfl ?_
          refine yG.num (c := 1) rfl (fun _ _ => rfl) (by decide) ?_
          refine yG.load xik rfl (fun _ _ => rfl) (v := yI (a6)) rfl rfl ?_
          refine yG.num (c := 3) rfl (fun _ _ => rfl) (by decide) ?_
          refine yG.invV (rest := [yR 2100]) A_hq.1 W.m.1 rfl rfl rfl rfl (a_of_1_3 W (d + 2) A_hq.1 (a6) (by omega) (by omega)) (fun rv hp9 q9 => ?_)
          obtain ⟨⟨z3, rfl, l_z3, u_z3⟩, e9⟩ := q9
          rw [e9]
          show yG _ _ _ _ _ _ _ _ _ _ (yI z3 :: [yR 2100]) _
          refine yG.iald A_hq.1 (v_node W) rfl (by omega) (by omega) (fun z4 e_z4 i_z4 l_z4 u_z4 => ?_)
          refine yG.store1 xik (L' := [(7, yI (z4)), (0, yR 2073), (1, yI (p1)), (2, yJ (p2)), (4, yI (a4)), (5, yI (a5)), (6, yI (a6))]) rfl (fun _ _ => rfl) rfl rfl ?_
          refine yG.load xak rfl (fun _ _ => rfl) (v := yR 2073) rfl rfl ?_
          refine yG.getR A_hq.1 (r_node W) rfl rfl ?_
          refine yG.load xak rfl (fun _ _ => rfl) (v := yR 2073) rfl rfl ?_
          refine yG.num (c := 1) rfl (fun _ _ => rfl) (by decide) ?_
          refine yG.load xik rfl (fun _ _ => rfl) (v := yI (a6)) rfl rfl ?_
          refine yG.num (c := 4) rfl (fun _ _ => rfl) (by decide) ?_
          refine yG.invV (rest := [yR 2100]) A_hq.1 W.m.1 rfl rfl rfl rfl (a_of_1_4 W (d + 2) A_hq.1 (a6) (by omega) (by omega)) (fun rv hp9 q9 => ?_)
          obtain ⟨⟨z5, rfl, l_z5, u_z5⟩, e9⟩ := q9
          rw [e9]
          show yG _ _ _ _ _ _ _ _ _ _ (yI z5 :: [yR 2100]) _
          refine yG.iald A_hq.1 (v_node W) rfl (by omega) (by omega) (fun z6 e_z6 i_z6 l_z6 u_z6 => ?_)
          refine yG.store1 xik (L' := [(8, yI (z6)), (7, yI (z4)), (0, yR 2073), (1, yI (p1)), (2, yJ (p2)), (4, yI (a4)), (5, yI (a5)), (6, yI (a6))]) rfl (fun _ _ => rfl) rfl rfl ?_
          refine yG.load xik rfl (fun _ _ => rfl) (v := yI (a6)) rfl rfl ?_
          refine yG.load xik rfl (fun _ _ => rfl) (v := yI (p1)) rfl rfl ?_
          refine yG.icmp rfl (t := 123) rfl ⟨by omega, by omega⟩ ⟨by omega, by omega⟩ (fun c7 => ?_) (fun c7 => ?_)
          · have c7 : a6 = p1 := c7
            refine yG.iinc rfl (a := a6) rfl (L' := [(6, yI (a6 + 1)), (8, yI (z6)), (7, yI (z4)), (0, yR 2073), (1, yI (p1)), (2, yJ (p2)), (4, yI (a4)), (5, yI (a5))]) rfl ?_
            refine yG.goto rfl (t := 39) rfl ?_
            exact yG.mono (yG.sub (i_39 (a4) (a5) (a6 + 1)  hq A_hq  (by omega) (by omega) (by omega) (by omega) (by omega) (by omega) (by omega)) (ySub.cons rfl (ySub.cons rfl (ySub.cons rfl (ySub.cons rfl (ySub.cons rfl (ySub.cons rfl (ySub.nil)))))))) (by omega)
          · have c7 : a6 ≠ p1 := c7
            refine yG.load xik rfl (fun _ _ => rfl) (v := yI (z4)) rfl rfl ?_
            refine yG.load xik rfl (fun _ _ => rfl) (v := yI (a4)) rfl rfl ?_
            refine yG.icmp rfl (t := 114) rfl ⟨by omega, by omega⟩ ⟨by omega, by omega⟩ (fun c8 => ?_) (fun c8 => ?_)
            · have c8 : z4 = a4 := c8
              exact yG.mono (yG.sub (i_114 (a4) (a5) (a6)  hq A_hq  (by omega) (by omega) (by omega) (by omega) (by omega) (by omega) (by omega)) (ySub.cons rfl (ySub.cons rfl (ySub.cons rfl (ySub.cons rfl (ySub.cons rfl (ySub.cons rfl (ySub.nil)))))))) (by omega)
            · have c8 : z4 ≠ a4 := c8
              refine yG.load xik rfl (fun _ _ => rfl) (v := yI (z4)) rfl rfl ?_
              refine yG.load xik rfl (fun _ _ => rfl) (v := yI (a5)) rfl rfl ?_
              refine yG.icmp rfl (t := 114) rfl ⟨by omega, by omega⟩ ⟨by omega, by omega⟩ (fun c9 => ?_) (fun c9 => ?_)
              · have c9 : z4 = a5 := c9
                exact yG.mono (yG.sub (i_114 (a4) (a5) (a6)  hq A_hq  (by omega) (by omega) (by omega) (by omega) (by omega) (by omega) (by omega)) (ySub.cons rfl (ySub.cons rfl (ySub.cons rfl (ySub.cons rfl (ySub.cons rfl (ySub.cons rfl (ySub.nil)))))))) (by omega)
              · have c9 : z4 ≠ a5 := c9
                refine yG.load xik rfl (fun _ _ => rfl) (v := yI (z6)) rfl rfl ?_
                refine yG.load xik rfl (fun _ _ => rfl) (v := yI (a4)) rfl rfl ?_
                refine yG.icmp rfl (t := 114) rfl ⟨by omega, by omega⟩ ⟨by omega, by omega⟩ (fun c10 => ?_) (fun c10 => ?_)
                · have c10 : z6 = a4 := c10
                  exact yG.mono (yG.sub (i_114 (a4) (a5) (a6)  hq A_hq  (by omega) (by omega) (by omega) (by omega) (by omega) (by omega) (by omega)) (ySub.cons rfl (ySub.cons rfl (ySub.cons rfl (ySub.cons rfl (ySub.cons rfl (ySub.cons rfl (ySub.nil)))))))) (by omega)
                · have c10 : z6 ≠ a4 := c10
                  refine yG.load xik rfl (fun _ _ => rfl) (v := yI (z6)) rfl rfl ?_
                  refine yG.load xik rfl (fun _ _ => rfl) (v := yI (a5)) rfl rfl ?_
                  refine yG.icmp rfl (t := 123) rfl ⟨by omega, by omega⟩ ⟨by omega, by omega⟩ (fun c11 => ?_) (fun c11 => ?_)
                  · have c11 : z6 ≠ a5 := c11
                    refine yG.iinc rfl (a := a6) rfl (L' := [(6, yI (a6 + 1)), (8, yI (z6)), (7, yI (z4)), (0, yR 2073), (1, yI (p1)), (2, yJ (p2)), (4, yI (a4)), (5, yI (a5))]) rfl ?_
                    refine yG.goto rfl (t := 39) rfl ?_
                    exact yG.mono (yG.sub (i_39 (a4) (a5) (a6 + 1)  hq A_hq  (by omega) (by omega) (by omega) (by omega) (by omega) (by omega) (by omega)) (ySub.cons rfl (ySub.cons rfl (ySub.cons rfl (ySub.cons rfl (ySub.cons rfl (ySub.cons rfl (ySub.nil)))))))) (by omega)
                  · have c11 : z6 = a5 := c11
                    exact yG.mono (yG.sub (i_114 (a4) (a5) (a6)  hq A_hq  (by omega) (by omega) (by omega) (by omega) (by omega) (by omega) (by omega)) (ySub.cons rfl (ySub.cons rfl (ySub.cons rfl (ySub.cons rfl (ySub.cons rfl (ySub.cons rfl (ySub.nil)))))))) (by omega)
      · intro a4 a5 a6 hq A_hq f0 f1 f2 f3 f4 f5 hm
        refine yG.mono (N := 43 * m + 43) ?_ (by omega)
        refine yG.load xak rfl (fun _ _ => rfl) (v := yR 2073) rfl rfl ?_
        refine yG.load xik rfl (fun _ _ => rfl) (v := yI (a6)) rfl rfl ?_
        refine yG.load xlk2 rfl (fun _ _ => rfl) (v := yJ (p2)) rfl rfl ?_
        refine yG.invV (rest := []) A_hq.1 W.m.1 rfl rfl rfl rfl (a_giveOrder W (d + 1) A_hq.1 (a6) (p2) (by omega) (by omega) (by omega) (by omega)) (fun rv h2 q9 => ?_)
        obtain ⟨⟨z1, rfl, l_z1, u_z1⟩, B_h2⟩ := q9
        have A_h2 := A_hq.tr (B_h2.sub (by decide) (by decide))
        show yG _ _ _ _ _ _ _ _ _ _ (yI z1 :: []) _
        refine yG.store1 xik (L' := [(9, yI (z1)), (0, yR 2073), (1, yI (p1)), (2, yJ (p2)), (4, yI (a4)), (5, yI (a5)), (6, yI (a6))]) rfl (fun _ _ => rfl) rfl rfl ?_
        refine yG.iinc rfl (a := a6) rfl (L' := [(6, yI (a6 + 1)), (9, yI (z1)), (0, yR 2073), (1, yI (p1)), (2, yJ (p2)), (4, yI (a4)), (5, yI (a5))]) rfl ?_
        refine yG.goto rfl (t := 39) rfl ?_
        exact yG.mono (yG.sub (i_39 (a4) (a5) (a6 + 1)  h2 A_h2  (by omega) (by omega) (by omega) (by omega) (by omega) (by omega) (by omega)) (ySub.cons rfl (ySub.cons rfl (ySub.cons rfl (ySub.cons rfl (ySub.cons rfl (ySub.cons rfl (ySub.nil)))))))) (by omega)
  refine yC.of (M := (xt_X13_backUp, (10, (0, (14, []))))) rfl rfl (N := 3311) (yfuel (by decide)) ?_
  show yG 89 xfts (xcall 89 xfts xpools xms (d + 4)) (xpool xp_RX13) [] xt_X13_backUp (yP 0 (yQv G [40, 77] [2098, 2099, 2100, 2101, 2102, 2134, 2135, 2136] hp)) 3311 0 [(0, yR 2073), (1, yI (p1)), (2, yJ (p2))] [] hp
  obtain ⟨i_39, i_114⟩ := H 76
  refine yG.load xak rfl (fun _ _ => rfl) (v := yR 2073) rfl rfl ?_
  refine yG.invV (rest := []) A_hp.1 W.m.1 rfl rfl rfl rfl (a_asInRun W d A_hp.1) (fun rv h2 q9 => ?_)
  obtain ⟨rfl, B_h2⟩ := q9
  have A_h2 := A_hp.tr (B_h2.sub (by decide) (by decide))
  show yG _ _ _ _ _ _ _ _ _ _ [] _
  refine yG.load xak rfl (fun _ _ => rfl) (v := yR 2073) rfl rfl ?_
  refine yG.invV (rest := []) A_h2.1 W.m.1 rfl rfl rfl rfl (a_topology W (d + 1) A_h2.1) (fun rv h4 q9 => ?_)
  obtain ⟨rfl, B_h4⟩ := q9
  have A_h4 := A_h2.tr (B_h4.sub (by decide) (by decide))
  show yG _ _ _ _ _ _ _ _ _ _ [] _
  refine yG.load xak rfl (fun _ _ => rfl) (v := yR 2073) rfl rfl ?_
  refine yG.getR A_h4.1 (r_node W) rfl rfl ?_
  refine yG.load xak rfl (fun _ _ => rfl) (v := yR 2073) rfl rfl ?_
  refine yG.num (c := 1) rfl (fun _ _ => rfl) (by decide) ?_
  refine yG.load xik rfl (fun _ _ => rfl) (v := yI (p1)) rfl rfl ?_
  refine yG.num (c := 3) rfl (fun _ _ => rfl) (by decide) ?_
  refine yG.invV (rest := [yR 2100]) A_h4.1 W.m.1 rfl rfl rfl rfl (a_of_1_3 W (d + 2) A_h4.1 (p1) (by omega) (by omega)) (fun rv hp9 q9 => ?_)
  obtain ⟨⟨z5, rfl, l_z5, u_z5⟩, e9⟩ := q9
  rw [e9]
  show yG _ _ _ _ _ _ _ _ _ _ (yI z5 :: [yR 2100]) _
  refine yG.iald A_h4.1 (v_node W) rfl (by omega) (by omega) (fun z6 e_z6 i_z6 l_z6 u_z6 => ?_)
  refine yG.store1 xik (L' := [(4, yI (z6)), (0, yR 2073), (1, yI (p1)), (2, yJ (p2))]) rfl (fun _ _ => rfl) rfl rfl ?_
  refine yG.load xak rfl (fun _ _ => rfl) (v := yR 2073) rfl rfl ?_
  refine yG.getR A_h4.1 (r_node W) rfl rfl ?_
  refine yG.load xak rfl (fun _ _ => rfl) (v := yR 2073) rfl rfl ?_
  refine yG.num (c := 1) rfl (fun _ _ => rfl) (by decide) ?_
  refine yG.load xik rfl (fun _ _ => rfl) (v := yI (p1)) rfl rfl ?_
  refine yG.num (c := 4) rfl (fun _ _ => rfl) (by decide) ?_
  refine yG.invV (rest := [yR 2100]) A_h4.1 W.m.1 rfl rfl rfl rfl (a_of_1_4 W (d + 2) A_h4.1 (p1) (by omega) (by omega)) (fun rv hp9 q9 => ?_)
  obtain ⟨⟨z7, rfl, l_z7, u_z7⟩, e9⟩ := q9
  rw [e9]
  show yG _ _ _ _ _ _ _ _ _ _ (yI z7 :: [yR 2100]) _
  refine yG.iald A_h4.1 (v_node W) rfl (by omega) (by omega) (fun z8 e_z8 i_z8 l_z8 u_z8 => ?_)
  refine yG.store1 xik (L' := [(5, yI (z8)), (4, yI (z6)), (0, yR 2073), (1, yI (p1)), (2, yJ (p2))]) rfl (fun _ _ => rfl) rfl rfl ?_
  refine yG.num (c := 0) rfl (fun _ _ => rfl) (by decide) ?_
  refine yG.store1 xik (L' := [(6, yI (0)), (5, yI (z8)), (4, yI (z6)), (0, yR 2073), (1, yI (p1)), (2, yJ (p2))]) rfl (fun _ _ => rfl) rfl rfl ?_
  exact yG.mono (yG.sub (i_39 (z6) (z8) (0)  h4 A_h4  (by omega) (by omega) (by omega) (by omega) (by omega) (by omega) (by omega)) (ySub.cons rfl (ySub.cons rfl (ySub.cons rfl (ySub.cons rfl (ySub.cons rfl (ySub.cons rfl (ySub.nil)))))))) (by omega)
end YSimple
