/-! ===== the class: shapes and the solver, printed by a program ===== -/
section BShape
variable {G : zW}
theorem c_Shape_join_node {hp : xH} (W : bW G) (d : Nat) (hT : zTy G hp) {k0 : Nat} (H_k0 : bRo G 52 k0) (p1 p2 : Int) (h1l : 0 ≤ p1) (h1u : p1 ≤ 15) (h2l : 0 ≤ p2) (h2u : p2 ≤ 15) : yC (xcall 89 xfts xpools xms (d + 2)) 219 [yR k0, yI (p1), yI (p2)] hp (fun rv hp' => (rv = none ∧ True) ∧ bAx G [(4503599627370496, 256)] hp hp') := by
  have A_hp : bAx G [(4503599627370496, 256)] hp hp := bAx.rf hT
  have H : ∀ m : Nat, (∀ a3 : Int, ∀ a4 : Int, ∀ a5 : Int, ∀ hq, bAx G [(4503599627370496, 256)] hp hq → 0 ≤ a3 → (-15) ≤ 0 - a3 → 0 ≤ a4 → (-15) ≤ 0 - a4 → 0 ≤ a5 → (-16) ≤ 0 - a5 → 0 ≤ p1 → (-15) ≤ 0 - p1 → 0 ≤ p2 → (-15) ≤ 0 - p2 → 0 ≤ 0 - a3 + a4 → (-15) ≤ a4 - a5 → 0 ≤ 0 - a3 + p1 → 0 ≤ 0 - a3 + p2 → 0 - 2 * a5 + 33 < (m : Int) → yG 89 xfts (xcall 89 xfts xpools xms (d + 1)) (xpool xp_RX8) [] xt_X8_join (yP 0 (fun rv hp' => (rv = none ∧ True) ∧ bAx G [(4503599627370496, 256)] hp hp')) (20 * m) 24 [(0, yR k0), (3, yI (a3)), (4, yI (a4)), (5, yI (a5))] [] hq) := by
    intro m
    induction m with
    | zero =>
      intros; exfalso; omega
    | succ m ih =>
      have i_24 := ih
      clear ih
      intro a3 a4 a5 hq A_hq f0 f1 f2 f3 f4 f5 f6 f7 f8 f9 f10 f11 f12 f13 hm
      refine yG.mono (N := 20 * m + 20) ?_ (by omega)
      refine yG.load xik rfl (fun _ _ => rfl) (v := yI (a5)) rfl rfl ?_
      refine yG.load xak rfl (fun _ _ => rfl) (v := yR k0) rfl rfl ?_
      refine yG.alenF A_hq.1 (v_Shape_node W H_k0) rfl ?_
      obtain ⟨z1, e_z1⟩ : ∃ z : Int, z = ((16 : Nat) : Int) := ⟨_, rfl⟩
      rw [← e_z1]
      refine yG.icmp rfl (t := 57) rfl ⟨by omega, by omega⟩ ⟨by omega, by omega⟩ (fun c2 => ?_) (fun c2 => ?_)
      · have c2 : (a5 : Int) ≥ z1 := c2
        refine yG.ret rfl (fun _ _ => rfl) ?_
        exact (yP.void ⟨⟨rfl, trivial⟩, A_hq⟩)
      · have c2 : (a5 : Int) < z1 := c2
        refine yG.load xik rfl (fun _ _ => rfl) (v := yI (a3)) rfl rfl ?_
        refine yG.load xik rfl (fun _ _ => rfl) (v := yI (a4)) rfl rfl ?_
        refine yG.icmp rfl (t := 57) rfl ⟨by omega, by omega⟩ ⟨by omega, by omega⟩ (fun c3 => ?_) (fun c3 => ?_)
        · have c3 : (a3 : Int) = a4 := c3
          refine yG.ret rfl (fun _ _ => rfl) ?_
          exact (yP.void ⟨⟨rfl, trivial⟩, A_hq⟩)
        · have c3 : (a3 : Int) ≠ a4 := c3
          refine yG.load xak rfl (fun _ _ => rfl) (v := yR k0) rfl rfl ?_
          refine yG.load xik rfl (fun _ _ => rfl) (v := yI (a5)) rfl rfl ?_
          refine yG.ialdF A_hq.1 (v_Shape_node W H_k0) rfl rfl (by omega) (by omega) (fun z4 e_z4 i_z4 l_z4 u_z4 => ?_)
          refine yG.load xik rfl (fun _ _ => rfl) (v := yI (a4)) rfl rfl ?_
          refine yG.icmp rfl (t := 51) rfl ⟨by omega, by omega⟩ ⟨by omega, by omega⟩ (fun c5 => ?_) (fun c5 => ?_)
          · have c5 : (z4 : Int) ≠ a4 := c5
            refine yG.iinc rfl (a := a5) rfl (L' := [(5, yI (a5 + 1)), (0, yR k0), (3, yI (a3)), (4, yI (a4))]) rfl ?_
            refine yG.goto rfl (t := 24) rfl ?_
            exact yG.mono (yG.sub (i_24 (a3) (a4) (a5 + 1)  hq A_hq   (by omega) (by omega) (by omega) (by omega) (by omega) (by omega) (by omega) (by omega) (by omega) (by omega) (by omega) (by omega) (by omega) (by omega) (by omega)) (ySub.cons rfl (ySub.cons rfl (ySub.cons rfl (ySub.cons rfl (ySub.nil)))))) (by omega)
          · have c5 : (z4 : Int) = a4 := c5
            refine yG.load xak rfl (fun _ _ => rfl) (v := yR k0) rfl rfl ?_
            refine yG.load xik rfl (fun _ _ => rfl) (v := yI (a5)) rfl rfl ?_
            refine yG.load xik rfl (fun _ _ => rfl) (v := yI (a3)) rfl rfl ?_
            refine yG.iastF A_hq.1 (v_Shape_node W H_k0) rfl (W.2.1 _ _ H_k0 (by decide) (by decide)) rfl (by omega) (by omega) ⟨by omega, by omega⟩ (by omega) (by omega) (fun h6 T_h6 b_h6 f_h6 y_h6 => ?_)
            have A_h6 := A_hq.put T_h6 b_h6 f_h6 H_k0 (bAll_ok (by decide) _)
            refine yG.iinc rfl (a := a5) rfl (L' := [(5, yI (a5 + 1)), (0, yR k0), (3, yI (a3)), (4, yI (a4))]) rfl ?_
            refine yG.goto rfl (t := 24) rfl ?_
            exact yG.mono (yG.sub (i_24 (a3) (a4) (a5 + 1)  h6 A_h6   (by omega) (by omega) (by omega) (by omega) (by omega) (by omega) (by omega) (by omega) (by omega) (by omega) (by omega) (by omega) (by omega) (by omega) (by omega)) (ySub.cons rfl (ySub.cons rfl (ySub.cons rfl (ySub.cons rfl (ySub.nil)))))) (by omega)
  refine yC.of (M := (xt_X8_join, (6, (0, (9, []))))) rfl rfl (N := 720) (yfuel (by decide)) ?_
  show yG 89 xfts (xcall 89 xfts xpools xms (d + 1)) (xpool xp_RX8) [] xt_X8_join (yP 0 (fun rv hp' => (rv = none ∧ True) ∧ bAx G [(4503599627370496, 256)] hp hp')) 720 0 [(0, yR k0), (1, yI (p1)), (2, yI (p2))] [] hp
  have i_24 := H 35
  refine yG.load xak rfl (fun _ _ => rfl) (v := yR k0) rfl rfl ?_
  refine yG.load xik rfl (fun _ _ => rfl) (v := yI (p1)) rfl rfl ?_
  refine yG.ialdF A_hp.1 (v_Shape_node W H_k0) rfl rfl (by omega) (by omega) (fun z1 e_z1 i_z1 l_z1 u_z1 => ?_)
  refine yG.load xak rfl (fun _ _ => rfl) (v := yR k0) rfl rfl ?_
  refine yG.load xik rfl (fun _ _ => rfl) (v := yI (p2)) rfl rfl ?_
  refine yG.ialdF A_hp.1 (v_Shape_node W H_k0) rfl rfl (by omega) (by omega) (fun z2 e_z2 i_z2 l_z2 u_z2 => ?_)
  refine yG.invS (rest := []) rfl rfl rfl rfl (c_J9_minI W d A_hp.1 (z1) (z2) (by omega) (by omega) (by omega) (by omega)) (fun rv hp9 q9 => ?_)
  obtain ⟨⟨z3, rfl, l_z3, u_z3, R_z3⟩, e9⟩ := q9
  rw [e9]
  show yG _ _ _ _ _ _ _ _ _ _ (yI z3 :: []) _
  refine yG.store1 xik (L' := [(3, yI (z3)), (0, yR k0), (1, yI (p1)), (2, yI (p2))]) rfl (fun _ _ => rfl) rfl rfl ?_
  refine yG.load xak rfl (fun _ _ => rfl) (v := yR k0) rfl rfl ?_
  refine yG.load xik rfl (fun _ _ => rfl) (v := yI (p1)) rfl rfl ?_
  refine yG.ialdF A_hp.1 (v_Shape_node W H_k0) rfl rfl (by omega) (by omega) (fun z4 e_z4 i_z4 l_z4 u_z4 => ?_)
  refine yG.load xak rfl (fun _ _ => rfl) (v := yR k0) rfl rfl ?_
  refine yG.load xik rfl (fun _ _ => rfl) (v := yI (p2)) rfl rfl ?_
  refine yG.ialdF A_hp.1 (v_Shape_node W H_k0) rfl rfl (by omega) (by omega) (fun z5 e_z5 i_z5 l_z5 u_z5 => ?_)
  refine yG.invS (rest := []) rfl rfl rfl rfl (c_J9_maxI W d A_hp.1 (z4) (z5) (by omega) (by omega) (by omega) (by omega)) (fun rv hp9 q9 => ?_)
  obtain ⟨⟨z6, rfl, l_z6, u_z6, R_z6⟩, e9⟩ := q9
  rw [e9]
  show yG _ _ _ _ _ _ _ _ _ _ (yI z6 :: []) _
  refine yG.store1 xik (L' := [(4, yI (z6)), (3, yI (z3)), (0, yR k0), (1, yI (p1)), (2, yI (p2))]) rfl (fun _ _ => rfl) rfl rfl ?_
  refine yG.num (c := 0) rfl (fun _ _ => rfl) (by decide) ?_
  refine yG.store1 xik (L' := [(5, yI (0)), (4, yI (z6)), (3, yI (z3)), (0, yR k0), (1, yI (p1)), (2, yI (p2))]) rfl (fun _ _ => rfl) rfl rfl ?_
  exact yG.mono (yG.sub (i_24 (z3) (z6) (0)  hp A_hp   (by omega) (by omega) (by omega) (by omega) (by omega) (by omega) (by omega) (by omega) (by omega) (by omega) (by omega) (by omega) (by omega) (by omega) (by omega)) (ySub.cons rfl (ySub.cons rfl (ySub.cons rfl (ySub.cons rfl (ySub.nil)))))) (by omega)
theorem c_Shape_join_island {hp : xH} (W : bW G) (d : Nat) (hT : zTy G hp) {k0 : Nat} (H_k0 : bRo G 53 k0) (p1 p2 : Int) (h1l : 0 ≤ p1) (h1u : p1 ≤ 15) (h2l : 0 ≤ p2) (h2u : p2 ≤ 15) : yC (xcall 89 xfts xpools xms (d + 2)) 219 [yR k0, yI (p1), yI (p2)] hp (fun rv hp' => (rv = none ∧ True) ∧ bAx G [(9007199254740992, 256)] hp hp') := by
  have A_hp : bAx G [(9007199254740992, 256)] hp hp := bAx.rf hT
  have H : ∀ m : Nat, (∀ a3 : Int, ∀ a4 : Int, ∀ a5 : Int, ∀ hq, bAx G [(9007199254740992, 256)] hp hq → 0 ≤ a3 → (-15) ≤ 0 - a3 → 0 ≤ a4 → (-15) ≤ 0 - a4 → 0 ≤ a5 → (-16) ≤ 0 - a5 → 0 ≤ p1 → (-15) ≤ 0 - p1 → 0 ≤ p2 → (-15) ≤ 0 - p2 → 0 ≤ 0 - a3 + a4 → (-15) ≤ a4 - a5 → 0 ≤ 0 - a3 + p1 → 0 ≤ 0 - a3 + p2 → 0 - 2 * a5 + 33 < (m : Int) → yG 89 xfts (xcall 89 xfts xpools xms (d + 1)) (xpool xp_RX8) [] xt_X8_join (yP 0 (fun rv hp' => (rv = none ∧ True) ∧ bAx G [(9007199254740992, 256)] hp hp')) (20 * m) 24 [(0, yR k0), (3, yI (a3)), (4, yI (a4)), (5, yI (a5))] [] hq) := by
    intro m
    induction m with
    | zero =>
      intros; exfalso; omega
    | succ m ih =>
      have i_24 := ih
      clear ih
      intro a3 a4 a5 hq A_hq f0 f1 f2 f3 f4 f5 f6 f7 f8 f9 f10 f11 f12 f13 hm
      refine yG.mono (N := 20 * m + 20) ?_ (by omega)
      refine yG.load xik rfl (fun _ _ => rfl) (v := yI (a5)) rfl rfl ?_
      refine yG.load xak rfl (fun _ _ => rfl) (v := yR k0) rfl rfl ?_
      refine yG.alenF A_hq.1 (v_Shape_island W H_k0) rfl ?_
      obtain ⟨z1, e_z1⟩ : ∃ z : Int, z = ((16 : Nat) : Int) := ⟨_, rfl⟩
      rw [← e_z1]
      refine yG.icmp rfl (t := 57) rfl ⟨by omega, by omega⟩ ⟨by omega, by omega⟩ (fun c2 => ?_) (fun c2 => ?_)
      · have c2 : (a5 : Int) ≥ z1 := c2
        refine yG.ret rfl (fun _ _ => rfl) ?_
        exact (yP.void ⟨⟨rfl, trivial⟩, A_hq⟩)
      · have c2 : (a5 : Int) < z1 := c2
        refine yG.load xik rfl (fun _ _ => rfl) (v := yI (a3)) rfl rfl ?_
        refine yG.load xik rfl (fun _ _ => rfl) (v := yI (a4)) rfl rfl ?_
        refine yG.icmp rfl (t := 57) rfl ⟨by omega, by omega⟩ ⟨by omega, by omega⟩ (fun c3 => ?_) (fun c3 => ?_)
        · have c3 : (a3 : Int) = a4 := c3
          refine yG.ret rfl (fun _ _ => rfl) ?_
          exact (yP.void ⟨⟨rfl, trivial⟩, A_hq⟩)
        · have c3 : (a3 : Int) ≠ a4 := c3
          refine yG.load xak rfl (fun _ _ => rfl) (v := yR k0) rfl rfl ?_
          refine yG.load xik rfl (fun _ _ => rfl) (v := yI (a5)) rfl rfl ?_
          refine yG.ialdF A_hq.1 (v_Shape_island W H_k0) rfl rfl (by omega) (by omega) (fun z4 e_z4 i_z4 l_z4 u_z4 => ?_)
          refine yG.load xik rfl (fun _ _ => rfl) (v := yI (a4)) rfl rfl ?_
          refine yG.icmp rfl (t := 51) rfl ⟨by omega, by omega⟩ ⟨by omega, by omega⟩ (fun c5 => ?_) (fun c5 => ?_)
          · have c5 : (z4 : Int) ≠ a4 := c5
            refine yG.iinc rfl (a := a5) rfl (L' := [(5, yI (a5 + 1)), (0, yR k0), (3, yI (a3)), (4, yI (a4))]) rfl ?_
            refine yG.goto rfl (t := 24) rfl ?_
            exact yG.mono (yG.sub (i_24 (a3) (a4) (a5 + 1)  hq A_hq   (by omega) (by omega) (by omega) (by omega) (by omega) (by omega) (by omega) (by omega) (by omega) (by omega) (by omega) (by omega) (by omega) (by omega) (by omega)) (ySub.cons rfl (ySub.cons rfl (ySub.cons rfl (ySub.cons rfl (ySub.nil)))))) (by omega)
          · have c5 : (z4 : Int) = a4 := c5
            refine yG.load xak rfl (fun _ _ => rfl) (v := yR k0) rfl rfl ?_
            refine yG.load xik rfl (fun _ _ => rfl) (v := yI (a5)) rfl rfl ?_
            refine yG.load xik rfl (fun _ _ => rfl) (v := yI (a3)) rfl rfl ?_
            refine yG.iastF A_hq.1 (v_Shape_island W H_k0) rfl (W.2.1 _ _ H_k0 (by decide) (by decide)) rfl (by omega) (by omega) ⟨by omega, by omega⟩ (by omega) (by omega) (fun h6 T_h6 b_h6 f_h6 y_h6 => ?_)
            have A_h6 := A_hq.put T_h6 b_h6 f_h6 H_k0 (bAll_ok (by decide) _)
            refine yG.iinc rfl (a := a5) rfl (L' := [(5, yI (a5 + 1)), (0, yR k0), (3, yI (a3)), (4, yI (a4))]) rfl ?_
            refine yG.goto rfl (t := 24) rfl ?_
            exact yG.mono (yG.sub (i_24 (a3) (a4) (a5 + 1)  h6 A_h6   (by omega) (by omega) (by omega) (by omega) (by omega) (by omega) (by omega) (by omega) (by omega) (by omega) (by omega) (by omega) (by omega) (by omega) (by omega)) (ySub.cons rfl (ySub.cons rfl (ySub.cons rfl (ySub.cons rfl (ySub.nil)))))) (by omega)
  refine yC.of (M := (xt_X8_join, (6, (0, (9, []))))) rfl rfl (N := 720) (yfuel (by decide)) ?_
  show yG 89 xfts (xcall 89 xfts xpools xms (d + 1)) (xpool xp_RX8) [] xt_X8_join (yP 0 (fun rv hp' => (rv = none ∧ True) ∧ bAx G [(9007199254740992, 256)] hp hp')) 720 0 [(0, yR k0), (1, yI (p1)), (2, yI (p2))] [] hp
  have i_24 := H 35
  refine yG.load xak rfl (fun _ _ => rfl) (v := yR k0) rfl rfl ?_
  refine yG.load xik rfl (fun _ _ => rfl) (v := yI (p1)) rfl rfl ?_
  refine yG.ialdF A_hp.1 (v_Shape_island W H_k0) rfl rfl (by omega) (by omega) (fun z1 e_z1 i_z1 l_z1 u_z1 => ?_)
  refine yG.load xak rfl (fun _ _ => rfl) (v := yR k0) rfl rfl ?_
  refine yG.load xik rfl (fun _ _ => rfl) (v := yI (p2)) rfl rfl ?_
  refine yG.ialdF A_hp.1 (v_Shape_island W H_k0) rfl rfl (by omega) (by omega) (fun z2 e_z2 i_z2 l_z2 u_z2 => ?_)
  refine yG.invS (rest := []) rfl rfl rfl rfl (c_J9_minI W d A_hp.1 (z1) (z2) (by omega) (by omega) (by omega) (by omega)) (fun rv hp9 q9 => ?_)
  obtain ⟨⟨z3, rfl, l_z3, u_z3, R_z3⟩, e9⟩ := q9
  rw [e9]
  show yG _ _ _ _ _ _ _ _ _ _ (yI z3 :: []) _
  refine yG.store1 xik (L' := [(3, yI (z3)), (0, yR k0), (1, yI (p1)), (2, yI (p2))]) rfl (fun _ _ => rfl) rfl rfl ?_
  refine yG.load xak rfl (fun _ _ => rfl) (v := yR k0) rfl rfl ?_
  refine yG.load xik rfl (fun _ _ => rfl) (v := yI (p1)) rfl rfl ?_
  refine yG.ialdF A_hp.1 (v_Shape_island W H_k0) rfl rfl (by omega) (by omega) (fun z4 e_z4 i_z4 l_z4 u_z4 => ?_)
  refine yG.load xak rfl (fun _ _ => rfl) (v := yR k0) rfl rfl ?_
  refine yG.load xik rfl (fun _ _ => rfl) (v := yI (p2)) rfl rfl ?_
  refine yG.ialdF A_hp.1 (v_Shape_island W H_k0) rfl rfl (by omega) (by omega) (fun z5 e_z5 i_z5 l_z5 u_z5 => ?_)
  refine yG.invS (rest := []) rfl rfl rfl rfl (c_J9_maxI W d A_hp.1 (z4) (z5) (by omega) (by omega) (by omega) (by omega)) (fun rv hp9 q9 => ?_)
  obtain ⟨⟨z6, rfl, l_z6, u_z6, R_z6⟩, e9⟩ := q9
  rw [e9]
  show yG _ _ _ _ _ _ _ _ _ _ (yI z6 :: []) _
  refine yG.store1 xik (L' := [(4, yI (z6)), (3, yI (z3)), (0, yR k0), (1, yI (p1)), (2, yI (p2))]) rfl (fun _ _ => rfl) rfl rfl ?_
  refine yG.num (c := 0) rfl (fun _ _ => rfl) (by decide) ?_
  refine yG.store1 xik (L' := [(5, yI (0)), (4, yI (z6)), (3, yI (z3)), (0, yR k0), (1, yI (p1)), (2, yI (p2))]) rfl (fun _ _ => rfl) rfl rfl ?_
  exact yG.mono (yG.sub (i_24 (z3) (z6) (0)  hp A_hp   (by omega) (by omega) (by omega) (by omega) (by omega) (by omega) (by omega) (by omega) (by omega) (by omega) (by omega) (by omega) (by omega) (by omega) (by omega)) (ySub.cons rfl (ySub.cons rfl (ySub.cons rfl (ySub.cons rfl (ySub.nil)))))) (by omega)
theorem c_Shape_tally {hp : xH} (W : bW G) (d : Nat) (hT : zTy G hp) {k0 : Nat} (H_k0 : bRo G 51 k0) : yC (xcall 89 xfts xpools xms (d + 1)) 227 [yR k0] hp (fun rv hp' => (rv = none ∧ True) ∧ bAx G [(2251799813685248, 9), (2251799813685248, 10), (2251799813685248, 11)] hp hp') := by
  have A_hp : bAx G [(2251799813685248, 9), (2251799813685248, 10), (2251799813685248, 11)] hp hp := bAx.rf hT
  have H : ∀ m : Nat, (∀ a1 : Int, ∀ hq, bAx G [(2251799813685248, 9), (2251799813685248, 10), (2251799813685248, 11)] hp hq → 0 ≤ a1 → (-16) ≤ 0 - a1 → 0 - 2 * a1 + 33 < (m : Int) → yG 89 xfts (xcall 89 xfts xpools xms d) (xpool xp_RX8) [] xt_X8_tally (yP 0 (fun rv hp' => (rv = none ∧ True) ∧ bAx G [(2251799813685248, 9), (2251799813685248, 10), (2251799813685248, 11)] hp hp')) (55 * m) 17 [(0, yR k0), (1, yI (a1))] [] hq) := by
    intro m
    induction m with
    | zero =>
      intros; exfalso; omega
    | succ m ih =>
      have i_17 := ih
      clear ih
      intro a1 hq A_hq f0 f1 hm
      refine yG.mono (N := 55 * m + 55) ?_ (by omega)
      refine yG.load xik rfl (fun _ _ => rfl) (v := yI (a1)) rfl rfl ?_
      refine yG.load xak rfl (fun _ _ => rfl) (v := yR k0) rfl rfl ?_
      refine yG.getO A_hq.1 (w_Shape_net W H_k0) rfl rfl (fun r1 H_r1 O_r1 q_r1 => ?_)
      refine yG.getO A_hq.1 (w_Net_count W H_r1) rfl rfl (fun r2 H_r2 O_r2 q_r2 => ?_)
      refine yG.num (c := 0) rfl (fun _ _ => rfl) (by decide) ?_
      refine yG.ialdF A_hq.1 (v_Net_count W H_r2) rfl rfl (by omega) (by omega) (fun z3 e_z3 i_z3 l_z3 u_z3 => ?_)
      refine yG.icmp rfl (t := 117) rfl ⟨by omega, by omega⟩ ⟨by omega, by omega⟩ (fun c4 => ?_) (fun c4 => ?_)
      · have c4 : (a1 : Int) ≥ z3 := c4
        refine yG.ret rfl (fun _ _ => rfl) ?_
        exact (yP.void ⟨⟨rfl, trivial⟩, A_hq⟩)
      · have c4 : (a1 : Int) < z3 := c4
        refine yG.load xak rfl (fun _ _ => rfl) (v := yR k0) rfl rfl ?_
        refine yG.step (pc' := 32) (stk' := [yR k0, yR k0]) rfl (fun _ _ => rfl) ?_
        refine yG.getI A_hq.1 (w_Shape_nodes W H_k0) rfl rfl (fun z5 e_z5 i_z5 l_z5 u_z5 => ?_)
        refine yG.load xak rfl (fun _ _ => rfl) (v := yR k0) rfl rfl ?_
        refine yG.getO A_hq.1 (w_Shape_node W H_k0) rfl rfl (fun r6 H_r6 O_r6 q_r6 => ?_)
        refine yG.load xik rfl (fun _ _ => rfl) (v := yI (a1)) rfl rfl ?_
        refine yG.ialdF A_hq.1 (v_Shape_node W H_r6) rfl rfl (by omega) (by omega) (fun z7 e_z7 i_z7 l_z7 u_z7 => ?_)
        refine yG.load xik rfl (fun _ _ => rfl) (v := yI (a1)) rfl rfl ?_
        refine yG.icmp rfl (t := 49) rfl ⟨by omega, by omega⟩ ⟨by omega, by omega⟩ (fun c8 => ?_) (fun c8 => ?_)
        · have c8 : (z7 : Int) ≠ a1 := c8
          refine yG.num (c := 0) rfl (fun _ _ => rfl) (by decide) ?_
          refine yG.iadd rfl ?_
          refine yG.putI A_hq.1 (w_Shape_nodes W H_k0) (W.2.1 _ _ H_k0 (by decide) (by decide)) rfl rfl (.inl rfl) ⟨by omega, by omega⟩ (by omega) (by omega) (fun h9 T_h9 b_h9 f_h9 y_h9 => ?_)
          have A_h9 := A_hq.put T_h9 b_h9 f_h9 H_k0 (by decide)
          refine yG.load xak rfl (fun _ _ => rfl) (v := yR k0) rfl rfl ?_
          refine yG.step (pc' := 56) (stk' := [yR k0, yR k0]) rfl (fun _ _ => rfl) ?_
          refine yG.getI A_h9.1 (w_Shape_islands W H_k0) rfl rfl (fun z10 e_z10 i_z10 l_z10 u_z10 => ?_)
          refine yG.load xak rfl (fun _ _ => rfl) (v := yR k0) rfl rfl ?_
          refine yG.getO A_h9.1 (w_Shape_island W H_k0) rfl rfl (fun r11 H_r11 O_r11 q_r11 => ?_)
          refine yG.load xik rfl (fun _ _ => rfl) (v := yI (a1)) rfl rfl ?_
          refine yG.ialdF A_h9.1 (v_Shape_island W H_r11) rfl rfl (by omega) (by omega) (fun z12 e_z12 i_z12 l_z12 u_z12 => ?_)
          refine yG.load xik rfl (fun _ _ => rfl) (v := yI (a1)) rfl rfl ?_
          refine yG.icmp rfl (t := 73) rfl ⟨by omega, by omega⟩ ⟨by omega, by omega⟩ (fun c13 => ?_) (fun c13 => ?_)
          · have c13 : (z12 : Int) ≠ a1 := c13
            refine yG.num (c := 0) rfl (fun _ _ => rfl) (by decide) ?_
            refine yG.iadd rfl ?_
            refine yG.putI A_h9.1 (w_Shape_islands W H_k0) (W.2.1 _ _ H_k0 (by decide) (by decide)) rfl rfl (.inl rfl) ⟨by omega, by omega⟩ (by omega) (by omega) (fun h14 T_h14 b_h14 f_h14 y_h14 => ?_)
            have A_h14 := A_h9.put T_h14 b_h14 f_h14 H_k0 (by decide)
            have qq1 : zsl h14 k0 2 = yR r11 := ((f_h14 k0 2).trans (if_neg (fun e => absurd e.2 (by decide)))).trans q_r11
            have : ys h14 r11 (a1 : Int).toNat = ys h9 r11 (a1 : Int).toNat := (y_h14 r11 (a1 : Int).toNat).trans (if_neg (fun e => (bRo.ne H_r11 H_k0 (by decide)) e.1))
            refine yG.load xak rfl (fun _ _ => rfl) (v := yR k0) rfl rfl ?_
            refine yG.step (pc' := 80) (stk' := [yR k0, yR k0]) rfl (fun _ _ => rfl) ?_
            refine yG.getI A_h14.1 (w_Shape_lives W H_k0) rfl rfl (fun z15 e_z15 i_z15 l_z15 u_z15 => ?_)
            refine yG.load xak rfl (fun _ _ => rfl) (v := yR k0) rfl rfl ?_
            refine yG.getS9 A_h14.1 (w_Shape_island W H_k0) qq1 rfl rfl ?_
            refine yG.load xik rfl (fun _ _ => rfl) (v := yI (a1)) rfl rfl ?_
            refine yG.ialdF A_h14.1 (v_Shape_island W H_r11) rfl rfl (by omega) (by omega) (fun z16 e_z16 i_z16 l_z16 u_z16 => ?_)
            refine yG.load xik rfl (fun _ _ => rfl) (v := yI (a1)) rfl rfl ?_
            refine yG.icmp rfl (t := 106) rfl ⟨by omega, by omega⟩ ⟨by omega, by omega⟩ (fun c17 => ?_) (fun c17 => ?_)
            · have c17 : (z16 : Int) ≠ a1 := c17
              refine yG.num (c := 0) rfl (fun _ _ => rfl) (by decide) ?_
              refine yG.iadd rfl ?_
              refine yG.putI A_h14.1 (w_Shape_lives W H_k0) (W.2.1 _ _ H_k0 (by decide) (by decide)) rfl rfl (.inl rfl) ⟨by omega, by omega⟩ (by omega) (by omega) (fun h18 T_h18 b_h18 f_h18 y_h18 => ?_)
              have A_h18 := A_h14.put T_h18 b_h18 f_h18 H_k0 (by decide)
              have qq2 : zsl h18 k0 2 = yR r11 := ((f_h18 k0 2).trans (if_neg (fun e => absurd e.2 (by decide)))).trans qq1
              have : ys h18 r11 (a1 : Int).toNat = ys h14 r11 (a1 : Int).toNat := (y_h18 r11 (a1 : Int).toNat).trans (if_neg (fun e => (bRo.ne H_r11 H_k0 (by decide)) e.1))
              refine yG.iinc rfl (a := a1) rfl (L' := [(1, yI (a1 + 1)), (0, yR k0)]) rfl ?_
              refine yG.goto rfl (t := 17) rfl ?_
              exact yG.mono (yG.sub (i_17 (a1 + 1)  h18 A_h18   (by omega) (by omega) (by omega)) (ySub.cons rfl (ySub.cons rfl (ySub.nil)))) (by omega)
            · have c17 : (z16 : Int) = a1 := c17
              exfalso; omega
          · have c13 : (z12 : Int) = a1 := c13
            refine yG.num (c := 1) rfl (fun _ _ => rfl) (by decide) ?_
            refine yG.goto rfl (t := 74) rfl ?_
            refine yG.iadd rfl ?_
            obtain ⟨z20, e_z20, l_z20, u_z20⟩ := ywI (z10 + 1)
            rw [e_z20]
            refine yG.putI A_h9.1 (w_Shape_islands W H_k0) (W.2.1 _ _ H_k0 (by decide) (by decide)) rfl rfl (.inl rfl) ⟨by omega, by omega⟩ (by omega) (by omega) (fun h19 T_h19 b_h19 f_h19 y_h19 => ?_)
            have A_h19 := A_h9.put T_h19 b_h19 f_h19 H_k0 (by decide)
            have qq3 : zsl h19 k0 2 = yR r11 := ((f_h19 k0 2).trans (if_neg (fun e => absurd e.2 (by decide)))).trans q_r11
            have : ys h19 r11 (a1 : Int).toNat = ys h9 r11 (a1 : Int).toNat := (y_h19 r11 (a1 : Int).toNat).trans (if_neg (fun e => (bRo.ne H_r11 H_k0 (by decide)) e.1))
            refine yG.load xak rfl (fun _ _ => rfl) (v := yR k0) rfl rfl ?_
            refine yG.step (pc' := 80) (stk' := [yR k0, yR k0]) rfl (fun _ _ => rfl) ?_
            refine yG.getI A_h19.1 (w_Shape_lives W H_k0) rfl rfl (fun z21 e_z21 i_z21 l_z21 u_z21 => ?_)
            refine yG.load xak rfl (fun _ _ => rfl) (v := yR k0) rfl rfl ?_
            refine yG.getS9 A_h19.1 (w_Shape_island W H_k0) qq3 rfl rfl ?_
            refine yG.load xik rfl (fun _ _ => rfl) (v := yI (a1)) rfl rfl ?_
            refine yG.ialdF A_h19.1 (v_Shape_island W H_r11) rfl rfl (by omega) (by omega) (fun z22 e_z22 i_z22 l_z22 u_z22 => ?_)
            refine yG.load xik rfl (fun _ _ => rfl) (v := yI (a1)) rfl rfl ?_
            refine yG.icmp rfl (t := 106) rfl ⟨by omega, by omega⟩ ⟨by omega, by omega⟩ (fun c23 => ?_) (fun c23 => ?_)
            · have c23 : (z22 : Int) ≠ a1 := c23
              exfalso; omega
            · have c23 : (z22 : Int) = a1 := c23
              refine yG.load xak rfl (fun _ _ => rfl) (v := yR k0) rfl rfl ?_
              refine yG.getO A_h19.1 (w_Shape_live W H_k0) rfl rfl (fun r24 H_r24 O_r24 q_r24 => ?_)
              refine yG.load xik rfl (fun _ _ => rfl) (v := yI (a1)) rfl rfl ?_
              refine yG.bald A_h19.1 (v_Shape_live W H_r24) rfl (by omega) (by omega) (fun z25 e_z25 i_z25 l_z25 u_z25 => ?_)
              refine yG.ifz rfl (t := 106) rfl ⟨by omega, by omega⟩ (fun c26 => ?_) (fun c26 => ?_)
              · have c26 : (z25 : Int) = 0 := c26
                refine yG.num (c := 0) rfl (fun _ _ => rfl) (by decide) ?_
                refine yG.iadd rfl ?_
                refine yG.putI A_h19.1 (w_Shape_lives W H_k0) (W.2.1 _ _ H_k0 (by decide) (by decide)) rfl rfl (.inl rfl) ⟨by omega, by omega⟩ (by omega) (by omega) (fun h27 T_h27 b_h27 f_h27 y_h27 => ?_)
                have A_h27 := A_h19.put T_h27 b_h27 f_h27 H_k0 (by decide)
                have qq4 : zsl h27 k0 2 = yR r11 := ((f_h27 k0 2).trans (if_neg (fun e => absurd e.2 (by decide)))).trans qq3
                have : ys h27 r11 (a1 : Int).toNat = ys h19 r11 (a1 : Int).toNat := (y_h27 r11 (a1 : Int).toNat).trans (if_neg (fun e => (bRo.ne H_r11 H_k0 (by decide)) e.1))
                refine yG.iinc rfl (a := a1) rfl (L' := [(1, yI (a1 + 1)), (0, yR k0)]) rfl ?_
                refine yG.goto rfl (t := 17) rfl ?_
                exact yG.mono (yG.sub (i_17 (a1 + 1)  h27 A_h27   (by omega) (by omega) (by omega)) (ySub.cons rfl (ySub.cons rfl (ySub.nil)))) (by omega)
              · have c26 : (z25 : Int) ≠ 0 := c26
                refine yG.num (c := 1) rfl (fun _ _ => rfl) (by decide) ?_
                refine yG.goto rfl (t := 107) rfl ?_
                refine yG.iadd rfl ?_
                obtain ⟨z29, e_z29, l_z29, u_z29⟩ := ywI (z21 + 1)
                rw [e_z29]
                refine yG.putI A_h19.1 (w_Shape_lives W H_k0) (W.2.1 _ _ H_k0 (by decide) (by decide)) rfl rfl (.inl rfl) ⟨by omega, by omega⟩ (by omega) (by omega) (fun h28 T_h28 b_h28 f_h28 y_h28 => ?_)
                have A_h28 := A_h19.put T_h28 b_h28 f_h28 H_k0 (by decide)
                have qq5 : zsl h28 k0 2 = yR r11 := ((f_h28 k0 2).trans (if_neg (fun e => absurd e.2 (by decide)))).trans qq3
                have : ys h28 r11 (a1 : Int).toNat = ys h19 r11 (a1 : Int).toNat := (y_h28 r11 (a1 : Int).toNat).trans (if_neg (fun e => (bRo.ne H_r11 H_k0 (by decide)) e.1))
                refine yG.iinc rfl (a := a1) rfl (L' := [(1, yI (a1 + 1)), (0, yR k0)]) rfl ?_
                refine yG.goto rfl (t := 17) rfl ?_
                exact yG.mono (yG.sub (i_17 (a1 + 1)  h28 A_h28   (by omega) (by omega) (by omega)) (ySub.cons rfl (ySub.cons rfl (ySub.nil)))) (by omega)
        · have c8 : (z7 : Int) = a1 := c8
          refine yG.num (c := 1) rfl (fun _ _ => rfl) (by decide) ?_
          refine yG.goto rfl (t := 50) rfl ?_
          refine yG.iadd rfl ?_
          obtain ⟨z31, e_z31, l_z31, u_z31⟩ := ywI (z5 + 1)
          rw [e_z31]
          refine yG.putI A_hq.1 (w_Shape_nodes W H_k0) (W.2.1 _ _ H_k0 (by decide) (by decide)) rfl rfl (.inl rfl) ⟨by omega, by omega⟩ (by omega) (by omega) (fun h30 T_h30 b_h30 f_h30 y_h30 => ?_)
          have A_h30 := A_hq.put T_h30 b_h30 f_h30 H_k0 (by decide)
          refine yG.load xak rfl (fun _ _ => rfl) (v := yR k0) rfl rfl ?_
          refine yG.step (pc' := 56) (stk' := [yR k0, yR k0]) rfl (fun _ _ => rfl) ?_
          refine yG.getI A_h30.1 (w_Shape_islands W H_k0) rfl rfl (fun z32 e_z32 i_z32 l_z32 u_z32 => ?_)
          refine yG.load xak rfl (fun _ _ => rfl) (v := yR k0) rfl rfl ?_
          refine yG.getO A_h30.1 (w_Shape_island W H_k0) rfl rfl (fun r33 H_r33 O_r33 q_r33 => ?_)
          refine yG.load xik rfl (fun _ _ => rfl) (v := yI (a1)) rfl rfl ?_
          refine yG.ialdF A_h30.1 (v_Shape_island W H_r33) rfl rfl (by omega) (by omega) (fun z34 e_z34 i_z34 l_z34 u_z34 => ?_)
          refine yG.load xik rfl (fun _ _ => rfl) (v := yI (a1)) rfl rfl ?_
          refine yG.icmp rfl (t := 73) rfl ⟨by omega, by omega⟩ ⟨by omega, by omega⟩ (fun c35 => ?_) (fun c35 => ?_)
          · have c35 : (z34 : Int) ≠ a1 := c35
            refine yG.num (c := 0) rfl (fun _ _ => rfl) (by decide) ?_
            refine yG.iadd rfl ?_
            refine yG.putI A_h30.1 (w_Shape_islands W H_k0) (W.2.1 _ _ H_k0 (by decide) (by decide)) rfl rfl (.inl rfl) ⟨by omega, by omega⟩ (by omega) (by omega) (fun h36 T_h36 b_h36 f_h36 y_h36 => ?_)
            have A_h36 := A_h30.put T_h36 b_h36 f_h36 H_k0 (by decide)
            have qq6 : zsl h36 k0 2 = yR r33 := ((f_h36 k0 2).trans (if_neg (fun e => absurd e.2 (by decide)))).trans q_r33
            have : ys h36 r33 (a1 : Int).toNat = ys h30 r33 (a1 : Int).toNat := (y_h36 r33 (a1 : Int).toNat).trans (if_neg (fun e => (bRo.ne H_r33 H_k0 (by decide)) e.1))
            refine yG.load xak rfl (fun _ _ => rfl) (v := yR k0) rfl rfl ?_
            refine yG.step (pc' := 80) (stk' := [yR k0, yR k0]) rfl (fun _ _ => rfl) ?_
            refine yG.getI A_h36.1 (w_Shape_lives W H_k0) rfl rfl (fun z37 e_z37 i_z37 l_z37 u_z37 => ?_)
            refine yG.load xak rfl (fun _ _ => rfl) (v := yR k0) rfl rfl ?_
            refine yG.getS9 A_h36.1 (w_Shape_island W H_k0) qq6 rfl rfl ?_
            refine yG.load xik rfl (fun _ _ => rfl) (v := yI (a1)) rfl rfl ?_
            refine yG.ialdF A_h36.1 (v_Shape_island W H_r33) rfl rfl (by omega) (by omega) (fun z38 e_z38 i_z38 l_z38 u_z38 => ?_)
            refine yG.load xik rfl (fun _ _ => rfl) (v := yI (a1)) rfl rfl ?_
            refine yG.icmp rfl (t := 106) rfl ⟨by omega, by omega⟩ ⟨by omega, by omega⟩ (fun c39 => ?_) (fun c39 => ?_)
            · have c39 : (z38 : Int) ≠ a1 := c39
              refine yG.num (c := 0) rfl (fun _ _ => rfl) (by decide) ?_
              refine yG.iadd rfl ?_
              refine yG.putI A_h36.1 (w_Shape_lives W H_k0) (W.2.1 _ _ H_k0 (by decide) (by decide)) rfl rfl (.inl rfl) ⟨by omega, by omega⟩ (by omega) (by omega) (fun h40 T_h40 b_h40 f_h40 y_h40 => ?_)
              have A_h40 := A_h36.put T_h40 b_h40 f_h40 H_k0 (by decide)
              have qq7 : zsl h40 k0 2 = yR r33 := ((f_h40 k0 2).trans (if_neg (fun e => absurd e.2 (by decide)))).trans qq6
              have : ys h40 r33 (a1 : Int).toNat = ys h36 r33 (a1 : Int).toNat := (y_h40 r33 (a1 : Int).toNat).trans (if_neg (fun e => (bRo.ne H_r33 H_k0 (by decide)) e.1))
              refine yG.iinc rfl (a := a1) rfl (L' := [(1, yI (a1 + 1)), (0, yR k0)]) rfl ?_
              refine yG.goto rfl (t := 17) rfl ?_
              exact yG.mono (yG.sub (i_17 (a1 + 1)  h40 A_h40   (by omega) (by omega) (by omega)) (ySub.cons rfl (ySub.cons rfl (ySub.nil)))) (by omega)
            · have c39 : (z38 : Int) = a1 := c39
              exfalso; omega
          · have c35 : (z34 : Int) = a1 := c35
            refine yG.num (c := 1) rfl (fun _ _ => rfl) (by decide) ?_
            refine yG.goto rfl (t := 74) rfl ?_
            refine yG.iadd rfl ?_
            obtain ⟨z42, e_z42, l_z42, u_z42⟩ := ywI (z32 + 1)
            rw [e_z42]
            refine yG.putI A_h30.1 (w_Shape_islands W H_k0) (W.2.1 _ _ H_k0 (by decide) (by decide)) rfl rfl (.inl rfl) ⟨by omega, by omega⟩ (by omega) (by omega) (fun h41 T_h41 b_h41 f_h41 y_h41 => ?_)
            have A_h41 := A_h30.put T_h41 b_h41 f_h41 H_k0 (by decide)
            have qq8 : zsl h41 k0 2 = yR r33 := ((f_h41 k0 2).trans (if_neg (fun e => absurd e.2 (by decide)))).trans q_r33
            have : ys h41 r33 (a1 : Int).toNat = ys h30 r33 (a1 : Int).toNat := (y_h41 r33 (a1 : Int).toNat).trans (if_neg (fun e => (bRo.ne H_r33 H_k0 (by decide)) e.1))
            refine yG.load xak rfl (fun _ _ => rfl) (v := yR k0) rfl rfl ?_
            refine yG.step (pc' := 80) (stk' := [yR k0, yR k0]) rfl (fun _ _ => rfl) ?_
            refine yG.getI A_h41.1 (w_Shape_lives W H_k0) rfl rfl (fun z43 e_z43 i_z43 l_z43 u_z43 => ?_)
            refine yG.load xak rfl (fun _ _ => rfl) (v := yR k0) rfl rfl ?_
            refine yG.getS9 A_h41.1 (w_Shape_island W H_k0) qq8 rfl rfl ?_
            refine yG.load xik rfl (fun _ _ => rfl) (v := yI (a1)) rfl rfl ?_
            refine yG.ialdF A_h41.1 (v_Shape_island W H_r33) rfl rfl (by omega) (by omega) (fun z44 e_z44 i_z44 l_z44 u_z44 => ?_)
            refine yG.load xik rfl (fun _ _ => rfl) (v := yI (a1)) rfl rfl ?_
            refine yG.icmp rfl (t := 106) rfl ⟨by omega, by omega⟩ ⟨by omega, by omega⟩ (fun c45 => ?_) (fun c45 => ?_)
            · have c45 : (z44 : Int) ≠ a1 := c45
              exfalso; omega
            · have c45 : (z44 : Int) = a1 := c45
              refine yG.load xak rfl (fun _ _ => rfl) (v := yR k0) rfl rfl ?_
              refine yG.getO A_h41.1 (w_Shape_live W H_k0) rfl rfl (fun r46 H_r46 O_r46 q_r46 => ?_)
              refine yG.load xik rfl (fun _ _ => rfl) (v := yI (a1)) rfl rfl ?_
              refine yG.bald A_h41.1 (v_Shape_live W H_r46) rfl (by omega) (by omega) (fun z47 e_z47 i_z47 l_z47 u_z47 => ?_)
              refine yG.ifz rfl (t := 106) rfl ⟨by omega, by omega⟩ (fun c48 => ?_) (fun c48 => ?_)
              · have c48 : (z47 : Int) = 0 := c48
                refine yG.num (c := 0) rfl (fun _ _ => rfl) (by decide) ?_
                refine yG.iadd rfl ?_
                refine yG.putI A_h41.1 (w_Shape_lives W H_k0) (W.2.1 _ _ H_k0 (by decide) (by decide)) rfl rfl (.inl rfl) ⟨by omega, by omega⟩ (by omega) (by omega) (fun h49 T_h49 b_h49 f_h49 y_h49 => ?_)
                have A_h49 := A_h41.put T_h49 b_h49 f_h49 H_k0 (by decide)
                have qq9 : zsl h49 k0 2 = yR r33 := ((f_h49 k0 2).trans (if_neg (fun e => absurd e.2 (by decide)))).trans qq8
                have : ys h49 r33 (a1 : Int).toNat = ys h41 r33 (a1 : Int).toNat := (y_h49 r33 (a1 : Int).toNat).trans (if_neg (fun e => (bRo.ne H_r33 H_k0 (by decide)) e.1))
                refine yG.iinc rfl (a := a1) rfl (L' := [(1, yI (a1 + 1)), (0, yR k0)]) rfl ?_
                refine yG.goto rfl (t := 17) rfl ?_
                exact yG.mono (yG.sub (i_17 (a1 + 1)  h49 A_h49   (by omega) (by omega) (by omega)) (ySub.cons rfl (ySub.cons rfl (ySub.nil)))) (by omega)
              · have c48 : (z47 : Int) ≠ 0 := c48
                refine yG.num (c := 1) rfl (fun _ _ => rfl) (by decide) ?_
                refine yG.goto rfl (t := 107) rfl ?_
                refine yG.iadd rfl ?_
                obtain ⟨z51, e_z51, l_z51, u_z51⟩ := ywI (z43 + 1)
                rw [e_z51]
                refine yG.putI A_h41.1 (w_Shape_lives W H_k0) (W.2.1 _ _ H_k0 (by decide) (by decide)) rfl rfl (.inl rfl) ⟨by omega, by omega⟩ (by omega) (by omega) (fun h50 T_h50 b_h50 f_h50 y_h50 => ?_)
                have A_h50 := A_h41.put T_h50 b_h50 f_h50 H_k0 (by decide)
                have qq10 : zsl h50 k0 2 = yR r33 := ((f_h50 k0 2).trans (if_neg (fun e => absurd e.2 (by decide)))).trans qq8
                have : ys h50 r33 (a1 : Int).toNat = ys h41 r33 (a1 : Int).toNat := (y_h50 r33 (a1 : Int).toNat).trans (if_neg (fun e => (bRo.ne H_r33 H_k0 (by decide)) e.1))
                refine yG.iinc rfl (a := a1) rfl (L' := [(1, yI (a1 + 1)), (0, yR k0)]) rfl ?_
                refine yG.goto rfl (t := 17) rfl ?_
                exact yG.mono (yG.sub (i_17 (a1 + 1)  h50 A_h50   (by omega) (by omega) (by omega)) (ySub.cons rfl (ySub.cons rfl (ySub.nil)))) (by omega)
  refine yC.of (M := (xt_X8_tally, (2, (0, (9, []))))) rfl rfl (N := 1980) (yfuel (by decide)) ?_
  show yG 89 xfts (xcall 89 xfts xpools xms d) (xpool xp_RX8) [] xt_X8_tally (yP 0 (fun rv hp' => (rv = none ∧ True) ∧ bAx G [(2251799813685248, 9), (2251799813685248, 10), (2251799813685248, 11)] hp hp')) 1980 0 [(0, yR k0)] [] hp
  have i_17 := H 35
  refine yG.load xak rfl (fun _ _ => rfl) (v := yR k0) rfl rfl ?_
  refine yG.num (c := 0) rfl (fun _ _ => rfl) (by decide) ?_
  refine yG.putI A_hp.1 (w_Shape_nodes W H_k0) (W.2.1 _ _ H_k0 (by decide) (by decide)) rfl rfl (.inl rfl) ⟨by omega, by omega⟩ (by omega) (by omega) (fun h1 T_h1 b_h1 f_h1 y_h1 => ?_)
  have A_h1 := A_hp.put T_h1 b_h1 f_h1 H_k0 (by decide)
  refine yG.load xak rfl (fun _ _ => rfl) (v := yR k0) rfl rfl ?_
  refine yG.num (c := 0) rfl (fun _ _ => rfl) (by decide) ?_
  refine yG.putI A_h1.1 (w_Shape_islands W H_k0) (W.2.1 _ _ H_k0 (by decide) (by decide)) rfl rfl (.inl rfl) ⟨by omega, by omega⟩ (by omega) (by omega) (fun h2 T_h2 b_h2 f_h2 y_h2 => ?_)
  have A_h2 := A_h1.put T_h2 b_h2 f_h2 H_k0 (by decide)
  refine yG.load xak rfl (fun _ _ => rfl) (v := yR k0) rfl rfl ?_
  refine yG.num (c := 0) rfl (fun _ _ => rfl) (by decide) ?_
  refine yG.putI A_h2.1 (w_Shape_lives W H_k0) (W.2.1 _ _ H_k0 (by decide) (by decide)) rfl rfl (.inl rfl) ⟨by omega, by omega⟩ (by omega) (by omega) (fun h3 T_h3 b_h3 f_h3 y_h3 => ?_)
  have A_h3 := A_h2.put T_h3 b_h3 f_h3 H_k0 (by decide)
  refine yG.num (c := 0) rfl (fun _ _ => rfl) (by decide) ?_
  refine yG.store1 xik (L' := [(1, yI (0)), (0, yR k0)]) rfl (fun _ _ => rfl) rfl rfl ?_
  exact yG.mono (yG.sub (i_17 (0)  h3 A_h3   (by omega) (by omega) (by omega)) (ySub.cons rfl (ySub.cons rfl (ySub.nil)))) (by omega)
theorem c_Shape_look {hp : xH} (W : bW G) (d : Nat) (hT : zTy G hp) {k0 : Nat} (H_k0 : bRo G 51 k0) (p1 : Int) (h1l : 0 ≤ p1) (h1u : p1 ≤ 1) : yC (xcall 89 xfts xpools xms (d + 3)) 221 [yR k0, yI (p1)] hp (fun rv hp' => (rv = none ∧ True) ∧ bAx G [(2251799813685248, 9), (2251799813685248, 10), (2251799813685248, 11), (2211267417038913536, 256)] hp hp') := by
  have A_hp : bAx G [(2251799813685248, 9), (2251799813685248, 10), (2251799813685248, 11), (2211267417038913536, 256)] hp hp := bAx.rf hT
  have H : ∀ m : Nat, (∀ a2 : Int, ∀ hq, bAx G [(2251799813685248, 9), (2251799813685248, 10), (2251799813685248, 11), (2211267417038913536, 256)] hp hq → 0 ≤ a2 → (-16) ≤ 0 - a2 → 0 ≤ p1 → (-1) ≤ 0 - p1 → 0 - 7901 * a2 + 134316 < (m : Int) → yG 89 xfts (xcall 89 xfts xpools xms (d + 2)) (xpool xp_RX8) [] xt_X8_look (yP 0 (fun rv hp' => (rv = none ∧ True) ∧ bAx G [(2251799813685248, 9), (2251799813685248, 10), (2251799813685248, 11), (2211267417038913536, 256)] hp hp')) (87 * m) 2 [(0, yR k0), (1, yI (p1)), (2, yI (a2))] [] hq) ∧ (∀ a2 : Int, ∀ hq, bAx G [(2251799813685248, 9), (2251799813685248, 10), (2251799813685248, 11), (2211267417038913536, 256)] hp hq → 0 ≤ a2 → (-24) ≤ 0 - a2 → 0 ≤ p1 → (-1) ≤ 0 - p1 → 0 - 316 * a2 + 7899 < (m : Int) → yG 89 xfts (xcall 89 xfts xpools xms (d + 2)) (xpool xp_RX8) [] xt_X8_look (yP 0 (fun rv hp' => (rv = none ∧ True) ∧ bAx G [(2251799813685248, 9), (2251799813685248, 10), (2251799813685248, 11), (2211267417038913536, 256)] hp hp')) (87 * m) 30 [(0, yR k0), (1, yI (p1)), (2, yI (a2))] [] hq) ∧ (∀ a2 : Int, ∀ hq, bAx G [(2251799813685248, 9), (2251799813685248, 10), (2251799813685248, 11), (2211267417038913536, 256)] hp hq → 0 ≤ a2 → (-23) ≤ 0 - a2 → 0 ≤ p1 → (-1) ≤ 0 - p1 → 0 - 316 * a2 + 7585 < (m : Int) → yG 89 xfts (xcall 89 xfts xpools xms (d + 2)) (xpool xp_RX8) [] xt_X8_look (yP 0 (fun rv hp' => (rv = none ∧ True) ∧ bAx G [(2251799813685248, 9), (2251799813685248, 10), (2251799813685248, 11), (2211267417038913536, 256)] hp hp')) (87 * m) 68 [(0, yR k0), (1, yI (p1)), (2, yI (a2))] [] hq) ∧ (∀ a2 : Int, ∀ hq, bAx G [(2251799813685248, 9), (2251799813685248, 10), (2251799813685248, 11), (2211267417038913536, 256)] hp hq → 0 ≤ a2 → (-20) ≤ 0 - a2 → 0 ≤ p1 → (-1) ≤ 0 - p1 → 0 - 15 * a2 + 314 < (m : Int) → yG 89 xfts (xcall 89 xfts xpools xms (d + 2)) (xpool xp_RX8) [] xt_X8_look (yP 0 (fun rv hp' => (rv = none ∧ True) ∧ bAx G [(2251799813685248, 9), (2251799813685248, 10), (2251799813685248, 11), (2211267417038913536, 256)] hp hp')) (87 * m) 118 [(0, yR k0), (2, yI (a2))] [] hq) ∧ (∀ a2 : Int, ∀ hq, bAx G [(2251799813685248, 9), (2251799813685248, 10), (2251799813685248, 11), (2211267417038913536, 256)] hp hq → 0 ≤ a2 → (-6) ≤ 0 - a2 → 0 ≤ p1 → (-1) ≤ 0 - p1 → 0 - 2 * a2 + 13 < (m : Int) → yG 89 xfts (xcall 89 xfts xpools xms (d + 2)) (xpool xp_RX8) [] xt_X8_look (yP 0 (fun rv hp' => (rv = none ∧ True) ∧ bAx G [(2251799813685248, 9), (2251799813685248, 10), (2251799813685248, 11), (2211267417038913536, 256)] hp hp')) (87 * m) 260 [(0, yR k0), (2, yI (a2))] [] hq) := by
    intro m
    induction m with
    | zero =>
      refine ⟨?_, ?_, ?_, ?_, ?_⟩ <;> (intros; exfalso; omega)
    | succ m ih =>
      obtain ⟨i_2, i_30, i_68, i_118, i_260⟩ := ih
      refine ⟨?_, ?_, ?_, ?_, ?_⟩
      · intro a2 hq A_hq f0 f1 f2 f3 hm
        refine yG.mono (N := 87 * m + 87) ?_ (by omega)
        refine yG.load xik rfl (fun _ _ => rfl) (v := yI (a2)) rfl rfl ?_
        refine yG.num (c := 16) rfl (fun _ _ => rfl) (by decide) ?_
        refine yG.icmp rfl (t := 28) rfl ⟨by omega, by omega⟩ ⟨by omega, by omega⟩ (fun c1 => ?_) (fun c1 => ?_)
        · have c1 : (a2 : Int) ≥ 16 := c1
          refine yG.num (c := 0) rfl (fun _ _ => rfl) (by decide) ?_
          refine yG.store1 xik (L' := [(2, yI (0)), (0, yR k0), (1, yI (p1))]) rfl (fun _ _ => rfl) rfl rfl ?_
          exact yG.mono (yG.sub (i_30 (0)  hq A_hq   (by omega) (by omega) (by omega) (by omega) (by omega)) (ySub.cons rfl (ySub.cons rfl (ySub.cons rfl (ySub.nil))))) (by omega)
        · have c1 : (a2 : Int) < 16 := c1
          refine yG.load xak rfl (fun _ _ => rfl) (v := yR k0) rfl rfl ?_
          refine yG.getO A_hq.1 (w_Shape_node W H_k0) rfl rfl (fun r2 H_r2 O_r2 q_r2 => ?_)
          refine yG.load xik rfl (fun _ _ => rfl) (v := yI (a2)) rfl rfl ?_
          refine yG.load xik rfl (fun _ _ => rfl) (v := yI (a2)) rfl rfl ?_
          refine yG.iastF A_hq.1 (v_Shape_node W H_r2) rfl (W.2.1 _ _ H_r2 (by decide) (by decide)) rfl (by omega) (by omega) ⟨by omega, by omega⟩ (by omega) (by omega) (fun h3 T_h3 b_h3 f_h3 y_h3 => ?_)
          have A_h3 := A_hq.put T_h3 b_h3 f_h3 H_r2 (bAll_ok (by decide) _)
          refine yG.load xak rfl (fun _ _ => rfl) (v := yR k0) rfl rfl ?_
          refine yG.getO A_h3.1 (w_Shape_live W H_k0) rfl rfl (fun r4 H_r4 O_r4 q_r4 => ?_)
          refine yG.load xik rfl (fun _ _ => rfl) (v := yI (a2)) rfl rfl ?_
          refine yG.num (c := 0) rfl (fun _ _ => rfl) (by decide) ?_
          refine yG.bast A_h3.1 (v_Shape_live W H_r4) (W.2.1 _ _ H_r4 (by decide) (by decide)) rfl (by omega) (by omega) ⟨by omega, by omega⟩ (by omega) (by omega) (fun h5 T_h5 b_h5 f_h5 y_h5 => ?_)
          have A_h5 := A_h3.put T_h5 b_h5 f_h5 H_r4 (bAll_ok (by decide) _)
          refine yG.iinc rfl (a := a2) rfl (L' := [(2, yI (a2 + 1)), (0, yR k0), (1, yI (p1))]) rfl ?_
          refine yG.goto rfl (t := 2) rfl ?_
          exact yG.mono (yG.sub (i_2 (a2 + 1)  h5 A_h5   (by omega) (by omega) (by omega) (by omega) (by omega)) (ySub.cons rfl (ySub.cons rfl (ySub.cons rfl (ySub.nil))))) (by omega)
      · intro a2 hq A_hq f0 f1 f2 f3 hm
        refine yG.mono (N := 87 * m + 87) ?_ (by omega)
        refine yG.load xik rfl (fun _ _ => rfl) (v := yI (a2)) rfl rfl ?_
        refine yG.load xak rfl (fun _ _ => rfl) (v := yR k0) rfl rfl ?_
        refine yG.getO A_hq.1 (w_Shape_net W H_k0) rfl rfl (fun r1 H_r1 O_r1 q_r1 => ?_)
        refine yG.getO A_hq.1 (w_Net_count W H_r1) rfl rfl (fun r2 H_r2 O_r2 q_r2 => ?_)
        refine yG.num (c := 1) rfl (fun _ _ => rfl) (by decide) ?_
        refine yG.ialdF A_hq.1 (v_Net_count W H_r2) rfl rfl (by omega) (by omega) (fun z3 e_z3 i_z3 l_z3 u_z3 => ?_)
        refine yG.icmp rfl (t := 101) rfl ⟨by omega, by omega⟩ ⟨by omega, by omega⟩ (fun c4 => ?_) (fun c4 => ?_)
        · have c4 : (a2 : Int) ≥ z3 := c4
          refine yG.load xak rfl (fun _ _ => rfl) (v := yR k0) rfl rfl ?_
          refine yG.getO A_hq.1 (w_Shape_node W H_k0) rfl rfl (fun r5 H_r5 O_r5 q_r5 => ?_)
          refine yG.num (c := 0) rfl (fun _ _ => rfl) (by decide) ?_
          refine yG.load xak rfl (fun _ _ => rfl) (v := yR k0) rfl rfl ?_
          refine yG.getO A_hq.1 (w_Shape_island W H_k0) rfl rfl (fun r6 H_r6 O_r6 q_r6 => ?_)
          refine yG.num (c := 0) rfl (fun _ _ => rfl) (by decide) ?_
          refine yG.num (c := 16) rfl (fun _ _ => rfl) (by decide) ?_
          refine yG.acopy (kt := 0) A_hq.1 (v_Shape_node W H_r5) (v_Shape_island W H_r6) (by decide) (fun _ => rfl) (W.2.1 _ _ H_r6 (by decide) (by decide)) rfl rfl (by omega) (by omega) (by omega) rfl (fun h7 T_h7 b_h7 f_h7 => ?_)
          have A_h7 := A_hq.putW T_h7 b_h7 f_h7 H_r6 (by decide)
          have qq1 : zsl h7 k0 0 = yR r1 := (f_h7 k0 0 (bRo.ne H_k0 H_r6 (by decide))).trans q_r1
          refine yG.num (c := 0) rfl (fun _ _ => rfl) (by decide) ?_
          refine yG.store1 xik (L' := [(2, yI (0)), (0, yR k0), (1, yI (p1))]) rfl (fun _ _ => rfl) rfl rfl ?_
          exact yG.mono (yG.sub (i_118 (0)  h7 A_h7   (by omega) (by omega) (by omega) (by omega) (by omega)) (ySub.cons rfl (ySub.cons rfl (ySub.nil)))) (by omega)
        · have c4 : (a2 : Int) < z3 := c4
          refine yG.load xak rfl (fun _ _ => rfl) (v := yR k0) rfl rfl ?_
          refine yG.getS9 A_hq.1 (w_Shape_net W H_k0) q_r1 rfl rfl ?_
          refine yG.num (c := 1) rfl (fun _ _ => rfl) (by decide) ?_
          refine yG.load xik rfl (fun _ _ => rfl) (v := yI (a2)) rfl rfl ?_
          refine yG.num (c := 0) rfl (fun _ _ => rfl) (by decide) ?_
          refine yG.invV (rest := []) A_hq.1 (bOb (d_Net W) H_r1) rfl rfl rfl rfl (c_Net_at_1_0 W (d + 1) A_hq.1 H_r1 (a2) (by omega) (by omega)) (fun rv hp9 q9 => ?_)
          obtain ⟨⟨z8, rfl, l_z8, u_z8, R_z8⟩, e9⟩ := q9
          rw [e9]
          show yG _ _ _ _ _ _ _ _ _ _ (yI z8 :: []) _
          refine yG.store1 xik (L' := [(3, yI (z8)), (0, yR k0), (1, yI (p1)), (2, yI (a2))]) rfl (fun _ _ => rfl) rfl rfl ?_
          refine yG.load xik rfl (fun _ _ => rfl) (v := yI (z8)) rfl rfl ?_
          refine yG.num (c := 1) rfl (fun _ _ => rfl) (by decide) ?_
          refine yG.icmp rfl (t := 68) rfl ⟨by omega, by omega⟩ ⟨by omega, by omega⟩ (fun c9 => ?_) (fun c9 => ?_)
          · have c9 : (z8 : Int) = 1 := c9
            exact yG.mono (yG.sub (i_68 (a2)  hq A_hq   (by omega) (by omega) (by omega) (by omega) (by omega)) (ySub.cons rfl (ySub.cons rfl (ySub.cons rfl (ySub.nil))))) (by omega)
          · have c9 : (z8 : Int) ≠ 1 := c9
            refine yG.load xik rfl (fun _ _ => rfl) (v := yI (z8)) rfl rfl ?_
            refine yG.num (c := 2) rfl (fun _ _ => rfl) (by decide) ?_
            refine yG.icmp rfl (t := 95) rfl ⟨by omega, by omega⟩ ⟨by omega, by omega⟩ (fun c10 => ?_) (fun c10 => ?_)
            · have c10 : (z8 : Int) ≠ 2 := c10
              refine yG.iinc rfl (a := a2) rfl (L' := [(2, yI (a2 + 1)), (3, yI (z8)), (0, yR k0), (1, yI (p1))]) rfl ?_
              refine yG.goto rfl (t := 30) rfl ?_
              exact yG.mono (yG.sub (i_30 (a2 + 1)  hq A_hq   (by omega) (by omega) (by omega) (by omega) (by omega)) (ySub.cons rfl (ySub.cons rfl (ySub.cons rfl (ySub.nil))))) (by omega)
            · have c10 : (z8 : Int) = 2 := c10
              refine yG.load xik rfl (fun _ _ => rfl) (v := yI (p1)) rfl rfl ?_
              refine yG.ifz rfl (t := 95) rfl ⟨by omega, by omega⟩ (fun c11 => ?_) (fun c11 => ?_)
              · have c11 : (p1 : Int) = 0 := c11
                refine yG.iinc rfl (a := a2) rfl (L' := [(2, yI (a2 + 1)), (3, yI (z8)), (0, yR k0), (1, yI (p1))]) rfl ?_
                refine yG.goto rfl (t := 30) rfl ?_
                exact yG.mono (yG.sub (i_30 (a2 + 1)  hq A_hq   (by omega) (by omega) (by omega) (by omega) (by omega)) (ySub.cons rfl (ySub.cons rfl (ySub.cons rfl (ySub.nil))))) (by omega)
              · have c11 : (p1 : Int) ≠ 0 := c11
                exact yG.mono (yG.sub (i_68 (a2)  hq A_hq   (by omega) (by omega) (by omega) (by omega) (by omega)) (ySub.cons rfl (ySub.cons rfl (ySub.cons rfl (ySub.nil))))) (by omega)
      · intro a2 hq A_hq f0 f1 f2 f3 hm
        refine yG.mono (N := 87 * m + 87) ?_ (by omega)
        refine yG.load xak rfl (fun _ _ => rfl) (v := yR k0) rfl rfl ?_
        refine yG.getO A_hq.1 (w_Shape_node W H_k0) rfl rfl (fun r1 H_r1 O_r1 q_r1 => ?_)
        refine yG.load xak rfl (fun _ _ => rfl) (v := yR k0) rfl rfl ?_
        refine yG.getO A_hq.1 (w_Shape_net W H_k0) rfl rfl (fun r2 H_r2 O_r2 q_r2 => ?_)
        refine yG.num (c := 1) rfl (fun _ _ => rfl) (by decide) ?_
        refine yG.load xik rfl (fun _ _ => rfl) (v := yI (a2)) rfl rfl ?_
        refine yG.num (c := 3) rfl (fun _ _ => rfl) (by decide) ?_
        refine yG.invV (rest := [yR r1]) A_hq.1 (bOb (d_Net W) H_r2) rfl rfl rfl rfl (c_Net_at_1_3 W (d + 1) A_hq.1 H_r2 (a2) (by omega) (by omega)) (fun rv hp9 q9 => ?_)
        obtain ⟨⟨z3, rfl, l_z3, u_z3, R_z3⟩, e9⟩ := q9
        rw [e9]
        show yG _ _ _ _ _ _ _ _ _ _ (yI z3 :: [yR r1]) _
        refine yG.load xak rfl (fun _ _ => rfl) (v := yR k0) rfl rfl ?_
        refine yG.getS9 A_hq.1 (w_Shape_net W H_k0) q_r2 rfl rfl ?_
        refine yG.num (c := 1) rfl (fun _ _ => rfl) (by decide) ?_
        refine yG.load xik rfl (fun _ _ => rfl) (v := yI (a2)) rfl rfl ?_
        refine yG.num (c := 4) rfl (fun _ _ => rfl) (by decide) ?_
        refine yG.invV (rest := [yI (z3), yR r1]) A_hq.1 (bOb (d_Net W) H_r2) rfl rfl rfl rfl (c_Net_at_1_4 W (d + 1) A_hq.1 H_r2 (a2) (by omega) (by omega)) (fun rv hp9 q9 => ?_)
        obtain ⟨⟨z4, rfl, l_z4, u_z4, R_z4⟩, e9⟩ := q9
        rw [e9]
        show yG _ _ _ _ _ _ _ _ _ _ (yI z4 :: [yI (z3), yR r1]) _
        refine yG.invS (rest := []) rfl rfl rfl rfl (c_Shape_join_node W d A_hq.1 H_r1 (z3) (z4) (by omega) (by omega) (by omega) (by omega)) (fun rv h5 q9 => ?_)
        obtain ⟨⟨rfl, R_z6⟩, B_h5⟩ := q9
        have A_h5 := A_hq.tr B_h5 (by decide)
        have qq1 : zsl h5 k0 0 = yR r2 := (B_h5.sl H_k0 (by decide)).trans q_r2
        show yG _ _ _ _ _ _ _ _ _ _ [] _
        refine yG.iinc rfl (a := a2) rfl (L' := [(2, yI (a2 + 1)), (0, yR k0), (1, yI (p1))]) rfl ?_
        refine yG.goto rfl (t := 30) rfl ?_
        exact yG.mono (yG.sub (i_30 (a2 + 1)  h5 A_h5   (by omega) (by omega) (by omega) (by omega) (by omega)) (ySub.cons rfl (ySub.cons rfl (ySub.cons rfl (ySub.nil))))) (by omega)
      · intro a2 hq A_hq f0 f1 f2 f3 hm
        refine yG.mono (N := 87 * m + 87) ?_ (by omega)
        refine yG.load xik rfl (fun _ _ => rfl) (v := yI (a2)) rfl rfl ?_
        refine yG.load xak rfl (fun _ _ => rfl) (v := yR k0) rfl rfl ?_
        refine yG.getO A_hq.1 (w_Shape_net W H_k0) rfl rfl (fun r1 H_r1 O_r1 q_r1 => ?_)
        refine yG.getO A_hq.1 (w_Net_count W H_r1) rfl rfl (fun r2 H_r2 O_r2 q_r2 => ?_)
        refine yG.num (c := 2) rfl (fun _ _ => rfl) (by decide) ?_
        refine yG.ialdF A_hq.1 (v_Net_count W H_r2) rfl rfl (by omega) (by omega) (fun z3 e_z3 i_z3 l_z3 u_z3 => ?_)
        refine yG.icmp rfl (t := 258) rfl ⟨by omega, by omega⟩ ⟨by omega, by omega⟩ (fun c4 => ?_) (fun c4 => ?_)
        · have c4 : (a2 : Int) ≥ z3 := c4
          refine yG.num (c := 0) rfl (fun _ _ => rfl) (by decide) ?_
          refine yG.store1 xik (L' := [(2, yI (0)), (0, yR k0)]) rfl (fun _ _ => rfl) rfl rfl ?_
          exact yG.mono (yG.sub (i_260 (0)  hq A_hq   (by omega) (by omega) (by omega) (by omega) (by omega)) (ySub.cons rfl (ySub.cons rfl (ySub.nil)))) (by omega)
        · have c4 : (a2 : Int) < z3 := c4
          refine yG.load xak rfl (fun _ _ => rfl) (v := yR k0) rfl rfl ?_
          refine yG.getO A_hq.1 (w_Shape_ends W H_k0) rfl rfl (fun r5 H_r5 O_r5 q_r5 => ?_)
          refine yG.load xik rfl (fun _ _ => rfl) (v := yI (a2)) rfl rfl ?_
          refine yG.aaldO (r := 57) A_hq.1 (v_Shape_ends W H_r5) rfl rfl rfl (by omega) (by omega) (fun r6 H_r6 q_r6 => ?_)
          refine yG.num (c := 0) rfl (fun _ _ => rfl) (by decide) ?_
          refine yG.load xak rfl (fun _ _ => rfl) (v := yR k0) rfl rfl ?_
          refine yG.getO A_hq.1 (w_Shape_node W H_k0) rfl rfl (fun r7 H_r7 O_r7 q_r7 => ?_)
          refine yG.load xak rfl (fun _ _ => rfl) (v := yR k0) rfl rfl ?_
          refine yG.getS9 A_hq.1 (w_Shape_net W H_k0) q_r1 rfl rfl ?_
          refine yG.num (c := 2) rfl (fun _ _ => rfl) (by decide) ?_
          refine yG.load xik rfl (fun _ _ => rfl) (v := yI (a2)) rfl rfl ?_
          refine yG.num (c := 4) rfl (fun _ _ => rfl) (by decide) ?_
          refine yG.invV (rest := [yR r7, yI (0), yR r6]) A_hq.1 (bOb (d_Net W) H_r1) rfl rfl rfl rfl (c_Net_at_2_4 W (d + 1) A_hq.1 H_r1 (a2) (by omega) (by omega)) (fun rv hp9 q9 => ?_)
          obtain ⟨⟨z8, rfl, l_z8, u_z8, R_z8⟩, e9⟩ := q9
          rw [e9]
          show yG _ _ _ _ _ _ _ _ _ _ (yI z8 :: [yR r7, yI (0), yR r6]) _
          refine yG.ialdF A_hq.1 (v_Shape_node W H_r7) rfl rfl (by omega) (by omega) (fun z9 e_z9 i_z9 l_z9 u_z9 => ?_)
          refine yG.iast A_hq.1 (v_Shape_endss W H_r6) (W.2.1 _ _ H_r6 (by decide) (by decide)) rfl (by omega) (by omega) ⟨by omega, by omega⟩ (by omega) (by omega) (fun h10 T_h10 b_h10 f_h10 y_h10 => ?_)
          have A_h10 := A_hq.put T_h10 b_h10 f_h10 H_r6 (bAll_ok (by decide) _)
          have qq1 : zsl h10 k0 0 = yR r1 := ((f_h10 k0 0).trans (if_neg (fun e => (bRo.ne H_k0 H_r6 (by decide)) e.1))).trans q_r1
          have qq2 : zsl h10 k0 5 = yR r5 := ((f_h10 k0 5).trans (if_neg (fun e => (bRo.ne H_k0 H_r6 (by decide)) e.1))).trans q_r5
          have qq3 : zsl h10 r5 (a2 : Int).toNat = yR r6 := ((f_h10 r5 (a2 : Int).toNat).trans (if_neg (fun e => (bRo.ne H_r5 H_r6 (by decide)) e.1))).trans q_r6
          have qq4 : zsl h10 k0 1 = yR r7 := ((f_h10 k0 1).trans (if_neg (fun e => (bRo.ne H_k0 H_r6 (by decide)) e.1))).trans q_r7
          have : ys h10 r6 (0 : Int).toNat = z9 := (y_h10 r6 _).trans (if_pos ⟨rfl, rfl⟩)
          refine yG.load xak rfl (fun _ _ => rfl) (v := yR k0) rfl rfl ?_
          refine yG.getS9 A_h10.1 (w_Shape_ends W H_k0) qq2 rfl rfl ?_
          refine yG.load xik rfl (fun _ _ => rfl) (v := yI (a2)) rfl rfl ?_
          refine yG.aaldO (r := 57) A_h10.1 (v_Shape_ends W H_r5) rfl rfl rfl (by omega) (by omega) (fun r11 H_r11 q_r11 => ?_)
          have s_r11 : r11 = r6 := by have e9 := q_r11.symm.trans qq3; cases e9; rfl
          rw [s_r11]
          refine yG.num (c := 1) rfl (fun _ _ => rfl) (by decide) ?_
          refine yG.load xak rfl (fun _ _ => rfl) (v := yR k0) rfl rfl ?_
          refine yG.getS9 A_h10.1 (w_Shape_node W H_k0) qq4 rfl rfl ?_
          refine yG.load xak rfl (fun _ _ => rfl) (v := yR k0) rfl rfl ?_
          refine yG.getS9 A_h10.1 (w_Shape_net W H_k0) qq1 rfl rfl ?_
          refine yG.num (c := 2) rfl (fun _ _ => rfl) (by decide) ?_
          refine yG.load xik rfl (fun _ _ => rfl) (v := yI (a2)) rfl rfl ?_
          refine yG.num (c := 5) rfl (fun _ _ => rfl) (by decide) ?_
          refine yG.invV (rest := [yR r7, yI (1), yR r6]) A_h10.1 (bOb (d_Net W) H_r1) rfl rfl rfl rfl (c_Net_at_2_5 W (d + 1) A_h10.1 H_r1 (a2) (by omega) (by omega)) (fun rv hp9 q9 => ?_)
          obtain ⟨⟨z12, rfl, l_z12, u_z12, R_z12⟩, e9⟩ := q9
          rw [e9]
          show yG _ _ _ _ _ _ _ _ _ _ (yI z12 :: [yR r7, yI (1), yR r6]) _
          refine yG.ialdF A_h10.1 (v_Shape_node W H_r7) rfl rfl (by omega) (by omega) (fun z13 e_z13 i_z13 l_z13 u_z13 => ?_)
          refine yG.iast A_h10.1 (v_Shape_endss W H_r6) (W.2.1 _ _ H_r6 (by decide) (by decide)) rfl (by omega) (by omega) ⟨by omega, by omega⟩ (by omega) (by omega) (fun h14 T_h14 b_h14 f_h14 y_h14 => ?_)
          have A_h14 := A_h10.put T_h14 b_h14 f_h14 H_r6 (bAll_ok (by decide) _)
          have qq5 : zsl h14 k0 0 = yR r1 := ((f_h14 k0 0).trans (if_neg (fun e => (bRo.ne H_k0 H_r6 (by decide)) e.1))).trans qq1
          have qq6 : zsl h14 k0 5 = yR r5 := ((f_h14 k0 5).trans (if_neg (fun e => (bRo.ne H_k0 H_r6 (by decide)) e.1))).trans qq2
          have qq7 : zsl h14 r5 (a2 : Int).toNat = yR r6 := ((f_h14 r5 (a2 : Int).toNat).trans (if_neg (fun e => (bRo.ne H_r5 H_r6 (by decide)) e.1))).trans qq3
          have qq8 : zsl h14 k0 1 = yR r7 := ((f_h14 k0 1).trans (if_neg (fun e => (bRo.ne H_k0 H_r6 (by decide)) e.1))).trans qq4
          have : ys h14 r6 (1 : Int).toNat = z13 := (y_h14 r6 _).trans (if_pos ⟨rfl, rfl⟩)
          refine yG.load xak rfl (fun _ _ => rfl) (v := yR k0) rfl rfl ?_
          refine yG.getO A_h14.1 (w_Shape_joins W H_k0) rfl rfl (fun r15 H_r15 O_r15 q_r15 => ?_)
          refine yG.load xik rfl (fun _ _ => rfl) (v := yI (a2)) rfl rfl ?_
          refine yG.load xak rfl (fun _ _ => rfl) (v := yR k0) rfl rfl ?_
          refine yG.getS9 A_h14.1 (w_Shape_net W H_k0) qq5 rfl rfl ?_
          refine yG.num (c := 2) rfl (fun _ _ => rfl) (by decide) ?_
          refine yG.load xik rfl (fun _ _ => rfl) (v := yI (a2)) rfl rfl ?_
          refine yG.num (c := 0) rfl (fun _ _ => rfl) (by decide) ?_
          refine yG.invV (rest := [yI (a2), yR r15]) A_h14.1 (bOb (d_Net W) H_r1) rfl rfl rfl rfl (c_Net_is_2 W (d + 1) A_h14.1 H_r1 (a2) (0) (by omega) (by omega) (by omega) (by omega)) (fun rv hp9 q9 => ?_)
          obtain ⟨⟨z16, rfl, l_z16, u_z16, R_z16⟩, e9⟩ := q9
          rw [e9]
          show yG _ _ _ _ _ _ _ _ _ _ (yI z16 :: [yI (a2), yR r15]) _
          refine yG.ifz rfl (t := 218) rfl ⟨by omega, by omega⟩ (fun c17 => ?_) (fun c17 => ?_)
          · have c17 : (z16 : Int) = 0 := c17
            refine yG.num (c := 0) rfl (fun _ _ => rfl) (by decide) ?_
            refine yG.bast A_h14.1 (v_Shape_joins W H_r15) (W.2.1 _ _ H_r15 (by decide) (by decide)) rfl (by omega) (by omega) ⟨by omega, by omega⟩ (by omega) (by omega) (fun h18 T_h18 b_h18 f_h18 y_h18 => ?_)
            have A_h18 := A_h14.put T_h18 b_h18 f_h18 H_r15 (bAll_ok (by decide) _)
            have qq9 : zsl h18 k0 0 = yR r1 := ((f_h18 k0 0).trans (if_neg (fun e => (bRo.ne H_k0 H_r15 (by decide)) e.1))).trans qq5
            have qq10 : zsl h18 k0 5 = yR r5 := ((f_h18 k0 5).trans (if_neg (fun e => (bRo.ne H_k0 H_r15 (by decide)) e.1))).trans qq6
            have qq11 : zsl h18 r5 (a2 : Int).toNat = yR r6 := ((f_h18 r5 (a2 : Int).toNat).trans (if_neg (fun e => (bRo.ne H_r5 H_r15 (by decide)) e.1))).trans qq7
            have qq12 : zsl h18 k0 1 = yR r7 := ((f_h18 k0 1).trans (if_neg (fun e => (bRo.ne H_k0 H_r15 (by decide)) e.1))).trans qq8
            have : ys h18 r6 (1 : Int).toNat = ys h14 r6 (1 : Int).toNat := (y_h18 r6 (1 : Int).toNat).trans (if_neg (fun e => (bRo.ne H_r6 H_r15 (by decide)) e.1))
            have qq13 : zsl h18 k0 6 = yR r15 := ((f_h18 k0 6).trans (if_neg (fun e => (bRo.ne H_k0 H_r15 (by decide)) e.1))).trans q_r15
            have : ys h18 r15 (a2 : Int).toNat = 0 := (y_h18 r15 _).trans (if_pos ⟨rfl, rfl⟩)
            refine yG.load xak rfl (fun _ _ => rfl) (v := yR k0) rfl rfl ?_
            refine yG.getS9 A_h18.1 (w_Shape_joins W H_k0) qq13 rfl rfl ?_
            refine yG.load xik rfl (fun _ _ => rfl) (v := yI (a2)) rfl rfl ?_
            refine yG.bald A_h18.1 (v_Shape_joins W H_r15) rfl (by omega) (by omega) (fun z19 e_z19 i_z19 l_z19 u_z19 => ?_)
            refine yG.ifz rfl (t := 252) rfl ⟨by omega, by omega⟩ (fun c20 => ?_) (fun c20 => ?_)
            · have c20 : (z19 : Int) = 0 := c20
              refine yG.iinc rfl (a := a2) rfl (L' := [(2, yI (a2 + 1)), (0, yR k0)]) rfl ?_
              refine yG.goto rfl (t := 118) rfl ?_
              exact yG.mono (yG.sub (i_118 (a2 + 1)  h18 A_h18   (by omega) (by omega) (by omega) (by omega) (by omega)) (ySub.cons rfl (ySub.cons rfl (ySub.nil)))) (by omega)
            · have c20 : (z19 : Int) ≠ 0 := c20
              exfalso; omega
          · have c17 : (z16 : Int) ≠ 0 := c17
            refine yG.load xak rfl (fun _ _ => rfl) (v := yR k0) rfl rfl ?_
            refine yG.getS9 A_h14.1 (w_Shape_ends W H_k0) qq6 rfl rfl ?_
            refine yG.load xik rfl (fun _ _ => rfl) (v := yI (a2)) rfl rfl ?_
            refine yG.aaldO (r := 57) A_h14.1 (v_Shape_ends W H_r5) rfl rfl rfl (by omega) (by omega) (fun r21 H_r21 q_r21 => ?_)
            have s_r21 : r21 = r6 := by have e9 := q_r21.symm.trans qq7; cases e9; rfl
            rw [s_r21]
            refine yG.num (c := 0) rfl (fun _ _ => rfl) (by decide) ?_
            refine yG.iald A_h14.1 (v_Shape_endss W H_r6) rfl (by omega) (by omega) (fun z22 e_z22 i_z22 l_z22 u_z22 => ?_)
            refine yG.load xak rfl (fun _ _ => rfl) (v := yR k0) rfl rfl ?_
            refine yG.getS9 A_h14.1 (w_Shape_ends W H_k0) qq6 rfl rfl ?_
            refine yG.load xik rfl (fun _ _ => rfl) (v := yI (a2)) rfl rfl ?_
            refine yG.aaldO (r := 57) A_h14.1 (v_Shape_ends W H_r5) rfl rfl rfl (by omega) (by omega) (fun r23 H_r23 q_r23 => ?_)
            have s_r23 : r23 = r6 := by have e9 := q_r23.symm.trans qq7; cases e9; rfl
            rw [s_r23]
            refine yG.num (c := 1) rfl (fun _ _ => rfl) (by decide) ?_
            refine yG.iald A_h14.1 (v_Shape_endss W H_r6) rfl (by omega) (by omega) (fun z24 e_z24 i_z24 l_z24 u_z24 => ?_)
            refine yG.icmp rfl (t := 218) rfl ⟨by omega, by omega⟩ ⟨by omega, by omega⟩ (fun c25 => ?_) (fun c25 => ?_)
            · have c25 : (z22 : Int) = z24 := c25
              refine yG.num (c := 0) rfl (fun _ _ => rfl) (by decide) ?_
              refine yG.bast A_h14.1 (v_Shape_joins W H_r15) (W.2.1 _ _ H_r15 (by decide) (by decide)) rfl (by omega) (by omega) ⟨by omega, by omega⟩ (by omega) (by omega) (fun h26 T_h26 b_h26 f_h26 y_h26 => ?_)
              have A_h26 := A_h14.put T_h26 b_h26 f_h26 H_r15 (bAll_ok (by decide) _)
              have qq14 : zsl h26 k0 0 = yR r1 := ((f_h26 k0 0).trans (if_neg (fun e => (bRo.ne H_k0 H_r15 (by decide)) e.1))).trans qq5
              have qq15 : zsl h26 k0 5 = yR r5 := ((f_h26 k0 5).trans (if_neg (fun e => (bRo.ne H_k0 H_r15 (by decide)) e.1))).trans qq6
              have qq16 : zsl h26 r5 (a2 : Int).toNat = yR r6 := ((f_h26 r5 (a2 : Int).toNat).trans (if_neg (fun e => (bRo.ne H_r5 H_r15 (by decide)) e.1))).trans qq7
              have qq17 : zsl h26 k0 1 = yR r7 := ((f_h26 k0 1).trans (if_neg (fun e => (bRo.ne H_k0 H_r15 (by decide)) e.1))).trans qq8
              have : ys h26 r6 (1 : Int).toNat = ys h14 r6 (1 : Int).toNat := (y_h26 r6 (1 : Int).toNat).trans (if_neg (fun e => (bRo.ne H_r6 H_r15 (by decide)) e.1))
              have qq18 : zsl h26 k0 6 = yR r15 := ((f_h26 k0 6).trans (if_neg (fun e => (bRo.ne H_k0 H_r15 (by decide)) e.1))).trans q_r15
              have : ys h26 r6 (0 : Int).toNat = ys h14 r6 (0 : Int).toNat := (y_h26 r6 (0 : Int).toNat).trans (if_neg (fun e => (bRo.ne H_r6 H_r15 (by decide)) e.1))
              have : ys h26 r15 (a2 : Int).toNat = 0 := (y_h26 r15 _).trans (if_pos ⟨rfl, rfl⟩)
              refine yG.load xak rfl (fun _ _ => rfl) (v := yR k0) rfl rfl ?_
              refine yG.getS9 A_h26.1 (w_Shape_joins W H_k0) qq18 rfl rfl ?_
              refine yG.load xik rfl (fun _ _ => rfl) (v := yI (a2)) rfl rfl ?_
              refine yG.bald A_h26.1 (v_Shape_joins W H_r15) rfl (by omega) (by omega) (fun z27 e_z27 i_z27 l_z27 u_z27 => ?_)
              refine yG.ifz rfl (t := 252) rfl ⟨by omega, by omega⟩ (fun c28 => ?_) (fun c28 => ?_)
              · have c28 : (z27 : Int) = 0 := c28
                refine yG.iinc rfl (a := a2) rfl (L' := [(2, yI (a2 + 1)), (0, yR k0)]) rfl ?_
                refine yG.goto rfl (t := 118) rfl ?_
                exact yG.mono (yG.sub (i_118 (a2 + 1)  h26 A_h26   (by omega) (by omega) (by omega) (by omega) (by omega)) (ySub.cons rfl (ySub.cons rfl (ySub.nil)))) (by omega)
              · have c28 : (z27 : Int) ≠ 0 := c28
                exfalso; omega
            · have c25 : (z22 : Int) ≠ z24 := c25
              refine yG.num (c := 1) rfl (fun _ _ => rfl) (by decide) ?_
              refine yG.goto rfl (t := 219) rfl ?_
              refine yG.bast A_h14.1 (v_Shape_joins W H_r15) (W.2.1 _ _ H_r15 (by decide) (by decide)) rfl (by omega) (by omega) ⟨by omega, by omega⟩ (by omega) (by omega) (fun h29 T_h29 b_h29 f_h29 y_h29 => ?_)
              have A_h29 := A_h14.put T_h29 b_h29 f_h29 H_r15 (bAll_ok (by decide) _)
              have qq19 : zsl h29 k0 0 = yR r1 := ((f_h29 k0 0).trans (if_neg (fun e => (bRo.ne H_k0 H_r15 (by decide)) e.1))).trans qq5
              have qq20 : zsl h29 k0 5 = yR r5 := ((f_h29 k0 5).trans (if_neg (fun e => (bRo.ne H_k0 H_r15 (by decide)) e.1))).trans qq6
              have qq21 : zsl h29 r5 (a2 : Int).toNat = yR r6 := ((f_h29 r5 (a2 : Int).toNat).trans (if_neg (fun e => (bRo.ne H_r5 H_r15 (by decide)) e.1))).trans qq7
              have qq22 : zsl h29 k0 1 = yR r7 := ((f_h29 k0 1).trans (if_neg (fun e => (bRo.ne H_k0 H_r15 (by decide)) e.1))).trans qq8
              have : ys h29 r6 (1 : Int).toNat = ys h14 r6 (1 : Int).toNat := (y_h29 r6 (1 : Int).toNat).trans (if_neg (fun e => (bRo.ne H_r6 H_r15 (by decide)) e.1))
              have qq23 : zsl h29 k0 6 = yR r15 := ((f_h29 k0 6).trans (if_neg (fun e => (bRo.ne H_k0 H_r15 (by decide)) e.1))).trans q_r15
              have : ys h29 r6 (0 : Int).toNat = ys h14 r6 (0 : Int).toNat := (y_h29 r6 (0 : Int).toNat).trans (if_neg (fun e => (bRo.ne H_r6 H_r15 (by decide)) e.1))
              have : ys h29 r15 (a2 : Int).toNat = 1 := (y_h29 r15 _).trans (if_pos ⟨rfl, rfl⟩)
              refine yG.load xak rfl (fun _ _ => rfl) (v := yR k0) rfl rfl ?_
              refine yG.getS9 A_h29.1 (w_Shape_joins W H_k0) qq23 rfl rfl ?_
              refine yG.load xik rfl (fun _ _ => rfl) (v := yI (a2)) rfl rfl ?_
              refine yG.bald A_h29.1 (v_Shape_joins W H_r15) rfl (by omega) (by omega) (fun z30 e_z30 i_z30 l_z30 u_z30 => ?_)
              refine yG.ifz rfl (t := 252) rfl ⟨by omega, by omega⟩ (fun c31 => ?_) (fun c31 => ?_)
              · have c31 : (z30 : Int) = 0 := c31
                exfalso; omega
              · have c31 : (z30 : Int) ≠ 0 := c31
                refine yG.load xak rfl (fun _ _ => rfl) (v := yR k0) rfl rfl ?_
                refine yG.getO A_h29.1 (w_Shape_island W H_k0) rfl rfl (fun r32 H_r32 O_r32 q_r32 => ?_)
                refine yG.load xak rfl (fun _ _ => rfl) (v := yR k0) rfl rfl ?_
                refine yG.getS9 A_h29.1 (w_Shape_ends W H_k0) qq20 rfl rfl ?_
                refine yG.load xik rfl (fun _ _ => rfl) (v := yI (a2)) rfl rfl ?_
                refine yG.aaldO (r := 57) A_h29.1 (v_Shape_ends W H_r5) rfl rfl rfl (by omega) (by omega) (fun r33 H_r33 q_r33 => ?_)
                have s_r33 : r33 = r6 := by have e9 := q_r33.symm.trans qq21; cases e9; rfl
                rw [s_r33]
                refine yG.num (c := 0) rfl (fun _ _ => rfl) (by decide) ?_
                refine yG.iald A_h29.1 (v_Shape_endss W H_r6) rfl (by omega) (by omega) (fun z34 e_z34 i_z34 l_z34 u_z34 => ?_)
                refine yG.load xak rfl (fun _ _ => rfl) (v := yR k0) rfl rfl ?_
                refine yG.getS9 A_h29.1 (w_Shape_ends W H_k0) qq20 rfl rfl ?_
                refine yG.load xik rfl (fun _ _ => rfl) (v := yI (a2)) rfl rfl ?_
                refine yG.aaldO (r := 57) A_h29.1 (v_Shape_ends W H_r5) rfl rfl rfl (by omega) (by omega) (fun r35 H_r35 q_r35 => ?_)
                have s_r35 : r35 = r6 := by have e9 := q_r35.symm.trans qq21; cases e9; rfl
                rw [s_r35]
                refine yG.num (c := 1) rfl (fun _ _ => rfl) (by decide) ?_
                refine yG.iald A_h29.1 (v_Shape_endss W H_r6) rfl (by omega) (by omega) (fun z36 e_z36 i_z36 l_z36 u_z36 => ?_)
                refine yG.invS (rest := []) rfl rfl rfl rfl (c_Shape_join_island W d A_h29.1 H_r32 (z34) (z36) (by omega) (by omega) (by omega) (by omega)) (fun rv h37 q9 => ?_)
                obtain ⟨⟨rfl, R_z38⟩, B_h37⟩ := q9
                have A_h37 := A_h29.tr B_h37 (by decide)
                have qq24 : zsl h37 k0 0 = yR r1 := (B_h37.sl H_k0 (by decide)).trans qq19
                have qq25 : zsl h37 k0 5 = yR r5 := (B_h37.sl H_k0 (by decide)).trans qq20
                have qq26 : zsl h37 r5 (a2 : Int).toNat = yR r6 := (B_h37.sl H_r5 (bNo_ok (by decide) _)).trans qq21
                have qq27 : zsl h37 k0 1 = yR r7 := (B_h37.sl H_k0 (by decide)).trans qq22
                have : ys h37 r6 (1 : Int).toNat = ys h29 r6 (1 : Int).toNat := B_h37.ys H_r6 (bNo_ok (by decide) _)
                have qq28 : zsl h37 k0 6 = yR r15 := (B_h37.sl H_k0 (by decide)).trans qq23
                have : ys h37 r6 (0 : Int).toNat = ys h29 r6 (0 : Int).toNat := B_h37.ys H_r6 (bNo_ok (by decide) _)
                have : ys h37 r15 (a2 : Int).toNat = ys h29 r15 (a2 : Int).toNat := B_h37.ys H_r15 (bNo_ok (by decide) _)
                show yG _ _ _ _ _ _ _ _ _ _ [] _
                refine yG.iinc rfl (a := a2) rfl (L' := [(2, yI (a2 + 1)), (0, yR k0)]) rfl ?_
                refine yG.goto rfl (t := 118) rfl ?_
                exact yG.mono (yG.sub (i_118 (a2 + 1)  h37 A_h37   (by omega) (by omega) (by omega) (by omega) (by omega)) (ySub.cons rfl (ySub.cons rfl (ySub.nil)))) (by omega)
      · intro a2 hq A_hq f0 f1 f2 f3 hm
        refine yG.mono (N := 87 * m + 87) ?_ (by omega)
        refine yG.load xik rfl (fun _ _ => rfl) (v := yI (a2)) rfl rfl ?_
        refine yG.load xak rfl (fun _ _ => rfl) (v := yR k0) rfl rfl ?_
        refine yG.getO A_hq.1 (w_Shape_net W H_k0) rfl rfl (fun r1 H_r1 O_r1 q_r1 => ?_)
        refine yG.getO A_hq.1 (w_Net_count W H_r1) rfl rfl (fun r2 H_r2 O_r2 q_r2 => ?_)
        refine yG.num (c := 3) rfl (fun _ _ => rfl) (by decide) ?_
        refine yG.ialdF A_hq.1 (v_Net_count W H_r2) rfl rfl (by omega) (by omega) (fun z3 e_z3 i_z3 l_z3 u_z3 => ?_)
        refine yG.icmp rfl (t := 366) rfl ⟨by omega, by omega⟩ ⟨by omega, by omega⟩ (fun c4 => ?_) (fun c4 => ?_)
        · have c4 : (a2 : Int) ≥ z3 := c4
          refine yG.load xak rfl (fun _ _ => rfl) (v := yR k0) rfl rfl ?_
          refine yG.invV (rest := []) A_hq.1 (bOb (d_Shape W) H_k0) rfl rfl rfl rfl (c_Shape_tally W (d + 1) A_hq.1 H_k0) (fun rv h5 q9 => ?_)
          obtain ⟨⟨rfl, R_z6⟩, B_h5⟩ := q9
          have A_h5 := A_hq.tr B_h5 (by decide)
          have qq1 : zsl h5 k0 0 = yR r1 := (B_h5.sl H_k0 (by decide)).trans q_r1
          show yG _ _ _ _ _ _ _ _ _ _ [] _
          refine yG.ret rfl (fun _ _ => rfl) ?_
          exact (yP.void ⟨⟨rfl, trivial⟩, A_h5⟩)
        · have c4 : (a2 : Int) < z3 := c4
          refine yG.load xak rfl (fun _ _ => rfl) (v := yR k0) rfl rfl ?_
          refine yG.getO A_hq.1 (w_Shape_spot W H_k0) rfl rfl (fun r7 H_r7 O_r7 q_r7 => ?_)
          refine yG.load xik rfl (fun _ _ => rfl) (v := yI (a2)) rfl rfl ?_
          refine yG.load xak rfl (fun _ _ => rfl) (v := yR k0) rfl rfl ?_
          refine yG.getO A_hq.1 (w_Shape_node W H_k0) rfl rfl (fun r8 H_r8 O_r8 q_r8 => ?_)
          refine yG.load xak rfl (fun _ _ => rfl) (v := yR k0) rfl rfl ?_
          refine yG.getS9 A_hq.1 (w_Shape_net W H_k0) q_r1 rfl rfl ?_
          refine yG.num (c := 3) rfl (fun _ _ => rfl) (by decide) ?_
          refine yG.load xik rfl (fun _ _ => rfl) (v := yI (a2)) rfl rfl ?_
          refine yG.num (c := 10) rfl (fun _ _ => rfl) (by decide) ?_
          refine yG.invV (rest := [yR r8, yI (a2), yR r7]) A_hq.1 (bOb (d_Net W) H_r1) rfl rfl rfl rfl (c_Net_at_3_10 W (d + 1) A_hq.1 H_r1 (a2) (by omega) (by omega)) (fun rv hp9 q9 => ?_)
          obtain ⟨⟨z9, rfl, l_z9, u_z9, R_z9⟩, e9⟩ := q9
          rw [e9]
          show yG _ _ _ _ _ _ _ _ _ _ (yI z9 :: [yR r8, yI (a2), yR r7]) _
          refine yG.ialdF A_hq.1 (v_Shape_node W H_r8) rfl rfl (by omega) (by omega) (fun z10 e_z10 i_z10 l_z10 u_z10 => ?_)
          refine yG.iast A_hq.1 (v_Shape_spot W H_r7) (W.2.1 _ _ H_r7 (by decide) (by decide)) rfl (by omega) (by omega) ⟨by omega, by omega⟩ (by omega) (by omega) (fun h11 T_h11 b_h11 f_h11 y_h11 => ?_)
          have A_h11 := A_hq.put T_h11 b_h11 f_h11 H_r7 (bAll_ok (by decide) _)
          have qq2 : zsl h11 k0 0 = yR r1 := ((f_h11 k0 0).trans (if_neg (fun e => (bRo.ne H_k0 H_r7 (by decide)) e.1))).trans q_r1
          have qq3 : zsl h11 k0 7 = yR r7 := ((f_h11 k0 7).trans (if_neg (fun e => (bRo.ne H_k0 H_r7 (by decide)) e.1))).trans q_r7
          have : ys h11 r7 (a2 : Int).toNat = z10 := (y_h11 r7 _).trans (if_pos ⟨rfl, rfl⟩)
          refine yG.load xak rfl (fun _ _ => rfl) (v := yR k0) rfl rfl ?_
          refine yG.getO A_h11.1 (w_Shape_on W H_k0) rfl rfl (fun r12 H_r12 O_r12 q_r12 => ?_)
          refine yG.load xik rfl (fun _ _ => rfl) (v := yI (a2)) rfl rfl ?_
          refine yG.load xak rfl (fun _ _ => rfl) (v := yR k0) rfl rfl ?_
          refine yG.getS9 A_h11.1 (w_Shape_net W H_k0) qq2 rfl rfl ?_
          refine yG.num (c := 3) rfl (fun _ _ => rfl) (by decide) ?_
          refine yG.load xik rfl (fun _ _ => rfl) (v := yI (a2)) rfl rfl ?_
          refine yG.num (c := 0) rfl (fun _ _ => rfl) (by decide) ?_
          refine yG.invV (rest := [yI (a2), yR r12]) A_h11.1 (bOb (d_Net W) H_r1) rfl rfl rfl rfl (c_Net_is_3 W (d + 1) A_h11.1 H_r1 (a2) (0) (by omega) (by omega) (by omega) (by omega)) (fun rv hp9 q9 => ?_)
          obtain ⟨⟨z13, rfl, l_z13, u_z13, R_z13⟩, e9⟩ := q9
          rw [e9]
          show yG _ _ _ _ _ _ _ _ _ _ (yI z13 :: [yI (a2), yR r12]) _
          refine yG.bast A_h11.1 (v_Shape_on W H_r12) (W.2.1 _ _ H_r12 (by decide) (by decide)) rfl (by omega) (by omega) ⟨by omega, by omega⟩ (by omega) (by omega) (fun h14 T_h14 b_h14 f_h14 y_h14 => ?_)
          have A_h14 := A_h11.put T_h14 b_h14 f_h14 H_r12 (bAll_ok (by decide) _)
          have qq4 : zsl h14 k0 0 = yR r1 := ((f_h14 k0 0).trans (if_neg (fun e => (bRo.ne H_k0 H_r12 (by decide)) e.1))).trans qq2
          have qq5 : zsl h14 k0 7 = yR r7 := ((f_h14 k0 7).trans (if_neg (fun e => (bRo.ne H_k0 H_r12 (by decide)) e.1))).trans qq3
          have : ys h14 r7 (a2 : Int).toNat = ys h11 r7 (a2 : Int).toNat := (y_h14 r7 (a2 : Int).toNat).trans (if_neg (fun e => (bRo.ne H_r7 H_r12 (by decide)) e.1))
          have qq6 : zsl h14 k0 8 = yR r12 := ((f_h14 k0 8).trans (if_neg (fun e => (bRo.ne H_k0 H_r12 (by decide)) e.1))).trans q_r12
          have : ys h14 r12 (a2 : Int).toNat = z13 := (y_h14 r12 _).trans (if_pos ⟨rfl, rfl⟩)
          refine yG.load xak rfl (fun _ _ => rfl) (v := yR k0) rfl rfl ?_
          refine yG.getO A_h14.1 (w_Shape_live W H_k0) rfl rfl (fun r15 H_r15 O_r15 q_r15 => ?_)
          refine yG.load xak rfl (fun _ _ => rfl) (v := yR k0) rfl rfl ?_
          refine yG.getO A_h14.1 (w_Shape_island W H_k0) rfl rfl (fun r16 H_r16 O_r16 q_r16 => ?_)
          refine yG.load xak rfl (fun _ _ => rfl) (v := yR k0) rfl rfl ?_
          refine yG.getS9 A_h14.1 (w_Shape_spot W H_k0) qq5 rfl rfl ?_
          refine yG.load xik rfl (fun _ _ => rfl) (v := yI (a2)) rfl rfl ?_
          refine yG.iald A_h14.1 (v_Shape_spot W H_r7) rfl (by omega) (by omega) (fun z17 e_z17 i_z17 l_z17 u_z17 => ?_)
          refine yG.ialdF A_h14.1 (v_Shape_island W H_r16) rfl rfl (by omega) (by omega) (fun z18 e_z18 i_z18 l_z18 u_z18 => ?_)
          refine yG.load xak rfl (fun _ _ => rfl) (v := yR k0) rfl rfl ?_
          refine yG.getS9 A_h14.1 (w_Shape_live W H_k0) q_r15 rfl rfl ?_
          refine yG.load xak rfl (fun _ _ => rfl) (v := yR k0) rfl rfl ?_
          refine yG.getS9 A_h14.1 (w_Shape_island W H_k0) q_r16 rfl rfl ?_
          refine yG.load xak rfl (fun _ _ => rfl) (v := yR k0) rfl rfl ?_
          refine yG.getS9 A_h14.1 (w_Shape_spot W H_k0) qq5 rfl rfl ?_
          refine yG.load xik rfl (fun _ _ => rfl) (v := yI (a2)) rfl rfl ?_
          refine yG.iald A_h14.1 (v_Shape_spot W H_r7) rfl (by omega) (by omega) (fun z19 e_z19 i_z19 l_z19 u_z19 => ?_)
          refine yG.ialdF A_h14.1 (v_Shape_island W H_r16) rfl rfl (by omega) (by omega) (fun z20 e_z20 i_z20 l_z20 u_z20 => ?_)
          refine yG.bald A_h14.1 (v_Shape_live W H_r15) rfl (by omega) (by omega) (fun z21 e_z21 i_z21 l_z21 u_z21 => ?_)
          refine yG.ifz rfl (t := 354) rfl ⟨by omega, by omega⟩ (fun c22 => ?_) (fun c22 => ?_)
          · have c22 : (z21 : Int) ≠ 0 := c22
            refine yG.num (c := 1) rfl (fun _ _ => rfl) (by decide) ?_
            refine yG.goto rfl (t := 359) rfl ?_
            refine yG.bast A_h14.1 (v_Shape_live W H_r15) (W.2.1 _ _ H_r15 (by decide) (by decide)) rfl (by omega) (by omega) ⟨by omega, by omega⟩ (by omega) (by omega) (fun h23 T_h23 b_h23 f_h23 y_h23 => ?_)
            have A_h23 := A_h14.put T_h23 b_h23 f_h23 H_r15 (bAll_ok (by decide) _)
            have qq7 : zsl h23 k0 0 = yR r1 := ((f_h23 k0 0).trans (if_neg (fun e => (bRo.ne H_k0 H_r15 (by decide)) e.1))).trans qq4
            have qq8 : zsl h23 k0 7 = yR r7 := ((f_h23 k0 7).trans (if_neg (fun e => (bRo.ne H_k0 H_r15 (by decide)) e.1))).trans qq5
            have : ys h23 r7 (a2 : Int).toNat = ys h14 r7 (a2 : Int).toNat := (y_h23 r7 (a2 : Int).toNat).trans (if_neg (fun e => (bRo.ne H_r7 H_r15 (by decide)) e.1))
            have qq9 : zsl h23 k0 8 = yR r12 := ((f_h23 k0 8).trans (if_neg (fun e => (bRo.ne H_k0 H_r15 (by decide)) e.1))).trans qq6
            have : ys h23 r12 (a2 : Int).toNat = ys h14 r12 (a2 : Int).toNat := (y_h23 r12 (a2 : Int).toNat).trans (if_neg (fun e => (bRo.ne H_r12 H_r15 (by decide)) e.1))
            have qq10 : zsl h23 k0 4 = yR r15 := ((f_h23 k0 4).trans (if_neg (fun e => (bRo.ne H_k0 H_r15 (by decide)) e.1))).trans q_r15
            have qq11 : zsl h23 k0 2 = yR r16 := ((f_h23 k0 2).trans (if_neg (fun e => (bRo.ne H_k0 H_r15 (by decide)) e.1))).trans q_r16
            refine yG.iinc rfl (a := a2) rfl (L' := [(2, yI (a2 + 1)), (0, yR k0)]) rfl ?_
            refine yG.goto rfl (t := 260) rfl ?_
            exact yG.mono (yG.sub (i_260 (a2 + 1)  h23 A_h23   (by omega) (by omega) (by omega) (by omega) (by omega)) (ySub.cons rfl (ySub.cons rfl (ySub.nil)))) (by omega)
          · have c22 : (z21 : Int) = 0 := c22
            refine yG.load xak rfl (fun _ _ => rfl) (v := yR k0) rfl rfl ?_
            refine yG.getS9 A_h14.1 (w_Shape_on W H_k0) qq6 rfl rfl ?_
            refine yG.load xik rfl (fun _ _ => rfl) (v := yI (a2)) rfl rfl ?_
            refine yG.bald A_h14.1 (v_Shape_on W H_r12) rfl (by omega) (by omega) (fun z24 e_z24 i_z24 l_z24 u_z24 => ?_)
            refine yG.ifz rfl (t := 358) rfl ⟨by omega, by omega⟩ (fun c25 => ?_) (fun c25 => ?_)
            · have c25 : (z24 : Int) = 0 := c25
              refine yG.num (c := 0) rfl (fun _ _ => rfl) (by decide) ?_
              refine yG.bast A_h14.1 (v_Shape_live W H_r15) (W.2.1 _ _ H_r15 (by decide) (by decide)) rfl (by omega) (by omega) ⟨by omega, by omega⟩ (by omega) (by omega) (fun h26 T_h26 b_h26 f_h26 y_h26 => ?_)
              have A_h26 := A_h14.put T_h26 b_h26 f_h26 H_r15 (bAll_ok (by decide) _)
              have qq12 : zsl h26 k0 0 = yR r1 := ((f_h26 k0 0).trans (if_neg (fun e => (bRo.ne H_k0 H_r15 (by decide)) e.1))).trans qq4
              have qq13 : zsl h26 k0 7 = yR r7 := ((f_h26 k0 7).trans (if_neg (fun e => (bRo.ne H_k0 H_r15 (by decide)) e.1))).trans qq5
              have : ys h26 r7 (a2 : Int).toNat = ys h14 r7 (a2 : Int).toNat := (y_h26 r7 (a2 : Int).toNat).trans (if_neg (fun e => (bRo.ne H_r7 H_r15 (by decide)) e.1))
              have qq14 : zsl h26 k0 8 = yR r12 := ((f_h26 k0 8).trans (if_neg (fun e => (bRo.ne H_k0 H_r15 (by decide)) e.1))).trans qq6
              have : ys h26 r12 (a2 : Int).toNat = ys h14 r12 (a2 : Int).toNat := (y_h26 r12 (a2 : Int).toNat).trans (if_neg (fun e => (bRo.ne H_r12 H_r15 (by decide)) e.1))
              have qq15 : zsl h26 k0 4 = yR r15 := ((f_h26 k0 4).trans (if_neg (fun e => (bRo.ne H_k0 H_r15 (by decide)) e.1))).trans q_r15
              have qq16 : zsl h26 k0 2 = yR r16 := ((f_h26 k0 2).trans (if_neg (fun e => (bRo.ne H_k0 H_r15 (by decide)) e.1))).trans q_r16
              refine yG.iinc rfl (a := a2) rfl (L' := [(2, yI (a2 + 1)), (0, yR k0)]) rfl ?_
              refine yG.goto rfl (t := 260) rfl ?_
              exact yG.mono (yG.sub (i_260 (a2 + 1)  h26 A_h26   (by omega) (by omega) (by omega) (by omega) (by omega)) (ySub.cons rfl (ySub.cons rfl (ySub.nil)))) (by omega)
            · have c25 : (z24 : Int) ≠ 0 := c25
              refine yG.num (c := 1) rfl (fun _ _ => rfl) (by decide) ?_
              refine yG.goto rfl (t := 359) rfl ?_
              refine yG.bast A_h14.1 (v_Shape_live W H_r15) (W.2.1 _ _ H_r15 (by decide) (by decide)) rfl (by omega) (by omega) ⟨by omega, by omega⟩ (by omega) (by omega) (fun h27 T_h27 b_h27 f_h27 y_h27 => ?_)
              have A_h27 := A_h14.put T_h27 b_h27 f_h27 H_r15 (bAll_ok (by decide) _)
              have qq17 : zsl h27 k0 0 = yR r1 := ((f_h27 k0 0).trans (if_neg (fun e => (bRo.ne H_k0 H_r15 (by decide)) e.1))).trans qq4
              have qq18 : zsl h27 k0 7 = yR r7 := ((f_h27 k0 7).trans (if_neg (fun e => (bRo.ne H_k0 H_r15 (by decide)) e.1))).trans qq5
              have : ys h27 r7 (a2 : Int).toNat = ys h14 r7 (a2 : Int).toNat := (y_h27 r7 (a2 : Int).toNat).trans (if_neg (fun e => (bRo.ne H_r7 H_r15 (by decide)) e.1))
              have qq19 : zsl h27 k0 8 = yR r12 := ((f_h27 k0 8).trans (if_neg (fun e => (bRo.ne H_k0 H_r15 (by decide)) e.1))).trans qq6
              have : ys h27 r12 (a2 : Int).toNat = ys h14 r12 (a2 : Int).toNat := (y_h27 r12 (a2 : Int).toNat).trans (if_neg (fun e => (bRo.ne H_r12 H_r15 (by decide)) e.1))
              have qq20 : zsl h27 k0 4 = yR r15 := ((f_h27 k0 4).trans (if_neg (fun e => (bRo.ne H_k0 H_r15 (by decide)) e.1))).trans q_r15
              have qq21 : zsl h27 k0 2 = yR r16 := ((f_h27 k0 2).trans (if_neg (fun e => (bRo.ne H_k0 H_r15 (by decide)) e.1))).trans q_r16
              refine yG.iinc rfl (a := a2) rfl (L' := [(2, yI (a2 + 1)), (0, yR k0)]) rfl ?_
              refine yG.goto rfl (t := 260) rfl ?_
              exact yG.mono (yG.sub (i_260 (a2 + 1)  h27 A_h27   (by omega) (by omega) (by omega) (by omega) (by omega)) (ySub.cons rfl (ySub.cons rfl (ySub.nil)))) (by omega)
  refine yC.of (M := (xt_X8_look, (4, (0, (9, []))))) rfl rfl (N := 11685753) (yfuel (by decide)) ?_
  show yG 89 xfts (xcall 89 xfts xpools xms (d + 2)) (xpool xp_RX8) [] xt_X8_look (yP 0 (fun rv hp' => (rv = none ∧ True) ∧ bAx G [(2251799813685248, 9), (2251799813685248, 10), (2251799813685248, 11), (2211267417038913536, 256)] hp hp')) 11685753 0 [(0, yR k0), (1, yI (p1))] [] hp
  obtain ⟨i_2, i_30, i_68, i_118, i_260⟩ := H 134318
  refine yG.num (c := 0) rfl (fun _ _ => rfl) (by decide) ?_
  refine yG.store1 xik (L' := [(2, yI (0)), (0, yR k0), (1, yI (p1))]) rfl (fun _ _ => rfl) rfl rfl ?_
  exact yG.mono (yG.sub (i_2 (0)  hp A_hp   (by omega) (by omega) (by omega) (by omega) (by omega)) (ySub.cons rfl (ySub.cons rfl (ySub.cons rfl (ySub.nil))))) (by omega)
theorem c_Shape_islandOfLine {hp : xH} (W : bW G) (d : Nat) (hT : zTy G hp) {k0 : Nat} (H_k0 : bRo G 51 k0) (p1 : Int) (h1l : 0 ≤ p1) (h1u : p1 ≤ 19) : yC (xcall 89 xfts xpools xms (d + 1)) 216 [yR k0, yI (p1)] hp (bQpi hp 0 15 (fun _ => True)) := by
  have A_hp : bAx G [] hp hp := bAx.rf hT
  refine yC.of (M := (xt_X8_islandOfLine, (2, (1, (9, []))))) rfl rfl (N := 36) (yfuel (by decide)) ?_
  show yG 89 xfts (xcall 89 xfts xpools xms d) (xpool xp_RX8) [] xt_X8_islandOfLine (yP 1 (bQpi hp 0 15 (fun _ => True))) 36 0 [(0, yR k0), (1, yI (p1))] [] hp
  refine yG.load xak rfl (fun _ _ => rfl) (v := yR k0) rfl rfl ?_
  refine yG.getO A_hp.1 (w_Shape_island W H_k0) rfl rfl (fun r1 H_r1 O_r1 q_r1 => ?_)
  refine yG.load xak rfl (fun _ _ => rfl) (v := yR k0) rfl rfl ?_
  refine yG.getO A_hp.1 (w_Shape_ends W H_k0) rfl rfl (fun r2 H_r2 O_r2 q_r2 => ?_)
  refine yG.load xik rfl (fun _ _ => rfl) (v := yI (p1)) rfl rfl ?_
  refine yG.aaldO (r := 57) A_hp.1 (v_Shape_ends W H_r2) rfl rfl rfl (by omega) (by omega) (fun r3 H_r3 q_r3 => ?_)
  refine yG.num (c := 0) rfl (fun _ _ => rfl) (by decide) ?_
  refine yG.iald A_hp.1 (v_Shape_endss W H_r3) rfl (by omega) (by omega) (fun z4 e_z4 i_z4 l_z4 u_z4 => ?_)
  refine yG.ialdF A_hp.1 (v_Shape_island W H_r1) rfl rfl (by omega) (by omega) (fun z5 e_z5 i_z5 l_z5 u_z5 => ?_)
  refine yG.ret rfl (fun _ _ => rfl) ?_
  exact (yP.int ⟨by omega, by omega⟩ ⟨⟨z5, rfl, by omega, by omega, trivial⟩, rfl⟩)
theorem c_Shape_islandOfMachine {hp : xH} (W : bW G) (d : Nat) (hT : zTy G hp) {k0 : Nat} (H_k0 : bRo G 51 k0) (p1 : Int) (h1l : 0 ≤ p1) (h1u : p1 ≤ 5) : yC (xcall 89 xfts xpools xms (d + 1)) 218 [yR k0, yI (p1)] hp (bQpi hp 0 15 (fun _ => True)) := by
  have A_hp : bAx G [] hp hp := bAx.rf hT
  refine yC.of (M := (xt_X8_islandOfMachine, (2, (1, (9, []))))) rfl rfl (N := 30) (yfuel (by decide)) ?_
  show yG 89 xfts (xcall 89 xfts xpools xms d) (xpool xp_RX8) [] xt_X8_islandOfMachine (yP 1 (bQpi hp 0 15 (fun _ => True))) 30 0 [(0, yR k0), (1, yI (p1))] [] hp
  refine yG.load xak rfl (fun _ _ => rfl) (v := yR k0) rfl rfl ?_
  refine yG.getO A_hp.1 (w_Shape_island W H_k0) rfl rfl (fun r1 H_r1 O_r1 q_r1 => ?_)
  refine yG.load xak rfl (fun _ _ => rfl) (v := yR k0) rfl rfl ?_
  refine yG.getO A_hp.1 (w_Shape_spot W H_k0) rfl rfl (fun r2 H_r2 O_r2 q_r2 => ?_)
  refine yG.load xik rfl (fun _ _ => rfl) (v := yI (p1)) rfl rfl ?_
  refine yG.iald A_hp.1 (v_Shape_spot W H_r2) rfl (by omega) (by omega) (fun z3 e_z3 i_z3 l_z3 u_z3 => ?_)
  refine yG.ialdF A_hp.1 (v_Shape_island W H_r1) rfl rfl (by omega) (by omega) (fun z4 e_z4 i_z4 l_z4 u_z4 => ?_)
  refine yG.ret rfl (fun _ _ => rfl) ?_
  exact (yP.int ⟨by omega, by omega⟩ ⟨⟨z4, rfl, by omega, by omega, trivial⟩, rfl⟩)
theorem c_Shape_islandOfLoad {hp : xH} (W : bW G) (d : Nat) (hT : zTy G hp) {k0 : Nat} (H_k0 : bRo G 51 k0) (p1 : Int) (h1l : 0 ≤ p1) (h1u : p1 ≤ 11) : yC (xcall 89 xfts xpools xms (d + 2)) 217 [yR k0, yI (p1)] hp (bQpi hp 0 15 (fun _ => True)) := by
  have A_hp : bAx G [] hp hp := bAx.rf hT
  refine yC.of (M := (xt_X8_islandOfLoad, (2, (1, (9, []))))) rfl rfl (N := 36) (yfuel (by decide)) ?_
  show yG 89 xfts (xcall 89 xfts xpools xms (d + 1)) (xpool xp_RX8) [] xt_X8_islandOfLoad (yP 1 (bQpi hp 0 15 (fun _ => True))) 36 0 [(0, yR k0), (1, yI (p1))] [] hp
  refine yG.load xak rfl (fun _ _ => rfl) (v := yR k0) rfl rfl ?_
  refine yG.getO A_hp.1 (w_Shape_island W H_k0) rfl rfl (fun r1 H_r1 O_r1 q_r1 => ?_)
  refine yG.load xak rfl (fun _ _ => rfl) (v := yR k0) rfl rfl ?_
  refine yG.getO A_hp.1 (w_Shape_net W H_k0) rfl rfl (fun r2 H_r2 O_r2 q_r2 => ?_)
  refine yG.num (c := 4) rfl (fun _ _ => rfl) (by decide) ?_
  refine yG.load xik rfl (fun _ _ => rfl) (v := yI (p1)) rfl rfl ?_
  refine yG.num (c := 1) rfl (fun _ _ => rfl) (by decide) ?_
  refine yG.invV (rest := [yR r1]) A_hp.1 (bOb (d_Net W) H_r2) rfl rfl rfl rfl (c_Net_at_4_1 W d A_hp.1 H_r2 (p1) (by omega) (by omega)) (fun rv hp9 q9 => ?_)
  obtain ⟨⟨z3, rfl, l_z3, u_z3, R_z3⟩, e9⟩ := q9
  rw [e9]
  show yG _ _ _ _ _ _ _ _ _ _ (yI z3 :: [yR r1]) _
  refine yG.ialdF A_hp.1 (v_Shape_island W H_r1) rfl rfl (by omega) (by omega) (fun z4 e_z4 i_z4 l_z4 u_z4 => ?_)
  refine yG.ret rfl (fun _ _ => rfl) ?_
  exact (yP.int ⟨by omega, by omega⟩ ⟨⟨z4, rfl, by omega, by omega, trivial⟩, rfl⟩)
theorem c_Shape_rowOfEnd {hp : xH} (W : bW G) (d : Nat) (hT : zTy G hp) {k0 : Nat} (H_k0 : bRo G 51 k0) (p1 p2 : Int) (h1l : 0 ≤ p1) (h1u : p1 ≤ 19) (h2l : 0 ≤ p2) (h2u : p2 ≤ 1) : yC (xcall 89 xfts xpools xms (d + 1)) 224 [yR k0, yI (p1), yI (p2)] hp (bQpi hp (-1) 15 (fun _ => True)) := by
  have A_hp : bAx G [] hp hp := bAx.rf hT
  refine yC.of (M := (xt_X8_rowOfEnd, (3, (1, (9, []))))) rfl rfl (N := 36) (yfuel (by decide)) ?_
  show yG 89 xfts (xcall 89 xfts xpools xms d) (xpool xp_RX8) [] xt_X8_rowOfEnd (yP 1 (bQpi hp (-1) 15 (fun _ => True))) 36 0 [(0, yR k0), (1, yI (p1)), (2, yI (p2))] [] hp
  refine yG.load xak rfl (fun _ _ => rfl) (v := yR k0) rfl rfl ?_
  refine yG.getO A_hp.1 (w_Shape_row W H_k0) rfl rfl (fun r1 H_r1 O_r1 q_r1 => ?_)
  refine yG.load xak rfl (fun _ _ => rfl) (v := yR k0) rfl rfl ?_
  refine yG.getO A_hp.1 (w_Shape_ends W H_k0) rfl rfl (fun r2 H_r2 O_r2 q_r2 => ?_)
  refine yG.load xik rfl (fun _ _ => rfl) (v := yI (p1)) rfl rfl ?_
  refine yG.aaldO (r := 57) A_hp.1 (v_Shape_ends W H_r2) rfl rfl rfl (by omega) (by omega) (fun r3 H_r3 q_r3 => ?_)
  refine yG.load xik rfl (fun _ _ => rfl) (v := yI (p2)) rfl rfl ?_
  refine yG.iald A_hp.1 (v_Shape_endss W H_r3) rfl (by omega) (by omega) (fun z4 e_z4 i_z4 l_z4 u_z4 => ?_)
  refine yG.iald A_hp.1 (v_Shape_row W H_r1) rfl (by omega) (by omega) (fun z5 e_z5 i_z5 l_z5 u_z5 => ?_)
  refine yG.ret rfl (fun _ _ => rfl) ?_
  exact (yP.int ⟨by omega, by omega⟩ ⟨⟨z5, rfl, by omega, by omega, trivial⟩, rfl⟩)
theorem c_Shape_rowOfMachine {hp : xH} (W : bW G) (d : Nat) (hT : zTy G hp) {k0 : Nat} (H_k0 : bRo G 51 k0) (p1 : Int) (h1l : 0 ≤ p1) (h1u : p1 ≤ 5) : yC (xcall 89 xfts xpools xms (d + 1)) 226 [yR k0, yI (p1)] hp (bQpi hp (-1) 15 (fun _ => True)) := by
  have A_hp : bAx G [] hp hp := bAx.rf hT
  refine yC.of (M := (xt_X8_rowOfMachine, (2, (1, (9, []))))) rfl rfl (N := 30) (yfuel (by decide)) ?_
  show yG 89 xfts (xcall 89 xfts xpools xms d) (xpool xp_RX8) [] xt_X8_rowOfMachine (yP 1 (bQpi hp (-1) 15 (fun _ => True))) 30 0 [(0, yR k0), (1, yI (p1))] [] hp
  refine yG.load xak rfl (fun _ _ => rfl) (v := yR k0) rfl rfl ?_
  refine yG.getO A_hp.1 (w_Shape_row W H_k0) rfl rfl (fun r1 H_r1 O_r1 q_r1 => ?_)
  refine yG.load xak rfl (fun _ _ => rfl) (v := yR k0) rfl rfl ?_
  refine yG.getO A_hp.1 (w_Shape_spot W H_k0) rfl rfl (fun r2 H_r2 O_r2 q_r2 => ?_)
  refine yG.load xik rfl (fun _ _ => rfl) (v := yI (p1)) rfl rfl ?_
  refine yG.iald A_hp.1 (v_Shape_spot W H_r2) rfl (by omega) (by omega) (fun z3 e_z3 i_z3 l_z3 u_z3 => ?_)
  refine yG.iald A_hp.1 (v_Shape_row W H_r1) rfl (by omega) (by omega) (fun z4 e_z4 i_z4 l_z4 u_z4 => ?_)
  refine yG.ret rfl (fun _ _ => rfl) ?_
  exact (yP.int ⟨by omega, by omega⟩ ⟨⟨z4, rfl, by omega, by omega, trivial⟩, rfl⟩)
theorem c_Shape_rowOfLoad {hp : xH} (W : bW G) (d : Nat) (hT : zTy G hp) {k0 : Nat} (H_k0 : bRo G 51 k0) (p1 : Int) (h1l : 0 ≤ p1) (h1u : p1 ≤ 11) : yC (xcall 89 xfts xpools xms (d + 2)) 225 [yR k0, yI (p1)] hp (bQpi hp (-1) 15 (fun _ => True)) := by
  have A_hp : bAx G [] hp hp := bAx.rf hT
  refine yC.of (M := (xt_X8_rowOfLoad, (2, (1, (9, []))))) rfl rfl (N := 36) (yfuel (by decide)) ?_
  show yG 89 xfts (xcall 89 xfts xpools xms (d + 1)) (xpool xp_RX8) [] xt_X8_rowOfLoad (yP 1 (bQpi hp (-1) 15 (fun _ => True))) 36 0 [(0, yR k0), (1, yI (p1))] [] hp
  refine yG.load xak rfl (fun _ _ => rfl) (v := yR k0) rfl rfl ?_
  refine yG.getO A_hp.1 (w_Shape_row W H_k0) rfl rfl (fun r1 H_r1 O_r1 q_r1 => ?_)
  refine yG.load xak rfl (fun _ _ => rfl) (v := yR k0) rfl rfl ?_
  refine yG.getO A_hp.1 (w_Shape_net W H_k0) rfl rfl (fun r2 H_r2 O_r2 q_r2 => ?_)
  refine yG.num (c := 4) rfl (fun _ _ => rfl) (by decide) ?_
  refine yG.load xik rfl (fun _ _ => rfl) (v := yI (p1)) rfl rfl ?_
  refine yG.num (c := 1) rfl (fun _ _ => rfl) (by decide) ?_
  refine yG.invV (rest := [yR r1]) A_hp.1 (bOb (d_Net W) H_r2) rfl rfl rfl rfl (c_Net_at_4_1 W d A_hp.1 H_r2 (p1) (by omega) (by omega)) (fun rv hp9 q9 => ?_)
  obtain ⟨⟨z3, rfl, l_z3, u_z3, R_z3⟩, e9⟩ := q9
  rw [e9]
  show yG _ _ _ _ _ _ _ _ _ _ (yI z3 :: [yR r1]) _
  refine yG.iald A_hp.1 (v_Shape_row W H_r1) rfl (by omega) (by omega) (fun z4 e_z4 i_z4 l_z4 u_z4 => ?_)
  refine yG.ret rfl (fun _ _ => rfl) ?_
  exact (yP.int ⟨by omega, by omega⟩ ⟨⟨z4, rfl, by omega, by omega, trivial⟩, rfl⟩)
theorem c_Shape_loops {hp : xH} (W : bW G) (d : Nat) (hT : zTy G hp) {k0 : Nat} (H_k0 : bRo G 51 k0) : yC (xcall 89 xfts xpools xms (d + 2)) 222 [yR k0] hp (bQpi hp (-2147483648) 2147483647 (fun _ => True)) := by
  have A_hp : bAx G [] hp hp := bAx.rf hT
  have H : ∀ m : Nat, (∀ a1 : Int, ∀ a2 : Int, (-2147483648) ≤ a1 → (-2147483647) ≤ 0 - a1 → 0 ≤ a2 → (-24) ≤ 0 - a2 → 0 - 43 * a2 + 1074 < (m : Int) → yG 89 xfts (xcall 89 xfts xpools xms (d + 1)) (xpool xp_RX8) [] xt_X8_loops (yP 1 (bQpi hp (-2147483648) 2147483647 (fun _ => True))) (23 * m) 17 [(0, yR k0), (1, yI (a1)), (2, yI (a2))] [] hp) ∧ (∀ a1 : Int, ∀ a2 : Int, (-2147483648) ≤ a1 → (-2147483647) ≤ 0 - a1 → 0 ≤ a2 → (-20) ≤ 0 - a2 → 0 - 2 * a2 + 41 < (m : Int) → yG 89 xfts (xcall 89 xfts xpools xms (d + 1)) (xpool xp_RX8) [] xt_X8_loops (yP 1 (bQpi hp (-2147483648) 2147483647 (fun _ => True))) (23 * m) 59 [(0, yR k0), (1, yI (a1)), (2, yI (a2))] [] hp) := by
    intro m
    induction m with
    | zero =>
      refine ⟨?_, ?_⟩ <;> (intros; exfalso; omega)
    | succ m ih =>
      obtain ⟨i_17, i_59⟩ := ih
      refine ⟨?_, ?_⟩
      · intro a1 a2 f0 f1 f2 f3 hm
        refine yG.mono (N := 23 * m + 23) ?_ (by omega)
        refine yG.load xik rfl (fun _ _ => rfl) (v := yI (a2)) rfl rfl ?_
        refine yG.load xak rfl (fun _ _ => rfl) (v := yR k0) rfl rfl ?_
        refine yG.getO A_hp.1 (w_Shape_net W H_k0) rfl rfl (fun r1 H_r1 O_r1 q_r1 => ?_)
        refine yG.getO A_hp.1 (w_Net_count W H_r1) rfl rfl (fun r2 H_r2 O_r2 q_r2 => ?_)
        refine yG.num (c := 1) rfl (fun _ _ => rfl) (by decide) ?_
        refine yG.ialdF A_hp.1 (v_Net_count W H_r2) rfl rfl (by omega) (by omega) (fun z3 e_z3 i_z3 l_z3 u_z3 => ?_)
        refine yG.icmp rfl (t := 57) rfl ⟨by omega, by omega⟩ ⟨by omega, by omega⟩ (fun c4 => ?_) (fun c4 => ?_)
        · have c4 : (a2 : Int) ≥ z3 := c4
          refine yG.num (c := 0) rfl (fun _ _ => rfl) (by decide) ?_
          refine yG.store1 xik (L' := [(2, yI (0)), (0, yR k0), (1, yI (a1))]) rfl (fun _ _ => rfl) rfl rfl ?_
          exact yG.mono (yG.sub (i_59 (a1) (0)     (by omega) (by omega) (by omega) (by omega) (by omega)) (ySub.cons rfl (ySub.cons rfl (ySub.cons rfl (ySub.nil))))) (by omega)
        · have c4 : (a2 : Int) < z3 := c4
          refine yG.load xik rfl (fun _ _ => rfl) (v := yI (a1)) rfl rfl ?_
          refine yG.load xak rfl (fun _ _ => rfl) (v := yR k0) rfl rfl ?_
          refine yG.getS9 A_hp.1 (w_Shape_net W H_k0) q_r1 rfl rfl ?_
          refine yG.num (c := 1) rfl (fun _ _ => rfl) (by decide) ?_
          refine yG.load xik rfl (fun _ _ => rfl) (v := yI (a2)) rfl rfl ?_
          refine yG.num (c := 0) rfl (fun _ _ => rfl) (by decide) ?_
          refine yG.invV (rest := [yI (a1)]) A_hp.1 (bOb (d_Net W) H_r1) rfl rfl rfl rfl (c_Net_is_1 W d A_hp.1 H_r1 (a2) (0) (by omega) (by omega) (by omega) (by omega)) (fun rv hp9 q9 => ?_)
          obtain ⟨⟨z5, rfl, l_z5, u_z5, R_z5⟩, e9⟩ := q9
          rw [e9]
          show yG _ _ _ _ _ _ _ _ _ _ (yI z5 :: [yI (a1)]) _
          refine yG.ifz rfl (t := 48) rfl ⟨by omega, by omega⟩ (fun c6 => ?_) (fun c6 => ?_)
          · have c6 : (z5 : Int) = 0 := c6
            refine yG.num (c := 0) rfl (fun _ _ => rfl) (by decide) ?_
            refine yG.iadd rfl ?_
            obtain ⟨z7, e_z7⟩ : ∃ z : Int, z = a1 + 0 := ⟨_, rfl⟩
            rw [← e_z7]
            refine yG.store1 xik (L' := [(1, yI (z7)), (0, yR k0), (2, yI (a2))]) rfl (fun _ _ => rfl) rfl rfl ?_
            refine yG.iinc rfl (a := a2) rfl (L' := [(2, yI (a2 + 1)), (1, yI (z7)), (0, yR k0)]) rfl ?_
            refine yG.goto rfl (t := 17) rfl ?_
            exact yG.mono (yG.sub (i_17 (z7) (a2 + 1)     (by omega) (by omega) (by omega) (by omega) (by omega)) (ySub.cons rfl (ySub.cons rfl (ySub.cons rfl (ySub.nil))))) (by omega)
          · have c6 : (z5 : Int) ≠ 0 := c6
            refine yG.num (c := 1) rfl (fun _ _ => rfl) (by decide) ?_
            refine yG.goto rfl (t := 49) rfl ?_
            refine yG.iadd rfl ?_
            obtain ⟨z8, e_z8, l_z8, u_z8⟩ := ywI (a1 + 1)
            rw [e_z8]
            refine yG.store1 xik (L' := [(1, yI (z8)), (0, yR k0), (2, yI (a2))]) rfl (fun _ _ => rfl) rfl rfl ?_
            refine yG.iinc rfl (a := a2) rfl (L' := [(2, yI (a2 + 1)), (1, yI (z8)), (0, yR k0)]) rfl ?_
            refine yG.goto rfl (t := 17) rfl ?_
            exact yG.mono (yG.sub (i_17 (z8) (a2 + 1)     (by omega) (by omega) (by omega) (by omega) (by omega)) (ySub.cons rfl (ySub.cons rfl (ySub.cons rfl (ySub.nil))))) (by omega)
      · intro a1 a2 f0 f1 f2 f3 hm
        refine yG.mono (N := 23 * m + 23) ?_ (by omega)
        refine yG.load xik rfl (fun _ _ => rfl) (v := yI (a2)) rfl rfl ?_
        refine yG.load xak rfl (fun _ _ => rfl) (v := yR k0) rfl rfl ?_
        refine yG.getO A_hp.1 (w_Shape_net W H_k0) rfl rfl (fun r1 H_r1 O_r1 q_r1 => ?_)
        refine yG.getO A_hp.1 (w_Net_count W H_r1) rfl rfl (fun r2 H_r2 O_r2 q_r2 => ?_)
        refine yG.num (c := 2) rfl (fun _ _ => rfl) (by decide) ?_
        refine yG.ialdF A_hp.1 (v_Net_count W H_r2) rfl rfl (by omega) (by omega) (fun z3 e_z3 i_z3 l_z3 u_z3 => ?_)
        refine yG.icmp rfl (t := 99) rfl ⟨by omega, by omega⟩ ⟨by omega, by omega⟩ (fun c4 => ?_) (fun c4 => ?_)
        · have c4 : (a2 : Int) ≥ z3 := c4
          refine yG.load xik rfl (fun _ _ => rfl) (v := yI (a1)) rfl rfl ?_
          refine yG.ret rfl (fun _ _ => rfl) ?_
          exact (yP.int ⟨by omega, by omega⟩ ⟨⟨a1, rfl, by omega, by omega, trivial⟩, rfl⟩)
        · have c4 : (a2 : Int) < z3 := c4
          refine yG.load xik rfl (fun _ _ => rfl) (v := yI (a1)) rfl rfl ?_
          refine yG.load xak rfl (fun _ _ => rfl) (v := yR k0) rfl rfl ?_
          refine yG.getS9 A_hp.1 (w_Shape_net W H_k0) q_r1 rfl rfl ?_
          refine yG.num (c := 2) rfl (fun _ _ => rfl) (by decide) ?_
          refine yG.load xik rfl (fun _ _ => rfl) (v := yI (a2)) rfl rfl ?_
          refine yG.num (c := 0) rfl (fun _ _ => rfl) (by decide) ?_
          refine yG.invV (rest := [yI (a1)]) A_hp.1 (bOb (d_Net W) H_r1) rfl rfl rfl rfl (c_Net_is_2 W d A_hp.1 H_r1 (a2) (0) (by omega) (by omega) (by omega) (by omega)) (fun rv hp9 q9 => ?_)
          obtain ⟨⟨z5, rfl, l_z5, u_z5, R_z5⟩, e9⟩ := q9
          rw [e9]
          show yG _ _ _ _ _ _ _ _ _ _ (yI z5 :: [yI (a1)]) _
          refine yG.ifz rfl (t := 90) rfl ⟨by omega, by omega⟩ (fun c6 => ?_) (fun c6 => ?_)
          · have c6 : (z5 : Int) = 0 := c6
            refine yG.num (c := 0) rfl (fun _ _ => rfl) (by decide) ?_
            refine yG.iadd rfl ?_
            obtain ⟨z7, e_z7⟩ : ∃ z : Int, z = a1 + 0 := ⟨_, rfl⟩
            rw [← e_z7]
            refine yG.store1 xik (L' := [(1, yI (z7)), (0, yR k0), (2, yI (a2))]) rfl (fun _ _ => rfl) rfl rfl ?_
            refine yG.iinc rfl (a := a2) rfl (L' := [(2, yI (a2 + 1)), (1, yI (z7)), (0, yR k0)]) rfl ?_
            refine yG.goto rfl (t := 59) rfl ?_
            exact yG.mono (yG.sub (i_59 (z7) (a2 + 1)     (by omega) (by omega) (by omega) (by omega) (by omega)) (ySub.cons rfl (ySub.cons rfl (ySub.cons rfl (ySub.nil))))) (by omega)
          · have c6 : (z5 : Int) ≠ 0 := c6
            refine yG.num (c := 1) rfl (fun _ _ => rfl) (by decide) ?_
            refine yG.goto rfl (t := 91) rfl ?_
            refine yG.iadd rfl ?_
            obtain ⟨z8, e_z8, l_z8, u_z8⟩ := ywI (a1 + 1)
            rw [e_z8]
            refine yG.store1 xik (L' := [(1, yI (z8)), (0, yR k0), (2, yI (a2))]) rfl (fun _ _ => rfl) rfl rfl ?_
            refine yG.iinc rfl (a := a2) rfl (L' := [(2, yI (a2 + 1)), (1, yI (z8)), (0, yR k0)]) rfl ?_
            refine yG.goto rfl (t := 59) rfl ?_
            exact yG.mono (yG.sub (i_59 (z8) (a2 + 1)     (by omega) (by omega) (by omega) (by omega) (by omega)) (ySub.cons rfl (ySub.cons rfl (ySub.cons rfl (ySub.nil))))) (by omega)
  refine yC.of (M := (xt_X8_loops, (3, (1, (9, []))))) rfl rfl (N := 24771) (yfuel (by decide)) ?_
  show yG 89 xfts (xcall 89 xfts xpools xms (d + 1)) (xpool xp_RX8) [] xt_X8_loops (yP 1 (bQpi hp (-2147483648) 2147483647 (fun _ => True))) 24771 0 [(0, yR k0)] [] hp
  obtain ⟨i_17, i_59⟩ := H 1076
  refine yG.load xak rfl (fun _ _ => rfl) (v := yR k0) rfl rfl ?_
  refine yG.getI A_hp.1 (w_Shape_islands W H_k0) rfl rfl (fun z1 e_z1 i_z1 l_z1 u_z1 => ?_)
  refine yG.load xak rfl (fun _ _ => rfl) (v := yR k0) rfl rfl ?_
  refine yG.getO A_hp.1 (w_Shape_net W H_k0) rfl rfl (fun r2 H_r2 O_r2 q_r2 => ?_)
  refine yG.getO A_hp.1 (w_Net_count W H_r2) rfl rfl (fun r3 H_r3 O_r3 q_r3 => ?_)
  refine yG.num (c := 0) rfl (fun _ _ => rfl) (by decide) ?_
  refine yG.ialdF A_hp.1 (v_Net_count W H_r3) rfl rfl (by omega) (by omega) (fun z4 e_z4 i_z4 l_z4 u_z4 => ?_)
  refine yG.isub rfl ?_
  obtain ⟨z5, e_z5, l_z5, u_z5⟩ := ywI (z1 - z4)
  rw [e_z5]
  refine yG.store1 xik (L' := [(1, yI (z5)), (0, yR k0)]) rfl (fun _ _ => rfl) rfl rfl ?_
  refine yG.num (c := 0) rfl (fun _ _ => rfl) (by decide) ?_
  refine yG.store1 xik (L' := [(2, yI (0)), (1, yI (z5)), (0, yR k0)]) rfl (fun _ _ => rfl) rfl rfl ?_
  exact yG.mono (yG.sub (i_17 (z5) (0)     (by omega) (by omega) (by omega) (by omega) (by omega)) (ySub.cons rfl (ySub.cons rfl (ySub.cons rfl (ySub.nil))))) (by omega)
theorem c_Shape_bitsOf {hp : xH} (W : bW G) (d : Nat) (hT : zTy G hp) (p0 : Int) (h0l : (-2147483648) ≤ p0) (h0u : p0 ≤ 2147483647) : yC (xcall 89 xfts xpools xms (d + 1)) 212 [yI (p0)] hp (bQpi hp (-2147483648) 2147483647 (fun z => 0 ≤ p0 - z + 2147483648)) := by
  have A_hp : bAx G [] hp hp := bAx.rf hT
  have H : ∀ m : Nat, (∀ a1 : Int, ∀ a2 : Int, (-2147483648) ≤ a1 → (-2147483647) ≤ 0 - a1 → (-2147483648) ≤ a2 → (-2147483647) ≤ 0 - a2 → (-2147483648) ≤ p0 → (-2147483647) ≤ 0 - p0 → (-3221225471) ≤ a1 - a2 → (-2147483648) ≤ 0 - a1 + a2 → (-2147483647) ≤ a2 - p0 → 0 ≤ 0 - a2 + p0 → 2 * a2 + 4294967297 < (m : Int) → yG 89 xfts (xcall 89 xfts xpools xms d) (xpool xp_RX8) [] xt_X8_bitsOf (yP 1 (bQpi hp (-2147483648) 2147483647 (fun z => 0 ≤ p0 - z + 2147483648))) (10 * m) 4 [(1, yI (a1)), (2, yI (a2))] [] hp) := by
    intro m
    induction m with
    | zero =>
      intros; exfalso; omega
    | succ m ih =>
      have i_4 := ih
      clear ih
      intro a1 a2 f0 f1 f2 f3 f4 f5 f6 f7 f8 f9 hm
      refine yG.mono (N := 10 * m + 10) ?_ (by omega)
      refine yG.load xik rfl (fun _ _ => rfl) (v := yI (a2)) rfl rfl ?_
      refine yG.ifz rfl (t := 18) rfl ⟨by omega, by omega⟩ (fun c1 => ?_) (fun c1 => ?_)
      · have c1 : (a2 : Int) ≤ 0 := c1
        refine yG.load xik rfl (fun _ _ => rfl) (v := yI (a1)) rfl rfl ?_
        refine yG.ret rfl (fun _ _ => rfl) ?_
        exact (yP.int ⟨by omega, by omega⟩ ⟨⟨a1, rfl, by omega, by omega, by omega⟩, rfl⟩)
      · have c1 : (a2 : Int) > 0 := c1
        refine yG.iinc rfl (a := a1) rfl (L' := [(1, yI (a1 + 1)), (2, yI (a2))]) rfl ?_
        refine yG.load xik rfl (fun _ _ => rfl) (v := yI (a2)) rfl rfl ?_
        refine yG.num (c := 1) rfl (fun _ _ => rfl) (by decide) ?_
        refine yG.bit32 rfl (fun _ _ => rfl) (fun z2 e_z2 l_z2 u_z2 => ?_)
        have b_z2 : z2 = (a2) / 2 := by rw [e_z2]; exact yishr (n := 1) ⟨by omega, by omega⟩ (by decide)
        refine yG.store1 xik (L' := [(2, yI (z2)), (1, yI (a1 + 1))]) rfl (fun _ _ => rfl) rfl rfl ?_
        refine yG.goto rfl (t := 4) rfl ?_
        obtain ⟨z3, e_z3, l_z3, u_z3⟩ := ywI (a1 + 1)
        rw [e_z3]
        exact yG.mono (yG.sub (i_4 (z3) (z2)     (by omega) (by omega) (by omega) (by omega) (by omega) (by omega) (by omega) (by omega) (by omega) (by omega) (by omega)) (ySub.cons rfl (ySub.cons rfl (ySub.nil)))) (by omega)
  refine yC.of (M := (xt_X8_bitsOf, (3, (1, (9, []))))) rfl rfl (N := 85899345940) (yfuel (by decide)) ?_
  show yG 89 xfts (xcall 89 xfts xpools xms d) (xpool xp_RX8) [] xt_X8_bitsOf (yP 1 (bQpi hp (-2147483648) 2147483647 (fun z => 0 ≤ p0 - z + 2147483648))) 85899345940 0 [(0, yI (p0))] [] hp
  have i_4 := H 8589934593
  refine yG.num (c := 0) rfl (fun _ _ => rfl) (by decide) ?_
  refine yG.store1 xik (L' := [(1, yI (0)), (0, yI (p0))]) rfl (fun _ _ => rfl) rfl rfl ?_
  refine yG.load xik rfl (fun _ _ => rfl) (v := yI (p0)) rfl rfl ?_
  refine yG.store1 xik (L' := [(2, yI (p0)), (1, yI (0)), (0, yI (p0))]) rfl (fun _ _ => rfl) rfl rfl ?_
  exact yG.mono (yG.sub (i_4 (0) (p0)     (by omega) (by omega) (by omega) (by omega) (by omega) (by omega) (by omega) (by omega) (by omega) (by omega) (by omega)) (ySub.cons rfl (ySub.cons rfl (ySub.nil)))) (by omega)
theorem c_Shape_isMachineIn_0 {hp : xH} (W : bW G) (d : Nat) (hT : zTy G hp) {k0 : Nat} (H_k0 : bRo G 51 k0) {k2 : Nat} (H_k2 : bRo G 47 k2) (p1 : Int) (h1l : 0 ≤ p1) (h1u : p1 ≤ 5) : yC (xcall 89 xfts xpools xms (d + 1)) 215 [yR k0, yI (p1), yR k2] hp (bQpi hp 0 1 (fun _ => True)) := by
  have A_hp : bAx G [] hp hp := bAx.rf hT
  refine yC.of (M := (xt_X8_isMachineIn, (3, (4, (9, []))))) rfl rfl (N := 60) (yfuel (by decide)) ?_
  show yG 89 xfts (xcall 89 xfts xpools xms d) (xpool xp_RX8) [] xt_X8_isMachineIn (yP 4 (bQpi hp 0 1 (fun _ => True))) 60 0 [(0, yR k0), (1, yI (p1)), (2, yR k2)] [] hp
  refine yG.load xak rfl (fun _ _ => rfl) (v := yR k0) rfl rfl ?_
  refine yG.getO A_hp.1 (w_Shape_on W H_k0) rfl rfl (fun r1 H_r1 O_r1 q_r1 => ?_)
  refine yG.load xik rfl (fun _ _ => rfl) (v := yI (p1)) rfl rfl ?_
  refine yG.bald A_hp.1 (v_Shape_on W H_r1) rfl (by omega) (by omega) (fun z2 e_z2 i_z2 l_z2 u_z2 => ?_)
  refine yG.ifz rfl (t := 29) rfl ⟨by omega, by omega⟩ (fun c3 => ?_) (fun c3 => ?_)
  · have c3 : (z2 : Int) = 0 := c3
    refine yG.num (c := 0) rfl (fun _ _ => rfl) (by decide) ?_
    refine yG.ret rfl (fun _ _ => rfl) ?_
    exact (yP.bool (by omega) ⟨⟨0, rfl, by omega, by omega, trivial⟩, rfl⟩)
  · have c3 : (z2 : Int) ≠ 0 := c3
    refine yG.load xak rfl (fun _ _ => rfl) (v := yR k2) rfl rfl ?_
    refine yG.load xak rfl (fun _ _ => rfl) (v := yR k0) rfl rfl ?_
    refine yG.getO A_hp.1 (w_Shape_island W H_k0) rfl rfl (fun r4 H_r4 O_r4 q_r4 => ?_)
    refine yG.load xak rfl (fun _ _ => rfl) (v := yR k0) rfl rfl ?_
    refine yG.getO A_hp.1 (w_Shape_spot W H_k0) rfl rfl (fun r5 H_r5 O_r5 q_r5 => ?_)
    refine yG.load xik rfl (fun _ _ => rfl) (v := yI (p1)) rfl rfl ?_
    refine yG.iald A_hp.1 (v_Shape_spot W H_r5) rfl (by omega) (by omega) (fun z6 e_z6 i_z6 l_z6 u_z6 => ?_)
    refine yG.ialdF A_hp.1 (v_Shape_island W H_r4) rfl rfl (by omega) (by omega) (fun z7 e_z7 i_z7 l_z7 u_z7 => ?_)
    refine yG.bald A_hp.1 (v_Flow_solvable W H_k2) rfl (by omega) (by omega) (fun z8 e_z8 i_z8 l_z8 u_z8 => ?_)
    refine yG.ifz rfl (t := 29) rfl ⟨by omega, by omega⟩ (fun c9 => ?_) (fun c9 => ?_)
    · have c9 : (z8 : Int) = 0 := c9
      refine yG.num (c := 0) rfl (fun _ _ => rfl) (by decide) ?_
      refine yG.ret rfl (fun _ _ => rfl) ?_
      exact (yP.bool (by omega) ⟨⟨0, rfl, by omega, by omega, trivial⟩, rfl⟩)
    · have c9 : (z8 : Int) ≠ 0 := c9
      refine yG.num (c := 1) rfl (fun _ _ => rfl) (by decide) ?_
      refine yG.goto rfl (t := 30) rfl ?_
      refine yG.ret rfl (fun _ _ => rfl) ?_
      exact (yP.bool (by omega) ⟨⟨1, rfl, by omega, by omega, trivial⟩, rfl⟩)
theorem c_Shape_isLineIn_0 {hp : xH} (W : bW G) (d : Nat) (hT : zTy G hp) {k0 : Nat} (H_k0 : bRo G 51 k0) {k2 : Nat} (H_k2 : bRo G 47 k2) (p1 : Int) (h1l : 0 ≤ p1) (h1u : p1 ≤ 19) : yC (xcall 89 xfts xpools xms (d + 1)) 214 [yR k0, yI (p1), yR k2] hp (bQpi hp 0 1 (fun _ => True)) := by
  have A_hp : bAx G [] hp hp := bAx.rf hT
  refine yC.of (M := (xt_X8_isLineIn, (3, (4, (9, []))))) rfl rfl (N := 66) (yfuel (by decide)) ?_
  show yG 89 xfts (xcall 89 xfts xpools xms d) (xpool xp_RX8) [] xt_X8_isLineIn (yP 4 (bQpi hp 0 1 (fun _ => True))) 66 0 [(0, yR k0), (1, yI (p1)), (2, yR k2)] [] hp
  refine yG.load xak rfl (fun _ _ => rfl) (v := yR k0) rfl rfl ?_
  refine yG.getO A_hp.1 (w_Shape_joins W H_k0) rfl rfl (fun r1 H_r1 O_r1 q_r1 => ?_)
  refine yG.load xik rfl (fun _ _ => rfl) (v := yI (p1)) rfl rfl ?_
  refine yG.bald A_hp.1 (v_Shape_joins W H_r1) rfl (by omega) (by omega) (fun z2 e_z2 i_z2 l_z2 u_z2 => ?_)
  refine yG.ifz rfl (t := 31) rfl ⟨by omega, by omega⟩ (fun c3 => ?_) (fun c3 => ?_)
  · have c3 : (z2 : Int) = 0 := c3
    refine yG.num (c := 0) rfl (fun _ _ => rfl) (by decide) ?_
    refine yG.ret rfl (fun _ _ => rfl) ?_
    exact (yP.bool (by omega) ⟨⟨0, rfl, by omega, by omega, trivial⟩, rfl⟩)
  · have c3 : (z2 : Int) ≠ 0 := c3
    refine yG.load xak rfl (fun _ _ => rfl) (v := yR k2) rfl rfl ?_
    refine yG.load xak rfl (fun _ _ => rfl) (v := yR k0) rfl rfl ?_
    refine yG.getO A_hp.1 (w_Shape_island W H_k0) rfl rfl (fun r4 H_r4 O_r4 q_r4 => ?_)
    refine yG.load xak rfl (fun _ _ => rfl) (v := yR k0) rfl rfl ?_
    refine yG.getO A_hp.1 (w_Shape_ends W H_k0) rfl rfl (fun r5 H_r5 O_r5 q_r5 => ?_)
    refine yG.load xik rfl (fun _ _ => rfl) (v := yI (p1)) rfl rfl ?_
    refine yG.aaldO (r := 57) A_hp.1 (v_Shape_ends W H_r5) rfl rfl rfl (by omega) (by omega) (fun r6 H_r6 q_r6 => ?_)
    refine yG.num (c := 0) rfl (fun _ _ => rfl) (by decide) ?_
    refine yG.iald A_hp.1 (v_Shape_endss W H_r6) rfl (by omega) (by omega) (fun z7 e_z7 i_z7 l_z7 u_z7 => ?_)
    refine yG.ialdF A_hp.1 (v_Shape_island W H_r4) rfl rfl (by omega) (by omega) (fun z8 e_z8 i_z8 l_z8 u_z8 => ?_)
    refine yG.bald A_hp.1 (v_Flow_solvable W H_k2) rfl (by omega) (by omega) (fun z9 e_z9 i_z9 l_z9 u_z9 => ?_)
    refine yG.ifz rfl (t := 31) rfl ⟨by omega, by omega⟩ (fun c10 => ?_) (fun c10 => ?_)
    · have c10 : (z9 : Int) = 0 := c10
      refine yG.num (c := 0) rfl (fun _ _ => rfl) (by decide) ?_
      refine yG.ret rfl (fun _ _ => rfl) ?_
      exact (yP.bool (by omega) ⟨⟨0, rfl, by omega, by omega, trivial⟩, rfl⟩)
    · have c10 : (z9 : Int) ≠ 0 := c10
      refine yG.num (c := 1) rfl (fun _ _ => rfl) (by decide) ?_
      refine yG.goto rfl (t := 32) rfl ?_
      refine yG.ret rfl (fun _ _ => rfl) ?_
      exact (yP.bool (by omega) ⟨⟨1, rfl, by omega, by omega, trivial⟩, rfl⟩)
theorem c_Shape_number_00 {hp : xH} (W : bW G) (d : Nat) (hT : zTy G hp) {k0 : Nat} (H_k0 : bRo G 51 k0) {k1 : Nat} (H_k1 : bRo G 47 k1) : yC (xcall 89 xfts xpools xms (d + 1)) 223 [yR k0, yR k1, yI (0)] hp (bQi G [(18014398509481984, 256)] hp 0 15 (fun _ => True)) := by
  have A_hp : bAx G [(18014398509481984, 256)] hp hp := bAx.rf hT
  have H : ∀ m : Nat, (∀ a3 : Int, ∀ a4 : Int, ∀ hq, bAx G [(18014398509481984, 256)] hp hq → 0 ≤ a3 → (-15) ≤ 0 - a3 → 1 ≤ a4 → (-16) ≤ 0 - a4 → 1 ≤ 0 - a3 + a4 → 0 - 2 * a4 + 33 < (m : Int) → yG 89 xfts (xcall 89 xfts xpools xms d) (xpool xp_RX8) [] xt_X8_number (yP 1 (bQi G [(18014398509481984, 256)] hp 0 15 (fun _ => True))) (44 * m) 5 [(0, yR k0), (1, yR k1), (2, yI (0)), (3, yI (a3)), (4, yI (a4))] [] hq) := by
    intro m
    induction m with
    | zero =>
      intros; exfalso; omega
    | succ m ih =>
      have i_5 := ih
      clear ih
      intro a3 a4 hq A_hq f0 f1 f2 f3 f4 hm
      refine yG.mono (N := 44 * m + 44) ?_ (by omega)
      refine yG.load xik rfl (fun _ _ => rfl) (v := yI (a4)) rfl rfl ?_
      refine yG.num (c := 16) rfl (fun _ _ => rfl) (by decide) ?_
      refine yG.icmp rfl (t := 116) rfl ⟨by omega, by omega⟩ ⟨by omega, by omega⟩ (fun c1 => ?_) (fun c1 => ?_)
      · have c1 : (a4 : Int) ≥ 16 := c1
        refine yG.load xik rfl (fun _ _ => rfl) (v := yI (a3)) rfl rfl ?_
        refine yG.ret rfl (fun _ _ => rfl) ?_
        exact (yP.int ⟨by omega, by omega⟩ ⟨⟨a3, rfl, by omega, by omega, trivial⟩, A_hq⟩)
      · have c1 : (a4 : Int) < 16 := c1
        refine yG.load xak rfl (fun _ _ => rfl) (v := yR k0) rfl rfl ?_
        refine yG.getO A_hq.1 (w_Shape_node W H_k0) rfl rfl (fun r2 H_r2 O_r2 q_r2 => ?_)
        refine yG.load xik rfl (fun _ _ => rfl) (v := yI (a4)) rfl rfl ?_
        refine yG.ialdF A_hq.1 (v_Shape_node W H_r2) rfl rfl (by omega) (by omega) (fun z3 e_z3 i_z3 l_z3 u_z3 => ?_)
        refine yG.load xik rfl (fun _ _ => rfl) (v := yI (a4)) rfl rfl ?_
        refine yG.icmp rfl (t := 46) rfl ⟨by omega, by omega⟩ ⟨by omega, by omega⟩ (fun c4 => ?_) (fun c4 => ?_)
        · have c4 : (z3 : Int) = a4 := c4
          refine yG.load xik rfl (fun _ _ => rfl) (v := yI (a4)) rfl rfl ?_
          refine yG.load xak rfl (fun _ _ => rfl) (v := yR k0) rfl rfl ?_
          refine yG.getO A_hq.1 (w_Shape_net W H_k0) rfl rfl (fun r5 H_r5 O_r5 q_r5 => ?_)
          refine yG.getO A_hq.1 (w_Net_count W H_r5) rfl rfl (fun r6 H_r6 O_r6 q_r6 => ?_)
          refine yG.num (c := 0) rfl (fun _ _ => rfl) (by decide) ?_
          refine yG.ialdF A_hq.1 (v_Net_count W H_r6) rfl rfl (by omega) (by omega) (fun z7 e_z7 i_z7 l_z7 u_z7 => ?_)
          refine yG.icmp rfl (t := 102) rfl ⟨by omega, by omega⟩ ⟨by omega, by omega⟩ (fun c8 => ?_) (fun c8 => ?_)
          · have c8 : (a4 : Int) ≥ z7 := c8
            refine yG.load xak rfl (fun _ _ => rfl) (v := yR k0) rfl rfl ?_
            refine yG.getO A_hq.1 (w_Shape_row W H_k0) rfl rfl (fun r9 H_r9 O_r9 q_r9 => ?_)
            refine yG.load xik rfl (fun _ _ => rfl) (v := yI (a4)) rfl rfl ?_
            refine yG.num (c := -1) rfl (fun _ _ => rfl) (by decide) ?_
            refine yG.iast A_hq.1 (v_Shape_row W H_r9) (W.2.1 _ _ H_r9 (by decide) (by decide)) rfl (by omega) (by omega) ⟨by omega, by omega⟩ (by omega) (by omega) (fun h10 T_h10 b_h10 f_h10 y_h10 => ?_)
            have A_h10 := A_hq.put T_h10 b_h10 f_h10 H_r9 (bAll_ok (by decide) _)
            have qq1 : zsl h10 k0 1 = yR r2 := ((f_h10 k0 1).trans (if_neg (fun e => (bRo.ne H_k0 H_r9 (by decide)) e.1))).trans q_r2
            have : ys h10 r2 (a4 : Int).toNat = ys hq r2 (a4 : Int).toNat := (y_h10 r2 (a4 : Int).toNat).trans (if_neg (fun e => (bRo.ne H_r2 H_r9 (by decide)) e.1))
            have qq2 : zsl h10 k0 3 = yR r9 := ((f_h10 k0 3).trans (if_neg (fun e => (bRo.ne H_k0 H_r9 (by decide)) e.1))).trans q_r9
            refine yG.iinc rfl (a := a4) rfl (L' := [(4, yI (a4 + 1)), (0, yR k0), (1, yR k1), (2, yI (0)), (3, yI (a3))]) rfl ?_
            refine yG.goto rfl (t := 5) rfl ?_
            exact yG.mono (yG.sub (i_5 (a3) (a4 + 1)  h10 A_h10   (by omega) (by omega) (by omega) (by omega) (by omega) (by omega)) (ySub.cons rfl (ySub.cons rfl (ySub.cons rfl (ySub.cons rfl (ySub.cons rfl (ySub.nil))))))) (by omega)
          · have c8 : (a4 : Int) < z7 := c8
            refine yG.load xak rfl (fun _ _ => rfl) (v := yR k1) rfl rfl ?_
            refine yG.load xak rfl (fun _ _ => rfl) (v := yR k0) rfl rfl ?_
            refine yG.getO A_hq.1 (w_Shape_island W H_k0) rfl rfl (fun r11 H_r11 O_r11 q_r11 => ?_)
            refine yG.load xik rfl (fun _ _ => rfl) (v := yI (a4)) rfl rfl ?_
            refine yG.ialdF A_hq.1 (v_Shape_island W H_r11) rfl rfl (by omega) (by omega) (fun z12 e_z12 i_z12 l_z12 u_z12 => ?_)
            refine yG.bald A_hq.1 (v_Flow_solvable W H_k1) rfl (by omega) (by omega) (fun z13 e_z13 i_z13 l_z13 u_z13 => ?_)
            refine yG.ifz rfl (t := 102) rfl ⟨by omega, by omega⟩ (fun c14 => ?_) (fun c14 => ?_)
            · have c14 : (z13 : Int) = 0 := c14
              refine yG.load xak rfl (fun _ _ => rfl) (v := yR k0) rfl rfl ?_
              refine yG.getO A_hq.1 (w_Shape_row W H_k0) rfl rfl (fun r15 H_r15 O_r15 q_r15 => ?_)
              refine yG.load xik rfl (fun _ _ => rfl) (v := yI (a4)) rfl rfl ?_
              refine yG.num (c := -1) rfl (fun _ _ => rfl) (by decide) ?_
              refine yG.iast A_hq.1 (v_Shape_row W H_r15) (W.2.1 _ _ H_r15 (by decide) (by decide)) rfl (by omega) (by omega) ⟨by omega, by omega⟩ (by omega) (by omega) (fun h16 T_h16 b_h16 f_h16 y_h16 => ?_)
              have A_h16 := A_hq.put T_h16 b_h16 f_h16 H_r15 (bAll_ok (by decide) _)
              have qq3 : zsl h16 k0 1 = yR r2 := ((f_h16 k0 1).trans (if_neg (fun e => (bRo.ne H_k0 H_r15 (by decide)) e.1))).trans q_r2
              have : ys h16 r2 (a4 : Int).toNat = ys hq r2 (a4 : Int).toNat := (y_h16 r2 (a4 : Int).toNat).trans (if_neg (fun e => (bRo.ne H_r2 H_r15 (by decide)) e.1))
              have qq4 : zsl h16 k0 2 = yR r11 := ((f_h16 k0 2).trans (if_neg (fun e => (bRo.ne H_k0 H_r15 (by decide)) e.1))).trans q_r11
              have : ys h16 r11 (a4 : Int).toNat = ys hq r11 (a4 : Int).toNat := (y_h16 r11 (a4 : Int).toNat).trans (if_neg (fun e => (bRo.ne H_r11 H_r15 (by decide)) e.1))
              have qq5 : zsl h16 k0 3 = yR r15 := ((f_h16 k0 3).trans (if_neg (fun e => (bRo.ne H_k0 H_r15 (by decide)) e.1))).trans q_r15
              refine yG.iinc rfl (a := a4) rfl (L' := [(4, yI (a4 + 1)), (0, yR k0), (1, yR k1), (2, yI (0)), (3, yI (a3))]) rfl ?_
              refine yG.goto rfl (t := 5) rfl ?_
              exact yG.mono (yG.sub (i_5 (a3) (a4 + 1)  h16 A_h16   (by omega) (by omega) (by omega) (by omega) (by omega) (by omega)) (ySub.cons rfl (ySub.cons rfl (ySub.cons rfl (ySub.cons rfl (ySub.cons rfl (ySub.nil))))))) (by omega)
            · have c14 : (z13 : Int) ≠ 0 := c14
              refine yG.load xik rfl (fun _ _ => rfl) (v := yI (0)) rfl rfl ?_
              refine yG.ifz rfl (t := 88) rfl ⟨by omega, by omega⟩ (fun c17 => ?_) (fun c17 => ?_)
              · have c17 : (0 : Int) ≠ 0 := c17
                exfalso; omega
              · have c17 : (0 : Int) = 0 := c17
                refine yG.load xak rfl (fun _ _ => rfl) (v := yR k0) rfl rfl ?_
                refine yG.getS9 A_hq.1 (w_Shape_island W H_k0) q_r11 rfl rfl ?_
                refine yG.load xik rfl (fun _ _ => rfl) (v := yI (a4)) rfl rfl ?_
                refine yG.ialdF A_hq.1 (v_Shape_island W H_r11) rfl rfl (by omega) (by omega) (fun z18 e_z18 i_z18 l_z18 u_z18 => ?_)
                refine yG.load xik rfl (fun _ _ => rfl) (v := yI (a4)) rfl rfl ?_
                refine yG.icmp rfl (t := 102) rfl ⟨by omega, by omega⟩ ⟨by omega, by omega⟩ (fun c19 => ?_) (fun c19 => ?_)
                · have c19 : (z18 : Int) = a4 := c19
                  refine yG.load xak rfl (fun _ _ => rfl) (v := yR k0) rfl rfl ?_
                  refine yG.getO A_hq.1 (w_Shape_row W H_k0) rfl rfl (fun r20 H_r20 O_r20 q_r20 => ?_)
                  refine yG.load xik rfl (fun _ _ => rfl) (v := yI (a4)) rfl rfl ?_
                  refine yG.num (c := -1) rfl (fun _ _ => rfl) (by decide) ?_
                  refine yG.iast A_hq.1 (v_Shape_row W H_r20) (W.2.1 _ _ H_r20 (by decide) (by decide)) rfl (by omega) (by omega) ⟨by omega, by omega⟩ (by omega) (by omega) (fun h21 T_h21 b_h21 f_h21 y_h21 => ?_)
                  have A_h21 := A_hq.put T_h21 b_h21 f_h21 H_r20 (bAll_ok (by decide) _)
                  have qq6 : zsl h21 k0 1 = yR r2 := ((f_h21 k0 1).trans (if_neg (fun e => (bRo.ne H_k0 H_r20 (by decide)) e.1))).trans q_r2
                  have : ys h21 r2 (a4 : Int).toNat = ys hq r2 (a4 : Int).toNat := (y_h21 r2 (a4 : Int).toNat).trans (if_neg (fun e => (bRo.ne H_r2 H_r20 (by decide)) e.1))
                  have qq7 : zsl h21 k0 2 = yR r11 := ((f_h21 k0 2).trans (if_neg (fun e => (bRo.ne H_k0 H_r20 (by decide)) e.1))).trans q_r11
                  have : ys h21 r11 (a4 : Int).toNat = ys hq r11 (a4 : Int).toNat := (y_h21 r11 (a4 : Int).toNat).trans (if_neg (fun e => (bRo.ne H_r11 H_r20 (by decide)) e.1))
                  have qq8 : zsl h21 k0 3 = yR r20 := ((f_h21 k0 3).trans (if_neg (fun e => (bRo.ne H_k0 H_r20 (by decide)) e.1))).trans q_r20
                  refine yG.iinc rfl (a := a4) rfl (L' := [(4, yI (a4 + 1)), (0, yR k0), (1, yR k1), (2, yI (0)), (3, yI (a3))]) rfl ?_
                  refine yG.goto rfl (t := 5) rfl ?_
                  exact yG.mono (yG.sub (i_5 (a3) (a4 + 1)  h21 A_h21   (by omega) (by omega) (by omega) (by omega) (by omega) (by omega)) (ySub.cons rfl (ySub.cons rfl (ySub.cons rfl (ySub.cons rfl (ySub.cons rfl (ySub.nil))))))) (by omega)
                · have c19 : (z18 : Int) ≠ a4 := c19
                  refine yG.load xak rfl (fun _ _ => rfl) (v := yR k0) rfl rfl ?_
                  refine yG.getO A_hq.1 (w_Shape_row W H_k0) rfl rfl (fun r22 H_r22 O_r22 q_r22 => ?_)
                  refine yG.load xik rfl (fun _ _ => rfl) (v := yI (a4)) rfl rfl ?_
                  refine yG.load xik rfl (fun _ _ => rfl) (v := yI (a3)) rfl rfl ?_
                  refine yG.iast A_hq.1 (v_Shape_row W H_r22) (W.2.1 _ _ H_r22 (by decide) (by decide)) rfl (by omega) (by omega) ⟨by omega, by omega⟩ (by omega) (by omega) (fun h23 T_h23 b_h23 f_h23 y_h23 => ?_)
                  have A_h23 := A_hq.put T_h23 b_h23 f_h23 H_r22 (bAll_ok (by decide) _)
                  have qq9 : zsl h23 k0 1 = yR r2 := ((f_h23 k0 1).trans (if_neg (fun e => (bRo.ne H_k0 H_r22 (by decide)) e.1))).trans q_r2
                  have : ys h23 r2 (a4 : Int).toNat = ys hq r2 (a4 : Int).toNat := (y_h23 r2 (a4 : Int).toNat).trans (if_neg (fun e => (bRo.ne H_r2 H_r22 (by decide)) e.1))
                  have qq10 : zsl h23 k0 2 = yR r11 := ((f_h23 k0 2).trans (if_neg (fun e => (bRo.ne H_k0 H_r22 (by decide)) e.1))).trans q_r11
                  have : ys h23 r11 (a4 : Int).toNat = ys hq r11 (a4 : Int).toNat := (y_h23 r11 (a4 : Int).toNat).trans (if_neg (fun e => (bRo.ne H_r11 H_r22 (by decide)) e.1))
                  have qq11 : zsl h23 k0 3 = yR r22 := ((f_h23 k0 3).trans (if_neg (fun e => (bRo.ne H_k0 H_r22 (by decide)) e.1))).trans q_r22
                  refine yG.iinc rfl (a := a3) rfl (L' := [(3, yI (a3 + 1)), (0, yR k0), (1, yR k1), (2, yI (0)), (4, yI (a4))]) rfl ?_
                  refine yG.goto rfl (t := 110) rfl ?_
                  refine yG.iinc rfl (a := a4) rfl (L' := [(4, yI (a4 + 1)), (3, yI (a3 + 1)), (0, yR k0), (1, yR k1), (2, yI (0))]) rfl ?_
                  refine yG.goto rfl (t := 5) rfl ?_
                  exact yG.mono (yG.sub (i_5 (a3 + 1) (a4 + 1)  h23 A_h23   (by omega) (by omega) (by omega) (by omega) (by omega) (by omega)) (ySub.cons rfl (ySub.cons rfl (ySub.cons rfl (ySub.cons rfl (ySub.cons rfl (ySub.nil))))))) (by omega)
        · have c4 : (z3 : Int) ≠ a4 := c4
          refine yG.load xak rfl (fun _ _ => rfl) (v := yR k0) rfl rfl ?_
          refine yG.getO A_hq.1 (w_Shape_row W H_k0) rfl rfl (fun r24 H_r24 O_r24 q_r24 => ?_)
          refine yG.load xik rfl (fun _ _ => rfl) (v := yI (a4)) rfl rfl ?_
          refine yG.load xak rfl (fun _ _ => rfl) (v := yR k0) rfl rfl ?_
          refine yG.getS9 A_hq.1 (w_Shape_row W H_k0) q_r24 rfl rfl ?_
          refine yG.load xak rfl (fun _ _ => rfl) (v := yR k0) rfl rfl ?_
          refine yG.getS9 A_hq.1 (w_Shape_node W H_k0) q_r2 rfl rfl ?_
          refine yG.load xik rfl (fun _ _ => rfl) (v := yI (a4)) rfl rfl ?_
          refine yG.ialdF A_hq.1 (v_Shape_node W H_r2) rfl rfl (by omega) (by omega) (fun z25 e_z25 i_z25 l_z25 u_z25 => ?_)
          refine yG.iald A_hq.1 (v_Shape_row W H_r24) rfl (by omega) (by omega) (fun z26 e_z26 i_z26 l_z26 u_z26 => ?_)
          refine yG.iast A_hq.1 (v_Shape_row W H_r24) (W.2.1 _ _ H_r24 (by decide) (by decide)) rfl (by omega) (by omega) ⟨by omega, by omega⟩ (by omega) (by omega) (fun h27 T_h27 b_h27 f_h27 y_h27 => ?_)
          have A_h27 := A_hq.put T_h27 b_h27 f_h27 H_r24 (bAll_ok (by decide) _)
          have qq12 : zsl h27 k0 1 = yR r2 := ((f_h27 k0 1).trans (if_neg (fun e => (bRo.ne H_k0 H_r24 (by decide)) e.1))).trans q_r2
          have : ys h27 r2 (a4 : Int).toNat = ys hq r2 (a4 : Int).toNat := (y_h27 r2 (a4 : Int).toNat).trans (if_neg (fun e => (bRo.ne H_r2 H_r24 (by decide)) e.1))
          have qq13 : zsl h27 k0 3 = yR r24 := ((f_h27 k0 3).trans (if_neg (fun e => (bRo.ne H_k0 H_r24 (by decide)) e.1))).trans q_r24
          refine yG.goto rfl (t := 110) rfl ?_
          refine yG.iinc rfl (a := a4) rfl (L' := [(4, yI (a4 + 1)), (0, yR k0), (1, yR k1), (2, yI (0)), (3, yI (a3))]) rfl ?_
          refine yG.goto rfl (t := 5) rfl ?_
          exact yG.mono (yG.sub (i_5 (a3) (a4 + 1)  h27 A_h27   (by omega) (by omega) (by omega) (by omega) (by omega) (by omega)) (ySub.cons rfl (ySub.cons rfl (ySub.cons rfl (ySub.cons rfl (ySub.cons rfl (ySub.nil))))))) (by omega)
  refine yC.of (M := (xt_X8_number, (5, (1, (9, []))))) rfl rfl (N := 1496) (yfuel (by decide)) ?_
  show yG 89 xfts (xcall 89 xfts xpools xms d) (xpool xp_RX8) [] xt_X8_number (yP 1 (bQi G [(18014398509481984, 256)] hp 0 15 (fun _ => True))) 1496 0 [(0, yR k0), (1, yR k1), (2, yI (0))] [] hp
  have i_5 := H 33
  refine yG.num (c := 0) rfl (fun _ _ => rfl) (by decide) ?_
  refine yG.store1 xik (L' := [(3, yI (0)), (0, yR k0), (1, yR k1), (2, yI (0))]) rfl (fun _ _ => rfl) rfl rfl ?_
  refine yG.num (c := 0) rfl (fun _ _ => rfl) (by decide) ?_
  refine yG.store1 xik (L' := [(4, yI (0)), (3, yI (0)), (0, yR k0), (1, yR k1), (2, yI (0))]) rfl (fun _ _ => rfl) rfl rfl ?_
  refine yG.load xik rfl (fun _ _ => rfl) (v := yI (0)) rfl rfl ?_
  refine yG.num (c := 16) rfl (fun _ _ => rfl) (by decide) ?_
  refine yG.icmp rfl (t := 116) rfl ⟨by omega, by omega⟩ ⟨by omega, by omega⟩ (fun c1 => ?_) (fun c1 => ?_)
  · have c1 : (0 : Int) ≥ 16 := c1
    exfalso; omega
  · have c1 : (0 : Int) < 16 := c1
    refine yG.load xak rfl (fun _ _ => rfl) (v := yR k0) rfl rfl ?_
    refine yG.getO A_hp.1 (w_Shape_node W H_k0) rfl rfl (fun r2 H_r2 O_r2 q_r2 => ?_)
    refine yG.load xik rfl (fun _ _ => rfl) (v := yI (0)) rfl rfl ?_
    refine yG.ialdF A_hp.1 (v_Shape_node W H_r2) rfl rfl (by omega) (by omega) (fun z3 e_z3 i_z3 l_z3 u_z3 => ?_)
    refine yG.load xik rfl (fun _ _ => rfl) (v := yI (0)) rfl rfl ?_
    refine yG.icmp rfl (t := 46) rfl ⟨by omega, by omega⟩ ⟨by omega, by omega⟩ (fun c4 => ?_) (fun c4 => ?_)
    · have c4 : (z3 : Int) = 0 := c4
      refine yG.load xik rfl (fun _ _ => rfl) (v := yI (0)) rfl rfl ?_
      refine yG.load xak rfl (fun _ _ => rfl) (v := yR k0) rfl rfl ?_
      refine yG.getO A_hp.1 (w_Shape_net W H_k0) rfl rfl (fun r5 H_r5 O_r5 q_r5 => ?_)
      refine yG.getO A_hp.1 (w_Net_count W H_r5) rfl rfl (fun r6 H_r6 O_r6 q_r6 => ?_)
      refine yG.num (c := 0) rfl (fun _ _ => rfl) (by decide) ?_
      refine yG.ialdF A_hp.1 (v_Net_count W H_r6) rfl rfl (by omega) (by omega) (fun z7 e_z7 i_z7 l_z7 u_z7 => ?_)
      refine yG.icmp rfl (t := 102) rfl ⟨by omega, by omega⟩ ⟨by omega, by omega⟩ (fun c8 => ?_) (fun c8 => ?_)
      · have c8 : (0 : Int) ≥ z7 := c8
        refine yG.load xak rfl (fun _ _ => rfl) (v := yR k0) rfl rfl ?_
        refine yG.getO A_hp.1 (w_Shape_row W H_k0) rfl rfl (fun r9 H_r9 O_r9 q_r9 => ?_)
        refine yG.load xik rfl (fun _ _ => rfl) (v := yI (0)) rfl rfl ?_
        refine yG.num (c := -1) rfl (fun _ _ => rfl) (by decide) ?_
        refine yG.iast A_hp.1 (v_Shape_row W H_r9) (W.2.1 _ _ H_r9 (by decide) (by decide)) rfl (by omega) (by omega) ⟨by omega, by omega⟩ (by omega) (by omega) (fun h10 T_h10 b_h10 f_h10 y_h10 => ?_)
        have A_h10 := A_hp.put T_h10 b_h10 f_h10 H_r9 (bAll_ok (by decide) _)
        refine yG.iinc rfl (a := 0) rfl (L' := [(4, yI (0 + 1)), (3, yI (0)), (0, yR k0), (1, yR k1), (2, yI (0))]) rfl ?_
        refine yG.goto rfl (t := 5) rfl ?_
        exact yG.mono (yG.sub (i_5 (0) (0 + 1)  h10 A_h10   (by omega) (by omega) (by omega) (by omega) (by omega) (by omega)) (ySub.cons rfl (ySub.cons rfl (ySub.cons rfl (ySub.cons rfl (ySub.cons rfl (ySub.nil))))))) (by omega)
      · have c8 : (0 : Int) < z7 := c8
        refine yG.load xak rfl (fun _ _ => rfl) (v := yR k1) rfl rfl ?_
        refine yG.load xak rfl (fun _ _ => rfl) (v := yR k0) rfl rfl ?_
        refine yG.getO A_hp.1 (w_Shape_island W H_k0) rfl rfl (fun r11 H_r11 O_r11 q_r11 => ?_)
        refine yG.load xik rfl (fun _ _ => rfl) (v := yI (0)) rfl rfl ?_
        refine yG.ialdF A_hp.1 (v_Shape_island W H_r11) rfl rfl (by omega) (by omega) (fun z12 e_z12 i_z12 l_z12 u_z12 => ?_)
        refine yG.bald A_hp.1 (v_Flow_solvable W H_k1) rfl (by omega) (by omega) (fun z13 e_z13 i_z13 l_z13 u_z13 => ?_)
        refine yG.ifz rfl (t := 102) rfl ⟨by omega, by omega⟩ (fun c14 => ?_) (fun c14 => ?_)
        · have c14 : (z13 : Int) = 0 := c14
          refine yG.load xak rfl (fun _ _ => rfl) (v := yR k0) rfl rfl ?_
          refine yG.getO A_hp.1 (w_Shape_row W H_k0) rfl rfl (fun r15 H_r15 O_r15 q_r15 => ?_)
          refine yG.load xik rfl (fun _ _ => rfl) (v := yI (0)) rfl rfl ?_
          refine yG.num (c := -1) rfl (fun _ _ => rfl) (by decide) ?_
          refine yG.iast A_hp.1 (v_Shape_row W H_r15) (W.2.1 _ _ H_r15 (by decide) (by decide)) rfl (by omega) (by omega) ⟨by omega, by omega⟩ (by omega) (by omega) (fun h16 T_h16 b_h16 f_h16 y_h16 => ?_)
          have A_h16 := A_hp.put T_h16 b_h16 f_h16 H_r15 (bAll_ok (by decide) _)
          have qq1 : zsl h16 k0 2 = yR r11 := ((f_h16 k0 2).trans (if_neg (fun e => (bRo.ne H_k0 H_r15 (by decide)) e.1))).trans q_r11
          have : ys h16 r11 (0 : Int).toNat = ys hp r11 (0 : Int).toNat := (y_h16 r11 (0 : Int).toNat).trans (if_neg (fun e => (bRo.ne H_r11 H_r15 (by decide)) e.1))
          refine yG.iinc rfl (a := 0) rfl (L' := [(4, yI (0 + 1)), (3, yI (0)), (0, yR k0), (1, yR k1), (2, yI (0))]) rfl ?_
          refine yG.goto rfl (t := 5) rfl ?_
          exact yG.mono (yG.sub (i_5 (0) (0 + 1)  h16 A_h16   (by omega) (by omega) (by omega) (by omega) (by omega) (by omega)) (ySub.cons rfl (ySub.cons rfl (ySub.cons rfl (ySub.cons rfl (ySub.cons rfl (ySub.nil))))))) (by omega)
        · have c14 : (z13 : Int) ≠ 0 := c14
          refine yG.load xik rfl (fun _ _ => rfl) (v := yI (0)) rfl rfl ?_
          refine yG.ifz rfl (t := 88) rfl ⟨by omega, by omega⟩ (fun c17 => ?_) (fun c17 => ?_)
          · have c17 : (0 : Int) ≠ 0 := c17
            exfalso; omega
          · have c17 : (0 : Int) = 0 := c17
            refine yG.load xak rfl (fun _ _ => rfl) (v := yR k0) rfl rfl ?_
            refine yG.getS9 A_hp.1 (w_Shape_island W H_k0) q_r11 rfl rfl ?_
            refine yG.load xik rfl (fun _ _ => rfl) (v := yI (0)) rfl rfl ?_
            refine yG.ialdF A_hp.1 (v_Shape_island W H_r11) rfl rfl (by omega) (by omega) (fun z18 e_z18 i_z18 l_z18 u_z18 => ?_)
            refine yG.load xik rfl (fun _ _ => rfl) (v := yI (0)) rfl rfl ?_
            refine yG.icmp rfl (t := 102) rfl ⟨by omega, by omega⟩ ⟨by omega, by omega⟩ (fun c19 => ?_) (fun c19 => ?_)
            · have c19 : (z18 : Int) = 0 := c19
              refine yG.load xak rfl (fun _ _ => rfl) (v := yR k0) rfl rfl ?_
              refine yG.getO A_hp.1 (w_Shape_row W H_k0) rfl rfl (fun r20 H_r20 O_r20 q_r20 => ?_)
              refine yG.load xik rfl (fun _ _ => rfl) (v := yI (0)) rfl rfl ?_
              refine yG.num (c := -1) rfl (fun _ _ => rfl) (by decide) ?_
              refine yG.iast A_hp.1 (v_Shape_row W H_r20) (W.2.1 _ _ H_r20 (by decide) (by decide)) rfl (by omega) (by omega) ⟨by omega, by omega⟩ (by omega) (by omega) (fun h21 T_h21 b_h21 f_h21 y_h21 => ?_)
              have A_h21 := A_hp.put T_h21 b_h21 f_h21 H_r20 (bAll_ok (by decide) _)
              have qq2 : zsl h21 k0 2 = yR r11 := ((f_h21 k0 2).trans (if_neg (fun e => (bRo.ne H_k0 H_r20 (by decide)) e.1))).trans q_r11
              have : ys h21 r11 (0 : Int).toNat = ys hp r11 (0 : Int).toNat := (y_h21 r11 (0 : Int).toNat).trans (if_neg (fun e => (bRo.ne H_r11 H_r20 (by decide)) e.1))
              refine yG.iinc rfl (a := 0) rfl (L' := [(4, yI (0 + 1)), (3, yI (0)), (0, yR k0), (1, yR k1), (2, yI (0))]) rfl ?_
              refine yG.goto rfl (t := 5) rfl ?_
              exact yG.mono (yG.sub (i_5 (0) (0 + 1)  h21 A_h21   (by omega) (by omega) (by omega) (by omega) (by omega) (by omega)) (ySub.cons rfl (ySub.cons rfl (ySub.cons rfl (ySub.cons rfl (ySub.cons rfl (ySub.nil))))))) (by omega)
            · have c19 : (z18 : Int) ≠ 0 := c19
              exfalso; omega
    · have c4 : (z3 : Int) ≠ 0 := c4
      exfalso; omega
theorem c_Shape_number_01 {hp : xH} (W : bW G) (d : Nat) (hT : zTy G hp) {k0 : Nat} (H_k0 : bRo G 51 k0) {k1 : Nat} (H_k1 : bRo G 47 k1) : yC (xcall 89 xfts xpools xms (d + 1)) 223 [yR k0, yR k1, yI (1)] hp (bQi G [(18014398509481984, 256)] hp 0 16 (fun _ => True)) := by
  have A_hp : bAx G [(18014398509481984, 256)] hp hp := bAx.rf hT
  have H : ∀ m : Nat, (∀ a3 : Int, ∀ a4 : Int, ∀ hq, bAx G [(18014398509481984, 256)] hp hq → 0 ≤ a3 → (-16) ≤ 0 - a3 → 0 ≤ a4 → (-16) ≤ 0 - a4 → 0 ≤ 0 - a3 + a4 → 0 - 2 * a4 + 33 < (m : Int) → yG 89 xfts (xcall 89 xfts xpools xms d) (xpool xp_RX8) [] xt_X8_number (yP 1 (bQi G [(18014398509481984, 256)] hp 0 16 (fun _ => True))) (36 * m) 5 [(0, yR k0), (1, yR k1), (2, yI (1)), (3, yI (a3)), (4, yI (a4))] [] hq) := by
    intro m
    induction m with
    | zero =>
      intros; exfalso; omega
    | succ m ih =>
      have i_5 := ih
      clear ih
      intro a3 a4 hq A_hq f0 f1 f2 f3 f4 hm
      refine yG.mono (N := 36 * m + 36) ?_ (by omega)
      refine yG.load xik rfl (fun _ _ => rfl) (v := yI (a4)) rfl rfl ?_
      refine yG.num (c := 16) rfl (fun _ _ => rfl) (by decide) ?_
      refine yG.icmp rfl (t := 116) rfl ⟨by omega, by omega⟩ ⟨by omega, by omega⟩ (fun c1 => ?_) (fun c1 => ?_)
      · have c1 : (a4 : Int) ≥ 16 := c1
        refine yG.load xik rfl (fun _ _ => rfl) (v := yI (a3)) rfl rfl ?_
        refine yG.ret rfl (fun _ _ => rfl) ?_
        exact (yP.int ⟨by omega, by omega⟩ ⟨⟨a3, rfl, by omega, by omega, trivial⟩, A_hq⟩)
      · have c1 : (a4 : Int) < 16 := c1
        refine yG.load xak rfl (fun _ _ => rfl) (v := yR k0) rfl rfl ?_
        refine yG.getO A_hq.1 (w_Shape_node W H_k0) rfl rfl (fun r2 H_r2 O_r2 q_r2 => ?_)
        refine yG.load xik rfl (fun _ _ => rfl) (v := yI (a4)) rfl rfl ?_
        refine yG.ialdF A_hq.1 (v_Shape_node W H_r2) rfl rfl (by omega) (by omega) (fun z3 e_z3 i_z3 l_z3 u_z3 => ?_)
        refine yG.load xik rfl (fun _ _ => rfl) (v := yI (a4)) rfl rfl ?_
        refine yG.icmp rfl (t := 46) rfl ⟨by omega, by omega⟩ ⟨by omega, by omega⟩ (fun c4 => ?_) (fun c4 => ?_)
        · have c4 : (z3 : Int) = a4 := c4
          refine yG.load xik rfl (fun _ _ => rfl) (v := yI (a4)) rfl rfl ?_
          refine yG.load xak rfl (fun _ _ => rfl) (v := yR k0) rfl rfl ?_
          refine yG.getO A_hq.1 (w_Shape_net W H_k0) rfl rfl (fun r5 H_r5 O_r5 q_r5 => ?_)
          refine yG.getO A_hq.1 (w_Net_count W H_r5) rfl rfl (fun r6 H_r6 O_r6 q_r6 => ?_)
          refine yG.num (c := 0) rfl (fun _ _ => rfl) (by decide) ?_
          refine yG.ialdF A_hq.1 (v_Net_count W H_r6) rfl rfl (by omega) (by omega) (fun z7 e_z7 i_z7 l_z7 u_z7 => ?_)
          refine yG.icmp rfl (t := 102) rfl ⟨by omega, by omega⟩ ⟨by omega, by omega⟩ (fun c8 => ?_) (fun c8 => ?_)
          · have c8 : (a4 : Int) ≥ z7 := c8
            refine yG.load xak rfl (fun _ _ => rfl) (v := yR k0) rfl rfl ?_
            refine yG.getO A_hq.1 (w_Shape_row W H_k0) rfl rfl (fun r9 H_r9 O_r9 q_r9 => ?_)
            refine yG.load xik rfl (fun _ _ => rfl) (v := yI (a4)) rfl rfl ?_
            refine yG.num (c := -1) rfl (fun _ _ => rfl) (by decide) ?_
            refine yG.iast A_hq.1 (v_Shape_row W H_r9) (W.2.1 _ _ H_r9 (by decide) (by decide)) rfl (by omega) (by omega) ⟨by omega, by omega⟩ (by omega) (by omega) (fun h10 T_h10 b_h10 f_h10 y_h10 => ?_)
            have A_h10 := A_hq.put T_h10 b_h10 f_h10 H_r9 (bAll_ok (by decide) _)
            have qq1 : zsl h10 k0 1 = yR r2 := ((f_h10 k0 1).trans (if_neg (fun e => (bRo.ne H_k0 H_r9 (by decide)) e.1))).trans q_r2
            have : ys h10 r2 (a4 : Int).toNat = ys hq r2 (a4 : Int).toNat := (y_h10 r2 (a4 : Int).toNat).trans (if_neg (fun e => (bRo.ne H_r2 H_r9 (by decide)) e.1))
            have qq2 : zsl h10 k0 3 = yR r9 := ((f_h10 k0 3).trans (if_neg (fun e => (bRo.ne H_k0 H_r9 (by decide)) e.1))).trans q_r9
            refine yG.iinc rfl (a := a4) rfl (L' := [(4, yI (a4 + 1)), (0, yR k0), (1, yR k1), (2, yI (1)), (3, yI (a3))]) rfl ?_
            refine yG.goto rfl (t := 5) rfl ?_
            exact yG.mono (yG.sub (i_5 (a3) (a4 + 1)  h10 A_h10   (by omega) (by omega) (by omega) (by omega) (by omega) (by omega)) (ySub.cons rfl (ySub.cons rfl (ySub.cons rfl (ySub.cons rfl (ySub.cons rfl (ySub.nil))))))) (by omega)
          · have c8 : (a4 : Int) < z7 := c8
            refine yG.load xak rfl (fun _ _ => rfl) (v := yR k1) rfl rfl ?_
            refine yG.load xak rfl (fun _ _ => rfl) (v := yR k0) rfl rfl ?_
            refine yG.getO A_hq.1 (w_Shape_island W H_k0) rfl rfl (fun r11 H_r11 O_r11 q_r11 => ?_)
            refine yG.load xik rfl (fun _ _ => rfl) (v := yI (a4)) rfl rfl ?_
            refine yG.ialdF A_hq.1 (v_Shape_island W H_r11) rfl rfl (by omega) (by omega) (fun z12 e_z12 i_z12 l_z12 u_z12 => ?_)
            refine yG.bald A_hq.1 (v_Flow_solvable W H_k1) rfl (by omega) (by omega) (fun z13 e_z13 i_z13 l_z13 u_z13 => ?_)
            refine yG.ifz rfl (t := 102) rfl ⟨by omega, by omega⟩ (fun c14 => ?_) (fun c14 => ?_)
            · have c14 : (z13 : Int) = 0 := c14
              refine yG.load xak rfl (fun _ _ => rfl) (v := yR k0) rfl rfl ?_
              refine yG.getO A_hq.1 (w_Shape_row W H_k0) rfl rfl (fun r15 H_r15 O_r15 q_r15 => ?_)
              refine yG.load xik rfl (fun _ _ => rfl) (v := yI (a4)) rfl rfl ?_
              refine yG.num (c := -1) rfl (fun _ _ => rfl) (by decide) ?_
              refine yG.iast A_hq.1 (v_Shape_row W H_r15) (W.2.1 _ _ H_r15 (by decide) (by decide)) rfl (by omega) (by omega) ⟨by omega, by omega⟩ (by omega) (by omega) (fun h16 T_h16 b_h16 f_h16 y_h16 => ?_)
              have A_h16 := A_hq.put T_h16 b_h16 f_h16 H_r15 (bAll_ok (by decide) _)
              have qq3 : zsl h16 k0 1 = yR r2 := ((f_h16 k0 1).trans (if_neg (fun e => (bRo.ne H_k0 H_r15 (by decide)) e.1))).trans q_r2
              have : ys h16 r2 (a4 : Int).toNat = ys hq r2 (a4 : Int).toNat := (y_h16 r2 (a4 : Int).toNat).trans (if_neg (fun e => (bRo.ne H_r2 H_r15 (by decide)) e.1))
              have qq4 : zsl h16 k0 3 = yR r15 := ((f_h16 k0 3).trans (if_neg (fun e => (bRo.ne H_k0 H_r15 (by decide)) e.1))).trans q_r15
              refine yG.iinc rfl (a := a4) rfl (L' := [(4, yI (a4 + 1)), (0, yR k0), (1, yR k1), (2, yI (1)), (3, yI (a3))]) rfl ?_
              refine yG.goto rfl (t := 5) rfl ?_
              exact yG.mono (yG.sub (i_5 (a3) (a4 + 1)  h16 A_h16   (by omega) (by omega) (by omega) (by omega) (by omega) (by omega)) (ySub.cons rfl (ySub.cons rfl (ySub.cons rfl (ySub.cons rfl (ySub.cons rfl (ySub.nil))))))) (by omega)
            · have c14 : (z13 : Int) ≠ 0 := c14
              refine yG.load xik rfl (fun _ _ => rfl) (v := yI (1)) rfl rfl ?_
              refine yG.ifz rfl (t := 88) rfl ⟨by omega, by omega⟩ (fun c17 => ?_) (fun c17 => ?_)
              · have c17 : (1 : Int) ≠ 0 := c17
                refine yG.load xak rfl (fun _ _ => rfl) (v := yR k0) rfl rfl ?_
                refine yG.getO A_hq.1 (w_Shape_row W H_k0) rfl rfl (fun r18 H_r18 O_r18 q_r18 => ?_)
                refine yG.load xik rfl (fun _ _ => rfl) (v := yI (a4)) rfl rfl ?_
                refine yG.load xik rfl (fun _ _ => rfl) (v := yI (a3)) rfl rfl ?_
                refine yG.iast A_hq.1 (v_Shape_row W H_r18) (W.2.1 _ _ H_r18 (by decide) (by decide)) rfl (by omega) (by omega) ⟨by omega, by omega⟩ (by omega) (by omega) (fun h19 T_h19 b_h19 f_h19 y_h19 => ?_)
                have A_h19 := A_hq.put T_h19 b_h19 f_h19 H_r18 (bAll_ok (by decide) _)
                have qq5 : zsl h19 k0 1 = yR r2 := ((f_h19 k0 1).trans (if_neg (fun e => (bRo.ne H_k0 H_r18 (by decide)) e.1))).trans q_r2
                have : ys h19 r2 (a4 : Int).toNat = ys hq r2 (a4 : Int).toNat := (y_h19 r2 (a4 : Int).toNat).trans (if_neg (fun e => (bRo.ne H_r2 H_r18 (by decide)) e.1))
                have qq6 : zsl h19 k0 3 = yR r18 := ((f_h19 k0 3).trans (if_neg (fun e => (bRo.ne H_k0 H_r18 (by decide)) e.1))).trans q_r18
                refine yG.iinc rfl (a := a3) rfl (L' := [(3, yI (a3 + 1)), (0, yR k0), (1, yR k1), (2, yI (1)), (4, yI (a4))]) rfl ?_
                refine yG.goto rfl (t := 110) rfl ?_
                refine yG.iinc rfl (a := a4) rfl (L' := [(4, yI (a4 + 1)), (3, yI (a3 + 1)), (0, yR k0), (1, yR k1), (2, yI (1))]) rfl ?_
                refine yG.goto rfl (t := 5) rfl ?_
                exact yG.mono (yG.sub (i_5 (a3 + 1) (a4 + 1)  h19 A_h19   (by omega) (by omega) (by omega) (by omega) (by omega) (by omega)) (ySub.cons rfl (ySub.cons rfl (ySub.cons rfl (ySub.cons rfl (ySub.cons rfl (ySub.nil))))))) (by omega)
              · have c17 : (1 : Int) = 0 := c17
                exfalso; omega
        · have c4 : (z3 : Int) ≠ a4 := c4
          refine yG.load xak rfl (fun _ _ => rfl) (v := yR k0) rfl rfl ?_
          refine yG.getO A_hq.1 (w_Shape_row W H_k0) rfl rfl (fun r20 H_r20 O_r20 q_r20 => ?_)
          refine yG.load xik rfl (fun _ _ => rfl) (v := yI (a4)) rfl rfl ?_
          refine yG.load xak rfl (fun _ _ => rfl) (v := yR k0) rfl rfl ?_
          refine yG.getS9 A_hq.1 (w_Shape_row W H_k0) q_r20 rfl rfl ?_
          refine yG.load xak rfl (fun _ _ => rfl) (v := yR k0) rfl rfl ?_
          refine yG.getS9 A_hq.1 (w_Shape_node W H_k0) q_r2 rfl rfl ?_
          refine yG.load xik rfl (fun _ _ => rfl) (v := yI (a4)) rfl rfl ?_
          refine yG.ialdF A_hq.1 (v_Shape_node W H_r2) rfl rfl (by omega) (by omega) (fun z21 e_z21 i_z21 l_z21 u_z21 => ?_)
          refine yG.iald A_hq.1 (v_Shape_row W H_r20) rfl (by omega) (by omega) (fun z22 e_z22 i_z22 l_z22 u_z22 => ?_)
          refine yG.iast A_hq.1 (v_Shape_row W H_r20) (W.2.1 _ _ H_r20 (by decide) (by decide)) rfl (by omega) (by omega) ⟨by omega, by omega⟩ (by omega) (by omega) (fun h23 T_h23 b_h23 f_h23 y_h23 => ?_)
          have A_h23 := A_hq.put T_h23 b_h23 f_h23 H_r20 (bAll_ok (by decide) _)
          have qq7 : zsl h23 k0 1 = yR r2 := ((f_h23 k0 1).trans (if_neg (fun e => (bRo.ne H_k0 H_r20 (by decide)) e.1))).trans q_r2
          have : ys h23 r2 (a4 : Int).toNat = ys hq r2 (a4 : Int).toNat := (y_h23 r2 (a4 : Int).toNat).trans (if_neg (fun e => (bRo.ne H_r2 H_r20 (by decide)) e.1))
          have qq8 : zsl h23 k0 3 = yR r20 := ((f_h23 k0 3).trans (if_neg (fun e => (bRo.ne H_k0 H_r20 (by decide)) e.1))).trans q_r20
          refine yG.goto rfl (t := 110) rfl ?_
          refine yG.iinc rfl (a := a4) rfl (L' := [(4, yI (a4 + 1)), (0, yR k0), (1, yR k1), (2, yI (1)), (3, yI (a3))]) rfl ?_
          refine yG.goto rfl (t := 5) rfl ?_
          exact yG.mono (yG.sub (i_5 (a3) (a4 + 1)  h23 A_h23   (by omega) (by omega) (by omega) (by omega) (by omega) (by omega)) (ySub.cons rfl (ySub.cons rfl (ySub.cons rfl (ySub.cons rfl (ySub.cons rfl (ySub.nil))))))) (by omega)
  refine yC.of (M := (xt_X8_number, (5, (1, (9, []))))) rfl rfl (N := 1296) (yfuel (by decide)) ?_
  show yG 89 xfts (xcall 89 xfts xpools xms d) (xpool xp_RX8) [] xt_X8_number (yP 1 (bQi G [(18014398509481984, 256)] hp 0 16 (fun _ => True))) 1296 0 [(0, yR k0), (1, yR k1), (2, yI (1))] [] hp
  have i_5 := H 35
  refine yG.num (c := 0) rfl (fun _ _ => rfl) (by decide) ?_
  refine yG.store1 xik (L' := [(3, yI (0)), (0, yR k0), (1, yR k1), (2, yI (1))]) rfl (fun _ _ => rfl) rfl rfl ?_
  refine yG.num (c := 0) rfl (fun _ _ => rfl) (by decide) ?_
  refine yG.store1 xik (L' := [(4, yI (0)), (3, yI (0)), (0, yR k0), (1, yR k1), (2, yI (1))]) rfl (fun _ _ => rfl) rfl rfl ?_
  exact yG.mono (yG.sub (i_5 (0) (0)  hp A_hp   (by omega) (by omega) (by omega) (by omega) (by omega) (by omega)) (ySub.cons rfl (ySub.cons rfl (ySub.cons rfl (ySub.cons rfl (ySub.cons rfl (ySub.nil))))))) (by omega)
theorem c_Shape_isMachineIn_1 {hp : xH} (W : bW G) (d : Nat) (hT : zTy G hp) {k0 : Nat} (H_k0 : bRo G 51 k0) {k2 : Nat} (H_k2 : bRo G 69 k2) (p1 : Int) (h1l : 0 ≤ p1) (h1u : p1 ≤ 5) : yC (xcall 89 xfts xpools xms (d + 1)) 215 [yR k0, yI (p1), yR k2] hp (bQpi hp 0 1 (fun _ => True)) := by
  have A_hp : bAx G [] hp hp := bAx.rf hT
  refine yC.of (M := (xt_X8_isMachineIn, (3, (4, (9, []))))) rfl rfl (N := 60) (yfuel (by decide)) ?_
  show yG 89 xfts (xcall 89 xfts xpools xms d) (xpool xp_RX8) [] xt_X8_isMachineIn (yP 4 (bQpi hp 0 1 (fun _ => True))) 60 0 [(0, yR k0), (1, yI (p1)), (2, yR k2)] [] hp
  refine yG.load xak rfl (fun _ _ => rfl) (v := yR k0) rfl rfl ?_
  refine yG.getO A_hp.1 (w_Shape_on W H_k0) rfl rfl (fun r1 H_r1 O_r1 q_r1 => ?_)
  refine yG.load xik rfl (fun _ _ => rfl) (v := yI (p1)) rfl rfl ?_
  refine yG.bald A_hp.1 (v_Shape_on W H_r1) rfl (by omega) (by omega) (fun z2 e_z2 i_z2 l_z2 u_z2 => ?_)
  refine yG.ifz rfl (t := 29) rfl ⟨by omega, by omega⟩ (fun c3 => ?_) (fun c3 => ?_)
  · have c3 : (z2 : Int) = 0 := c3
    refine yG.num (c := 0) rfl (fun _ _ => rfl) (by decide) ?_
    refine yG.ret rfl (fun _ _ => rfl) ?_
    exact (yP.bool (by omega) ⟨⟨0, rfl, by omega, by omega, trivial⟩, rfl⟩)
  · have c3 : (z2 : Int) ≠ 0 := c3
    refine yG.load xak rfl (fun _ _ => rfl) (v := yR k2) rfl rfl ?_
    refine yG.load xak rfl (fun _ _ => rfl) (v := yR k0) rfl rfl ?_
    refine yG.getO A_hp.1 (w_Shape_island W H_k0) rfl rfl (fun r4 H_r4 O_r4 q_r4 => ?_)
    refine yG.load xak rfl (fun _ _ => rfl) (v := yR k0) rfl rfl ?_
    refine yG.getO A_hp.1 (w_Shape_spot W H_k0) rfl rfl (fun r5 H_r5 O_r5 q_r5 => ?_)
    refine yG.load xik rfl (fun _ _ => rfl) (v := yI (p1)) rfl rfl ?_
    refine yG.iald A_hp.1 (v_Shape_spot W H_r5) rfl (by omega) (by omega) (fun z6 e_z6 i_z6 l_z6 u_z6 => ?_)
    refine yG.ialdF A_hp.1 (v_Shape_island W H_r4) rfl rfl (by omega) (by omega) (fun z7 e_z7 i_z7 l_z7 u_z7 => ?_)
    refine yG.bald A_hp.1 (v_Meters_whole W H_k2) rfl (by omega) (by omega) (fun z8 e_z8 i_z8 l_z8 u_z8 => ?_)
    refine yG.ifz rfl (t := 29) rfl ⟨by omega, by omega⟩ (fun c9 => ?_) (fun c9 => ?_)
    · have c9 : (z8 : Int) = 0 := c9
      refine yG.num (c := 0) rfl (fun _ _ => rfl) (by decide) ?_
      refine yG.ret rfl (fun _ _ => rfl) ?_
      exact (yP.bool (by omega) ⟨⟨0, rfl, by omega, by omega, trivial⟩, rfl⟩)
    · have c9 : (z8 : Int) ≠ 0 := c9
      refine yG.num (c := 1) rfl (fun _ _ => rfl) (by decide) ?_
      refine yG.goto rfl (t := 30) rfl ?_
      refine yG.ret rfl (fun _ _ => rfl) ?_
      exact (yP.bool (by omega) ⟨⟨1, rfl, by omega, by omega, trivial⟩, rfl⟩)
theorem c_Shape_isLineIn_1 {hp : xH} (W : bW G) (d : Nat) (hT : zTy G hp) {k0 : Nat} (H_k0 : bRo G 51 k0) {k2 : Nat} (H_k2 : bRo G 69 k2) (p1 : Int) (h1l : 0 ≤ p1) (h1u : p1 ≤ 19) : yC (xcall 89 xfts xpools xms (d + 1)) 214 [yR k0, yI (p1), yR k2] hp (bQpi hp 0 1 (fun _ => True)) := by
  have A_hp : bAx G [] hp hp := bAx.rf hT
  refine yC.of (M := (xt_X8_isLineIn, (3, (4, (9, []))))) rfl rfl (N := 66) (yfuel (by decide)) ?_
  show yG 89 xfts (xcall 89 xfts xpools xms d) (xpool xp_RX8) [] xt_X8_isLineIn (yP 4 (bQpi hp 0 1 (fun _ => True))) 66 0 [(0, yR k0), (1, yI (p1)), (2, yR k2)] [] hp
  refine yG.load xak rfl (fun _ _ => rfl) (v := yR k0) rfl rfl ?_
  refine yG.getO A_hp.1 (w_Shape_joins W H_k0) rfl rfl (fun r1 H_r1 O_r1 q_r1 => ?_)
  refine yG.load xik rfl (fun _ _ => rfl) (v := yI (p1)) rfl rfl ?_
  refine yG.bald A_hp.1 (v_Shape_joins W H_r1) rfl (by omega) (by omega) (fun z2 e_z2 i_z2 l_z2 u_z2 => ?_)
  refine yG.ifz rfl (t := 31) rfl ⟨by omega, by omega⟩ (fun c3 => ?_) (fun c3 => ?_)
  · have c3 : (z2 : Int) = 0 := c3
    refine yG.num (c := 0) rfl (fun _ _ => rfl) (by decide) ?_
    refine yG.ret rfl (fun _ _ => rfl) ?_
    exact (yP.bool (by omega) ⟨⟨0, rfl, by omega, by omega, trivial⟩, rfl⟩)
  · have c3 : (z2 : Int) ≠ 0 := c3
    refine yG.load xak rfl (fun _ _ => rfl) (v := yR k2) rfl rfl ?_
    refine yG.load xak rfl (fun _ _ => rfl) (v := yR k0) rfl rfl ?_
    refine yG.getO A_hp.1 (w_Shape_island W H_k0) rfl rfl (fun r4 H_r4 O_r4 q_r4 => ?_)
    refine yG.load xak rfl (fun _ _ => rfl) (v := yR k0) rfl rfl ?_
    refine yG.getO A_hp.1 (w_Shape_ends W H_k0) rfl rfl (fun r5 H_r5 O_r5 q_r5 => ?_)
    refine yG.load xik rfl (fun _ _ => rfl) (v := yI (p1)) rfl rfl ?_
    refine yG.aaldO (r := 57) A_hp.1 (v_Shape_ends W H_r5) rfl rfl rfl (by omega) (by omega) (fun r6 H_r6 q_r6 => ?_)
    refine yG.num (c := 0) rfl (fun _ _ => rfl) (by decide) ?_
    refine yG.iald A_hp.1 (v_Shape_endss W H_r6) rfl (by omega) (by omega) (fun z7 e_z7 i_z7 l_z7 u_z7 => ?_)
    refine yG.ialdF A_hp.1 (v_Shape_island W H_r4) rfl rfl (by omega) (by omega) (fun z8 e_z8 i_z8 l_z8 u_z8 => ?_)
    refine yG.bald A_hp.1 (v_Meters_whole W H_k2) rfl (by omega) (by omega) (fun z9 e_z9 i_z9 l_z9 u_z9 => ?_)
    refine yG.ifz rfl (t := 31) rfl ⟨by omega, by omega⟩ (fun c10 => ?_) (fun c10 => ?_)
    · have c10 : (z9 : Int) = 0 := c10
      refine yG.num (c := 0) rfl (fun _ _ => rfl) (by decide) ?_
      refine yG.ret rfl (fun _ _ => rfl) ?_
      exact (yP.bool (by omega) ⟨⟨0, rfl, by omega, by omega, trivial⟩, rfl⟩)
    · have c10 : (z9 : Int) ≠ 0 := c10
      refine yG.num (c := 1) rfl (fun _ _ => rfl) (by decide) ?_
      refine yG.goto rfl (t := 32) rfl ?_
      refine yG.ret rfl (fun _ _ => rfl) ?_
      exact (yP.bool (by omega) ⟨⟨1, rfl, by omega, by omega, trivial⟩, rfl⟩)
theorem c_Shape_number_10 {hp : xH} (W : bW G) (d : Nat) (hT : zTy G hp) {k0 : Nat} (H_k0 : bRo G 51 k0) {k1 : Nat} (H_k1 : bRo G 69 k1) : yC (xcall 89 xfts xpools xms (d + 1)) 223 [yR k0, yR k1, yI (0)] hp (bQi G [(18014398509481984, 256)] hp 0 15 (fun _ => True)) := by
  have A_hp : bAx G [(18014398509481984, 256)] hp hp := bAx.rf hT
  have H : ∀ m : Nat, (∀ a3 : Int, ∀ a4 : Int, ∀ hq, bAx G [(18014398509481984, 256)] hp hq → 0 ≤ a3 → (-15) ≤ 0 - a3 → 1 ≤ a4 → (-16) ≤ 0 - a4 → 1 ≤ 0 - a3 + a4 → 0 - 2 * a4 + 33 < (m : Int) → yG 89 xfts (xcall 89 xfts xpools xms d) (xpool xp_RX8) [] xt_X8_number (yP 1 (bQi G [(18014398509481984, 256)] hp 0 15 (fun _ => True))) (44 * m) 5 [(0, yR k0), (1, yR k1), (2, yI (0)), (3, yI (a3)), (4, yI (a4))] [] hq) := by
    intro m
    induction m with
    | zero =>
      intros; exfalso; omega
    | succ m ih =>
      have i_5 := ih
      clear ih
      intro a3 a4 hq A_hq f0 f1 f2 f3 f4 hm
      refine yG.mono (N := 44 * m + 44) ?_ (by omega)
      refine yG.load xik rfl (fun _ _ => rfl) (v := yI (a4)) rfl rfl ?_
      refine yG.num (c := 16) rfl (fun _ _ => rfl) (by decide) ?_
      refine yG.icmp rfl (t := 116) rfl ⟨by omega, by omega⟩ ⟨by omega, by omega⟩ (fun c1 => ?_) (fun c1 => ?_)
      · have c1 : (a4 : Int) ≥ 16 := c1
        refine yG.load xik rfl (fun _ _ => rfl) (v := yI (a3)) rfl rfl ?_
        refine yG.ret rfl (fun _ _ => rfl) ?_
        exact (yP.int ⟨by omega, by omega⟩ ⟨⟨a3, rfl, by omega, by omega, trivial⟩, A_hq⟩)
      · have c1 : (a4 : Int) < 16 := c1
        refine yG.load xak rfl (fun _ _ => rfl) (v := yR k0) rfl rfl ?_
        refine yG.getO A_hq.1 (w_Shape_node W H_k0) rfl rfl (fun r2 H_r2 O_r2 q_r2 => ?_)
        refine yG.load xik rfl (fun _ _ => rfl) (v := yI (a4)) rfl rfl ?_
        refine yG.ialdF A_hq.1 (v_Shape_node W H_r2) rfl rfl (by omega) (by omega) (fun z3 e_z3 i_z3 l_z3 u_z3 => ?_)
        refine yG.load xik rfl (fun _ _ => rfl) (v := yI (a4)) rfl rfl ?_
        refine yG.icmp rfl (t := 46) rfl ⟨by omega, by omega⟩ ⟨by omega, by omega⟩ (fun c4 => ?_) (fun c4 => ?_)
        · have c4 : (z3 : Int) = a4 := c4
          refine yG.load xik rfl (fun _ _ => rfl) (v := yI (a4)) rfl rfl ?_
          refine yG.load xak rfl (fun _ _ => rfl) (v := yR k0) rfl rfl ?_
          refine yG.getO A_hq.1 (w_Shape_net W H_k0) rfl rfl (fun r5 H_r5 O_r5 q_r5 => ?_)
          refine yG.getO A_hq.1 (w_Net_count W H_r5) rfl rfl (fun r6 H_r6 O_r6 q_r6 => ?_)
          refine yG.num (c := 0) rfl (fun _ _ => rfl) (by decide) ?_
          refine yG.ialdF A_hq.1 (v_Net_count W H_r6) rfl rfl (by omega) (by omega) (fun z7 e_z7 i_z7 l_z7 u_z7 => ?_)
          refine yG.icmp rfl (t := 102) rfl ⟨by omega, by omega⟩ ⟨by omega, by omega⟩ (fun c8 => ?_) (fun c8 => ?_)
          · have c8 : (a4 : Int) ≥ z7 := c8
            refine yG.load xak rfl (fun _ _ => rfl) (v := yR k0) rfl rfl ?_
            refine yG.getO A_hq.1 (w_Shape_row W H_k0) rfl rfl (fun r9 H_r9 O_r9 q_r9 => ?_)
            refine yG.load xik rfl (fun _ _ => rfl) (v := yI (a4)) rfl rfl ?_
            refine yG.num (c := -1) rfl (fun _ _ => rfl) (by decide) ?_
            refine yG.iast A_hq.1 (v_Shape_row W H_r9) (W.2.1 _ _ H_r9 (by decide) (by decide)) rfl (by omega) (by omega) ⟨by omega, by omega⟩ (by omega) (by omega) (fun h10 T_h10 b_h10 f_h10 y_h10 => ?_)
            have A_h10 := A_hq.put T_h10 b_h10 f_h10 H_r9 (bAll_ok (by decide) _)
            have qq1 : zsl h10 k0 1 = yR r2 := ((f_h10 k0 1).trans (if_neg (fun e => (bRo.ne H_k0 H_r9 (by decide)) e.1))).trans q_r2
            have : ys h10 r2 (a4 : Int).toNat = ys hq r2 (a4 : Int).toNat := (y_h10 r2 (a4 : Int).toNat).trans (if_neg (fun e => (bRo.ne H_r2 H_r9 (by decide)) e.1))
            have qq2 : zsl h10 k0 3 = yR r9 := ((f_h10 k0 3).trans (if_neg (fun e => (bRo.ne H_k0 H_r9 (by decide)) e.1))).trans q_r9
            refine yG.iinc rfl (a := a4) rfl (L' := [(4, yI (a4 + 1)), (0, yR k0), (1, yR k1), (2, yI (0)), (3, yI (a3))]) rfl ?_
            refine yG.goto rfl (t := 5) rfl ?_
            exact yG.mono (yG.sub (i_5 (a3) (a4 + 1)  h10 A_h10   (by omega) (by omega) (by omega) (by omega) (by omega) (by omega)) (ySub.cons rfl (ySub.cons rfl (ySub.cons rfl (ySub.cons rfl (ySub.cons rfl (ySub.nil))))))) (by omega)
          · have c8 : (a4 : Int) < z7 := c8
            refine yG.load xak rfl (fun _ _ => rfl) (v := yR k1) rfl rfl ?_
            refine yG.load xak rfl (fun _ _ => rfl) (v := yR k0) rfl rfl ?_
            refine yG.getO A_hq.1 (w_Shape_island W H_k0) rfl rfl (fun r11 H_r11 O_r11 q_r11 => ?_)
            refine yG.load xik rfl (fun _ _ => rfl) (v := yI (a4)) rfl rfl ?_
            refine yG.ialdF A_hq.1 (v_Shape_island W H_r11) rfl rfl (by omega) (by omega) (fun z12 e_z12 i_z12 l_z12 u_z12 => ?_)
            refine yG.bald A_hq.1 (v_Meters_whole W H_k1) rfl (by omega) (by omega) (fun z13 e_z13 i_z13 l_z13 u_z13 => ?_)
            refine yG.ifz rfl (t := 102) rfl ⟨by omega, by omega⟩ (fun c14 => ?_) (fun c14 => ?_)
            · have c14 : (z13 : Int) = 0 := c14
              refine yG.load xak rfl (fun _ _ => rfl) (v := yR k0) rfl rfl ?_
              refine yG.getO A_hq.1 (w_Shape_row W H_k0) rfl rfl (fun r15 H_r15 O_r15 q_r15 => ?_)
              refine yG.load xik rfl (fun _ _ => rfl) (v := yI (a4)) rfl rfl ?_
              refine yG.num (c := -1) rfl (fun _ _ => rfl) (by decide) ?_
              refine yG.iast A_hq.1 (v_Shape_row W H_r15) (W.2.1 _ _ H_r15 (by decide) (by decide)) rfl (by omega) (by omega) ⟨by omega, by omega⟩ (by omega) (by omega) (fun h16 T_h16 b_h16 f_h16 y_h16 => ?_)
              have A_h16 := A_hq.put T_h16 b_h16 f_h16 H_r15 (bAll_ok (by decide) _)
              have qq3 : zsl h16 k0 1 = yR r2 := ((f_h16 k0 1).trans (if_neg (fun e => (bRo.ne H_k0 H_r15 (by decide)) e.1))).trans q_r2
              have : ys h16 r2 (a4 : Int).toNat = ys hq r2 (a4 : Int).toNat := (y_h16 r2 (a4 : Int).toNat).trans (if_neg (fun e => (bRo.ne H_r2 H_r15 (by decide)) e.1))
              have qq4 : zsl h16 k0 2 = yR r11 := ((f_h16 k0 2).trans (if_neg (fun e => (bRo.ne H_k0 H_r15 (by decide)) e.1))).trans q_r11
              have : ys h16 r11 (a4 : Int).toNat = ys hq r11 (a4 : Int).toNat := (y_h16 r11 (a4 : Int).toNat).trans (if_neg (fun e => (bRo.ne H_r11 H_r15 (by decide)) e.1))
              have qq5 : zsl h16 k0 3 = yR r15 := ((f_h16 k0 3).trans (if_neg (fun e => (bRo.ne H_k0 H_r15 (by decide)) e.1))).trans q_r15
              refine yG.iinc rfl (a := a4) rfl (L' := [(4, yI (a4 + 1)), (0, yR k0), (1, yR k1), (2, yI (0)), (3, yI (a3))]) rfl ?_
              refine yG.goto rfl (t := 5) rfl ?_
              exact yG.mono (yG.sub (i_5 (a3) (a4 + 1)  h16 A_h16   (by omega) (by omega) (by omega) (by omega) (by omega) (by omega)) (ySub.cons rfl (ySub.cons rfl (ySub.cons rfl (ySub.cons rfl (ySub.cons rfl (ySub.nil))))))) (by omega)
            · have c14 : (z13 : Int) ≠ 0 := c14
              refine yG.load xik rfl (fun _ _ => rfl) (v := yI (0)) rfl rfl ?_
              refine yG.ifz rfl (t := 88) rfl ⟨by omega, by omega⟩ (fun c17 => ?_) (fun c17 => ?_)
              · have c17 : (0 : Int) ≠ 0 := c17
                exfalso; omega
              · have c17 : (0 : Int) = 0 := c17
                refine yG.load xak rfl (fun _ _ => rfl) (v := yR k0) rfl rfl ?_
                refine yG.getS9 A_hq.1 (w_Shape_island W H_k0) q_r11 rfl rfl ?_
                refine yG.load xik rfl (fun _ _ => rfl) (v := yI (a4)) rfl rfl ?_
                refine yG.ialdF A_hq.1 (v_Shape_island W H_r11) rfl rfl (by omega) (by omega) (fun z18 e_z18 i_z18 l_z18 u_z18 => ?_)
                refine yG.load xik rfl (fun _ _ => rfl) (v := yI (a4)) rfl rfl ?_
                refine yG.icmp rfl (t := 102) rfl ⟨by omega, by omega⟩ ⟨by omega, by omega⟩ (fun c19 => ?_) (fun c19 => ?_)
                · have c19 : (z18 : Int) = a4 := c19
                  refine yG.load xak rfl (fun _ _ => rfl) (v := yR k0) rfl rfl ?_
                  refine yG.getO A_hq.1 (w_Shape_row W H_k0) rfl rfl (fun r20 H_r20 O_r20 q_r20 => ?_)
                  refine yG.load xik rfl (fun _ _ => rfl) (v := yI (a4)) rfl rfl ?_
                  refine yG.num (c := -1) rfl (fun _ _ => rfl) (by decide) ?_
                  refine yG.iast A_hq.1 (v_Shape_row W H_r20) (W.2.1 _ _ H_r20 (by decide) (by decide)) rfl (by omega) (by omega) ⟨by omega, by omega⟩ (by omega) (by omega) (fun h21 T_h21 b_h21 f_h21 y_h21 => ?_)
                  have A_h21 := A_hq.put T_h21 b_h21 f_h21 H_r20 (bAll_ok (by decide) _)
                  have qq6 : zsl h21 k0 1 = yR r2 := ((f_h21 k0 1).trans (if_neg (fun e => (bRo.ne H_k0 H_r20 (by decide)) e.1))).trans q_r2
                  have : ys h21 r2 (a4 : Int).toNat = ys hq r2 (a4 : Int).toNat := (y_h21 r2 (a4 : Int).toNat).trans (if_neg (fun e => (bRo.ne H_r2 H_r20 (by decide)) e.1))
                  have qq7 : zsl h21 k0 2 = yR r11 := ((f_h21 k0 2).trans (if_neg (fun e => (bRo.ne H_k0 H_r20 (by decide)) e.1))).trans q_r11
                  have : ys h21 r11 (a4 : Int).toNat = ys hq r11 (a4 : Int).toNat := (y_h21 r11 (a4 : Int).toNat).trans (if_neg (fun e => (bRo.ne H_r11 H_r20 (by decide)) e.1))
                  have qq8 : zsl h21 k0 3 = yR r20 := ((f_h21 k0 3).trans (if_neg (fun e => (bRo.ne H_k0 H_r20 (by decide)) e.1))).trans q_r20
                  refine yG.iinc rfl (a := a4) rfl (L' := [(4, yI (a4 + 1)), (0, yR k0), (1, yR k1), (2, yI (0)), (3, yI (a3))]) rfl ?_
                  refine yG.goto rfl (t := 5) rfl ?_
                  exact yG.mono (yG.sub (i_5 (a3) (a4 + 1)  h21 A_h21   (by omega) (by omega) (by omega) (by omega) (by omega) (by omega)) (ySub.cons rfl (ySub.cons rfl (ySub.cons rfl (ySub.cons rfl (ySub.cons rfl (ySub.nil))))))) (by omega)
                · have c19 : (z18 : Int) ≠ a4 := c19
                  refine yG.load xak rfl (fun _ _ => rfl) (v := yR k0) rfl rfl ?_
                  refine yG.getO A_hq.1 (w_Shape_row W H_k0) rfl rfl (fun r22 H_r22 O_r22 q_r22 => ?_)
                  refine yG.load xik rfl (fun _ _ => rfl) (v := yI (a4)) rfl rfl ?_
                  refine yG.load xik rfl (fun _ _ => rfl) (v := yI (a3)) rfl rfl ?_
                  refine yG.iast A_hq.1 (v_Shape_row W H_r22) (W.2.1 _ _ H_r22 (by decide) (by decide)) rfl (by omega) (by omega) ⟨by omega, by omega⟩ (by omega) (by omega) (fun h23 T_h23 b_h23 f_h23 y_h23 => ?_)
                  have A_h23 := A_hq.put T_h23 b_h23 f_h23 H_r22 (bAll_ok (by decide) _)
                  have qq9 : zsl h23 k0 1 = yR r2 := ((f_h23 k0 1).trans (if_neg (fun e => (bRo.ne H_k0 H_r22 (by decide)) e.1))).trans q_r2
                  have : ys h23 r2 (a4 : Int).toNat = ys hq r2 (a4 : Int).toNat := (y_h23 r2 (a4 : Int).toNat).trans (if_neg (fun e => (bRo.ne H_r2 H_r22 (by decide)) e.1))
                  have qq10 : zsl h23 k0 2 = yR r11 := ((f_h23 k0 2).trans (if_neg (fun e => (bRo.ne H_k0 H_r22 (by decide)) e.1))).trans q_r11
                  have : ys h23 r11 (a4 : Int).toNat = ys hq r11 (a4 : Int).toNat := (y_h23 r11 (a4 : Int).toNat).trans (if_neg (fun e => (bRo.ne H_r11 H_r22 (by decide)) e.1))
                  have qq11 : zsl h23 k0 3 = yR r22 := ((f_h23 k0 3).trans (if_neg (fun e => (bRo.ne H_k0 H_r22 (by decide)) e.1))).trans q_r22
                  refine yG.iinc rfl (a := a3) rfl (L' := [(3, yI (a3 + 1)), (0, yR k0), (1, yR k1), (2, yI (0)), (4, yI (a4))]) rfl ?_
                  refine yG.goto rfl (t := 110) rfl ?_
                  refine yG.iinc rfl (a := a4) rfl (L' := [(4, yI (a4 + 1)), (3, yI (a3 + 1)), (0, yR k0), (1, yR k1), (2, yI (0))]) rfl ?_
                  refine yG.goto rfl (t := 5) rfl ?_
                  exact yG.mono (yG.sub (i_5 (a3 + 1) (a4 + 1)  h23 A_h23   (by omega) (by omega) (by omega) (by omega) (by omega) (by omega)) (ySub.cons rfl (ySub.cons rfl (ySub.cons rfl (ySub.cons rfl (ySub.cons rfl (ySub.nil))))))) (by omega)
        · have c4 : (z3 : Int) ≠ a4 := c4
          refine yG.load xak rfl (fun _ _ => rfl) (v := yR k0) rfl rfl ?_
          refine yG.getO A_hq.1 (w_Shape_row W H_k0) rfl rfl (fun r24 H_r24 O_r24 q_r24 => ?_)
          refine yG.load xik rfl (fun _ _ => rfl) (v := yI (a4)) rfl rfl ?_
          refine yG.load xak rfl (fun _ _ => rfl) (v := yR k0) rfl rfl ?_
          refine yG.getS9 A_hq.1 (w_Shape_row W H_k0) q_r24 rfl rfl ?_
          refine yG.load xak rfl (fun _ _ => rfl) (v := yR k0) rfl rfl ?_
          refine yG.getS9 A_hq.1 (w_Shape_node W H_k0) q_r2 rfl rfl ?_
          refine yG.load xik rfl (fun _ _ => rfl) (v := yI (a4)) rfl rfl ?_
          refine yG.ialdF A_hq.1 (v_Shape_node W H_r2) rfl rfl (by omega) (by omega) (fun z25 e_z25 i_z25 l_z25 u_z25 => ?_)
          refine yG.iald A_hq.1 (v_Shape_row W H_r24) rfl (by omega) (by omega) (fun z26 e_z26 i_z26 l_z26 u_z26 => ?_)
          refine yG.iast A_hq.1 (v_Shape_row W H_r24) (W.2.1 _ _ H_r24 (by decide) (by decide)) rfl (by omega) (by omega) ⟨by omega, by omega⟩ (by omega) (by omega) (fun h27 T_h27 b_h27 f_h27 y_h27 => ?_)
          have A_h27 := A_hq.put T_h27 b_h27 f_h27 H_r24 (bAll_ok (by decide) _)
          have qq12 : zsl h27 k0 1 = yR r2 := ((f_h27 k0 1).trans (if_neg (fun e => (bRo.ne H_k0 H_r24 (by decide)) e.1))).trans q_r2
          have : ys h27 r2 (a4 : Int).toNat = ys hq r2 (a4 : Int).toNat := (y_h27 r2 (a4 : Int).toNat).trans (if_neg (fun e => (bRo.ne H_r2 H_r24 (by decide)) e.1))
          have qq13 : zsl h27 k0 3 = yR r24 := ((f_h27 k0 3).trans (if_neg (fun e => (bRo.ne H_k0 H_r24 (by decide)) e.1))).trans q_r24
          refine yG.goto rfl (t := 110) rfl ?_
          refine yG.iinc rfl (a := a4) rfl (L' := [(4, yI (a4 + 1)), (0, yR k0), (1, yR k1), (2, yI (0)), (3, yI (a3))]) rfl ?_
          refine yG.goto rfl (t := 5) rfl ?_
          exact yG.mono (yG.sub (i_5 (a3) (a4 + 1)  h27 A_h27   (by omega) (by omega) (by omega) (by omega) (by omega) (by omega)) (ySub.cons rfl (ySub.cons rfl (ySub.cons rfl (ySub.cons rfl (ySub.cons rfl (ySub.nil))))))) (by omega)
  refine yC.of (M := (xt_X8_number, (5, (1, (9, []))))) rfl rfl (N := 1496) (yfuel (by decide)) ?_
  show yG 89 xfts (xcall 89 xfts xpools xms d) (xpool xp_RX8) [] xt_X8_number (yP 1 (bQi G [(18014398509481984, 256)] hp 0 15 (fun _ => True))) 1496 0 [(0, yR k0), (1, yR k1), (2, yI (0))] [] hp
  have i_5 := H 33
  refine yG.num (c := 0) rfl (fun _ _ => rfl) (by decide) ?_
  refine yG.store1 xik (L' := [(3, yI (0)), (0, yR k0), (1, yR k1), (2, yI (0))]) rfl (fun _ _ => rfl) rfl rfl ?_
  refine yG.num (c := 0) rfl (fun _ _ => rfl) (by decide) ?_
  refine yG.store1 xik (L' := [(4, yI (0)), (3, yI (0)), (0, yR k0), (1, yR k1), (2, yI (0))]) rfl (fun _ _ => rfl) rfl rfl ?_
  refine yG.load xik rfl (fun _ _ => rfl) (v := yI (0)) rfl rfl ?_
  refine yG.num (c := 16) rfl (fun _ _ => rfl) (by decide) ?_
  refine yG.icmp rfl (t := 116) rfl ⟨by omega, by omega⟩ ⟨by omega, by omega⟩ (fun c1 => ?_) (fun c1 => ?_)
  · have c1 : (0 : Int) ≥ 16 := c1
    exfalso; omega
  · have c1 : (0 : Int) < 16 := c1
    refine yG.load xak rfl (fun _ _ => rfl) (v := yR k0) rfl rfl ?_
    refine yG.getO A_hp.1 (w_Shape_node W H_k0) rfl rfl (fun r2 H_r2 O_r2 q_r2 => ?_)
    refine yG.load xik rfl (fun _ _ => rfl) (v := yI (0)) rfl rfl ?_
    refine yG.ialdF A_hp.1 (v_Shape_node W H_r2) rfl rfl (by omega) (by omega) (fun z3 e_z3 i_z3 l_z3 u_z3 => ?_)
    refine yG.load xik rfl (fun _ _ => rfl) (v := yI (0)) rfl rfl ?_
    refine yG.icmp rfl (t := 46) rfl ⟨by omega, by omega⟩ ⟨by omega, by omega⟩ (fun c4 => ?_) (fun c4 => ?_)
    · have c4 : (z3 : Int) = 0 := c4
      refine yG.load xik rfl (fun _ _ => rfl) (v := yI (0)) rfl rfl ?_
      refine yG.load xak rfl (fun _ _ => rfl) (v := yR k0) rfl rfl ?_
      refine yG.getO A_hp.1 (w_Shape_net W H_k0) rfl rfl (fun r5 H_r5 O_r5 q_r5 => ?_)
      refine yG.getO A_hp.1 (w_Net_count W H_r5) rfl rfl (fun r6 H_r6 O_r6 q_r6 => ?_)
      refine yG.num (c := 0) rfl (fun _ _ => rfl) (by decide) ?_
      refine yG.ialdF A_hp.1 (v_Net_count W H_r6) rfl rfl (by omega) (by omega) (fun z7 e_z7 i_z7 l_z7 u_z7 => ?_)
      refine yG.icmp rfl (t := 102) rfl ⟨by omega, by omega⟩ ⟨by omega, by omega⟩ (fun c8 => ?_) (fun c8 => ?_)
      · have c8 : (0 : Int) ≥ z7 := c8
        refine yG.load xak rfl (fun _ _ => rfl) (v := yR k0) rfl rfl ?_
        refine yG.getO A_hp.1 (w_Shape_row W H_k0) rfl rfl (fun r9 H_r9 O_r9 q_r9 => ?_)
        refine yG.load xik rfl (fun _ _ => rfl) (v := yI (0)) rfl rfl ?_
        refine yG.num (c := -1) rfl (fun _ _ => rfl) (by decide) ?_
        refine yG.iast A_hp.1 (v_Shape_row W H_r9) (W.2.1 _ _ H_r9 (by decide) (by decide)) rfl (by omega) (by omega) ⟨by omega, by omega⟩ (by omega) (by omega) (fun h10 T_h10 b_h10 f_h10 y_h10 => ?_)
        have A_h10 := A_hp.put T_h10 b_h10 f_h10 H_r9 (bAll_ok (by decide) _)
        refine yG.iinc rfl (a := 0) rfl (L' := [(4, yI (0 + 1)), (3, yI (0)), (0, yR k0), (1, yR k1), (2, yI (0))]) rfl ?_
        refine yG.goto rfl (t := 5) rfl ?_
        exact yG.mono (yG.sub (i_5 (0) (0 + 1)  h10 A_h10   (by omega) (by omega) (by omega) (by omega) (by omega) (by omega)) (ySub.cons rfl (ySub.cons rfl (ySub.cons rfl (ySub.cons rfl (ySub.cons rfl (ySub.nil))))))) (by omega)
      · have c8 : (0 : Int) < z7 := c8
        refine yG.load xak rfl (fun _ _ => rfl) (v := yR k1) rfl rfl ?_
        refine yG.load xak rfl (fun _ _ => rfl) (v := yR k0) rfl rfl ?_
        refine yG.getO A_hp.1 (w_Shape_island W H_k0) rfl rfl (fun r11 H_r11 O_r11 q_r11 => ?_)
        refine yG.load xik rfl (fun _ _ => rfl) (v := yI (0)) rfl rfl ?_
        refine yG.ialdF A_hp.1 (v_Shape_island W H_r11) rfl rfl (by omega) (by omega) (fun z12 e_z12 i_z12 l_z12 u_z12 => ?_)
        refine yG.bald A_hp.1 (v_Meters_whole W H_k1) rfl (by omega) (by omega) (fun z13 e_z13 i_z13 l_z13 u_z13 => ?_)
        refine yG.ifz rfl (t := 102) rfl ⟨by omega, by omega⟩ (fun c14 => ?_) (fun c14 => ?_)
        · have c14 : (z13 : Int) = 0 := c14
          refine yG.load xak rfl (fun _ _ => rfl) (v := yR k0) rfl rfl ?_
          refine yG.getO A_hp.1 (w_Shape_row W H_k0) rfl rfl (fun r15 H_r15 O_r15 q_r15 => ?_)
          refine yG.load xik rfl (fun _ _ => rfl) (v := yI (0)) rfl rfl ?_
          refine yG.num (c := -1) rfl (fun _ _ => rfl) (by decide) ?_
          refine yG.iast A_hp.1 (v_Shape_row W H_r15) (W.2.1 _ _ H_r15 (by decide) (by decide)) rfl (by omega) (by omega) ⟨by omega, by omega⟩ (by omega) (by omega) (fun h16 T_h16 b_h16 f_h16 y_h16 => ?_)
          have A_h16 := A_hp.put T_h16 b_h16 f_h16 H_r15 (bAll_ok (by decide) _)
          have qq1 : zsl h16 k0 2 = yR r11 := ((f_h16 k0 2).trans (if_neg (fun e => (bRo.ne H_k0 H_r15 (by decide)) e.1))).trans q_r11
          have : ys h16 r11 (0 : Int).toNat = ys hp r11 (0 : Int).toNat := (y_h16 r11 (0 : Int).toNat).trans (if_neg (fun e => (bRo.ne H_r11 H_r15 (by decide)) e.1))
          refine yG.iinc rfl (a := 0) rfl (L' := [(4, yI (0 + 1)), (3, yI (0)), (0, yR k0), (1, yR k1), (2, yI (0))]) rfl ?_
          refine yG.goto rfl (t := 5) rfl ?_
          exact yG.mono (yG.sub (i_5 (0) (0 + 1)  h16 A_h16   (by omega) (by omega) (by omega) (by omega) (by omega) (by omega)) (ySub.cons rfl (ySub.cons rfl (ySub.cons rfl (ySub.cons rfl (ySub.cons rfl (ySub.nil))))))) (by omega)
        · have c14 : (z13 : Int) ≠ 0 := c14
          refine yG.load xik rfl (fun _ _ => rfl) (v := yI (0)) rfl rfl ?_
          refine yG.ifz rfl (t := 88) rfl ⟨by omega, by omega⟩ (fun c17 => ?_) (fun c17 => ?_)
          · have c17 : (0 : Int) ≠ 0 := c17
            exfalso; omega
          · have c17 : (0 : Int) = 0 := c17
            refine yG.load xak rfl (fun _ _ => rfl) (v := yR k0) rfl rfl ?_
            refine yG.getS9 A_hp.1 (w_Shape_island W H_k0) q_r11 rfl rfl ?_
            refine yG.load xik rfl (fun _ _ => rfl) (v := yI (0)) rfl rfl ?_
            refine yG.ialdF A_hp.1 (v_Shape_island W H_r11) rfl rfl (by omega) (by omega) (fun z18 e_z18 i_z18 l_z18 u_z18 => ?_)
            refine yG.load xik rfl (fun _ _ => rfl) (v := yI (0)) rfl rfl ?_
            refine yG.icmp rfl (t := 102) rfl ⟨by omega, by omega⟩ ⟨by omega, by omega⟩ (fun c19 => ?_) (fun c19 => ?_)
            · have c19 : (z18 : Int) = 0 := c19
              refine yG.load xak rfl (fun _ _ => rfl) (v := yR k0) rfl rfl ?_
              refine yG.getO A_hp.1 (w_Shape_row W H_k0) rfl rfl (fun r20 H_r20 O_r20 q_r20 => ?_)
              refine yG.load xik rfl (fun _ _ => rfl) (v := yI (0)) rfl rfl ?_
              refine yG.num (c := -1) rfl (fun _ _ => rfl) (by decide) ?_
              refine yG.iast A_hp.1 (v_Shape_row W H_r20) (W.2.1 _ _ H_r20 (by decide) (by decide)) rfl (by omega) (by omega) ⟨by omega, by omega⟩ (by omega) (by omega) (fun h21 T_h21 b_h21 f_h21 y_h21 => ?_)
              have A_h21 := A_hp.put T_h21 b_h21 f_h21 H_r20 (bAll_ok (by decide) _)
              have qq2 : zsl h21 k0 2 = yR r11 := ((f_h21 k0 2).trans (if_neg (fun e => (bRo.ne H_k0 H_r20 (by decide)) e.1))).trans q_r11
              have : ys h21 r11 (0 : Int).toNat = ys hp r11 (0 : Int).toNat := (y_h21 r11 (0 : Int).toNat).trans (if_neg (fun e => (bRo.ne H_r11 H_r20 (by decide)) e.1))
              refine yG.iinc rfl (a := 0) rfl (L' := [(4, yI (0 + 1)), (3, yI (0)), (0, yR k0), (1, yR k1), (2, yI (0))]) rfl ?_
              refine yG.goto rfl (t := 5) rfl ?_
              exact yG.mono (yG.sub (i_5 (0) (0 + 1)  h21 A_h21   (by omega) (by omega) (by omega) (by omega) (by omega) (by omega)) (ySub.cons rfl (ySub.cons rfl (ySub.cons rfl (ySub.cons rfl (ySub.cons rfl (ySub.nil))))))) (by omega)
            · have c19 : (z18 : Int) ≠ 0 := c19
              exfalso; omega
    · have c4 : (z3 : Int) ≠ 0 := c4
      exfalso; omega
theorem c_Shape_number_11 {hp : xH} (W : bW G) (d : Nat) (hT : zTy G hp) {k0 : Nat} (H_k0 : bRo G 51 k0) {k1 : Nat} (H_k1 : bRo G 69 k1) : yC (xcall 89 xfts xpools xms (d + 1)) 223 [yR k0, yR k1, yI (1)] hp (bQi G [(18014398509481984, 256)] hp 0 16 (fun _ => True)) := by
  have A_hp : bAx G [(18014398509481984, 256)] hp hp := bAx.rf hT
  have H : ∀ m : Nat, (∀ a3 : Int, ∀ a4 : Int, ∀ hq, bAx G [(18014398509481984, 256)] hp hq → 0 ≤ a3 → (-16) ≤ 0 - a3 → 0 ≤ a4 → (-16) ≤ 0 - a4 → 0 ≤ 0 - a3 + a4 → 0 - 2 * a4 + 33 < (m : Int) → yG 89 xfts (xcall 89 xfts xpools xms d) (xpool xp_RX8) [] xt_X8_number (yP 1 (bQi G [(18014398509481984, 256)] hp 0 16 (fun _ => True))) (36 * m) 5 [(0, yR k0), (1, yR k1), (2, yI (1)), (3, yI (a3)), (4, yI (a4))] [] hq) := by
    intro m
    induction m with
    | zero =>
      intros; exfalso; omega
    | succ m ih =>
      have i_5 := ih
      clear ih
      intro a3 a4 hq A_hq f0 f1 f2 f3 f4 hm
      refine yG.mono (N := 36 * m + 36) ?_ (by omega)
      refine yG.load xik rfl (fun _ _ => rfl) (v := yI (a4)) rfl rfl ?_
      refine yG.num (c := 16) rfl (fun _ _ => rfl) (by decide) ?_
      refine yG.icmp rfl (t := 116) rfl ⟨by omega, by omega⟩ ⟨by omega, by omega⟩ (fun c1 => ?_) (fun c1 => ?_)
      · have c1 : (a4 : Int) ≥ 16 := c1
        refine yG.load xik rfl (fun _ _ => rfl) (v := yI (a3)) rfl rfl ?_
        refine yG.ret rfl (fun _ _ => rfl) ?_
        exact (yP.int ⟨by omega, by omega⟩ ⟨⟨a3, rfl, by omega, by omega, trivial⟩, A_hq⟩)
      · have c1 : (a4 : Int) < 16 := c1
        refine yG.load xak rfl (fun _ _ => rfl) (v := yR k0) rfl rfl ?_
        refine yG.getO A_hq.1 (w_Shape_node W H_k0) rfl rfl (fun r2 H_r2 O_r2 q_r2 => ?_)
        refine yG.load xik rfl (fun _ _ => rfl) (v := yI (a4)) rfl rfl ?_
        refine yG.ialdF A_hq.1 (v_Shape_node W H_r2) rfl rfl (by omega) (by omega) (fun z3 e_z3 i_z3 l_z3 u_z3 => ?_)
        refine yG.load xik rfl (fun _ _ => rfl) (v := yI (a4)) rfl rfl ?_
        refine yG.icmp rfl (t := 46) rfl ⟨by omega, by omega⟩ ⟨by omega, by omega⟩ (fun c4 => ?_) (fun c4 => ?_)
        · have c4 : (z3 : Int) = a4 := c4
          refine yG.load xik rfl (fun _ _ => rfl) (v := yI (a4)) rfl rfl ?_
          refine yG.load xak rfl (fun _ _ => rfl) (v := yR k0) rfl rfl ?_
          refine yG.getO A_hq.1 (w_Shape_net W H_k0) rfl rfl (fun r5 H_r5 O_r5 q_r5 => ?_)
          refine yG.getO A_hq.1 (w_Net_count W H_r5) rfl rfl (fun r6 H_r6 O_r6 q_r6 => ?_)
          refine yG.num (c := 0) rfl (fun _ _ => rfl) (by decide) ?_
          refine yG.ialdF A_hq.1 (v_Net_count W H_r6) rfl rfl (by omega) (by omega) (fun z7 e_z7 i_z7 l_z7 u_z7 => ?_)
          refine yG.icmp rfl (t := 102) rfl ⟨by omega, by omega⟩ ⟨by omega, by omega⟩ (fun c8 => ?_) (fun c8 => ?_)
          · have c8 : (a4 : Int) ≥ z7 := c8
            refine yG.load xak rfl (fun _ _ => rfl) (v := yR k0) rfl rfl ?_
            refine yG.getO A_hq.1 (w_Shape_row W H_k0) rfl rfl (fun r9 H_r9 O_r9 q_r9 => ?_)
            refine yG.load xik rfl (fun _ _ => rfl) (v := yI (a4)) rfl rfl ?_
            refine yG.num (c := -1) rfl (fun _ _ => rfl) (by decide) ?_
            refine yG.iast A_hq.1 (v_Shape_row W H_r9) (W.2.1 _ _ H_r9 (by decide) (by decide)) rfl (by omega) (by omega) ⟨by omega, by omega⟩ (by omega) (by omega) (fun h10 T_h10 b_h10 f_h10 y_h10 => ?_)
            have A_h10 := A_hq.put T_h10 b_h10 f_h10 H_r9 (bAll_ok (by decide) _)
            have qq1 : zsl h10 k0 1 = yR r2 := ((f_h10 k0 1).trans (if_neg (fun e => (bRo.ne H_k0 H_r9 (by decide)) e.1))).trans q_r2
            have : ys h10 r2 (a4 : Int).toNat = ys hq r2 (a4 : Int).toNat := (y_h10 r2 (a4 : Int).toNat).trans (if_neg (fun e => (bRo.ne H_r2 H_r9 (by decide)) e.1))
            have qq2 : zsl h10 k0 3 = yR r9 := ((f_h10 k0 3).trans (if_neg (fun e => (bRo.ne H_k0 H_r9 (by decide)) e.1))).trans q_r9
            refine yG.iinc rfl (a := a4) rfl (L' := [(4, yI (a4 + 1)), (0, yR k0), (1, yR k1), (2, yI (1)), (3, yI (a3))]) rfl ?_
            refine yG.goto rfl (t := 5) rfl ?_
            exact yG.mono (yG.sub (i_5 (a3) (a4 + 1)  h10 A_h10   (by omega) (by omega) (by omega) (by omega) (by omega) (by omega)) (ySub.cons rfl (ySub.cons rfl (ySub.cons rfl (ySub.cons rfl (ySub.cons rfl (ySub.nil))))))) (by omega)
          · have c8 : (a4 : Int) < z7 := c8
            refine yG.load xak rfl (fun _ _ => rfl) (v := yR k1) rfl rfl ?_
            refine yG.load xak rfl (fun _ _ => rfl) (v := yR k0) rfl rfl ?_
            refine yG.getO A_hq.1 (w_Shape_island W H_k0) rfl rfl (fun r11 H_r11 O_r11 q_r11 => ?_)
            refine yG.load xik rfl (fun _ _ => rfl) (v := yI (a4)) rfl rfl ?_
            refine yG.ialdF A_hq.1 (v_Shape_island W H_r11) rfl rfl (by omega) (by omega) (fun z12 e_z12 i_z12 l_z12 u_z12 => ?_)
            refine yG.bald A_hq.1 (v_Meters_whole W H_k1) rfl (by omega) (by omega) (fun z13 e_z13 i_z13 l_z13 u_z13 => ?_)
            refine yG.ifz rfl (t := 102) rfl ⟨by omega, by omega⟩ (fun c14 => ?_) (fun c14 => ?_)
            · have c14 : (z13 : Int) = 0 := c14
              refine yG.load xak rfl (fun _ _ => rfl) (v := yR k0) rfl rfl ?_
              refine yG.getO A_hq.1 (w_Shape_row W H_k0) rfl rfl (fun r15 H_r15 O_r15 q_r15 => ?_)
              refine yG.load xik rfl (fun _ _ => rfl) (v := yI (a4)) rfl rfl ?_
              refine yG.num (c := -1) rfl (fun _ _ => rfl) (by decide) ?_
              refine yG.iast A_hq.1 (v_Shape_row W H_r15) (W.2.1 _ _ H_r15 (by decide) (by decide)) rfl (by omega) (by omega) ⟨by omega, by omega⟩ (by omega) (by omega) (fun h16 T_h16 b_h16 f_h16 y_h16 => ?_)
              have A_h16 := A_hq.put T_h16 b_h16 f_h16 H_r15 (bAll_ok (by decide) _)
              have qq3 : zsl h16 k0 1 = yR r2 := ((f_h16 k0 1).trans (if_neg (fun e => (bRo.ne H_k0 H_r15 (by decide)) e.1))).trans q_r2
              have : ys h16 r2 (a4 : Int).toNat = ys hq r2 (a4 : Int).toNat := (y_h16 r2 (a4 : Int).toNat).trans (if_neg (fun e => (bRo.ne H_r2 H_r15 (by decide)) e.1))
              have qq4 : zsl h16 k0 3 = yR r15 := ((f_h16 k0 3).trans (if_neg (fun e => (bRo.ne H_k0 H_r15 (by decide)) e.1))).trans q_r15
              refine yG.iinc rfl (a := a4) rfl (L' := [(4, yI (a4 + 1)), (0, yR k0), (1, yR k1), (2, yI (1)), (3, yI (a3))]) rfl ?_
              refine yG.goto rfl (t := 5) rfl ?_
              exact yG.mono (yG.sub (i_5 (a3) (a4 + 1)  h16 A_h16   (by omega) (by omega) (by omega) (by omega) (by omega) (by omega)) (ySub.cons rfl (ySub.cons rfl (ySub.cons rfl (ySub.cons rfl (ySub.cons rfl (ySub.nil))))))) (by omega)
            · have c14 : (z13 : Int) ≠ 0 := c14
              refine yG.load xik rfl (fun _ _ => rfl) (v := yI (1)) rfl rfl ?_
              refine yG.ifz rfl (t := 88) rfl ⟨by omega, by omega⟩ (fun c17 => ?_) (fun c17 => ?_)
              · have c17 : (1 : Int) ≠ 0 := c17
                refine yG.load xak rfl (fun _ _ => rfl) (v := yR k0) rfl rfl ?_
                refine yG.getO A_hq.1 (w_Shape_row W H_k0) rfl rfl (fun r18 H_r18 O_r18 q_r18 => ?_)
                refine yG.load xik rfl (fun _ _ => rfl) (v := yI (a4)) rfl rfl ?_
                refine yG.load xik rfl (fun _ _ => rfl) (v := yI (a3)) rfl rfl ?_
                refine yG.iast A_hq.1 (v_Shape_row W H_r18) (W.2.1 _ _ H_r18 (by decide) (by decide)) rfl (by omega) (by omega) ⟨by omega, by omega⟩ (by omega) (by omega) (fun h19 T_h19 b_h19 f_h19 y_h19 => ?_)
                have A_h19 := A_hq.put T_h19 b_h19 f_h19 H_r18 (bAll_ok (by decide) _)
                have qq5 : zsl h19 k0 1 = yR r2 := ((f_h19 k0 1).trans (if_neg (fun e => (bRo.ne H_k0 H_r18 (by decide)) e.1))).trans q_r2
                have : ys h19 r2 (a4 : Int).toNat = ys hq r2 (a4 : Int).toNat := (y_h19 r2 (a4 : Int).toNat).trans (if_neg (fun e => (bRo.ne H_r2 H_r18 (by decide)) e.1))
                have qq6 : zsl h19 k0 3 = yR r18 := ((f_h19 k0 3).trans (if_neg (fun e => (bRo.ne H_k0 H_r18 (by decide)) e.1))).trans q_r18
                refine yG.iinc rfl (a := a3) rfl (L' := [(3, yI (a3 + 1)), (0, yR k0), (1, yR k1), (2, yI (1)), (4, yI (a4))]) rfl ?_
                refine yG.goto rfl (t := 110) rfl ?_
                refine yG.iinc rfl (a := a4) rfl (L' := [(4, yI (a4 + 1)), (3, yI (a3 + 1)), (0, yR k0), (1, yR k1), (2, yI (1))]) rfl ?_
                refine yG.goto rfl (t := 5) rfl ?_
                exact yG.mono (yG.sub (i_5 (a3 + 1) (a4 + 1)  h19 A_h19   (by omega) (by omega) (by omega) (by omega) (by omega) (by omega)) (ySub.cons rfl (ySub.cons rfl (ySub.cons rfl (ySub.cons rfl (ySub.cons rfl (ySub.nil))))))) (by omega)
              · have c17 : (1 : Int) = 0 := c17
                exfalso; omega
        · have c4 : (z3 : Int) ≠ a4 := c4
          refine yG.load xak rfl (fun _ _ => rfl) (v := yR k0) rfl rfl ?_
          refine yG.getO A_hq.1 (w_Shape_row W H_k0) rfl rfl (fun r20 H_r20 O_r20 q_r20 => ?_)
          refine yG.load xik rfl (fun _ _ => rfl) (v := yI (a4)) rfl rfl ?_
          refine yG.load xak rfl (fun _ _ => rfl) (v := yR k0) rfl rfl ?_
          refine yG.getS9 A_hq.1 (w_Shape_row W H_k0) q_r20 rfl rfl ?_
          refine yG.load xak rfl (fun _ _ => rfl) (v := yR k0) rfl rfl ?_
          refine yG.getS9 A_hq.1 (w_Shape_node W H_k0) q_r2 rfl rfl ?_
          refine yG.load xik rfl (fun _ _ => rfl) (v := yI (a4)) rfl rfl ?_
          refine yG.ialdF A_hq.1 (v_Shape_node W H_r2) rfl rfl (by omega) (by omega) (fun z21 e_z21 i_z21 l_z21 u_z21 => ?_)
          refine yG.iald A_hq.1 (v_Shape_row W H_r20) rfl (by omega) (by omega) (fun z22 e_z22 i_z22 l_z22 u_z22 => ?_)
          refine yG.iast A_hq.1 (v_Shape_row W H_r20) (W.2.1 _ _ H_r20 (by decide) (by decide)) rfl (by omega) (by omega) ⟨by omega, by omega⟩ (by omega) (by omega) (fun h23 T_h23 b_h23 f_h23 y_h23 => ?_)
          have A_h23 := A_hq.put T_h23 b_h23 f_h23 H_r20 (bAll_ok (by decide) _)
          have qq7 : zsl h23 k0 1 = yR r2 := ((f_h23 k0 1).trans (if_neg (fun e => (bRo.ne H_k0 H_r20 (by decide)) e.1))).trans q_r2
          have : ys h23 r2 (a4 : Int).toNat = ys hq r2 (a4 : Int).toNat := (y_h23 r2 (a4 : Int).toNat).trans (if_neg (fun e => (bRo.ne H_r2 H_r20 (by decide)) e.1))
          have qq8 : zsl h23 k0 3 = yR r20 := ((f_h23 k0 3).trans (if_neg (fun e => (bRo.ne H_k0 H_r20 (by decide)) e.1))).trans q_r20
          refine yG.goto rfl (t := 110) rfl ?_
          refine yG.iinc rfl (a := a4) rfl (L' := [(4, yI (a4 + 1)), (0, yR k0), (1, yR k1), (2, yI (1)), (3, yI (a3))]) rfl ?_
          refine yG.goto rfl (t := 5) rfl ?_
          exact yG.mono (yG.sub (i_5 (a3) (a4 + 1)  h23 A_h23   (by omega) (by omega) (by omega) (by omega) (by omega) (by omega)) (ySub.cons rfl (ySub.cons rfl (ySub.cons rfl (ySub.cons rfl (ySub.cons rfl (ySub.nil))))))) (by omega)
  refine yC.of (M := (xt_X8_number, (5, (1, (9, []))))) rfl rfl (N := 1296) (yfuel (by decide)) ?_
  show yG 89 xfts (xcall 89 xfts xpools xms d) (xpool xp_RX8) [] xt_X8_number (yP 1 (bQi G [(18014398509481984, 256)] hp 0 16 (fun _ => True))) 1296 0 [(0, yR k0), (1, yR k1), (2, yI (1))] [] hp
  have i_5 := H 35
  refine yG.num (c := 0) rfl (fun _ _ => rfl) (by decide) ?_
  refine yG.store1 xik (L' := [(3, yI (0)), (0, yR k0), (1, yR k1), (2, yI (1))]) rfl (fun _ _ => rfl) rfl rfl ?_
  refine yG.num (c := 0) rfl (fun _ _ => rfl) (by decide) ?_
  refine yG.store1 xik (L' := [(4, yI (0)), (3, yI (0)), (0, yR k0), (1, yR k1), (2, yI (1))]) rfl (fun _ _ => rfl) rfl rfl ?_
  exact yG.mono (yG.sub (i_5 (0) (0)  hp A_hp   (by omega) (by omega) (by omega) (by omega) (by omega) (by omega)) (ySub.cons rfl (ySub.cons rfl (ySub.cons rfl (ySub.cons rfl (ySub.cons rfl (ySub.nil))))))) (by omega)
theorem c_Shape_isMachineIn_2 {hp : xH} (W : bW G) (d : Nat) (hT : zTy G hp) {k0 : Nat} (H_k0 : bRo G 51 k0) {k2 : Nat} (H_k2 : bRo G 76 k2) (p1 : Int) (h1l : 0 ≤ p1) (h1u : p1 ≤ 5) : yC (xcall 89 xfts xpools xms (d + 1)) 215 [yR k0, yI (p1), yR k2] hp (bQpi hp 0 1 (fun _ => True)) := by
  have A_hp : bAx G [] hp hp := bAx.rf hT
  refine yC.of (M := (xt_X8_isMachineIn, (3, (4, (9, []))))) rfl rfl (N := 60) (yfuel (by decide)) ?_
  show yG 89 xfts (xcall 89 xfts xpools xms d) (xpool xp_RX8) [] xt_X8_isMachineIn (yP 4 (bQpi hp 0 1 (fun _ => True))) 60 0 [(0, yR k0), (1, yI (p1)), (2, yR k2)] [] hp
  refine yG.load xak rfl (fun _ _ => rfl) (v := yR k0) rfl rfl ?_
  refine yG.getO A_hp.1 (w_Shape_on W H_k0) rfl rfl (fun r1 H_r1 O_r1 q_r1 => ?_)
  refine yG.load xik rfl (fun _ _ => rfl) (v := yI (p1)) rfl rfl ?_
  refine yG.bald A_hp.1 (v_Shape_on W H_r1) rfl (by omega) (by omega) (fun z2 e_z2 i_z2 l_z2 u_z2 => ?_)
  refine yG.ifz rfl (t := 29) rfl ⟨by omega, by omega⟩ (fun c3 => ?_) (fun c3 => ?_)
  · have c3 : (z2 : Int) = 0 := c3
    refine yG.num (c := 0) rfl (fun _ _ => rfl) (by decide) ?_
    refine yG.ret rfl (fun _ _ => rfl) ?_
    exact (yP.bool (by omega) ⟨⟨0, rfl, by omega, by omega, trivial⟩, rfl⟩)
  · have c3 : (z2 : Int) ≠ 0 := c3
    refine yG.load xak rfl (fun _ _ => rfl) (v := yR k2) rfl rfl ?_
    refine yG.load xak rfl (fun _ _ => rfl) (v := yR k0) rfl rfl ?_
    refine yG.getO A_hp.1 (w_Shape_island W H_k0) rfl rfl (fun r4 H_r4 O_r4 q_r4 => ?_)
    refine yG.load xak rfl (fun _ _ => rfl) (v := yR k0) rfl rfl ?_
    refine yG.getO A_hp.1 (w_Shape_spot W H_k0) rfl rfl (fun r5 H_r5 O_r5 q_r5 => ?_)
    refine yG.load xik rfl (fun _ _ => rfl) (v := yI (p1)) rfl rfl ?_
    refine yG.iald A_hp.1 (v_Shape_spot W H_r5) rfl (by omega) (by omega) (fun z6 e_z6 i_z6 l_z6 u_z6 => ?_)
    refine yG.ialdF A_hp.1 (v_Shape_island W H_r4) rfl rfl (by omega) (by omega) (fun z7 e_z7 i_z7 l_z7 u_z7 => ?_)
    refine yG.bald A_hp.1 (v_Shorts_taken W H_k2) rfl (by omega) (by omega) (fun z8 e_z8 i_z8 l_z8 u_z8 => ?_)
    refine yG.ifz rfl (t := 29) rfl ⟨by omega, by omega⟩ (fun c9 => ?_) (fun c9 => ?_)
    · have c9 : (z8 : Int) = 0 := c9
      refine yG.num (c := 0) rfl (fun _ _ => rfl) (by decide) ?_
      refine yG.ret rfl (fun _ _ => rfl) ?_
      exact (yP.bool (by omega) ⟨⟨0, rfl, by omega, by omega, trivial⟩, rfl⟩)
    · have c9 : (z8 : Int) ≠ 0 := c9
      refine yG.num (c := 1) rfl (fun _ _ => rfl) (by decide) ?_
      refine yG.goto rfl (t := 30) rfl ?_
      refine yG.ret rfl (fun _ _ => rfl) ?_
      exact (yP.bool (by omega) ⟨⟨1, rfl, by omega, by omega, trivial⟩, rfl⟩)
theorem c_Shape_isLineIn_2 {hp : xH} (W : bW G) (d : Nat) (hT : zTy G hp) {k0 : Nat} (H_k0 : bRo G 51 k0) {k2 : Nat} (H_k2 : bRo G 76 k2) (p1 : Int) (h1l : 0 ≤ p1) (h1u : p1 ≤ 19) : yC (xcall 89 xfts xpools xms (d + 1)) 214 [yR k0, yI (p1), yR k2] hp (bQpi hp 0 1 (fun _ => True)) := by
  have A_hp : bAx G [] hp hp := bAx.rf hT
  refine yC.of (M := (xt_X8_isLineIn, (3, (4, (9, []))))) rfl rfl (N := 66) (yfuel (by decide)) ?_
  show yG 89 xfts (xcall 89 xfts xpools xms d) (xpool xp_RX8) [] xt_X8_isLineIn (yP 4 (bQpi hp 0 1 (fun _ => True))) 66 0 [(0, yR k0), (1, yI (p1)), (2, yR k2)] [] hp
  refine yG.load xak rfl (fun _ _ => rfl) (v := yR k0) rfl rfl ?_
  refine yG.getO A_hp.1 (w_Shape_joins W H_k0) rfl rfl (fun r1 H_r1 O_r1 q_r1 => ?_)
  refine yG.load xik rfl (fun _ _ => rfl) (v := yI (p1)) rfl rfl ?_
  refine yG.bald A_hp.1 (v_Shape_joins W H_r1) rfl (by omega) (by omega) (fun z2 e_z2 i_z2 l_z2 u_z2 => ?_)
  refine yG.ifz rfl (t := 31) rfl ⟨by omega, by omega⟩ (fun c3 => ?_) (fun c3 => ?_)
  · have c3 : (z2 : Int) = 0 := c3
    refine yG.num (c := 0) rfl (fun _ _ => rfl) (by decide) ?_
    refine yG.ret rfl (fun _ _ => rfl) ?_
    exact (yP.bool (by omega) ⟨⟨0, rfl, by omega, by omega, trivial⟩, rfl⟩)
  · have c3 : (z2 : Int) ≠ 0 := c3
    refine yG.load xak rfl (fun _ _ => rfl) (v := yR k2) rfl rfl ?_
    refine yG.load xak rfl (fun _ _ => rfl) (v := yR k0) rfl rfl ?_
    refine yG.getO A_hp.1 (w_Shape_island W H_k0) rfl rfl (fun r4 H_r4 O_r4 q_r4 => ?_)
    refine yG.load xak rfl (fun _ _ => rfl) (v := yR k0) rfl rfl ?_
    refine yG.getO A_hp.1 (w_Shape_ends W H_k0) rfl rfl (fun r5 H_r5 O_r5 q_r5 => ?_)
    refine yG.load xik rfl (fun _ _ => rfl) (v := yI (p1)) rfl rfl ?_
    refine yG.aaldO (r := 57) A_hp.1 (v_Shape_ends W H_r5) rfl rfl rfl (by omega) (by omega) (fun r6 H_r6 q_r6 => ?_)
    refine yG.num (c := 0) rfl (fun _ _ => rfl) (by decide) ?_
    refine yG.iald A_hp.1 (v_Shape_endss W H_r6) rfl (by omega) (by omega) (fun z7 e_z7 i_z7 l_z7 u_z7 => ?_)
    refine yG.ialdF A_hp.1 (v_Shape_island W H_r4) rfl rfl (by omega) (by omega) (fun z8 e_z8 i_z8 l_z8 u_z8 => ?_)
    refine yG.bald A_hp.1 (v_Shorts_taken W H_k2) rfl (by omega) (by omega) (fun z9 e_z9 i_z9 l_z9 u_z9 => ?_)
    refine yG.ifz rfl (t := 31) rfl ⟨by omega, by omega⟩ (fun c10 => ?_) (fun c10 => ?_)
    · have c10 : (z9 : Int) = 0 := c10
      refine yG.num (c := 0) rfl (fun _ _ => rfl) (by decide) ?_
      refine yG.ret rfl (fun _ _ => rfl) ?_
      exact (yP.bool (by omega) ⟨⟨0, rfl, by omega, by omega, trivial⟩, rfl⟩)
    · have c10 : (z9 : Int) ≠ 0 := c10
      refine yG.num (c := 1) rfl (fun _ _ => rfl) (by decide) ?_
      refine yG.goto rfl (t := 32) rfl ?_
      refine yG.ret rfl (fun _ _ => rfl) ?_
      exact (yP.bool (by omega) ⟨⟨1, rfl, by omega, by omega, trivial⟩, rfl⟩)
theorem c_Shape_number_20 {hp : xH} (W : bW G) (d : Nat) (hT : zTy G hp) {k0 : Nat} (H_k0 : bRo G 51 k0) {k1 : Nat} (H_k1 : bRo G 76 k1) : yC (xcall 89 xfts xpools xms (d + 1)) 223 [yR k0, yR k1, yI (0)] hp (bQi G [(18014398509481984, 256)] hp 0 15 (fun _ => True)) := by
  have A_hp : bAx G [(18014398509481984, 256)] hp hp := bAx.rf hT
  have H : ∀ m : Nat, (∀ a3 : Int, ∀ a4 : Int, ∀ hq, bAx G [(18014398509481984, 256)] hp hq → 0 ≤ a3 → (-15) ≤ 0 - a3 → 1 ≤ a4 → (-16) ≤ 0 - a4 → 1 ≤ 0 - a3 + a4 → 0 - 2 * a4 + 33 < (m : Int) → yG 89 xfts (xcall 89 xfts xpools xms d) (xpool xp_RX8) [] xt_X8_number (yP 1 (bQi G [(18014398509481984, 256)] hp 0 15 (fun _ => True))) (44 * m) 5 [(0, yR k0), (1, yR k1), (2, yI (0)), (3, yI (a3)), (4, yI (a4))] [] hq) := by
    intro m
    induction m with
    | zero =>
      intros; exfalso; omega
    | succ m ih =>
      have i_5 := ih
      clear ih
      intro a3 a4 hq A_hq f0 f1 f2 f3 f4 hm
      refine yG.mono (N := 44 * m + 44) ?_ (by omega)
      refine yG.load xik rfl (fun _ _ => rfl) (v := yI (a4)) rfl rfl ?_
      refine yG.num (c := 16) rfl (fun _ _ => rfl) (by decide) ?_
      refine yG.icmp rfl (t := 116) rfl ⟨by omega, by omega⟩ ⟨by omega, by omega⟩ (fun c1 => ?_) (fun c1 => ?_)
      · have c1 : (a4 : Int) ≥ 16 := c1
        refine yG.load xik rfl (fun _ _ => rfl) (v := yI (a3)) rfl rfl ?_
        refine yG.ret rfl (fun _ _ => rfl) ?_
        exact (yP.int ⟨by omega, by omega⟩ ⟨⟨a3, rfl, by omega, by omega, trivial⟩, A_hq⟩)
      · have c1 : (a4 : Int) < 16 := c1
        refine yG.load xak rfl (fun _ _ => rfl) (v := yR k0) rfl rfl ?_
        refine yG.getO A_hq.1 (w_Shape_node W H_k0) rfl rfl (fun r2 H_r2 O_r2 q_r2 => ?_)
        refine yG.load xik rfl (fun _ _ => rfl) (v := yI (a4)) rfl rfl ?_
        refine yG.ialdF A_hq.1 (v_Shape_node W H_r2) rfl rfl (by omega) (by omega) (fun z3 e_z3 i_z3 l_z3 u_z3 => ?_)
        refine yG.load xik rfl (fun _ _ => rfl) (v := yI (a4)) rfl rfl ?_
        refine yG.icmp rfl (t := 46) rfl ⟨by omega, by omega⟩ ⟨by omega, by omega⟩ (fun c4 => ?_) (fun c4 => ?_)
        · have c4 : (z3 : Int) = a4 := c4
          refine yG.load xik rfl (fun _ _ => rfl) (v := yI (a4)) rfl rfl ?_
          refine yG.load xak rfl (fun _ _ => rfl) (v := yR k0) rfl rfl ?_
          refine yG.getO A_hq.1 (w_Shape_net W H_k0) rfl rfl (fun r5 H_r5 O_r5 q_r5 => ?_)
          refine yG.getO A_hq.1 (w_Net_count W H_r5) rfl rfl (fun r6 H_r6 O_r6 q_r6 => ?_)
          refine yG.num (c := 0) rfl (fun _ _ => rfl) (by decide) ?_
          refine yG.ialdF A_hq.1 (v_Net_count W H_r6) rfl rfl (by omega) (by omega) (fun z7 e_z7 i_z7 l_z7 u_z7 => ?_)
          refine yG.icmp rfl (t := 102) rfl ⟨by omega, by omega⟩ ⟨by omega, by omega⟩ (fun c8 => ?_) (fun c8 => ?_)
          · have c8 : (a4 : Int) ≥ z7 := c8
            refine yG.load xak rfl (fun _ _ => rfl) (v := yR k0) rfl rfl ?_
            refine yG.getO A_hq.1 (w_Shape_row W H_k0) rfl rfl (fun r9 H_r9 O_r9 q_r9 => ?_)
            refine yG.load xik rfl (fun _ _ => rfl) (v := yI (a4)) rfl rfl ?_
            refine yG.num (c := -1) rfl (fun _ _ => rfl) (by decide) ?_
            refine yG.iast A_hq.1 (v_Shape_row W H_r9) (W.2.1 _ _ H_r9 (by decide) (by decide)) rfl (by omega) (by omega) ⟨by omega, by omega⟩ (by omega) (by omega) (fun h10 T_h10 b_h10 f_h10 y_h10 => ?_)
            have A_h10 := A_hq.put T_h10 b_h10 f_h10 H_r9 (bAll_ok (by decide) _)
            have qq1 : zsl h10 k0 1 = yR r2 := ((f_h10 k0 1).trans (if_neg (fun e => (bRo.ne H_k0 H_r9 (by decide)) e.1))).trans q_r2
            have : ys h10 r2 (a4 : Int).toNat = ys hq r2 (a4 : Int).toNat := (y_h10 r2 (a4 : Int).toNat).trans (if_neg (fun e => (bRo.ne H_r2 H_r9 (by decide)) e.1))
            have qq2 : zsl h10 k0 3 = yR r9 := ((f_h10 k0 3).trans (if_neg (fun e => (bRo.ne H_k0 H_r9 (by decide)) e.1))).trans q_r9
            refine yG.iinc rfl (a := a4) rfl (L' := [(4, yI (a4 + 1)), (0, yR k0), (1, yR k1), (2, yI (0)), (3, yI (a3))]) rfl ?_
            refine yG.goto rfl (t := 5) rfl ?_
            exact yG.mono (yG.sub (i_5 (a3) (a4 + 1)  h10 A_h10   (by omega) (by omega) (by omega) (by omega) (by omega) (by omega)) (ySub.cons rfl (ySub.cons rfl (ySub.cons rfl (ySub.cons rfl (ySub.cons rfl (ySub.nil))))))) (by omega)
          · have c8 : (a4 : Int) < z7 := c8
            refine yG.load xak rfl (fun _ _ => rfl) (v := yR k1) rfl rfl ?_
            refine yG.load xak rfl (fun _ _ => rfl) (v := yR k0) rfl rfl ?_
            refine yG.getO A_hq.1 (w_Shape_island W H_k0) rfl rfl (fun r11 H_r11 O_r11 q_r11 => ?_)
            refine yG.load xik rfl (fun _ _ => rfl) (v := yI (a4)) rfl rfl ?_
            refine yG.ialdF A_hq.1 (v_Shape_island W H_r11) rfl rfl (by omega) (by omega) (fun z12 e_z12 i_z12 l_z12 u_z12 => ?_)
            refine yG.bald A_hq.1 (v_Shorts_taken W H_k1) rfl (by omega) (by omega) (fun z13 e_z13 i_z13 l_z13 u_z13 => ?_)
            refine yG.ifz rfl (t := 102) rfl ⟨by omega, by omega⟩ (fun c14 => ?_) (fun c14 => ?_)
            · have c14 : (z13 : Int) = 0 := c14
              refine yG.load xak rfl (fun _ _ => rfl) (v := yR k0) rfl rfl ?_
              refine yG.getO A_hq.1 (w_Shape_row W H_k0) rfl rfl (fun r15 H_r15 O_r15 q_r15 => ?_)
              refine yG.load xik rfl (fun _ _ => rfl) (v := yI (a4)) rfl rfl ?_
              refine yG.num (c := -1) rfl (fun _ _ => rfl) (by decide) ?_
              refine yG.iast A_hq.1 (v_Shape_row W H_r15) (W.2.1 _ _ H_r15 (by decide) (by decide)) rfl (by omega) (by omega) ⟨by omega, by omega⟩ (by omega) (by omega) (fun h16 T_h16 b_h16 f_h16 y_h16 => ?_)
              have A_h16 := A_hq.put T_h16 b_h16 f_h16 H_r15 (bAll_ok (by decide) _)
              have qq3 : zsl h16 k0 1 = yR r2 := ((f_h16 k0 1).trans (if_neg (fun e => (bRo.ne H_k0 H_r15 (by decide)) e.1))).trans q_r2
              have : ys h16 r2 (a4 : Int).toNat = ys hq r2 (a4 : Int).toNat := (y_h16 r2 (a4 : Int).toNat).trans (if_neg (fun e => (bRo.ne H_r2 H_r15 (by decide)) e.1))
              have qq4 : zsl h16 k0 2 = yR r11 := ((f_h16 k0 2).trans (if_neg (fun e => (bRo.ne H_k0 H_r15 (by decide)) e.1))).trans q_r11
              have : ys h16 r11 (a4 : Int).toNat = ys hq r11 (a4 : Int).toNat := (y_h16 r11 (a4 : Int).toNat).trans (if_neg (fun e => (bRo.ne H_r11 H_r15 (by decide)) e.1))
              have qq5 : zsl h16 k0 3 = yR r15 := ((f_h16 k0 3).trans (if_neg (fun e => (bRo.ne H_k0 H_r15 (by decide)) e.1))).trans q_r15
              refine yG.iinc rfl (a := a4) rfl (L' := [(4, yI (a4 + 1)), (0, yR k0), (1, yR k1), (2, yI (0)), (3, yI (a3))]) rfl ?_
              refine yG.goto rfl (t := 5) rfl ?_
              exact yG.mono (yG.sub (i_5 (a3) (a4 + 1)  h16 A_h16   (by omega) (by omega) (by omega) (by omega) (by omega) (by omega)) (ySub.cons rfl (ySub.cons rfl (ySub.cons rfl (ySub.cons rfl (ySub.cons rfl (ySub.nil))))))) (by omega)
            · have c14 : (z13 : Int) ≠ 0 := c14
              refine yG.load xik rfl (fun _ _ => rfl) (v := yI (0)) rfl rfl ?_
              refine yG.ifz rfl (t := 88) rfl ⟨by omega, by omega⟩ (fun c17 => ?_) (fun c17 => ?_)
              · have c17 : (0 : Int) ≠ 0 := c17
                exfalso; omega
              · have c17 : (0 : Int) = 0 := c17
                refine yG.load xak rfl (fun _ _ => rfl) (v := yR k0) rfl rfl ?_
                refine yG.getS9 A_hq.1 (w_Shape_island W H_k0) q_r11 rfl rfl ?_
                refine yG.load xik rfl (fun _ _ => rfl) (v := yI (a4)) rfl rfl ?_
                refine yG.ialdF A_hq.1 (v_Shape_island W H_r11) rfl rfl (by omega) (by omega) (fun z18 e_z18 i_z18 l_z18 u_z18 => ?_)
                refine yG.load xik rfl (fun _ _ => rfl) (v := yI (a4)) rfl rfl ?_
                refine yG.icmp rfl (t := 102) rfl ⟨by omega, by omega⟩ ⟨by omega, by omega⟩ (fun c19 => ?_) (fun c19 => ?_)
                · have c19 : (z18 : Int) = a4 := c19
                  refine yG.load xak rfl (fun _ _ => rfl) (v := yR k0) rfl rfl ?_
                  refine yG.getO A_hq.1 (w_Shape_row W H_k0) rfl rfl (fun r20 H_r20 O_r20 q_r20 => ?_)
                  refine yG.load xik rfl (fun _ _ => rfl) (v := yI (a4)) rfl rfl ?_
                  refine yG.num (c := -1) rfl (fun _ _ => rfl) (by decide) ?_
                  refine yG.iast A_hq.1 (v_Shape_row W H_r20) (W.2.1 _ _ H_r20 (by decide) (by decide)) rfl (by omega) (by omega) ⟨by omega, by omega⟩ (by omega) (by omega) (fun h21 T_h21 b_h21 f_h21 y_h21 => ?_)
                  have A_h21 := A_hq.put T_h21 b_h21 f_h21 H_r20 (bAll_ok (by decide) _)
                  have qq6 : zsl h21 k0 1 = yR r2 := ((f_h21 k0 1).trans (if_neg (fun e => (bRo.ne H_k0 H_r20 (by decide)) e.1))).trans q_r2
                  have : ys h21 r2 (a4 : Int).toNat = ys hq r2 (a4 : Int).toNat := (y_h21 r2 (a4 : Int).toNat).trans (if_neg (fun e => (bRo.ne H_r2 H_r20 (by decide)) e.1))
                  have qq7 : zsl h21 k0 2 = yR r11 := ((f_h21 k0 2).trans (if_neg (fun e => (bRo.ne H_k0 H_r20 (by decide)) e.1))).trans q_r11
                  have : ys h21 r11 (a4 : Int).toNat = ys hq r11 (a4 : Int).toNat := (y_h21 r11 (a4 : Int).toNat).trans (if_neg (fun e => (bRo.ne H_r11 H_r20 (by decide)) e.1))
                  have qq8 : zsl h21 k0 3 = yR r20 := ((f_h21 k0 3).trans (if_neg (fun e => (bRo.ne H_k0 H_r20 (by decide)) e.1))).trans q_r20
                  refine yG.iinc rfl (a := a4) rfl (L' := [(4, yI (a4 + 1)), (0, yR k0), (1, yR k1), (2, yI (0)), (3, yI (a3))]) rfl ?_
                  refine yG.goto rfl (t := 5) rfl ?_
                  exact yG.mono (yG.sub (i_5 (a3) (a4 + 1)  h21 A_h21   (by omega) (by omega) (by omega) (by omega) (by omega) (by omega)) (ySub.cons rfl (ySub.cons rfl (ySub.cons rfl (ySub.cons rfl (ySub.cons rfl (ySub.nil))))))) (by omega)
                · have c19 : (z18 : Int) ≠ a4 := c19
                  refine yG.load xak rfl (fun _ _ => rfl) (v := yR k0) rfl rfl ?_
                  refine yG.getO A_hq.1 (w_Shape_row W H_k0) rfl rfl (fun r22 H_r22 O_r22 q_r22 => ?_)
                  refine yG.load xik rfl (fun _ _ => rfl) (v := yI (a4)) rfl rfl ?_
                  refine yG.load xik rfl (fun _ _ => rfl) (v := yI (a3)) rfl rfl ?_
                  refine yG.iast A_hq.1 (v_Shape_row W H_r22) (W.2.1 _ _ H_r22 (by decide) (by decide)) rfl (by omega) (by omega) ⟨by omega, by omega⟩ (by omega) (by omega) (fun h23 T_h23 b_h23 f_h23 y_h23 => ?_)
                  have A_h23 := A_hq.put T_h23 b_h23 f_h23 H_r22 (bAll_ok (by decide) _)
                  have qq9 : zsl h23 k0 1 = yR r2 := ((f_h23 k0 1).trans (if_neg (fun e => (bRo.ne H_k0 H_r22 (by decide)) e.1))).trans q_r2
                  have : ys h23 r2 (a4 : Int).toNat = ys hq r2 (a4 : Int).toNat := (y_h23 r2 (a4 : Int).toNat).trans (if_neg (fun e => (bRo.ne H_r2 H_r22 (by decide)) e.1))
                  have qq10 : zsl h23 k0 2 = yR r11 := ((f_h23 k0 2).trans (if_neg (fun e => (bRo.ne H_k0 H_r22 (by decide)) e.1))).trans q_r11
                  have : ys h23 r11 (a4 : Int).toNat = ys hq r11 (a4 : Int).toNat := (y_h23 r11 (a4 : Int).toNat).trans (if_neg (fun e => (bRo.ne H_r11 H_r22 (by decide)) e.1))
                  have qq11 : zsl h23 k0 3 = yR r22 := ((f_h23 k0 3).trans (if_neg (fun e => (bRo.ne H_k0 H_r22 (by decide)) e.1))).trans q_r22
                  refine yG.iinc rfl (a := a3) rfl (L' := [(3, yI (a3 + 1)), (0, yR k0), (1, yR k1), (2, yI (0)), (4, yI (a4))]) rfl ?_
                  refine yG.goto rfl (t := 110) rfl ?_
                  refine yG.iinc rfl (a := a4) rfl (L' := [(4, yI (a4 + 1)), (3, yI (a3 + 1)), (0, yR k0), (1, yR k1), (2, yI (0))]) rfl ?_
                  refine yG.goto rfl (t := 5) rfl ?_
                  exact yG.mono (yG.sub (i_5 (a3 + 1) (a4 + 1)  h23 A_h23   (by omega) (by omega) (by omega) (by omega) (by omega) (by omega)) (ySub.cons rfl (ySub.cons rfl (ySub.cons rfl (ySub.cons rfl (ySub.cons rfl (ySub.nil))))))) (by omega)
        · have c4 : (z3 : Int) ≠ a4 := c4
          refine yG.load xak rfl (fun _ _ => rfl) (v := yR k0) rfl rfl ?_
          refine yG.getO A_hq.1 (w_Shape_row W H_k0) rfl rfl (fun r24 H_r24 O_r24 q_r24 => ?_)
          refine yG.load xik rfl (fun _ _ => rfl) (v := yI (a4)) rfl rfl ?_
          refine yG.load xak rfl (fun _ _ => rfl) (v := yR k0) rfl rfl ?_
          refine yG.getS9 A_hq.1 (w_Shape_row W H_k0) q_r24 rfl rfl ?_
          refine yG.load xak rfl (fun _ _ => rfl) (v := yR k0) rfl rfl ?_
          refine yG.getS9 A_hq.1 (w_Shape_node W H_k0) q_r2 rfl rfl ?_
          refine yG.load xik rfl (fun _ _ => rfl) (v := yI (a4)) rfl rfl ?_
          refine yG.ialdF A_hq.1 (v_Shape_node W H_r2) rfl rfl (by omega) (by omega) (fun z25 e_z25 i_z25 l_z25 u_z25 => ?_)
          refine yG.iald A_hq.1 (v_Shape_row W H_r24) rfl (by omega) (by omega) (fun z26 e_z26 i_z26 l_z26 u_z26 => ?_)
          refine yG.iast A_hq.1 (v_Shape_row W H_r24) (W.2.1 _ _ H_r24 (by decide) (by decide)) rfl (by omega) (by omega) ⟨by omega, by omega⟩ (by omega) (by omega) (fun h27 T_h27 b_h27 f_h27 y_h27 => ?_)
          have A_h27 := A_hq.put T_h27 b_h27 f_h27 H_r24 (bAll_ok (by decide) _)
          have qq12 : zsl h27 k0 1 = yR r2 := ((f_h27 k0 1).trans (if_neg (fun e => (bRo.ne H_k0 H_r24 (by decide)) e.1))).trans q_r2
          have : ys h27 r2 (a4 : Int).toNat = ys hq r2 (a4 : Int).toNat := (y_h27 r2 (a4 : Int).toNat).trans (if_neg (fun e => (bRo.ne H_r2 H_r24 (by decide)) e.1))
          have qq13 : zsl h27 k0 3 = yR r24 := ((f_h27 k0 3).trans (if_neg (fun e => (bRo.ne H_k0 H_r24 (by decide)) e.1))).trans q_r24
          refine yG.goto rfl (t := 110) rfl ?_
          refine yG.iinc rfl (a := a4) rfl (L' := [(4, yI (a4 + 1)), (0, yR k0), (1, yR k1), (2, yI (0)), (3, yI (a3))]) rfl ?_
          refine yG.goto rfl (t := 5) rfl ?_
          exact yG.mono (yG.sub (i_5 (a3) (a4 + 1)  h27 A_h27   (by omega) (by omega) (by omega) (by omega) (by omega) (by omega)) (ySub.cons rfl (ySub.cons rfl (ySub.cons rfl (ySub.cons rfl (ySub.cons rfl (ySub.nil))))))) (by omega)
  refine yC.of (M := (xt_X8_number, (5, (1, (9, []))))) rfl rfl (N := 1496) (yfuel (by decide)) ?_
  show yG 89 xfts (xcall 89 xfts xpools xms d) (xpool xp_RX8) [] xt_X8_number (yP 1 (bQi G [(18014398509481984, 256)] hp 0 15 (fun _ => True))) 1496 0 [(0, yR k0), (1, yR k1), (2, yI (0))] [] hp
  have i_5 := H 33
  refine yG.num (c := 0) rfl (fun _ _ => rfl) (by decide) ?_
  refine yG.store1 xik (L' := [(3, yI (0)), (0, yR k0), (1, yR k1), (2, yI (0))]) rfl (fun _ _ => rfl) rfl rfl ?_
  refine yG.num (c := 0) rfl (fun _ _ => rfl) (by decide) ?_
  refine yG.store1 xik (L' := [(4, yI (0)), (3, yI (0)), (0, yR k0), (1, yR k1), (2, yI (0))]) rfl (fun _ _ => rfl) rfl rfl ?_
  refine yG.load xik rfl (fun _ _ => rfl) (v := yI (0)) rfl rfl ?_
  refine yG.num (c := 16) rfl (fun _ _ => rfl) (by decide) ?_
  refine yG.icmp rfl (t := 116) rfl ⟨by omega, by omega⟩ ⟨by omega, by omega⟩ (fun c1 => ?_) (fun c1 => ?_)
  · have c1 : (0 : Int) ≥ 16 := c1
    exfalso; omega
  · have c1 : (0 : Int) < 16 := c1
    refine yG.load xak rfl (fun _ _ => rfl) (v := yR k0) rfl rfl ?_
    refine yG.getO A_hp.1 (w_Shape_node W H_k0) rfl rfl (fun r2 H_r2 O_r2 q_r2 => ?_)
    refine yG.load xik rfl (fun _ _ => rfl) (v := yI (0)) rfl rfl ?_
    refine yG.ialdF A_hp.1 (v_Shape_node W H_r2) rfl rfl (by omega) (by omega) (fun z3 e_z3 i_z3 l_z3 u_z3 => ?_)
    refine yG.load xik rfl (fun _ _ => rfl) (v := yI (0)) rfl rfl ?_
    refine yG.icmp rfl (t := 46) rfl ⟨by omega, by omega⟩ ⟨by omega, by omega⟩ (fun c4 => ?_) (fun c4 => ?_)
    · have c4 : (z3 : Int) = 0 := c4
      refine yG.load xik rfl (fun _ _ => rfl) (v := yI (0)) rfl rfl ?_
      refine yG.load xak rfl (fun _ _ => rfl) (v := yR k0) rfl rfl ?_
      refine yG.getO A_hp.1 (w_Shape_net W H_k0) rfl rfl (fun r5 H_r5 O_r5 q_r5 => ?_)
      refine yG.getO A_hp.1 (w_Net_count W H_r5) rfl rfl (fun r6 H_r6 O_r6 q_r6 => ?_)
      refine yG.num (c := 0) rfl (fun _ _ => rfl) (by decide) ?_
      refine yG.ialdF A_hp.1 (v_Net_count W H_r6) rfl rfl (by omega) (by omega) (fun z7 e_z7 i_z7 l_z7 u_z7 => ?_)
      refine yG.icmp rfl (t := 102) rfl ⟨by omega, by omega⟩ ⟨by omega, by omega⟩ (fun c8 => ?_) (fun c8 => ?_)
      · have c8 : (0 : Int) ≥ z7 := c8
        refine yG.load xak rfl (fun _ _ => rfl) (v := yR k0) rfl rfl ?_
        refine yG.getO A_hp.1 (w_Shape_row W H_k0) rfl rfl (fun r9 H_r9 O_r9 q_r9 => ?_)
        refine yG.load xik rfl (fun _ _ => rfl) (v := yI (0)) rfl rfl ?_
        refine yG.num (c := -1) rfl (fun _ _ => rfl) (by decide) ?_
        refine yG.iast A_hp.1 (v_Shape_row W H_r9) (W.2.1 _ _ H_r9 (by decide) (by decide)) rfl (by omega) (by omega) ⟨by omega, by omega⟩ (by omega) (by omega) (fun h10 T_h10 b_h10 f_h10 y_h10 => ?_)
        have A_h10 := A_hp.put T_h10 b_h10 f_h10 H_r9 (bAll_ok (by decide) _)
        refine yG.iinc rfl (a := 0) rfl (L' := [(4, yI (0 + 1)), (3, yI (0)), (0, yR k0), (1, yR k1), (2, yI (0))]) rfl ?_
        refine yG.goto rfl (t := 5) rfl ?_
        exact yG.mono (yG.sub (i_5 (0) (0 + 1)  h10 A_h10   (by omega) (by omega) (by omega) (by omega) (by omega) (by omega)) (ySub.cons rfl (ySub.cons rfl (ySub.cons rfl (ySub.cons rfl (ySub.cons rfl (ySub.nil))))))) (by omega)
      · have c8 : (0 : Int) < z7 := c8
        refine yG.load xak rfl (fun _ _ => rfl) (v := yR k1) rfl rfl ?_
        refine yG.load xak rfl (fun _ _ => rfl) (v := yR k0) rfl rfl ?_
        refine yG.getO A_hp.1 (w_Shape_island W H_k0) rfl rfl (fun r11 H_r11 O_r11 q_r11 => ?_)
        refine yG.load xik rfl (fun _ _ => rfl) (v := yI (0)) rfl rfl ?_
        refine yG.ialdF A_hp.1 (v_Shape_island W H_r11) rfl rfl (by omega) (by omega) (fun z12 e_z12 i_z12 l_z12 u_z12 => ?_)
        refine yG.bald A_hp.1 (v_Shorts_taken W H_k1) rfl (by omega) (by omega) (fun z13 e_z13 i_z13 l_z13 u_z13 => ?_)
        refine yG.ifz rfl (t := 102) rfl ⟨by omega, by omega⟩ (fun c14 => ?_) (fun c14 => ?_)
        · have c14 : (z13 : Int) = 0 := c14
          refine yG.load xak rfl (fun _ _ => rfl) (v := yR k0) rfl rfl ?_
          refine yG.getO A_hp.1 (w_Shape_row W H_k0) rfl rfl (fun r15 H_r15 O_r15 q_r15 => ?_)
          refine yG.load xik rfl (fun _ _ => rfl) (v := yI (0)) rfl rfl ?_
          refine yG.num (c := -1) rfl (fun _ _ => rfl) (by decide) ?_
          refine yG.iast A_hp.1 (v_Shape_row W H_r15) (W.2.1 _ _ H_r15 (by decide) (by decide)) rfl (by omega) (by omega) ⟨by omega, by omega⟩ (by omega) (by omega) (fun h16 T_h16 b_h16 f_h16 y_h16 => ?_)
          have A_h16 := A_hp.put T_h16 b_h16 f_h16 H_r15 (bAll_ok (by decide) _)
          have qq1 : zsl h16 k0 2 = yR r11 := ((f_h16 k0 2).trans (if_neg (fun e => (bRo.ne H_k0 H_r15 (by decide)) e.1))).trans q_r11
          have : ys h16 r11 (0 : Int).toNat = ys hp r11 (0 : Int).toNat := (y_h16 r11 (0 : Int).toNat).trans (if_neg (fun e => (bRo.ne H_r11 H_r15 (by decide)) e.1))
          refine yG.iinc rfl (a := 0) rfl (L' := [(4, yI (0 + 1)), (3, yI (0)), (0, yR k0), (1, yR k1), (2, yI (0))]) rfl ?_
          refine yG.goto rfl (t := 5) rfl ?_
          exact yG.mono (yG.sub (i_5 (0) (0 + 1)  h16 A_h16   (by omega) (by omega) (by omega) (by omega) (by omega) (by omega)) (ySub.cons rfl (ySub.cons rfl (ySub.cons rfl (ySub.cons rfl (ySub.cons rfl (ySub.nil))))))) (by omega)
        · have c14 : (z13 : Int) ≠ 0 := c14
          refine yG.load xik rfl (fun _ _ => rfl) (v := yI (0)) rfl rfl ?_
          refine yG.ifz rfl (t := 88) rfl ⟨by omega, by omega⟩ (fun c17 => ?_) (fun c17 => ?_)
          · have c17 : (0 : Int) ≠ 0 := c17
            exfalso; omega
          · have c17 : (0 : Int) = 0 := c17
            refine yG.load xak rfl (fun _ _ => rfl) (v := yR k0) rfl rfl ?_
            refine yG.getS9 A_hp.1 (w_Shape_island W H_k0) q_r11 rfl rfl ?_
            refine yG.load xik rfl (fun _ _ => rfl) (v := yI (0)) rfl rfl ?_
            refine yG.ialdF A_hp.1 (v_Shape_island W H_r11) rfl rfl (by omega) (by omega) (fun z18 e_z18 i_z18 l_z18 u_z18 => ?_)
            refine yG.load xik rfl (fun _ _ => rfl) (v := yI (0)) rfl rfl ?_
            refine yG.icmp rfl (t := 102) rfl ⟨by omega, by omega⟩ ⟨by omega, by omega⟩ (fun c19 => ?_) (fun c19 => ?_)
            · have c19 : (z18 : Int) = 0 := c19
              refine yG.load xak rfl (fun _ _ => rfl) (v := yR k0) rfl rfl ?_
              refine yG.getO A_hp.1 (w_Shape_row W H_k0) rfl rfl (fun r20 H_r20 O_r20 q_r20 => ?_)
              refine yG.load xik rfl (fun _ _ => rfl) (v := yI (0)) rfl rfl ?_
              refine yG.num (c := -1) rfl (fun _ _ => rfl) (by decide) ?_
              refine yG.iast A_hp.1 (v_Shape_row W H_r20) (W.2.1 _ _ H_r20 (by decide) (by decide)) rfl (by omega) (by omega) ⟨by omega, by omega⟩ (by omega) (by omega) (fun h21 T_h21 b_h21 f_h21 y_h21 => ?_)
              have A_h21 := A_hp.put T_h21 b_h21 f_h21 H_r20 (bAll_ok (by decide) _)
              have qq2 : zsl h21 k0 2 = yR r11 := ((f_h21 k0 2).trans (if_neg (fun e => (bRo.ne H_k0 H_r20 (by decide)) e.1))).trans q_r11
              have : ys h21 r11 (0 : Int).toNat = ys hp r11 (0 : Int).toNat := (y_h21 r11 (0 : Int).toNat).trans (if_neg (fun e => (bRo.ne H_r11 H_r20 (by decide)) e.1))
              refine yG.iinc rfl (a := 0) rfl (L' := [(4, yI (0 + 1)), (3, yI (0)), (0, yR k0), (1, yR k1), (2, yI (0))]) rfl ?_
              refine yG.goto rfl (t := 5) rfl ?_
              exact yG.mono (yG.sub (i_5 (0) (0 + 1)  h21 A_h21   (by omega) (by omega) (by omega) (by omega) (by omega) (by omega)) (ySub.cons rfl (ySub.cons rfl (ySub.cons rfl (ySub.cons rfl (ySub.cons rfl (ySub.nil))))))) (by omega)
            · have c19 : (z18 : Int) ≠ 0 := c19
              exfalso; omega
    · have c4 : (z3 : Int) ≠ 0 := c4
      exfalso; omega
theorem c_Shape_number_21 {hp : xH} (W : bW G) (d : Nat) (hT : zTy G hp) {k0 : Nat} (H_k0 : bRo G 51 k0) {k1 : Nat} (H_k1 : bRo G 76 k1) : yC (xcall 89 xfts xpools xms (d + 1)) 223 [yR k0, yR k1, yI (1)] hp (bQi G [(18014398509481984, 256)] hp 0 16 (fun _ => True)) := by
  have A_hp : bAx G [(18014398509481984, 256)] hp hp := bAx.rf hT
  have H : ∀ m : Nat, (∀ a3 : Int, ∀ a4 : Int, ∀ hq, bAx G [(18014398509481984, 256)] hp hq → 0 ≤ a3 → (-16) ≤ 0 - a3 → 0 ≤ a4 → (-16) ≤ 0 - a4 → 0 ≤ 0 - a3 + a4 → 0 - 2 * a4 + 33 < (m : Int) → yG 89 xfts (xcall 89 xfts xpools xms d) (xpool xp_RX8) [] xt_X8_number (yP 1 (bQi G [(18014398509481984, 256)] hp 0 16 (fun _ => True))) (36 * m) 5 [(0, yR k0), (1, yR k1), (2, yI (1)), (3, yI (a3)), (4, yI (a4))] [] hq) := by
    intro m
    induction m with
    | zero =>
      intros; exfalso; omega
    | succ m ih =>
      have i_5 := ih
      clear ih
      intro a3 a4 hq A_hq f0 f1 f2 f3 f4 hm
      refine yG.mono (N := 36 * m + 36) ?_ (by omega)
      refine yG.load xik rfl (fun _ _ => rfl) (v := yI (a4)) rfl rfl ?_
      refine yG.num (c := 16) rfl (fun _ _ => rfl) (by decide) ?_
      refine yG.icmp rfl (t := 116) rfl ⟨by omega, by omega⟩ ⟨by omega, by omega⟩ (fun c1 => ?_) (fun c1 => ?_)
      · have c1 : (a4 : Int) ≥ 16 := c1
        refine yG.load xik rfl (fun _ _ => rfl) (v := yI (a3)) rfl rfl ?_
        refine yG.ret rfl (fun _ _ => rfl) ?_
        exact (yP.int ⟨by omega, by omega⟩ ⟨⟨a3, rfl, by omega, by omega, trivial⟩, A_hq⟩)
      · have c1 : (a4 : Int) < 16 := c1
        refine yG.load xak rfl (fun _ _ => rfl) (v := yR k0) rfl rfl ?_
        refine yG.getO A_hq.1 (w_Shape_node W H_k0) rfl rfl (fun r2 H_r2 O_r2 q_r2 => ?_)
        refine yG.load xik rfl (fun _ _ => rfl) (v := yI (a4)) rfl rfl ?_
        refine yG.ialdF A_hq.1 (v_Shape_node W H_r2) rfl rfl (by omega) (by omega) (fun z3 e_z3 i_z3 l_z3 u_z3 => ?_)
        refine yG.load xik rfl (fun _ _ => rfl) (v := yI (a4)) rfl rfl ?_
        refine yG.icmp rfl (t := 46) rfl ⟨by omega, by omega⟩ ⟨by omega, by omega⟩ (fun c4 => ?_) (fun c4 => ?_)
        · have c4 : (z3 : Int) = a4 := c4
          refine yG.load xik rfl (fun _ _ => rfl) (v := yI (a4)) rfl rfl ?_
          refine yG.load xak rfl (fun _ _ => rfl) (v := yR k0) rfl rfl ?_
          refine yG.getO A_hq.1 (w_Shape_net W H_k0) rfl rfl (fun r5 H_r5 O_r5 q_r5 => ?_)
          refine yG.getO A_hq.1 (w_Net_count W H_r5) rfl rfl (fun r6 H_r6 O_r6 q_r6 => ?_)
          refine yG.num (c := 0) rfl (fun _ _ => rfl) (by decide) ?_
          refine yG.ialdF A_hq.1 (v_Net_count W H_r6) rfl rfl (by omega) (by omega) (fun z7 e_z7 i_z7 l_z7 u_z7 => ?_)
          refine yG.icmp rfl (t := 102) rfl ⟨by omega, by omega⟩ ⟨by omega, by omega⟩ (fun c8 => ?_) (fun c8 => ?_)
          · have c8 : (a4 : Int) ≥ z7 := c8
            refine yG.load xak rfl (fun _ _ => rfl) (v := yR k0) rfl rfl ?_
            refine yG.getO A_hq.1 (w_Shape_row W H_k0) rfl rfl (fun r9 H_r9 O_r9 q_r9 => ?_)
            refine yG.load xik rfl (fun _ _ => rfl) (v := yI (a4)) rfl rfl ?_
            refine yG.num (c := -1) rfl (fun _ _ => rfl) (by decide) ?_
            refine yG.iast A_hq.1 (v_Shape_row W H_r9) (W.2.1 _ _ H_r9 (by decide) (by decide)) rfl (by omega) (by omega) ⟨by omega, by omega⟩ (by omega) (by omega) (fun h10 T_h10 b_h10 f_h10 y_h10 => ?_)
            have A_h10 := A_hq.put T_h10 b_h10 f_h10 H_r9 (bAll_ok (by decide) _)
            have qq1 : zsl h10 k0 1 = yR r2 := ((f_h10 k0 1).trans (if_neg (fun e => (bRo.ne H_k0 H_r9 (by decide)) e.1))).trans q_r2
            have : ys h10 r2 (a4 : Int).toNat = ys hq r2 (a4 : Int).toNat := (y_h10 r2 (a4 : Int).toNat).trans (if_neg (fun e => (bRo.ne H_r2 H_r9 (by decide)) e.1))
            have qq2 : zsl h10 k0 3 = yR r9 := ((f_h10 k0 3).trans (if_neg (fun e => (bRo.ne H_k0 H_r9 (by decide)) e.1))).trans q_r9
            refine yG.iinc rfl (a := a4) rfl (L' := [(4, yI (a4 + 1)), (0, yR k0), (1, yR k1), (2, yI (1)), (3, yI (a3))]) rfl ?_
            refine yG.goto rfl (t := 5) rfl ?_
            exact yG.mono (yG.sub (i_5 (a3) (a4 + 1)  h10 A_h10   (by omega) (by omega) (by omega) (by omega) (by omega) (by omega)) (ySub.cons rfl (ySub.cons rfl (ySub.cons rfl (ySub.cons rfl (ySub.cons rfl (ySub.nil))))))) (by omega)
          · have c8 : (a4 : Int) < z7 := c8
            refine yG.load xak rfl (fun _ _ => rfl) (v := yR k1) rfl rfl ?_
            refine yG.load xak rfl (fun _ _ => rfl) (v := yR k0) rfl rfl ?_
            refine yG.getO A_hq.1 (w_Shape_island W H_k0) rfl rfl (fun r11 H_r11 O_r11 q_r11 => ?_)
            refine yG.load xik rfl (fun _ _ => rfl) (v := yI (a4)) rfl rfl ?_
            refine yG.ialdF A_hq.1 (v_Shape_island W H_r11) rfl rfl (by omega) (by omega) (fun z12 e_z12 i_z12 l_z12 u_z12 => ?_)
            refine yG.bald A_hq.1 (v_Shorts_taken W H_k1) rfl (by omega) (by omega) (fun z13 e_z13 i_z13 l_z13 u_z13 => ?_)
            refine yG.ifz rfl (t := 102) rfl ⟨by omega, by omega⟩ (fun c14 => ?_) (fun c14 => ?_)
            · have c14 : (z13 : Int) = 0 := c14
              refine yG.load xak rfl (fun _ _ => rfl) (v := yR k0) rfl rfl ?_
              refine yG.getO A_hq.1 (w_Shape_row W H_k0) rfl rfl (fun r15 H_r15 O_r15 q_r15 => ?_)
              refine yG.load xik rfl (fun _ _ => rfl) (v := yI (a4)) rfl rfl ?_
              refine yG.num (c := -1) rfl (fun _ _ => rfl) (by decide) ?_
              refine yG.iast A_hq.1 (v_Shape_row W H_r15) (W.2.1 _ _ H_r15 (by decide) (by decide)) rfl (by omega) (by omega) ⟨by omega, by omega⟩ (by omega) (by omega) (fun h16 T_h16 b_h16 f_h16 y_h16 => ?_)
              have A_h16 := A_hq.put T_h16 b_h16 f_h16 H_r15 (bAll_ok (by decide) _)
              have qq3 : zsl h16 k0 1 = yR r2 := ((f_h16 k0 1).trans (if_neg (fun e => (bRo.ne H_k0 H_r15 (by decide)) e.1))).trans q_r2
              have : ys h16 r2 (a4 : Int).toNat = ys hq r2 (a4 : Int).toNat := (y_h16 r2 (a4 : Int).toNat).trans (if_neg (fun e => (bRo.ne H_r2 H_r15 (by decide)) e.1))
              have qq4 : zsl h16 k0 3 = yR r15 := ((f_h16 k0 3).trans (if_neg (fun e => (bRo.ne H_k0 H_r15 (by decide)) e.1))).trans q_r15
              refine yG.iinc rfl (a := a4) rfl (L' := [(4, yI (a4 + 1)), (0, yR k0), (1, yR k1), (2, yI (1)), (3, yI (a3))]) rfl ?_
              refine yG.goto rfl (t := 5) rfl ?_
              exact yG.mono (yG.sub (i_5 (a3) (a4 + 1)  h16 A_h16   (by omega) (by omega) (by omega) (by omega) (by omega) (by omega)) (ySub.cons rfl (ySub.cons rfl (ySub.cons rfl (ySub.cons rfl (ySub.cons rfl (ySub.nil))))))) (by omega)
            · have c14 : (z13 : Int) ≠ 0 := c14
              refine yG.load xik rfl (fun _ _ => rfl) (v := yI (1)) rfl rfl ?_
              refine yG.ifz rfl (t := 88) rfl ⟨by omega, by omega⟩ (fun c17 => ?_) (fun c17 => ?_)
              · have c17 : (1 : Int) ≠ 0 := c17
                refine yG.load xak rfl (fun _ _ => rfl) (v := yR k0) rfl rfl ?_
                refine yG.getO A_hq.1 (w_Shape_row W H_k0) rfl rfl (fun r18 H_r18 O_r18 q_r18 => ?_)
                refine yG.load xik rfl (fun _ _ => rfl) (v := yI (a4)) rfl rfl ?_
                refine yG.load xik rfl (fun _ _ => rfl) (v := yI (a3)) rfl rfl ?_
                refine yG.iast A_hq.1 (v_Shape_row W H_r18) (W.2.1 _ _ H_r18 (by decide) (by decide)) rfl (by omega) (by omega) ⟨by omega, by omega⟩ (by omega) (by omega) (fun h19 T_h19 b_h19 f_h19 y_h19 => ?_)
                have A_h19 := A_hq.put T_h19 b_h19 f_h19 H_r18 (bAll_ok (by decide) _)
                have qq5 : zsl h19 k0 1 = yR r2 := ((f_h19 k0 1).trans (if_neg (fun e => (bRo.ne H_k0 H_r18 (by decide)) e.1))).trans q_r2
                have : ys h19 r2 (a4 : Int).toNat = ys hq r2 (a4 : Int).toNat := (y_h19 r2 (a4 : Int).toNat).trans (if_neg (fun e => (bRo.ne H_r2 H_r18 (by decide)) e.1))
                have qq6 : zsl h19 k0 3 = yR r18 := ((f_h19 k0 3).trans (if_neg (fun e => (bRo.ne H_k0 H_r18 (by decide)) e.1))).trans q_r18
                refine yG.iinc rfl (a := a3) rfl (L' := [(3, yI (a3 + 1)), (0, yR k0), (1, yR k1), (2, yI (1)), (4, yI (a4))]) rfl ?_
                refine yG.goto rfl (t := 110) rfl ?_
                refine yG.iinc rfl (a := a4) rfl (L' := [(4, yI (a4 + 1)), (3, yI (a3 + 1)), (0, yR k0), (1, yR k1), (2, yI (1))]) rfl ?_
                refine yG.goto rfl (t := 5) rfl ?_
                exact yG.mono (yG.sub (i_5 (a3 + 1) (a4 + 1)  h19 A_h19   (by omega) (by omega) (by omega) (by omega) (by omega) (by omega)) (ySub.cons rfl (ySub.cons rfl (ySub.cons rfl (ySub.cons rfl (ySub.cons rfl (ySub.nil))))))) (by omega)
              · have c17 : (1 : Int) = 0 := c17
                exfalso; omega
        · have c4 : (z3 : Int) ≠ a4 := c4
          refine yG.load xak rfl (fun _ _ => rfl) (v := yR k0) rfl rfl ?_
          refine yG.getO A_hq.1 (w_Shape_row W H_k0) rfl rfl (fun r20 H_r20 O_r20 q_r20 => ?_)
          refine yG.load xik rfl (fun _ _ => rfl) (v := yI (a4)) rfl rfl ?_
          refine yG.load xak rfl (fun _ _ => rfl) (v := yR k0) rfl rfl ?_
          refine yG.getS9 A_hq.1 (w_Shape_row W H_k0) q_r20 rfl rfl ?_
          refine yG.load xak rfl (fun _ _ => rfl) (v := yR k0) rfl rfl ?_
          refine yG.getS9 A_hq.1 (w_Shape_node W H_k0) q_r2 rfl rfl ?_
          refine yG.load xik rfl (fun _ _ => rfl) (v := yI (a4)) rfl rfl ?_
          refine yG.ialdF A_hq.1 (v_Shape_node W H_r2) rfl rfl (by omega) (by omega) (fun z21 e_z21 i_z21 l_z21 u_z21 => ?_)
          refine yG.iald A_hq.1 (v_Shape_row W H_r20) rfl (by omega) (by omega) (fun z22 e_z22 i_z22 l_z22 u_z22 => ?_)
          refine yG.iast A_hq.1 (v_Shape_row W H_r20) (W.2.1 _ _ H_r20 (by decide) (by decide)) rfl (by omega) (by omega) ⟨by omega, by omega⟩ (by omega) (by omega) (fun h23 T_h23 b_h23 f_h23 y_h23 => ?_)
          have A_h23 := A_hq.put T_h23 b_h23 f_h23 H_r20 (bAll_ok (by decide) _)
          have qq7 : zsl h23 k0 1 = yR r2 := ((f_h23 k0 1).trans (if_neg (fun e => (bRo.ne H_k0 H_r20 (by decide)) e.1))).trans q_r2
          have : ys h23 r2 (a4 : Int).toNat = ys hq r2 (a4 : Int).toNat := (y_h23 r2 (a4 : Int).toNat).trans (if_neg (fun e => (bRo.ne H_r2 H_r20 (by decide)) e.1))
          have qq8 : zsl h23 k0 3 = yR r20 := ((f_h23 k0 3).trans (if_neg (fun e => (bRo.ne H_k0 H_r20 (by decide)) e.1))).trans q_r20
          refine yG.goto rfl (t := 110) rfl ?_
          refine yG.iinc rfl (a := a4) rfl (L' := [(4, yI (a4 + 1)), (0, yR k0), (1, yR k1), (2, yI (1)), (3, yI (a3))]) rfl ?_
          refine yG.goto rfl (t := 5) rfl ?_
          exact yG.mono (yG.sub (i_5 (a3) (a4 + 1)  h23 A_h23   (by omega) (by omega) (by omega) (by omega) (by omega) (by omega)) (ySub.cons rfl (ySub.cons rfl (ySub.cons rfl (ySub.cons rfl (ySub.cons rfl (ySub.nil))))))) (by omega)
  refine yC.of (M := (xt_X8_number, (5, (1, (9, []))))) rfl rfl (N := 1296) (yfuel (by decide)) ?_
  show yG 89 xfts (xcall 89 xfts xpools xms d) (xpool xp_RX8) [] xt_X8_number (yP 1 (bQi G [(18014398509481984, 256)] hp 0 16 (fun _ => True))) 1296 0 [(0, yR k0), (1, yR k1), (2, yI (1))] [] hp
  have i_5 := H 35
  refine yG.num (c := 0) rfl (fun _ _ => rfl) (by decide) ?_
  refine yG.store1 xik (L' := [(3, yI (0)), (0, yR k0), (1, yR k1), (2, yI (1))]) rfl (fun _ _ => rfl) rfl rfl ?_
  refine yG.num (c := 0) rfl (fun _ _ => rfl) (by decide) ?_
  refine yG.store1 xik (L' := [(4, yI (0)), (3, yI (0)), (0, yR k0), (1, yR k1), (2, yI (1))]) rfl (fun _ _ => rfl) rfl rfl ?_
  exact yG.mono (yG.sub (i_5 (0) (0)  hp A_hp   (by omega) (by omega) (by omega) (by omega) (by omega) (by omega)) (ySub.cons rfl (ySub.cons rfl (ySub.cons rfl (ySub.cons rfl (ySub.cons rfl (ySub.nil))))))) (by omega)
theorem c_Shape_isMachineIn_3 {hp : xH} (W : bW G) (d : Nat) (hT : zTy G hp) {k0 : Nat} (H_k0 : bRo G 51 k0) {k2 : Nat} (H_k2 : bRo G 55 k2) (p1 : Int) (h1l : 0 ≤ p1) (h1u : p1 ≤ 5) : yC (xcall 89 xfts xpools xms (d + 1)) 215 [yR k0, yI (p1), yR k2] hp (bQpi hp 0 1 (fun _ => True)) := by
  have A_hp : bAx G [] hp hp := bAx.rf hT
  refine yC.of (M := (xt_X8_isMachineIn, (3, (4, (9, []))))) rfl rfl (N := 60) (yfuel (by decide)) ?_
  show yG 89 xfts (xcall 89 xfts xpools xms d) (xpool xp_RX8) [] xt_X8_isMachineIn (yP 4 (bQpi hp 0 1 (fun _ => True))) 60 0 [(0, yR k0), (1, yI (p1)), (2, yR k2)] [] hp
  refine yG.load xak rfl (fun _ _ => rfl) (v := yR k0) rfl rfl ?_
  refine yG.getO A_hp.1 (w_Shape_on W H_k0) rfl rfl (fun r1 H_r1 O_r1 q_r1 => ?_)
  refine yG.load xik rfl (fun _ _ => rfl) (v := yI (p1)) rfl rfl ?_
  refine yG.bald A_hp.1 (v_Shape_on W H_r1) rfl (by omega) (by omega) (fun z2 e_z2 i_z2 l_z2 u_z2 => ?_)
  refine yG.ifz rfl (t := 29) rfl ⟨by omega, by omega⟩ (fun c3 => ?_) (fun c3 => ?_)
  · have c3 : (z2 : Int) = 0 := c3
    refine yG.num (c := 0) rfl (fun _ _ => rfl) (by decide) ?_
    refine yG.ret rfl (fun _ _ => rfl) ?_
    exact (yP.bool (by omega) ⟨⟨0, rfl, by omega, by omega, trivial⟩, rfl⟩)
  · have c3 : (z2 : Int) ≠ 0 := c3
    refine yG.load xak rfl (fun _ _ => rfl) (v := yR k2) rfl rfl ?_
    refine yG.load xak rfl (fun _ _ => rfl) (v := yR k0) rfl rfl ?_
    refine yG.getO A_hp.1 (w_Shape_island W H_k0) rfl rfl (fun r4 H_r4 O_r4 q_r4 => ?_)
    refine yG.load xak rfl (fun _ _ => rfl) (v := yR k0) rfl rfl ?_
    refine yG.getO A_hp.1 (w_Shape_spot W H_k0) rfl rfl (fun r5 H_r5 O_r5 q_r5 => ?_)
    refine yG.load xik rfl (fun _ _ => rfl) (v := yI (p1)) rfl rfl ?_
    refine yG.iald A_hp.1 (v_Shape_spot W H_r5) rfl (by omega) (by omega) (fun z6 e_z6 i_z6 l_z6 u_z6 => ?_)
    refine yG.ialdF A_hp.1 (v_Shape_island W H_r4) rfl rfl (by omega) (by omega) (fun z7 e_z7 i_z7 l_z7 u_z7 => ?_)
    refine yG.bald A_hp.1 (v_Shape_live W H_k2) rfl (by omega) (by omega) (fun z8 e_z8 i_z8 l_z8 u_z8 => ?_)
    refine yG.ifz rfl (t := 29) rfl ⟨by omega, by omega⟩ (fun c9 => ?_) (fun c9 => ?_)
    · have c9 : (z8 : Int) = 0 := c9
      refine yG.num (c := 0) rfl (fun _ _ => rfl) (by decide) ?_
      refine yG.ret rfl (fun _ _ => rfl) ?_
      exact (yP.bool (by omega) ⟨⟨0, rfl, by omega, by omega, trivial⟩, rfl⟩)
    · have c9 : (z8 : Int) ≠ 0 := c9
      refine yG.num (c := 1) rfl (fun _ _ => rfl) (by decide) ?_
      refine yG.goto rfl (t := 30) rfl ?_
      refine yG.ret rfl (fun _ _ => rfl) ?_
      exact (yP.bool (by omega) ⟨⟨1, rfl, by omega, by omega, trivial⟩, rfl⟩)
theorem c_Shape_isLineIn_3 {hp : xH} (W : bW G) (d : Nat) (hT : zTy G hp) {k0 : Nat} (H_k0 : bRo G 51 k0) {k2 : Nat} (H_k2 : bRo G 55 k2) (p1 : Int) (h1l : 0 ≤ p1) (h1u : p1 ≤ 19) : yC (xcall 89 xfts xpools xms (d + 1)) 214 [yR k0, yI (p1), yR k2] hp (bQpi hp 0 1 (fun _ => True)) := by
  have A_hp : bAx G [] hp hp := bAx.rf hT
  refine yC.of (M := (xt_X8_isLineIn, (3, (4, (9, []))))) rfl rfl (N := 66) (yfuel (by decide)) ?_
  show yG 89 xfts (xcall 89 xfts xpools xms d) (xpool xp_RX8) [] xt_X8_isLineIn (yP 4 (bQpi hp 0 1 (fun _ => True))) 66 0 [(0, yR k0), (1, yI (p1)), (2, yR k2)] [] hp
  refine yG.load xak rfl (fun _ _ => rfl) (v := yR k0) rfl rfl ?_
  refine yG.getO A_hp.1 (w_Shape_joins W H_k0) rfl rfl (fun r1 H_r1 O_r1 q_r1 => ?_)
  refine yG.load xik rfl (fun _ _ => rfl) (v := yI (p1)) rfl rfl ?_
  refine yG.bald A_hp.1 (v_Shape_joins W H_r1) rfl (by omega) (by omega) (fun z2 e_z2 i_z2 l_z2 u_z2 => ?_)
  refine yG.ifz rfl (t := 31) rfl ⟨by omega, by omega⟩ (fun c3 => ?_) (fun c3 => ?_)
  · have c3 : (z2 : Int) = 0 := c3
    refine yG.num (c := 0) rfl (fun _ _ => rfl) (by decide) ?_
    refine yG.ret rfl (fun _ _ => rfl) ?_
    exact (yP.bool (by omega) ⟨⟨0, rfl, by omega, by omega, trivial⟩, rfl⟩)
  · have c3 : (z2 : Int) ≠ 0 := c3
    refine yG.load xak rfl (fun _ _ => rfl) (v := yR k2) rfl rfl ?_
    refine yG.load xak rfl (fun _ _ => rfl) (v := yR k0) rfl rfl ?_
    refine yG.getO A_hp.1 (w_Shape_island W H_k0) rfl rfl (fun r4 H_r4 O_r4 q_r4 => ?_)
    refine yG.load xak rfl (fun _ _ => rfl) (v := yR k0) rfl rfl ?_
    refine yG.getO A_hp.1 (w_Shape_ends W H_k0) rfl rfl (fun r5 H_r5 O_r5 q_r5 => ?_)
    refine yG.load xik rfl (fun _ _ => rfl) (v := yI (p1)) rfl rfl ?_
    refine yG.aaldO (r := 57) A_hp.1 (v_Shape_ends W H_r5) rfl rfl rfl (by omega) (by omega) (fun r6 H_r6 q_r6 => ?_)
    refine yG.num (c := 0) rfl (fun _ _ => rfl) (by decide) ?_
    refine yG.iald A_hp.1 (v_Shape_endss W H_r6) rfl (by omega) (by omega) (fun z7 e_z7 i_z7 l_z7 u_z7 => ?_)
    refine yG.ialdF A_hp.1 (v_Shape_island W H_r4) rfl rfl (by omega) (by omega) (fun z8 e_z8 i_z8 l_z8 u_z8 => ?_)
    refine yG.bald A_hp.1 (v_Shape_live W H_k2) rfl (by omega) (by omega) (fun z9 e_z9 i_z9 l_z9 u_z9 => ?_)
    refine yG.ifz rfl (t := 31) rfl ⟨by omega, by omega⟩ (fun c10 => ?_) (fun c10 => ?_)
    · have c10 : (z9 : Int) = 0 := c10
      refine yG.num (c := 0) rfl (fun _ _ => rfl) (by decide) ?_
      refine yG.ret rfl (fun _ _ => rfl) ?_
      exact (yP.bool (by omega) ⟨⟨0, rfl, by omega, by omega, trivial⟩, rfl⟩)
    · have c10 : (z9 : Int) ≠ 0 := c10
      refine yG.num (c := 1) rfl (fun _ _ => rfl) (by decide) ?_
      refine yG.goto rfl (t := 32) rfl ?_
      refine yG.ret rfl (fun _ _ => rfl) ?_
      exact (yP.bool (by omega) ⟨⟨1, rfl, by omega, by omega, trivial⟩, rfl⟩)
theorem c_Shape_number_30 {hp : xH} (W : bW G) (d : Nat) (hT : zTy G hp) {k0 : Nat} (H_k0 : bRo G 51 k0) {k1 : Nat} (H_k1 : bRo G 55 k1) : yC (xcall 89 xfts xpools xms (d + 1)) 223 [yR k0, yR k1, yI (0)] hp (bQi G [(18014398509481984, 256)] hp 0 15 (fun _ => True)) := by
  have A_hp : bAx G [(18014398509481984, 256)] hp hp := bAx.rf hT
  have H : ∀ m : Nat, (∀ a3 : Int, ∀ a4 : Int, ∀ hq, bAx G [(18014398509481984, 256)] hp hq → 0 ≤ a3 → (-15) ≤ 0 - a3 → 1 ≤ a4 → (-16) ≤ 0 - a4 → 1 ≤ 0 - a3 + a4 → 0 - 2 * a4 + 33 < (m : Int) → yG 89 xfts (xcall 89 xfts xpools xms d) (xpool xp_RX8) [] xt_X8_number (yP 1 (bQi G [(18014398509481984, 256)] hp 0 15 (fun _ => True))) (44 * m) 5 [(0, yR k0), (1, yR k1), (2, yI (0)), (3, yI (a3)), (4, yI (a4))] [] hq) := by
    intro m
    induction m with
    | zero =>
      intros; exfalso; omega
    | succ m ih =>
      have i_5 := ih
      clear ih
      intro a3 a4 hq A_hq f0 f1 f2 f3 f4 hm
      refine yG.mono (N := 44 * m + 44) ?_ (by omega)
      refine yG.load xik rfl (fun _ _ => rfl) (v := yI (a4)) rfl rfl ?_
      refine yG.num (c := 16) rfl (fun _ _ => rfl) (by decide) ?_
      refine yG.icmp rfl (t := 116) rfl ⟨by omega, by omega⟩ ⟨by omega, by omega⟩ (fun c1 => ?_) (fun c1 => ?_)
      · have c1 : (a4 : Int) ≥ 16 := c1
        refine yG.load xik rfl (fun _ _ => rfl) (v := yI (a3)) rfl rfl ?_
        refine yG.ret rfl (fun _ _ => rfl) ?_
        exact (yP.int ⟨by omega, by omega⟩ ⟨⟨a3, rfl, by omega, by omega, trivial⟩, A_hq⟩)
      · have c1 : (a4 : Int) < 16 := c1
        refine yG.load xak rfl (fun _ _ => rfl) (v := yR k0) rfl rfl ?_
        refine yG.getO A_hq.1 (w_Shape_node W H_k0) rfl rfl (fun r2 H_r2 O_r2 q_r2 => ?_)
        refine yG.load xik rfl (fun _ _ => rfl) (v := yI (a4)) rfl rfl ?_
        refine yG.ialdF A_hq.1 (v_Shape_node W H_r2) rfl rfl (by omega) (by omega) (fun z3 e_z3 i_z3 l_z3 u_z3 => ?_)
        refine yG.load xik rfl (fun _ _ => rfl) (v := yI (a4)) rfl rfl ?_
        refine yG.icmp rfl (t := 46) rfl ⟨by omega, by omega⟩ ⟨by omega, by omega⟩ (fun c4 => ?_) (fun c4 => ?_)
        · have c4 : (z3 : Int) = a4 := c4
          refine yG.load xik rfl (fun _ _ => rfl) (v := yI (a4)) rfl rfl ?_
          refine yG.load xak rfl (fun _ _ => rfl) (v := yR k0) rfl rfl ?_
          refine yG.getO A_hq.1 (w_Shape_net W H_k0) rfl rfl (fun r5 H_r5 O_r5 q_r5 => ?_)
          refine yG.getO A_hq.1 (w_Net_count W H_r5) rfl rfl (fun r6 H_r6 O_r6 q_r6 => ?_)
          refine yG.num (c := 0) rfl (fun _ _ => rfl) (by decide) ?_
          refine yG.ialdF A_hq.1 (v_Net_count W H_r6) rfl rfl (by omega) (by omega) (fun z7 e_z7 i_z7 l_z7 u_z7 => ?_)
          refine yG.icmp rfl (t := 102) rfl ⟨by omega, by omega⟩ ⟨by omega, by omega⟩ (fun c8 => ?_) (fun c8 => ?_)
          · have c8 : (a4 : Int) ≥ z7 := c8
            refine yG.load xak rfl (fun _ _ => rfl) (v := yR k0) rfl rfl ?_
            refine yG.getO A_hq.1 (w_Shape_row W H_k0) rfl rfl (fun r9 H_r9 O_r9 q_r9 => ?_)
            refine yG.load xik rfl (fun _ _ => rfl) (v := yI (a4)) rfl rfl ?_
            refine yG.num (c := -1) rfl (fun _ _ => rfl) (by decide) ?_
            refine yG.iast A_hq.1 (v_Shape_row W H_r9) (W.2.1 _ _ H_r9 (by decide) (by decide)) rfl (by omega) (by omega) ⟨by omega, by omega⟩ (by omega) (by omega) (fun h10 T_h10 b_h10 f_h10 y_h10 => ?_)
            have A_h10 := A_hq.put T_h10 b_h10 f_h10 H_r9 (bAll_ok (by decide) _)
            have qq1 : zsl h10 k0 1 = yR r2 := ((f_h10 k0 1).trans (if_neg (fun e => (bRo.ne H_k0 H_r9 (by decide)) e.1))).trans q_r2
            have : ys h10 r2 (a4 : Int).toNat = ys hq r2 (a4 : Int).toNat := (y_h10 r2 (a4 : Int).toNat).trans (if_neg (fun e => (bRo.ne H_r2 H_r9 (by decide)) e.1))
            have qq2 : zsl h10 k0 3 = yR r9 := ((f_h10 k0 3).trans (if_neg (fun e => (bRo.ne H_k0 H_r9 (by decide)) e.1))).trans q_r9
            refine yG.iinc rfl (a := a4) rfl (L' := [(4, yI (a4 + 1)), (0, yR k0), (1, yR k1), (2, yI (0)), (3, yI (a3))]) rfl ?_
            refine yG.goto rfl (t := 5) rfl ?_
            exact yG.mono (yG.sub (i_5 (a3) (a4 + 1)  h10 A_h10   (by omega) (by omega) (by omega) (by omega) (by omega) (by omega)) (ySub.cons rfl (ySub.cons rfl (ySub.cons rfl (ySub.cons rfl (ySub.cons rfl (ySub.nil))))))) (by omega)
          · have c8 : (a4 : Int) < z7 := c8
            refine yG.load xak rfl (fun _ _ => rfl) (v := yR k1) rfl rfl ?_
            refine yG.load xak rfl (fun _ _ => rfl) (v := yR k0) rfl rfl ?_
            refine yG.getO A_hq.1 (w_Shape_island W H_k0) rfl rfl (fun r11 H_r11 O_r11 q_r11 => ?_)
            refine yG.load xik rfl (fun _ _ => rfl) (v := yI (a4)) rfl rfl ?_
            refine yG.ialdF A_hq.1 (v_Shape_island W H_r11) rfl rfl (by omega) (by omega) (fun z12 e_z12 i_z12 l_z12 u_z12 => ?_)
            refine yG.bald A_hq.1 (v_Shape_live W H_k1) rfl (by omega) (by omega) (fun z13 e_z13 i_z13 l_z13 u_z13 => ?_)
            refine yG.ifz rfl (t := 102) rfl ⟨by omega, by omega⟩ (fun c14 => ?_) (fun c14 => ?_)
            · have c14 : (z13 : Int) = 0 := c14
              refine yG.load xak rfl (fun _ _ => rfl) (v := yR k0) rfl rfl ?_
              refine yG.getO A_hq.1 (w_Shape_row W H_k0) rfl rfl (fun r15 H_r15 O_r15 q_r15 => ?_)
              refine yG.load xik rfl (fun _ _ => rfl) (v := yI (a4)) rfl rfl ?_
              refine yG.num (c := -1) rfl (fun _ _ => rfl) (by decide) ?_
              refine yG.iast A_hq.1 (v_Shape_row W H_r15) (W.2.1 _ _ H_r15 (by decide) (by decide)) rfl (by omega) (by omega) ⟨by omega, by omega⟩ (by omega) (by omega) (fun h16 T_h16 b_h16 f_h16 y_h16 => ?_)
              have A_h16 := A_hq.put T_h16 b_h16 f_h16 H_r15 (bAll_ok (by decide) _)
              have qq3 : zsl h16 k0 1 = yR r2 := ((f_h16 k0 1).trans (if_neg (fun e => (bRo.ne H_k0 H_r15 (by decide)) e.1))).trans q_r2
              have : ys h16 r2 (a4 : Int).toNat = ys hq r2 (a4 : Int).toNat := (y_h16 r2 (a4 : Int).toNat).trans (if_neg (fun e => (bRo.ne H_r2 H_r15 (by decide)) e.1))
              have qq4 : zsl h16 k0 2 = yR r11 := ((f_h16 k0 2).trans (if_neg (fun e => (bRo.ne H_k0 H_r15 (by decide)) e.1))).trans q_r11
              have : ys h16 r11 (a4 : Int).toNat = ys hq r11 (a4 : Int).toNat := (y_h16 r11 (a4 : Int).toNat).trans (if_neg (fun e => (bRo.ne H_r11 H_r15 (by decide)) e.1))
              have qq5 : zsl h16 k0 3 = yR r15 := ((f_h16 k0 3).trans (if_neg (fun e => (bRo.ne H_k0 H_r15 (by decide)) e.1))).trans q_r15
              refine yG.iinc rfl (a := a4) rfl (L' := [(4, yI (a4 + 1)), (0, yR k0), (1, yR k1), (2, yI (0)), (3, yI (a3))]) rfl ?_
              refine yG.goto rfl (t := 5) rfl ?_
              exact yG.mono (yG.sub (i_5 (a3) (a4 + 1)  h16 A_h16   (by omega) (by omega) (by omega) (by omega) (by omega) (by omega)) (ySub.cons rfl (ySub.cons rfl (ySub.cons rfl (ySub.cons rfl (ySub.cons rfl (ySub.nil))))))) (by omega)
            · have c14 : (z13 : Int) ≠ 0 := c14
              refine yG.load xik rfl (fun _ _ => rfl) (v := yI (0)) rfl rfl ?_
              refine yG.ifz rfl (t := 88) rfl ⟨by omega, by omega⟩ (fun c17 => ?_) (fun c17 => ?_)
              · have c17 : (0 : Int) ≠ 0 := c17
                exfalso; omega
              · have c17 : (0 : Int) = 0 := c17
                refine yG.load xak rfl (fun _ _ => rfl) (v := yR k0) rfl rfl ?_
                refine yG.getS9 A_hq.1 (w_Shape_island W H_k0) q_r11 rfl rfl ?_
                refine yG.load xik rfl (fun _ _ => rfl) (v := yI (a4)) rfl rfl ?_
                refine yG.ialdF A_hq.1 (v_Shape_island W H_r11) rfl rfl (by omega) (by omega) (fun z18 e_z18 i_z18 l_z18 u_z18 => ?_)
                refine yG.load xik rfl (fun _ _ => rfl) (v := yI (a4)) rfl rfl ?_
                refine yG.icmp rfl (t := 102) rfl ⟨by omega, by omega⟩ ⟨by omega, by omega⟩ (fun c19 => ?_) (fun c19 => ?_)
                · have c19 : (z18 : Int) = a4 := c19
                  refine yG.load xak rfl (fun _ _ => rfl) (v := yR k0) rfl rfl ?_
                  refine yG.getO A_hq.1 (w_Shape_row W H_k0) rfl rfl (fun r20 H_r20 O_r20 q_r20 => ?_)
                  refine yG.load xik rfl (fun _ _ => rfl) (v := yI (a4)) rfl rfl ?_
                  refine yG.num (c := -1) rfl (fun _ _ => rfl) (by decide) ?_
                  refine yG.iast A_hq.1 (v_Shape_row W H_r20) (W.2.1 _ _ H_r20 (by decide) (by decide)) rfl (by omega) (by omega) ⟨by omega, by omega⟩ (by omega) (by omega) (fun h21 T_h21 b_h21 f_h21 y_h21 => ?_)
                  have A_h21 := A_hq.put T_h21 b_h21 f_h21 H_r20 (bAll_ok (by decide) _)
                  have qq6 : zsl h21 k0 1 = yR r2 := ((f_h21 k0 1).trans (if_neg (fun e => (bRo.ne H_k0 H_r20 (by decide)) e.1))).trans q_r2
                  have : ys h21 r2 (a4 : Int).toNat = ys hq r2 (a4 : Int).toNat := (y_h21 r2 (a4 : Int).toNat).trans (if_neg (fun e => (bRo.ne H_r2 H_r20 (by decide)) e.1))
                  have qq7 : zsl h21 k0 2 = yR r11 := ((f_h21 k0 2).trans (if_neg (fun e => (bRo.ne H_k0 H_r20 (by decide)) e.1))).trans q_r11
                  have : ys h21 r11 (a4 : Int).toNat = ys hq r11 (a4 : Int).toNat := (y_h21 r11 (a4 : Int).toNat).trans (if_neg (fun e => (bRo.ne H_r11 H_r20 (by decide)) e.1))
                  have qq8 : zsl h21 k0 3 = yR r20 := ((f_h21 k0 3).trans (if_neg (fun e => (bRo.ne H_k0 H_r20 (by decide)) e.1))).trans q_r20
                  refine yG.iinc rfl (a := a4) rfl (L' := [(4, yI (a4 + 1)), (0, yR k0), (1, yR k1), (2, yI (0)), (3, yI (a3))]) rfl ?_
                  refine yG.goto rfl (t := 5) rfl ?_
                  exact yG.mono (yG.sub (i_5 (a3) (a4 + 1)  h21 A_h21   (by omega) (by omega) (by omega) (by omega) (by omega) (by omega)) (ySub.cons rfl (ySub.cons rfl (ySub.cons rfl (ySub.cons rfl (ySub.cons rfl (ySub.nil))))))) (by omega)
                · have c19 : (z18 : Int) ≠ a4 := c19
                  refine yG.load xak rfl (fun _ _ => rfl) (v := yR k0) rfl rfl ?_
                  refine yG.getO A_hq.1 (w_Shape_row W H_k0) rfl rfl (fun r22 H_r22 O_r22 q_r22 => ?_)
                  refine yG.load xik rfl (fun _ _ => rfl) (v := yI (a4)) rfl rfl ?_
                  refine yG.load xik rfl (fun _ _ => rfl) (v := yI (a3)) rfl rfl ?_
                  refine yG.iast A_hq.1 (v_Shape_row W H_r22) (W.2.1 _ _ H_r22 (by decide) (by decide)) rfl (by omega) (by omega) ⟨by omega, by omega⟩ (by omega) (by omega) (fun h23 T_h23 b_h23 f_h23 y_h23 => ?_)
                  have A_h23 := A_hq.put T_h23 b_h23 f_h23 H_r22 (bAll_ok (by decide) _)
                  have qq9 : zsl h23 k0 1 = yR r2 := ((f_h23 k0 1).trans (if_neg (fun e => (bRo.ne H_k0 H_r22 (by decide)) e.1))).trans q_r2
                  have : ys h23 r2 (a4 : Int).toNat = ys hq r2 (a4 : Int).toNat := (y_h23 r2 (a4 : Int).toNat).trans (if_neg (fun e => (bRo.ne H_r2 H_r22 (by decide)) e.1))
                  have qq10 : zsl h23 k0 2 = yR r11 := ((f_h23 k0 2).trans (if_neg (fun e => (bRo.ne H_k0 H_r22 (by decide)) e.1))).trans q_r11
                  have : ys h23 r11 (a4 : Int).toNat = ys hq r11 (a4 : Int).toNat := (y_h23 r11 (a4 : Int).toNat).trans (if_neg (fun e => (bRo.ne H_r11 H_r22 (by decide)) e.1))
                  have qq11 : zsl h23 k0 3 = yR r22 := ((f_h23 k0 3).trans (if_neg (fun e => (bRo.ne H_k0 H_r22 (by decide)) e.1))).trans q_r22
                  refine yG.iinc rfl (a := a3) rfl (L' := [(3, yI (a3 + 1)), (0, yR k0), (1, yR k1), (2, yI (0)), (4, yI (a4))]) rfl ?_
                  refine yG.goto rfl (t := 110) rfl ?_
                  refine yG.iinc rfl (a := a4) rfl (L' := [(4, yI (a4 + 1)), (3, yI (a3 + 1)), (0, yR k0), (1, yR k1), (2, yI (0))]) rfl ?_
                  refine yG.goto rfl (t := 5) rfl ?_
                  exact yG.mono (yG.sub (i_5 (a3 + 1) (a4 + 1)  h23 A_h23   (by omega) (by omega) (by omega) (by omega) (by omega) (by omega)) (ySub.cons rfl (ySub.cons rfl (ySub.cons rfl (ySub.cons rfl (ySub.cons rfl (ySub.nil))))))) (by omega)
        · have c4 : (z3 : Int) ≠ a4 := c4
          refine yG.load xak rfl (fun _ _ => rfl) (v := yR k0) rfl rfl ?_
          refine yG.getO A_hq.1 (w_Shape_row W H_k0) rfl rfl (fun r24 H_r24 O_r24 q_r24 => ?_)
          refine yG.load xik rfl (fun _ _ => rfl) (v := yI (a4)) rfl rfl ?_
          refine yG.load xak rfl (fun _ _ => rfl) (v := yR k0) rfl rfl ?_
          refine yG.getS9 A_hq.1 (w_Shape_row W H_k0) q_r24 rfl rfl ?_
          refine yG.load xak rfl (fun _ _ => rfl) (v := yR k0) rfl rfl ?_
          refine yG.getS9 A_hq.1 (w_Shape_node W H_k0) q_r2 rfl rfl ?_
          refine yG.load xik rfl (fun _ _ => rfl) (v := yI (a4)) rfl rfl ?_
          refine yG.ialdF A_hq.1 (v_Shape_node W H_r2) rfl rfl (by omega) (by omega) (fun z25 e_z25 i_z25 l_z25 u_z25 => ?_)
          refine yG.iald A_hq.1 (v_Shape_row W H_r24) rfl (by omega) (by omega) (fun z26 e_z26 i_z26 l_z26 u_z26 => ?_)
          refine yG.iast A_hq.1 (v_Shape_row W H_r24) (W.2.1 _ _ H_r24 (by decide) (by decide)) rfl (by omega) (by omega) ⟨by omega, by omega⟩ (by omega) (by omega) (fun h27 T_h27 b_h27 f_h27 y_h27 => ?_)
          have A_h27 := A_hq.put T_h27 b_h27 f_h27 H_r24 (bAll_ok (by decide) _)
          have qq12 : zsl h27 k0 1 = yR r2 := ((f_h27 k0 1).trans (if_neg (fun e => (bRo.ne H_k0 H_r24 (by decide)) e.1))).trans q_r2
          have : ys h27 r2 (a4 : Int).toNat = ys hq r2 (a4 : Int).toNat := (y_h27 r2 (a4 : Int).toNat).trans (if_neg (fun e => (bRo.ne H_r2 H_r24 (by decide)) e.1))
          have qq13 : zsl h27 k0 3 = yR r24 := ((f_h27 k0 3).trans (if_neg (fun e => (bRo.ne H_k0 H_r24 (by decide)) e.1))).trans q_r24
          refine yG.goto rfl (t := 110) rfl ?_
          refine yG.iinc rfl (a := a4) rfl (L' := [(4, yI (a4 + 1)), (0, yR k0), (1, yR k1), (2, yI (0)), (3, yI (a3))]) rfl ?_
          refine yG.goto rfl (t := 5) rfl ?_
          exact yG.mono (yG.sub (i_5 (a3) (a4 + 1)  h27 A_h27   (by omega) (by omega) (by omega) (by omega) (by omega) (by omega)) (ySub.cons rfl (ySub.cons rfl (ySub.cons rfl (ySub.cons rfl (ySub.cons rfl (ySub.nil))))))) (by omega)
  refine yC.of (M := (xt_X8_number, (5, (1, (9, []))))) rfl rfl (N := 1496) (yfuel (by decide)) ?_
  show yG 89 xfts (xcall 89 xfts xpools xms d) (xpool xp_RX8) [] xt_X8_number (yP 1 (bQi G [(18014398509481984, 256)] hp 0 15 (fun _ => True))) 1496 0 [(0, yR k0), (1, yR k1), (2, yI (0))] [] hp
  have i_5 := H 33
  refine yG.num (c := 0) rfl (fun _ _ => rfl) (by decide) ?_
  refine yG.store1 xik (L' := [(3, yI (0)), (0, yR k0), (1, yR k1), (2, yI (0))]) rfl (fun _ _ => rfl) rfl rfl ?_
  refine yG.num (c := 0) rfl (fun _ _ => rfl) (by decide) ?_
  refine yG.store1 xik (L' := [(4, yI (0)), (3, yI (0)), (0, yR k0), (1, yR k1), (2, yI (0))]) rfl (fun _ _ => rfl) rfl rfl ?_
  refine yG.load xik rfl (fun _ _ => rfl) (v := yI (0)) rfl rfl ?_
  refine yG.num (c := 16) rfl (fun _ _ => rfl) (by decide) ?_
  refine yG.icmp rfl (t := 116) rfl ⟨by omega, by omega⟩ ⟨by omega, by omega⟩ (fun c1 => ?_) (fun c1 => ?_)
  · have c1 : (0 : Int) ≥ 16 := c1
    exfalso; omega
  · have c1 : (0 : Int) < 16 := c1
    refine yG.load xak rfl (fun _ _ => rfl) (v := yR k0) rfl rfl ?_
    refine yG.getO A_hp.1 (w_Shape_node W H_k0) rfl rfl (fun r2 H_r2 O_r2 q_r2 => ?_)
    refine yG.load xik rfl (fun _ _ => rfl) (v := yI (0)) rfl rfl ?_
    refine yG.ialdF A_hp.1 (v_Shape_node W H_r2) rfl rfl (by omega) (by omega) (fun z3 e_z3 i_z3 l_z3 u_z3 => ?_)
    refine yG.load xik rfl (fun _ _ => rfl) (v := yI (0)) rfl rfl ?_
    refine yG.icmp rfl (t := 46) rfl ⟨by omega, by omega⟩ ⟨by omega, by omega⟩ (fun c4 => ?_) (fun c4 => ?_)
    · have c4 : (z3 : Int) = 0 := c4
      refine yG.load xik rfl (fun _ _ => rfl) (v := yI (0)) rfl rfl ?_
      refine yG.load xak rfl (fun _ _ => rfl) (v := yR k0) rfl rfl ?_
      refine yG.getO A_hp.1 (w_Shape_net W H_k0) rfl rfl (fun r5 H_r5 O_r5 q_r5 => ?_)
      refine yG.getO A_hp.1 (w_Net_count W H_r5) rfl rfl (fun r6 H_r6 O_r6 q_r6 => ?_)
      refine yG.num (c := 0) rfl (fun _ _ => rfl) (by decide) ?_
      refine yG.ialdF A_hp.1 (v_Net_count W H_r6) rfl rfl (by omega) (by omega) (fun z7 e_z7 i_z7 l_z7 u_z7 => ?_)
      refine yG.icmp rfl (t := 102) rfl ⟨by omega, by omega⟩ ⟨by omega, by omega⟩ (fun c8 => ?_) (fun c8 => ?_)
      · have c8 : (0 : Int) ≥ z7 := c8
        refine yG.load xak rfl (fun _ _ => rfl) (v := yR k0) rfl rfl ?_
        refine yG.getO A_hp.1 (w_Shape_row W H_k0) rfl rfl (fun r9 H_r9 O_r9 q_r9 => ?_)
        refine yG.load xik rfl (fun _ _ => rfl) (v := yI (0)) rfl rfl ?_
        refine yG.num (c := -1) rfl (fun _ _ => rfl) (by decide) ?_
        refine yG.iast A_hp.1 (v_Shape_row W H_r9) (W.2.1 _ _ H_r9 (by decide) (by decide)) rfl (by omega) (by omega) ⟨by omega, by omega⟩ (by omega) (by omega) (fun h10 T_h10 b_h10 f_h10 y_h10 => ?_)
        have A_h10 := A_hp.put T_h10 b_h10 f_h10 H_r9 (bAll_ok (by decide) _)
        refine yG.iinc rfl (a := 0) rfl (L' := [(4, yI (0 + 1)), (3, yI (0)), (0, yR k0), (1, yR k1), (2, yI (0))]) rfl ?_
        refine yG.goto rfl (t := 5) rfl ?_
        exact yG.mono (yG.sub (i_5 (0) (0 + 1)  h10 A_h10   (by omega) (by omega) (by omega) (by omega) (by omega) (by omega)) (ySub.cons rfl (ySub.cons rfl (ySub.cons rfl (ySub.cons rfl (ySub.cons rfl (ySub.nil))))))) (by omega)
      · have c8 : (0 : Int) < z7 := c8
        refine yG.load xak rfl (fun _ _ => rfl) (v := yR k1) rfl rfl ?_
        refine yG.load xak rfl (fun _ _ => rfl) (v := yR k0) rfl rfl ?_
        refine yG.getO A_hp.1 (w_Shape_island W H_k0) rfl rfl (fun r11 H_r11 O_r11 q_r11 => ?_)
        refine yG.load xik rfl (fun _ _ => rfl) (v := yI (0)) rfl rfl ?_
        refine yG.ialdF A_hp.1 (v_Shape_island W H_r11) rfl rfl (by omega) (by omega) (fun z12 e_z12 i_z12 l_z12 u_z12 => ?_)
        refine yG.bald A_hp.1 (v_Shape_live W H_k1) rfl (by omega) (by omega) (fun z13 e_z13 i_z13 l_z13 u_z13 => ?_)
        refine yG.ifz rfl (t := 102) rfl ⟨by omega, by omega⟩ (fun c14 => ?_) (fun c14 => ?_)
        · have c14 : (z13 : Int) = 0 := c14
          refine yG.load xak rfl (fun _ _ => rfl) (v := yR k0) rfl rfl ?_
          refine yG.getO A_hp.1 (w_Shape_row W H_k0) rfl rfl (fun r15 H_r15 O_r15 q_r15 => ?_)
          refine yG.load xik rfl (fun _ _ => rfl) (v := yI (0)) rfl rfl ?_
          refine yG.num (c := -1) rfl (fun _ _ => rfl) (by decide) ?_
          refine yG.iast A_hp.1 (v_Shape_row W H_r15) (W.2.1 _ _ H_r15 (by decide) (by decide)) rfl (by omega) (by omega) ⟨by omega, by omega⟩ (by omega) (by omega) (fun h16 T_h16 b_h16 f_h16 y_h16 => ?_)
          have A_h16 := A_hp.put T_h16 b_h16 f_h16 H_r15 (bAll_ok (by decide) _)
          have qq1 : zsl h16 k0 2 = yR r11 := ((f_h16 k0 2).trans (if_neg (fun e => (bRo.ne H_k0 H_r15 (by decide)) e.1))).trans q_r11
          have : ys h16 r11 (0 : Int).toNat = ys hp r11 (0 : Int).toNat := (y_h16 r11 (0 : Int).toNat).trans (if_neg (fun e => (bRo.ne H_r11 H_r15 (by decide)) e.1))
          refine yG.iinc rfl (a := 0) rfl (L' := [(4, yI (0 + 1)), (3, yI (0)), (0, yR k0), (1, yR k1), (2, yI (0))]) rfl ?_
          refine yG.goto rfl (t := 5) rfl ?_
          exact yG.mono (yG.sub (i_5 (0) (0 + 1)  h16 A_h16   (by omega) (by omega) (by omega) (by omega) (by omega) (by omega)) (ySub.cons rfl (ySub.cons rfl (ySub.cons rfl (ySub.cons rfl (ySub.cons rfl (ySub.nil))))))) (by omega)
        · have c14 : (z13 : Int) ≠ 0 := c14
          refine yG.load xik rfl (fun _ _ => rfl) (v := yI (0)) rfl rfl ?_
          refine yG.ifz rfl (t := 88) rfl ⟨by omega, by omega⟩ (fun c17 => ?_) (fun c17 => ?_)
          · have c17 : (0 : Int) ≠ 0 := c17
            exfalso; omega
          · have c17 : (0 : Int) = 0 := c17
            refine yG.load xak rfl (fun _ _ => rfl) (v := yR k0) rfl rfl ?_
            refine yG.getS9 A_hp.1 (w_Shape_island W H_k0) q_r11 rfl rfl ?_
            refine yG.load xik rfl (fun _ _ => rfl) (v := yI (0)) rfl rfl ?_
            refine yG.ialdF A_hp.1 (v_Shape_island W H_r11) rfl rfl (by omega) (by omega) (fun z18 e_z18 i_z18 l_z18 u_z18 => ?_)
            refine yG.load xik rfl (fun _ _ => rfl) (v := yI (0)) rfl rfl ?_
            refine yG.icmp rfl (t := 102) rfl ⟨by omega, by omega⟩ ⟨by omega, by omega⟩ (fun c19 => ?_) (fun c19 => ?_)
            · have c19 : (z18 : Int) = 0 := c19
              refine yG.load xak rfl (fun _ _ => rfl) (v := yR k0) rfl rfl ?_
              refine yG.getO A_hp.1 (w_Shape_row W H_k0) rfl rfl (fun r20 H_r20 O_r20 q_r20 => ?_)
              refine yG.load xik rfl (fun _ _ => rfl) (v := yI (0)) rfl rfl ?_
              refine yG.num (c := -1) rfl (fun _ _ => rfl) (by decide) ?_
              refine yG.iast A_hp.1 (v_Shape_row W H_r20) (W.2.1 _ _ H_r20 (by decide) (by decide)) rfl (by omega) (by omega) ⟨by omega, by omega⟩ (by omega) (by omega) (fun h21 T_h21 b_h21 f_h21 y_h21 => ?_)
              have A_h21 := A_hp.put T_h21 b_h21 f_h21 H_r20 (bAll_ok (by decide) _)
              have qq2 : zsl h21 k0 2 = yR r11 := ((f_h21 k0 2).trans (if_neg (fun e => (bRo.ne H_k0 H_r20 (by decide)) e.1))).trans q_r11
              have : ys h21 r11 (0 : Int).toNat = ys hp r11 (0 : Int).toNat := (y_h21 r11 (0 : Int).toNat).trans (if_neg (fun e => (bRo.ne H_r11 H_r20 (by decide)) e.1))
              refine yG.iinc rfl (a := 0) rfl (L' := [(4, yI (0 + 1)), (3, yI (0)), (0, yR k0), (1, yR k1), (2, yI (0))]) rfl ?_
              refine yG.goto rfl (t := 5) rfl ?_
              exact yG.mono (yG.sub (i_5 (0) (0 + 1)  h21 A_h21   (by omega) (by omega) (by omega) (by omega) (by omega) (by omega)) (ySub.cons rfl (ySub.cons rfl (ySub.cons rfl (ySub.cons rfl (ySub.cons rfl (ySub.nil))))))) (by omega)
            · have c19 : (z18 : Int) ≠ 0 := c19
              exfalso; omega
    · have c4 : (z3 : Int) ≠ 0 := c4
      exfalso; omega
theorem c_Shape_number_31 {hp : xH} (W : bW G) (d : Nat) (hT : zTy G hp) {k0 : Nat} (H_k0 : bRo G 51 k0) {k1 : Nat} (H_k1 : bRo G 55 k1) : yC (xcall 89 xfts xpools xms (d + 1)) 223 [yR k0, yR k1, yI (1)] hp (bQi G [(18014398509481984, 256)] hp 0 16 (fun _ => True)) := by
  have A_hp : bAx G [(18014398509481984, 256)] hp hp := bAx.rf hT
  have H : ∀ m : Nat, (∀ a3 : Int, ∀ a4 : Int, ∀ hq, bAx G [(18014398509481984, 256)] hp hq → 0 ≤ a3 → (-16) ≤ 0 - a3 → 0 ≤ a4 → (-16) ≤ 0 - a4 → 0 ≤ 0 - a3 + a4 → 0 - 2 * a4 + 33 < (m : Int) → yG 89 xfts (xcall 89 xfts xpools xms d) (xpool xp_RX8) [] xt_X8_number (yP 1 (bQi G [(18014398509481984, 256)] hp 0 16 (fun _ => True))) (36 * m) 5 [(0, yR k0), (1, yR k1), (2, yI (1)), (3, yI (a3)), (4, yI (a4))] [] hq) := by
    intro m
    induction m with
    | zero =>
      intros; exfalso; omega
    | succ m ih =>
      have i_5 := ih
      clear ih
      intro a3 a4 hq A_hq f0 f1 f2 f3 f4 hm
      refine yG.mono (N := 36 * m + 36) ?_ (by omega)
      refine yG.load xik rfl (fun _ _ => rfl) (v := yI (a4)) rfl rfl ?_
      refine yG.num (c := 16) rfl (fun _ _ => rfl) (by decide) ?_
      refine yG.icmp rfl (t := 116) rfl ⟨by omega, by omega⟩ ⟨by omega, by omega⟩ (fun c1 => ?_) (fun c1 => ?_)
      · have c1 : (a4 : Int) ≥ 16 := c1
        refine yG.load xik rfl (fun _ _ => rfl) (v := yI (a3)) rfl rfl ?_
        refine yG.ret rfl (fun _ _ => rfl) ?_
        exact (yP.int ⟨by omega, by omega⟩ ⟨⟨a3, rfl, by omega, by omega, trivial⟩, A_hq⟩)
      · have c1 : (a4 : Int) < 16 := c1
        refine yG.load xak rfl (fun _ _ => rfl) (v := yR k0) rfl rfl ?_
        refine yG.getO A_hq.1 (w_Shape_node W H_k0) rfl rfl (fun r2 H_r2 O_r2 q_r2 => ?_)
        refine yG.load xik rfl (fun _ _ => rfl) (v := yI (a4)) rfl rfl ?_
        refine yG.ialdF A_hq.1 (v_Shape_node W H_r2) rfl rfl (by omega) (by omega) (fun z3 e_z3 i_z3 l_z3 u_z3 => ?_)
        refine yG.load xik rfl (fun _ _ => rfl) (v := yI (a4)) rfl rfl ?_
        refine yG.icmp rfl (t := 46) rfl ⟨by omega, by omega⟩ ⟨by omega, by omega⟩ (fun c4 => ?_) (fun c4 => ?_)
        · have c4 : (z3 : Int) = a4 := c4
          refine yG.load xik rfl (fun _ _ => rfl) (v := yI (a4)) rfl rfl ?_
          refine yG.load xak rfl (fun _ _ => rfl) (v := yR k0) rfl rfl ?_
          refine yG.getO A_hq.1 (w_Shape_net W H_k0) rfl rfl (fun r5 H_r5 O_r5 q_r5 => ?_)
          refine yG.getO A_hq.1 (w_Net_count W H_r5) rfl rfl (fun r6 H_r6 O_r6 q_r6 => ?_)
          refine yG.num (c := 0) rfl (fun _ _ => rfl) (by decide) ?_
          refine yG.ialdF A_hq.1 (v_Net_count W H_r6) rfl rfl (by omega) (by omega) (fun z7 e_z7 i_z7 l_z7 u_z7 => ?_)
          refine yG.icmp rfl (t := 102) rfl ⟨by omega, by omega⟩ ⟨by omega, by omega⟩ (fun c8 => ?_) (fun c8 => ?_)
          · have c8 : (a4 : Int) ≥ z7 := c8
            refine yG.load xak rfl (fun _ _ => rfl) (v := yR k0) rfl rfl ?_
            refine yG.getO A_hq.1 (w_Shape_row W H_k0) rfl rfl (fun r9 H_r9 O_r9 q_r9 => ?_)
            refine yG.load xik rfl (fun _ _ => rfl) (v := yI (a4)) rfl rfl ?_
            refine yG.num (c := -1) rfl (fun _ _ => rfl) (by decide) ?_
            refine yG.iast A_hq.1 (v_Shape_row W H_r9) (W.2.1 _ _ H_r9 (by decide) (by decide)) rfl (by omega) (by omega) ⟨by omega, by omega⟩ (by omega) (by omega) (fun h10 T_h10 b_h10 f_h10 y_h10 => ?_)
            have A_h10 := A_hq.put T_h10 b_h10 f_h10 H_r9 (bAll_ok (by decide) _)
            have qq1 : zsl h10 k0 1 = yR r2 := ((f_h10 k0 1).trans (if_neg (fun e => (bRo.ne H_k0 H_r9 (by decide)) e.1))).trans q_r2
            have : ys h10 r2 (a4 : Int).toNat = ys hq r2 (a4 : Int).toNat := (y_h10 r2 (a4 : Int).toNat).trans (if_neg (fun e => (bRo.ne H_r2 H_r9 (by decide)) e.1))
            have qq2 : zsl h10 k0 3 = yR r9 := ((f_h10 k0 3).trans (if_neg (fun e => (bRo.ne H_k0 H_r9 (by decide)) e.1))).trans q_r9
            refine yG.iinc rfl (a := a4) rfl (L' := [(4, yI (a4 + 1)), (0, yR k0), (1, yR k1), (2, yI (1)), (3, yI (a3))]) rfl ?_
            refine yG.goto rfl (t := 5) rfl ?_
            exact yG.mono (yG.sub (i_5 (a3) (a4 + 1)  h10 A_h10   (by omega) (by omega) (by omega) (by omega) (by omega) (by omega)) (ySub.cons rfl (ySub.cons rfl (ySub.cons rfl (ySub.cons rfl (ySub.cons rfl (ySub.nil))))))) (by omega)
          · have c8 : (a4 : Int) < z7 := c8
            refine yG.load xak rfl (fun _ _ => rfl) (v := yR k1) rfl rfl ?_
            refine yG.load xak rfl (fun _ _ => rfl) (v := yR k0) rfl rfl ?_
            refine yG.getO A_hq.1 (w_Shape_island W H_k0) rfl rfl (fun r11 H_r11 O_r11 q_r11 => ?_)
            refine yG.load xik rfl (fun _ _ => rfl) (v := yI (a4)) rfl rfl ?_
            refine yG.ialdF A_hq.1 (v_Shape_island W H_r11) rfl rfl (by omega) (by omega) (fun z12 e_z12 i_z12 l_z12 u_z12 => ?_)
            refine yG.bald A_hq.1 (v_Shape_live W H_k1) rfl (by omega) (by omega) (fun z13 e_z13 i_z13 l_z13 u_z13 => ?_)
            refine yG.ifz rfl (t := 102) rfl ⟨by omega, by omega⟩ (fun c14 => ?_) (fun c14 => ?_)
            · have c14 : (z13 : Int) = 0 := c14
              refine yG.load xak rfl (fun _ _ => rfl) (v := yR k0) rfl rfl ?_
              refine yG.getO A_hq.1 (w_Shape_row W H_k0) rfl rfl (fun r15 H_r15 O_r15 q_r15 => ?_)
              refine yG.load xik rfl (fun _ _ => rfl) (v := yI (a4)) rfl rfl ?_
              refine yG.num (c := -1) rfl (fun _ _ => rfl) (by decide) ?_
              refine yG.iast A_hq.1 (v_Shape_row W H_r15) (W.2.1 _ _ H_r15 (by decide) (by decide)) rfl (by omega) (by omega) ⟨by omega, by omega⟩ (by omega) (by omega) (fun h16 T_h16 b_h16 f_h16 y_h16 => ?_)
              have A_h16 := A_hq.put T_h16 b_h16 f_h16 H_r15 (bAll_ok (by decide) _)
              have qq3 : zsl h16 k0 1 = yR r2 := ((f_h16 k0 1).trans (if_neg (fun e => (bRo.ne H_k0 H_r15 (by decide)) e.1))).trans q_r2
              have : ys h16 r2 (a4 : Int).toNat = ys hq r2 (a4 : Int).toNat := (y_h16 r2 (a4 : Int).toNat).trans (if_neg (fun e => (bRo.ne H_r2 H_r15 (by decide)) e.1))
              have qq4 : zsl h16 k0 3 = yR r15 := ((f_h16 k0 3).trans (if_neg (fun e => (bRo.ne H_k0 H_r15 (by decide)) e.1))).trans q_r15
              refine yG.iinc rfl (a := a4) rfl (L' := [(4, yI (a4 + 1)), (0, yR k0), (1, yR k1), (2, yI (1)), (3, yI (a3))]) rfl ?_
              refine yG.goto rfl (t := 5) rfl ?_
              exact yG.mono (yG.sub (i_5 (a3) (a4 + 1)  h16 A_h16   (by omega) (by omega) (by omega) (by omega) (by omega) (by omega)) (ySub.cons rfl (ySub.cons rfl (ySub.cons rfl (ySub.cons rfl (ySub.cons rfl (ySub.nil))))))) (by omega)
            · have c14 : (z13 : Int) ≠ 0 := c14
              refine yG.load xik rfl (fun _ _ => rfl) (v := yI (1)) rfl rfl ?_
              refine yG.ifz rfl (t := 88) rfl ⟨by omega, by omega⟩ (fun c17 => ?_) (fun c17 => ?_)
              · have c17 : (1 : Int) ≠ 0 := c17
                refine yG.load xak rfl (fun _ _ => rfl) (v := yR k0) rfl rfl ?_
                refine yG.getO A_hq.1 (w_Shape_row W H_k0) rfl rfl (fun r18 H_r18 O_r18 q_r18 => ?_)
                refine yG.load xik rfl (fun _ _ => rfl) (v := yI (a4)) rfl rfl ?_
                refine yG.load xik rfl (fun _ _ => rfl) (v := yI (a3)) rfl rfl ?_
                refine yG.iast A_hq.1 (v_Shape_row W H_r18) (W.2.1 _ _ H_r18 (by decide) (by decide)) rfl (by omega) (by omega) ⟨by omega, by omega⟩ (by omega) (by omega) (fun h19 T_h19 b_h19 f_h19 y_h19 => ?_)
                have A_h19 := A_hq.put T_h19 b_h19 f_h19 H_r18 (bAll_ok (by decide) _)
                have qq5 : zsl h19 k0 1 = yR r2 := ((f_h19 k0 1).trans (if_neg (fun e => (bRo.ne H_k0 H_r18 (by decide)) e.1))).trans q_r2
                have : ys h19 r2 (a4 : Int).toNat = ys hq r2 (a4 : Int).toNat := (y_h19 r2 (a4 : Int).toNat).trans (if_neg (fun e => (bRo.ne H_r2 H_r18 (by decide)) e.1))
                have qq6 : zsl h19 k0 3 = yR r18 := ((f_h19 k0 3).trans (if_neg (fun e => (bRo.ne H_k0 H_r18 (by decide)) e.1))).trans q_r18
                refine yG.iinc rfl (a := a3) rfl (L' := [(3, yI (a3 + 1)), (0, yR k0), (1, yR k1), (2, yI (1)), (4, yI (a4))]) rfl ?_
                refine yG.goto rfl (t := 110) rfl ?_
                refine yG.iinc rfl (a := a4) rfl (L' := [(4, yI (a4 + 1)), (3, yI (a3 + 1)), (0, yR k0), (1, yR k1), (2, yI (1))]) rfl ?_
                refine yG.goto rfl (t := 5) rfl ?_
                exact yG.mono (yG.sub (i_5 (a3 + 1) (a4 + 1)  h19 A_h19   (by omega) (by omega) (by omega) (by omega) (by omega) (by omega)) (ySub.cons rfl (ySub.cons rfl (ySub.cons rfl (ySub.cons rfl (ySub.cons rfl (ySub.nil))))))) (by omega)
              · have c17 : (1 : Int) = 0 := c17
                exfalso; omega
        · have c4 : (z3 : Int) ≠ a4 := c4
          refine yG.load xak rfl (fun _ _ => rfl) (v := yR k0) rfl rfl ?_
          refine yG.getO A_hq.1 (w_Shape_row W H_k0) rfl rfl (fun r20 H_r20 O_r20 q_r20 => ?_)
          refine yG.load xik rfl (fun _ _ => rfl) (v := yI (a4)) rfl rfl ?_
          refine yG.load xak rfl (fun _ _ => rfl) (v := yR k0) rfl rfl ?_
          refine yG.getS9 A_hq.1 (w_Shape_row W H_k0) q_r20 rfl rfl ?_
          refine yG.load xak rfl (fun _ _ => rfl) (v := yR k0) rfl rfl ?_
          refine yG.getS9 A_hq.1 (w_Shape_node W H_k0) q_r2 rfl rfl ?_
          refine yG.load xik rfl (fun _ _ => rfl) (v := yI (a4)) rfl rfl ?_
          refine yG.ialdF A_hq.1 (v_Shape_node W H_r2) rfl rfl (by omega) (by omega) (fun z21 e_z21 i_z21 l_z21 u_z21 => ?_)
          refine yG.iald A_hq.1 (v_Shape_row W H_r20) rfl (by omega) (by omega) (fun z22 e_z22 i_z22 l_z22 u_z22 => ?_)
          refine yG.iast A_hq.1 (v_Shape_row W H_r20) (W.2.1 _ _ H_r20 (by decide) (by decide)) rfl (by omega) (by omega) ⟨by omega, by omega⟩ (by omega) (by omega) (fun h23 T_h23 b_h23 f_h23 y_h23 => ?_)
          have A_h23 := A_hq.put T_h23 b_h23 f_h23 H_r20 (bAll_ok (by decide) _)
          have qq7 : zsl h23 k0 1 = yR r2 := ((f_h23 k0 1).trans (if_neg (fun e => (bRo.ne H_k0 H_r20 (by decide)) e.1))).trans q_r2
          have : ys h23 r2 (a4 : Int).toNat = ys hq r2 (a4 : Int).toNat := (y_h23 r2 (a4 : Int).toNat).trans (if_neg (fun e => (bRo.ne H_r2 H_r20 (by decide)) e.1))
          have qq8 : zsl h23 k0 3 = yR r20 := ((f_h23 k0 3).trans (if_neg (fun e => (bRo.ne H_k0 H_r20 (by decide)) e.1))).trans q_r20
          refine yG.goto rfl (t := 110) rfl ?_
          refine yG.iinc rfl (a := a4) rfl (L' := [(4, yI (a4 + 1)), (0, yR k0), (1, yR k1), (2, yI (1)), (3, yI (a3))]) rfl ?_
          refine yG.goto rfl (t := 5) rfl ?_
          exact yG.mono (yG.sub (i_5 (a3) (a4 + 1)  h23 A_h23   (by omega) (by omega) (by omega) (by omega) (by omega) (by omega)) (ySub.cons rfl (ySub.cons rfl (ySub.cons rfl (ySub.cons rfl (ySub.cons rfl (ySub.nil))))))) (by omega)
  refine yC.of (M := (xt_X8_number, (5, (1, (9, []))))) rfl rfl (N := 1296) (yfuel (by decide)) ?_
  show yG 89 xfts (xcall 89 xfts xpools xms d) (xpool xp_RX8) [] xt_X8_number (yP 1 (bQi G [(18014398509481984, 256)] hp 0 16 (fun _ => True))) 1296 0 [(0, yR k0), (1, yR k1), (2, yI (1))] [] hp
  have i_5 := H 35
  refine yG.num (c := 0) rfl (fun _ _ => rfl) (by decide) ?_
  refine yG.store1 xik (L' := [(3, yI (0)), (0, yR k0), (1, yR k1), (2, yI (1))]) rfl (fun _ _ => rfl) rfl rfl ?_
  refine yG.num (c := 0) rfl (fun _ _ => rfl) (by decide) ?_
  refine yG.store1 xik (L' := [(4, yI (0)), (3, yI (0)), (0, yR k0), (1, yR k1), (2, yI (1))]) rfl (fun _ _ => rfl) rfl rfl ?_
  exact yG.mono (yG.sub (i_5 (0) (0)  hp A_hp   (by omega) (by omega) (by omega) (by omega) (by omega) (by omega)) (ySub.cons rfl (ySub.cons rfl (ySub.cons rfl (ySub.cons rfl (ySub.cons rfl (ySub.nil))))))) (by omega)
theorem c_Solver_residue {hp : xH} (W : bW G) (d : Nat) (hT : zTy G hp) {k0 : Nat} (H_k0 : bRo G 40 k0) (p1 : Int) (h1l : (-9223372036854775808) ≤ p1) (h1u : p1 ≤ 9223372036854775807) : yC (xcall 89 xfts xpools xms (d + 1)) 259 [yR k0, yJ (p1)] hp (bQpj hp 0 2147483646 (fun _ => True)) := by
  have A_hp : bAx G [] hp hp := bAx.rf hT
  refine yC.of (M := (xt_X10_residue, (5, (2, (11, []))))) rfl rfl (N := 51) (yfuel (by decide)) ?_
  show yG 89 xfts (xcall 89 xfts xpools xms d) (xpool xp_RX10) [] xt_X10_residue (yP 2 (bQpj hp 0 2147483646 (fun _ => True))) 51 0 [(0, yR k0), (1, yJ (p1))] [] hp
  refine yG.load xlk2 rfl (fun _ _ => rfl) (v := yJ (p1)) rfl rfl ?_
  refine yG.load xak rfl (fun _ _ => rfl) (v := yR k0) rfl rfl ?_
  refine yG.getJ A_hp.1 (w_Solver_prime W H_k0) rfl rfl (fun z1 e_z1 i_z1 l_z1 u_z1 => ?_)
  refine yG.lremS rfl ⟨by omega, by omega⟩ ⟨by omega, by omega⟩ (by omega) (fun z2 l_z2 u_z2 => ?_)
  refine yG.store2 xlk2 (L' := [(3, yJ (z2)), (0, yR k0), (1, yJ (p1))]) rfl (fun _ _ => rfl) rfl rfl ?_
  refine yG.load xlk2 rfl (fun _ _ => rfl) (v := yJ (z2)) rfl rfl ?_
  refine yG.numl (c := 0) rfl (fun _ _ => rfl) (by decide) ?_
  refine yG.lcmp rfl ⟨by omega, by omega⟩ ⟨by omega, by omega⟩ (fun z3 e_z3 => ?_)
  refine yG.ifz rfl (t := 22) rfl ⟨by omega, by omega⟩ (fun c4 => ?_) (fun c4 => ?_)
  · have c4 : (z3 : Int) ≥ 0 := c4
    refine yG.load xlk2 rfl (fun _ _ => rfl) (v := yJ (z2)) rfl rfl ?_
    refine yG.ret rfl (fun _ _ => rfl) ?_
    exact (yP.long ⟨by omega, by omega⟩ ⟨⟨z2, rfl, by omega, by omega, trivial⟩, rfl⟩)
  · have c4 : (z3 : Int) < 0 := c4
    refine yG.load xlk2 rfl (fun _ _ => rfl) (v := yJ (z2)) rfl rfl ?_
    refine yG.load xak rfl (fun _ _ => rfl) (v := yR k0) rfl rfl ?_
    refine yG.getJ A_hp.1 (w_Solver_prime W H_k0) rfl rfl (fun z5 e_z5 i_z5 l_z5 u_z5 => ?_)
    refine yG.ladd rfl ?_
    refine yG.goto rfl (t := 23) rfl ?_
    refine yG.ret rfl (fun _ _ => rfl) ?_
    exact (yP.long ⟨by omega, by omega⟩ ⟨⟨z2 + z5, rfl, by omega, by omega, trivial⟩, rfl⟩)
theorem c_Solver_inverse {hp : xH} (W : bW G) (d : Nat) (hT : zTy G hp) {k0 : Nat} (H_k0 : bRo G 40 k0) (p1 : Int) (h1l : (-9223372036854775808) ≤ p1) (h1u : p1 ≤ 9223372036854775807) : yC (xcall 89 xfts xpools xms (d + 1)) 255 [yR k0, yJ (p1)] hp (bQpj hp (-9223372034707293187) 9223372036854775807 (fun _ => True)) := by
  have A_hp : bAx G [] hp hp := bAx.rf hT
  have H : ∀ m : Nat, (∀ a3 : Int, ∀ a5 : Int, ∀ a7 : Int, ∀ a9 : Int, ∀ a11 : Int, 1 ≤ a3 → (-2147483647) ≤ 0 - a3 → (-4611686011984936962) ≤ a5 → (-2147483647) ≤ 0 - a5 → (-9223372036854775808) ≤ a7 → (-9223372036854775807) ≤ 0 - a7 → (-9223372036854775808) ≤ a9 → (-9223372036854775807) ≤ 0 - a9 → 0 ≤ a11 → (-64) ≤ 0 - a11 → (-9223372036854775808) ≤ p1 → (-9223372036854775807) ≤ 0 - p1 → (-2147483646) ≤ a11 - a5 → (-9223372036854775805) ≤ a11 - a7 → (-9223372036854775806) ≤ a11 - a9 → 0 - 3 * a11 + 194 < (m : Int) → yG 89 xfts (xcall 89 xfts xpools xms d) (xpool xp_RX10) [] xt_X10_inverse (yP 2 (bQpj hp (-9223372034707293187) 9223372036854775807 (fun _ => True))) (35 * m) 22 [(0, yR k0), (3, yJ (a3)), (5, yJ (a5)), (7, yJ (a7)), (9, yJ (a9)), (11, yI (a11))] [] hp) ∧ (∀ a3 : Int, ∀ a7 : Int, 1 ≤ a3 → (-2147483647) ≤ 0 - a3 → (-9223372036854775808) ≤ a7 → (-9223372036854775807) ≤ 0 - a7 → (-9223372036854775808) ≤ p1 → (-9223372036854775807) ≤ 0 - p1 → 1 < (m : Int) → yG 89 xfts (xcall 89 xfts xpools xms d) (xpool xp_RX10) [] xt_X10_inverse (yP 2 (bQpj hp (-9223372034707293187) 9223372036854775807 (fun _ => True))) (35 * m) 82 [(0, yR k0), (3, yJ (a3)), (7, yJ (a7))] [] hp) := by
    intro m
    induction m with
    | zero =>
      refine ⟨?_, ?_⟩ <;> (intros; exfalso; omega)
    | succ m ih =>
      obtain ⟨i_22, i_82⟩ := ih
      refine ⟨?_, ?_⟩
      · intro a3 a5 a7 a9 a11 f0 f1 f2 f3 f4 f5 f6 f7 f8 f9 f10 f11 f12 f13 f14 hm
        refine yG.mono (N := 35 * m + 35) ?_ (by omega)
        refine yG.load xik rfl (fun _ _ => rfl) (v := yI (a11)) rfl rfl ?_
        refine yG.num (c := 64) rfl (fun _ _ => rfl) (by decide) ?_
        refine yG.icmp rfl (t := 82) rfl ⟨by omega, by omega⟩ ⟨by omega, by omega⟩ (fun c1 => ?_) (fun c1 => ?_)
        · have c1 : (a11 : Int) ≥ 64 := c1
          exact yG.mono (yG.sub (i_82 (a3) (a7)     (by omega) (by omega) (by omega) (by omega) (by omega) (by omega) (by omega)) (ySub.cons rfl (ySub.cons rfl (ySub.cons rfl (ySub.nil))))) (by omega)
        · have c1 : (a11 : Int) < 64 := c1
          refine yG.load xlk2 rfl (fun _ _ => rfl) (v := yJ (a5)) rfl rfl ?_
          refine yG.numl (c := 0) rfl (fun _ _ => rfl) (by decide) ?_
          refine yG.lcmp rfl ⟨by omega, by omega⟩ ⟨by omega, by omega⟩ (fun z2 e_z2 => ?_)
          refine yG.ifz rfl (t := 82) rfl ⟨by omega, by omega⟩ (fun c3 => ?_) (fun c3 => ?_)
          · have c3 : (z2 : Int) ≤ 0 := c3
            exact yG.mono (yG.sub (i_82 (a3) (a7)     (by omega) (by omega) (by omega) (by omega) (by omega) (by omega) (by omega)) (ySub.cons rfl (ySub.cons rfl (ySub.cons rfl (ySub.nil))))) (by omega)
          · have c3 : (z2 : Int) > 0 := c3
            refine yG.load xlk2 rfl (fun _ _ => rfl) (v := yJ (a3)) rfl rfl ?_
            refine yG.load xlk2 rfl (fun _ _ => rfl) (v := yJ (a5)) rfl rfl ?_
            refine yG.ldiv rfl ⟨by omega, by omega⟩ ⟨by omega, by omega⟩ (by omega) (by omega) ?_
            obtain ⟨z4, e_z4⟩ : ∃ z : Int, z = (a3) / (a5) := ⟨_, rfl⟩
            rw [← e_z4]
            have b_z4 : 0 ≤ z4 ∧ z4 ≤ a3 := e_z4 ▸ ⟨Int.ediv_nonneg (by omega) (by omega), Int.ediv_le_self _ (by omega)⟩
            refine yG.store2 xlk2 (L' := [(12, yJ (z4)), (0, yR k0), (3, yJ (a3)), (5, yJ (a5)), (7, yJ (a7)), (9, yJ (a9)), (11, yI (a11))]) rfl (fun _ _ => rfl) rfl rfl ?_
            refine yG.load xlk2 rfl (fun _ _ => rfl) (v := yJ (a3)) rfl rfl ?_
            refine yG.load xlk2 rfl (fun _ _ => rfl) (v := yJ (z4)) rfl rfl ?_
            refine yG.load xlk2 rfl (fun _ _ => rfl) (v := yJ (a5)) rfl rfl ?_
            refine yG.lmul rfl ?_
            obtain ⟨z5, e_z5⟩ : ∃ z : Int, z = z4 * a5 := ⟨_, rfl⟩
            rw [← e_z5]
            have b_z5 : 0 ≤ z5 ∧ z5 ≤ 4611686014132420609 := e_z5 ▸ ymulb (A := 2147483647) (B := 2147483647) (by omega) (by omega) (by omega) (by omega) (by decide)
            have b2_z5 : z5 ≤ 2147483647 * a5 := e_z5 ▸ bmulx (by omega) (by omega)
            have b3_z5 : z5 ≤ 2147483647 * z4 := e_z5 ▸ bmuly (by omega) (by omega)
            refine yG.lsub rfl ?_
            obtain ⟨z6, e_z6⟩ : ∃ z : Int, z = a3 - z5 := ⟨_, rfl⟩
            rw [← e_z6]
            refine yG.store2 xlk2 (L' := [(14, yJ (z6)), (12, yJ (z4)), (0, yR k0), (3, yJ (a3)), (5, yJ (a5)), (7, yJ (a7)), (9, yJ (a9)), (11, yI (a11))]) rfl (fun _ _ => rfl) rfl rfl ?_
            refine yG.load xlk2 rfl (fun _ _ => rfl) (v := yJ (a5)) rfl rfl ?_
            refine yG.store2 xlk2 (L' := [(3, yJ (a5)), (14, yJ (z6)), (12, yJ (z4)), (0, yR k0), (5, yJ (a5)), (7, yJ (a7)), (9, yJ (a9)), (11, yI (a11))]) rfl (fun _ _ => rfl) rfl rfl ?_
            refine yG.load xlk2 rfl (fun _ _ => rfl) (v := yJ (z6)) rfl rfl ?_
            refine yG.store2 xlk2 (L' := [(5, yJ (z6)), (3, yJ (a5)), (14, yJ (z6)), (12, yJ (z4)), (0, yR k0), (7, yJ (a7)), (9, yJ (a9)), (11, yI (a11))]) rfl (fun _ _ => rfl) rfl rfl ?_
            refine yG.load xlk2 rfl (fun _ _ => rfl) (v := yJ (a7)) rfl rfl ?_
            refine yG.load xlk2 rfl (fun _ _ => rfl) (v := yJ (z4)) rfl rfl ?_
            refine yG.load xlk2 rfl (fun _ _ => rfl) (v := yJ (a9)) rfl rfl ?_
            refine yG.lmul rfl ?_
            obtain ⟨z7, e_z7⟩ : ∃ z : Int, z = z4 * a9 := ⟨_, rfl⟩
            rw [← e_z7]
            have b_z7 : -19807040619342712361531211776 ≤ z7 ∧ z7 ≤ 19807040619342712361531211776 := e_z7 ▸ ymuls (A := 2147483647) (B := 9223372036854775808) (by omega) (by omega) (by omega) (by omega) (by decide)
            refine yG.lsub rfl ?_
            obtain ⟨z8, e_z8, l_z8, u_z8⟩ := ywJ (a7 - z7)
            rw [e_z8]
            refine yG.store2 xlk2 (L' := [(16, yJ (z8)), (5, yJ (z6)), (3, yJ (a5)), (14, yJ (z6)), (12, yJ (z4)), (0, yR k0), (7, yJ (a7)), (9, yJ (a9)), (11, yI (a11))]) rfl (fun _ _ => rfl) rfl rfl ?_
            refine yG.load xlk2 rfl (fun _ _ => rfl) (v := yJ (a9)) rfl rfl ?_
            refine yG.store2 xlk2 (L' := [(7, yJ (a9)), (16, yJ (z8)), (5, yJ (z6)), (3, yJ (a5)), (14, yJ (z6)), (12, yJ (z4)), (0, yR k0), (9, yJ (a9)), (11, yI (a11))]) rfl (fun _ _ => rfl) rfl rfl ?_
            refine yG.load xlk2 rfl (fun _ _ => rfl) (v := yJ (z8)) rfl rfl ?_
            refine yG.store2 xlk2 (L' := [(9, yJ (z8)), (7, yJ (a9)), (16, yJ (z8)), (5, yJ (z6)), (3, yJ (a5)), (14, yJ (z6)), (12, yJ (z4)), (0, yR k0), (11, yI (a11))]) rfl (fun _ _ => rfl) rfl rfl ?_
            refine yG.iinc rfl (a := a11) rfl (L' := [(11, yI (a11 + 1)), (9, yJ (z8)), (7, yJ (a9)), (16, yJ (z8)), (5, yJ (z6)), (3, yJ (a5)), (14, yJ (z6)), (12, yJ (z4)), (0, yR k0)]) rfl ?_
            refine yG.goto rfl (t := 22) rfl ?_
            exact yG.mono (yG.sub (i_22 (a5) (z6) (a9) (z8) (a11 + 1)     (by omega) (by omega) (by omega) (by omega) (by omega) (by omega) (by omega) (by omega) (by omega) (by omega) (by omega) (by omega) (by omega) (by omega) (by omega) (by omega)) (ySub.cons rfl (ySub.cons rfl (ySub.cons rfl (ySub.cons rfl (ySub.cons rfl (ySub.cons rfl (ySub.nil)))))))) (by omega)
      · intro a3 a7 f0 f1 f2 f3 f4 f5 hm
        refine yG.mono (N := 35 * m + 35) ?_ (by omega)
        refine yG.load xlk2 rfl (fun _ _ => rfl) (v := yJ (a3)) rfl rfl ?_
        refine yG.numl (c := 1) rfl (fun _ _ => rfl) (by decide) ?_
        refine yG.lcmp rfl ⟨by omega, by omega⟩ ⟨by omega, by omega⟩ (fun z1 e_z1 => ?_)
        refine yG.ifz rfl (t := 92) rfl ⟨by omega, by omega⟩ (fun c2 => ?_) (fun c2 => ?_)
        · have c2 : (z1 : Int) = 0 := c2
          refine yG.load xlk2 rfl (fun _ _ => rfl) (v := yJ (a7)) rfl rfl ?_
          refine yG.numl (c := 0) rfl (fun _ _ => rfl) (by decide) ?_
          refine yG.lcmp rfl ⟨by omega, by omega⟩ ⟨by omega, by omega⟩ (fun z3 e_z3 => ?_)
          refine yG.ifz rfl (t := 109) rfl ⟨by omega, by omega⟩ (fun c4 => ?_) (fun c4 => ?_)
          · have c4 : (z3 : Int) ≥ 0 := c4
            refine yG.load xlk2 rfl (fun _ _ => rfl) (v := yJ (a7)) rfl rfl ?_
            refine yG.ret rfl (fun _ _ => rfl) ?_
            exact (yP.long ⟨by omega, by omega⟩ ⟨⟨a7, rfl, by omega, by omega, trivial⟩, rfl⟩)
          · have c4 : (z3 : Int) < 0 := c4
            refine yG.load xlk2 rfl (fun _ _ => rfl) (v := yJ (a7)) rfl rfl ?_
            refine yG.load xak rfl (fun _ _ => rfl) (v := yR k0) rfl rfl ?_
            refine yG.getJ A_hp.1 (w_Solver_prime W H_k0) rfl rfl (fun z5 e_z5 i_z5 l_z5 u_z5 => ?_)
            refine yG.ladd rfl ?_
            refine yG.goto rfl (t := 111) rfl ?_
            refine yG.ret rfl (fun _ _ => rfl) ?_
            exact (yP.long ⟨by omega, by omega⟩ ⟨⟨a7 + z5, rfl, by omega, by omega, trivial⟩, rfl⟩)
        · have c2 : (z1 : Int) ≠ 0 := c2
          refine yG.numl (c := 0) rfl (fun _ _ => rfl) (by decide) ?_
          refine yG.goto rfl (t := 111) rfl ?_
          refine yG.ret rfl (fun _ _ => rfl) ?_
          exact (yP.long ⟨by omega, by omega⟩ ⟨⟨0, rfl, by omega, by omega, trivial⟩, rfl⟩)
  refine yC.of (M := (xt_X10_inverse, (18, (2, (11, []))))) rfl rfl (N := 6895) (yfuel (by decide)) ?_
  show yG 89 xfts (xcall 89 xfts xpools xms d) (xpool xp_RX10) [] xt_X10_inverse (yP 2 (bQpj hp (-9223372034707293187) 9223372036854775807 (fun _ => True))) 6895 0 [(0, yR k0), (1, yJ (p1))] [] hp
  obtain ⟨i_22, i_82⟩ := H 196
  refine yG.load xak rfl (fun _ _ => rfl) (v := yR k0) rfl rfl ?_
  refine yG.getJ A_hp.1 (w_Solver_prime W H_k0) rfl rfl (fun z1 e_z1 i_z1 l_z1 u_z1 => ?_)
  refine yG.store2 xlk2 (L' := [(3, yJ (z1)), (0, yR k0), (1, yJ (p1))]) rfl (fun _ _ => rfl) rfl rfl ?_
  refine yG.load xlk2 rfl (fun _ _ => rfl) (v := yJ (p1)) rfl rfl ?_
  refine yG.load xak rfl (fun _ _ => rfl) (v := yR k0) rfl rfl ?_
  refine yG.getJ A_hp.1 (w_Solver_prime W H_k0) rfl rfl (fun z2 e_z2 i_z2 l_z2 u_z2 => ?_)
  refine yG.lremS rfl ⟨by omega, by omega⟩ ⟨by omega, by omega⟩ (by omega) (fun z3 l_z3 u_z3 => ?_)
  refine yG.store2 xlk2 (L' := [(5, yJ (z3)), (3, yJ (z1)), (0, yR k0), (1, yJ (p1))]) rfl (fun _ _ => rfl) rfl rfl ?_
  refine yG.numl (c := 0) rfl (fun _ _ => rfl) (by decide) ?_
  refine yG.store2 xlk2 (L' := [(7, yJ (0)), (5, yJ (z3)), (3, yJ (z1)), (0, yR k0), (1, yJ (p1))]) rfl (fun _ _ => rfl) rfl rfl ?_
  refine yG.numl (c := 1) rfl (fun _ _ => rfl) (by decide) ?_
  refine yG.store2 xlk2 (L' := [(9, yJ (1)), (7, yJ (0)), (5, yJ (z3)), (3, yJ (z1)), (0, yR k0), (1, yJ (p1))]) rfl (fun _ _ => rfl) rfl rfl ?_
  refine yG.num (c := 0) rfl (fun _ _ => rfl) (by decide) ?_
  refine yG.store1 xik (L' := [(11, yI (0)), (9, yJ (1)), (7, yJ (0)), (5, yJ (z3)), (3, yJ (z1)), (0, yR k0), (1, yJ (p1))]) rfl (fun _ _ => rfl) rfl rfl ?_
  exact yG.mono (yG.sub (i_22 (z1) (z3) (0) (1) (0)     (by omega) (by omega) (by omega) (by omega) (by omega) (by omega) (by omega) (by omega) (by omega) (by omega) (by omega) (by omega) (by omega) (by omega) (by omega) (by omega)) (ySub.cons rfl (ySub.cons rfl (ySub.cons rfl (ySub.cons rfl (ySub.cons rfl (ySub.cons rfl (ySub.nil)))))))) (by omega)
theorem c_Solver_plus {hp : xH} (W : bW G) (d : Nat) (hT : zTy G hp) {k0 : Nat} (H_k0 : bRo G 40 k0) (p1 p2 p3 : Int) (h1l : (-2147483648) ≤ p1) (h1u : p1 ≤ 2147483647) (h2l : (-2147483648) ≤ p2) (h2u : p2 ≤ 2147483647) (h3l : (-9223372036854775808) ≤ p3) (h3u : p3 ≤ 9223372036854775807) : yC (xcall 89 xfts xpools xms (d + 2)) 257 [yR k0, yI (p1), yI (p2), yJ (p3)] hp (fun rv hp' => (rv = none ∧ True) ∧ bAx G [(4398046511104, 256)] hp hp') := by
  have A_hp : bAx G [(4398046511104, 256)] hp hp := bAx.rf hT
  refine yC.of (M := (xt_X10_plus, (5, (0, (11, []))))) rfl rfl (N := 93) (yfuel (by decide)) ?_
  show yG 89 xfts (xcall 89 xfts xpools xms (d + 1)) (xpool xp_RX10) [] xt_X10_plus (yP 0 (fun rv hp' => (rv = none ∧ True) ∧ bAx G [(4398046511104, 256)] hp hp')) 93 0 [(0, yR k0), (1, yI (p1)), (2, yI (p2)), (3, yJ (p3))] [] hp
  refine yG.load xik rfl (fun _ _ => rfl) (v := yI (p1)) rfl rfl ?_
  refine yG.ifz rfl (t := 46) rfl ⟨by omega, by omega⟩ (fun c1 => ?_) (fun c1 => ?_)
  · have c1 : (p1 : Int) < 0 := c1
    refine yG.ret rfl (fun _ _ => rfl) ?_
    exact (yP.void ⟨⟨rfl, trivial⟩, A_hp⟩)
  · have c1 : (p1 : Int) ≥ 0 := c1
    refine yG.load xik rfl (fun _ _ => rfl) (v := yI (p1)) rfl rfl ?_
    refine yG.num (c := 32) rfl (fun _ _ => rfl) (by decide) ?_
    refine yG.icmp rfl (t := 46) rfl ⟨by omega, by omega⟩ ⟨by omega, by omega⟩ (fun c2 => ?_) (fun c2 => ?_)
    · have c2 : (p1 : Int) ≥ 32 := c2
      refine yG.ret rfl (fun _ _ => rfl) ?_
      exact (yP.void ⟨⟨rfl, trivial⟩, A_hp⟩)
    · have c2 : (p1 : Int) < 32 := c2
      refine yG.load xik rfl (fun _ _ => rfl) (v := yI (p2)) rfl rfl ?_
      refine yG.ifz rfl (t := 46) rfl ⟨by omega, by omega⟩ (fun c3 => ?_) (fun c3 => ?_)
      · have c3 : (p2 : Int) < 0 := c3
        refine yG.ret rfl (fun _ _ => rfl) ?_
        exact (yP.void ⟨⟨rfl, trivial⟩, A_hp⟩)
      · have c3 : (p2 : Int) ≥ 0 := c3
        refine yG.load xik rfl (fun _ _ => rfl) (v := yI (p2)) rfl rfl ?_
        refine yG.num (c := 48) rfl (fun _ _ => rfl) (by decide) ?_
        refine yG.icmp rfl (t := 46) rfl ⟨by omega, by omega⟩ ⟨by omega, by omega⟩ (fun c4 => ?_) (fun c4 => ?_)
        · have c4 : (p2 : Int) ≥ 48 := c4
          refine yG.ret rfl (fun _ _ => rfl) ?_
          exact (yP.void ⟨⟨rfl, trivial⟩, A_hp⟩)
        · have c4 : (p2 : Int) < 48 := c4
          refine yG.load xak rfl (fun _ _ => rfl) (v := yR k0) rfl rfl ?_
          refine yG.getO A_hp.1 (w_Solver_cell W H_k0) rfl rfl (fun r5 H_r5 O_r5 q_r5 => ?_)
          refine yG.load xik rfl (fun _ _ => rfl) (v := yI (p1)) rfl rfl ?_
          refine yG.aaldO (r := 42) A_hp.1 (v_Solver_cell W H_r5) rfl rfl rfl (by omega) (by omega) (fun r6 H_r6 q_r6 => ?_)
          refine yG.load xik rfl (fun _ _ => rfl) (v := yI (p2)) rfl rfl ?_
          refine yG.load xak rfl (fun _ _ => rfl) (v := yR k0) rfl rfl ?_
          refine yG.load xak rfl (fun _ _ => rfl) (v := yR k0) rfl rfl ?_
          refine yG.getS9 A_hp.1 (w_Solver_cell W H_k0) q_r5 rfl rfl ?_
          refine yG.load xik rfl (fun _ _ => rfl) (v := yI (p1)) rfl rfl ?_
          refine yG.aaldO (r := 42) A_hp.1 (v_Solver_cell W H_r5) rfl rfl rfl (by omega) (by omega) (fun r7 H_r7 q_r7 => ?_)
          have s_r7 : r7 = r6 := by have e9 := q_r7.symm.trans q_r6; cases e9; rfl
          rw [s_r7]
          refine yG.load xik rfl (fun _ _ => rfl) (v := yI (p2)) rfl rfl ?_
          refine yG.lald A_hp.1 (v_Solver_cells W H_r6) rfl (by omega) (by omega) (fun z8 e_z8 i_z8 l_z8 u_z8 => ?_)
          refine yG.load xak rfl (fun _ _ => rfl) (v := yR k0) rfl rfl ?_
          refine yG.load xlk2 rfl (fun _ _ => rfl) (v := yJ (p3)) rfl rfl ?_
          refine yG.invV (rest := [yJ (z8), yR k0, yI (p2), yR r6]) A_hp.1 (bOb (d_Solver W) H_k0) rfl rfl rfl rfl (c_Solver_residue W d A_hp.1 H_k0 (p3) (by omega) (by omega)) (fun rv hp9 q9 => ?_)
          obtain ⟨⟨z9, rfl, l_z9, u_z9, R_z9⟩, e9⟩ := q9
          rw [e9]
          show yG _ _ _ _ _ _ _ _ _ _ (yJ z9 :: [yJ (z8), yR k0, yI (p2), yR r6]) _
          refine yG.ladd rfl ?_
          obtain ⟨z10, e_z10, l_z10, u_z10⟩ := ywJ (z8 + z9)
          rw [e_z10]
          refine yG.invV (rest := [yI (p2), yR r6]) A_hp.1 (bOb (d_Solver W) H_k0) rfl rfl rfl rfl (c_Solver_residue W d A_hp.1 H_k0 (z10) (by omega) (by omega)) (fun rv hp9 q9 => ?_)
          obtain ⟨⟨z11, rfl, l_z11, u_z11, R_z11⟩, e9⟩ := q9
          rw [e9]
          show yG _ _ _ _ _ _ _ _ _ _ (yJ z11 :: [yI (p2), yR r6]) _
          refine yG.last A_hp.1 (v_Solver_cells W H_r6) (W.2.1 _ _ H_r6 (by decide) (by decide)) rfl (by omega) (by omega) ⟨by omega, by omega⟩ (by omega) (by omega) (fun h12 T_h12 b_h12 f_h12 y_h12 => ?_)
          have A_h12 := A_hp.put T_h12 b_h12 f_h12 H_r6 (bAll_ok (by decide) _)
          have qq1 : zsl h12 k0 0 = yR r5 := ((f_h12 k0 0).trans (if_neg (fun e => (bRo.ne H_k0 H_r6 (by decide)) e.1))).trans q_r5
          have qq2 : zsl h12 r5 (p1 : Int).toNat = yR r6 := ((f_h12 r5 (p1 : Int).toNat).trans (if_neg (fun e => (bRo.ne H_r5 H_r6 (by decide)) e.1))).trans q_r6
          refine yG.ret rfl (fun _ _ => rfl) ?_
          exact (yP.void ⟨⟨rfl, trivial⟩, A_h12⟩)
theorem c_Solver_edge {hp : xH} (W : bW G) (d : Nat) (hT : zTy G hp) {k0 : Nat} (H_k0 : bRo G 40 k0) (p1 p2 p3 : Int) (h1l : (-2147483648) ≤ p1) (h1u : p1 ≤ 2147483647) (h2l : (-2147483648) ≤ p2) (h2u : p2 ≤ 2147483647) (h3l : (-9223372036854775808) ≤ p3) (h3u : p3 ≤ 9223372036854775807) : yC (xcall 89 xfts xpools xms (d + 1)) 252 [yR k0, yI (p1), yI (p2), yJ (p3)] hp (fun rv hp' => (rv = none ∧ True) ∧ bAx G [(4398046511104, 256)] hp hp') := by
  have A_hp : bAx G [(4398046511104, 256)] hp hp := bAx.rf hT
  refine yC.of (M := (xt_X10_edge, (9, (0, (11, []))))) rfl rfl (N := 309) (yfuel (by decide)) ?_
  show yG 89 xfts (xcall 89 xfts xpools xms d) (xpool xp_RX10) [] xt_X10_edge (yP 0 (fun rv hp' => (rv = none ∧ True) ∧ bAx G [(4398046511104, 256)] hp hp')) 309 0 [(0, yR k0), (1, yI (p1)), (2, yI (p2)), (3, yJ (p3))] [] hp
  refine yG.load xik rfl (fun _ _ => rfl) (v := yI (p1)) rfl rfl ?_
  refine yG.ifz rfl (t := 14) rfl ⟨by omega, by omega⟩ (fun c1 => ?_) (fun c1 => ?_)
  · have c1 : (p1 : Int) < 0 := c1
    refine yG.num (c := 0) rfl (fun _ _ => rfl) (by decide) ?_
    refine yG.store1 xik (L' := [(5, yI (0)), (0, yR k0), (1, yI (p1)), (2, yI (p2)), (3, yJ (p3))]) rfl (fun _ _ => rfl) rfl rfl ?_
    refine yG.load xik rfl (fun _ _ => rfl) (v := yI (p2)) rfl rfl ?_
    refine yG.ifz rfl (t := 31) rfl ⟨by omega, by omega⟩ (fun c2 => ?_) (fun c2 => ?_)
    · have c2 : (p2 : Int) < 0 := c2
      refine yG.num (c := 0) rfl (fun _ _ => rfl) (by decide) ?_
      refine yG.store1 xik (L' := [(6, yI (0)), (5, yI (0)), (0, yR k0), (1, yI (p1)), (2, yI (p2)), (3, yJ (p3))]) rfl (fun _ _ => rfl) rfl rfl ?_
      refine yG.load xik rfl (fun _ _ => rfl) (v := yI (0)) rfl rfl ?_
      refine yG.ifz rfl (t := 62) rfl ⟨by omega, by omega⟩ (fun c3 => ?_) (fun c3 => ?_)
      · have c3 : (0 : Int) = 0 := c3
        refine yG.load xik rfl (fun _ _ => rfl) (v := yI (0)) rfl rfl ?_
        refine yG.ifz rfl (t := 90) rfl ⟨by omega, by omega⟩ (fun c4 => ?_) (fun c4 => ?_)
        · have c4 : (0 : Int) = 0 := c4
          refine yG.load xik rfl (fun _ _ => rfl) (v := yI (0)) rfl rfl ?_
          refine yG.ifz rfl (t := 161) rfl ⟨by omega, by omega⟩ (fun c5 => ?_) (fun c5 => ?_)
          · have c5 : (0 : Int) = 0 := c5
            refine yG.ret rfl (fun _ _ => rfl) ?_
            exact (yP.void ⟨⟨rfl, trivial⟩, A_hp⟩)
          · have c5 : (0 : Int) ≠ 0 := c5
            exfalso; omega
        · have c4 : (0 : Int) ≠ 0 := c4
          exfalso; omega
      · have c3 : (0 : Int) ≠ 0 := c3
        exfalso; omega
    · have c2 : (p2 : Int) ≥ 0 := c2
      refine yG.load xik rfl (fun _ _ => rfl) (v := yI (p2)) rfl rfl ?_
      refine yG.num (c := 32) rfl (fun _ _ => rfl) (by decide) ?_
      refine yG.icmp rfl (t := 31) rfl ⟨by omega, by omega⟩ ⟨by omega, by omega⟩ (fun c6 => ?_) (fun c6 => ?_)
      · have c6 : (p2 : Int) ≥ 32 := c6
        refine yG.num (c := 0) rfl (fun _ _ => rfl) (by decide) ?_
        refine yG.store1 xik (L' := [(6, yI (0)), (5, yI (0)), (0, yR k0), (1, yI (p1)), (2, yI (p2)), (3, yJ (p3))]) rfl (fun _ _ => rfl) rfl rfl ?_
        refine yG.load xik rfl (fun _ _ => rfl) (v := yI (0)) rfl rfl ?_
        refine yG.ifz rfl (t := 62) rfl ⟨by omega, by omega⟩ (fun c7 => ?_) (fun c7 => ?_)
        · have c7 : (0 : Int) = 0 := c7
          refine yG.load xik rfl (fun _ _ => rfl) (v := yI (0)) rfl rfl ?_
          refine yG.ifz rfl (t := 90) rfl ⟨by omega, by omega⟩ (fun c8 => ?_) (fun c8 => ?_)
          · have c8 : (0 : Int) = 0 := c8
            refine yG.load xik rfl (fun _ _ => rfl) (v := yI (0)) rfl rfl ?_
            refine yG.ifz rfl (t := 161) rfl ⟨by omega, by omega⟩ (fun c9 => ?_) (fun c9 => ?_)
            · have c9 : (0 : Int) = 0 := c9
              refine yG.ret rfl (fun _ _ => rfl) ?_
              exact (yP.void ⟨⟨rfl, trivial⟩, A_hp⟩)
            · have c9 : (0 : Int) ≠ 0 := c9
              exfalso; omega
          · have c8 : (0 : Int) ≠ 0 := c8
            exfalso; omega
        · have c7 : (0 : Int) ≠ 0 := c7
          exfalso; omega
      · have c6 : (p2 : Int) < 32 := c6
        refine yG.num (c := 1) rfl (fun _ _ => rfl) (by decide) ?_
        refine yG.goto rfl (t := 32) rfl ?_
        refine yG.store1 xik (L' := [(6, yI (1)), (5, yI (0)), (0, yR k0), (1, yI (p1)), (2, yI (p2)), (3, yJ (p3))]) rfl (fun _ _ => rfl) rfl rfl ?_
        refine yG.load xik rfl (fun _ _ => rfl) (v := yI (0)) rfl rfl ?_
        refine yG.ifz rfl (t := 62) rfl ⟨by omega, by omega⟩ (fun c10 => ?_) (fun c10 => ?_)
        · have c10 : (0 : Int) = 0 := c10
          refine yG.load xik rfl (fun _ _ => rfl) (v := yI (1)) rfl rfl ?_
          refine yG.ifz rfl (t := 90) rfl ⟨by omega, by omega⟩ (fun c11 => ?_) (fun c11 => ?_)
          · have c11 : (1 : Int) = 0 := c11
            exfalso; omega
          · have c11 : (1 : Int) ≠ 0 := c11
            refine yG.load xak rfl (fun _ _ => rfl) (v := yR k0) rfl rfl ?_
            refine yG.getO A_hp.1 (w_Solver_cell W H_k0) rfl rfl (fun r12 H_r12 O_r12 q_r12 => ?_)
            refine yG.load xik rfl (fun _ _ => rfl) (v := yI (p2)) rfl rfl ?_
            refine yG.aaldO (r := 42) A_hp.1 (v_Solver_cell W H_r12) rfl rfl rfl (by omega) (by omega) (fun r13 H_r13 q_r13 => ?_)
            refine yG.load xik rfl (fun _ _ => rfl) (v := yI (p2)) rfl rfl ?_
            refine yG.load xak rfl (fun _ _ => rfl) (v := yR k0) rfl rfl ?_
            refine yG.getS9 A_hp.1 (w_Solver_cell W H_k0) q_r12 rfl rfl ?_
            refine yG.load xik rfl (fun _ _ => rfl) (v := yI (p2)) rfl rfl ?_
            refine yG.aaldO (r := 42) A_hp.1 (v_Solver_cell W H_r12) rfl rfl rfl (by omega) (by omega) (fun r14 H_r14 q_r14 => ?_)
            have s_r14 : r14 = r13 := by have e9 := q_r14.symm.trans q_r13; cases e9; rfl
            rw [s_r14]
            refine yG.load xik rfl (fun _ _ => rfl) (v := yI (p2)) rfl rfl ?_
            refine yG.lald A_hp.1 (v_Solver_cells W H_r13) rfl (by omega) (by omega) (fun z15 e_z15 i_z15 l_z15 u_z15 => ?_)
            refine yG.load xlk2 rfl (fun _ _ => rfl) (v := yJ (p3)) rfl rfl ?_
            refine yG.ladd rfl ?_
            refine yG.load xak rfl (fun _ _ => rfl) (v := yR k0) rfl rfl ?_
            refine yG.getJ A_hp.1 (w_Solver_prime W H_k0) rfl rfl (fun z16 e_z16 i_z16 l_z16 u_z16 => ?_)
            obtain ⟨z17, e_z17, l_z17, u_z17⟩ := ywJ (z15 + p3)
            rw [e_z17]
            refine yG.lremS rfl ⟨by omega, by omega⟩ ⟨by omega, by omega⟩ (by omega) (fun z18 l_z18 u_z18 => ?_)
            refine yG.last A_hp.1 (v_Solver_cells W H_r13) (W.2.1 _ _ H_r13 (by decide) (by decide)) rfl (by omega) (by omega) ⟨by omega, by omega⟩ (by omega) (by omega) (fun h19 T_h19 b_h19 f_h19 y_h19 => ?_)
            have A_h19 := A_hp.put T_h19 b_h19 f_h19 H_r13 (bAll_ok (by decide) _)
            have qq1 : zsl h19 k0 0 = yR r12 := ((f_h19 k0 0).trans (if_neg (fun e => (bRo.ne H_k0 H_r13 (by decide)) e.1))).trans q_r12
            have qq2 : zsl h19 r12 (p2 : Int).toNat = yR r13 := ((f_h19 r12 (p2 : Int).toNat).trans (if_neg (fun e => (bRo.ne H_r12 H_r13 (by decide)) e.1))).trans q_r13
            have : ys h19 k0 2 = ys hp k0 2 := (y_h19 k0 2).trans (if_neg (fun e => (bRo.ne H_k0 H_r13 (by decide)) e.1))
            refine yG.load xik rfl (fun _ _ => rfl) (v := yI (0)) rfl rfl ?_
            refine yG.ifz rfl (t := 161) rfl ⟨by omega, by omega⟩ (fun c20 => ?_) (fun c20 => ?_)
            · have c20 : (0 : Int) = 0 := c20
              refine yG.ret rfl (fun _ _ => rfl) ?_
              exact (yP.void ⟨⟨rfl, trivial⟩, A_h19⟩)
            · have c20 : (0 : Int) ≠ 0 := c20
              exfalso; omega
        · have c10 : (0 : Int) ≠ 0 := c10
          exfalso; omega
  · have c1 : (p1 : Int) ≥ 0 := c1
    refine yG.load xik rfl (fun _ _ => rfl) (v := yI (p1)) rfl rfl ?_
    refine yG.num (c := 32) rfl (fun _ _ => rfl) (by decide) ?_
    refine yG.icmp rfl (t := 14) rfl ⟨by omega, by omega⟩ ⟨by omega, by omega⟩ (fun c21 => ?_) (fun c21 => ?_)
    · have c21 : (p1 : Int) ≥ 32 := c21
      refine yG.num (c := 0) rfl (fun _ _ => rfl) (by decide) ?_
      refine yG.store1 xik (L' := [(5, yI (0)), (0, yR k0), (1, yI (p1)), (2, yI (p2)), (3, yJ (p3))]) rfl (fun _ _ => rfl) rfl rfl ?_
      refine yG.load xik rfl (fun _ _ => rfl) (v := yI (p2)) rfl rfl ?_
      refine yG.ifz rfl (t := 31) rfl ⟨by omega, by omega⟩ (fun c22 => ?_) (fun c22 => ?_)
      · have c22 : (p2 : Int) < 0 := c22
        refine yG.num (c := 0) rfl (fun _ _ => rfl) (by decide) ?_
        refine yG.store1 xik (L' := [(6, yI (0)), (5, yI (0)), (0, yR k0), (1, yI (p1)), (2, yI (p2)), (3, yJ (p3))]) rfl (fun _ _ => rfl) rfl rfl ?_
        refine yG.load xik rfl (fun _ _ => rfl) (v := yI (0)) rfl rfl ?_
        refine yG.ifz rfl (t := 62) rfl ⟨by omega, by omega⟩ (fun c23 => ?_) (fun c23 => ?_)
        · have c23 : (0 : Int) = 0 := c23
          refine yG.load xik rfl (fun _ _ => rfl) (v := yI (0)) rfl rfl ?_
          refine yG.ifz rfl (t := 90) rfl ⟨by omega, by omega⟩ (fun c24 => ?_) (fun c24 => ?_)
          · have c24 : (0 : Int) = 0 := c24
            refine yG.load xik rfl (fun _ _ => rfl) (v := yI (0)) rfl rfl ?_
            refine yG.ifz rfl (t := 161) rfl ⟨by omega, by omega⟩ (fun c25 => ?_) (fun c25 => ?_)
            · have c25 : (0 : Int) = 0 := c25
              refine yG.ret rfl (fun _ _ => rfl) ?_
              exact (yP.void ⟨⟨rfl, trivial⟩, A_hp⟩)
            · have c25 : (0 : Int) ≠ 0 := c25
              exfalso; omega
          · have c24 : (0 : Int) ≠ 0 := c24
            exfalso; omega
        · have c23 : (0 : Int) ≠ 0 := c23
          exfalso; omega
      · have c22 : (p2 : Int) ≥ 0 := c22
        refine yG.load xik rfl (fun _ _ => rfl) (v := yI (p2)) rfl rfl ?_
        refine yG.num (c := 32) rfl (fun _ _ => rfl) (by decide) ?_
        refine yG.icmp rfl (t := 31) rfl ⟨by omega, by omega⟩ ⟨by omega, by omega⟩ (fun c26 => ?_) (fun c26 => ?_)
        · have c26 : (p2 : Int) ≥ 32 := c26
          refine yG.num (c := 0) rfl (fun _ _ => rfl) (by decide) ?_
          refine yG.store1 xik (L' := [(6, yI (0)), (5, yI (0)), (0, yR k0), (1, yI (p1)), (2, yI (p2)), (3, yJ (p3))]) rfl (fun _ _ => rfl) rfl rfl ?_
          refine yG.load xik rfl (fun _ _ => rfl) (v := yI (0)) rfl rfl ?_
          refine yG.ifz rfl (t := 62) rfl ⟨by omega, by omega⟩ (fun c27 => ?_) (fun c27 => ?_)
          · have c27 : (0 : Int) = 0 := c27
            refine yG.load xik rfl (fun _ _ => rfl) (v := yI (0)) rfl rfl ?_
            refine yG.ifz rfl (t := 90) rfl ⟨by omega, by omega⟩ (fun c28 => ?_) (fun c28 => ?_)
            · have c28 : (0 : Int) = 0 := c28
              refine yG.load xik rfl (fun _ _ => rfl) (v := yI (0)) rfl rfl ?_
              refine yG.ifz rfl (t := 161) rfl ⟨by omega, by omega⟩ (fun c29 => ?_) (fun c29 => ?_)
              · have c29 : (0 : Int) = 0 := c29
                refine yG.ret rfl (fun _ _ => rfl) ?_
                exact (yP.void ⟨⟨rfl, trivial⟩, A_hp⟩)
              · have c29 : (0 : Int) ≠ 0 := c29
                exfalso; omega
            · have c28 : (0 : Int) ≠ 0 := c28
              exfalso; omega
          · have c27 : (0 : Int) ≠ 0 := c27
            exfalso; omega
        · have c26 : (p2 : Int) < 32 := c26
          refine yG.num (c := 1) rfl (fun _ _ => rfl) (by decide) ?_
          refine yG.goto rfl (t := 32) rfl ?_
          refine yG.store1 xik (L' := [(6, yI (1)), (5, yI (0)), (0, yR k0), (1, yI (p1)), (2, yI (p2)), (3, yJ (p3))]) rfl (fun _ _ => rfl) rfl rfl ?_
          refine yG.load xik rfl (fun _ _ => rfl) (v := yI (0)) rfl rfl ?_
          refine yG.ifz rfl (t := 62) rfl ⟨by omega, by omega⟩ (fun c30 => ?_) (fun c30 => ?_)
          · have c30 : (0 : Int) = 0 := c30
            refine yG.load xik rfl (fun _ _ => rfl) (v := yI (1)) rfl rfl ?_
            refine yG.ifz rfl (t := 90) rfl ⟨by omega, by omega⟩ (fun c31 => ?_) (fun c31 => ?_)
            · have c31 : (1 : Int) = 0 := c31
              exfalso; omega
            · have c31 : (1 : Int) ≠ 0 := c31
              refine yG.load xak rfl (fun _ _ => rfl) (v := yR k0) rfl rfl ?_
              refine yG.getO A_hp.1 (w_Solver_cell W H_k0) rfl rfl (fun r32 H_r32 O_r32 q_r32 => ?_)
              refine yG.load xik rfl (fun _ _ => rfl) (v := yI (p2)) rfl rfl ?_
              refine yG.aaldO (r := 42) A_hp.1 (v_Solver_cell W H_r32) rfl rfl rfl (by omega) (by omega) (fun r33 H_r33 q_r33 => ?_)
              refine yG.load xik rfl (fun _ _ => rfl) (v := yI (p2)) rfl rfl ?_
              refine yG.load xak rfl (fun _ _ => rfl) (v := yR k0) rfl rfl ?_
              refine yG.getS9 A_hp.1 (w_Solver_cell W H_k0) q_r32 rfl rfl ?_
              refine yG.load xik rfl (fun _ _ => rfl) (v := yI (p2)) rfl rfl ?_
              refine yG.aaldO (r := 42) A_hp.1 (v_Solver_cell W H_r32) rfl rfl rfl (by omega) (by omega) (fun r34 H_r34 q_r34 => ?_)
              have s_r34 : r34 = r33 := by have e9 := q_r34.symm.trans q_r33; cases e9; rfl
              rw [s_r34]
              refine yG.load xik rfl (fun _ _ => rfl) (v := yI (p2)) rfl rfl ?_
              refine yG.lald A_hp.1 (v_Solver_cells W H_r33) rfl (by omega) (by omega) (fun z35 e_z35 i_z35 l_z35 u_z35 => ?_)
              refine yG.load xlk2 rfl (fun _ _ => rfl) (v := yJ (p3)) rfl rfl ?_
              refine yG.ladd rfl ?_
              refine yG.load xak rfl (fun _ _ => rfl) (v := yR k0) rfl rfl ?_
              refine yG.getJ A_hp.1 (w_Solver_prime W H_k0) rfl rfl (fun z36 e_z36 i_z36 l_z36 u_z36 => ?_)
              obtain ⟨z37, e_z37, l_z37, u_z37⟩ := ywJ (z35 + p3)
              rw [e_z37]
              refine yG.lremS rfl ⟨by omega, by omega⟩ ⟨by omega, by omega⟩ (by omega) (fun z38 l_z38 u_z38 => ?_)
              refine yG.last A_hp.1 (v_Solver_cells W H_r33) (W.2.1 _ _ H_r33 (by decide) (by decide)) rfl (by omega) (by omega) ⟨by omega, by omega⟩ (by omega) (by omega) (fun h39 T_h39 b_h39 f_h39 y_h39 => ?_)
              have A_h39 := A_hp.put T_h39 b_h39 f_h39 H_r33 (bAll_ok (by decide) _)
              have qq3 : zsl h39 k0 0 = yR r32 := ((f_h39 k0 0).trans (if_neg (fun e => (bRo.ne H_k0 H_r33 (by decide)) e.1))).trans q_r32
              have qq4 : zsl h39 r32 (p2 : Int).toNat = yR r33 := ((f_h39 r32 (p2 : Int).toNat).trans (if_neg (fun e => (bRo.ne H_r32 H_r33 (by decide)) e.1))).trans q_r33
              have : ys h39 k0 2 = ys hp k0 2 := (y_h39 k0 2).trans (if_neg (fun e => (bRo.ne H_k0 H_r33 (by decide)) e.1))
              refine yG.load xik rfl (fun _ _ => rfl) (v := yI (0)) rfl rfl ?_
              refine yG.ifz rfl (t := 161) rfl ⟨by omega, by omega⟩ (fun c40 => ?_) (fun c40 => ?_)
              · have c40 : (0 : Int) = 0 := c40
                refine yG.ret rfl (fun _ _ => rfl) ?_
                exact (yP.void ⟨⟨rfl, trivial⟩, A_h39⟩)
              · have c40 : (0 : Int) ≠ 0 := c40
                exfalso; omega
          · have c30 : (0 : Int) ≠ 0 := c30
            exfalso; omega
    · have c21 : (p1 : Int) < 32 := c21
      refine yG.num (c := 1) rfl (fun _ _ => rfl) (by decide) ?_
      refine yG.goto rfl (t := 15) rfl ?_
      refine yG.store1 xik (L' := [(5, yI (1)), (0, yR k0), (1, yI (p1)), (2, yI (p2)), (3, yJ (p3))]) rfl (fun _ _ => rfl) rfl rfl ?_
      refine yG.load xik rfl (fun _ _ => rfl) (v := yI (p2)) rfl rfl ?_
      refine yG.ifz rfl (t := 31) rfl ⟨by omega, by omega⟩ (fun c41 => ?_) (fun c41 => ?_)
      · have c41 : (p2 : Int) < 0 := c41
        refine yG.num (c := 0) rfl (fun _ _ => rfl) (by decide) ?_
        refine yG.store1 xik (L' := [(6, yI (0)), (5, yI (1)), (0, yR k0), (1, yI (p1)), (2, yI (p2)), (3, yJ (p3))]) rfl (fun _ _ => rfl) rfl rfl ?_
        refine yG.load xik rfl (fun _ _ => rfl) (v := yI (1)) rfl rfl ?_
        refine yG.ifz rfl (t := 62) rfl ⟨by omega, by omega⟩ (fun c42 => ?_) (fun c42 => ?_)
        · have c42 : (1 : Int) = 0 := c42
          exfalso; omega
        · have c42 : (1 : Int) ≠ 0 := c42
          refine yG.load xak rfl (fun _ _ => rfl) (v := yR k0) rfl rfl ?_
          refine yG.getO A_hp.1 (w_Solver_cell W H_k0) rfl rfl (fun r43 H_r43 O_r43 q_r43 => ?_)
          refine yG.load xik rfl (fun _ _ => rfl) (v := yI (p1)) rfl rfl ?_
          refine yG.aaldO (r := 42) A_hp.1 (v_Solver_cell W H_r43) rfl rfl rfl (by omega) (by omega) (fun r44 H_r44 q_r44 => ?_)
          refine yG.load xik rfl (fun _ _ => rfl) (v := yI (p1)) rfl rfl ?_
          refine yG.load xak rfl (fun _ _ => rfl) (v := yR k0) rfl rfl ?_
          refine yG.getS9 A_hp.1 (w_Solver_cell W H_k0) q_r43 rfl rfl ?_
          refine yG.load xik rfl (fun _ _ => rfl) (v := yI (p1)) rfl rfl ?_
          refine yG.aaldO (r := 42) A_hp.1 (v_Solver_cell W H_r43) rfl rfl rfl (by omega) (by omega) (fun r45 H_r45 q_r45 => ?_)
          have s_r45 : r45 = r44 := by have e9 := q_r45.symm.trans q_r44; cases e9; rfl
          rw [s_r45]
          refine yG.load xik rfl (fun _ _ => rfl) (v := yI (p1)) rfl rfl ?_
          refine yG.lald A_hp.1 (v_Solver_cells W H_r44) rfl (by omega) (by omega) (fun z46 e_z46 i_z46 l_z46 u_z46 => ?_)
          refine yG.load xlk2 rfl (fun _ _ => rfl) (v := yJ (p3)) rfl rfl ?_
          refine yG.ladd rfl ?_
          refine yG.load xak rfl (fun _ _ => rfl) (v := yR k0) rfl rfl ?_
          refine yG.getJ A_hp.1 (w_Solver_prime W H_k0) rfl rfl (fun z47 e_z47 i_z47 l_z47 u_z47 => ?_)
          obtain ⟨z48, e_z48, l_z48, u_z48⟩ := ywJ (z46 + p3)
          rw [e_z48]
          refine yG.lremS rfl ⟨by omega, by omega⟩ ⟨by omega, by omega⟩ (by omega) (fun z49 l_z49 u_z49 => ?_)
          refine yG.last A_hp.1 (v_Solver_cells W H_r44) (W.2.1 _ _ H_r44 (by decide) (by decide)) rfl (by omega) (by omega) ⟨by omega, by omega⟩ (by omega) (by omega) (fun h50 T_h50 b_h50 f_h50 y_h50 => ?_)
          have A_h50 := A_hp.put T_h50 b_h50 f_h50 H_r44 (bAll_ok (by decide) _)
          have qq5 : zsl h50 k0 0 = yR r43 := ((f_h50 k0 0).trans (if_neg (fun e => (bRo.ne H_k0 H_r44 (by decide)) e.1))).trans q_r43
          have qq6 : zsl h50 r43 (p1 : Int).toNat = yR r44 := ((f_h50 r43 (p1 : Int).toNat).trans (if_neg (fun e => (bRo.ne H_r43 H_r44 (by decide)) e.1))).trans q_r44
          have : ys h50 k0 2 = ys hp k0 2 := (y_h50 k0 2).trans (if_neg (fun e => (bRo.ne H_k0 H_r44 (by decide)) e.1))
          refine yG.load xik rfl (fun _ _ => rfl) (v := yI (0)) rfl rfl ?_
          refine yG.ifz rfl (t := 90) rfl ⟨by omega, by omega⟩ (fun c51 => ?_) (fun c51 => ?_)
          · have c51 : (0 : Int) = 0 := c51
            refine yG.load xik rfl (fun _ _ => rfl) (v := yI (1)) rfl rfl ?_
            refine yG.ifz rfl (t := 161) rfl ⟨by omega, by omega⟩ (fun c52 => ?_) (fun c52 => ?_)
            · have c52 : (1 : Int) = 0 := c52
              exfalso; omega
            · have c52 : (1 : Int) ≠ 0 := c52
              refine yG.load xik rfl (fun _ _ => rfl) (v := yI (0)) rfl rfl ?_
              refine yG.ifz rfl (t := 161) rfl ⟨by omega, by omega⟩ (fun c53 => ?_) (fun c53 => ?_)
              · have c53 : (0 : Int) = 0 := c53
                refine yG.ret rfl (fun _ _ => rfl) ?_
                exact (yP.void ⟨⟨rfl, trivial⟩, A_h50⟩)
              · have c53 : (0 : Int) ≠ 0 := c53
                exfalso; omega
          · have c51 : (0 : Int) ≠ 0 := c51
            exfalso; omega
      · have c41 : (p2 : Int) ≥ 0 := c41
        refine yG.load xik rfl (fun _ _ => rfl) (v := yI (p2)) rfl rfl ?_
        refine yG.num (c := 32) rfl (fun _ _ => rfl) (by decide) ?_
        refine yG.icmp rfl (t := 31) rfl ⟨by omega, by omega⟩ ⟨by omega, by omega⟩ (fun c54 => ?_) (fun c54 => ?_)
        · have c54 : (p2 : Int) ≥ 32 := c54
          refine yG.num (c := 0) rfl (fun _ _ => rfl) (by decide) ?_
          refine yG.store1 xik (L' := [(6, yI (0)), (5, yI (1)), (0, yR k0), (1, yI (p1)), (2, yI (p2)), (3, yJ (p3))]) rfl (fun _ _ => rfl) rfl rfl ?_
          refine yG.load xik rfl (fun _ _ => rfl) (v := yI (1)) rfl rfl ?_
          refine yG.ifz rfl (t := 62) rfl ⟨by omega, by omega⟩ (fun c55 => ?_) (fun c55 => ?_)
          · have c55 : (1 : Int) = 0 := c55
            exfalso; omega
          · have c55 : (1 : Int) ≠ 0 := c55
            refine yG.load xak rfl (fun _ _ => rfl) (v := yR k0) rfl rfl ?_
            refine yG.getO A_hp.1 (w_Solver_cell W H_k0) rfl rfl (fun r56 H_r56 O_r56 q_r56 => ?_)
            refine yG.load xik rfl (fun _ _ => rfl) (v := yI (p1)) rfl rfl ?_
            refine yG.aaldO (r := 42) A_hp.1 (v_Solver_cell W H_r56) rfl rfl rfl (by omega) (by omega) (fun r57 H_r57 q_r57 => ?_)
            refine yG.load xik rfl (fun _ _ => rfl) (v := yI (p1)) rfl rfl ?_
            refine yG.load xak rfl (fun _ _ => rfl) (v := yR k0) rfl rfl ?_
            refine yG.getS9 A_hp.1 (w_Solver_cell W H_k0) q_r56 rfl rfl ?_
            refine yG.load xik rfl (fun _ _ => rfl) (v := yI (p1)) rfl rfl ?_
            refine yG.aaldO (r := 42) A_hp.1 (v_Solver_cell W H_r56) rfl rfl rfl (by omega) (by omega) (fun r58 H_r58 q_r58 => ?_)
            have s_r58 : r58 = r57 := by have e9 := q_r58.symm.trans q_r57; cases e9; rfl
            rw [s_r58]
            refine yG.load xik rfl (fun _ _ => rfl) (v := yI (p1)) rfl rfl ?_
            refine yG.lald A_hp.1 (v_Solver_cells W H_r57) rfl (by omega) (by omega) (fun z59 e_z59 i_z59 l_z59 u_z59 => ?_)
            refine yG.load xlk2 rfl (fun _ _ => rfl) (v := yJ (p3)) rfl rfl ?_
            refine yG.ladd rfl ?_
            refine yG.load xak rfl (fun _ _ => rfl) (v := yR k0) rfl rfl ?_
            refine yG.getJ A_hp.1 (w_Solver_prime W H_k0) rfl rfl (fun z60 e_z60 i_z60 l_z60 u_z60 => ?_)
            obtain ⟨z61, e_z61, l_z61, u_z61⟩ := ywJ (z59 + p3)
            rw [e_z61]
            refine yG.lremS rfl ⟨by omega, by omega⟩ ⟨by omega, by omega⟩ (by omega) (fun z62 l_z62 u_z62 => ?_)
            refine yG.last A_hp.1 (v_Solver_cells W H_r57) (W.2.1 _ _ H_r57 (by decide) (by decide)) rfl (by omega) (by omega) ⟨by omega, by omega⟩ (by omega) (by omega) (fun h63 T_h63 b_h63 f_h63 y_h63 => ?_)
            have A_h63 := A_hp.put T_h63 b_h63 f_h63 H_r57 (bAll_ok (by decide) _)
            have qq7 : zsl h63 k0 0 = yR r56 := ((f_h63 k0 0).trans (if_neg (fun e => (bRo.ne H_k0 H_r57 (by decide)) e.1))).trans q_r56
            have qq8 : zsl h63 r56 (p1 : Int).toNat = yR r57 := ((f_h63 r56 (p1 : Int).toNat).trans (if_neg (fun e => (bRo.ne H_r56 H_r57 (by decide)) e.1))).trans q_r57
            have : ys h63 k0 2 = ys hp k0 2 := (y_h63 k0 2).trans (if_neg (fun e => (bRo.ne H_k0 H_r57 (by decide)) e.1))
            refine yG.load xik rfl (fun _ _ => rfl) (v := yI (0)) rfl rfl ?_
            refine yG.ifz rfl (t := 90) rfl ⟨by omega, by omega⟩ (fun c64 => ?_) (fun c64 => ?_)
            · have c64 : (0 : Int) = 0 := c64
              refine yG.load xik rfl (fun _ _ => rfl) (v := yI (1)) rfl rfl ?_
              refine yG.ifz rfl (t := 161) rfl ⟨by omega, by omega⟩ (fun c65 => ?_) (fun c65 => ?_)
              · have c65 : (1 : Int) = 0 := c65
                exfalso; omega
              · have c65 : (1 : Int) ≠ 0 := c65
                refine yG.load xik rfl (fun _ _ => rfl) (v := yI (0)) rfl rfl ?_
                refine yG.ifz rfl (t := 161) rfl ⟨by omega, by omega⟩ (fun c66 => ?_) (fun c66 => ?_)
                · have c66 : (0 : Int) = 0 := c66
                  refine yG.ret rfl (fun _ _ => rfl) ?_
                  exact (yP.void ⟨⟨rfl, trivial⟩, A_h63⟩)
                · have c66 : (0 : Int) ≠ 0 := c66
                  exfalso; omega
            · have c64 : (0 : Int) ≠ 0 := c64
              exfalso; omega
        · have c54 : (p2 : Int) < 32 := c54
          refine yG.num (c := 1) rfl (fun _ _ => rfl) (by decide) ?_
          refine yG.goto rfl (t := 32) rfl ?_
          refine yG.store1 xik (L' := [(6, yI (1)), (5, yI (1)), (0, yR k0), (1, yI (p1)), (2, yI (p2)), (3, yJ (p3))]) rfl (fun _ _ => rfl) rfl rfl ?_
          refine yG.load xik rfl (fun _ _ => rfl) (v := yI (1)) rfl rfl ?_
          refine yG.ifz rfl (t := 62) rfl ⟨by omega, by omega⟩ (fun c67 => ?_) (fun c67 => ?_)
          · have c67 : (1 : Int) = 0 := c67
            exfalso; omega
          · have c67 : (1 : Int) ≠ 0 := c67
            refine yG.load xak rfl (fun _ _ => rfl) (v := yR k0) rfl rfl ?_
            refine yG.getO A_hp.1 (w_Solver_cell W H_k0) rfl rfl (fun r68 H_r68 O_r68 q_r68 => ?_)
            refine yG.load xik rfl (fun _ _ => rfl) (v := yI (p1)) rfl rfl ?_
            refine yG.aaldO (r := 42) A_hp.1 (v_Solver_cell W H_r68) rfl rfl rfl (by omega) (by omega) (fun r69 H_r69 q_r69 => ?_)
            refine yG.load xik rfl (fun _ _ => rfl) (v := yI (p1)) rfl rfl ?_
            refine yG.load xak rfl (fun _ _ => rfl) (v := yR k0) rfl rfl ?_
            refine yG.getS9 A_hp.1 (w_Solver_cell W H_k0) q_r68 rfl rfl ?_
            refine yG.load xik rfl (fun _ _ => rfl) (v := yI (p1)) rfl rfl ?_
            refine yG.aaldO (r := 42) A_hp.1 (v_Solver_cell W H_r68) rfl rfl rfl (by omega) (by omega) (fun r70 H_r70 q_r70 => ?_)
            have s_r70 : r70 = r69 := by have e9 := q_r70.symm.trans q_r69; cases e9; rfl
            rw [s_r70]
            refine yG.load xik rfl (fun _ _ => rfl) (v := yI (p1)) rfl rfl ?_
            refine yG.lald A_hp.1 (v_Solver_cells W H_r69) rfl (by omega) (by omega) (fun z71 e_z71 i_z71 l_z71 u_z71 => ?_)
            refine yG.load xlk2 rfl (fun _ _ => rfl) (v := yJ (p3)) rfl rfl ?_
            refine yG.ladd rfl ?_
            refine yG.load xak rfl (fun _ _ => rfl) (v := yR k0) rfl rfl ?_
            refine yG.getJ A_hp.1 (w_Solver_prime W H_k0) rfl rfl (fun z72 e_z72 i_z72 l_z72 u_z72 => ?_)
            obtain ⟨z73, e_z73, l_z73, u_z73⟩ := ywJ (z71 + p3)
            rw [e_z73]
            refine yG.lremS rfl ⟨by omega, by omega⟩ ⟨by omega, by omega⟩ (by omega) (fun z74 l_z74 u_z74 => ?_)
            refine yG.last A_hp.1 (v_Solver_cells W H_r69) (W.2.1 _ _ H_r69 (by decide) (by decide)) rfl (by omega) (by omega) ⟨by omega, by omega⟩ (by omega) (by omega) (fun h75 T_h75 b_h75 f_h75 y_h75 => ?_)
            have A_h75 := A_hp.put T_h75 b_h75 f_h75 H_r69 (bAll_ok (by decide) _)
            have qq9 : zsl h75 k0 0 = yR r68 := ((f_h75 k0 0).trans (if_neg (fun e => (bRo.ne H_k0 H_r69 (by decide)) e.1))).trans q_r68
            have qq10 : zsl h75 r68 (p1 : Int).toNat = yR r69 := ((f_h75 r68 (p1 : Int).toNat).trans (if_neg (fun e => (bRo.ne H_r68 H_r69 (by decide)) e.1))).trans q_r69
            have : ys h75 k0 2 = ys hp k0 2 := (y_h75 k0 2).trans (if_neg (fun e => (bRo.ne H_k0 H_r69 (by decide)) e.1))
            refine yG.load xik rfl (fun _ _ => rfl) (v := yI (1)) rfl rfl ?_
            refine yG.ifz rfl (t := 90) rfl ⟨by omega, by omega⟩ (fun c76 => ?_) (fun c76 => ?_)
            · have c76 : (1 : Int) = 0 := c76
              exfalso; omega
            · have c76 : (1 : Int) ≠ 0 := c76
              refine yG.load xak rfl (fun _ _ => rfl) (v := yR k0) rfl rfl ?_
              refine yG.getS9 A_h75.1 (w_Solver_cell W H_k0) qq9 rfl rfl ?_
              refine yG.load xik rfl (fun _ _ => rfl) (v := yI (p2)) rfl rfl ?_
              refine yG.aaldO (r := 42) A_h75.1 (v_Solver_cell W H_r68) rfl rfl rfl (by omega) (by omega) (fun r77 H_r77 q_r77 => ?_)
              refine yG.load xik rfl (fun _ _ => rfl) (v := yI (p2)) rfl rfl ?_
              refine yG.load xak rfl (fun _ _ => rfl) (v := yR k0) rfl rfl ?_
              refine yG.getS9 A_h75.1 (w_Solver_cell W H_k0) qq9 rfl rfl ?_
              refine yG.load xik rfl (fun _ _ => rfl) (v := yI (p2)) rfl rfl ?_
              refine yG.aaldO (r := 42) A_h75.1 (v_Solver_cell W H_r68) rfl rfl rfl (by omega) (by omega) (fun r78 H_r78 q_r78 => ?_)
              have s_r78 : r78 = r77 := by have e9 := q_r78.symm.trans q_r77; cases e9; rfl
              rw [s_r78]
              refine yG.load xik rfl (fun _ _ => rfl) (v := yI (p2)) rfl rfl ?_
              refine yG.lald A_h75.1 (v_Solver_cells W H_r77) rfl (by omega) (by omega) (fun z79 e_z79 i_z79 l_z79 u_z79 => ?_)
              refine yG.load xlk2 rfl (fun _ _ => rfl) (v := yJ (p3)) rfl rfl ?_
              refine yG.ladd rfl ?_
              refine yG.load xak rfl (fun _ _ => rfl) (v := yR k0) rfl rfl ?_
              refine yG.getJ A_h75.1 (w_Solver_prime W H_k0) rfl rfl (fun z80 e_z80 i_z80 l_z80 u_z80 => ?_)
              obtain ⟨z81, e_z81, l_z81, u_z81⟩ := ywJ (z79 + p3)
              rw [e_z81]
              refine yG.lremS rfl ⟨by omega, by omega⟩ ⟨by omega, by omega⟩ (by omega) (fun z82 l_z82 u_z82 => ?_)
              refine yG.last A_h75.1 (v_Solver_cells W H_r77) (W.2.1 _ _ H_r77 (by decide) (by decide)) rfl (by omega) (by omega) ⟨by omega, by omega⟩ (by omega) (by omega) (fun h83 T_h83 b_h83 f_h83 y_h83 => ?_)
              have A_h83 := A_h75.put T_h83 b_h83 f_h83 H_r77 (bAll_ok (by decide) _)
              have qq11 : zsl h83 k0 0 = yR r68 := ((f_h83 k0 0).trans (if_neg (fun e => (bRo.ne H_k0 H_r77 (by decide)) e.1))).trans qq9
              have qq12 : zsl h83 r68 (p1 : Int).toNat = yR r69 := ((f_h83 r68 (p1 : Int).toNat).trans (if_neg (fun e => (bRo.ne H_r68 H_r77 (by decide)) e.1))).trans qq10
              have : ys h83 k0 2 = ys h75 k0 2 := (y_h83 k0 2).trans (if_neg (fun e => (bRo.ne H_k0 H_r77 (by decide)) e.1))
              have qq13 : zsl h83 r68 (p2 : Int).toNat = yR r77 := ((f_h83 r68 (p2 : Int).toNat).trans (if_neg (fun e => (bRo.ne H_r68 H_r77 (by decide)) e.1))).trans q_r77
              refine yG.load xik rfl (fun _ _ => rfl) (v := yI (1)) rfl rfl ?_
              refine yG.ifz rfl (t := 161) rfl ⟨by omega, by omega⟩ (fun c84 => ?_) (fun c84 => ?_)
              · have c84 : (1 : Int) = 0 := c84
                exfalso; omega
              · have c84 : (1 : Int) ≠ 0 := c84
                refine yG.load xik rfl (fun _ _ => rfl) (v := yI (1)) rfl rfl ?_
                refine yG.ifz rfl (t := 161) rfl ⟨by omega, by omega⟩ (fun c85 => ?_) (fun c85 => ?_)
                · have c85 : (1 : Int) = 0 := c85
                  exfalso; omega
                · have c85 : (1 : Int) ≠ 0 := c85
                  refine yG.load xak rfl (fun _ _ => rfl) (v := yR k0) rfl rfl ?_
                  refine yG.getJ A_h83.1 (w_Solver_prime W H_k0) rfl rfl (fun z86 e_z86 i_z86 l_z86 u_z86 => ?_)
                  refine yG.load xlk2 rfl (fun _ _ => rfl) (v := yJ (p3)) rfl rfl ?_
                  refine yG.load xak rfl (fun _ _ => rfl) (v := yR k0) rfl rfl ?_
                  refine yG.getJ A_h83.1 (w_Solver_prime W H_k0) rfl rfl (fun z87 e_z87 i_z87 l_z87 u_z87 => ?_)
                  refine yG.lremS rfl ⟨by omega, by omega⟩ ⟨by omega, by omega⟩ (by omega) (fun z88 l_z88 u_z88 => ?_)
                  refine yG.lsub rfl ?_
                  obtain ⟨z89, e_z89⟩ : ∃ z : Int, z = z86 - z88 := ⟨_, rfl⟩
                  rw [← e_z89]
                  refine yG.store2 xlk2 (L' := [(7, yJ (z89)), (6, yI (1)), (5, yI (1)), (0, yR k0), (1, yI (p1)), (2, yI (p2)), (3, yJ (p3))]) rfl (fun _ _ => rfl) rfl rfl ?_
                  refine yG.load xak rfl (fun _ _ => rfl) (v := yR k0) rfl rfl ?_
                  refine yG.getS9 A_h83.1 (w_Solver_cell W H_k0) qq11 rfl rfl ?_
                  refine yG.load xik rfl (fun _ _ => rfl) (v := yI (p1)) rfl rfl ?_
                  refine yG.aaldO (r := 42) A_h83.1 (v_Solver_cell W H_r68) rfl rfl rfl (by omega) (by omega) (fun r90 H_r90 q_r90 => ?_)
                  have s_r90 : r90 = r69 := by have e9 := q_r90.symm.trans qq12; cases e9; rfl
                  rw [s_r90]
                  refine yG.load xik rfl (fun _ _ => rfl) (v := yI (p2)) rfl rfl ?_
                  refine yG.load xak rfl (fun _ _ => rfl) (v := yR k0) rfl rfl ?_
                  refine yG.getS9 A_h83.1 (w_Solver_cell W H_k0) qq11 rfl rfl ?_
                  refine yG.load xik rfl (fun _ _ => rfl) (v := yI (p1)) rfl rfl ?_
                  refine yG.aaldO (r := 42) A_h83.1 (v_Solver_cell W H_r68) rfl rfl rfl (by omega) (by omega) (fun r91 H_r91 q_r91 => ?_)
                  have s_r91 : r91 = r69 := by have e9 := q_r91.symm.trans qq12; cases e9; rfl
                  rw [s_r91]
                  refine yG.load xik rfl (fun _ _ => rfl) (v := yI (p2)) rfl rfl ?_
                  refine yG.lald A_h83.1 (v_Solver_cells W H_r69) rfl (by omega) (by omega) (fun z92 e_z92 i_z92 l_z92 u_z92 => ?_)
                  refine yG.load xlk2 rfl (fun _ _ => rfl) (v := yJ (z89)) rfl rfl ?_
                  refine yG.ladd rfl ?_
                  refine yG.load xak rfl (fun _ _ => rfl) (v := yR k0) rfl rfl ?_
                  refine yG.getJ A_h83.1 (w_Solver_prime W H_k0) rfl rfl (fun z93 e_z93 i_z93 l_z93 u_z93 => ?_)
                  obtain ⟨z94, e_z94, l_z94, u_z94⟩ := ywJ (z92 + z89)
                  rw [e_z94]
                  refine yG.lremS rfl ⟨by omega, by omega⟩ ⟨by omega, by omega⟩ (by omega) (fun z95 l_z95 u_z95 => ?_)
                  refine yG.last A_h83.1 (v_Solver_cells W H_r69) (W.2.1 _ _ H_r69 (by decide) (by decide)) rfl (by omega) (by omega) ⟨by omega, by omega⟩ (by omega) (by omega) (fun h96 T_h96 b_h96 f_h96 y_h96 => ?_)
                  have A_h96 := A_h83.put T_h96 b_h96 f_h96 H_r69 (bAll_ok (by decide) _)
                  have qq14 : zsl h96 k0 0 = yR r68 := ((f_h96 k0 0).trans (if_neg (fun e => (bRo.ne H_k0 H_r69 (by decide)) e.1))).trans qq11
                  have qq15 : zsl h96 r68 (p1 : Int).toNat = yR r69 := ((f_h96 r68 (p1 : Int).toNat).trans (if_neg (fun e => (bRo.ne H_r68 H_r69 (by decide)) e.1))).trans qq12
                  have : ys h96 k0 2 = ys h83 k0 2 := (y_h96 k0 2).trans (if_neg (fun e => (bRo.ne H_k0 H_r69 (by decide)) e.1))
                  have qq16 : zsl h96 r68 (p2 : Int).toNat = yR r77 := ((f_h96 r68 (p2 : Int).toNat).trans (if_neg (fun e => (bRo.ne H_r68 H_r69 (by decide)) e.1))).trans qq13
                  refine yG.load xak rfl (fun _ _ => rfl) (v := yR k0) rfl rfl ?_
                  refine yG.getS9 A_h96.1 (w_Solver_cell W H_k0) qq14 rfl rfl ?_
                  refine yG.load xik rfl (fun _ _ => rfl) (v := yI (p2)) rfl rfl ?_
                  refine yG.aaldO (r := 42) A_h96.1 (v_Solver_cell W H_r68) rfl rfl rfl (by omega) (by omega) (fun r97 H_r97 q_r97 => ?_)
                  have s_r97 : r97 = r77 := by have e9 := q_r97.symm.trans qq16; cases e9; rfl
                  rw [s_r97]
                  refine yG.load xik rfl (fun _ _ => rfl) (v := yI (p1)) rfl rfl ?_
                  refine yG.load xak rfl (fun _ _ => rfl) (v := yR k0) rfl rfl ?_
                  refine yG.getS9 A_h96.1 (w_Solver_cell W H_k0) qq14 rfl rfl ?_
                  refine yG.load xik rfl (fun _ _ => rfl) (v := yI (p2)) rfl rfl ?_
                  refine yG.aaldO (r := 42) A_h96.1 (v_Solver_cell W H_r68) rfl rfl rfl (by omega) (by omega) (fun r98 H_r98 q_r98 => ?_)
                  have s_r98 : r98 = r77 := by have e9 := q_r98.symm.trans qq16; cases e9; rfl
                  rw [s_r98]
                  refine yG.load xik rfl (fun _ _ => rfl) (v := yI (p1)) rfl rfl ?_
                  refine yG.lald A_h96.1 (v_Solver_cells W H_r77) rfl (by omega) (by omega) (fun z99 e_z99 i_z99 l_z99 u_z99 => ?_)
                  refine yG.load xlk2 rfl (fun _ _ => rfl) (v := yJ (z89)) rfl rfl ?_
                  refine yG.ladd rfl ?_
                  refine yG.load xak rfl (fun _ _ => rfl) (v := yR k0) rfl rfl ?_
                  refine yG.getJ A_h96.1 (w_Solver_prime W H_k0) rfl rfl (fun z100 e_z100 i_z100 l_z100 u_z100 => ?_)
                  obtain ⟨z101, e_z101, l_z101, u_z101⟩ := ywJ (z99 + z89)
                  rw [e_z101]
                  refine yG.lremS rfl ⟨by omega, by omega⟩ ⟨by omega, by omega⟩ (by omega) (fun z102 l_z102 u_z102 => ?_)
                  refine yG.last A_h96.1 (v_Solver_cells W H_r77) (W.2.1 _ _ H_r77 (by decide) (by decide)) rfl (by omega) (by omega) ⟨by omega, by omega⟩ (by omega) (by omega) (fun h103 T_h103 b_h103 f_h103 y_h103 => ?_)
                  have A_h103 := A_h96.put T_h103 b_h103 f_h103 H_r77 (bAll_ok (by decide) _)
                  have qq17 : zsl h103 k0 0 = yR r68 := ((f_h103 k0 0).trans (if_neg (fun e => (bRo.ne H_k0 H_r77 (by decide)) e.1))).trans qq14
                  have qq18 : zsl h103 r68 (p1 : Int).toNat = yR r69 := ((f_h103 r68 (p1 : Int).toNat).trans (if_neg (fun e => (bRo.ne H_r68 H_r77 (by decide)) e.1))).trans qq15
                  have : ys h103 k0 2 = ys h96 k0 2 := (y_h103 k0 2).trans (if_neg (fun e => (bRo.ne H_k0 H_r77 (by decide)) e.1))
                  have qq19 : zsl h103 r68 (p2 : Int).toNat = yR r77 := ((f_h103 r68 (p2 : Int).toNat).trans (if_neg (fun e => (bRo.ne H_r68 H_r77 (by decide)) e.1))).trans qq16
                  refine yG.ret rfl (fun _ _ => rfl) ?_
                  exact (yP.void ⟨⟨rfl, trivial⟩, A_h103⟩)
theorem c_Solver_blank {hp : xH} (W : bW G) (d : Nat) (hT : zTy G hp) {k0 : Nat} (H_k0 : bRo G 40 k0) (p1 p2 : Int) (h1l : (-2147483648) ≤ p1) (h1u : p1 ≤ 2147483647) (h2l : (-2147483648) ≤ p2) (h2u : p2 ≤ 2147483647) : yC (xcall 89 xfts xpools xms (d + 1)) 249 [yR k0, yI (p1), yI (p2)] hp (fun rv hp' => (rv = none ∧ True) ∧ bAx G [(4398046511104, 256)] hp hp') := by
  have A_hp : bAx G [(4398046511104, 256)] hp hp := bAx.rf hT
  have H : ∀ m : Nat, (∀ a3 : Int, ∀ hq, bAx G [(4398046511104, 256)] hp hq → 0 ≤ a3 → (-32) ≤ 0 - a3 → (-2147483648) ≤ p1 → (-2147483647) ≤ 0 - p1 → (-2147483648) ≤ p2 → (-2147483647) ≤ 0 - p2 → (-2147483648) ≤ 0 - a3 + p1 → 0 - 99 * a3 + 3266 < (m : Int) → yG 89 xfts (xcall 89 xfts xpools xms d) (xpool xp_RX10) [] xt_X10_blank (yP 0 (fun rv hp' => (rv = none ∧ True) ∧ bAx G [(4398046511104, 256)] hp hp')) (15 * m) 2 [(0, yR k0), (1, yI (p1)), (2, yI (p2)), (3, yI (a3))] [] hq) ∧ (∀ a3 : Int, ∀ a4 : Nat, ∀ a5 : Int, ∀ hq, bAx G [(4398046511104, 256)] hp hq → bRo G 42 a4 → 0 ≤ a3 → (-31) ≤ 0 - a3 → 0 ≤ a5 → (-48) ≤ 0 - a5 → 1 ≤ p1 → (-2147483647) ≤ 0 - p1 → (-2147483648) ≤ p2 → (-2147483647) ≤ 0 - p2 → 1 ≤ 0 - a3 + p1 → (-2147483648) ≤ 0 - a5 + p2 → 0 - 99 * a3 - 2 * a5 + 3265 < (m : Int) → yG 89 xfts (xcall 89 xfts xpools xms d) (xpool xp_RX10) [] xt_X10_blank (yP 0 (fun rv hp' => (rv = none ∧ True) ∧ bAx G [(4398046511104, 256)] hp hp')) (15 * m) 24 [(0, yR k0), (1, yI (p1)), (2, yI (p2)), (3, yI (a3)), (4, yR a4), (5, yI (a5))] [] hq) := by
    intro m
    induction m with
    | zero =>
      refine ⟨?_, ?_⟩ <;> (intros; exfalso; omega)
    | succ m ih =>
      obtain ⟨i_2, i_24⟩ := ih
      refine ⟨?_, ?_⟩
      · intro a3 hq A_hq f0 f1 f2 f3 f4 f5 f6 hm
        refine yG.mono (N := 15 * m + 15) ?_ (by omega)
        refine yG.load xik rfl (fun _ _ => rfl) (v := yI (a3)) rfl rfl ?_
        refine yG.load xik rfl (fun _ _ => rfl) (v := yI (p1)) rfl rfl ?_
        refine yG.icmp rfl (t := 55) rfl ⟨by omega, by omega⟩ ⟨by omega, by omega⟩ (fun c1 => ?_) (fun c1 => ?_)
        · have c1 : (a3 : Int) ≥ p1 := c1
          refine yG.ret rfl (fun _ _ => rfl) ?_
          exact (yP.void ⟨⟨rfl, trivial⟩, A_hq⟩)
        · have c1 : (a3 : Int) < p1 := c1
          refine yG.load xik rfl (fun _ _ => rfl) (v := yI (a3)) rfl rfl ?_
          refine yG.num (c := 32) rfl (fun _ _ => rfl) (by decide) ?_
          refine yG.icmp rfl (t := 55) rfl ⟨by omega, by omega⟩ ⟨by omega, by omega⟩ (fun c2 => ?_) (fun c2 => ?_)
          · have c2 : (a3 : Int) ≥ 32 := c2
            refine yG.ret rfl (fun _ _ => rfl) ?_
            exact (yP.void ⟨⟨rfl, trivial⟩, A_hq⟩)
          · have c2 : (a3 : Int) < 32 := c2
            refine yG.load xak rfl (fun _ _ => rfl) (v := yR k0) rfl rfl ?_
            refine yG.getO A_hq.1 (w_Solver_cell W H_k0) rfl rfl (fun r3 H_r3 O_r3 q_r3 => ?_)
            refine yG.load xik rfl (fun _ _ => rfl) (v := yI (a3)) rfl rfl ?_
            refine yG.aaldO (r := 42) A_hq.1 (v_Solver_cell W H_r3) rfl rfl rfl (by omega) (by omega) (fun r4 H_r4 q_r4 => ?_)
            refine yG.store1 xak (L' := [(4, yR r4), (0, yR k0), (1, yI (p1)), (2, yI (p2)), (3, yI (a3))]) rfl (fun _ _ => rfl) rfl rfl ?_
            refine yG.num (c := 0) rfl (fun _ _ => rfl) (by decide) ?_
            refine yG.store1 xik (L' := [(5, yI (0)), (4, yR r4), (0, yR k0), (1, yI (p1)), (2, yI (p2)), (3, yI (a3))]) rfl (fun _ _ => rfl) rfl rfl ?_
            exact yG.mono (yG.sub (i_24 (a3) r4 (0)  hq A_hq H_r4  (by omega) (by omega) (by omega) (by omega) (by omega) (by omega) (by omega) (by omega) (by omega) (by omega) (by omega)) (ySub.cons rfl (ySub.cons rfl (ySub.cons rfl (ySub.cons rfl (ySub.cons rfl (ySub.cons rfl (ySub.nil)))))))) (by omega)
      · intro a3 a4 a5 hq A_hq H_a4 f0 f1 f2 f3 f4 f5 f6 f7 f8 f9 hm
        refine yG.mono (N := 15 * m + 15) ?_ (by omega)
        refine yG.load xik rfl (fun _ _ => rfl) (v := yI (a5)) rfl rfl ?_
        refine yG.load xik rfl (fun _ _ => rfl) (v := yI (p2)) rfl rfl ?_
        refine yG.icmp rfl (t := 49) rfl ⟨by omega, by omega⟩ ⟨by omega, by omega⟩ (fun c1 => ?_) (fun c1 => ?_)
        · have c1 : (a5 : Int) ≥ p2 := c1
          refine yG.iinc rfl (a := a3) rfl (L' := [(3, yI (a3 + 1)), (0, yR k0), (1, yI (p1)), (2, yI (p2)), (4, yR a4), (5, yI (a5))]) rfl ?_
          refine yG.goto rfl (t := 2) rfl ?_
          exact yG.mono (yG.sub (i_2 (a3 + 1)  hq A_hq   (by omega) (by omega) (by omega) (by omega) (by omega) (by omega) (by omega) (by omega)) (ySub.cons rfl (ySub.cons rfl (ySub.cons rfl (ySub.cons rfl (ySub.nil)))))) (by omega)
        · have c1 : (a5 : Int) < p2 := c1
          refine yG.load xik rfl (fun _ _ => rfl) (v := yI (a5)) rfl rfl ?_
          refine yG.num (c := 48) rfl (fun _ _ => rfl) (by decide) ?_
          refine yG.icmp rfl (t := 49) rfl ⟨by omega, by omega⟩ ⟨by omega, by omega⟩ (fun c2 => ?_) (fun c2 => ?_)
          · have c2 : (a5 : Int) ≥ 48 := c2
            refine yG.iinc rfl (a := a3) rfl (L' := [(3, yI (a3 + 1)), (0, yR k0), (1, yI (p1)), (2, yI (p2)), (4, yR a4), (5, yI (a5))]) rfl ?_
            refine yG.goto rfl (t := 2) rfl ?_
            exact yG.mono (yG.sub (i_2 (a3 + 1)  hq A_hq   (by omega) (by omega) (by omega) (by omega) (by omega) (by omega) (by omega) (by omega)) (ySub.cons rfl (ySub.cons rfl (ySub.cons rfl (ySub.cons rfl (ySub.nil)))))) (by omega)
          · have c2 : (a5 : Int) < 48 := c2
            refine yG.load xak rfl (fun _ _ => rfl) (v := yR a4) rfl rfl ?_
            refine yG.load xik rfl (fun _ _ => rfl) (v := yI (a5)) rfl rfl ?_
            refine yG.numl (c := 0) rfl (fun _ _ => rfl) (by decide) ?_
            refine yG.last A_hq.1 (v_Solver_cells W H_a4) (W.2.1 _ _ H_a4 (by decide) (by decide)) rfl (by omega) (by omega) ⟨by omega, by omega⟩ (by omega) (by omega) (fun h3 T_h3 b_h3 f_h3 y_h3 => ?_)
            have A_h3 := A_hq.put T_h3 b_h3 f_h3 H_a4 (bAll_ok (by decide) _)
            refine yG.iinc rfl (a := a5) rfl (L' := [(5, yI (a5 + 1)), (0, yR k0), (1, yI (p1)), (2, yI (p2)), (3, yI (a3)), (4, yR a4)]) rfl ?_
            refine yG.goto rfl (t := 24) rfl ?_
            exact yG.mono (yG.sub (i_24 (a3) a4 (a5 + 1)  h3 A_h3 H_a4  (by omega) (by omega) (by omega) (by omega) (by omega) (by omega) (by omega) (by omega) (by omega) (by omega) (by omega)) (ySub.cons rfl (ySub.cons rfl (ySub.cons rfl (ySub.cons rfl (ySub.cons rfl (ySub.cons rfl (ySub.nil)))))))) (by omega)
  refine yC.of (M := (xt_X10_blank, (6, (0, (11, []))))) rfl rfl (N := 49035) (yfuel (by decide)) ?_
  show yG 89 xfts (xcall 89 xfts xpools xms d) (xpool xp_RX10) [] xt_X10_blank (yP 0 (fun rv hp' => (rv = none ∧ True) ∧ bAx G [(4398046511104, 256)] hp hp')) 49035 0 [(0, yR k0), (1, yI (p1)), (2, yI (p2))] [] hp
  obtain ⟨i_2, i_24⟩ := H 3268
  refine yG.num (c := 0) rfl (fun _ _ => rfl) (by decide) ?_
  refine yG.store1 xik (L' := [(3, yI (0)), (0, yR k0), (1, yI (p1)), (2, yI (p2))]) rfl (fun _ _ => rfl) rfl rfl ?_
  exact yG.mono (yG.sub (i_2 (0)  hp A_hp   (by omega) (by omega) (by omega) (by omega) (by omega) (by omega) (by omega) (by omega)) (ySub.cons rfl (ySub.cons rfl (ySub.cons rfl (ySub.cons rfl (ySub.nil)))))) (by omega)
theorem c_Solver_times {hp : xH} (W : bW G) (d : Nat) (hT : zTy G hp) {k0 : Nat} (H_k0 : bRo G 40 k0) (p1 : Int) (h1l : (-9223372036854775808) ≤ p1) (h1u : p1 ≤ 9223372036854775807) : yC (xcall 89 xfts xpools xms (d + 1)) 264 [yR k0, yJ (p1)] hp (bQpj hp (-2147483646) 2147483646 (fun _ => True)) := by
  have A_hp : bAx G [] hp hp := bAx.rf hT
  refine yC.of (M := (xt_X10_times, (3, (2, (11, []))))) rfl rfl (N := 30) (yfuel (by decide)) ?_
  show yG 89 xfts (xcall 89 xfts xpools xms d) (xpool xp_RX10) [] xt_X10_times (yP 2 (bQpj hp (-2147483646) 2147483646 (fun _ => True))) 30 0 [(0, yR k0), (1, yJ (p1))] [] hp
  refine yG.load xak rfl (fun _ _ => rfl) (v := yR k0) rfl rfl ?_
  refine yG.getJ A_hp.1 (w_Solver_determinant W H_k0) rfl rfl (fun z1 e_z1 i_z1 l_z1 u_z1 => ?_)
  refine yG.load xlk2 rfl (fun _ _ => rfl) (v := yJ (p1)) rfl rfl ?_
  refine yG.lmul rfl ?_
  obtain ⟨z2, e_z2⟩ : ∃ z : Int, z = z1 * p1 := ⟨_, rfl⟩
  rw [← e_z2]
  have b_z2 : -85070591730234615865843651857942052864 ≤ z2 ∧ z2 ≤ 85070591730234615865843651857942052864 := e_z2 ▸ ymuls (A := 9223372036854775808) (B := 9223372036854775808) (by omega) (by omega) (by omega) (by omega) (by decide)
  refine yG.load xak rfl (fun _ _ => rfl) (v := yR k0) rfl rfl ?_
  refine yG.getJ A_hp.1 (w_Solver_prime W H_k0) rfl rfl (fun z3 e_z3 i_z3 l_z3 u_z3 => ?_)
  obtain ⟨z4, e_z4, l_z4, u_z4⟩ := ywJ (z2)
  rw [e_z4]
  refine yG.lremS rfl ⟨by omega, by omega⟩ ⟨by omega, by omega⟩ (by omega) (fun z5 l_z5 u_z5 => ?_)
  refine yG.ret rfl (fun _ _ => rfl) ?_
  exact (yP.long ⟨by omega, by omega⟩ ⟨⟨z5, rfl, by omega, by omega, trivial⟩, rfl⟩)
theorem c_Solver_start {hp : xH} (W : bW G) (d : Nat) (hT : zTy G hp) {k0 : Nat} (H_k0 : bRo G 40 k0) (p1 : Int) (h1l : (-2147483648) ≤ p1) (h1u : p1 ≤ 2147483647) : yC (xcall 89 xfts xpools xms (d + 3)) 261 [yR k0, yI (p1)] hp (fun rv hp' => (rv = none ∧ True) ∧ bAx G [(34359738368, 1), (34359738368, 2), (1099511627776, 7), (1099511627776, 8), (68719476736, 256)] hp hp') := by
  have A_hp : bAx G [(34359738368, 1), (34359738368, 2), (1099511627776, 7), (1099511627776, 8), (68719476736, 256)] hp hp := bAx.rf hT
  refine yC.of (M := (xt_X10_start, (2, (0, (11, []))))) rfl rfl (N := 45) (yfuel (by decide)) ?_
  show yG 89 xfts (xcall 89 xfts xpools xms (d + 2)) (xpool xp_RX10) [] xt_X10_start (yP 0 (fun rv hp' => (rv = none ∧ True) ∧ bAx G [(34359738368, 1), (34359738368, 2), (1099511627776, 7), (1099511627776, 8), (68719476736, 256)] hp hp')) 45 0 [(0, yR k0), (1, yI (p1))] [] hp
  refine yG.load xak rfl (fun _ _ => rfl) (v := yR k0) rfl rfl ?_
  refine yG.num (c := 0) rfl (fun _ _ => rfl) (by decide) ?_
  refine yG.putI A_hp.1 (w_Solver_next W H_k0) (W.2.1 _ _ H_k0 (by decide) (by decide)) rfl rfl (.inl rfl) ⟨by omega, by omega⟩ (by omega) (by omega) (fun h1 T_h1 b_h1 f_h1 y_h1 => ?_)
  have A_h1 := A_hp.put T_h1 b_h1 f_h1 H_k0 (by decide)
  refine yG.load xak rfl (fun _ _ => rfl) (v := yR k0) rfl rfl ?_
  refine yG.load xik rfl (fun _ _ => rfl) (v := yI (p1)) rfl rfl ?_
  refine yG.num (c := 2) rfl (fun _ _ => rfl) (by decide) ?_
  refine yG.iadd rfl ?_
  obtain ⟨z3, e_z3, l_z3, u_z3⟩ := ywI (p1 + 2)
  rw [e_z3]
  refine yG.putI A_h1.1 (w_Solver_bitsLeft W H_k0) (W.2.1 _ _ H_k0 (by decide) (by decide)) rfl rfl (.inl rfl) ⟨by omega, by omega⟩ (by omega) (by omega) (fun h2 T_h2 b_h2 f_h2 y_h2 => ?_)
  have A_h2 := A_h1.put T_h2 b_h2 f_h2 H_k0 (by decide)
  refine yG.load xak rfl (fun _ _ => rfl) (v := yR k0) rfl rfl ?_
  refine yG.getO A_h2.1 (w_Solver_modulus W H_k0) rfl rfl (fun r4 H_r4 O_r4 q_r4 => ?_)
  obtain ⟨n_r4, N_r4⟩ : ∃ n : Int, n = ((zat G r4 : Nat) : Int) := ⟨_, rfl⟩
  have L_r4 := n_Big W H_r4
  refine yG.numl (c := 1) rfl (fun _ _ => rfl) (by decide) ?_
  refine yG.invV (rest := []) A_h2.1 (bOb (d_Big W) H_r4) rfl rfl rfl rfl (c_Big_put W d A_h2.1 H_r4 (1) (by omega) (by omega)) (fun rv h5 q9 => ?_)
  obtain ⟨⟨rfl, R_z6⟩, B_h5⟩ := q9
  have A_h5 := A_h2.tr B_h5 (by decide)
  show yG _ _ _ _ _ _ _ _ _ _ [] _
  refine yG.ret rfl (fun _ _ => rfl) ?_
  exact (yP.void ⟨⟨rfl, trivial⟩, A_h5⟩)
theorem c_Solver_start__16 {hp : xH} (W : bW G) (d : Nat) (hT : zTy G hp) {k0 : Nat} (H_k0 : bRo G 40 k0) {k2 : Nat} (H_k2 : bRo G 49 k2) {k3 : Nat} (H_k3 : bRo G 35 k3) (p1 : Int) (h1l : (-2147483648) ≤ p1) (h1u : p1 ≤ 2147483647) : yC (xcall 89 xfts xpools xms (d + 3)) 262 [yR k0, yI (p1), yR k2, yR k3] hp (fun rv hp' => (rv = none ∧ True) ∧ bAx G [(34359738368, 1), (34359738368, 2), (1099511627776, 7), (1099511627776, 8), (68719476736, 256)] hp hp') := by
  have A_hp : bAx G [(34359738368, 1), (34359738368, 2), (1099511627776, 7), (1099511627776, 8), (68719476736, 256)] hp hp := bAx.rf hT
  obtain ⟨n_k3, N_k3⟩ : ∃ n : Int, n = ((zat G k3 : Nat) : Int) := ⟨_, rfl⟩
  have L_k3 := n_Big W H_k3
  have H : ∀ m : Nat, (∀ a4 : Int, ∀ hq, bAx G [(34359738368, 1), (34359738368, 2), (1099511627776, 7), (1099511627776, 8), (68719476736, 256)] hp hq → 0 ≤ a4 → (-16) ≤ 0 - a4 → (-2147483648) ≤ p1 → (-2147483647) ≤ 0 - p1 → 12 ≤ n_k3 → (-96) ≤ 0 - n_k3 → 0 - 2 * a4 + 33 < (m : Int) → yG 89 xfts (xcall 89 xfts xpools xms (d + 2)) (xpool xp_RX10) [] xt_X10_start_ (yP 0 (fun rv hp' => (rv = none ∧ True) ∧ bAx G [(34359738368, 1), (34359738368, 2), (1099511627776, 7), (1099511627776, 8), (68719476736, 256)] hp hp')) (19 * m) 28 [(2, yR k2), (4, yI (a4))] [] hq) := by
    intro m
    induction m with
    | zero =>
      intros; exfalso; omega
    | succ m ih =>
      have i_28 := ih
      clear ih
      intro a4 hq A_hq f0 f1 f2 f3 f4 f5 hm
      refine yG.mono (N := 19 * m + 19) ?_ (by omega)
      refine yG.load xik rfl (fun _ _ => rfl) (v := yI (a4)) rfl rfl ?_
      refine yG.load xak rfl (fun _ _ => rfl) (v := yR k2) rfl rfl ?_
      refine yG.alenF A_hq.1 (v_Big16 W H_k2) rfl ?_
      obtain ⟨z1, e_z1⟩ : ∃ z : Int, z = ((16 : Nat) : Int) := ⟨_, rfl⟩
      rw [← e_z1]
      refine yG.icmp rfl (t := 49) rfl ⟨by omega, by omega⟩ ⟨by omega, by omega⟩ (fun c2 => ?_) (fun c2 => ?_)
      · have c2 : (a4 : Int) ≥ z1 := c2
        refine yG.ret rfl (fun _ _ => rfl) ?_
        exact (yP.void ⟨⟨rfl, trivial⟩, A_hq⟩)
      · have c2 : (a4 : Int) < z1 := c2
        refine yG.load xak rfl (fun _ _ => rfl) (v := yR k2) rfl rfl ?_
        refine yG.load xik rfl (fun _ _ => rfl) (v := yI (a4)) rfl rfl ?_
        refine yG.aaldO (r := 35) A_hq.1 (v_Big16 W H_k2) rfl rfl rfl (by omega) (by omega) (fun r3 H_r3 q_r3 => ?_)
        obtain ⟨n_r3, N_r3⟩ : ∃ n : Int, n = ((zat G r3 : Nat) : Int) := ⟨_, rfl⟩
        have L_r3 := n_Big W H_r3
        refine yG.numl (c := 0) rfl (fun _ _ => rfl) (by decide) ?_
        refine yG.invV (rest := []) A_hq.1 (bOb (d_Big W) H_r3) rfl rfl rfl rfl (c_Big_put W d A_hq.1 H_r3 (0) (by omega) (by omega)) (fun rv h4 q9 => ?_)
        obtain ⟨⟨rfl, R_z5⟩, B_h4⟩ := q9
        have A_h4 := A_hq.tr B_h4 (by decide)
        show yG _ _ _ _ _ _ _ _ _ _ [] _
        refine yG.iinc rfl (a := a4) rfl (L' := [(4, yI (a4 + 1)), (2, yR k2)]) rfl ?_
        refine yG.goto rfl (t := 28) rfl ?_
        exact yG.mono (yG.sub (i_28 (a4 + 1)  h4 A_h4   (by omega) (by omega) (by omega) (by omega) (by omega) (by omega) (by omega)) (ySub.cons rfl (ySub.cons rfl (ySub.nil)))) (by omega)
  refine yC.of (M := (xt_X10_start_, (5, (0, (11, []))))) rfl rfl (N := 684) (yfuel (by decide)) ?_
  show yG 89 xfts (xcall 89 xfts xpools xms (d + 2)) (xpool xp_RX10) [] xt_X10_start_ (yP 0 (fun rv hp' => (rv = none ∧ True) ∧ bAx G [(34359738368, 1), (34359738368, 2), (1099511627776, 7), (1099511627776, 8), (68719476736, 256)] hp hp')) 684 0 [(0, yR k0), (1, yI (p1)), (2, yR k2), (3, yR k3)] [] hp
  have i_28 := H 35
  refine yG.load xak rfl (fun _ _ => rfl) (v := yR k0) rfl rfl ?_
  refine yG.num (c := 0) rfl (fun _ _ => rfl) (by decide) ?_
  refine yG.putI A_hp.1 (w_Solver_next W H_k0) (W.2.1 _ _ H_k0 (by decide) (by decide)) rfl rfl (.inl rfl) ⟨by omega, by omega⟩ (by omega) (by omega) (fun h1 T_h1 b_h1 f_h1 y_h1 => ?_)
  have A_h1 := A_hp.put T_h1 b_h1 f_h1 H_k0 (by decide)
  refine yG.load xak rfl (fun _ _ => rfl) (v := yR k0) rfl rfl ?_
  refine yG.load xik rfl (fun _ _ => rfl) (v := yI (p1)) rfl rfl ?_
  refine yG.num (c := 2) rfl (fun _ _ => rfl) (by decide) ?_
  refine yG.iadd rfl ?_
  obtain ⟨z3, e_z3, l_z3, u_z3⟩ := ywI (p1 + 2)
  rw [e_z3]
  refine yG.putI A_h1.1 (w_Solver_bitsLeft W H_k0) (W.2.1 _ _ H_k0 (by decide) (by decide)) rfl rfl (.inl rfl) ⟨by omega, by omega⟩ (by omega) (by omega) (fun h2 T_h2 b_h2 f_h2 y_h2 => ?_)
  have A_h2 := A_h1.put T_h2 b_h2 f_h2 H_k0 (by decide)
  refine yG.load xak rfl (fun _ _ => rfl) (v := yR k0) rfl rfl ?_
  refine yG.getO A_h2.1 (w_Solver_modulus W H_k0) rfl rfl (fun r4 H_r4 O_r4 q_r4 => ?_)
  obtain ⟨n_r4, N_r4⟩ : ∃ n : Int, n = ((zat G r4 : Nat) : Int) := ⟨_, rfl⟩
  have L_r4 := n_Big W H_r4
  refine yG.numl (c := 1) rfl (fun _ _ => rfl) (by decide) ?_
  refine yG.invV (rest := []) A_h2.1 (bOb (d_Big W) H_r4) rfl rfl rfl rfl (c_Big_put W d A_h2.1 H_r4 (1) (by omega) (by omega)) (fun rv h5 q9 => ?_)
  obtain ⟨⟨rfl, R_z6⟩, B_h5⟩ := q9
  have A_h5 := A_h2.tr B_h5 (by decide)
  show yG _ _ _ _ _ _ _ _ _ _ [] _
  refine yG.load xak rfl (fun _ _ => rfl) (v := yR k3) rfl rfl ?_
  refine yG.numl (c := 0) rfl (fun _ _ => rfl) (by decide) ?_
  refine yG.invV (rest := []) A_h5.1 (bOb (d_Big W) H_k3) rfl rfl rfl rfl (c_Big_put W d A_h5.1 H_k3 (0) (by omega) (by omega)) (fun rv h7 q9 => ?_)
  obtain ⟨⟨rfl, R_z8⟩, B_h7⟩ := q9
  have A_h7 := A_h5.tr B_h7 (by decide)
  show yG _ _ _ _ _ _ _ _ _ _ [] _
  refine yG.num (c := 0) rfl (fun _ _ => rfl) (by decide) ?_
  refine yG.store1 xik (L' := [(4, yI (0)), (0, yR k0), (1, yI (p1)), (2, yR k2), (3, yR k3)]) rfl (fun _ _ => rfl) rfl rfl ?_
  exact yG.mono (yG.sub (i_28 (0)  h7 A_h7   (by omega) (by omega) (by omega) (by omega) (by omega) (by omega) (by omega)) (ySub.cons rfl (ySub.cons rfl (ySub.nil)))) (by omega)
theorem c_Solver_start__17 {hp : xH} (W : bW G) (d : Nat) (hT : zTy G hp) {k0 : Nat} (H_k0 : bRo G 40 k0) {k2 : Nat} (H_k2 : bRo G 77 k2) {k3 : Nat} (H_k3 : bRo G 35 k3) (p1 : Int) (h1l : (-2147483648) ≤ p1) (h1u : p1 ≤ 2147483647) : yC (xcall 89 xfts xpools xms (d + 3)) 262 [yR k0, yI (p1), yR k2, yR k3] hp (fun rv hp' => (rv = none ∧ True) ∧ bAx G [(34359738368, 1), (34359738368, 2), (1099511627776, 7), (1099511627776, 8), (68719476736, 256)] hp hp') := by
  have A_hp : bAx G [(34359738368, 1), (34359738368, 2), (1099511627776, 7), (1099511627776, 8), (68719476736, 256)] hp hp := bAx.rf hT
  obtain ⟨n_k3, N_k3⟩ : ∃ n : Int, n = ((zat G k3 : Nat) : Int) := ⟨_, rfl⟩
  have L_k3 := n_Big W H_k3
  have H : ∀ m : Nat, (∀ a4 : Int, ∀ hq, bAx G [(34359738368, 1), (34359738368, 2), (1099511627776, 7), (1099511627776, 8), (68719476736, 256)] hp hq → 0 ≤ a4 → (-17) ≤ 0 - a4 → (-2147483648) ≤ p1 → (-2147483647) ≤ 0 - p1 → 12 ≤ n_k3 → (-96) ≤ 0 - n_k3 → 0 - 2 * a4 + 35 < (m : Int) → yG 89 xfts (xcall 89 xfts xpools xms (d + 2)) (xpool xp_RX10) [] xt_X10_start_ (yP 0 (fun rv hp' => (rv = none ∧ True) ∧ bAx G [(34359738368, 1), (34359738368, 2), (1099511627776, 7), (1099511627776, 8), (68719476736, 256)] hp hp')) (19 * m) 28 [(2, yR k2), (4, yI (a4))] [] hq) := by
    intro m
    induction m with
    | zero =>
      intros; exfalso; omega
    | succ m ih =>
      have i_28 := ih
      clear ih
      intro a4 hq A_hq f0 f1 f2 f3 f4 f5 hm
      refine yG.mono (N := 19 * m + 19) ?_ (by omega)
      refine yG.load xik rfl (fun _ _ => rfl) (v := yI (a4)) rfl rfl ?_
      refine yG.load xak rfl (fun _ _ => rfl) (v := yR k2) rfl rfl ?_
      refine yG.alenF A_hq.1 (v_Big17 W H_k2) rfl ?_
      obtain ⟨z1, e_z1⟩ : ∃ z : Int, z = ((17 : Nat) : Int) := ⟨_, rfl⟩
      rw [← e_z1]
      refine yG.icmp rfl (t := 49) rfl ⟨by omega, by omega⟩ ⟨by omega, by omega⟩ (fun c2 => ?_) (fun c2 => ?_)
      · have c2 : (a4 : Int) ≥ z1 := c2
        refine yG.ret rfl (fun _ _ => rfl) ?_
        exact (yP.void ⟨⟨rfl, trivial⟩, A_hq⟩)
      · have c2 : (a4 : Int) < z1 := c2
        refine yG.load xak rfl (fun _ _ => rfl) (v := yR k2) rfl rfl ?_
        refine yG.load xik rfl (fun _ _ => rfl) (v := yI (a4)) rfl rfl ?_
        refine yG.aaldO (r := 35) A_hq.1 (v_Big17 W H_k2) rfl rfl rfl (by omega) (by omega) (fun r3 H_r3 q_r3 => ?_)
        obtain ⟨n_r3, N_r3⟩ : ∃ n : Int, n = ((zat G r3 : Nat) : Int) := ⟨_, rfl⟩
        have L_r3 := n_Big W H_r3
        refine yG.numl (c := 0) rfl (fun _ _ => rfl) (by decide) ?_
        refine yG.invV (rest := []) A_hq.1 (bOb (d_Big W) H_r3) rfl rfl rfl rfl (c_Big_put W d A_hq.1 H_r3 (0) (by omega) (by omega)) (fun rv h4 q9 => ?_)
        obtain ⟨⟨rfl, R_z5⟩, B_h4⟩ := q9
        have A_h4 := A_hq.tr B_h4 (by decide)
        show yG _ _ _ _ _ _ _ _ _ _ [] _
        refine yG.iinc rfl (a := a4) rfl (L' := [(4, yI (a4 + 1)), (2, yR k2)]) rfl ?_
        refine yG.goto rfl (t := 28) rfl ?_
        exact yG.mono (yG.sub (i_28 (a4 + 1)  h4 A_h4   (by omega) (by omega) (by omega) (by omega) (by omega) (by omega) (by omega)) (ySub.cons rfl (ySub.cons rfl (ySub.nil)))) (by omega)
  refine yC.of (M := (xt_X10_start_, (5, (0, (11, []))))) rfl rfl (N := 722) (yfuel (by decide)) ?_
  show yG 89 xfts (xcall 89 xfts xpools xms (d + 2)) (xpool xp_RX10) [] xt_X10_start_ (yP 0 (fun rv hp' => (rv = none ∧ True) ∧ bAx G [(34359738368, 1), (34359738368, 2), (1099511627776, 7), (1099511627776, 8), (68719476736, 256)] hp hp')) 722 0 [(0, yR k0), (1, yI (p1)), (2, yR k2), (3, yR k3)] [] hp
  have i_28 := H 37
  refine yG.load xak rfl (fun _ _ => rfl) (v := yR k0) rfl rfl ?_
  refine yG.num (c := 0) rfl (fun _ _ => rfl) (by decide) ?_
  refine yG.putI A_hp.1 (w_Solver_next W H_k0) (W.2.1 _ _ H_k0 (by decide) (by decide)) rfl rfl (.inl rfl) ⟨by omega, by omega⟩ (by omega) (by omega) (fun h1 T_h1 b_h1 f_h1 y_h1 => ?_)
  have A_h1 := A_hp.put T_h1 b_h1 f_h1 H_k0 (by decide)
  refine yG.load xak rfl (fun _ _ => rfl) (v := yR k0) rfl rfl ?_
  refine yG.load xik rfl (fun _ _ => rfl) (v := yI (p1)) rfl rfl ?_
  refine yG.num (c := 2) rfl (fun _ _ => rfl) (by decide) ?_
  refine yG.iadd rfl ?_
  obtain ⟨z3, e_z3, l_z3, u_z3⟩ := ywI (p1 + 2)
  rw [e_z3]
  refine yG.putI A_h1.1 (w_Solver_bitsLeft W H_k0) (W.2.1 _ _ H_k0 (by decide) (by decide)) rfl rfl (.inl rfl) ⟨by omega, by omega⟩ (by omega) (by omega) (fun h2 T_h2 b_h2 f_h2 y_h2 => ?_)
  have A_h2 := A_h1.put T_h2 b_h2 f_h2 H_k0 (by decide)
  refine yG.load xak rfl (fun _ _ => rfl) (v := yR k0) rfl rfl ?_
  refine yG.getO A_h2.1 (w_Solver_modulus W H_k0) rfl rfl (fun r4 H_r4 O_r4 q_r4 => ?_)
  obtain ⟨n_r4, N_r4⟩ : ∃ n : Int, n = ((zat G r4 : Nat) : Int) := ⟨_, rfl⟩
  have L_r4 := n_Big W H_r4
  refine yG.numl (c := 1) rfl (fun _ _ => rfl) (by decide) ?_
  refine yG.invV (rest := []) A_h2.1 (bOb (d_Big W) H_r4) rfl rfl rfl rfl (c_Big_put W d A_h2.1 H_r4 (1) (by omega) (by omega)) (fun rv h5 q9 => ?_)
  obtain ⟨⟨rfl, R_z6⟩, B_h5⟩ := q9
  have A_h5 := A_h2.tr B_h5 (by decide)
  show yG _ _ _ _ _ _ _ _ _ _ [] _
  refine yG.load xak rfl (fun _ _ => rfl) (v := yR k3) rfl rfl ?_
  refine yG.numl (c := 0) rfl (fun _ _ => rfl) (by decide) ?_
  refine yG.invV (rest := []) A_h5.1 (bOb (d_Big W) H_k3) rfl rfl rfl rfl (c_Big_put W d A_h5.1 H_k3 (0) (by omega) (by omega)) (fun rv h7 q9 => ?_)
  obtain ⟨⟨rfl, R_z8⟩, B_h7⟩ := q9
  have A_h7 := A_h5.tr B_h7 (by decide)
  show yG _ _ _ _ _ _ _ _ _ _ [] _
  refine yG.num (c := 0) rfl (fun _ _ => rfl) (by decide) ?_
  refine yG.store1 xik (L' := [(4, yI (0)), (0, yR k0), (1, yI (p1)), (2, yR k2), (3, yR k3)]) rfl (fun _ _ => rfl) rfl rfl ?_
  exact yG.mono (yG.sub (i_28 (0)  h7 A_h7   (by omega) (by omega) (by omega) (by omega) (by omega) (by omega) (by omega)) (ySub.cons rfl (ySub.cons rfl (ySub.nil)))) (by omega)
theorem c_Solver_more {hp : xH} (W : bW G) (d : Nat) (hT : zTy G hp) {k0 : Nat} (H_k0 : bRo G 40 k0) : yC (xcall 89 xfts xpools xms (d + 2)) 256 [yR k0] hp (bQi G [(1099511627776, 2), (1099511627776, 6), (1099511627776, 7)] hp 0 1 (fun _ => True)) := by
  have A_hp : bAx G [(1099511627776, 2), (1099511627776, 6), (1099511627776, 7)] hp hp := bAx.rf hT
  refine yC.of (M := (xt_X10_more, (1, (4, (11, []))))) rfl rfl (N := 99) (yfuel (by decide)) ?_
  show yG 89 xfts (xcall 89 xfts xpools xms (d + 1)) (xpool xp_RX10) [] xt_X10_more (yP 4 (bQi G [(1099511627776, 2), (1099511627776, 6), (1099511627776, 7)] hp 0 1 (fun _ => True))) 99 0 [(0, yR k0)] [] hp
  refine yG.load xak rfl (fun _ _ => rfl) (v := yR k0) rfl rfl ?_
  refine yG.getI A_hp.1 (w_Solver_bitsLeft W H_k0) rfl rfl (fun z1 e_z1 i_z1 l_z1 u_z1 => ?_)
  refine yG.ifz rfl (t := 18) rfl ⟨by omega, by omega⟩ (fun c2 => ?_) (fun c2 => ?_)
  · have c2 : (z1 : Int) ≤ 0 := c2
    refine yG.num (c := 0) rfl (fun _ _ => rfl) (by decide) ?_
    refine yG.ret rfl (fun _ _ => rfl) ?_
    exact (yP.bool (by omega) ⟨⟨0, rfl, by omega, by omega, trivial⟩, A_hp⟩)
  · have c2 : (z1 : Int) > 0 := c2
    refine yG.load xak rfl (fun _ _ => rfl) (v := yR k0) rfl rfl ?_
    refine yG.getI A_hp.1 (w_Solver_next W H_k0) rfl rfl (fun z3 e_z3 i_z3 l_z3 u_z3 => ?_)
    refine yG.getS (c := 3) rfl rfl ?_
    refine yG.alenF A_hp.1 (v_S_Solver_PRIMES W (s_S_Solver_PRIMES W)).yIF rfl ?_
    obtain ⟨z4, e_z4⟩ : ∃ z : Int, z = ((48 : Nat) : Int) := ⟨_, rfl⟩
    rw [← e_z4]
    refine yG.icmp rfl (t := 20) rfl ⟨by omega, by omega⟩ ⟨by omega, by omega⟩ (fun c5 => ?_) (fun c5 => ?_)
    · have c5 : (z3 : Int) < z4 := c5
      refine yG.load xak rfl (fun _ _ => rfl) (v := yR k0) rfl rfl ?_
      refine yG.getS (c := 3) rfl rfl ?_
      refine yG.load xak rfl (fun _ _ => rfl) (v := yR k0) rfl rfl ?_
      refine yG.getI A_hp.1 (w_Solver_next W H_k0) rfl rfl (fun z6 e_z6 i_z6 l_z6 u_z6 => ?_)
      refine yG.lald A_hp.1 (v_S_Solver_PRIMES W (s_S_Solver_PRIMES W)) rfl (by omega) (by omega) (fun z7 e_z7 i_z7 l_z7 u_z7 => ?_)
      refine yG.putJ A_hp.1 (w_Solver_prime W H_k0) (W.2.1 _ _ H_k0 (by decide) (by decide)) rfl rfl rfl ⟨by omega, by omega⟩ (by omega) (by omega) (fun h8 T_h8 b_h8 f_h8 y_h8 => ?_)
      have A_h8 := A_hp.put T_h8 b_h8 f_h8 H_k0 (by decide)
      have : ys h8 k0 7 = ys hp k0 7 := (y_h8 k0 7).trans (if_neg (fun e => absurd e.2 (by decide)))
      have : ys h8 k0 2 = z7 := (y_h8 k0 2).trans (if_pos ⟨rfl, rfl⟩)
      refine yG.load xak rfl (fun _ _ => rfl) (v := yR k0) rfl rfl ?_
      refine yG.step (pc' := 34) (stk' := [yR k0, yR k0]) rfl (fun _ _ => rfl) ?_
      refine yG.getI A_h8.1 (w_Solver_next W H_k0) rfl rfl (fun z9 e_z9 i_z9 l_z9 u_z9 => ?_)
      refine yG.num (c := 1) rfl (fun _ _ => rfl) (by decide) ?_
      refine yG.iadd rfl ?_
      refine yG.putI A_h8.1 (w_Solver_next W H_k0) (W.2.1 _ _ H_k0 (by decide) (by decide)) rfl rfl (.inl rfl) ⟨by omega, by omega⟩ (by omega) (by omega) (fun h10 T_h10 b_h10 f_h10 y_h10 => ?_)
      have A_h10 := A_h8.put T_h10 b_h10 f_h10 H_k0 (by decide)
      have : ys h10 k0 2 = ys h8 k0 2 := (y_h10 k0 2).trans (if_neg (fun e => absurd e.2 (by decide)))
      have : ys h10 k0 7 = z9 + 1 := (y_h10 k0 7).trans (if_pos ⟨rfl, rfl⟩)
      refine yG.load xak rfl (fun _ _ => rfl) (v := yR k0) rfl rfl ?_
      refine yG.load xak rfl (fun _ _ => rfl) (v := yR k0) rfl rfl ?_
      refine yG.load xak rfl (fun _ _ => rfl) (v := yR k0) rfl rfl ?_
      refine yG.getO A_h10.1 (w_Solver_modulus W H_k0) rfl rfl (fun r11 H_r11 O_r11 q_r11 => ?_)
      obtain ⟨n_r11, N_r11⟩ : ∃ n : Int, n = ((zat G r11 : Nat) : Int) := ⟨_, rfl⟩
      have L_r11 := n_Big W H_r11
      refine yG.load xak rfl (fun _ _ => rfl) (v := yR k0) rfl rfl ?_
      refine yG.getJ A_h10.1 (w_Solver_prime W H_k0) rfl rfl (fun z12 e_z12 i_z12 l_z12 u_z12 => ?_)
      refine yG.invV (rest := [yR k0, yR k0]) A_h10.1 (bOb (d_Big W) H_r11) rfl rfl rfl rfl (c_Big_left W d A_h10.1 H_r11 (z12) (by omega) (by omega)) (fun rv hp9 q9 => ?_)
      obtain ⟨⟨z13, rfl, l_z13, u_z13, R_z13⟩, e9⟩ := q9
      rw [e9]
      show yG _ _ _ _ _ _ _ _ _ _ (yJ z13 :: [yR k0, yR k0]) _
      refine yG.invV (rest := [yR k0]) A_h10.1 (bOb (d_Solver W) H_k0) rfl rfl rfl rfl (c_Solver_inverse W d A_h10.1 H_k0 (z13) (by omega) (by omega)) (fun rv hp9 q9 => ?_)
      obtain ⟨⟨z14, rfl, l_z14, u_z14, R_z14⟩, e9⟩ := q9
      rw [e9]
      show yG _ _ _ _ _ _ _ _ _ _ (yJ z14 :: [yR k0]) _
      refine yG.putJ A_h10.1 (w_Solver_lift W H_k0) (W.2.1 _ _ H_k0 (by decide) (by decide)) rfl rfl rfl ⟨by omega, by omega⟩ (by omega) (by omega) (fun h15 T_h15 b_h15 f_h15 y_h15 => ?_)
      have A_h15 := A_h10.put T_h15 b_h15 f_h15 H_k0 (by decide)
      have : ys h15 k0 2 = ys h10 k0 2 := (y_h15 k0 2).trans (if_neg (fun e => absurd e.2 (by decide)))
      have : ys h15 k0 7 = ys h10 k0 7 := (y_h15 k0 7).trans (if_neg (fun e => absurd e.2 (by decide)))
      refine yG.num (c := 1) rfl (fun _ _ => rfl) (by decide) ?_
      refine yG.ret rfl (fun _ _ => rfl) ?_
      exact (yP.bool (by omega) ⟨⟨1, rfl, by omega, by omega, trivial⟩, A_h15⟩)
    · have c5 : (z3 : Int) ≥ z4 := c5
      refine yG.num (c := 0) rfl (fun _ _ => rfl) (by decide) ?_
      refine yG.ret rfl (fun _ _ => rfl) ?_
      exact (yP.bool (by omega) ⟨⟨0, rfl, by omega, by omega, trivial⟩, A_hp⟩)
theorem c_Solver_close {hp : xH} (W : bW G) (d : Nat) (hT : zTy G hp) {k0 : Nat} (H_k0 : bRo G 40 k0) : yC (xcall 89 xfts xpools xms (d + 3)) 251 [yR k0] hp (fun rv hp' => (rv = none ∧ True) ∧ bAx G [(34359738368, 1), (34359738368, 2), (1099511627776, 8), (68719476736, 256)] hp hp') := by
  have A_hp : bAx G [(34359738368, 1), (34359738368, 2), (1099511627776, 8), (68719476736, 256)] hp hp := bAx.rf hT
  refine yC.of (M := (xt_X10_close, (1, (0, (11, []))))) rfl rfl (N := 42) (yfuel (by decide)) ?_
  show yG 89 xfts (xcall 89 xfts xpools xms (d + 2)) (xpool xp_RX10) [] xt_X10_close (yP 0 (fun rv hp' => (rv = none ∧ True) ∧ bAx G [(34359738368, 1), (34359738368, 2), (1099511627776, 8), (68719476736, 256)] hp hp')) 42 0 [(0, yR k0)] [] hp
  refine yG.load xak rfl (fun _ _ => rfl) (v := yR k0) rfl rfl ?_
  refine yG.getO A_hp.1 (w_Solver_modulus W H_k0) rfl rfl (fun r1 H_r1 O_r1 q_r1 => ?_)
  obtain ⟨n_r1, N_r1⟩ : ∃ n : Int, n = ((zat G r1 : Nat) : Int) := ⟨_, rfl⟩
  have L_r1 := n_Big W H_r1
  refine yG.load xak rfl (fun _ _ => rfl) (v := yR k0) rfl rfl ?_
  refine yG.getJ A_hp.1 (w_Solver_prime W H_k0) rfl rfl (fun z2 e_z2 i_z2 l_z2 u_z2 => ?_)
  refine yG.invV (rest := []) A_hp.1 (bOb (d_Big W) H_r1) rfl rfl rfl rfl (c_Big_scale W d A_hp.1 H_r1 (z2) (by omega) (by omega)) (fun rv h3 q9 => ?_)
  obtain ⟨⟨rfl, R_z4⟩, B_h3⟩ := q9
  have A_h3 := A_hp.tr B_h3 (by decide)
  show yG _ _ _ _ _ _ _ _ _ _ [] _
  refine yG.load xak rfl (fun _ _ => rfl) (v := yR k0) rfl rfl ?_
  refine yG.step (pc' := 13) (stk' := [yR k0, yR k0]) rfl (fun _ _ => rfl) ?_
  refine yG.getI A_h3.1 (w_Solver_bitsLeft W H_k0) rfl rfl (fun z5 e_z5 i_z5 l_z5 u_z5 => ?_)
  refine yG.num (c := 30) rfl (fun _ _ => rfl) (by decide) ?_
  refine yG.isub rfl ?_
  obtain ⟨z7, e_z7, l_z7, u_z7⟩ := ywI (z5 - 30)
  rw [e_z7]
  refine yG.putI A_h3.1 (w_Solver_bitsLeft W H_k0) (W.2.1 _ _ H_k0 (by decide) (by decide)) rfl rfl (.inl rfl) ⟨by omega, by omega⟩ (by omega) (by omega) (fun h6 T_h6 b_h6 f_h6 y_h6 => ?_)
  have A_h6 := A_h3.put T_h6 b_h6 f_h6 H_k0 (by decide)
  refine yG.ret rfl (fun _ _ => rfl) ?_
  exact (yP.void ⟨⟨rfl, trivial⟩, A_h6⟩)
theorem c_Solver_fold {hp : xH} (W : bW G) (d : Nat) (hT : zTy G hp) {k0 : Nat} (H_k0 : bRo G 40 k0) {k1 : Nat} (H_k1 : bRo G 35 k1) (p2 : Int) (h2l : (-9223372036854775808) ≤ p2) (h2u : p2 ≤ 9223372036854775807) : yC (xcall 89 xfts xpools xms (d + 3)) 253 [yR k0, yR k1, yJ (p2)] hp (fun rv hp' => (rv = none ∧ True) ∧ bAx G [(34359738368, 1), (68719476736, 256)] hp hp') := by
  have A_hp : bAx G [(34359738368, 1), (68719476736, 256)] hp hp := bAx.rf hT
  obtain ⟨n_k1, N_k1⟩ : ∃ n : Int, n = ((zat G k1 : Nat) : Int) := ⟨_, rfl⟩
  have L_k1 := n_Big W H_k1
  refine yC.of (M := (xt_X10_fold, (6, (0, (11, []))))) rfl rfl (N := 81) (yfuel (by decide)) ?_
  show yG 89 xfts (xcall 89 xfts xpools xms (d + 2)) (xpool xp_RX10) [] xt_X10_fold (yP 0 (fun rv hp' => (rv = none ∧ True) ∧ bAx G [(34359738368, 1), (68719476736, 256)] hp hp')) 81 0 [(0, yR k0), (1, yR k1), (2, yJ (p2))] [] hp
  refine yG.load xlk2 rfl (fun _ _ => rfl) (v := yJ (p2)) rfl rfl ?_
  refine yG.load xak rfl (fun _ _ => rfl) (v := yR k1) rfl rfl ?_
  refine yG.load xak rfl (fun _ _ => rfl) (v := yR k0) rfl rfl ?_
  refine yG.getJ A_hp.1 (w_Solver_prime W H_k0) rfl rfl (fun z1 e_z1 i_z1 l_z1 u_z1 => ?_)
  refine yG.invV (rest := [yJ (p2)]) A_hp.1 (bOb (d_Big W) H_k1) rfl rfl rfl rfl (c_Big_left W (d + 1) A_hp.1 H_k1 (z1) (by omega) (by omega)) (fun rv hp9 q9 => ?_)
  obtain ⟨⟨z2, rfl, l_z2, u_z2, R_z2⟩, e9⟩ := q9
  rw [e9]
  show yG _ _ _ _ _ _ _ _ _ _ (yJ z2 :: [yJ (p2)]) _
  refine yG.lsub rfl ?_
  refine yG.load xak rfl (fun _ _ => rfl) (v := yR k0) rfl rfl ?_
  refine yG.getJ A_hp.1 (w_Solver_prime W H_k0) rfl rfl (fun z3 e_z3 i_z3 l_z3 u_z3 => ?_)
  refine yG.ladd rfl ?_
  refine yG.load xak rfl (fun _ _ => rfl) (v := yR k0) rfl rfl ?_
  refine yG.getJ A_hp.1 (w_Solver_prime W H_k0) rfl rfl (fun z4 e_z4 i_z4 l_z4 u_z4 => ?_)
  obtain ⟨z5, e_z5, l_z5, u_z5⟩ := ywJ ((p2 - z2) + z3)
  rw [e_z5]
  refine yG.lremS rfl ⟨by omega, by omega⟩ ⟨by omega, by omega⟩ (by omega) (fun z6 l_z6 u_z6 => ?_)
  refine yG.load xak rfl (fun _ _ => rfl) (v := yR k0) rfl rfl ?_
  refine yG.getJ A_hp.1 (w_Solver_lift W H_k0) rfl rfl (fun z7 e_z7 i_z7 l_z7 u_z7 => ?_)
  refine yG.lmul rfl ?_
  obtain ⟨z8, e_z8⟩ : ∃ z : Int, z = z6 * z7 := ⟨_, rfl⟩
  rw [← e_z8]
  have b_z8 : -19807040610119340324676435968 ≤ z8 ∧ z8 ≤ 19807040610119340324676435968 := e_z8 ▸ ymuls (A := 2147483646) (B := 9223372036854775808) (by omega) (by omega) (by omega) (by omega) (by decide)
  refine yG.load xak rfl (fun _ _ => rfl) (v := yR k0) rfl rfl ?_
  refine yG.getJ A_hp.1 (w_Solver_prime W H_k0) rfl rfl (fun z9 e_z9 i_z9 l_z9 u_z9 => ?_)
  obtain ⟨z10, e_z10, l_z10, u_z10⟩ := ywJ (z8)
  rw [e_z10]
  refine yG.lremS rfl ⟨by omega, by omega⟩ ⟨by omega, by omega⟩ (by omega) (fun z11 l_z11 u_z11 => ?_)
  refine yG.store2 xlk2 (L' := [(4, yJ (z11)), (0, yR k0), (1, yR k1), (2, yJ (p2))]) rfl (fun _ _ => rfl) rfl rfl ?_
  refine yG.load xak rfl (fun _ _ => rfl) (v := yR k1) rfl rfl ?_
  refine yG.load xak rfl (fun _ _ => rfl) (v := yR k0) rfl rfl ?_
  refine yG.getO A_hp.1 (w_Solver_modulus W H_k0) rfl rfl (fun r12 H_r12 O_r12 q_r12 => ?_)
  obtain ⟨n_r12, N_r12⟩ : ∃ n : Int, n = ((zat G r12 : Nat) : Int) := ⟨_, rfl⟩
  have L_r12 := n_Big W H_r12
  refine yG.load xlk2 rfl (fun _ _ => rfl) (v := yJ (z11)) rfl rfl ?_
  refine yG.invV (rest := []) A_hp.1 (bOb (d_Big W) H_k1) rfl rfl rfl rfl (c_Big_moreTimes W d A_hp.1 H_k1 H_r12 (z11) (by omega) (by omega)) (fun rv h13 q9 => ?_)
  obtain ⟨⟨rfl, R_z14⟩, B_h13⟩ := q9
  have A_h13 := A_hp.tr B_h13 (by decide)
  have : ys h13 k0 2 = ys hp k0 2 := B_h13.ys H_k0 (by decide)
  show yG _ _ _ _ _ _ _ _ _ _ [] _
  refine yG.ret rfl (fun _ _ => rfl) ?_
  exact (yP.void ⟨⟨rfl, trivial⟩, A_h13⟩)
theorem c_Solver_settle_16 {hp : xH} (W : bW G) (d : Nat) (hT : zTy G hp) {k0 : Nat} (H_k0 : bRo G 40 k0) {k1 : Nat} (H_k1 : bRo G 49 k1) (p2 : Int) (h2l : (-2147483648) ≤ p2) (h2u : p2 ≤ 2147483647) : yC (xcall 89 xfts xpools xms (d + 4)) 260 [yR k0, yR k1, yI (p2)] hp (fun rv hp' => (rv = none ∧ True) ∧ bAx G [(34359738368, 1), (34359738368, 2), (68719476736, 256)] hp hp') := by
  have A_hp : bAx G [(34359738368, 1), (34359738368, 2), (68719476736, 256)] hp hp := bAx.rf hT
  have H : ∀ m : Nat, (∀ a3 : Int, ∀ hq, bAx G [(34359738368, 1), (34359738368, 2), (68719476736, 256)] hp hq → 0 ≤ a3 → (-16) ≤ 0 - a3 → (-2147483648) ≤ p2 → (-2147483647) ≤ 0 - p2 → (-2147483648) ≤ 0 - a3 + p2 → 0 - 2 * a3 + 33 < (m : Int) → yG 89 xfts (xcall 89 xfts xpools xms (d + 3)) (xpool xp_RX10) [] xt_X10_settle (yP 0 (fun rv hp' => (rv = none ∧ True) ∧ bAx G [(34359738368, 1), (34359738368, 2), (68719476736, 256)] hp hp')) (19 * m) 24 [(0, yR k0), (1, yR k1), (2, yI (p2)), (3, yI (a3))] [] hq) := by
    intro m
    induction m with
    | zero =>
      intros; exfalso; omega
    | succ m ih =>
      have i_24 := ih
      clear ih
      intro a3 hq A_hq f0 f1 f2 f3 f4 hm
      refine yG.mono (N := 19 * m + 19) ?_ (by omega)
      refine yG.load xik rfl (fun _ _ => rfl) (v := yI (a3)) rfl rfl ?_
      refine yG.load xik rfl (fun _ _ => rfl) (v := yI (p2)) rfl rfl ?_
      refine yG.icmp rfl (t := 55) rfl ⟨by omega, by omega⟩ ⟨by omega, by omega⟩ (fun c1 => ?_) (fun c1 => ?_)
      · have c1 : (a3 : Int) ≥ p2 := c1
        refine yG.ret rfl (fun _ _ => rfl) ?_
        exact (yP.void ⟨⟨rfl, trivial⟩, A_hq⟩)
      · have c1 : (a3 : Int) < p2 := c1
        refine yG.load xik rfl (fun _ _ => rfl) (v := yI (a3)) rfl rfl ?_
        refine yG.load xak rfl (fun _ _ => rfl) (v := yR k1) rfl rfl ?_
        refine yG.alenF A_hq.1 (v_Big16 W H_k1) rfl ?_
        obtain ⟨z2, e_z2⟩ : ∃ z : Int, z = ((16 : Nat) : Int) := ⟨_, rfl⟩
        rw [← e_z2]
        refine yG.icmp rfl (t := 55) rfl ⟨by omega, by omega⟩ ⟨by omega, by omega⟩ (fun c3 => ?_) (fun c3 => ?_)
        · have c3 : (a3 : Int) ≥ z2 := c3
          refine yG.ret rfl (fun _ _ => rfl) ?_
          exact (yP.void ⟨⟨rfl, trivial⟩, A_hq⟩)
        · have c3 : (a3 : Int) < z2 := c3
          refine yG.load xak rfl (fun _ _ => rfl) (v := yR k1) rfl rfl ?_
          refine yG.load xik rfl (fun _ _ => rfl) (v := yI (a3)) rfl rfl ?_
          refine yG.aaldO (r := 35) A_hq.1 (v_Big16 W H_k1) rfl rfl rfl (by omega) (by omega) (fun r4 H_r4 q_r4 => ?_)
          obtain ⟨n_r4, N_r4⟩ : ∃ n : Int, n = ((zat G r4 : Nat) : Int) := ⟨_, rfl⟩
          have L_r4 := n_Big W H_r4
          refine yG.load xak rfl (fun _ _ => rfl) (v := yR k0) rfl rfl ?_
          refine yG.getO A_hq.1 (w_Solver_modulus W H_k0) rfl rfl (fun r5 H_r5 O_r5 q_r5 => ?_)
          obtain ⟨n_r5, N_r5⟩ : ∃ n : Int, n = ((zat G r5 : Nat) : Int) := ⟨_, rfl⟩
          have L_r5 := n_Big W H_r5
          refine yG.load xak rfl (fun _ _ => rfl) (v := yR k0) rfl rfl ?_
          refine yG.getO A_hq.1 (w_Solver_half W H_k0) rfl rfl (fun r6 H_r6 O_r6 q_r6 => ?_)
          obtain ⟨n_r6, N_r6⟩ : ∃ n : Int, n = ((zat G r6 : Nat) : Int) := ⟨_, rfl⟩
          have L_r6 := n_Big W H_r6
          refine yG.invV (rest := []) A_hq.1 (bOb (d_Big W) H_r4) rfl rfl rfl rfl (c_Big_wrap W d A_hq.1 H_r4 H_r5 H_r6) (fun rv h7 q9 => ?_)
          obtain ⟨⟨rfl, R_z8⟩, B_h7⟩ := q9
          have A_h7 := A_hq.tr B_h7 (by decide)
          show yG _ _ _ _ _ _ _ _ _ _ [] _
          refine yG.iinc rfl (a := a3) rfl (L' := [(3, yI (a3 + 1)), (0, yR k0), (1, yR k1), (2, yI (p2))]) rfl ?_
          refine yG.goto rfl (t := 24) rfl ?_
          exact yG.mono (yG.sub (i_24 (a3 + 1)  h7 A_h7   (by omega) (by omega) (by omega) (by omega) (by omega) (by omega)) (ySub.cons rfl (ySub.cons rfl (ySub.cons rfl (ySub.cons rfl (ySub.nil)))))) (by omega)
  refine yC.of (M := (xt_X10_settle, (4, (0, (11, []))))) rfl rfl (N := 684) (yfuel (by decide)) ?_
  show yG 89 xfts (xcall 89 xfts xpools xms (d + 3)) (xpool xp_RX10) [] xt_X10_settle (yP 0 (fun rv hp' => (rv = none ∧ True) ∧ bAx G [(34359738368, 1), (34359738368, 2), (68719476736, 256)] hp hp')) 684 0 [(0, yR k0), (1, yR k1), (2, yI (p2))] [] hp
  have i_24 := H 35
  refine yG.load xak rfl (fun _ _ => rfl) (v := yR k0) rfl rfl ?_
  refine yG.getO A_hp.1 (w_Solver_half W H_k0) rfl rfl (fun r1 H_r1 O_r1 q_r1 => ?_)
  obtain ⟨n_r1, N_r1⟩ : ∃ n : Int, n = ((zat G r1 : Nat) : Int) := ⟨_, rfl⟩
  have L_r1 := n_Big W H_r1
  refine yG.load xak rfl (fun _ _ => rfl) (v := yR k0) rfl rfl ?_
  refine yG.getO A_hp.1 (w_Solver_modulus W H_k0) rfl rfl (fun r2 H_r2 O_r2 q_r2 => ?_)
  obtain ⟨n_r2, N_r2⟩ : ∃ n : Int, n = ((zat G r2 : Nat) : Int) := ⟨_, rfl⟩
  have L_r2 := n_Big W H_r2
  refine yG.invV (rest := []) A_hp.1 (bOb (d_Big W) H_r1) rfl rfl rfl rfl (c_Big_copy W (d + 1) A_hp.1 H_r1 H_r2) (fun rv h3 q9 => ?_)
  obtain ⟨⟨rfl, R_z4⟩, B_h3⟩ := q9
  have A_h3 := A_hp.tr B_h3 (by decide)
  have qq1 : zsl h3 k0 5 = yR r1 := (B_h3.sl H_k0 (by decide)).trans q_r1
  show yG _ _ _ _ _ _ _ _ _ _ [] _
  refine yG.load xak rfl (fun _ _ => rfl) (v := yR k0) rfl rfl ?_
  refine yG.getS9 A_h3.1 (w_Solver_half W H_k0) qq1 rfl rfl ?_
  refine yG.numl (c := 2) rfl (fun _ _ => rfl) (by decide) ?_
  refine yG.invV (rest := []) A_h3.1 (bOb (d_Big W) H_r1) rfl rfl rfl rfl (c_Big_shorten W (d + 1) A_h3.1 H_r1 (2) (by omega) (by omega)) (fun rv h5 q9 => ?_)
  obtain ⟨⟨z6, rfl, l_z6, u_z6, R_z6⟩, B_h5⟩ := q9
  have A_h5 := A_h3.tr B_h5 (by decide)
  have qq2 : zsl h5 k0 5 = yR r1 := (B_h5.sl H_k0 (by decide)).trans qq1
  show yG _ _ _ _ _ _ _ _ _ _ (yJ z6 :: []) _
  refine yG.step (pc' := 22) (stk' := []) rfl (fun _ _ => rfl) ?_
  refine yG.num (c := 0) rfl (fun _ _ => rfl) (by decide) ?_
  refine yG.store1 xik (L' := [(3, yI (0)), (0, yR k0), (1, yR k1), (2, yI (p2))]) rfl (fun _ _ => rfl) rfl rfl ?_
  exact yG.mono (yG.sub (i_24 (0)  h5 A_h5   (by omega) (by omega) (by omega) (by omega) (by omega) (by omega)) (ySub.cons rfl (ySub.cons rfl (ySub.cons rfl (ySub.cons rfl (ySub.nil)))))) (by omega)
theorem c_Solver_settle_17 {hp : xH} (W : bW G) (d : Nat) (hT : zTy G hp) {k0 : Nat} (H_k0 : bRo G 40 k0) {k1 : Nat} (H_k1 : bRo G 77 k1) (p2 : Int) (h2l : (-2147483648) ≤ p2) (h2u : p2 ≤ 2147483647) : yC (xcall 89 xfts xpools xms (d + 4)) 260 [yR k0, yR k1, yI (p2)] hp (fun rv hp' => (rv = none ∧ True) ∧ bAx G [(34359738368, 1), (34359738368, 2), (68719476736, 256)] hp hp') := by
  have A_hp : bAx G [(34359738368, 1), (34359738368, 2), (68719476736, 256)] hp hp := bAx.rf hT
  have H : ∀ m : Nat, (∀ a3 : Int, ∀ hq, bAx G [(34359738368, 1), (34359738368, 2), (68719476736, 256)] hp hq → 0 ≤ a3 → (-17) ≤ 0 - a3 → (-2147483648) ≤ p2 → (-2147483647) ≤ 0 - p2 → (-2147483648) ≤ 0 - a3 + p2 → 0 - 2 * a3 + 35 < (m : Int) → yG 89 xfts (xcall 89 xfts xpools xms (d + 3)) (xpool xp_RX10) [] xt_X10_settle (yP 0 (fun rv hp' => (rv = none ∧ True) ∧ bAx G [(34359738368, 1), (34359738368, 2), (68719476736, 256)] hp hp')) (19 * m) 24 [(0, yR k0), (1, yR k1), (2, yI (p2)), (3, yI (a3))] [] hq) := by
    intro m
    induction m with
    | zero =>
      intros; exfalso; omega
    | succ m ih =>
      have i_24 := ih
      clear ih
      intro a3 hq A_hq f0 f1 f2 f3 f4 hm
      refine yG.mono (N := 19 * m + 19) ?_ (by omega)
      refine yG.load xik rfl (fun _ _ => rfl) (v := yI (a3)) rfl rfl ?_
      refine yG.load xik rfl (fun _ _ => rfl) (v := yI (p2)) rfl rfl ?_
      refine yG.icmp rfl (t := 55) rfl ⟨by omega, by omega⟩ ⟨by omega, by omega⟩ (fun c1 => ?_) (fun c1 => ?_)
      · have c1 : (a3 : Int) ≥ p2 := c1
        refine yG.ret rfl (fun _ _ => rfl) ?_
        exact (yP.void ⟨⟨rfl, trivial⟩, A_hq⟩)
      · have c1 : (a3 : Int) < p2 := c1
        refine yG.load xik rfl (fun _ _ => rfl) (v := yI (a3)) rfl rfl ?_
        refine yG.load xak rfl (fun _ _ => rfl) (v := yR k1) rfl rfl ?_
        refine yG.alenF A_hq.1 (v_Big17 W H_k1) rfl ?_
        obtain ⟨z2, e_z2⟩ : ∃ z : Int, z = ((17 : Nat) : Int) := ⟨_, rfl⟩
        rw [← e_z2]
        refine yG.icmp rfl (t := 55) rfl ⟨by omega, by omega⟩ ⟨by omega, by omega⟩ (fun c3 => ?_) (fun c3 => ?_)
        · have c3 : (a3 : Int) ≥ z2 := c3
          refine yG.ret rfl (fun _ _ => rfl) ?_
          exact (yP.void ⟨⟨rfl, trivial⟩, A_hq⟩)
        · have c3 : (a3 : Int) < z2 := c3
          refine yG.load xak rfl (fun _ _ => rfl) (v := yR k1) rfl rfl ?_
          refine yG.load xik rfl (fun _ _ => rfl) (v := yI (a3)) rfl rfl ?_
          refine yG.aaldO (r := 35) A_hq.1 (v_Big17 W H_k1) rfl rfl rfl (by omega) (by omega) (fun r4 H_r4 q_r4 => ?_)
          obtain ⟨n_r4, N_r4⟩ : ∃ n : Int, n = ((zat G r4 : Nat) : Int) := ⟨_, rfl⟩
          have L_r4 := n_Big W H_r4
          refine yG.load xak rfl (fun _ _ => rfl) (v := yR k0) rfl rfl ?_
          refine yG.getO A_hq.1 (w_Solver_modulus W H_k0) rfl rfl (fun r5 H_r5 O_r5 q_r5 => ?_)
          obtain ⟨n_r5, N_r5⟩ : ∃ n : Int, n = ((zat G r5 : Nat) : Int) := ⟨_, rfl⟩
          have L_r5 := n_Big W H_r5
          refine yG.load xak rfl (fun _ _ => rfl) (v := yR k0) rfl rfl ?_
          refine yG.getO A_hq.1 (w_Solver_half W H_k0) rfl rfl (fun r6 H_r6 O_r6 q_r6 => ?_)
          obtain ⟨n_r6, N_r6⟩ : ∃ n : Int, n = ((zat G r6 : Nat) : Int) := ⟨_, rfl⟩
          have L_r6 := n_Big W H_r6
          refine yG.invV (rest := []) A_hq.1 (bOb (d_Big W) H_r4) rfl rfl rfl rfl (c_Big_wrap W d A_hq.1 H_r4 H_r5 H_r6) (fun rv h7 q9 => ?_)
          obtain ⟨⟨rfl, R_z8⟩, B_h7⟩ := q9
          have A_h7 := A_hq.tr B_h7 (by decide)
          show yG _ _ _ _ _ _ _ _ _ _ [] _
          refine yG.iinc rfl (a := a3) rfl (L' := [(3, yI (a3 + 1)), (0, yR k0), (1, yR k1), (2, yI (p2))]) rfl ?_
          refine yG.goto rfl (t := 24) rfl ?_
          exact yG.mono (yG.sub (i_24 (a3 + 1)  h7 A_h7   (by omega) (by omega) (by omega) (by omega) (by omega) (by omega)) (ySub.cons rfl (ySub.cons rfl (ySub.cons rfl (ySub.cons rfl (ySub.nil)))))) (by omega)
  refine yC.of (M := (xt_X10_settle, (4, (0, (11, []))))) rfl rfl (N := 722) (yfuel (by decide)) ?_
  show yG 89 xfts (xcall 89 xfts xpools xms (d + 3)) (xpool xp_RX10) [] xt_X10_settle (yP 0 (fun rv hp' => (rv = none ∧ True) ∧ bAx G [(34359738368, 1), (34359738368, 2), (68719476736, 256)] hp hp')) 722 0 [(0, yR k0), (1, yR k1), (2, yI (p2))] [] hp
  have i_24 := H 37
  refine yG.load xak rfl (fun _ _ => rfl) (v := yR k0) rfl rfl ?_
  refine yG.getO A_hp.1 (w_Solver_half W H_k0) rfl rfl (fun r1 H_r1 O_r1 q_r1 => ?_)
  obtain ⟨n_r1, N_r1⟩ : ∃ n : Int, n = ((zat G r1 : Nat) : Int) := ⟨_, rfl⟩
  have L_r1 := n_Big W H_r1
  refine yG.load xak rfl (fun _ _ => rfl) (v := yR k0) rfl rfl ?_
  refine yG.getO A_hp.1 (w_Solver_modulus W H_k0) rfl rfl (fun r2 H_r2 O_r2 q_r2 => ?_)
  obtain ⟨n_r2, N_r2⟩ : ∃ n : Int, n = ((zat G r2 : Nat) : Int) := ⟨_, rfl⟩
  have L_r2 := n_Big W H_r2
  refine yG.invV (rest := []) A_hp.1 (bOb (d_Big W) H_r1) rfl rfl rfl rfl (c_Big_copy W (d + 1) A_hp.1 H_r1 H_r2) (fun rv h3 q9 => ?_)
  obtain ⟨⟨rfl, R_z4⟩, B_h3⟩ := q9
  have A_h3 := A_hp.tr B_h3 (by decide)
  have qq1 : zsl h3 k0 5 = yR r1 := (B_h3.sl H_k0 (by decide)).trans q_r1
  show yG _ _ _ _ _ _ _ _ _ _ [] _
  refine yG.load xak rfl (fun _ _ => rfl) (v := yR k0) rfl rfl ?_
  refine yG.getS9 A_h3.1 (w_Solver_half W H_k0) qq1 rfl rfl ?_
  refine yG.numl (c := 2) rfl (fun _ _ => rfl) (by decide) ?_
  refine yG.invV (rest := []) A_h3.1 (bOb (d_Big W) H_r1) rfl rfl rfl rfl (c_Big_shorten W (d + 1) A_h3.1 H_r1 (2) (by omega) (by omega)) (fun rv h5 q9 => ?_)
  obtain ⟨⟨z6, rfl, l_z6, u_z6, R_z6⟩, B_h5⟩ := q9
  have A_h5 := A_h3.tr B_h5 (by decide)
  have qq2 : zsl h5 k0 5 = yR r1 := (B_h5.sl H_k0 (by decide)).trans qq1
  show yG _ _ _ _ _ _ _ _ _ _ (yJ z6 :: []) _
  refine yG.step (pc' := 22) (stk' := []) rfl (fun _ _ => rfl) ?_
  refine yG.num (c := 0) rfl (fun _ _ => rfl) (by decide) ?_
  refine yG.store1 xik (L' := [(3, yI (0)), (0, yR k0), (1, yR k1), (2, yI (p2))]) rfl (fun _ _ => rfl) rfl rfl ?_
  exact yG.mono (yG.sub (i_24 (0)  h5 A_h5   (by omega) (by omega) (by omega) (by omega) (by omega) (by omega)) (ySub.cons rfl (ySub.cons rfl (ySub.cons rfl (ySub.cons rfl (ySub.nil)))))) (by omega)
theorem c_Solver_settle_32 {hp : xH} (W : bW G) (d : Nat) (hT : zTy G hp) {k0 : Nat} (H_k0 : bRo G 40 k0) {k1 : Nat} (H_k1 : bRo G 70 k1) (p2 : Int) (h2l : (-2147483648) ≤ p2) (h2u : p2 ≤ 2147483647) : yC (xcall 89 xfts xpools xms (d + 4)) 260 [yR k0, yR k1, yI (p2)] hp (fun rv hp' => (rv = none ∧ True) ∧ bAx G [(34359738368, 1), (34359738368, 2), (68719476736, 256)] hp hp') := by
  have A_hp : bAx G [(34359738368, 1), (34359738368, 2), (68719476736, 256)] hp hp := bAx.rf hT
  have H : ∀ m : Nat, (∀ a3 : Int, ∀ hq, bAx G [(34359738368, 1), (34359738368, 2), (68719476736, 256)] hp hq → 0 ≤ a3 → (-32) ≤ 0 - a3 → (-2147483648) ≤ p2 → (-2147483647) ≤ 0 - p2 → (-2147483648) ≤ 0 - a3 + p2 → 0 - 2 * a3 + 65 < (m : Int) → yG 89 xfts (xcall 89 xfts xpools xms (d + 3)) (xpool xp_RX10) [] xt_X10_settle (yP 0 (fun rv hp' => (rv = none ∧ True) ∧ bAx G [(34359738368, 1), (34359738368, 2), (68719476736, 256)] hp hp')) (19 * m) 24 [(0, yR k0), (1, yR k1), (2, yI (p2)), (3, yI (a3))] [] hq) := by
    intro m
    induction m with
    | zero =>
      intros; exfalso; omega
    | succ m ih =>
      have i_24 := ih
      clear ih
      intro a3 hq A_hq f0 f1 f2 f3 f4 hm
      refine yG.mono (N := 19 * m + 19) ?_ (by omega)
      refine yG.load xik rfl (fun _ _ => rfl) (v := yI (a3)) rfl rfl ?_
      refine yG.load xik rfl (fun _ _ => rfl) (v := yI (p2)) rfl rfl ?_
      refine yG.icmp rfl (t := 55) rfl ⟨by omega, by omega⟩ ⟨by omega, by omega⟩ (fun c1 => ?_) (fun c1 => ?_)
      · have c1 : (a3 : Int) ≥ p2 := c1
        refine yG.ret rfl (fun _ _ => rfl) ?_
        exact (yP.void ⟨⟨rfl, trivial⟩, A_hq⟩)
      · have c1 : (a3 : Int) < p2 := c1
        refine yG.load xik rfl (fun _ _ => rfl) (v := yI (a3)) rfl rfl ?_
        refine yG.load xak rfl (fun _ _ => rfl) (v := yR k1) rfl rfl ?_
        refine yG.alenF A_hq.1 (v_Big32 W H_k1) rfl ?_
        obtain ⟨z2, e_z2⟩ : ∃ z : Int, z = ((32 : Nat) : Int) := ⟨_, rfl⟩
        rw [← e_z2]
        refine yG.icmp rfl (t := 55) rfl ⟨by omega, by omega⟩ ⟨by omega, by omega⟩ (fun c3 => ?_) (fun c3 => ?_)
        · have c3 : (a3 : Int) ≥ z2 := c3
          refine yG.ret rfl (fun _ _ => rfl) ?_
          exact (yP.void ⟨⟨rfl, trivial⟩, A_hq⟩)
        · have c3 : (a3 : Int) < z2 := c3
          refine yG.load xak rfl (fun _ _ => rfl) (v := yR k1) rfl rfl ?_
          refine yG.load xik rfl (fun _ _ => rfl) (v := yI (a3)) rfl rfl ?_
          refine yG.aaldO (r := 35) A_hq.1 (v_Big32 W H_k1) rfl rfl rfl (by omega) (by omega) (fun r4 H_r4 q_r4 => ?_)
          obtain ⟨n_r4, N_r4⟩ : ∃ n : Int, n = ((zat G r4 : Nat) : Int) := ⟨_, rfl⟩
          have L_r4 := n_Big W H_r4
          refine yG.load xak rfl (fun _ _ => rfl) (v := yR k0) rfl rfl ?_
          refine yG.getO A_hq.1 (w_Solver_modulus W H_k0) rfl rfl (fun r5 H_r5 O_r5 q_r5 => ?_)
          obtain ⟨n_r5, N_r5⟩ : ∃ n : Int, n = ((zat G r5 : Nat) : Int) := ⟨_, rfl⟩
          have L_r5 := n_Big W H_r5
          refine yG.load xak rfl (fun _ _ => rfl) (v := yR k0) rfl rfl ?_
          refine yG.getO A_hq.1 (w_Solver_half W H_k0) rfl rfl (fun r6 H_r6 O_r6 q_r6 => ?_)
          obtain ⟨n_r6, N_r6⟩ : ∃ n : Int, n = ((zat G r6 : Nat) : Int) := ⟨_, rfl⟩
          have L_r6 := n_Big W H_r6
          refine yG.invV (rest := []) A_hq.1 (bOb (d_Big W) H_r4) rfl rfl rfl rfl (c_Big_wrap W d A_hq.1 H_r4 H_r5 H_r6) (fun rv h7 q9 => ?_)
          obtain ⟨⟨rfl, R_z8⟩, B_h7⟩ := q9
          have A_h7 := A_hq.tr B_h7 (by decide)
          show yG _ _ _ _ _ _ _ _ _ _ [] _
          refine yG.iinc rfl (a := a3) rfl (L' := [(3, yI (a3 + 1)), (0, yR k0), (1, yR k1), (2, yI (p2))]) rfl ?_
          refine yG.goto rfl (t := 24) rfl ?_
          exact yG.mono (yG.sub (i_24 (a3 + 1)  h7 A_h7   (by omega) (by omega) (by omega) (by omega) (by omega) (by omega)) (ySub.cons rfl (ySub.cons rfl (ySub.cons rfl (ySub.cons rfl (ySub.nil)))))) (by omega)
  refine yC.of (M := (xt_X10_settle, (4, (0, (11, []))))) rfl rfl (N := 1292) (yfuel (by decide)) ?_
  show yG 89 xfts (xcall 89 xfts xpools xms (d + 3)) (xpool xp_RX10) [] xt_X10_settle (yP 0 (fun rv hp' => (rv = none ∧ True) ∧ bAx G [(34359738368, 1), (34359738368, 2), (68719476736, 256)] hp hp')) 1292 0 [(0, yR k0), (1, yR k1), (2, yI (p2))] [] hp
  have i_24 := H 67
  refine yG.load xak rfl (fun _ _ => rfl) (v := yR k0) rfl rfl ?_
  refine yG.getO A_hp.1 (w_Solver_half W H_k0) rfl rfl (fun r1 H_r1 O_r1 q_r1 => ?_)
  obtain ⟨n_r1, N_r1⟩ : ∃ n : Int, n = ((zat G r1 : Nat) : Int) := ⟨_, rfl⟩
  have L_r1 := n_Big W H_r1
  refine yG.load xak rfl (fun _ _ => rfl) (v := yR k0) rfl rfl ?_
  refine yG.getO A_hp.1 (w_Solver_modulus W H_k0) rfl rfl (fun r2 H_r2 O_r2 q_r2 => ?_)
  obtain ⟨n_r2, N_r2⟩ : ∃ n : Int, n = ((zat G r2 : Nat) : Int) := ⟨_, rfl⟩
  have L_r2 := n_Big W H_r2
  refine yG.invV (rest := []) A_hp.1 (bOb (d_Big W) H_r1) rfl rfl rfl rfl (c_Big_copy W (d + 1) A_hp.1 H_r1 H_r2) (fun rv h3 q9 => ?_)
  obtain ⟨⟨rfl, R_z4⟩, B_h3⟩ := q9
  have A_h3 := A_hp.tr B_h3 (by decide)
  have qq1 : zsl h3 k0 5 = yR r1 := (B_h3.sl H_k0 (by decide)).trans q_r1
  show yG _ _ _ _ _ _ _ _ _ _ [] _
  refine yG.load xak rfl (fun _ _ => rfl) (v := yR k0) rfl rfl ?_
  refine yG.getS9 A_h3.1 (w_Solver_half W H_k0) qq1 rfl rfl ?_
  refine yG.numl (c := 2) rfl (fun _ _ => rfl) (by decide) ?_
  refine yG.invV (rest := []) A_h3.1 (bOb (d_Big W) H_r1) rfl rfl rfl rfl (c_Big_shorten W (d + 1) A_h3.1 H_r1 (2) (by omega) (by omega)) (fun rv h5 q9 => ?_)
  obtain ⟨⟨z6, rfl, l_z6, u_z6, R_z6⟩, B_h5⟩ := q9
  have A_h5 := A_h3.tr B_h5 (by decide)
  have qq2 : zsl h5 k0 5 = yR r1 := (B_h5.sl H_k0 (by decide)).trans qq1
  show yG _ _ _ _ _ _ _ _ _ _ (yJ z6 :: []) _
  refine yG.step (pc' := 22) (stk' := []) rfl (fun _ _ => rfl) ?_
  refine yG.num (c := 0) rfl (fun _ _ => rfl) (by decide) ?_
  refine yG.store1 xik (L' := [(3, yI (0)), (0, yR k0), (1, yR k1), (2, yI (p2))]) rfl (fun _ _ => rfl) rfl rfl ?_
  exact yG.mono (yG.sub (i_24 (0)  h5 A_h5   (by omega) (by omega) (by omega) (by omega) (by omega) (by omega)) (ySub.cons rfl (ySub.cons rfl (ySub.cons rfl (ySub.cons rfl (ySub.nil)))))) (by omega)
theorem c_Solver_settle_429 {hp : xH} (W : bW G) (d : Nat) (hT : zTy G hp) {k0 : Nat} (H_k0 : bRo G 40 k0) {k1 : Nat} (H_k1 : bRo G 105 k1) (p2 : Int) (h2l : (-2147483648) ≤ p2) (h2u : p2 ≤ 2147483647) : yC (xcall 89 xfts xpools xms (d + 4)) 260 [yR k0, yR k1, yI (p2)] hp (fun rv hp' => (rv = none ∧ True) ∧ bAx G [(34359738368, 1), (34359738368, 2), (68719476736, 256)] hp hp') := by
  have A_hp : bAx G [(34359738368, 1), (34359738368, 2), (68719476736, 256)] hp hp := bAx.rf hT
  have H : ∀ m : Nat, (∀ a3 : Int, ∀ hq, bAx G [(34359738368, 1), (34359738368, 2), (68719476736, 256)] hp hq → 0 ≤ a3 → (-429) ≤ 0 - a3 → (-2147483648) ≤ p2 → (-2147483647) ≤ 0 - p2 → (-2147483648) ≤ 0 - a3 + p2 → 0 - 2 * a3 + 859 < (m : Int) → yG 89 xfts (xcall 89 xfts xpools xms (d + 3)) (xpool xp_RX10) [] xt_X10_settle (yP 0 (fun rv hp' => (rv = none ∧ True) ∧ bAx G [(34359738368, 1), (34359738368, 2), (68719476736, 256)] hp hp')) (19 * m) 24 [(0, yR k0), (1, yR k1), (2, yI (p2)), (3, yI (a3))] [] hq) := by
    intro m
    induction m with
    | zero =>
      intros; exfalso; omega
    | succ m ih =>
      have i_24 := ih
      clear ih
      intro a3 hq A_hq f0 f1 f2 f3 f4 hm
      refine yG.mono (N := 19 * m + 19) ?_ (by omega)
      refine yG.load xik rfl (fun _ _ => rfl) (v := yI (a3)) rfl rfl ?_
      refine yG.load xik rfl (fun _ _ => rfl) (v := yI (p2)) rfl rfl ?_
      refine yG.icmp rfl (t := 55) rfl ⟨by omega, by omega⟩ ⟨by omega, by omega⟩ (fun c1 => ?_) (fun c1 => ?_)
      · have c1 : (a3 : Int) ≥ p2 := c1
        refine yG.ret rfl (fun _ _ => rfl) ?_
        exact (yP.void ⟨⟨rfl, trivial⟩, A_hq⟩)
      · have c1 : (a3 : Int) < p2 := c1
        refine yG.load xik rfl (fun _ _ => rfl) (v := yI (a3)) rfl rfl ?_
        refine yG.load xak rfl (fun _ _ => rfl) (v := yR k1) rfl rfl ?_
        refine yG.alenF A_hq.1 (v_Big429 W H_k1) rfl ?_
        obtain ⟨z2, e_z2⟩ : ∃ z : Int, z = ((429 : Nat) : Int) := ⟨_, rfl⟩
        rw [← e_z2]
        refine yG.icmp rfl (t := 55) rfl ⟨by omega, by omega⟩ ⟨by omega, by omega⟩ (fun c3 => ?_) (fun c3 => ?_)
        · have c3 : (a3 : Int) ≥ z2 := c3
          refine yG.ret rfl (fun _ _ => rfl) ?_
          exact (yP.void ⟨⟨rfl, trivial⟩, A_hq⟩)
        · have c3 : (a3 : Int) < z2 := c3
          refine yG.load xak rfl (fun _ _ => rfl) (v := yR k1) rfl rfl ?_
          refine yG.load xik rfl (fun _ _ => rfl) (v := yI (a3)) rfl rfl ?_
          refine yG.aaldO (r := 35) A_hq.1 (v_Big429 W H_k1) rfl rfl rfl (by omega) (by omega) (fun r4 H_r4 q_r4 => ?_)
          obtain ⟨n_r4, N_r4⟩ : ∃ n : Int, n = ((zat G r4 : Nat) : Int) := ⟨_, rfl⟩
          have L_r4 := n_Big W H_r4
          refine yG.load xak rfl (fun _ _ => rfl) (v := yR k0) rfl rfl ?_
          refine yG.getO A_hq.1 (w_Solver_modulus W H_k0) rfl rfl (fun r5 H_r5 O_r5 q_r5 => ?_)
          obtain ⟨n_r5, N_r5⟩ : ∃ n : Int, n = ((zat G r5 : Nat) : Int) := ⟨_, rfl⟩
          have L_r5 := n_Big W H_r5
          refine yG.load xak rfl (fun _ _ => rfl) (v := yR k0) rfl rfl ?_
          refine yG.getO A_hq.1 (w_Solver_half W H_k0) rfl rfl (fun r6 H_r6 O_r6 q_r6 => ?_)
          obtain ⟨n_r6, N_r6⟩ : ∃ n : Int, n = ((zat G r6 : Nat) : Int) := ⟨_, rfl⟩
          have L_r6 := n_Big W H_r6
          refine yG.invV (rest := []) A_hq.1 (bOb (d_Big W) H_r4) rfl rfl rfl rfl (c_Big_wrap W d A_hq.1 H_r4 H_r5 H_r6) (fun rv h7 q9 => ?_)
          obtain ⟨⟨rfl, R_z8⟩, B_h7⟩ := q9
          have A_h7 := A_hq.tr B_h7 (by decide)
          show yG _ _ _ _ _ _ _ _ _ _ [] _
          refine yG.iinc rfl (a := a3) rfl (L' := [(3, yI (a3 + 1)), (0, yR k0), (1, yR k1), (2, yI (p2))]) rfl ?_
          refine yG.goto rfl (t := 24) rfl ?_
          exact yG.mono (yG.sub (i_24 (a3 + 1)  h7 A_h7   (by omega) (by omega) (by omega) (by omega) (by omega) (by omega)) (ySub.cons rfl (ySub.cons rfl (ySub.cons rfl (ySub.cons rfl (ySub.nil)))))) (by omega)
  refine yC.of (M := (xt_X10_settle, (4, (0, (11, []))))) rfl rfl (N := 16378) (yfuel (by decide)) ?_
  show yG 89 xfts (xcall 89 xfts xpools xms (d + 3)) (xpool xp_RX10) [] xt_X10_settle (yP 0 (fun rv hp' => (rv = none ∧ True) ∧ bAx G [(34359738368, 1), (34359738368, 2), (68719476736, 256)] hp hp')) 16378 0 [(0, yR k0), (1, yR k1), (2, yI (p2))] [] hp
  have i_24 := H 861
  refine yG.load xak rfl (fun _ _ => rfl) (v := yR k0) rfl rfl ?_
  refine yG.getO A_hp.1 (w_Solver_half W H_k0) rfl rfl (fun r1 H_r1 O_r1 q_r1 => ?_)
  obtain ⟨n_r1, N_r1⟩ : ∃ n : Int, n = ((zat G r1 : Nat) : Int) := ⟨_, rfl⟩
  have L_r1 := n_Big W H_r1
  refine yG.load xak rfl (fun _ _ => rfl) (v := yR k0) rfl rfl ?_
  refine yG.getO A_hp.1 (w_Solver_modulus W H_k0) rfl rfl (fun r2 H_r2 O_r2 q_r2 => ?_)
  obtain ⟨n_r2, N_r2⟩ : ∃ n : Int, n = ((zat G r2 : Nat) : Int) := ⟨_, rfl⟩
  have L_r2 := n_Big W H_r2
  refine yG.invV (rest := []) A_hp.1 (bOb (d_Big W) H_r1) rfl rfl rfl rfl (c_Big_copy W (d + 1) A_hp.1 H_r1 H_r2) (fun rv h3 q9 => ?_)
  obtain ⟨⟨rfl, R_z4⟩, B_h3⟩ := q9
  have A_h3 := A_hp.tr B_h3 (by decide)
  have qq1 : zsl h3 k0 5 = yR r1 := (B_h3.sl H_k0 (by decide)).trans q_r1
  show yG _ _ _ _ _ _ _ _ _ _ [] _
  refine yG.load xak rfl (fun _ _ => rfl) (v := yR k0) rfl rfl ?_
  refine yG.getS9 A_h3.1 (w_Solver_half W H_k0) qq1 rfl rfl ?_
  refine yG.numl (c := 2) rfl (fun _ _ => rfl) (by decide) ?_
  refine yG.invV (rest := []) A_h3.1 (bOb (d_Big W) H_r1) rfl rfl rfl rfl (c_Big_shorten W (d + 1) A_h3.1 H_r1 (2) (by omega) (by omega)) (fun rv h5 q9 => ?_)
  obtain ⟨⟨z6, rfl, l_z6, u_z6, R_z6⟩, B_h5⟩ := q9
  have A_h5 := A_h3.tr B_h5 (by decide)
  have qq2 : zsl h5 k0 5 = yR r1 := (B_h5.sl H_k0 (by decide)).trans qq1
  show yG _ _ _ _ _ _ _ _ _ _ (yJ z6 :: []) _
  refine yG.step (pc' := 22) (stk' := []) rfl (fun _ _ => rfl) ?_
  refine yG.num (c := 0) rfl (fun _ _ => rfl) (by decide) ?_
  refine yG.store1 xik (L' := [(3, yI (0)), (0, yR k0), (1, yR k1), (2, yI (p2))]) rfl (fun _ _ => rfl) rfl rfl ?_
  exact yG.mono (yG.sub (i_24 (0)  h5 A_h5   (by omega) (by omega) (by omega) (by omega) (by omega) (by omega)) (ySub.cons rfl (ySub.cons rfl (ySub.cons rfl (ySub.cons rfl (ySub.nil)))))) (by omega)
theorem c_Solver_take_16 {hp : xH} (W : bW G) (d : Nat) (hT : zTy G hp) {k0 : Nat} (H_k0 : bRo G 40 k0) {k1 : Nat} (H_k1 : bRo G 51 k1) {k2 : Nat} (H_k2 : bRo G 49 k2) {k3 : Nat} (H_k3 : bRo G 35 k3) (p4 p5 : Int) (h4l : 0 ≤ p4) (h4u : p4 ≤ 47) (h5l : (-9223372036854775808) ≤ p5) (h5u : p5 ≤ 9223372036854775807) : yC (xcall 89 xfts xpools xms (d + 4)) 263 [yR k0, yR k1, yR k2, yR k3, yI (p4), yJ (p5)] hp (fun rv hp' => (rv = none ∧ True) ∧ bAx G [(34359738368, 1), (68719476736, 256)] hp hp') := by
  have A_hp : bAx G [(34359738368, 1), (68719476736, 256)] hp hp := bAx.rf hT
  obtain ⟨n_k3, N_k3⟩ : ∃ n : Int, n = ((zat G k3 : Nat) : Int) := ⟨_, rfl⟩
  have L_k3 := n_Big W H_k3
  have H : ∀ m : Nat, (∀ a7 : Int, ∀ a9 : Int, ∀ hq, bAx G [(34359738368, 1), (68719476736, 256)] hp hq → (-2147483646) ≤ a7 → (-2147483646) ≤ 0 - a7 → 0 ≤ a9 → (-16) ≤ 0 - a9 → 0 ≤ p4 → (-47) ≤ 0 - p4 → (-9223372036854775808) ≤ p5 → (-9223372036854775807) ≤ 0 - p5 → 12 ≤ n_k3 → (-96) ≤ 0 - n_k3 → 0 - 2 * a9 + 33 < (m : Int) → yG 89 xfts (xcall 89 xfts xpools xms (d + 3)) (xpool xp_RX10) [] xt_X10_take (yP 0 (fun rv hp' => (rv = none ∧ True) ∧ bAx G [(34359738368, 1), (68719476736, 256)] hp hp')) (39 * m) 24 [(0, yR k0), (1, yR k1), (2, yR k2), (4, yI (p4)), (7, yJ (a7)), (9, yI (a9))] [] hq) := by
    intro m
    induction m with
    | zero =>
      intros; exfalso; omega
    | succ m ih =>
      have i_24 := ih
      clear ih
      intro a7 a9 hq A_hq f0 f1 f2 f3 f4 f5 f6 f7 f8 f9 hm
      refine yG.mono (N := 39 * m + 39) ?_ (by omega)
      refine yG.load xik rfl (fun _ _ => rfl) (v := yI (a9)) rfl rfl ?_
      refine yG.num (c := 16) rfl (fun _ _ => rfl) (by decide) ?_
      refine yG.icmp rfl (t := 96) rfl ⟨by omega, by omega⟩ ⟨by omega, by omega⟩ (fun c1 => ?_) (fun c1 => ?_)
      · have c1 : (a9 : Int) ≥ 16 := c1
        refine yG.ret rfl (fun _ _ => rfl) ?_
        exact (yP.void ⟨⟨rfl, trivial⟩, A_hq⟩)
      · have c1 : (a9 : Int) < 16 := c1
        refine yG.load xak rfl (fun _ _ => rfl) (v := yR k1) rfl rfl ?_
        refine yG.getO A_hq.1 (w_Shape_row W H_k1) rfl rfl (fun r2 H_r2 O_r2 q_r2 => ?_)
        refine yG.load xik rfl (fun _ _ => rfl) (v := yI (a9)) rfl rfl ?_
        refine yG.iald A_hq.1 (v_Shape_row W H_r2) rfl (by omega) (by omega) (fun z3 e_z3 i_z3 l_z3 u_z3 => ?_)
        refine yG.store1 xik (L' := [(10, yI (z3)), (0, yR k0), (1, yR k1), (2, yR k2), (4, yI (p4)), (7, yJ (a7)), (9, yI (a9))]) rfl (fun _ _ => rfl) rfl rfl ?_
        refine yG.load xik rfl (fun _ _ => rfl) (v := yI (z3)) rfl rfl ?_
        refine yG.ifz rfl (t := 90) rfl ⟨by omega, by omega⟩ (fun c4 => ?_) (fun c4 => ?_)
        · have c4 : (z3 : Int) < 0 := c4
          refine yG.iinc rfl (a := a9) rfl (L' := [(9, yI (a9 + 1)), (10, yI (z3)), (0, yR k0), (1, yR k1), (2, yR k2), (4, yI (p4)), (7, yJ (a7))]) rfl ?_
          refine yG.goto rfl (t := 24) rfl ?_
          exact yG.mono (yG.sub (i_24 (a7) (a9 + 1)  hq A_hq   (by omega) (by omega) (by omega) (by omega) (by omega) (by omega) (by omega) (by omega) (by omega) (by omega) (by omega)) (ySub.cons rfl (ySub.cons rfl (ySub.cons rfl (ySub.cons rfl (ySub.cons rfl (ySub.cons rfl (ySub.nil)))))))) (by omega)
        · have c4 : (z3 : Int) ≥ 0 := c4
          refine yG.load xik rfl (fun _ _ => rfl) (v := yI (z3)) rfl rfl ?_
          refine yG.num (c := 32) rfl (fun _ _ => rfl) (by decide) ?_
          refine yG.icmp rfl (t := 90) rfl ⟨by omega, by omega⟩ ⟨by omega, by omega⟩ (fun c5 => ?_) (fun c5 => ?_)
          · have c5 : (z3 : Int) ≥ 32 := c5
            exfalso; omega
          · have c5 : (z3 : Int) < 32 := c5
            refine yG.load xak rfl (fun _ _ => rfl) (v := yR k1) rfl rfl ?_
            refine yG.getO A_hq.1 (w_Shape_node W H_k1) rfl rfl (fun r6 H_r6 O_r6 q_r6 => ?_)
            refine yG.load xik rfl (fun _ _ => rfl) (v := yI (a9)) rfl rfl ?_
            refine yG.ialdF A_hq.1 (v_Shape_node W H_r6) rfl rfl (by omega) (by omega) (fun z7 e_z7 i_z7 l_z7 u_z7 => ?_)
            refine yG.load xik rfl (fun _ _ => rfl) (v := yI (a9)) rfl rfl ?_
            refine yG.icmp rfl (t := 90) rfl ⟨by omega, by omega⟩ ⟨by omega, by omega⟩ (fun c8 => ?_) (fun c8 => ?_)
            · have c8 : (z7 : Int) ≠ a9 := c8
              refine yG.iinc rfl (a := a9) rfl (L' := [(9, yI (a9 + 1)), (10, yI (z3)), (0, yR k0), (1, yR k1), (2, yR k2), (4, yI (p4)), (7, yJ (a7))]) rfl ?_
              refine yG.goto rfl (t := 24) rfl ?_
              exact yG.mono (yG.sub (i_24 (a7) (a9 + 1)  hq A_hq   (by omega) (by omega) (by omega) (by omega) (by omega) (by omega) (by omega) (by omega) (by omega) (by omega) (by omega)) (ySub.cons rfl (ySub.cons rfl (ySub.cons rfl (ySub.cons rfl (ySub.cons rfl (ySub.cons rfl (ySub.nil)))))))) (by omega)
            · have c8 : (z7 : Int) = a9 := c8
              refine yG.load xak rfl (fun _ _ => rfl) (v := yR k0) rfl rfl ?_
              refine yG.load xak rfl (fun _ _ => rfl) (v := yR k2) rfl rfl ?_
              refine yG.load xik rfl (fun _ _ => rfl) (v := yI (a9)) rfl rfl ?_
              refine yG.aaldO (r := 35) A_hq.1 (v_Big16 W H_k2) rfl rfl rfl (by omega) (by omega) (fun r9 H_r9 q_r9 => ?_)
              obtain ⟨n_r9, N_r9⟩ : ∃ n : Int, n = ((zat G r9 : Nat) : Int) := ⟨_, rfl⟩
              have L_r9 := n_Big W H_r9
              refine yG.load xak rfl (fun _ _ => rfl) (v := yR k0) rfl rfl ?_
              refine yG.getO A_hq.1 (w_Solver_cell W H_k0) rfl rfl (fun r10 H_r10 O_r10 q_r10 => ?_)
              refine yG.load xik rfl (fun _ _ => rfl) (v := yI (z3)) rfl rfl ?_
              refine yG.aaldO (r := 42) A_hq.1 (v_Solver_cell W H_r10) rfl rfl rfl (by omega) (by omega) (fun r11 H_r11 q_r11 => ?_)
              refine yG.load xik rfl (fun _ _ => rfl) (v := yI (p4)) rfl rfl ?_
              refine yG.lald A_hq.1 (v_Solver_cells W H_r11) rfl (by omega) (by omega) (fun z12 e_z12 i_z12 l_z12 u_z12 => ?_)
              refine yG.load xlk2 rfl (fun _ _ => rfl) (v := yJ (a7)) rfl rfl ?_
              refine yG.lmul rfl ?_
              obtain ⟨z13, e_z13⟩ : ∃ z : Int, z = z12 * a7 := ⟨_, rfl⟩
              rw [← e_z13]
              have b_z13 : -19807040610119340324676435968 ≤ z13 ∧ z13 ≤ 19807040610119340324676435968 := e_z13 ▸ ymuls (A := 9223372036854775808) (B := 2147483646) (by omega) (by omega) (by omega) (by omega) (by decide)
              refine yG.load xak rfl (fun _ _ => rfl) (v := yR k0) rfl rfl ?_
              refine yG.getJ A_hq.1 (w_Solver_prime W H_k0) rfl rfl (fun z14 e_z14 i_z14 l_z14 u_z14 => ?_)
              obtain ⟨z15, e_z15, l_z15, u_z15⟩ := ywJ (z13)
              rw [e_z15]
              refine yG.lremS rfl ⟨by omega, by omega⟩ ⟨by omega, by omega⟩ (by omega) (fun z16 l_z16 u_z16 => ?_)
              refine yG.invV (rest := []) A_hq.1 (bOb (d_Solver W) H_k0) rfl rfl rfl rfl (c_Solver_fold W d A_hq.1 H_k0 H_r9 (z16) (by omega) (by omega)) (fun rv h17 q9 => ?_)
              obtain ⟨⟨rfl, R_z18⟩, B_h17⟩ := q9
              have A_h17 := A_hq.tr B_h17 (by decide)
              show yG _ _ _ _ _ _ _ _ _ _ [] _
              refine yG.iinc rfl (a := a9) rfl (L' := [(9, yI (a9 + 1)), (10, yI (z3)), (0, yR k0), (1, yR k1), (2, yR k2), (4, yI (p4)), (7, yJ (a7))]) rfl ?_
              refine yG.goto rfl (t := 24) rfl ?_
              exact yG.mono (yG.sub (i_24 (a7) (a9 + 1)  h17 A_h17   (by omega) (by omega) (by omega) (by omega) (by omega) (by omega) (by omega) (by omega) (by omega) (by omega) (by omega)) (ySub.cons rfl (ySub.cons rfl (ySub.cons rfl (ySub.cons rfl (ySub.cons rfl (ySub.cons rfl (ySub.nil)))))))) (by omega)
  refine yC.of (M := (xt_X10_take, (11, (0, (11, []))))) rfl rfl (N := 1404) (yfuel (by decide)) ?_
  show yG 89 xfts (xcall 89 xfts xpools xms (d + 3)) (xpool xp_RX10) [] xt_X10_take (yP 0 (fun rv hp' => (rv = none ∧ True) ∧ bAx G [(34359738368, 1), (68719476736, 256)] hp hp')) 1404 0 [(0, yR k0), (1, yR k1), (2, yR k2), (3, yR k3), (4, yI (p4)), (5, yJ (p5))] [] hp
  have i_24 := H 35
  refine yG.load xak rfl (fun _ _ => rfl) (v := yR k0) rfl rfl ?_
  refine yG.getJ A_hp.1 (w_Solver_determinant W H_k0) rfl rfl (fun z1 e_z1 i_z1 l_z1 u_z1 => ?_)
  refine yG.load xlk2 rfl (fun _ _ => rfl) (v := yJ (p5)) rfl rfl ?_
  refine yG.lmul rfl ?_
  obtain ⟨z2, e_z2⟩ : ∃ z : Int, z = z1 * p5 := ⟨_, rfl⟩
  rw [← e_z2]
  have b_z2 : -85070591730234615865843651857942052864 ≤ z2 ∧ z2 ≤ 85070591730234615865843651857942052864 := e_z2 ▸ ymuls (A := 9223372036854775808) (B := 9223372036854775808) (by omega) (by omega) (by omega) (by omega) (by decide)
  refine yG.load xak rfl (fun _ _ => rfl) (v := yR k0) rfl rfl ?_
  refine yG.getJ A_hp.1 (w_Solver_prime W H_k0) rfl rfl (fun z3 e_z3 i_z3 l_z3 u_z3 => ?_)
  obtain ⟨z4, e_z4, l_z4, u_z4⟩ := ywJ (z2)
  rw [e_z4]
  refine yG.lremS rfl ⟨by omega, by omega⟩ ⟨by omega, by omega⟩ (by omega) (fun z5 l_z5 u_z5 => ?_)
  refine yG.store2 xlk2 (L' := [(7, yJ (z5)), (0, yR k0), (1, yR k1), (2, yR k2), (3, yR k3), (4, yI (p4)), (5, yJ (p5))]) rfl (fun _ _ => rfl) rfl rfl ?_
  refine yG.load xak rfl (fun _ _ => rfl) (v := yR k0) rfl rfl ?_
  refine yG.load xak rfl (fun _ _ => rfl) (v := yR k3) rfl rfl ?_
  refine yG.load xlk2 rfl (fun _ _ => rfl) (v := yJ (z5)) rfl rfl ?_
  refine yG.invV (rest := []) A_hp.1 (bOb (d_Solver W) H_k0) rfl rfl rfl rfl (c_Solver_fold W d A_hp.1 H_k0 H_k3 (z5) (by omega) (by omega)) (fun rv h6 q9 => ?_)
  obtain ⟨⟨rfl, R_z7⟩, B_h6⟩ := q9
  have A_h6 := A_hp.tr B_h6 (by decide)
  show yG _ _ _ _ _ _ _ _ _ _ [] _
  refine yG.num (c := 0) rfl (fun _ _ => rfl) (by decide) ?_
  refine yG.store1 xik (L' := [(9, yI (0)), (7, yJ (z5)), (0, yR k0), (1, yR k1), (2, yR k2), (3, yR k3), (4, yI (p4)), (5, yJ (p5))]) rfl (fun _ _ => rfl) rfl rfl ?_
  exact yG.mono (yG.sub (i_24 (z5) (0)  h6 A_h6   (by omega) (by omega) (by omega) (by omega) (by omega) (by omega) (by omega) (by omega) (by omega) (by omega) (by omega)) (ySub.cons rfl (ySub.cons rfl (ySub.cons rfl (ySub.cons rfl (ySub.cons rfl (ySub.cons rfl (ySub.nil)))))))) (by omega)
theorem c_Solver_take_17 {hp : xH} (W : bW G) (d : Nat) (hT : zTy G hp) {k0 : Nat} (H_k0 : bRo G 40 k0) {k1 : Nat} (H_k1 : bRo G 51 k1) {k2 : Nat} (H_k2 : bRo G 77 k2) {k3 : Nat} (H_k3 : bRo G 35 k3) (p4 p5 : Int) (h4l : 0 ≤ p4) (h4u : p4 ≤ 47) (h5l : (-9223372036854775808) ≤ p5) (h5u : p5 ≤ 9223372036854775807) : yC (xcall 89 xfts xpools xms (d + 4)) 263 [yR k0, yR k1, yR k2, yR k3, yI (p4), yJ (p5)] hp (fun rv hp' => (rv = none ∧ True) ∧ bAx G [(34359738368, 1), (68719476736, 256)] hp hp') := by
  have A_hp : bAx G [(34359738368, 1), (68719476736, 256)] hp hp := bAx.rf hT
  obtain ⟨n_k3, N_k3⟩ : ∃ n : Int, n = ((zat G k3 : Nat) : Int) := ⟨_, rfl⟩
  have L_k3 := n_Big W H_k3
  have H : ∀ m : Nat, (∀ a7 : Int, ∀ a9 : Int, ∀ hq, bAx G [(34359738368, 1), (68719476736, 256)] hp hq → (-2147483646) ≤ a7 → (-2147483646) ≤ 0 - a7 → 0 ≤ a9 → (-16) ≤ 0 - a9 → 0 ≤ p4 → (-47) ≤ 0 - p4 → (-9223372036854775808) ≤ p5 → (-9223372036854775807) ≤ 0 - p5 → 12 ≤ n_k3 → (-96) ≤ 0 - n_k3 → 0 - 2 * a9 + 33 < (m : Int) → yG 89 xfts (xcall 89 xfts xpools xms (d + 3)) (xpool xp_RX10) [] xt_X10_take (yP 0 (fun rv hp' => (rv = none ∧ True) ∧ bAx G [(34359738368, 1), (68719476736, 256)] hp hp')) (39 * m) 24 [(0, yR k0), (1, yR k1), (2, yR k2), (4, yI (p4)), (7, yJ (a7)), (9, yI (a9))] [] hq) := by
    intro m
    induction m with
    | zero =>
      intros; exfalso; omega
    | succ m ih =>
      have i_24 := ih
      clear ih
      intro a7 a9 hq A_hq f0 f1 f2 f3 f4 f5 f6 f7 f8 f9 hm
      refine yG.mono (N := 39 * m + 39) ?_ (by omega)
      refine yG.load xik rfl (fun _ _ => rfl) (v := yI (a9)) rfl rfl ?_
      refine yG.num (c := 16) rfl (fun _ _ => rfl) (by decide) ?_
      refine yG.icmp rfl (t := 96) rfl ⟨by omega, by omega⟩ ⟨by omega, by omega⟩ (fun c1 => ?_) (fun c1 => ?_)
      · have c1 : (a9 : Int) ≥ 16 := c1
        refine yG.ret rfl (fun _ _ => rfl) ?_
        exact (yP.void ⟨⟨rfl, trivial⟩, A_hq⟩)
      · have c1 : (a9 : Int) < 16 := c1
        refine yG.load xak rfl (fun _ _ => rfl) (v := yR k1) rfl rfl ?_
        refine yG.getO A_hq.1 (w_Shape_row W H_k1) rfl rfl (fun r2 H_r2 O_r2 q_r2 => ?_)
        refine yG.load xik rfl (fun _ _ => rfl) (v := yI (a9)) rfl rfl ?_
        refine yG.iald A_hq.1 (v_Shape_row W H_r2) rfl (by omega) (by omega) (fun z3 e_z3 i_z3 l_z3 u_z3 => ?_)
        refine yG.store1 xik (L' := [(10, yI (z3)), (0, yR k0), (1, yR k1), (2, yR k2), (4, yI (p4)), (7, yJ (a7)), (9, yI (a9))]) rfl (fun _ _ => rfl) rfl rfl ?_
        refine yG.load xik rfl (fun _ _ => rfl) (v := yI (z3)) rfl rfl ?_
        refine yG.ifz rfl (t := 90) rfl ⟨by omega, by omega⟩ (fun c4 => ?_) (fun c4 => ?_)
        · have c4 : (z3 : Int) < 0 := c4
          refine yG.iinc rfl (a := a9) rfl (L' := [(9, yI (a9 + 1)), (10, yI (z3)), (0, yR k0), (1, yR k1), (2, yR k2), (4, yI (p4)), (7, yJ (a7))]) rfl ?_
          refine yG.goto rfl (t := 24) rfl ?_
          exact yG.mono (yG.sub (i_24 (a7) (a9 + 1)  hq A_hq   (by omega) (by omega) (by omega) (by omega) (by omega) (by omega) (by omega) (by omega) (by omega) (by omega) (by omega)) (ySub.cons rfl (ySub.cons rfl (ySub.cons rfl (ySub.cons rfl (ySub.cons rfl (ySub.cons rfl (ySub.nil)))))))) (by omega)
        · have c4 : (z3 : Int) ≥ 0 := c4
          refine yG.load xik rfl (fun _ _ => rfl) (v := yI (z3)) rfl rfl ?_
          refine yG.num (c := 32) rfl (fun _ _ => rfl) (by decide) ?_
          refine yG.icmp rfl (t := 90) rfl ⟨by omega, by omega⟩ ⟨by omega, by omega⟩ (fun c5 => ?_) (fun c5 => ?_)
          · have c5 : (z3 : Int) ≥ 32 := c5
            exfalso; omega
          · have c5 : (z3 : Int) < 32 := c5
            refine yG.load xak rfl (fun _ _ => rfl) (v := yR k1) rfl rfl ?_
            refine yG.getO A_hq.1 (w_Shape_node W H_k1) rfl rfl (fun r6 H_r6 O_r6 q_r6 => ?_)
            refine yG.load xik rfl (fun _ _ => rfl) (v := yI (a9)) rfl rfl ?_
            refine yG.ialdF A_hq.1 (v_Shape_node W H_r6) rfl rfl (by omega) (by omega) (fun z7 e_z7 i_z7 l_z7 u_z7 => ?_)
            refine yG.load xik rfl (fun _ _ => rfl) (v := yI (a9)) rfl rfl ?_
            refine yG.icmp rfl (t := 90) rfl ⟨by omega, by omega⟩ ⟨by omega, by omega⟩ (fun c8 => ?_) (fun c8 => ?_)
            · have c8 : (z7 : Int) ≠ a9 := c8
              refine yG.iinc rfl (a := a9) rfl (L' := [(9, yI (a9 + 1)), (10, yI (z3)), (0, yR k0), (1, yR k1), (2, yR k2), (4, yI (p4)), (7, yJ (a7))]) rfl ?_
              refine yG.goto rfl (t := 24) rfl ?_
              exact yG.mono (yG.sub (i_24 (a7) (a9 + 1)  hq A_hq   (by omega) (by omega) (by omega) (by omega) (by omega) (by omega) (by omega) (by omega) (by omega) (by omega) (by omega)) (ySub.cons rfl (ySub.cons rfl (ySub.cons rfl (ySub.cons rfl (ySub.cons rfl (ySub.cons rfl (ySub.nil)))))))) (by omega)
            · have c8 : (z7 : Int) = a9 := c8
              refine yG.load xak rfl (fun _ _ => rfl) (v := yR k0) rfl rfl ?_
              refine yG.load xak rfl (fun _ _ => rfl) (v := yR k2) rfl rfl ?_
              refine yG.load xik rfl (fun _ _ => rfl) (v := yI (a9)) rfl rfl ?_
              refine yG.aaldO (r := 35) A_hq.1 (v_Big17 W H_k2) rfl rfl rfl (by omega) (by omega) (fun r9 H_r9 q_r9 => ?_)
              obtain ⟨n_r9, N_r9⟩ : ∃ n : Int, n = ((zat G r9 : Nat) : Int) := ⟨_, rfl⟩
              have L_r9 := n_Big W H_r9
              refine yG.load xak rfl (fun _ _ => rfl) (v := yR k0) rfl rfl ?_
              refine yG.getO A_hq.1 (w_Solver_cell W H_k0) rfl rfl (fun r10 H_r10 O_r10 q_r10 => ?_)
              refine yG.load xik rfl (fun _ _ => rfl) (v := yI (z3)) rfl rfl ?_
              refine yG.aaldO (r := 42) A_hq.1 (v_Solver_cell W H_r10) rfl rfl rfl (by omega) (by omega) (fun r11 H_r11 q_r11 => ?_)
              refine yG.load xik rfl (fun _ _ => rfl) (v := yI (p4)) rfl rfl ?_
              refine yG.lald A_hq.1 (v_Solver_cells W H_r11) rfl (by omega) (by omega) (fun z12 e_z12 i_z12 l_z12 u_z12 => ?_)
              refine yG.load xlk2 rfl (fun _ _ => rfl) (v := yJ (a7)) rfl rfl ?_
              refine yG.lmul rfl ?_
              obtain ⟨z13, e_z13⟩ : ∃ z : Int, z = z12 * a7 := ⟨_, rfl⟩
              rw [← e_z13]
              have b_z13 : -19807040610119340324676435968 ≤ z13 ∧ z13 ≤ 19807040610119340324676435968 := e_z13 ▸ ymuls (A := 9223372036854775808) (B := 2147483646) (by omega) (by omega) (by omega) (by omega) (by decide)
              refine yG.load xak rfl (fun _ _ => rfl) (v := yR k0) rfl rfl ?_
              refine yG.getJ A_hq.1 (w_Solver_prime W H_k0) rfl rfl (fun z14 e_z14 i_z14 l_z14 u_z14 => ?_)
              obtain ⟨z15, e_z15, l_z15, u_z15⟩ := ywJ (z13)
              rw [e_z15]
              refine yG.lremS rfl ⟨by omega, by omega⟩ ⟨by omega, by omega⟩ (by omega) (fun z16 l_z16 u_z16 => ?_)
              refine yG.invV (rest := []) A_hq.1 (bOb (d_Solver W) H_k0) rfl rfl rfl rfl (c_Solver_fold W d A_hq.1 H_k0 H_r9 (z16) (by omega) (by omega)) (fun rv h17 q9 => ?_)
              obtain ⟨⟨rfl, R_z18⟩, B_h17⟩ := q9
              have A_h17 := A_hq.tr B_h17 (by decide)
              show yG _ _ _ _ _ _ _ _ _ _ [] _
              refine yG.iinc rfl (a := a9) rfl (L' := [(9, yI (a9 + 1)), (10, yI (z3)), (0, yR k0), (1, yR k1), (2, yR k2), (4, yI (p4)), (7, yJ (a7))]) rfl ?_
              refine yG.goto rfl (t := 24) rfl ?_
              exact yG.mono (yG.sub (i_24 (a7) (a9 + 1)  h17 A_h17   (by omega) (by omega) (by omega) (by omega) (by omega) (by omega) (by omega) (by omega) (by omega) (by omega) (by omega)) (ySub.cons rfl (ySub.cons rfl (ySub.cons rfl (ySub.cons rfl (ySub.cons rfl (ySub.cons rfl (ySub.nil)))))))) (by omega)
  refine yC.of (M := (xt_X10_take, (11, (0, (11, []))))) rfl rfl (N := 1404) (yfuel (by decide)) ?_
  show yG 89 xfts (xcall 89 xfts xpools xms (d + 3)) (xpool xp_RX10) [] xt_X10_take (yP 0 (fun rv hp' => (rv = none ∧ True) ∧ bAx G [(34359738368, 1), (68719476736, 256)] hp hp')) 1404 0 [(0, yR k0), (1, yR k1), (2, yR k2), (3, yR k3), (4, yI (p4)), (5, yJ (p5))] [] hp
  have i_24 := H 35
  refine yG.load xak rfl (fun _ _ => rfl) (v := yR k0) rfl rfl ?_
  refine yG.getJ A_hp.1 (w_Solver_determinant W H_k0) rfl rfl (fun z1 e_z1 i_z1 l_z1 u_z1 => ?_)
  refine yG.load xlk2 rfl (fun _ _ => rfl) (v := yJ (p5)) rfl rfl ?_
  refine yG.lmul rfl ?_
  obtain ⟨z2, e_z2⟩ : ∃ z : Int, z = z1 * p5 := ⟨_, rfl⟩
  rw [← e_z2]
  have b_z2 : -85070591730234615865843651857942052864 ≤ z2 ∧ z2 ≤ 85070591730234615865843651857942052864 := e_z2 ▸ ymuls (A := 9223372036854775808) (B := 9223372036854775808) (by omega) (by omega) (by omega) (by omega) (by decide)
  refine yG.load xak rfl (fun _ _ => rfl) (v := yR k0) rfl rfl ?_
  refine yG.getJ A_hp.1 (w_Solver_prime W H_k0) rfl rfl (fun z3 e_z3 i_z3 l_z3 u_z3 => ?_)
  obtain ⟨z4, e_z4, l_z4, u_z4⟩ := ywJ (z2)
  rw [e_z4]
  refine yG.lremS rfl ⟨by omega, by omega⟩ ⟨by omega, by omega⟩ (by omega) (fun z5 l_z5 u_z5 => ?_)
  refine yG.store2 xlk2 (L' := [(7, yJ (z5)), (0, yR k0), (1, yR k1), (2, yR k2), (3, yR k3), (4, yI (p4)), (5, yJ (p5))]) rfl (fun _ _ => rfl) rfl rfl ?_
  refine yG.load xak rfl (fun _ _ => rfl) (v := yR k0) rfl rfl ?_
  refine yG.load xak rfl (fun _ _ => rfl) (v := yR k3) rfl rfl ?_
  refine yG.load xlk2 rfl (fun _ _ => rfl) (v := yJ (z5)) rfl rfl ?_
  refine yG.invV (rest := []) A_hp.1 (bOb (d_Solver W) H_k0) rfl rfl rfl rfl (c_Solver_fold W d A_hp.1 H_k0 H_k3 (z5) (by omega) (by omega)) (fun rv h6 q9 => ?_)
  obtain ⟨⟨rfl, R_z7⟩, B_h6⟩ := q9
  have A_h6 := A_hp.tr B_h6 (by decide)
  show yG _ _ _ _ _ _ _ _ _ _ [] _
  refine yG.num (c := 0) rfl (fun _ _ => rfl) (by decide) ?_
  refine yG.store1 xik (L' := [(9, yI (0)), (7, yJ (z5)), (0, yR k0), (1, yR k1), (2, yR k2), (3, yR k3), (4, yI (p4)), (5, yJ (p5))]) rfl (fun _ _ => rfl) rfl rfl ?_
  exact yG.mono (yG.sub (i_24 (z5) (0)  h6 A_h6   (by omega) (by omega) (by omega) (by omega) (by omega) (by omega) (by omega) (by omega) (by omega) (by omega) (by omega)) (ySub.cons rfl (ySub.cons rfl (ySub.cons rfl (ySub.cons rfl (ySub.cons rfl (ySub.cons rfl (ySub.nil)))))))) (by omega)
theorem c_Solver_clear {hp : xH} (W : bW G) (d : Nat) (hT : zTy G hp) {k0 : Nat} (H_k0 : bRo G 40 k0) (p1 p2 p3 p4 : Int) (h1l : 0 ≤ p1) (h1u : p1 ≤ 31) (h2l : 0 ≤ p2) (h2u : p2 ≤ 47) (h3l : (-2147483648) ≤ p3) (h3u : p3 ≤ 2147483647) (h4l : (-2147483648) ≤ p4) (h4u : p4 ≤ 2147483647) : yC (xcall 89 xfts xpools xms (d + 2)) 250 [yR k0, yI (p1), yI (p2), yI (p3), yI (p4)] hp (fun rv hp' => (rv = none ∧ True) ∧ bAx G [(4398046511104, 256)] hp hp') := by
  have A_hp : bAx G [(4398046511104, 256)] hp hp := bAx.rf hT
  have H : ∀ m : Nat, (∀ a5 : Nat, ∀ a6 : Int, ∀ a8 : Int, ∀ hq, bAx G [(4398046511104, 256)] hp hq → bRo G 42 a5 → (-9223372034707293187) ≤ a6 → (-9223372036854775807) ≤ 0 - a6 → 0 ≤ a8 → (-48) ≤ 0 - a8 → 0 ≤ p1 → (-31) ≤ 0 - p1 → 0 ≤ p2 → (-47) ≤ 0 - p2 → (-2147483648) ≤ p3 → (-2147483647) ≤ 0 - p3 → (-2147483648) ≤ p4 → (-2147483647) ≤ 0 - p4 → 0 ≤ a8 - p2 → (-2147483695) ≤ 0 - a8 + p4 → 0 - 3268 * a8 + 160131 < (m : Int) → yG 89 xfts (xcall 89 xfts xpools xms (d + 1)) (xpool xp_RX10) [] xt_X10_clear (yP 0 (fun rv hp' => (rv = none ∧ True) ∧ bAx G [(4398046511104, 256)] hp hp')) (34 * m) 21 [(0, yR k0), (1, yI (p1)), (2, yI (p2)), (3, yI (p3)), (4, yI (p4)), (5, yR a5), (6, yJ (a6)), (8, yI (a8))] [] hq) ∧ (∀ a5 : Nat, ∀ a8 : Int, ∀ hq, bAx G [(4398046511104, 256)] hp hq → bRo G 42 a5 → 0 ≤ a8 → (-32) ≤ 0 - a8 → 0 ≤ p1 → (-31) ≤ 0 - p1 → 0 ≤ p2 → (-47) ≤ 0 - p2 → (-2147483648) ≤ p3 → (-2147483647) ≤ 0 - p3 → (-2147483648) ≤ p4 → (-2147483647) ≤ 0 - p4 → (-2147483648) ≤ 0 - a8 + p3 → 0 - 99 * a8 + 3266 < (m : Int) → yG 89 xfts (xcall 89 xfts xpools xms (d + 1)) (xpool xp_RX10) [] xt_X10_clear (yP 0 (fun rv hp' => (rv = none ∧ True) ∧ bAx G [(4398046511104, 256)] hp hp')) (34 * m) 62 [(0, yR k0), (1, yI (p1)), (2, yI (p2)), (3, yI (p3)), (4, yI (p4)), (5, yR a5), (8, yI (a8))] [] hq) ∧ (∀ a5 : Nat, ∀ a8 : Int, ∀ a9 : Nat, ∀ a10 : Int, ∀ a12 : Int, ∀ hq, bAx G [(4398046511104, 256)] hp hq → bRo G 42 a5 → bRo G 42 a9 → 0 ≤ a8 → (-31) ≤ 0 - a8 → (-9223372036854775808) ≤ a10 → (-9223372036854775807) ≤ 0 - a10 → 0 ≤ a12 → (-48) ≤ 0 - a12 → 0 ≤ p1 → (-31) ≤ 0 - p1 → 0 ≤ p2 → (-47) ≤ 0 - p2 → 1 ≤ p3 → (-2147483647) ≤ 0 - p3 → (-2147483648) ≤ p4 → (-2147483647) ≤ 0 - p4 → 1 ≤ 0 - a8 + p3 → 0 ≤ a12 - p2 → (-2147483695) ≤ 0 - a12 + p4 → 0 - 2 * a12 - 99 * a8 + 3265 < (m : Int) → yG 89 xfts (xcall 89 xfts xpools xms (d + 1)) (xpool xp_RX10) [] xt_X10_clear (yP 0 (fun rv hp' => (rv = none ∧ True) ∧ bAx G [(4398046511104, 256)] hp hp')) (34 * m) 125 [(0, yR k0), (1, yI (p1)), (2, yI (p2)), (3, yI (p3)), (4, yI (p4)), (5, yR a5), (8, yI (a8)), (9, yR a9), (10, yJ (a10)), (12, yI (a12))] [] hq) := by
    intro m
    induction m with
    | zero =>
      refine ⟨?_, ?_, ?_⟩ <;> (intros; exfalso; omega)
    | succ m ih =>
      obtain ⟨i_21, i_62, i_125⟩ := ih
      refine ⟨?_, ?_, ?_⟩
      · intro a5 a6 a8 hq A_hq H_a5 f0 f1 f2 f3 f4 f5 f6 f7 f8 f9 f10 f11 f12 f13 hm
        refine yG.mono (N := 34 * m + 34) ?_ (by omega)
        refine yG.load xik rfl (fun _ _ => rfl) (v := yI (a8)) rfl rfl ?_
        refine yG.load xik rfl (fun _ _ => rfl) (v := yI (p4)) rfl rfl ?_
        refine yG.icmp rfl (t := 59) rfl ⟨by omega, by omega⟩ ⟨by omega, by omega⟩ (fun c1 => ?_) (fun c1 => ?_)
        · have c1 : (a8 : Int) ≥ p4 := c1
          refine yG.num (c := 0) rfl (fun _ _ => rfl) (by decide) ?_
          refine yG.store1 xik (L' := [(8, yI (0)), (0, yR k0), (1, yI (p1)), (2, yI (p2)), (3, yI (p3)), (4, yI (p4)), (5, yR a5), (6, yJ (a6))]) rfl (fun _ _ => rfl) rfl rfl ?_
          exact yG.mono (yG.sub (i_62 a5 (0)  hq A_hq H_a5  (by omega) (by omega) (by omega) (by omega) (by omega) (by omega) (by omega) (by omega) (by omega) (by omega) (by omega) (by omega)) (ySub.cons rfl (ySub.cons rfl (ySub.cons rfl (ySub.cons rfl (ySub.cons rfl (ySub.cons rfl (ySub.cons rfl (ySub.nil))))))))) (by omega)
        · have c1 : (a8 : Int) < p4 := c1
          refine yG.load xik rfl (fun _ _ => rfl) (v := yI (a8)) rfl rfl ?_
          refine yG.num (c := 48) rfl (fun _ _ => rfl) (by decide) ?_
          refine yG.icmp rfl (t := 59) rfl ⟨by omega, by omega⟩ ⟨by omega, by omega⟩ (fun c2 => ?_) (fun c2 => ?_)
          · have c2 : (a8 : Int) ≥ 48 := c2
            refine yG.num (c := 0) rfl (fun _ _ => rfl) (by decide) ?_
            refine yG.store1 xik (L' := [(8, yI (0)), (0, yR k0), (1, yI (p1)), (2, yI (p2)), (3, yI (p3)), (4, yI (p4)), (5, yR a5), (6, yJ (a6))]) rfl (fun _ _ => rfl) rfl rfl ?_
            exact yG.mono (yG.sub (i_62 a5 (0)  hq A_hq H_a5  (by omega) (by omega) (by omega) (by omega) (by omega) (by omega) (by omega) (by omega) (by omega) (by omega) (by omega) (by omega)) (ySub.cons rfl (ySub.cons rfl (ySub.cons rfl (ySub.cons rfl (ySub.cons rfl (ySub.cons rfl (ySub.cons rfl (ySub.nil))))))))) (by omega)
          · have c2 : (a8 : Int) < 48 := c2
            refine yG.load xak rfl (fun _ _ => rfl) (v := yR a5) rfl rfl ?_
            refine yG.load xik rfl (fun _ _ => rfl) (v := yI (a8)) rfl rfl ?_
            refine yG.load xak rfl (fun _ _ => rfl) (v := yR a5) rfl rfl ?_
            refine yG.load xik rfl (fun _ _ => rfl) (v := yI (a8)) rfl rfl ?_
            refine yG.lald A_hq.1 (v_Solver_cells W H_a5) rfl (by omega) (by omega) (fun z3 e_z3 i_z3 l_z3 u_z3 => ?_)
            refine yG.load xlk2 rfl (fun _ _ => rfl) (v := yJ (a6)) rfl rfl ?_
            refine yG.lmul rfl ?_
            obtain ⟨z4, e_z4⟩ : ∃ z : Int, z = z3 * a6 := ⟨_, rfl⟩
            rw [← e_z4]
            have b_z4 : -85070591730234615856620279821087277056 ≤ z4 ∧ z4 ≤ 85070591730234615856620279821087277056 := e_z4 ▸ ymuls (A := 9223372036854775808) (B := 9223372036854775807) (by omega) (by omega) (by omega) (by omega) (by decide)
            refine yG.load xak rfl (fun _ _ => rfl) (v := yR k0) rfl rfl ?_
            refine yG.getJ A_hq.1 (w_Solver_prime W H_k0) rfl rfl (fun z5 e_z5 i_z5 l_z5 u_z5 => ?_)
            obtain ⟨z6, e_z6, l_z6, u_z6⟩ := ywJ (z4)
            rw [e_z6]
            refine yG.lremS rfl ⟨by omega, by omega⟩ ⟨by omega, by omega⟩ (by omega) (fun z7 l_z7 u_z7 => ?_)
            refine yG.last A_hq.1 (v_Solver_cells W H_a5) (W.2.1 _ _ H_a5 (by decide) (by decide)) rfl (by omega) (by omega) ⟨by omega, by omega⟩ (by omega) (by omega) (fun h8 T_h8 b_h8 f_h8 y_h8 => ?_)
            have A_h8 := A_hq.put T_h8 b_h8 f_h8 H_a5 (bAll_ok (by decide) _)
            refine yG.iinc rfl (a := a8) rfl (L' := [(8, yI (a8 + 1)), (0, yR k0), (1, yI (p1)), (2, yI (p2)), (3, yI (p3)), (4, yI (p4)), (5, yR a5), (6, yJ (a6))]) rfl ?_
            refine yG.goto rfl (t := 21) rfl ?_
            exact yG.mono (yG.sub (i_21 a5 (a6) (a8 + 1)  h8 A_h8 H_a5  (by omega) (by omega) (by omega) (by omega) (by omega) (by omega) (by omega) (by omega) (by omega) (by omega) (by omega) (by omega) (by omega) (by omega) (by omega)) (ySub.cons rfl (ySub.cons rfl (ySub.cons rfl (ySub.cons rfl (ySub.cons rfl (ySub.cons rfl (ySub.cons rfl (ySub.cons rfl (ySub.nil)))))))))) (by omega)
      · intro a5 a8 hq A_hq H_a5 f0 f1 f2 f3 f4 f5 f6 f7 f8 f9 f10 hm
        refine yG.mono (N := 34 * m + 34) ?_ (by omega)
        refine yG.load xik rfl (fun _ _ => rfl) (v := yI (a8)) rfl rfl ?_
        refine yG.load xik rfl (fun _ _ => rfl) (v := yI (p3)) rfl rfl ?_
        refine yG.icmp rfl (t := 175) rfl ⟨by omega, by omega⟩ ⟨by omega, by omega⟩ (fun c1 => ?_) (fun c1 => ?_)
        · have c1 : (a8 : Int) ≥ p3 := c1
          refine yG.ret rfl (fun _ _ => rfl) ?_
          exact (yP.void ⟨⟨rfl, trivial⟩, A_hq⟩)
        · have c1 : (a8 : Int) < p3 := c1
          refine yG.load xik rfl (fun _ _ => rfl) (v := yI (a8)) rfl rfl ?_
          refine yG.num (c := 32) rfl (fun _ _ => rfl) (by decide) ?_
          refine yG.icmp rfl (t := 175) rfl ⟨by omega, by omega⟩ ⟨by omega, by omega⟩ (fun c2 => ?_) (fun c2 => ?_)
          · have c2 : (a8 : Int) ≥ 32 := c2
            refine yG.ret rfl (fun _ _ => rfl) ?_
            exact (yP.void ⟨⟨rfl, trivial⟩, A_hq⟩)
          · have c2 : (a8 : Int) < 32 := c2
            refine yG.load xak rfl (fun _ _ => rfl) (v := yR k0) rfl rfl ?_
            refine yG.getO A_hq.1 (w_Solver_cell W H_k0) rfl rfl (fun r3 H_r3 O_r3 q_r3 => ?_)
            refine yG.load xik rfl (fun _ _ => rfl) (v := yI (a8)) rfl rfl ?_
            refine yG.aaldO (r := 42) A_hq.1 (v_Solver_cell W H_r3) rfl rfl rfl (by omega) (by omega) (fun r4 H_r4 q_r4 => ?_)
            refine yG.store1 xak (L' := [(9, yR r4), (0, yR k0), (1, yI (p1)), (2, yI (p2)), (3, yI (p3)), (4, yI (p4)), (5, yR a5), (8, yI (a8))]) rfl (fun _ _ => rfl) rfl rfl ?_
            refine yG.load xik rfl (fun _ _ => rfl) (v := yI (a8)) rfl rfl ?_
            refine yG.load xik rfl (fun _ _ => rfl) (v := yI (p1)) rfl rfl ?_
            refine yG.icmp rfl (t := 94) rfl ⟨by omega, by omega⟩ ⟨by omega, by omega⟩ (fun c5 => ?_) (fun c5 => ?_)
            · have c5 : (a8 : Int) ≠ p1 := c5
              refine yG.load xak rfl (fun _ _ => rfl) (v := yR k0) rfl rfl ?_
              refine yG.getJ A_hq.1 (w_Solver_prime W H_k0) rfl rfl (fun z6 e_z6 i_z6 l_z6 u_z6 => ?_)
              refine yG.load xak rfl (fun _ _ => rfl) (v := yR r4) rfl rfl ?_
              refine yG.load xik rfl (fun _ _ => rfl) (v := yI (p2)) rfl rfl ?_
              refine yG.lald A_hq.1 (v_Solver_cells W H_r4) rfl (by omega) (by omega) (fun z7 e_z7 i_z7 l_z7 u_z7 => ?_)
              refine yG.lsub rfl ?_
              obtain ⟨z8, e_z8, l_z8, u_z8⟩ := ywJ (z6 - z7)
              rw [e_z8]
              refine yG.store2 xlk2 (L' := [(10, yJ (z8)), (9, yR r4), (0, yR k0), (1, yI (p1)), (2, yI (p2)), (3, yI (p3)), (4, yI (p4)), (5, yR a5), (8, yI (a8))]) rfl (fun _ _ => rfl) rfl rfl ?_
              refine yG.load xlk2 rfl (fun _ _ => rfl) (v := yJ (z8)) rfl rfl ?_
              refine yG.numl (c := 0) rfl (fun _ _ => rfl) (by decide) ?_
              refine yG.lcmp rfl ⟨by omega, by omega⟩ ⟨by omega, by omega⟩ (fun z9 e_z9 => ?_)
              refine yG.ifz rfl (t := 169) rfl ⟨by omega, by omega⟩ (fun c10 => ?_) (fun c10 => ?_)
              · have c10 : (z9 : Int) = 0 := c10
                refine yG.iinc rfl (a := a8) rfl (L' := [(8, yI (a8 + 1)), (10, yJ (z8)), (9, yR r4), (0, yR k0), (1, yI (p1)), (2, yI (p2)), (3, yI (p3)), (4, yI (p4)), (5, yR a5)]) rfl ?_
                refine yG.goto rfl (t := 62) rfl ?_
                exact yG.mono (yG.sub (i_62 a5 (a8 + 1)  hq A_hq H_a5  (by omega) (by omega) (by omega) (by omega) (by omega) (by omega) (by omega) (by omega) (by omega) (by omega) (by omega) (by omega)) (ySub.cons rfl (ySub.cons rfl (ySub.cons rfl (ySub.cons rfl (ySub.cons rfl (ySub.cons rfl (ySub.cons rfl (ySub.nil))))))))) (by omega)
              · have c10 : (z9 : Int) ≠ 0 := c10
                refine yG.load xlk2 rfl (fun _ _ => rfl) (v := yJ (z8)) rfl rfl ?_
                refine yG.load xak rfl (fun _ _ => rfl) (v := yR k0) rfl rfl ?_
                refine yG.getJ A_hq.1 (w_Solver_prime W H_k0) rfl rfl (fun z11 e_z11 i_z11 l_z11 u_z11 => ?_)
                refine yG.lcmp rfl ⟨by omega, by omega⟩ ⟨by omega, by omega⟩ (fun z12 e_z12 => ?_)
                refine yG.ifz rfl (t := 169) rfl ⟨by omega, by omega⟩ (fun c13 => ?_) (fun c13 => ?_)
                · have c13 : (z12 : Int) = 0 := c13
                  refine yG.iinc rfl (a := a8) rfl (L' := [(8, yI (a8 + 1)), (10, yJ (z8)), (9, yR r4), (0, yR k0), (1, yI (p1)), (2, yI (p2)), (3, yI (p3)), (4, yI (p4)), (5, yR a5)]) rfl ?_
                  refine yG.goto rfl (t := 62) rfl ?_
                  exact yG.mono (yG.sub (i_62 a5 (a8 + 1)  hq A_hq H_a5  (by omega) (by omega) (by omega) (by omega) (by omega) (by omega) (by omega) (by omega) (by omega) (by omega) (by omega) (by omega)) (ySub.cons rfl (ySub.cons rfl (ySub.cons rfl (ySub.cons rfl (ySub.cons rfl (ySub.cons rfl (ySub.cons rfl (ySub.nil))))))))) (by omega)
                · have c13 : (z12 : Int) ≠ 0 := c13
                  refine yG.load xik rfl (fun _ _ => rfl) (v := yI (p2)) rfl rfl ?_
                  refine yG.store1 xik (L' := [(12, yI (p2)), (10, yJ (z8)), (9, yR r4), (0, yR k0), (1, yI (p1)), (2, yI (p2)), (3, yI (p3)), (4, yI (p4)), (5, yR a5), (8, yI (a8))]) rfl (fun _ _ => rfl) rfl rfl ?_
                  exact yG.mono (yG.sub (i_125 a5 (a8) r4 (z8) (p2)  hq A_hq H_a5 H_r4  (by omega) (by omega) (by omega) (by omega) (by omega) (by omega) (by omega) (by omega) (by omega) (by omega) (by omega) (by omega) (by omega) (by omega) (by omega) (by omega) (by omega) (by omega)) (ySub.cons rfl (ySub.cons rfl (ySub.cons rfl (ySub.cons rfl (ySub.cons rfl (ySub.cons rfl (ySub.cons rfl (ySub.cons rfl (ySub.cons rfl (ySub.cons rfl (ySub.nil)))))))))))) (by omega)
            · have c5 : (a8 : Int) = p1 := c5
              refine yG.numl (c := 0) rfl (fun _ _ => rfl) (by decide) ?_
              refine yG.goto rfl (t := 103) rfl ?_
              refine yG.store2 xlk2 (L' := [(10, yJ (0)), (9, yR r4), (0, yR k0), (1, yI (p1)), (2, yI (p2)), (3, yI (p3)), (4, yI (p4)), (5, yR a5), (8, yI (a8))]) rfl (fun _ _ => rfl) rfl rfl ?_
              refine yG.load xlk2 rfl (fun _ _ => rfl) (v := yJ (0)) rfl rfl ?_
              refine yG.numl (c := 0) rfl (fun _ _ => rfl) (by decide) ?_
              refine yG.lcmp rfl ⟨by omega, by omega⟩ ⟨by omega, by omega⟩ (fun z14 e_z14 => ?_)
              refine yG.ifz rfl (t := 169) rfl ⟨by omega, by omega⟩ (fun c15 => ?_) (fun c15 => ?_)
              · have c15 : (z14 : Int) = 0 := c15
                refine yG.iinc rfl (a := a8) rfl (L' := [(8, yI (a8 + 1)), (10, yJ (0)), (9, yR r4), (0, yR k0), (1, yI (p1)), (2, yI (p2)), (3, yI (p3)), (4, yI (p4)), (5, yR a5)]) rfl ?_
                refine yG.goto rfl (t := 62) rfl ?_
                exact yG.mono (yG.sub (i_62 a5 (a8 + 1)  hq A_hq H_a5  (by omega) (by omega) (by omega) (by omega) (by omega) (by omega) (by omega) (by omega) (by omega) (by omega) (by omega) (by omega)) (ySub.cons rfl (ySub.cons rfl (ySub.cons rfl (ySub.cons rfl (ySub.cons rfl (ySub.cons rfl (ySub.cons rfl (ySub.nil))))))))) (by omega)
              · have c15 : (z14 : Int) ≠ 0 := c15
                exfalso; omega
      · intro a5 a8 a9 a10 a12 hq A_hq H_a5 H_a9 f0 f1 f2 f3 f4 f5 f6 f7 f8 f9 f10 f11 f12 f13 f14 f15 f16 hm
        refine yG.mono (N := 34 * m + 34) ?_ (by omega)
        refine yG.load xik rfl (fun _ _ => rfl) (v := yI (a12)) rfl rfl ?_
        refine yG.load xik rfl (fun _ _ => rfl) (v := yI (p4)) rfl rfl ?_
        refine yG.icmp rfl (t := 169) rfl ⟨by omega, by omega⟩ ⟨by omega, by omega⟩ (fun c1 => ?_) (fun c1 => ?_)
        · have c1 : (a12 : Int) ≥ p4 := c1
          refine yG.iinc rfl (a := a8) rfl (L' := [(8, yI (a8 + 1)), (0, yR k0), (1, yI (p1)), (2, yI (p2)), (3, yI (p3)), (4, yI (p4)), (5, yR a5), (9, yR a9), (10, yJ (a10)), (12, yI (a12))]) rfl ?_
          refine yG.goto rfl (t := 62) rfl ?_
          exact yG.mono (yG.sub (i_62 a5 (a8 + 1)  hq A_hq H_a5  (by omega) (by omega) (by omega) (by omega) (by omega) (by omega) (by omega) (by omega) (by omega) (by omega) (by omega) (by omega)) (ySub.cons rfl (ySub.cons rfl (ySub.cons rfl (ySub.cons rfl (ySub.cons rfl (ySub.cons rfl (ySub.cons rfl (ySub.nil))))))))) (by omega)
        · have c1 : (a12 : Int) < p4 := c1
          refine yG.load xik rfl (fun _ _ => rfl) (v := yI (a12)) rfl rfl ?_
          refine yG.num (c := 48) rfl (fun _ _ => rfl) (by decide) ?_
          refine yG.icmp rfl (t := 169) rfl ⟨by omega, by omega⟩ ⟨by omega, by omega⟩ (fun c2 => ?_) (fun c2 => ?_)
          · have c2 : (a12 : Int) ≥ 48 := c2
            refine yG.iinc rfl (a := a8) rfl (L' := [(8, yI (a8 + 1)), (0, yR k0), (1, yI (p1)), (2, yI (p2)), (3, yI (p3)), (4, yI (p4)), (5, yR a5), (9, yR a9), (10, yJ (a10)), (12, yI (a12))]) rfl ?_
            refine yG.goto rfl (t := 62) rfl ?_
            exact yG.mono (yG.sub (i_62 a5 (a8 + 1)  hq A_hq H_a5  (by omega) (by omega) (by omega) (by omega) (by omega) (by omega) (by omega) (by omega) (by omega) (by omega) (by omega) (by omega)) (ySub.cons rfl (ySub.cons rfl (ySub.cons rfl (ySub.cons rfl (ySub.cons rfl (ySub.cons rfl (ySub.cons rfl (ySub.nil))))))))) (by omega)
          · have c2 : (a12 : Int) < 48 := c2
            refine yG.load xak rfl (fun _ _ => rfl) (v := yR a9) rfl rfl ?_
            refine yG.load xik rfl (fun _ _ => rfl) (v := yI (a12)) rfl rfl ?_
            refine yG.load xak rfl (fun _ _ => rfl) (v := yR a9) rfl rfl ?_
            refine yG.load xik rfl (fun _ _ => rfl) (v := yI (a12)) rfl rfl ?_
            refine yG.lald A_hq.1 (v_Solver_cells W H_a9) rfl (by omega) (by omega) (fun z3 e_z3 i_z3 l_z3 u_z3 => ?_)
            refine yG.load xlk2 rfl (fun _ _ => rfl) (v := yJ (a10)) rfl rfl ?_
            refine yG.load xak rfl (fun _ _ => rfl) (v := yR a5) rfl rfl ?_
            refine yG.load xik rfl (fun _ _ => rfl) (v := yI (a12)) rfl rfl ?_
            refine yG.lald A_hq.1 (v_Solver_cells W H_a5) rfl (by omega) (by omega) (fun z4 e_z4 i_z4 l_z4 u_z4 => ?_)
            refine yG.lmul rfl ?_
            obtain ⟨z5, e_z5⟩ : ∃ z : Int, z = a10 * z4 := ⟨_, rfl⟩
            rw [← e_z5]
            have b_z5 : -85070591730234615865843651857942052864 ≤ z5 ∧ z5 ≤ 85070591730234615865843651857942052864 := e_z5 ▸ ymuls (A := 9223372036854775808) (B := 9223372036854775808) (by omega) (by omega) (by omega) (by omega) (by decide)
            refine yG.ladd rfl ?_
            refine yG.load xak rfl (fun _ _ => rfl) (v := yR k0) rfl rfl ?_
            refine yG.getJ A_hq.1 (w_Solver_prime W H_k0) rfl rfl (fun z6 e_z6 i_z6 l_z6 u_z6 => ?_)
            obtain ⟨z7, e_z7, l_z7, u_z7⟩ := ywJ (z3 + z5)
            rw [e_z7]
            refine yG.lremS rfl ⟨by omega, by omega⟩ ⟨by omega, by omega⟩ (by omega) (fun z8 l_z8 u_z8 => ?_)
            refine yG.last A_hq.1 (v_Solver_cells W H_a9) (W.2.1 _ _ H_a9 (by decide) (by decide)) rfl (by omega) (by omega) ⟨by omega, by omega⟩ (by omega) (by omega) (fun h9 T_h9 b_h9 f_h9 y_h9 => ?_)
            have A_h9 := A_hq.put T_h9 b_h9 f_h9 H_a9 (bAll_ok (by decide) _)
            refine yG.iinc rfl (a := a12) rfl (L' := [(12, yI (a12 + 1)), (0, yR k0), (1, yI (p1)), (2, yI (p2)), (3, yI (p3)), (4, yI (p4)), (5, yR a5), (8, yI (a8)), (9, yR a9), (10, yJ (a10))]) rfl ?_
            refine yG.goto rfl (t := 125) rfl ?_
            exact yG.mono (yG.sub (i_125 a5 (a8) a9 (a10) (a12 + 1)  h9 A_h9 H_a5 H_a9  (by omega) (by omega) (by omega) (by omega) (by omega) (by omega) (by omega) (by omega) (by omega) (by omega) (by omega) (by omega) (by omega) (by omega) (by omega) (by omega) (by omega) (by omega)) (ySub.cons rfl (ySub.cons rfl (ySub.cons rfl (ySub.cons rfl (ySub.cons rfl (ySub.cons rfl (ySub.cons rfl (ySub.cons rfl (ySub.cons rfl (ySub.cons rfl (ySub.nil)))))))))))) (by omega)
  refine yC.of (M := (xt_X10_clear, (13, (0, (11, []))))) rfl rfl (N := 5444556) (yfuel (by decide)) ?_
  show yG 89 xfts (xcall 89 xfts xpools xms (d + 1)) (xpool xp_RX10) [] xt_X10_clear (yP 0 (fun rv hp' => (rv = none ∧ True) ∧ bAx G [(4398046511104, 256)] hp hp')) 5444556 0 [(0, yR k0), (1, yI (p1)), (2, yI (p2)), (3, yI (p3)), (4, yI (p4))] [] hp
  obtain ⟨i_21, i_62, i_125⟩ := H 160133
  refine yG.load xak rfl (fun _ _ => rfl) (v := yR k0) rfl rfl ?_
  refine yG.getO A_hp.1 (w_Solver_cell W H_k0) rfl rfl (fun r1 H_r1 O_r1 q_r1 => ?_)
  refine yG.load xik rfl (fun _ _ => rfl) (v := yI (p1)) rfl rfl ?_
  refine yG.aaldO (r := 42) A_hp.1 (v_Solver_cell W H_r1) rfl rfl rfl (by omega) (by omega) (fun r2 H_r2 q_r2 => ?_)
  refine yG.store1 xak (L' := [(5, yR r2), (0, yR k0), (1, yI (p1)), (2, yI (p2)), (3, yI (p3)), (4, yI (p4))]) rfl (fun _ _ => rfl) rfl rfl ?_
  refine yG.load xak rfl (fun _ _ => rfl) (v := yR k0) rfl rfl ?_
  refine yG.load xak rfl (fun _ _ => rfl) (v := yR r2) rfl rfl ?_
  refine yG.load xik rfl (fun _ _ => rfl) (v := yI (p2)) rfl rfl ?_
  refine yG.lald A_hp.1 (v_Solver_cells W H_r2) rfl (by omega) (by omega) (fun z3 e_z3 i_z3 l_z3 u_z3 => ?_)
  refine yG.invV (rest := []) A_hp.1 (bOb (d_Solver W) H_k0) rfl rfl rfl rfl (c_Solver_inverse W d A_hp.1 H_k0 (z3) (by omega) (by omega)) (fun rv hp9 q9 => ?_)
  obtain ⟨⟨z4, rfl, l_z4, u_z4, R_z4⟩, e9⟩ := q9
  rw [e9]
  show yG _ _ _ _ _ _ _ _ _ _ (yJ z4 :: []) _
  refine yG.store2 xlk2 (L' := [(6, yJ (z4)), (5, yR r2), (0, yR k0), (1, yI (p1)), (2, yI (p2)), (3, yI (p3)), (4, yI (p4))]) rfl (fun _ _ => rfl) rfl rfl ?_
  refine yG.load xik rfl (fun _ _ => rfl) (v := yI (p2)) rfl rfl ?_
  refine yG.store1 xik (L' := [(8, yI (p2)), (6, yJ (z4)), (5, yR r2), (0, yR k0), (1, yI (p1)), (2, yI (p2)), (3, yI (p3)), (4, yI (p4))]) rfl (fun _ _ => rfl) rfl rfl ?_
  exact yG.mono (yG.sub (i_21 r2 (z4) (p2)  hp A_hp H_r2  (by omega) (by omega) (by omega) (by omega) (by omega) (by omega) (by omega) (by omega) (by omega) (by omega) (by omega) (by omega) (by omega) (by omega) (by omega)) (ySub.cons rfl (ySub.cons rfl (ySub.cons rfl (ySub.cons rfl (ySub.cons rfl (ySub.cons rfl (ySub.cons rfl (ySub.cons rfl (ySub.nil)))))))))) (by omega)
theorem c_Solver_reduce {hp : xH} (W : bW G) (d : Nat) (hT : zTy G hp) {k0 : Nat} (H_k0 : bRo G 40 k0) (p1 p2 p3 : Int) (h1l : (-2147483648) ≤ p1) (h1u : p1 ≤ 2147483647) (h2l : (-2147483648) ≤ p2) (h2u : p2 ≤ 2147483647) (h3l : (-2147483648) ≤ p3) (h3u : p3 ≤ 2147483647) : yC (xcall 89 xfts xpools xms (d + 3)) 258 [yR k0, yI (p1), yI (p2), yI (p3)] hp (bQi G [(1099511627776, 3), (15393162788864, 256)] hp 0 47 (fun z => 0 ≤ p1 - z + 2147483648 ∧ 0 ≤ p2 - z + 2147483648)) := by
  have A_hp : bAx G [(1099511627776, 3), (15393162788864, 256)] hp hp := bAx.rf hT
  have H : ∀ m : Nat, (∀ a4 : Int, ∀ a5 : Int, ∀ hq, bAx G [(1099511627776, 3), (15393162788864, 256)] hp hq → 0 ≤ a4 → (-47) ≤ 0 - a4 → 0 ≤ a5 → (-48) ≤ 0 - a5 → (-2147483648) ≤ p1 → (-2147483647) ≤ 0 - p1 → (-2147483648) ≤ p2 → (-2147483647) ≤ 0 - p2 → (-2147483648) ≤ p3 → (-2147483647) ≤ 0 - p3 → 0 ≤ 0 - a4 + a5 → (-2147483648) ≤ 0 - a4 + p1 → (-2147483648) ≤ 0 - a5 + p2 → 0 - 193 * a5 + 9456 < (m : Int) → yG 89 xfts (xcall 89 xfts xpools xms (d + 2)) (xpool xp_RX10) [] xt_X10_reduce (yP 1 (bQi G [(1099511627776, 3), (15393162788864, 256)] hp 0 47 (fun z => 0 ≤ p1 - z + 2147483648 ∧ 0 ≤ p2 - z + 2147483648))) (49 * m) 11 [(0, yR k0), (1, yI (p1)), (2, yI (p2)), (3, yI (p3)), (4, yI (a4)), (5, yI (a5))] [] hq) ∧ (∀ a4 : Int, ∀ a5 : Int, ∀ a6 : Int, ∀ hq, bAx G [(1099511627776, 3), (15393162788864, 256)] hp hq → 0 ≤ a4 → (-47) ≤ 0 - a4 → 0 ≤ a5 → (-47) ≤ 0 - a5 → 0 ≤ a6 → (-47) ≤ 0 - a6 → (-2147483648) ≤ p1 → (-2147483647) ≤ 0 - p1 → 1 ≤ p2 → (-2147483647) ≤ 0 - p2 → (-2147483648) ≤ p3 → (-2147483647) ≤ 0 - p3 → (-32) ≤ a4 - a6 → 0 ≤ 0 - a4 + a5 → 0 ≤ 0 - a4 + a6 → 1 ≤ 0 - a5 + p2 → (-2147483648) ≤ 0 - a6 + p1 → 0 - 193 * a5 - 4 * a6 + 9455 < (m : Int) → yG 89 xfts (xcall 89 xfts xpools xms (d + 2)) (xpool xp_RX10) [] xt_X10_reduce (yP 1 (bQi G [(1099511627776, 3), (15393162788864, 256)] hp 0 47 (fun z => 0 ≤ p1 - z + 2147483648 ∧ 0 ≤ p2 - z + 2147483648))) (49 * m) 28 [(0, yR k0), (1, yI (p1)), (2, yI (p2)), (3, yI (p3)), (4, yI (a4)), (5, yI (a5)), (6, yI (a6))] [] hq) ∧ (∀ a4 : Int, ∀ a5 : Int, ∀ a6 : Int, ∀ hq, bAx G [(1099511627776, 3), (15393162788864, 256)] hp hq → 0 ≤ a4 → (-47) ≤ 0 - a4 → 0 ≤ a5 → (-47) ≤ 0 - a5 → 0 ≤ a6 → (-47) ≤ 0 - a6 → (-2147483648) ≤ p1 → (-2147483647) ≤ 0 - p1 → 1 ≤ p2 → (-2147483647) ≤ 0 - p2 → (-2147483648) ≤ p3 → (-2147483647) ≤ 0 - p3 → (-32) ≤ a4 - a6 → 0 ≤ 0 - a4 + a5 → 0 ≤ 0 - a4 + a6 → 1 ≤ 0 - a5 + p2 → (-2147483648) ≤ 0 - a6 + p1 → 0 - 193 * a5 + 9266 < (m : Int) → yG 89 xfts (xcall 89 xfts xpools xms (d + 2)) (xpool xp_RX10) [] xt_X10_reduce (yP 1 (bQi G [(1099511627776, 3), (15393162788864, 256)] hp 0 47 (fun z => 0 ≤ p1 - z + 2147483648 ∧ 0 ≤ p2 - z + 2147483648))) (49 * m) 62 [(0, yR k0), (1, yI (p1)), (2, yI (p2)), (3, yI (p3)), (4, yI (a4)), (5, yI (a5)), (6, yI (a6))] [] hq) ∧ (∀ a4 : Int, ∀ a5 : Int, ∀ hq, bAx G [(1099511627776, 3), (15393162788864, 256)] hp hq → 0 ≤ a4 → (-31) ≤ 0 - a4 → 0 ≤ a5 → (-47) ≤ 0 - a5 → 1 ≤ p1 → (-2147483647) ≤ 0 - p1 → 1 ≤ p2 → (-2147483647) ≤ 0 - p2 → (-2147483648) ≤ p3 → (-2147483647) ≤ 0 - p3 → 0 ≤ 0 - a4 + a5 → 1 ≤ 0 - a4 + p1 → 1 ≤ 0 - a5 + p2 → 0 - 193 * a5 + 9265 < (m : Int) → yG 89 xfts (xcall 89 xfts xpools xms (d + 2)) (xpool xp_RX10) [] xt_X10_reduce (yP 1 (bQi G [(1099511627776, 3), (15393162788864, 256)] hp 0 47 (fun z => 0 ≤ p1 - z + 2147483648 ∧ 0 ≤ p2 - z + 2147483648))) (49 * m) 157 [(0, yR k0), (1, yI (p1)), (2, yI (p2)), (3, yI (p3)), (4, yI (a4)), (5, yI (a5))] [] hq) := by
    intro m
    induction m with
    | zero =>
      refine ⟨?_, ?_, ?_, ?_⟩ <;> (intros; exfalso; omega)
    | succ m ih =>
      obtain ⟨i_11, i_28, i_62, i_157⟩ := ih
      refine ⟨?_, ?_, ?_, ?_⟩
      · intro a4 a5 hq A_hq f0 f1 f2 f3 f4 f5 f6 f7 f8 f9 f10 f11 f12 hm
        refine yG.mono (N := 49 * m + 49) ?_ (by omega)
        refine yG.load xik rfl (fun _ _ => rfl) (v := yI (a5)) rfl rfl ?_
        refine yG.load xik rfl (fun _ _ => rfl) (v := yI (p2)) rfl rfl ?_
        refine yG.icmp rfl (t := 200) rfl ⟨by omega, by omega⟩ ⟨by omega, by omega⟩ (fun c1 => ?_) (fun c1 => ?_)
        · have c1 : (a5 : Int) ≥ p2 := c1
          refine yG.load xik rfl (fun _ _ => rfl) (v := yI (a4)) rfl rfl ?_
          refine yG.ret rfl (fun _ _ => rfl) ?_
          exact (yP.int ⟨by omega, by omega⟩ ⟨⟨a4, rfl, by omega, by omega, by omega⟩, A_hq⟩)
        · have c1 : (a5 : Int) < p2 := c1
          refine yG.load xik rfl (fun _ _ => rfl) (v := yI (a5)) rfl rfl ?_
          refine yG.num (c := 48) rfl (fun _ _ => rfl) (by decide) ?_
          refine yG.icmp rfl (t := 200) rfl ⟨by omega, by omega⟩ ⟨by omega, by omega⟩ (fun c2 => ?_) (fun c2 => ?_)
          · have c2 : (a5 : Int) ≥ 48 := c2
            refine yG.load xik rfl (fun _ _ => rfl) (v := yI (a4)) rfl rfl ?_
            refine yG.ret rfl (fun _ _ => rfl) ?_
            exact (yP.int ⟨by omega, by omega⟩ ⟨⟨a4, rfl, by omega, by omega, by omega⟩, A_hq⟩)
          · have c2 : (a5 : Int) < 48 := c2
            refine yG.load xik rfl (fun _ _ => rfl) (v := yI (a4)) rfl rfl ?_
            refine yG.store1 xik (L' := [(6, yI (a4)), (0, yR k0), (1, yI (p1)), (2, yI (p2)), (3, yI (p3)), (4, yI (a4)), (5, yI (a5))]) rfl (fun _ _ => rfl) rfl rfl ?_
            exact yG.mono (yG.sub (i_28 (a4) (a5) (a4)  hq A_hq   (by omega) (by omega) (by omega) (by omega) (by omega) (by omega) (by omega) (by omega) (by omega) (by omega) (by omega) (by omega) (by omega) (by omega) (by omega) (by omega) (by omega) (by omega)) (ySub.cons rfl (ySub.cons rfl (ySub.cons rfl (ySub.cons rfl (ySub.cons rfl (ySub.cons rfl (ySub.cons rfl (ySub.nil))))))))) (by omega)
      · intro a4 a5 a6 hq A_hq f0 f1 f2 f3 f4 f5 f6 f7 f8 f9 f10 f11 f12 f13 f14 f15 f16 hm
        refine yG.mono (N := 49 * m + 49) ?_ (by omega)
        refine yG.load xik rfl (fun _ _ => rfl) (v := yI (a6)) rfl rfl ?_
        refine yG.load xik rfl (fun _ _ => rfl) (v := yI (p1)) rfl rfl ?_
        refine yG.icmp rfl (t := 62) rfl ⟨by omega, by omega⟩ ⟨by omega, by omega⟩ (fun c1 => ?_) (fun c1 => ?_)
        · have c1 : (a6 : Int) ≥ p1 := c1
          exact yG.mono (yG.sub (i_62 (a4) (a5) (a6)  hq A_hq   (by omega) (by omega) (by omega) (by omega) (by omega) (by omega) (by omega) (by omega) (by omega) (by omega) (by omega) (by omega) (by omega) (by omega) (by omega) (by omega) (by omega) (by omega)) (ySub.cons rfl (ySub.cons rfl (ySub.cons rfl (ySub.cons rfl (ySub.cons rfl (ySub.cons rfl (ySub.cons rfl (ySub.nil))))))))) (by omega)
        · have c1 : (a6 : Int) < p1 := c1
          refine yG.load xik rfl (fun _ _ => rfl) (v := yI (a6)) rfl rfl ?_
          refine yG.num (c := 32) rfl (fun _ _ => rfl) (by decide) ?_
          refine yG.icmp rfl (t := 62) rfl ⟨by omega, by omega⟩ ⟨by omega, by omega⟩ (fun c2 => ?_) (fun c2 => ?_)
          · have c2 : (a6 : Int) ≥ 32 := c2
            exact yG.mono (yG.sub (i_62 (a4) (a5) (a6)  hq A_hq   (by omega) (by omega) (by omega) (by omega) (by omega) (by omega) (by omega) (by omega) (by omega) (by omega) (by omega) (by omega) (by omega) (by omega) (by omega) (by omega) (by omega) (by omega)) (ySub.cons rfl (ySub.cons rfl (ySub.cons rfl (ySub.cons rfl (ySub.cons rfl (ySub.cons rfl (ySub.cons rfl (ySub.nil))))))))) (by omega)
          · have c2 : (a6 : Int) < 32 := c2
            refine yG.load xak rfl (fun _ _ => rfl) (v := yR k0) rfl rfl ?_
            refine yG.getO A_hq.1 (w_Solver_cell W H_k0) rfl rfl (fun r3 H_r3 O_r3 q_r3 => ?_)
            refine yG.load xik rfl (fun _ _ => rfl) (v := yI (a6)) rfl rfl ?_
            refine yG.aaldO (r := 42) A_hq.1 (v_Solver_cell W H_r3) rfl rfl rfl (by omega) (by omega) (fun r4 H_r4 q_r4 => ?_)
            refine yG.load xik rfl (fun _ _ => rfl) (v := yI (a5)) rfl rfl ?_
            refine yG.lald A_hq.1 (v_Solver_cells W H_r4) rfl (by omega) (by omega) (fun z5 e_z5 i_z5 l_z5 u_z5 => ?_)
            refine yG.numl (c := 0) rfl (fun _ _ => rfl) (by decide) ?_
            refine yG.lcmp rfl ⟨by omega, by omega⟩ ⟨by omega, by omega⟩ (fun z6 e_z6 => ?_)
            refine yG.ifz rfl (t := 62) rfl ⟨by omega, by omega⟩ (fun c7 => ?_) (fun c7 => ?_)
            · have c7 : (z6 : Int) ≠ 0 := c7
              exact yG.mono (yG.sub (i_62 (a4) (a5) (a6)  hq A_hq   (by omega) (by omega) (by omega) (by omega) (by omega) (by omega) (by omega) (by omega) (by omega) (by omega) (by omega) (by omega) (by omega) (by omega) (by omega) (by omega) (by omega) (by omega)) (ySub.cons rfl (ySub.cons rfl (ySub.cons rfl (ySub.cons rfl (ySub.cons rfl (ySub.cons rfl (ySub.cons rfl (ySub.nil))))))))) (by omega)
            · have c7 : (z6 : Int) = 0 := c7
              refine yG.iinc rfl (a := a6) rfl (L' := [(6, yI (a6 + 1)), (0, yR k0), (1, yI (p1)), (2, yI (p2)), (3, yI (p3)), (4, yI (a4)), (5, yI (a5))]) rfl ?_
              refine yG.goto rfl (t := 28) rfl ?_
              exact yG.mono (yG.sub (i_28 (a4) (a5) (a6 + 1)  hq A_hq   (by omega) (by omega) (by omega) (by omega) (by omega) (by omega) (by omega) (by omega) (by omega) (by omega) (by omega) (by omega) (by omega) (by omega) (by omega) (by omega) (by omega) (by omega)) (ySub.cons rfl (ySub.cons rfl (ySub.cons rfl (ySub.cons rfl (ySub.cons rfl (ySub.cons rfl (ySub.cons rfl (ySub.nil))))))))) (by omega)
      · intro a4 a5 a6 hq A_hq f0 f1 f2 f3 f4 f5 f6 f7 f8 f9 f10 f11 f12 f13 f14 f15 f16 hm
        refine yG.mono (N := 49 * m + 49) ?_ (by omega)
        refine yG.load xik rfl (fun _ _ => rfl) (v := yI (a6)) rfl rfl ?_
        refine yG.load xik rfl (fun _ _ => rfl) (v := yI (p1)) rfl rfl ?_
        refine yG.icmp rfl (t := 79) rfl ⟨by omega, by omega⟩ ⟨by omega, by omega⟩ (fun c1 => ?_) (fun c1 => ?_)
        · have c1 : (a6 : Int) ≥ p1 := c1
          refine yG.num (c := 0) rfl (fun _ _ => rfl) (by decide) ?_
          refine yG.store1 xik (L' := [(7, yI (0)), (0, yR k0), (1, yI (p1)), (2, yI (p2)), (3, yI (p3)), (4, yI (a4)), (5, yI (a5)), (6, yI (a6))]) rfl (fun _ _ => rfl) rfl rfl ?_
          refine yG.load xak rfl (fun _ _ => rfl) (v := yR k0) rfl rfl ?_
          refine yG.getO A_hq.1 (w_Solver_leader W H_k0) rfl rfl (fun r2 H_r2 O_r2 q_r2 => ?_)
          refine yG.load xik rfl (fun _ _ => rfl) (v := yI (a5)) rfl rfl ?_
          refine yG.load xik rfl (fun _ _ => rfl) (v := yI (0)) rfl rfl ?_
          refine yG.ifz rfl (t := 98) rfl ⟨by omega, by omega⟩ (fun c3 => ?_) (fun c3 => ?_)
          · have c3 : (0 : Int) = 0 := c3
            refine yG.num (c := -1) rfl (fun _ _ => rfl) (by decide) ?_
            refine yG.iast A_hq.1 (v_Solver_leader W H_r2) (W.2.1 _ _ H_r2 (by decide) (by decide)) rfl (by omega) (by omega) ⟨by omega, by omega⟩ (by omega) (by omega) (fun h4 T_h4 b_h4 f_h4 y_h4 => ?_)
            have A_h4 := A_hq.put T_h4 b_h4 f_h4 H_r2 (bAll_ok (by decide) _)
            refine yG.load xik rfl (fun _ _ => rfl) (v := yI (0)) rfl rfl ?_
            refine yG.ifz rfl (t := 194) rfl ⟨by omega, by omega⟩ (fun c5 => ?_) (fun c5 => ?_)
            · have c5 : (0 : Int) = 0 := c5
              refine yG.iinc rfl (a := a5) rfl (L' := [(5, yI (a5 + 1)), (7, yI (0)), (0, yR k0), (1, yI (p1)), (2, yI (p2)), (3, yI (p3)), (4, yI (a4)), (6, yI (a6))]) rfl ?_
              refine yG.goto rfl (t := 11) rfl ?_
              exact yG.mono (yG.sub (i_11 (a4) (a5 + 1)  h4 A_h4   (by omega) (by omega) (by omega) (by omega) (by omega) (by omega) (by omega) (by omega) (by omega) (by omega) (by omega) (by omega) (by omega) (by omega)) (ySub.cons rfl (ySub.cons rfl (ySub.cons rfl (ySub.cons rfl (ySub.cons rfl (ySub.cons rfl (ySub.nil)))))))) (by omega)
            · have c5 : (0 : Int) ≠ 0 := c5
              exfalso; omega
          · have c3 : (0 : Int) ≠ 0 := c3
            exfalso; omega
        · have c1 : (a6 : Int) < p1 := c1
          refine yG.load xik rfl (fun _ _ => rfl) (v := yI (a6)) rfl rfl ?_
          refine yG.num (c := 32) rfl (fun _ _ => rfl) (by decide) ?_
          refine yG.icmp rfl (t := 79) rfl ⟨by omega, by omega⟩ ⟨by omega, by omega⟩ (fun c6 => ?_) (fun c6 => ?_)
          · have c6 : (a6 : Int) ≥ 32 := c6
            refine yG.num (c := 0) rfl (fun _ _ => rfl) (by decide) ?_
            refine yG.store1 xik (L' := [(7, yI (0)), (0, yR k0), (1, yI (p1)), (2, yI (p2)), (3, yI (p3)), (4, yI (a4)), (5, yI (a5)), (6, yI (a6))]) rfl (fun _ _ => rfl) rfl rfl ?_
            refine yG.load xak rfl (fun _ _ => rfl) (v := yR k0) rfl rfl ?_
            refine yG.getO A_hq.1 (w_Solver_leader W H_k0) rfl rfl (fun r7 H_r7 O_r7 q_r7 => ?_)
            refine yG.load xik rfl (fun _ _ => rfl) (v := yI (a5)) rfl rfl ?_
            refine yG.load xik rfl (fun _ _ => rfl) (v := yI (0)) rfl rfl ?_
            refine yG.ifz rfl (t := 98) rfl ⟨by omega, by omega⟩ (fun c8 => ?_) (fun c8 => ?_)
            · have c8 : (0 : Int) = 0 := c8
              refine yG.num (c := -1) rfl (fun _ _ => rfl) (by decide) ?_
              refine yG.iast A_hq.1 (v_Solver_leader W H_r7) (W.2.1 _ _ H_r7 (by decide) (by decide)) rfl (by omega) (by omega) ⟨by omega, by omega⟩ (by omega) (by omega) (fun h9 T_h9 b_h9 f_h9 y_h9 => ?_)
              have A_h9 := A_hq.put T_h9 b_h9 f_h9 H_r7 (bAll_ok (by decide) _)
              refine yG.load xik rfl (fun _ _ => rfl) (v := yI (0)) rfl rfl ?_
              refine yG.ifz rfl (t := 194) rfl ⟨by omega, by omega⟩ (fun c10 => ?_) (fun c10 => ?_)
              · have c10 : (0 : Int) = 0 := c10
                refine yG.iinc rfl (a := a5) rfl (L' := [(5, yI (a5 + 1)), (7, yI (0)), (0, yR k0), (1, yI (p1)), (2, yI (p2)), (3, yI (p3)), (4, yI (a4)), (6, yI (a6))]) rfl ?_
                refine yG.goto rfl (t := 11) rfl ?_
                exact yG.mono (yG.sub (i_11 (a4) (a5 + 1)  h9 A_h9   (by omega) (by omega) (by omega) (by omega) (by omega) (by omega) (by omega) (by omega) (by omega) (by omega) (by omega) (by omega) (by omega) (by omega)) (ySub.cons rfl (ySub.cons rfl (ySub.cons rfl (ySub.cons rfl (ySub.cons rfl (ySub.cons rfl (ySub.nil)))))))) (by omega)
              · have c10 : (0 : Int) ≠ 0 := c10
                exfalso; omega
            · have c8 : (0 : Int) ≠ 0 := c8
              exfalso; omega
          · have c6 : (a6 : Int) < 32 := c6
            refine yG.num (c := 1) rfl (fun _ _ => rfl) (by decide) ?_
            refine yG.goto rfl (t := 80) rfl ?_
            refine yG.store1 xik (L' := [(7, yI (1)), (0, yR k0), (1, yI (p1)), (2, yI (p2)), (3, yI (p3)), (4, yI (a4)), (5, yI (a5)), (6, yI (a6))]) rfl (fun _ _ => rfl) rfl rfl ?_
            refine yG.load xak rfl (fun _ _ => rfl) (v := yR k0) rfl rfl ?_
            refine yG.getO A_hq.1 (w_Solver_leader W H_k0) rfl rfl (fun r11 H_r11 O_r11 q_r11 => ?_)
            refine yG.load xik rfl (fun _ _ => rfl) (v := yI (a5)) rfl rfl ?_
            refine yG.load xik rfl (fun _ _ => rfl) (v := yI (1)) rfl rfl ?_
            refine yG.ifz rfl (t := 98) rfl ⟨by omega, by omega⟩ (fun c12 => ?_) (fun c12 => ?_)
            · have c12 : (1 : Int) = 0 := c12
              exfalso; omega
            · have c12 : (1 : Int) ≠ 0 := c12
              refine yG.load xik rfl (fun _ _ => rfl) (v := yI (a4)) rfl rfl ?_
              refine yG.goto rfl (t := 99) rfl ?_
              refine yG.iast A_hq.1 (v_Solver_leader W H_r11) (W.2.1 _ _ H_r11 (by decide) (by decide)) rfl (by omega) (by omega) ⟨by omega, by omega⟩ (by omega) (by omega) (fun h13 T_h13 b_h13 f_h13 y_h13 => ?_)
              have A_h13 := A_hq.put T_h13 b_h13 f_h13 H_r11 (bAll_ok (by decide) _)
              refine yG.load xik rfl (fun _ _ => rfl) (v := yI (1)) rfl rfl ?_
              refine yG.ifz rfl (t := 194) rfl ⟨by omega, by omega⟩ (fun c14 => ?_) (fun c14 => ?_)
              · have c14 : (1 : Int) = 0 := c14
                exfalso; omega
              · have c14 : (1 : Int) ≠ 0 := c14
                refine yG.load xik rfl (fun _ _ => rfl) (v := yI (a6)) rfl rfl ?_
                refine yG.load xik rfl (fun _ _ => rfl) (v := yI (a4)) rfl rfl ?_
                refine yG.icmp rfl (t := 157) rfl ⟨by omega, by omega⟩ ⟨by omega, by omega⟩ (fun c15 => ?_) (fun c15 => ?_)
                · have c15 : (a6 : Int) = a4 := c15
                  exact yG.mono (yG.sub (i_157 (a4) (a5)  h13 A_h13   (by omega) (by omega) (by omega) (by omega) (by omega) (by omega) (by omega) (by omega) (by omega) (by omega) (by omega) (by omega) (by omega) (by omega)) (ySub.cons rfl (ySub.cons rfl (ySub.cons rfl (ySub.cons rfl (ySub.cons rfl (ySub.cons rfl (ySub.nil)))))))) (by omega)
                · have c15 : (a6 : Int) ≠ a4 := c15
                  refine yG.load xak rfl (fun _ _ => rfl) (v := yR k0) rfl rfl ?_
                  refine yG.getO A_h13.1 (w_Solver_cell W H_k0) rfl rfl (fun r16 H_r16 O_r16 q_r16 => ?_)
                  refine yG.load xik rfl (fun _ _ => rfl) (v := yI (a6)) rfl rfl ?_
                  refine yG.aaldO (r := 42) A_h13.1 (v_Solver_cell W H_r16) rfl rfl rfl (by omega) (by omega) (fun r17 H_r17 q_r17 => ?_)
                  refine yG.store1 xak (L' := [(8, yR r17), (7, yI (1)), (0, yR k0), (1, yI (p1)), (2, yI (p2)), (3, yI (p3)), (4, yI (a4)), (5, yI (a5)), (6, yI (a6))]) rfl (fun _ _ => rfl) rfl rfl ?_
                  refine yG.load xak rfl (fun _ _ => rfl) (v := yR k0) rfl rfl ?_
                  refine yG.getS9 A_h13.1 (w_Solver_cell W H_k0) q_r16 rfl rfl ?_
                  refine yG.load xik rfl (fun _ _ => rfl) (v := yI (a6)) rfl rfl ?_
                  refine yG.load xak rfl (fun _ _ => rfl) (v := yR k0) rfl rfl ?_
                  refine yG.getS9 A_h13.1 (w_Solver_cell W H_k0) q_r16 rfl rfl ?_
                  refine yG.load xik rfl (fun _ _ => rfl) (v := yI (a4)) rfl rfl ?_
                  refine yG.aaldO (r := 42) A_h13.1 (v_Solver_cell W H_r16) rfl rfl rfl (by omega) (by omega) (fun r18 H_r18 q_r18 => ?_)
                  refine yG.aast (r := 42) A_h13.1 (bIA (d_Solver_cell W) H_r16 (n_Solver_cell W H_r16)) (W.2.1 _ _ H_r16 (by decide) (by decide)) H_r18 (v_Solver_cells W H_r18) (W.2.1 _ _ H_r18 (by decide) (by decide)) (by decide) rfl (by omega) (by omega) (fun h19 T_h19 b_h19 f_h19 => ?_)
                  have y_h19 : ∀ x y, ys h19 x y = if x = r16 ∧ y = (a6 : Int).toNat then ydec (yR r18) else ys h13 x y := fun x y => by unfold ys; rw [f_h19]; split <;> rfl
                  have A_h19 := A_h13.put T_h19 b_h19 f_h19 H_r16 (bAll_ok (by decide) _)
                  have qq1 : zsl h19 k0 0 = yR r16 := ((f_h19 k0 0).trans (if_neg (fun e => (bRo.ne H_k0 H_r16 (by decide)) e.1))).trans q_r16
                  refine yG.load xak rfl (fun _ _ => rfl) (v := yR k0) rfl rfl ?_
                  refine yG.getS9 A_h19.1 (w_Solver_cell W H_k0) qq1 rfl rfl ?_
                  refine yG.load xik rfl (fun _ _ => rfl) (v := yI (a4)) rfl rfl ?_
                  refine yG.load xak rfl (fun _ _ => rfl) (v := yR r17) rfl rfl ?_
                  refine yG.aast (r := 42) A_h19.1 (bIA (d_Solver_cell W) H_r16 (n_Solver_cell W H_r16)) (W.2.1 _ _ H_r16 (by decide) (by decide)) H_r17 (v_Solver_cells W H_r17) (W.2.1 _ _ H_r17 (by decide) (by decide)) (by decide) rfl (by omega) (by omega) (fun h20 T_h20 b_h20 f_h20 => ?_)
                  have y_h20 : ∀ x y, ys h20 x y = if x = r16 ∧ y = (a4 : Int).toNat then ydec (yR r17) else ys h19 x y := fun x y => by unfold ys; rw [f_h20]; split <;> rfl
                  have A_h20 := A_h19.put T_h20 b_h20 f_h20 H_r16 (bAll_ok (by decide) _)
                  have qq2 : zsl h20 k0 0 = yR r16 := ((f_h20 k0 0).trans (if_neg (fun e => (bRo.ne H_k0 H_r16 (by decide)) e.1))).trans qq1
                  refine yG.load xak rfl (fun _ _ => rfl) (v := yR k0) rfl rfl ?_
                  refine yG.load xak rfl (fun _ _ => rfl) (v := yR k0) rfl rfl ?_
                  refine yG.getJ A_h20.1 (w_Solver_prime W H_k0) rfl rfl (fun z21 e_z21 i_z21 l_z21 u_z21 => ?_)
                  refine yG.load xak rfl (fun _ _ => rfl) (v := yR k0) rfl rfl ?_
                  refine yG.getJ A_h20.1 (w_Solver_determinant W H_k0) rfl rfl (fun z22 e_z22 i_z22 l_z22 u_z22 => ?_)
                  refine yG.lsub rfl ?_
                  obtain ⟨z24, e_z24, l_z24, u_z24⟩ := ywJ (z21 - z22)
                  rw [e_z24]
                  refine yG.putJ A_h20.1 (w_Solver_determinant W H_k0) (W.2.1 _ _ H_k0 (by decide) (by decide)) rfl rfl rfl ⟨by omega, by omega⟩ (by omega) (by omega) (fun h23 T_h23 b_h23 f_h23 y_h23 => ?_)
                  have A_h23 := A_h20.put T_h23 b_h23 f_h23 H_k0 (by decide)
                  have qq3 : zsl h23 k0 0 = yR r16 := ((f_h23 k0 0).trans (if_neg (fun e => absurd e.2 (by decide)))).trans qq2
                  exact yG.mono (yG.sub (i_157 (a4) (a5)  h23 A_h23   (by omega) (by omega) (by omega) (by omega) (by omega) (by omega) (by omega) (by omega) (by omega) (by omega) (by omega) (by omega) (by omega) (by omega)) (ySub.cons rfl (ySub.cons rfl (ySub.cons rfl (ySub.cons rfl (ySub.cons rfl (ySub.cons rfl (ySub.nil)))))))) (by omega)
      · intro a4 a5 hq A_hq f0 f1 f2 f3 f4 f5 f6 f7 f8 f9 f10 f11 f12 hm
        refine yG.mono (N := 49 * m + 49) ?_ (by omega)
        refine yG.load xak rfl (fun _ _ => rfl) (v := yR k0) rfl rfl ?_
        refine yG.load xak rfl (fun _ _ => rfl) (v := yR k0) rfl rfl ?_
        refine yG.getJ A_hq.1 (w_Solver_determinant W H_k0) rfl rfl (fun z1 e_z1 i_z1 l_z1 u_z1 => ?_)
        refine yG.load xak rfl (fun _ _ => rfl) (v := yR k0) rfl rfl ?_
        refine yG.getO A_hq.1 (w_Solver_cell W H_k0) rfl rfl (fun r2 H_r2 O_r2 q_r2 => ?_)
        refine yG.load xik rfl (fun _ _ => rfl) (v := yI (a4)) rfl rfl ?_
        refine yG.aaldO (r := 42) A_hq.1 (v_Solver_cell W H_r2) rfl rfl rfl (by omega) (by omega) (fun r3 H_r3 q_r3 => ?_)
        refine yG.load xik rfl (fun _ _ => rfl) (v := yI (a5)) rfl rfl ?_
        refine yG.lald A_hq.1 (v_Solver_cells W H_r3) rfl (by omega) (by omega) (fun z4 e_z4 i_z4 l_z4 u_z4 => ?_)
        refine yG.lmul rfl ?_
        obtain ⟨z5, e_z5⟩ : ∃ z : Int, z = z1 * z4 := ⟨_, rfl⟩
        rw [← e_z5]
        have b_z5 : -85070591730234615865843651857942052864 ≤ z5 ∧ z5 ≤ 85070591730234615865843651857942052864 := e_z5 ▸ ymuls (A := 9223372036854775808) (B := 9223372036854775808) (by omega) (by omega) (by omega) (by omega) (by decide)
        refine yG.load xak rfl (fun _ _ => rfl) (v := yR k0) rfl rfl ?_
        refine yG.getJ A_hq.1 (w_Solver_prime W H_k0) rfl rfl (fun z6 e_z6 i_z6 l_z6 u_z6 => ?_)
        obtain ⟨z7, e_z7, l_z7, u_z7⟩ := ywJ (z5)
        rw [e_z7]
        refine yG.lremS rfl ⟨by omega, by omega⟩ ⟨by omega, by omega⟩ (by omega) (fun z8 l_z8 u_z8 => ?_)
        refine yG.putJ A_hq.1 (w_Solver_determinant W H_k0) (W.2.1 _ _ H_k0 (by decide) (by decide)) rfl rfl rfl ⟨by omega, by omega⟩ (by omega) (by omega) (fun h9 T_h9 b_h9 f_h9 y_h9 => ?_)
        have A_h9 := A_hq.put T_h9 b_h9 f_h9 H_k0 (by decide)
        refine yG.load xak rfl (fun _ _ => rfl) (v := yR k0) rfl rfl ?_
        refine yG.load xik rfl (fun _ _ => rfl) (v := yI (a4)) rfl rfl ?_
        refine yG.load xik rfl (fun _ _ => rfl) (v := yI (a5)) rfl rfl ?_
        refine yG.load xik rfl (fun _ _ => rfl) (v := yI (p1)) rfl rfl ?_
        refine yG.load xik rfl (fun _ _ => rfl) (v := yI (p3)) rfl rfl ?_
        refine yG.invV (rest := []) A_h9.1 (bOb (d_Solver W) H_k0) rfl rfl rfl rfl (c_Solver_clear W d A_h9.1 H_k0 (a4) (a5) (p1) (p3) (by omega) (by omega) (by omega) (by omega) (by omega) (by omega) (by omega) (by omega)) (fun rv h10 q9 => ?_)
        obtain ⟨⟨rfl, R_z11⟩, B_h10⟩ := q9
        have A_h10 := A_h9.tr B_h10 (by decide)
        show yG _ _ _ _ _ _ _ _ _ _ [] _
        refine yG.iinc rfl (a := a4) rfl (L' := [(4, yI (a4 + 1)), (0, yR k0), (1, yI (p1)), (2, yI (p2)), (3, yI (p3)), (5, yI (a5))]) rfl ?_
        refine yG.iinc rfl (a := a5) rfl (L' := [(5, yI (a5 + 1)), (4, yI (a4 + 1)), (0, yR k0), (1, yI (p1)), (2, yI (p2)), (3, yI (p3))]) rfl ?_
        refine yG.goto rfl (t := 11) rfl ?_
        exact yG.mono (yG.sub (i_11 (a4 + 1) (a5 + 1)  h10 A_h10   (by omega) (by omega) (by omega) (by omega) (by omega) (by omega) (by omega) (by omega) (by omega) (by omega) (by omega) (by omega) (by omega) (by omega)) (ySub.cons rfl (ySub.cons rfl (ySub.cons rfl (ySub.cons rfl (ySub.cons rfl (ySub.cons rfl (ySub.nil)))))))) (by omega)
  refine yC.of (M := (xt_X10_reduce, (9, (1, (11, []))))) rfl rfl (N := 463491) (yfuel (by decide)) ?_
  show yG 89 xfts (xcall 89 xfts xpools xms (d + 2)) (xpool xp_RX10) [] xt_X10_reduce (yP 1 (bQi G [(1099511627776, 3), (15393162788864, 256)] hp 0 47 (fun z => 0 ≤ p1 - z + 2147483648 ∧ 0 ≤ p2 - z + 2147483648))) 463491 0 [(0, yR k0), (1, yI (p1)), (2, yI (p2)), (3, yI (p3))] [] hp
  obtain ⟨i_11, i_28, i_62, i_157⟩ := H 9458
  refine yG.load xak rfl (fun _ _ => rfl) (v := yR k0) rfl rfl ?_
  refine yG.numl (c := 1) rfl (fun _ _ => rfl) (by decide) ?_
  refine yG.putJ A_hp.1 (w_Solver_determinant W H_k0) (W.2.1 _ _ H_k0 (by decide) (by decide)) rfl rfl rfl ⟨by omega, by omega⟩ (by omega) (by omega) (fun h1 T_h1 b_h1 f_h1 y_h1 => ?_)
  have A_h1 := A_hp.put T_h1 b_h1 f_h1 H_k0 (by decide)
  refine yG.num (c := 0) rfl (fun _ _ => rfl) (by decide) ?_
  refine yG.store1 xik (L' := [(4, yI (0)), (0, yR k0), (1, yI (p1)), (2, yI (p2)), (3, yI (p3))]) rfl (fun _ _ => rfl) rfl rfl ?_
  refine yG.num (c := 0) rfl (fun _ _ => rfl) (by decide) ?_
  refine yG.store1 xik (L' := [(5, yI (0)), (4, yI (0)), (0, yR k0), (1, yI (p1)), (2, yI (p2)), (3, yI (p3))]) rfl (fun _ _ => rfl) rfl rfl ?_
  exact yG.mono (yG.sub (i_11 (0) (0)  h1 A_h1   (by omega) (by omega) (by omega) (by omega) (by omega) (by omega) (by omega) (by omega) (by omega) (by omega) (by omega) (by omega) (by omega) (by omega)) (ySub.cons rfl (ySub.cons rfl (ySub.cons rfl (ySub.cons rfl (ySub.cons rfl (ySub.cons rfl (ySub.nil)))))))) (by omega)
theorem c_Shape_lay_0 {hp : xH} (W : bW G) (d : Nat) (hT : zTy G hp) {k0 : Nat} (H_k0 : bRo G 51 k0) {k1 : Nat} (H_k1 : bRo G 40 k1) {k2 : Nat} (H_k2 : bRo G 47 k2) (p3 p4 : Int) (h3l : 1 ≤ p3) (h3u : p3 ≤ 2) (h4l : (-2147483648) ≤ p4) (h4u : p4 ≤ 2147483647) : yC (xcall 89 xfts xpools xms (d + 2)) 220 [yR k0, yR k1, yR k2, yI (p3), yI (p4)] hp (bQj G [(4398046511104, 256)] hp 0 2147483646 (fun _ => True)) := by
  have A_hp : bAx G [(4398046511104, 256)] hp hp := bAx.rf hT
  have H : ∀ m : Nat, (∀ a5 : Int, ∀ a7 : Int, ∀ hq, bAx G [(4398046511104, 256)] hp hq → 0 ≤ a5 → (-2147483646) ≤ 0 - a5 → 0 ≤ a7 → (-20) ≤ 0 - a7 → 1 ≤ p3 → (-2) ≤ 0 - p3 → (-2147483648) ≤ p4 → (-2147483647) ≤ 0 - p4 → (-2147483645) ≤ 0 - a5 + a7 → 0 - 2 * a7 + 41 < (m : Int) → yG 89 xfts (xcall 89 xfts xpools xms (d + 1)) (xpool xp_RX8) [] xt_X8_lay (yP 2 (bQj G [(4398046511104, 256)] hp 0 2147483646 (fun _ => True))) (57 * m) 6 [(0, yR k0), (1, yR k1), (2, yR k2), (3, yI (p3)), (4, yI (p4)), (5, yJ (a5)), (7, yI (a7))] [] hq) := by
    intro m
    induction m with
    | zero =>
      intros; exfalso; omega
    | succ m ih =>
      have i_6 := ih
      clear ih
      intro a5 a7 hq A_hq f0 f1 f2 f3 f4 f5 f6 f7 f8 hm
      refine yG.mono (N := 57 * m + 57) ?_ (by omega)
      refine yG.load xik rfl (fun _ _ => rfl) (v := yI (a7)) rfl rfl ?_
      refine yG.load xak rfl (fun _ _ => rfl) (v := yR k0) rfl rfl ?_
      refine yG.getO A_hq.1 (w_Shape_net W H_k0) rfl rfl (fun r1 H_r1 O_r1 q_r1 => ?_)
      refine yG.getO A_hq.1 (w_Net_count W H_r1) rfl rfl (fun r2 H_r2 O_r2 q_r2 => ?_)
      refine yG.num (c := 2) rfl (fun _ _ => rfl) (by decide) ?_
      refine yG.ialdF A_hq.1 (v_Net_count W H_r2) rfl rfl (by omega) (by omega) (fun z3 e_z3 i_z3 l_z3 u_z3 => ?_)
      refine yG.icmp rfl (t := 107) rfl ⟨by omega, by omega⟩ ⟨by omega, by omega⟩ (fun c4 => ?_) (fun c4 => ?_)
      · have c4 : (a7 : Int) ≥ z3 := c4
        refine yG.load xlk2 rfl (fun _ _ => rfl) (v := yJ (a5)) rfl rfl ?_
        refine yG.ret rfl (fun _ _ => rfl) ?_
        exact (yP.long ⟨by omega, by omega⟩ ⟨⟨a5, rfl, by omega, by omega, trivial⟩, A_hq⟩)
      · have c4 : (a7 : Int) < z3 := c4
        refine yG.load xik rfl (fun _ _ => rfl) (v := yI (a7)) rfl rfl ?_
        refine yG.load xik rfl (fun _ _ => rfl) (v := yI (p4)) rfl rfl ?_
        refine yG.icmp rfl (t := 101) rfl ⟨by omega, by omega⟩ ⟨by omega, by omega⟩ (fun c5 => ?_) (fun c5 => ?_)
        · have c5 : (a7 : Int) = p4 := c5
          refine yG.iinc rfl (a := a7) rfl (L' := [(7, yI (a7 + 1)), (0, yR k0), (1, yR k1), (2, yR k2), (3, yI (p3)), (4, yI (p4)), (5, yJ (a5))]) rfl ?_
          refine yG.goto rfl (t := 6) rfl ?_
          exact yG.mono (yG.sub (i_6 (a5) (a7 + 1)  hq A_hq   (by omega) (by omega) (by omega) (by omega) (by omega) (by omega) (by omega) (by omega) (by omega) (by omega)) (ySub.cons rfl (ySub.cons rfl (ySub.cons rfl (ySub.cons rfl (ySub.cons rfl (ySub.cons rfl (ySub.cons rfl (ySub.nil))))))))) (by omega)
        · have c5 : (a7 : Int) ≠ p4 := c5
          refine yG.load xak rfl (fun _ _ => rfl) (v := yR k0) rfl rfl ?_
          refine yG.load xik rfl (fun _ _ => rfl) (v := yI (a7)) rfl rfl ?_
          refine yG.load xak rfl (fun _ _ => rfl) (v := yR k2) rfl rfl ?_
          refine yG.invV (rest := []) A_hq.1 (bOb (d_Shape W) H_k0) rfl rfl rfl rfl (c_Shape_isLineIn_0 W d A_hq.1 H_k0 H_k2 (a7) (by omega) (by omega)) (fun rv hp9 q9 => ?_)
          obtain ⟨⟨z6, rfl, l_z6, u_z6, R_z6⟩, e9⟩ := q9
          rw [e9]
          show yG _ _ _ _ _ _ _ _ _ _ (yI z6 :: []) _
          refine yG.ifz rfl (t := 101) rfl ⟨by omega, by omega⟩ (fun c7 => ?_) (fun c7 => ?_)
          · have c7 : (z6 : Int) = 0 := c7
            refine yG.iinc rfl (a := a7) rfl (L' := [(7, yI (a7 + 1)), (0, yR k0), (1, yR k1), (2, yR k2), (3, yI (p3)), (4, yI (p4)), (5, yJ (a5))]) rfl ?_
            refine yG.goto rfl (t := 6) rfl ?_
            exact yG.mono (yG.sub (i_6 (a5) (a7 + 1)  hq A_hq   (by omega) (by omega) (by omega) (by omega) (by omega) (by omega) (by omega) (by omega) (by omega) (by omega)) (ySub.cons rfl (ySub.cons rfl (ySub.cons rfl (ySub.cons rfl (ySub.cons rfl (ySub.cons rfl (ySub.cons rfl (ySub.nil))))))))) (by omega)
          · have c7 : (z6 : Int) ≠ 0 := c7
            refine yG.load xak rfl (fun _ _ => rfl) (v := yR k0) rfl rfl ?_
            refine yG.getS9 A_hq.1 (w_Shape_net W H_k0) q_r1 rfl rfl ?_
            refine yG.num (c := 2) rfl (fun _ _ => rfl) (by decide) ?_
            refine yG.load xik rfl (fun _ _ => rfl) (v := yI (a7)) rfl rfl ?_
            refine yG.load xik rfl (fun _ _ => rfl) (v := yI (p3)) rfl rfl ?_
            refine yG.invV (rest := []) A_hq.1 (bOb (d_Net W) H_r1) rfl rfl rfl rfl (c_Net_at_2z W d A_hq.1 H_r1 (a7) (p3) (by omega) (by omega) (by omega) (by omega)) (fun rv hp9 q9 => ?_)
            obtain ⟨⟨z8, rfl, l_z8, u_z8, R_z8⟩, e9⟩ := q9
            rw [e9]
            show yG _ _ _ _ _ _ _ _ _ _ (yI z8 :: []) _
            refine yG.i2l rfl ⟨by omega, by omega⟩ ?_
            refine yG.store2 xlk2 (L' := [(8, yJ (z8)), (0, yR k0), (1, yR k1), (2, yR k2), (3, yI (p3)), (4, yI (p4)), (5, yJ (a5)), (7, yI (a7))]) rfl (fun _ _ => rfl) rfl rfl ?_
            refine yG.load xak rfl (fun _ _ => rfl) (v := yR k1) rfl rfl ?_
            refine yG.load xak rfl (fun _ _ => rfl) (v := yR k0) rfl rfl ?_
            refine yG.getO A_hq.1 (w_Shape_row W H_k0) rfl rfl (fun r9 H_r9 O_r9 q_r9 => ?_)
            refine yG.load xak rfl (fun _ _ => rfl) (v := yR k0) rfl rfl ?_
            refine yG.getO A_hq.1 (w_Shape_ends W H_k0) rfl rfl (fun r10 H_r10 O_r10 q_r10 => ?_)
            refine yG.load xik rfl (fun _ _ => rfl) (v := yI (a7)) rfl rfl ?_
            refine yG.aaldO (r := 57) A_hq.1 (v_Shape_ends W H_r10) rfl rfl rfl (by omega) (by omega) (fun r11 H_r11 q_r11 => ?_)
            refine yG.num (c := 0) rfl (fun _ _ => rfl) (by decide) ?_
            refine yG.iald A_hq.1 (v_Shape_endss W H_r11) rfl (by omega) (by omega) (fun z12 e_z12 i_z12 l_z12 u_z12 => ?_)
            refine yG.iald A_hq.1 (v_Shape_row W H_r9) rfl (by omega) (by omega) (fun z13 e_z13 i_z13 l_z13 u_z13 => ?_)
            refine yG.load xak rfl (fun _ _ => rfl) (v := yR k0) rfl rfl ?_
            refine yG.getS9 A_hq.1 (w_Shape_row W H_k0) q_r9 rfl rfl ?_
            refine yG.load xak rfl (fun _ _ => rfl) (v := yR k0) rfl rfl ?_
            refine yG.getS9 A_hq.1 (w_Shape_ends W H_k0) q_r10 rfl rfl ?_
            refine yG.load xik rfl (fun _ _ => rfl) (v := yI (a7)) rfl rfl ?_
            refine yG.aaldO (r := 57) A_hq.1 (v_Shape_ends W H_r10) rfl rfl rfl (by omega) (by omega) (fun r14 H_r14 q_r14 => ?_)
            have s_r14 : r14 = r11 := by have e9 := q_r14.symm.trans q_r11; cases e9; rfl
            rw [s_r14]
            refine yG.num (c := 1) rfl (fun _ _ => rfl) (by decide) ?_
            refine yG.iald A_hq.1 (v_Shape_endss W H_r11) rfl (by omega) (by omega) (fun z15 e_z15 i_z15 l_z15 u_z15 => ?_)
            refine yG.iald A_hq.1 (v_Shape_row W H_r9) rfl (by omega) (by omega) (fun z16 e_z16 i_z16 l_z16 u_z16 => ?_)
            refine yG.load xak rfl (fun _ _ => rfl) (v := yR k1) rfl rfl ?_
            refine yG.load xlk2 rfl (fun _ _ => rfl) (v := yJ (z8)) rfl rfl ?_
            refine yG.invV (rest := [yI (z16), yI (z13), yR k1]) A_hq.1 (bOb (d_Solver W) H_k1) rfl rfl rfl rfl (c_Solver_inverse W d A_hq.1 H_k1 (z8) (by omega) (by omega)) (fun rv hp9 q9 => ?_)
            obtain ⟨⟨z17, rfl, l_z17, u_z17, R_z17⟩, e9⟩ := q9
            rw [e9]
            show yG _ _ _ _ _ _ _ _ _ _ (yJ z17 :: [yI (z16), yI (z13), yR k1]) _
            refine yG.invV (rest := []) A_hq.1 (bOb (d_Solver W) H_k1) rfl rfl rfl rfl (c_Solver_edge W d A_hq.1 H_k1 (z13) (z16) (z17) (by omega) (by omega) (by omega) (by omega) (by omega) (by omega)) (fun rv h18 q9 => ?_)
            obtain ⟨⟨rfl, R_z19⟩, B_h18⟩ := q9
            have A_h18 := A_hq.tr B_h18 (by decide)
            have qq1 : zsl h18 k0 0 = yR r1 := (B_h18.sl H_k0 (by decide)).trans q_r1
            have qq2 : zsl h18 k0 3 = yR r9 := (B_h18.sl H_k0 (by decide)).trans q_r9
            have qq3 : zsl h18 k0 5 = yR r10 := (B_h18.sl H_k0 (by decide)).trans q_r10
            have qq4 : zsl h18 r10 (a7 : Int).toNat = yR r11 := (B_h18.sl H_r10 (bNo_ok (by decide) _)).trans q_r11
            show yG _ _ _ _ _ _ _ _ _ _ [] _
            refine yG.load xlk2 rfl (fun _ _ => rfl) (v := yJ (a5)) rfl rfl ?_
            refine yG.load xlk2 rfl (fun _ _ => rfl) (v := yJ (z8)) rfl rfl ?_
            refine yG.lmul rfl ?_
            obtain ⟨z20, e_z20⟩ : ∃ z : Int, z = a5 * z8 := ⟨_, rfl⟩
            rw [← e_z20]
            have b_z20 : 0 ≤ z20 ∧ z20 ≤ 21472688976354 := e_z20 ▸ ymulb (A := 2147483646) (B := 9999) (by omega) (by omega) (by omega) (by omega) (by decide)
            have b2_z20 : z20 ≤ 2147483646 * z8 := e_z20 ▸ bmulx (by omega) (by omega)
            have b3_z20 : z20 ≤ 9999 * a5 := e_z20 ▸ bmuly (by omega) (by omega)
            refine yG.load xak rfl (fun _ _ => rfl) (v := yR k1) rfl rfl ?_
            refine yG.getJ A_h18.1 (w_Solver_prime W H_k1) rfl rfl (fun z21 e_z21 i_z21 l_z21 u_z21 => ?_)
            refine yG.lrem rfl ⟨by omega, by omega⟩ ⟨by omega, by omega⟩ (by omega) (by omega) ?_
            obtain ⟨z22, e_z22⟩ : ∃ z : Int, z = (z20) % (z21) := ⟨_, rfl⟩
            rw [← e_z22]
            have b_z22 : 0 ≤ z22 ∧ z22 < z21 := e_z22 ▸ ⟨Int.emod_nonneg _ (by omega), Int.emod_lt_of_pos _ (by omega)⟩
            refine yG.store2 xlk2 (L' := [(5, yJ (z22)), (8, yJ (z8)), (0, yR k0), (1, yR k1), (2, yR k2), (3, yI (p3)), (4, yI (p4)), (7, yI (a7))]) rfl (fun _ _ => rfl) rfl rfl ?_
            refine yG.iinc rfl (a := a7) rfl (L' := [(7, yI (a7 + 1)), (5, yJ (z22)), (8, yJ (z8)), (0, yR k0), (1, yR k1), (2, yR k2), (3, yI (p3)), (4, yI (p4))]) rfl ?_
            refine yG.goto rfl (t := 6) rfl ?_
            exact yG.mono (yG.sub (i_6 (z22) (a7 + 1)  h18 A_h18   (by omega) (by omega) (by omega) (by omega) (by omega) (by omega) (by omega) (by omega) (by omega) (by omega)) (ySub.cons rfl (ySub.cons rfl (ySub.cons rfl (ySub.cons rfl (ySub.cons rfl (ySub.cons rfl (ySub.cons rfl (ySub.nil))))))))) (by omega)
  refine yC.of (M := (xt_X8_lay, (10, (2, (9, []))))) rfl rfl (N := 2508) (yfuel (by decide)) ?_
  show yG 89 xfts (xcall 89 xfts xpools xms (d + 1)) (xpool xp_RX8) [] xt_X8_lay (yP 2 (bQj G [(4398046511104, 256)] hp 0 2147483646 (fun _ => True))) 2508 0 [(0, yR k0), (1, yR k1), (2, yR k2), (3, yI (p3)), (4, yI (p4))] [] hp
  have i_6 := H 43
  refine yG.numl (c := 1) rfl (fun _ _ => rfl) (by decide) ?_
  refine yG.store2 xlk2 (L' := [(5, yJ (1)), (0, yR k0), (1, yR k1), (2, yR k2), (3, yI (p3)), (4, yI (p4))]) rfl (fun _ _ => rfl) rfl rfl ?_
  refine yG.num (c := 0) rfl (fun _ _ => rfl) (by decide) ?_
  refine yG.store1 xik (L' := [(7, yI (0)), (5, yJ (1)), (0, yR k0), (1, yR k1), (2, yR k2), (3, yI (p3)), (4, yI (p4))]) rfl (fun _ _ => rfl) rfl rfl ?_
  exact yG.mono (yG.sub (i_6 (1) (0)  hp A_hp   (by omega) (by omega) (by omega) (by omega) (by omega) (by omega) (by omega) (by omega) (by omega) (by omega)) (ySub.cons rfl (ySub.cons rfl (ySub.cons rfl (ySub.cons rfl (ySub.cons rfl (ySub.cons rfl (ySub.cons rfl (ySub.nil))))))))) (by omega)
theorem c_Shape_bits_0 {hp : xH} (W : bW G) (d : Nat) (hT : zTy G hp) {k0 : Nat} (H_k0 : bRo G 51 k0) {k1 : Nat} (H_k1 : bRo G 47 k1) (p2 p3 : Int) (h2l : 1 ≤ p2) (h2u : p2 ≤ 2) (h3l : (-2147483648) ≤ p3) (h3u : p3 ≤ 2147483647) : yC (xcall 89 xfts xpools xms (d + 2)) 211 [yR k0, yR k1, yI (p2), yI (p3)] hp (bQpi hp (-2147483648) 2147483647 (fun _ => True)) := by
  have A_hp : bAx G [] hp hp := bAx.rf hT
  have H : ∀ m : Nat, (∀ a4 : Int, ∀ a5 : Int, (-2147483648) ≤ a4 → (-2147483647) ≤ 0 - a4 → 0 ≤ a5 → (-20) ≤ 0 - a5 → 1 ≤ p2 → (-2) ≤ 0 - p2 → (-2147483648) ≤ p3 → (-2147483647) ≤ 0 - p3 → (-2147483646) ≤ 0 - a4 + a5 → 0 - 2 * a5 + 41 < (m : Int) → yG 89 xfts (xcall 89 xfts xpools xms (d + 1)) (xpool xp_RX8) [] xt_X8_bits (yP 1 (bQpi hp (-2147483648) 2147483647 (fun _ => True))) (32 * m) 6 [(0, yR k0), (1, yR k1), (2, yI (p2)), (3, yI (p3)), (4, yI (a4)), (5, yI (a5))] [] hp) := by
    intro m
    induction m with
    | zero =>
      intros; exfalso; omega
    | succ m ih =>
      have i_6 := ih
      clear ih
      intro a4 a5 f0 f1 f2 f3 f4 f5 f6 f7 f8 hm
      refine yG.mono (N := 32 * m + 32) ?_ (by omega)
      refine yG.load xik rfl (fun _ _ => rfl) (v := yI (a5)) rfl rfl ?_
      refine yG.load xak rfl (fun _ _ => rfl) (v := yR k0) rfl rfl ?_
      refine yG.getO A_hp.1 (w_Shape_net W H_k0) rfl rfl (fun r1 H_r1 O_r1 q_r1 => ?_)
      refine yG.getO A_hp.1 (w_Net_count W H_r1) rfl rfl (fun r2 H_r2 O_r2 q_r2 => ?_)
      refine yG.num (c := 2) rfl (fun _ _ => rfl) (by decide) ?_
      refine yG.ialdF A_hp.1 (v_Net_count W H_r2) rfl rfl (by omega) (by omega) (fun z3 e_z3 i_z3 l_z3 u_z3 => ?_)
      refine yG.icmp rfl (t := 67) rfl ⟨by omega, by omega⟩ ⟨by omega, by omega⟩ (fun c4 => ?_) (fun c4 => ?_)
      · have c4 : (a5 : Int) ≥ z3 := c4
        refine yG.load xik rfl (fun _ _ => rfl) (v := yI (a4)) rfl rfl ?_
        refine yG.ret rfl (fun _ _ => rfl) ?_
        exact (yP.int ⟨by omega, by omega⟩ ⟨⟨a4, rfl, by omega, by omega, trivial⟩, rfl⟩)
      · have c4 : (a5 : Int) < z3 := c4
        refine yG.load xik rfl (fun _ _ => rfl) (v := yI (a4)) rfl rfl ?_
        refine yG.load xik rfl (fun _ _ => rfl) (v := yI (a5)) rfl rfl ?_
        refine yG.load xik rfl (fun _ _ => rfl) (v := yI (p3)) rfl rfl ?_
        refine yG.icmp rfl (t := 57) rfl ⟨by omega, by omega⟩ ⟨by omega, by omega⟩ (fun c5 => ?_) (fun c5 => ?_)
        · have c5 : (a5 : Int) = p3 := c5
          refine yG.num (c := 0) rfl (fun _ _ => rfl) (by decide) ?_
          refine yG.iadd rfl ?_
          obtain ⟨z6, e_z6⟩ : ∃ z : Int, z = a4 + 0 := ⟨_, rfl⟩
          rw [← e_z6]
          refine yG.store1 xik (L' := [(4, yI (z6)), (0, yR k0), (1, yR k1), (2, yI (p2)), (3, yI (p3)), (5, yI (a5))]) rfl (fun _ _ => rfl) rfl rfl ?_
          refine yG.iinc rfl (a := a5) rfl (L' := [(5, yI (a5 + 1)), (4, yI (z6)), (0, yR k0), (1, yR k1), (2, yI (p2)), (3, yI (p3))]) rfl ?_
          refine yG.goto rfl (t := 6) rfl ?_
          exact yG.mono (yG.sub (i_6 (z6) (a5 + 1)     (by omega) (by omega) (by omega) (by omega) (by omega) (by omega) (by omega) (by omega) (by omega) (by omega)) (ySub.cons rfl (ySub.cons rfl (ySub.cons rfl (ySub.cons rfl (ySub.cons rfl (ySub.cons rfl (ySub.nil)))))))) (by omega)
        · have c5 : (a5 : Int) ≠ p3 := c5
          refine yG.load xak rfl (fun _ _ => rfl) (v := yR k0) rfl rfl ?_
          refine yG.load xik rfl (fun _ _ => rfl) (v := yI (a5)) rfl rfl ?_
          refine yG.load xak rfl (fun _ _ => rfl) (v := yR k1) rfl rfl ?_
          refine yG.invV (rest := [yI (a4)]) A_hp.1 (bOb (d_Shape W) H_k0) rfl rfl rfl rfl (c_Shape_isLineIn_0 W d A_hp.1 H_k0 H_k1 (a5) (by omega) (by omega)) (fun rv hp9 q9 => ?_)
          obtain ⟨⟨z7, rfl, l_z7, u_z7, R_z7⟩, e9⟩ := q9
          rw [e9]
          show yG _ _ _ _ _ _ _ _ _ _ (yI z7 :: [yI (a4)]) _
          refine yG.ifz rfl (t := 57) rfl ⟨by omega, by omega⟩ (fun c8 => ?_) (fun c8 => ?_)
          · have c8 : (z7 : Int) = 0 := c8
            refine yG.num (c := 0) rfl (fun _ _ => rfl) (by decide) ?_
            refine yG.iadd rfl ?_
            obtain ⟨z9, e_z9⟩ : ∃ z : Int, z = a4 + 0 := ⟨_, rfl⟩
            rw [← e_z9]
            refine yG.store1 xik (L' := [(4, yI (z9)), (0, yR k0), (1, yR k1), (2, yI (p2)), (3, yI (p3)), (5, yI (a5))]) rfl (fun _ _ => rfl) rfl rfl ?_
            refine yG.iinc rfl (a := a5) rfl (L' := [(5, yI (a5 + 1)), (4, yI (z9)), (0, yR k0), (1, yR k1), (2, yI (p2)), (3, yI (p3))]) rfl ?_
            refine yG.goto rfl (t := 6) rfl ?_
            exact yG.mono (yG.sub (i_6 (z9) (a5 + 1)     (by omega) (by omega) (by omega) (by omega) (by omega) (by omega) (by omega) (by omega) (by omega) (by omega)) (ySub.cons rfl (ySub.cons rfl (ySub.cons rfl (ySub.cons rfl (ySub.cons rfl (ySub.cons rfl (ySub.nil)))))))) (by omega)
          · have c8 : (z7 : Int) ≠ 0 := c8
            refine yG.load xak rfl (fun _ _ => rfl) (v := yR k0) rfl rfl ?_
            refine yG.getS9 A_hp.1 (w_Shape_net W H_k0) q_r1 rfl rfl ?_
            refine yG.num (c := 2) rfl (fun _ _ => rfl) (by decide) ?_
            refine yG.load xik rfl (fun _ _ => rfl) (v := yI (a5)) rfl rfl ?_
            refine yG.load xik rfl (fun _ _ => rfl) (v := yI (p2)) rfl rfl ?_
            refine yG.invV (rest := [yI (a4)]) A_hp.1 (bOb (d_Net W) H_r1) rfl rfl rfl rfl (c_Net_at_2z W d A_hp.1 H_r1 (a5) (p2) (by omega) (by omega) (by omega) (by omega)) (fun rv hp9 q9 => ?_)
            obtain ⟨⟨z10, rfl, l_z10, u_z10, R_z10⟩, e9⟩ := q9
            rw [e9]
            show yG _ _ _ _ _ _ _ _ _ _ (yI z10 :: [yI (a4)]) _
            refine yG.num (c := 1) rfl (fun _ _ => rfl) (by decide) ?_
            refine yG.iadd rfl ?_
            refine yG.invS (rest := [yI (a4)]) rfl rfl rfl rfl (c_Shape_bitsOf W d A_hp.1 (z10 + 1) (by omega) (by omega)) (fun rv hp9 q9 => ?_)
            obtain ⟨⟨z11, rfl, l_z11, u_z11, R_z11⟩, e9⟩ := q9
            rw [e9]
            show yG _ _ _ _ _ _ _ _ _ _ (yI z11 :: [yI (a4)]) _
            refine yG.goto rfl (t := 58) rfl ?_
            refine yG.iadd rfl ?_
            obtain ⟨z12, e_z12, l_z12, u_z12⟩ := ywI (a4 + z11)
            rw [e_z12]
            refine yG.store1 xik (L' := [(4, yI (z12)), (0, yR k0), (1, yR k1), (2, yI (p2)), (3, yI (p3)), (5, yI (a5))]) rfl (fun _ _ => rfl) rfl rfl ?_
            refine yG.iinc rfl (a := a5) rfl (L' := [(5, yI (a5 + 1)), (4, yI (z12)), (0, yR k0), (1, yR k1), (2, yI (p2)), (3, yI (p3))]) rfl ?_
            refine yG.goto rfl (t := 6) rfl ?_
            exact yG.mono (yG.sub (i_6 (z12) (a5 + 1)     (by omega) (by omega) (by omega) (by omega) (by omega) (by omega) (by omega) (by omega) (by omega) (by omega)) (ySub.cons rfl (ySub.cons rfl (ySub.cons rfl (ySub.cons rfl (ySub.cons rfl (ySub.cons rfl (ySub.nil)))))))) (by omega)
  refine yC.of (M := (xt_X8_bits, (6, (1, (9, []))))) rfl rfl (N := 1408) (yfuel (by decide)) ?_
  show yG 89 xfts (xcall 89 xfts xpools xms (d + 1)) (xpool xp_RX8) [] xt_X8_bits (yP 1 (bQpi hp (-2147483648) 2147483647 (fun _ => True))) 1408 0 [(0, yR k0), (1, yR k1), (2, yI (p2)), (3, yI (p3))] [] hp
  have i_6 := H 43
  refine yG.num (c := 0) rfl (fun _ _ => rfl) (by decide) ?_
  refine yG.store1 xik (L' := [(4, yI (0)), (0, yR k0), (1, yR k1), (2, yI (p2)), (3, yI (p3))]) rfl (fun _ _ => rfl) rfl rfl ?_
  refine yG.num (c := 0) rfl (fun _ _ => rfl) (by decide) ?_
  refine yG.store1 xik (L' := [(5, yI (0)), (4, yI (0)), (0, yR k0), (1, yR k1), (2, yI (p2)), (3, yI (p3))]) rfl (fun _ _ => rfl) rfl rfl ?_
  exact yG.mono (yG.sub (i_6 (0) (0)     (by omega) (by omega) (by omega) (by omega) (by omega) (by omega) (by omega) (by omega) (by omega) (by omega)) (ySub.cons rfl (ySub.cons rfl (ySub.cons rfl (ySub.cons rfl (ySub.cons rfl (ySub.cons rfl (ySub.nil)))))))) (by omega)
theorem c_Shape_lay_1 {hp : xH} (W : bW G) (d : Nat) (hT : zTy G hp) {k0 : Nat} (H_k0 : bRo G 51 k0) {k1 : Nat} (H_k1 : bRo G 40 k1) {k2 : Nat} (H_k2 : bRo G 69 k2) (p3 p4 : Int) (h3l : 1 ≤ p3) (h3u : p3 ≤ 2) (h4l : (-2147483648) ≤ p4) (h4u : p4 ≤ 2147483647) : yC (xcall 89 xfts xpools xms (d + 2)) 220 [yR k0, yR k1, yR k2, yI (p3), yI (p4)] hp (bQj G [(4398046511104, 256)] hp 0 2147483646 (fun _ => True)) := by
  have A_hp : bAx G [(4398046511104, 256)] hp hp := bAx.rf hT
  have H : ∀ m : Nat, (∀ a5 : Int, ∀ a7 : Int, ∀ hq, bAx G [(4398046511104, 256)] hp hq → 0 ≤ a5 → (-2147483646) ≤ 0 - a5 → 0 ≤ a7 → (-20) ≤ 0 - a7 → 1 ≤ p3 → (-2) ≤ 0 - p3 → (-2147483648) ≤ p4 → (-2147483647) ≤ 0 - p4 → (-2147483645) ≤ 0 - a5 + a7 → 0 - 2 * a7 + 41 < (m : Int) → yG 89 xfts (xcall 89 xfts xpools xms (d + 1)) (xpool xp_RX8) [] xt_X8_lay (yP 2 (bQj G [(4398046511104, 256)] hp 0 2147483646 (fun _ => True))) (57 * m) 6 [(0, yR k0), (1, yR k1), (2, yR k2), (3, yI (p3)), (4, yI (p4)), (5, yJ (a5)), (7, yI (a7))] [] hq) := by
    intro m
    induction m with
    | zero =>
      intros; exfalso; omega
    | succ m ih =>
      have i_6 := ih
      clear ih
      intro a5 a7 hq A_hq f0 f1 f2 f3 f4 f5 f6 f7 f8 hm
      refine yG.mono (N := 57 * m + 57) ?_ (by omega)
      refine yG.load xik rfl (fun _ _ => rfl) (v := yI (a7)) rfl rfl ?_
      refine yG.load xak rfl (fun _ _ => rfl) (v := yR k0) rfl rfl ?_
      refine yG.getO A_hq.1 (w_Shape_net W H_k0) rfl rfl (fun r1 H_r1 O_r1 q_r1 => ?_)
      refine yG.getO A_hq.1 (w_Net_count W H_r1) rfl rfl (fun r2 H_r2 O_r2 q_r2 => ?_)
      refine yG.num (c := 2) rfl (fun _ _ => rfl) (by decide) ?_
      refine yG.ialdF A_hq.1 (v_Net_count W H_r2) rfl rfl (by omega) (by omega) (fun z3 e_z3 i_z3 l_z3 u_z3 => ?_)
      refine yG.icmp rfl (t := 107) rfl ⟨by omega, by omega⟩ ⟨by omega, by omega⟩ (fun c4 => ?_) (fun c4 => ?_)
      · have c4 : (a7 : Int) ≥ z3 := c4
        refine yG.load xlk2 rfl (fun _ _ => rfl) (v := yJ (a5)) rfl rfl ?_
        refine yG.ret rfl (fun _ _ => rfl) ?_
        exact (yP.long ⟨by omega, by omega⟩ ⟨⟨a5, rfl, by omega, by omega, trivial⟩, A_hq⟩)
      · have c4 : (a7 : Int) < z3 := c4
        refine yG.load xik rfl (fun _ _ => rfl) (v := yI (a7)) rfl rfl ?_
        refine yG.load xik rfl (fun _ _ => rfl) (v := yI (p4)) rfl rfl ?_
        refine yG.icmp rfl (t := 101) rfl ⟨by omega, by omega⟩ ⟨by omega, by omega⟩ (fun c5 => ?_) (fun c5 => ?_)
        · have c5 : (a7 : Int) = p4 := c5
          refine yG.iinc rfl (a := a7) rfl (L' := [(7, yI (a7 + 1)), (0, yR k0), (1, yR k1), (2, yR k2), (3, yI (p3)), (4, yI (p4)), (5, yJ (a5))]) rfl ?_
          refine yG.goto rfl (t := 6) rfl ?_
          exact yG.mono (yG.sub (i_6 (a5) (a7 + 1)  hq A_hq   (by omega) (by omega) (by omega) (by omega) (by omega) (by omega) (by omega) (by omega) (by omega) (by omega)) (ySub.cons rfl (ySub.cons rfl (ySub.cons rfl (ySub.cons rfl (ySub.cons rfl (ySub.cons rfl (ySub.cons rfl (ySub.nil))))))))) (by omega)
        · have c5 : (a7 : Int) ≠ p4 := c5
          refine yG.load xak rfl (fun _ _ => rfl) (v := yR k0) rfl rfl ?_
          refine yG.load xik rfl (fun _ _ => rfl) (v := yI (a7)) rfl rfl ?_
          refine yG.load xak rfl (fun _ _ => rfl) (v := yR k2) rfl rfl ?_
          refine yG.invV (rest := []) A_hq.1 (bOb (d_Shape W) H_k0) rfl rfl rfl rfl (c_Shape_isLineIn_1 W d A_hq.1 H_k0 H_k2 (a7) (by omega) (by omega)) (fun rv hp9 q9 => ?_)
          obtain ⟨⟨z6, rfl, l_z6, u_z6, R_z6⟩, e9⟩ := q9
          rw [e9]
          show yG _ _ _ _ _ _ _ _ _ _ (yI z6 :: []) _
          refine yG.ifz rfl (t := 101) rfl ⟨by omega, by omega⟩ (fun c7 => ?_) (fun c7 => ?_)
          · have c7 : (z6 : Int) = 0 := c7
            refine yG.iinc rfl (a := a7) rfl (L' := [(7, yI (a7 + 1)), (0, yR k0), (1, yR k1), (2, yR k2), (3, yI (p3)), (4, yI (p4)), (5, yJ (a5))]) rfl ?_
            refine yG.goto rfl (t := 6) rfl ?_
            exact yG.mono (yG.sub (i_6 (a5) (a7 + 1)  hq A_hq   (by omega) (by omega) (by omega) (by omega) (by omega) (by omega) (by omega) (by omega) (by omega) (by omega)) (ySub.cons rfl (ySub.cons rfl (ySub.cons rfl (ySub.cons rfl (ySub.cons rfl (ySub.cons rfl (ySub.cons rfl (ySub.nil))))))))) (by omega)
          · have c7 : (z6 : Int) ≠ 0 := c7
            refine yG.load xak rfl (fun _ _ => rfl) (v := yR k0) rfl rfl ?_
            refine yG.getS9 A_hq.1 (w_Shape_net W H_k0) q_r1 rfl rfl ?_
            refine yG.num (c := 2) rfl (fun _ _ => rfl) (by decide) ?_
            refine yG.load xik rfl (fun _ _ => rfl) (v := yI (a7)) rfl rfl ?_
            refine yG.load xik rfl (fun _ _ => rfl) (v := yI (p3)) rfl rfl ?_
            refine yG.invV (rest := []) A_hq.1 (bOb (d_Net W) H_r1) rfl rfl rfl rfl (c_Net_at_2z W d A_hq.1 H_r1 (a7) (p3) (by omega) (by omega) (by omega) (by omega)) (fun rv hp9 q9 => ?_)
            obtain ⟨⟨z8, rfl, l_z8, u_z8, R_z8⟩, e9⟩ := q9
            rw [e9]
            show yG _ _ _ _ _ _ _ _ _ _ (yI z8 :: []) _
            refine yG.i2l rfl ⟨by omega, by omega⟩ ?_
            refine yG.store2 xlk2 (L' := [(8, yJ (z8)), (0, yR k0), (1, yR k1), (2, yR k2), (3, yI (p3)), (4, yI (p4)), (5, yJ (a5)), (7, yI (a7))]) rfl (fun _ _ => rfl) rfl rfl ?_
            refine yG.load xak rfl (fun _ _ => rfl) (v := yR k1) rfl rfl ?_
            refine yG.load xak rfl (fun _ _ => rfl) (v := yR k0) rfl rfl ?_
            refine yG.getO A_hq.1 (w_Shape_row W H_k0) rfl rfl (fun r9 H_r9 O_r9 q_r9 => ?_)
            refine yG.load xak rfl (fun _ _ => rfl) (v := yR k0) rfl rfl ?_
            refine yG.getO A_hq.1 (w_Shape_ends W H_k0) rfl rfl (fun r10 H_r10 O_r10 q_r10 => ?_)
            refine yG.load xik rfl (fun _ _ => rfl) (v := yI (a7)) rfl rfl ?_
            refine yG.aaldO (r := 57) A_hq.1 (v_Shape_ends W H_r10) rfl rfl rfl (by omega) (by omega) (fun r11 H_r11 q_r11 => ?_)
            refine yG.num (c := 0) rfl (fun _ _ => rfl) (by decide) ?_
            refine yG.iald A_hq.1 (v_Shape_endss W H_r11) rfl (by omega) (by omega) (fun z12 e_z12 i_z12 l_z12 u_z12 => ?_)
            refine yG.iald A_hq.1 (v_Shape_row W H_r9) rfl (by omega) (by omega) (fun z13 e_z13 i_z13 l_z13 u_z13 => ?_)
            refine yG.load xak rfl (fun _ _ => rfl) (v := yR k0) rfl rfl ?_
            refine yG.getS9 A_hq.1 (w_Shape_row W H_k0) q_r9 rfl rfl ?_
            refine yG.load xak rfl (fun _ _ => rfl) (v := yR k0) rfl rfl ?_
            refine yG.getS9 A_hq.1 (w_Shape_ends W H_k0) q_r10 rfl rfl ?_
            refine yG.load xik rfl (fun _ _ => rfl) (v := yI (a7)) rfl rfl ?_
            refine yG.aaldO (r := 57) A_hq.1 (v_Shape_ends W H_r10) rfl rfl rfl (by omega) (by omega) (fun r14 H_r14 q_r14 => ?_)
            have s_r14 : r14 = r11 := by have e9 := q_r14.symm.trans q_r11; cases e9; rfl
            rw [s_r14]
            refine yG.num (c := 1) rfl (fun _ _ => rfl) (by decide) ?_
            refine yG.iald A_hq.1 (v_Shape_endss W H_r11) rfl (by omega) (by omega) (fun z15 e_z15 i_z15 l_z15 u_z15 => ?_)
            refine yG.iald A_hq.1 (v_Shape_row W H_r9) rfl (by omega) (by omega) (fun z16 e_z16 i_z16 l_z16 u_z16 => ?_)
            refine yG.load xak rfl (fun _ _ => rfl) (v := yR k1) rfl rfl ?_
            refine yG.load xlk2 rfl (fun _ _ => rfl) (v := yJ (z8)) rfl rfl ?_
            refine yG.invV (rest := [yI (z16), yI (z13), yR k1]) A_hq.1 (bOb (d_Solver W) H_k1) rfl rfl rfl rfl (c_Solver_inverse W d A_hq.1 H_k1 (z8) (by omega) (by omega)) (fun rv hp9 q9 => ?_)
            obtain ⟨⟨z17, rfl, l_z17, u_z17, R_z17⟩, e9⟩ := q9
            rw [e9]
            show yG _ _ _ _ _ _ _ _ _ _ (yJ z17 :: [yI (z16), yI (z13), yR k1]) _
            refine yG.invV (rest := []) A_hq.1 (bOb (d_Solver W) H_k1) rfl rfl rfl rfl (c_Solver_edge W d A_hq.1 H_k1 (z13) (z16) (z17) (by omega) (by omega) (by omega) (by omega) (by omega) (by omega)) (fun rv h18 q9 => ?_)
            obtain ⟨⟨rfl, R_z19⟩, B_h18⟩ := q9
            have A_h18 := A_hq.tr B_h18 (by decide)
            have qq1 : zsl h18 k0 0 = yR r1 := (B_h18.sl H_k0 (by decide)).trans q_r1
            have qq2 : zsl h18 k0 3 = yR r9 := (B_h18.sl H_k0 (by decide)).trans q_r9
            have qq3 : zsl h18 k0 5 = yR r10 := (B_h18.sl H_k0 (by decide)).trans q_r10
            have qq4 : zsl h18 r10 (a7 : Int).toNat = yR r11 := (B_h18.sl H_r10 (bNo_ok (by decide) _)).trans q_r11
            show yG _ _ _ _ _ _ _ _ _ _ [] _
            refine yG.load xlk2 rfl (fun _ _ => rfl) (v := yJ (a5)) rfl rfl ?_
            refine yG.load xlk2 rfl (fun _ _ => rfl) (v := yJ (z8)) rfl rfl ?_
            refine yG.lmul rfl ?_
            obtain ⟨z20, e_z20⟩ : ∃ z : Int, z = a5 * z8 := ⟨_, rfl⟩
            rw [← e_z20]
            have b_z20 : 0 ≤ z20 ∧ z20 ≤ 21472688976354 := e_z20 ▸ ymulb (A := 2147483646) (B := 9999) (by omega) (by omega) (by omega) (by omega) (by decide)
            have b2_z20 : z20 ≤ 2147483646 * z8 := e_z20 ▸ bmulx (by omega) (by omega)
            have b3_z20 : z20 ≤ 9999 * a5 := e_z20 ▸ bmuly (by omega) (by omega)
            refine yG.load xak rfl (fun _ _ => rfl) (v := yR k1) rfl rfl ?_
            refine yG.getJ A_h18.1 (w_Solver_prime W H_k1) rfl rfl (fun z21 e_z21 i_z21 l_z21 u_z21 => ?_)
            refine yG.lrem rfl ⟨by omega, by omega⟩ ⟨by omega, by omega⟩ (by omega) (by omega) ?_
            obtain ⟨z22, e_z22⟩ : ∃ z : Int, z = (z20) % (z21) := ⟨_, rfl⟩
            rw [← e_z22]
            have b_z22 : 0 ≤ z22 ∧ z22 < z21 := e_z22 ▸ ⟨Int.emod_nonneg _ (by omega), Int.emod_lt_of_pos _ (by omega)⟩
            refine yG.store2 xlk2 (L' := [(5, yJ (z22)), (8, yJ (z8)), (0, yR k0), (1, yR k1), (2, yR k2), (3, yI (p3)), (4, yI (p4)), (7, yI (a7))]) rfl (fun _ _ => rfl) rfl rfl ?_
            refine yG.iinc rfl (a := a7) rfl (L' := [(7, yI (a7 + 1)), (5, yJ (z22)), (8, yJ (z8)), (0, yR k0), (1, yR k1), (2, yR k2), (3, yI (p3)), (4, yI (p4))]) rfl ?_
            refine yG.goto rfl (t := 6) rfl ?_
            exact yG.mono (yG.sub (i_6 (z22) (a7 + 1)  h18 A_h18   (by omega) (by omega) (by omega) (by omega) (by omega) (by omega) (by omega) (by omega) (by omega) (by omega)) (ySub.cons rfl (ySub.cons rfl (ySub.cons rfl (ySub.cons rfl (ySub.cons rfl (ySub.cons rfl (ySub.cons rfl (ySub.nil))))))))) (by omega)
  refine yC.of (M := (xt_X8_lay, (10, (2, (9, []))))) rfl rfl (N := 2508) (yfuel (by decide)) ?_
  show yG 89 xfts (xcall 89 xfts xpools xms (d + 1)) (xpool xp_RX8) [] xt_X8_lay (yP 2 (bQj G [(4398046511104, 256)] hp 0 2147483646 (fun _ => True))) 2508 0 [(0, yR k0), (1, yR k1), (2, yR k2), (3, yI (p3)), (4, yI (p4))] [] hp
  have i_6 := H 43
  refine yG.numl (c := 1) rfl (fun _ _ => rfl) (by decide) ?_
  refine yG.store2 xlk2 (L' := [(5, yJ (1)), (0, yR k0), (1, yR k1), (2, yR k2), (3, yI (p3)), (4, yI (p4))]) rfl (fun _ _ => rfl) rfl rfl ?_
  refine yG.num (c := 0) rfl (fun _ _ => rfl) (by decide) ?_
  refine yG.store1 xik (L' := [(7, yI (0)), (5, yJ (1)), (0, yR k0), (1, yR k1), (2, yR k2), (3, yI (p3)), (4, yI (p4))]) rfl (fun _ _ => rfl) rfl rfl ?_
  exact yG.mono (yG.sub (i_6 (1) (0)  hp A_hp   (by omega) (by omega) (by omega) (by omega) (by omega) (by omega) (by omega) (by omega) (by omega) (by omega)) (ySub.cons rfl (ySub.cons rfl (ySub.cons rfl (ySub.cons rfl (ySub.cons rfl (ySub.cons rfl (ySub.cons rfl (ySub.nil))))))))) (by omega)
theorem c_Shape_bits_1 {hp : xH} (W : bW G) (d : Nat) (hT : zTy G hp) {k0 : Nat} (H_k0 : bRo G 51 k0) {k1 : Nat} (H_k1 : bRo G 69 k1) (p2 p3 : Int) (h2l : 1 ≤ p2) (h2u : p2 ≤ 2) (h3l : (-2147483648) ≤ p3) (h3u : p3 ≤ 2147483647) : yC (xcall 89 xfts xpools xms (d + 2)) 211 [yR k0, yR k1, yI (p2), yI (p3)] hp (bQpi hp (-2147483648) 2147483647 (fun _ => True)) := by
  have A_hp : bAx G [] hp hp := bAx.rf hT
  have H : ∀ m : Nat, (∀ a4 : Int, ∀ a5 : Int, (-2147483648) ≤ a4 → (-2147483647) ≤ 0 - a4 → 0 ≤ a5 → (-20) ≤ 0 - a5 → 1 ≤ p2 → (-2) ≤ 0 - p2 → (-2147483648) ≤ p3 → (-2147483647) ≤ 0 - p3 → (-2147483646) ≤ 0 - a4 + a5 → 0 - 2 * a5 + 41 < (m : Int) → yG 89 xfts (xcall 89 xfts xpools xms (d + 1)) (xpool xp_RX8) [] xt_X8_bits (yP 1 (bQpi hp (-2147483648) 2147483647 (fun _ => True))) (32 * m) 6 [(0, yR k0), (1, yR k1), (2, yI (p2)), (3, yI (p3)), (4, yI (a4)), (5, yI (a5))] [] hp) := by
    intro m
    induction m with
    | zero =>
      intros; exfalso; omega
    | succ m ih =>
      have i_6 := ih
      clear ih
      intro a4 a5 f0 f1 f2 f3 f4 f5 f6 f7 f8 hm
      refine yG.mono (N := 32 * m + 32) ?_ (by omega)
      refine yG.load xik rfl (fun _ _ => rfl) (v := yI (a5)) rfl rfl ?_
      refine yG.load xak rfl (fun _ _ => rfl) (v := yR k0) rfl rfl ?_
      refine yG.getO A_hp.1 (w_Shape_net W H_k0) rfl rfl (fun r1 H_r1 O_r1 q_r1 => ?_)
      refine yG.getO A_hp.1 (w_Net_count W H_r1) rfl rfl (fun r2 H_r2 O_r2 q_r2 => ?_)
      refine yG.num (c := 2) rfl (fun _ _ => rfl) (by decide) ?_
      refine yG.ialdF A_hp.1 (v_Net_count W H_r2) rfl rfl (by omega) (by omega) (fun z3 e_z3 i_z3 l_z3 u_z3 => ?_)
      refine yG.icmp rfl (t := 67) rfl ⟨by omega, by omega⟩ ⟨by omega, by omega⟩ (fun c4 => ?_) (fun c4 => ?_)
      · have c4 : (a5 : Int) ≥ z3 := c4
        refine yG.load xik rfl (fun _ _ => rfl) (v := yI (a4)) rfl rfl ?_
        refine yG.ret rfl (fun _ _ => rfl) ?_
        exact (yP.int ⟨by omega, by omega⟩ ⟨⟨a4, rfl, by omega, by omega, trivial⟩, rfl⟩)
      · have c4 : (a5 : Int) < z3 := c4
        refine yG.load xik rfl (fun _ _ => rfl) (v := yI (a4)) rfl rfl ?_
        refine yG.load xik rfl (fun _ _ => rfl) (v := yI (a5)) rfl rfl ?_
        refine yG.load xik rfl (fun _ _ => rfl) (v := yI (p3)) rfl rfl ?_
        refine yG.icmp rfl (t := 57) rfl ⟨by omega, by omega⟩ ⟨by omega, by omega⟩ (fun c5 => ?_) (fun c5 => ?_)
        · have c5 : (a5 : Int) = p3 := c5
          refine yG.num (c := 0) rfl (fun _ _ => rfl) (by decide) ?_
          refine yG.iadd rfl ?_
          obtain ⟨z6, e_z6⟩ : ∃ z : Int, z = a4 + 0 := ⟨_, rfl⟩
          rw [← e_z6]
          refine yG.store1 xik (L' := [(4, yI (z6)), (0, yR k0), (1, yR k1), (2, yI (p2)), (3, yI (p3)), (5, yI (a5))]) rfl (fun _ _ => rfl) rfl rfl ?_
          refine yG.iinc rfl (a := a5) rfl (L' := [(5, yI (a5 + 1)), (4, yI (z6)), (0, yR k0), (1, yR k1), (2, yI (p2)), (3, yI (p3))]) rfl ?_
          refine yG.goto rfl (t := 6) rfl ?_
          exact yG.mono (yG.sub (i_6 (z6) (a5 + 1)     (by omega) (by omega) (by omega) (by omega) (by omega) (by omega) (by omega) (by omega) (by omega) (by omega)) (ySub.cons rfl (ySub.cons rfl (ySub.cons rfl (ySub.cons rfl (ySub.cons rfl (ySub.cons rfl (ySub.nil)))))))) (by omega)
        · have c5 : (a5 : Int) ≠ p3 := c5
          refine yG.load xak rfl (fun _ _ => rfl) (v := yR k0) rfl rfl ?_
          refine yG.load xik rfl (fun _ _ => rfl) (v := yI (a5)) rfl rfl ?_
          refine yG.load xak rfl (fun _ _ => rfl) (v := yR k1) rfl rfl ?_
          refine yG.invV (rest := [yI (a4)]) A_hp.1 (bOb (d_Shape W) H_k0) rfl rfl rfl rfl (c_Shape_isLineIn_1 W d A_hp.1 H_k0 H_k1 (a5) (by omega) (by omega)) (fun rv hp9 q9 => ?_)
          obtain ⟨⟨z7, rfl, l_z7, u_z7, R_z7⟩, e9⟩ := q9
          rw [e9]
          show yG _ _ _ _ _ _ _ _ _ _ (yI z7 :: [yI (a4)]) _
          refine yG.ifz rfl (t := 57) rfl ⟨by omega, by omega⟩ (fun c8 => ?_) (fun c8 => ?_)
          · have c8 : (z7 : Int) = 0 := c8
            refine yG.num (c := 0) rfl (fun _ _ => rfl) (by decide) ?_
            refine yG.iadd rfl ?_
            obtain ⟨z9, e_z9⟩ : ∃ z : Int, z = a4 + 0 := ⟨_, rfl⟩
            rw [← e_z9]
            refine yG.store1 xik (L' := [(4, yI (z9)), (0, yR k0), (1, yR k1), (2, yI (p2)), (3, yI (p3)), (5, yI (a5))]) rfl (fun _ _ => rfl) rfl rfl ?_
            refine yG.iinc rfl (a := a5) rfl (L' := [(5, yI (a5 + 1)), (4, yI (z9)), (0, yR k0), (1, yR k1), (2, yI (p2)), (3, yI (p3))]) rfl ?_
            refine yG.goto rfl (t := 6) rfl ?_
            exact yG.mono (yG.sub (i_6 (z9) (a5 + 1)     (by omega) (by omega) (by omega) (by omega) (by omega) (by omega) (by omega) (by omega) (by omega) (by omega)) (ySub.cons rfl (ySub.cons rfl (ySub.cons rfl (ySub.cons rfl (ySub.cons rfl (ySub.cons rfl (ySub.nil)))))))) (by omega)
          · have c8 : (z7 : Int) ≠ 0 := c8
            refine yG.load xak rfl (fun _ _ => rfl) (v := yR k0) rfl rfl ?_
            refine yG.getS9 A_hp.1 (w_Shape_net W H_k0) q_r1 rfl rfl ?_
            refine yG.num (c := 2) rfl (fun _ _ => rfl) (by decide) ?_
            refine yG.load xik rfl (fun _ _ => rfl) (v := yI (a5)) rfl rfl ?_
            refine yG.load xik rfl (fun _ _ => rfl) (v := yI (p2)) rfl rfl ?_
            refine yG.invV (rest := [yI (a4)]) A_hp.1 (bOb (d_Net W) H_r1) rfl rfl rfl rfl (c_Net_at_2z W d A_hp.1 H_r1 (a5) (p2) (by omega) (by omega) (by omega) (by omega)) (fun rv hp9 q9 => ?_)
            obtain ⟨⟨z10, rfl, l_z10, u_z10, R_z10⟩, e9⟩ := q9
            rw [e9]
            show yG _ _ _ _ _ _ _ _ _ _ (yI z10 :: [yI (a4)]) _
            refine yG.num (c := 1) rfl (fun _ _ => rfl) (by decide) ?_
            refine yG.iadd rfl ?_
            refine yG.invS (rest := [yI (a4)]) rfl rfl rfl rfl (c_Shape_bitsOf W d A_hp.1 (z10 + 1) (by omega) (by omega)) (fun rv hp9 q9 => ?_)
            obtain ⟨⟨z11, rfl, l_z11, u_z11, R_z11⟩, e9⟩ := q9
            rw [e9]
            show yG _ _ _ _ _ _ _ _ _ _ (yI z11 :: [yI (a4)]) _
            refine yG.goto rfl (t := 58) rfl ?_
            refine yG.iadd rfl ?_
            obtain ⟨z12, e_z12, l_z12, u_z12⟩ := ywI (a4 + z11)
            rw [e_z12]
            refine yG.store1 xik (L' := [(4, yI (z12)), (0, yR k0), (1, yR k1), (2, yI (p2)), (3, yI (p3)), (5, yI (a5))]) rfl (fun _ _ => rfl) rfl rfl ?_
            refine yG.iinc rfl (a := a5) rfl (L' := [(5, yI (a5 + 1)), (4, yI (z12)), (0, yR k0), (1, yR k1), (2, yI (p2)), (3, yI (p3))]) rfl ?_
            refine yG.goto rfl (t := 6) rfl ?_
            exact yG.mono (yG.sub (i_6 (z12) (a5 + 1)     (by omega) (by omega) (by omega) (by omega) (by omega) (by omega) (by omega) (by omega) (by omega) (by omega)) (ySub.cons rfl (ySub.cons rfl (ySub.cons rfl (ySub.cons rfl (ySub.cons rfl (ySub.cons rfl (ySub.nil)))))))) (by omega)
  refine yC.of (M := (xt_X8_bits, (6, (1, (9, []))))) rfl rfl (N := 1408) (yfuel (by decide)) ?_
  show yG 89 xfts (xcall 89 xfts xpools xms (d + 1)) (xpool xp_RX8) [] xt_X8_bits (yP 1 (bQpi hp (-2147483648) 2147483647 (fun _ => True))) 1408 0 [(0, yR k0), (1, yR k1), (2, yI (p2)), (3, yI (p3))] [] hp
  have i_6 := H 43
  refine yG.num (c := 0) rfl (fun _ _ => rfl) (by decide) ?_
  refine yG.store1 xik (L' := [(4, yI (0)), (0, yR k0), (1, yR k1), (2, yI (p2)), (3, yI (p3))]) rfl (fun _ _ => rfl) rfl rfl ?_
  refine yG.num (c := 0) rfl (fun _ _ => rfl) (by decide) ?_
  refine yG.store1 xik (L' := [(5, yI (0)), (4, yI (0)), (0, yR k0), (1, yR k1), (2, yI (p2)), (3, yI (p3))]) rfl (fun _ _ => rfl) rfl rfl ?_
  exact yG.mono (yG.sub (i_6 (0) (0)     (by omega) (by omega) (by omega) (by omega) (by omega) (by omega) (by omega) (by omega) (by omega) (by omega)) (ySub.cons rfl (ySub.cons rfl (ySub.cons rfl (ySub.cons rfl (ySub.cons rfl (ySub.cons rfl (ySub.nil)))))))) (by omega)
theorem c_Shape_lay_2 {hp : xH} (W : bW G) (d : Nat) (hT : zTy G hp) {k0 : Nat} (H_k0 : bRo G 51 k0) {k1 : Nat} (H_k1 : bRo G 40 k1) {k2 : Nat} (H_k2 : bRo G 76 k2) (p3 p4 : Int) (h3l : 1 ≤ p3) (h3u : p3 ≤ 2) (h4l : (-2147483648) ≤ p4) (h4u : p4 ≤ 2147483647) : yC (xcall 89 xfts xpools xms (d + 2)) 220 [yR k0, yR k1, yR k2, yI (p3), yI (p4)] hp (bQj G [(4398046511104, 256)] hp 0 2147483646 (fun _ => True)) := by
  have A_hp : bAx G [(4398046511104, 256)] hp hp := bAx.rf hT
  have H : ∀ m : Nat, (∀ a5 : Int, ∀ a7 : Int, ∀ hq, bAx G [(4398046511104, 256)] hp hq → 0 ≤ a5 → (-2147483646) ≤ 0 - a5 → 0 ≤ a7 → (-20) ≤ 0 - a7 → 1 ≤ p3 → (-2) ≤ 0 - p3 → (-2147483648) ≤ p4 → (-2147483647) ≤ 0 - p4 → (-2147483645) ≤ 0 - a5 + a7 → 0 - 2 * a7 + 41 < (m : Int) → yG 89 xfts (xcall 89 xfts xpools xms (d + 1)) (xpool xp_RX8) [] xt_X8_lay (yP 2 (bQj G [(4398046511104, 256)] hp 0 2147483646 (fun _ => True))) (57 * m) 6 [(0, yR k0), (1, yR k1), (2, yR k2), (3, yI (p3)), (4, yI (p4)), (5, yJ (a5)), (7, yI (a7))] [] hq) := by
    intro m
    induction m with
    | zero =>
      intros; exfalso; omega
    | succ m ih =>
      have i_6 := ih
      clear ih
      intro a5 a7 hq A_hq f0 f1 f2 f3 f4 f5 f6 f7 f8 hm
      refine yG.mono (N := 57 * m + 57) ?_ (by omega)
      refine yG.load xik rfl (fun _ _ => rfl) (v := yI (a7)) rfl rfl ?_
      refine yG.load xak rfl (fun _ _ => rfl) (v := yR k0) rfl rfl ?_
      refine yG.getO A_hq.1 (w_Shape_net W H_k0) rfl rfl (fun r1 H_r1 O_r1 q_r1 => ?_)
      refine yG.getO A_hq.1 (w_Net_count W H_r1) rfl rfl (fun r2 H_r2 O_r2 q_r2 => ?_)
      refine yG.num (c := 2) rfl (fun _ _ => rfl) (by decide) ?_
      refine yG.ialdF A_hq.1 (v_Net_count W H_r2) rfl rfl (by omega) (by omega) (fun z3 e_z3 i_z3 l_z3 u_z3 => ?_)
      refine yG.icmp rfl (t := 107) rfl ⟨by omega, by omega⟩ ⟨by omega, by omega⟩ (fun c4 => ?_) (fun c4 => ?_)
      · have c4 : (a7 : Int) ≥ z3 := c4
        refine yG.load xlk2 rfl (fun _ _ => rfl) (v := yJ (a5)) rfl rfl ?_
        refine yG.ret rfl (fun _ _ => rfl) ?_
        exact (yP.long ⟨by omega, by omega⟩ ⟨⟨a5, rfl, by omega, by omega, trivial⟩, A_hq⟩)
      · have c4 : (a7 : Int) < z3 := c4
        refine yG.load xik rfl (fun _ _ => rfl) (v := yI (a7)) rfl rfl ?_
        refine yG.load xik rfl (fun _ _ => rfl) (v := yI (p4)) rfl rfl ?_
        refine yG.icmp rfl (t := 101) rfl ⟨by omega, by omega⟩ ⟨by omega, by omega⟩ (fun c5 => ?_) (fun c5 => ?_)
        · have c5 : (a7 : Int) = p4 := c5
          refine yG.iinc rfl (a := a7) rfl (L' := [(7, yI (a7 + 1)), (0, yR k0), (1, yR k1), (2, yR k2), (3, yI (p3)), (4, yI (p4)), (5, yJ (a5))]) rfl ?_
          refine yG.goto rfl (t := 6) rfl ?_
          exact yG.mono (yG.sub (i_6 (a5) (a7 + 1)  hq A_hq   (by omega) (by omega) (by omega) (by omega) (by omega) (by omega) (by omega) (by omega) (by omega) (by omega)) (ySub.cons rfl (ySub.cons rfl (ySub.cons rfl (ySub.cons rfl (ySub.cons rfl (ySub.cons rfl (ySub.cons rfl (ySub.nil))))))))) (by omega)
        · have c5 : (a7 : Int) ≠ p4 := c5
          refine yG.load xak rfl (fun _ _ => rfl) (v := yR k0) rfl rfl ?_
          refine yG.load xik rfl (fun _ _ => rfl) (v := yI (a7)) rfl rfl ?_
          refine yG.load xak rfl (fun _ _ => rfl) (v := yR k2) rfl rfl ?_
          refine yG.invV (rest := []) A_hq.1 (bOb (d_Shape W) H_k0) rfl rfl rfl rfl (c_Shape_isLineIn_2 W d A_hq.1 H_k0 H_k2 (a7) (by omega) (by omega)) (fun rv hp9 q9 => ?_)
          obtain ⟨⟨z6, rfl, l_z6, u_z6, R_z6⟩, e9⟩ := q9
          rw [e9]
          show yG _ _ _ _ _ _ _ _ _ _ (yI z6 :: []) _
          refine yG.ifz rfl (t := 101) rfl ⟨by omega, by omega⟩ (fun c7 => ?_) (fun c7 => ?_)
          · have c7 : (z6 : Int) = 0 := c7
            refine yG.iinc rfl (a := a7) rfl (L' := [(7, yI (a7 + 1)), (0, yR k0), (1, yR k1), (2, yR k2), (3, yI (p3)), (4, yI (p4)), (5, yJ (a5))]) rfl ?_
            refine yG.goto rfl (t := 6) rfl ?_
            exact yG.mono (yG.sub (i_6 (a5) (a7 + 1)  hq A_hq   (by omega) (by omega) (by omega) (by omega) (by omega) (by omega) (by omega) (by omega) (by omega) (by omega)) (ySub.cons rfl (ySub.cons rfl (ySub.cons rfl (ySub.cons rfl (ySub.cons rfl (ySub.cons rfl (ySub.cons rfl (ySub.nil))))))))) (by omega)
          · have c7 : (z6 : Int) ≠ 0 := c7
            refine yG.load xak rfl (fun _ _ => rfl) (v := yR k0) rfl rfl ?_
            refine yG.getS9 A_hq.1 (w_Shape_net W H_k0) q_r1 rfl rfl ?_
            refine yG.num (c := 2) rfl (fun _ _ => rfl) (by decide) ?_
            refine yG.load xik rfl (fun _ _ => rfl) (v := yI (a7)) rfl rfl ?_
            refine yG.load xik rfl (fun _ _ => rfl) (v := yI (p3)) rfl rfl ?_
            refine yG.invV (rest := []) A_hq.1 (bOb (d_Net W) H_r1) rfl rfl rfl rfl (c_Net_at_2z W d A_hq.1 H_r1 (a7) (p3) (by omega) (by omega) (by omega) (by omega)) (fun rv hp9 q9 => ?_)
            obtain ⟨⟨z8, rfl, l_z8, u_z8, R_z8⟩, e9⟩ := q9
            rw [e9]
            show yG _ _ _ _ _ _ _ _ _ _ (yI z8 :: []) _
            refine yG.i2l rfl ⟨by omega, by omega⟩ ?_
            refine yG.store2 xlk2 (L' := [(8, yJ (z8)), (0, yR k0), (1, yR k1), (2, yR k2), (3, yI (p3)), (4, yI (p4)), (5, yJ (a5)), (7, yI (a7))]) rfl (fun _ _ => rfl) rfl rfl ?_
            refine yG.load xak rfl (fun _ _ => rfl) (v := yR k1) rfl rfl ?_
            refine yG.load xak rfl (fun _ _ => rfl) (v := yR k0) rfl rfl ?_
            refine yG.getO A_hq.1 (w_Shape_row W H_k0) rfl rfl (fun r9 H_r9 O_r9 q_r9 => ?_)
            refine yG.load xak rfl (fun _ _ => rfl) (v := yR k0) rfl rfl ?_
            refine yG.getO A_hq.1 (w_Shape_ends W H_k0) rfl rfl (fun r10 H_r10 O_r10 q_r10 => ?_)
            refine yG.load xik rfl (fun _ _ => rfl) (v := yI (a7)) rfl rfl ?_
            refine yG.aaldO (r := 57) A_hq.1 (v_Shape_ends W H_r10) rfl rfl rfl (by omega) (by omega) (fun r11 H_r11 q_r11 => ?_)
            refine yG.num (c := 0) rfl (fun _ _ => rfl) (by decide) ?_
            refine yG.iald A_hq.1 (v_Shape_endss W H_r11) rfl (by omega) (by omega) (fun z12 e_z12 i_z12 l_z12 u_z12 => ?_)
            refine yG.iald A_hq.1 (v_Shape_row W H_r9) rfl (by omega) (by omega) (fun z13 e_z13 i_z13 l_z13 u_z13 => ?_)
            refine yG.load xak rfl (fun _ _ => rfl) (v := yR k0) rfl rfl ?_
            refine yG.getS9 A_hq.1 (w_Shape_row W H_k0) q_r9 rfl rfl ?_
            refine yG.load xak rfl (fun _ _ => rfl) (v := yR k0) rfl rfl ?_
            refine yG.getS9 A_hq.1 (w_Shape_ends W H_k0) q_r10 rfl rfl ?_
            refine yG.load xik rfl (fun _ _ => rfl) (v := yI (a7)) rfl rfl ?_
            refine yG.aaldO (r := 57) A_hq.1 (v_Shape_ends W H_r10) rfl rfl rfl (by omega) (by omega) (fun r14 H_r14 q_r14 => ?_)
            have s_r14 : r14 = r11 := by have e9 := q_r14.symm.trans q_r11; cases e9; rfl
            rw [s_r14]
            refine yG.num (c := 1) rfl (fun _ _ => rfl) (by decide) ?_
            refine yG.iald A_hq.1 (v_Shape_endss W H_r11) rfl (by omega) (by omega) (fun z15 e_z15 i_z15 l_z15 u_z15 => ?_)
            refine yG.iald A_hq.1 (v_Shape_row W H_r9) rfl (by omega) (by omega) (fun z16 e_z16 i_z16 l_z16 u_z16 => ?_)
            refine yG.load xak rfl (fun _ _ => rfl) (v := yR k1) rfl rfl ?_
            refine yG.load xlk2 rfl (fun _ _ => rfl) (v := yJ (z8)) rfl rfl ?_
            refine yG.invV (rest := [yI (z16), yI (z13), yR k1]) A_hq.1 (bOb (d_Solver W) H_k1) rfl rfl rfl rfl (c_Solver_inverse W d A_hq.1 H_k1 (z8) (by omega) (by omega)) (fun rv hp9 q9 => ?_)
            obtain ⟨⟨z17, rfl, l_z17, u_z17, R_z17⟩, e9⟩ := q9
            rw [e9]
            show yG _ _ _ _ _ _ _ _ _ _ (yJ z17 :: [yI (z16), yI (z13), yR k1]) _
            refine yG.invV (rest := []) A_hq.1 (bOb (d_Solver W) H_k1) rfl rfl rfl rfl (c_Solver_edge W d A_hq.1 H_k1 (z13) (z16) (z17) (by omega) (by omega) (by omega) (by omega) (by omega) (by omega)) (fun rv h18 q9 => ?_)
            obtain ⟨⟨rfl, R_z19⟩, B_h18⟩ := q9
            have A_h18 := A_hq.tr B_h18 (by decide)
            have qq1 : zsl h18 k0 0 = yR r1 := (B_h18.sl H_k0 (by decide)).trans q_r1
            have qq2 : zsl h18 k0 3 = yR r9 := (B_h18.sl H_k0 (by decide)).trans q_r9
            have qq3 : zsl h18 k0 5 = yR r10 := (B_h18.sl H_k0 (by decide)).trans q_r10
            have qq4 : zsl h18 r10 (a7 : Int).toNat = yR r11 := (B_h18.sl H_r10 (bNo_ok (by decide) _)).trans q_r11
            show yG _ _ _ _ _ _ _ _ _ _ [] _
            refine yG.load xlk2 rfl (fun _ _ => rfl) (v := yJ (a5)) rfl rfl ?_
            refine yG.load xlk2 rfl (fun _ _ => rfl) (v := yJ (z8)) rfl rfl ?_
            refine yG.lmul rfl ?_
            obtain ⟨z20, e_z20⟩ : ∃ z : Int, z = a5 * z8 := ⟨_, rfl⟩
            rw [← e_z20]
            have b_z20 : 0 ≤ z20 ∧ z20 ≤ 21472688976354 := e_z20 ▸ ymulb (A := 2147483646) (B := 9999) (by omega) (by omega) (by omega) (by omega) (by decide)
            have b2_z20 : z20 ≤ 2147483646 * z8 := e_z20 ▸ bmulx (by omega) (by omega)
            have b3_z20 : z20 ≤ 9999 * a5 := e_z20 ▸ bmuly (by omega) (by omega)
            refine yG.load xak rfl (fun _ _ => rfl) (v := yR k1) rfl rfl ?_
            refine yG.getJ A_h18.1 (w_Solver_prime W H_k1) rfl rfl (fun z21 e_z21 i_z21 l_z21 u_z21 => ?_)
            refine yG.lrem rfl ⟨by omega, by omega⟩ ⟨by omega, by omega⟩ (by omega) (by omega) ?_
            obtain ⟨z22, e_z22⟩ : ∃ z : Int, z = (z20) % (z21) := ⟨_, rfl⟩
            rw [← e_z22]
            have b_z22 : 0 ≤ z22 ∧ z22 < z21 := e_z22 ▸ ⟨Int.emod_nonneg _ (by omega), Int.emod_lt_of_pos _ (by omega)⟩
            refine yG.store2 xlk2 (L' := [(5, yJ (z22)), (8, yJ (z8)), (0, yR k0), (1, yR k1), (2, yR k2), (3, yI (p3)), (4, yI (p4)), (7, yI (a7))]) rfl (fun _ _ => rfl) rfl rfl ?_
            refine yG.iinc rfl (a := a7) rfl (L' := [(7, yI (a7 + 1)), (5, yJ (z22)), (8, yJ (z8)), (0, yR k0), (1, yR k1), (2, yR k2), (3, yI (p3)), (4, yI (p4))]) rfl ?_
            refine yG.goto rfl (t := 6) rfl ?_
            exact yG.mono (yG.sub (i_6 (z22) (a7 + 1)  h18 A_h18   (by omega) (by omega) (by omega) (by omega) (by omega) (by omega) (by omega) (by omega) (by omega) (by omega)) (ySub.cons rfl (ySub.cons rfl (ySub.cons rfl (ySub.cons rfl (ySub.cons rfl (ySub.cons rfl (ySub.cons rfl (ySub.nil))))))))) (by omega)
  refine yC.of (M := (xt_X8_lay, (10, (2, (9, []))))) rfl rfl (N := 2508) (yfuel (by decide)) ?_
  show yG 89 xfts (xcall 89 xfts xpools xms (d + 1)) (xpool xp_RX8) [] xt_X8_lay (yP 2 (bQj G [(4398046511104, 256)] hp 0 2147483646 (fun _ => True))) 2508 0 [(0, yR k0), (1, yR k1), (2, yR k2), (3, yI (p3)), (4, yI (p4))] [] hp
  have i_6 := H 43
  refine yG.numl (c := 1) rfl (fun _ _ => rfl) (by decide) ?_
  refine yG.store2 xlk2 (L' := [(5, yJ (1)), (0, yR k0), (1, yR k1), (2, yR k2), (3, yI (p3)), (4, yI (p4))]) rfl (fun _ _ => rfl) rfl rfl ?_
  refine yG.num (c := 0) rfl (fun _ _ => rfl) (by decide) ?_
  refine yG.store1 xik (L' := [(7, yI (0)), (5, yJ (1)), (0, yR k0), (1, yR k1), (2, yR k2), (3, yI (p3)), (4, yI (p4))]) rfl (fun _ _ => rfl) rfl rfl ?_
  exact yG.mono (yG.sub (i_6 (1) (0)  hp A_hp   (by omega) (by omega) (by omega) (by omega) (by omega) (by omega) (by omega) (by omega) (by omega) (by omega)) (ySub.cons rfl (ySub.cons rfl (ySub.cons rfl (ySub.cons rfl (ySub.cons rfl (ySub.cons rfl (ySub.cons rfl (ySub.nil))))))))) (by omega)
theorem c_Shape_bits_2 {hp : xH} (W : bW G) (d : Nat) (hT : zTy G hp) {k0 : Nat} (H_k0 : bRo G 51 k0) {k1 : Nat} (H_k1 : bRo G 76 k1) (p2 p3 : Int) (h2l : 1 ≤ p2) (h2u : p2 ≤ 2) (h3l : (-2147483648) ≤ p3) (h3u : p3 ≤ 2147483647) : yC (xcall 89 xfts xpools xms (d + 2)) 211 [yR k0, yR k1, yI (p2), yI (p3)] hp (bQpi hp (-2147483648) 2147483647 (fun _ => True)) := by
  have A_hp : bAx G [] hp hp := bAx.rf hT
  have H : ∀ m : Nat, (∀ a4 : Int, ∀ a5 : Int, (-2147483648) ≤ a4 → (-2147483647) ≤ 0 - a4 → 0 ≤ a5 → (-20) ≤ 0 - a5 → 1 ≤ p2 → (-2) ≤ 0 - p2 → (-2147483648) ≤ p3 → (-2147483647) ≤ 0 - p3 → (-2147483646) ≤ 0 - a4 + a5 → 0 - 2 * a5 + 41 < (m : Int) → yG 89 xfts (xcall 89 xfts xpools xms (d + 1)) (xpool xp_RX8) [] xt_X8_bits (yP 1 (bQpi hp (-2147483648) 2147483647 (fun _ => True))) (32 * m) 6 [(0, yR k0), (1, yR k1), (2, yI (p2)), (3, yI (p3)), (4, yI (a4)), (5, yI (a5))] [] hp) := by
    intro m
    induction m with
    | zero =>
      intros; exfalso; omega
    | succ m ih =>
      have i_6 := ih
      clear ih
      intro a4 a5 f0 f1 f2 f3 f4 f5 f6 f7 f8 hm
      refine yG.mono (N := 32 * m + 32) ?_ (by omega)
      refine yG.load xik rfl (fun _ _ => rfl) (v := yI (a5)) rfl rfl ?_
      refine yG.load xak rfl (fun _ _ => rfl) (v := yR k0) rfl rfl ?_
      refine yG.getO A_hp.1 (w_Shape_net W H_k0) rfl rfl (fun r1 H_r1 O_r1 q_r1 => ?_)
      refine yG.getO A_hp.1 (w_Net_count W H_r1) rfl rfl (fun r2 H_r2 O_r2 q_r2 => ?_)
      refine yG.num (c := 2) rfl (fun _ _ => rfl) (by decide) ?_
      refine yG.ialdF A_hp.1 (v_Net_count W H_r2) rfl rfl (by omega) (by omega) (fun z3 e_z3 i_z3 l_z3 u_z3 => ?_)
      refine yG.icmp rfl (t := 67) rfl ⟨by omega, by omega⟩ ⟨by omega, by omega⟩ (fun c4 => ?_) (fun c4 => ?_)
      · have c4 : (a5 : Int) ≥ z3 := c4
        refine yG.load xik rfl (fun _ _ => rfl) (v := yI (a4)) rfl rfl ?_
        refine yG.ret rfl (fun _ _ => rfl) ?_
        exact (yP.int ⟨by omega, by omega⟩ ⟨⟨a4, rfl, by omega, by omega, trivial⟩, rfl⟩)
      · have c4 : (a5 : Int) < z3 := c4
        refine yG.load xik rfl (fun _ _ => rfl) (v := yI (a4)) rfl rfl ?_
        refine yG.load xik rfl (fun _ _ => rfl) (v := yI (a5)) rfl rfl ?_
        refine yG.load xik rfl (fun _ _ => rfl) (v := yI (p3)) rfl rfl ?_
        refine yG.icmp rfl (t := 57) rfl ⟨by omega, by omega⟩ ⟨by omega, by omega⟩ (fun c5 => ?_) (fun c5 => ?_)
        · have c5 : (a5 : Int) = p3 := c5
          refine yG.num (c := 0) rfl (fun _ _ => rfl) (by decide) ?_
          refine yG.iadd rfl ?_
          obtain ⟨z6, e_z6⟩ : ∃ z : Int, z = a4 + 0 := ⟨_, rfl⟩
          rw [← e_z6]
          refine yG.store1 xik (L' := [(4, yI (z6)), (0, yR k0), (1, yR k1), (2, yI (p2)), (3, yI (p3)), (5, yI (a5))]) rfl (fun _ _ => rfl) rfl rfl ?_
          refine yG.iinc rfl (a := a5) rfl (L' := [(5, yI (a5 + 1)), (4, yI (z6)), (0, yR k0), (1, yR k1), (2, yI (p2)), (3, yI (p3))]) rfl ?_
          refine yG.goto rfl (t := 6) rfl ?_
          exact yG.mono (yG.sub (i_6 (z6) (a5 + 1)     (by omega) (by omega) (by omega) (by omega) (by omega) (by omega) (by omega) (by omega) (by omega) (by omega)) (ySub.cons rfl (ySub.cons rfl (ySub.cons rfl (ySub.cons rfl (ySub.cons rfl (ySub.cons rfl (ySub.nil)))))))) (by omega)
        · have c5 : (a5 : Int) ≠ p3 := c5
          refine yG.load xak rfl (fun _ _ => rfl) (v := yR k0) rfl rfl ?_
          refine yG.load xik rfl (fun _ _ => rfl) (v := yI (a5)) rfl rfl ?_
          refine yG.load xak rfl (fun _ _ => rfl) (v := yR k1) rfl rfl ?_
          refine yG.invV (rest := [yI (a4)]) A_hp.1 (bOb (d_Shape W) H_k0) rfl rfl rfl rfl (c_Shape_isLineIn_2 W d A_hp.1 H_k0 H_k1 (a5) (by omega) (by omega)) (fun rv hp9 q9 => ?_)
          obtain ⟨⟨z7, rfl, l_z7, u_z7, R_z7⟩, e9⟩ := q9
          rw [e9]
          show yG _ _ _ _ _ _ _ _ _ _ (yI z7 :: [yI (a4)]) _
          refine yG.ifz rfl (t := 57) rfl ⟨by omega, by omega⟩ (fun c8 => ?_) (fun c8 => ?_)
          · have c8 : (z7 : Int) = 0 := c8
            refine yG.num (c := 0) rfl (fun _ _ => rfl) (by decide) ?_
            refine yG.iadd rfl ?_
            obtain ⟨z9, e_z9⟩ : ∃ z : Int, z = a4 + 0 := ⟨_, rfl⟩
            rw [← e_z9]
            refine yG.store1 xik (L' := [(4, yI (z9)), (0, yR k0), (1, yR k1), (2, yI (p2)), (3, yI (p3)), (5, yI (a5))]) rfl (fun _ _ => rfl) rfl rfl ?_
            refine yG.iinc rfl (a := a5) rfl (L' := [(5, yI (a5 + 1)), (4, yI (z9)), (0, yR k0), (1, yR k1), (2, yI (p2)), (3, yI (p3))]) rfl ?_
            refine yG.goto rfl (t := 6) rfl ?_
            exact yG.mono (yG.sub (i_6 (z9) (a5 + 1)     (by omega) (by omega) (by omega) (by omega) (by omega) (by omega) (by omega) (by omega) (by omega) (by omega)) (ySub.cons rfl (ySub.cons rfl (ySub.cons rfl (ySub.cons rfl (ySub.cons rfl (ySub.cons rfl (ySub.nil)))))))) (by omega)
          · have c8 : (z7 : Int) ≠ 0 := c8
            refine yG.load xak rfl (fun _ _ => rfl) (v := yR k0) rfl rfl ?_
            refine yG.getS9 A_hp.1 (w_Shape_net W H_k0) q_r1 rfl rfl ?_
            refine yG.num (c := 2) rfl (fun _ _ => rfl) (by decide) ?_
            refine yG.load xik rfl (fun _ _ => rfl) (v := yI (a5)) rfl rfl ?_
            refine yG.load xik rfl (fun _ _ => rfl) (v := yI (p2)) rfl rfl ?_
            refine yG.invV (rest := [yI (a4)]) A_hp.1 (bOb (d_Net W) H_r1) rfl rfl rfl rfl (c_Net_at_2z W d A_hp.1 H_r1 (a5) (p2) (by omega) (by omega) (by omega) (by omega)) (fun rv hp9 q9 => ?_)
            obtain ⟨⟨z10, rfl, l_z10, u_z10, R_z10⟩, e9⟩ := q9
            rw [e9]
            show yG _ _ _ _ _ _ _ _ _ _ (yI z10 :: [yI (a4)]) _
            refine yG.num (c := 1) rfl (fun _ _ => rfl) (by decide) ?_
            refine yG.iadd rfl ?_
            refine yG.invS (rest := [yI (a4)]) rfl rfl rfl rfl (c_Shape_bitsOf W d A_hp.1 (z10 + 1) (by omega) (by omega)) (fun rv hp9 q9 => ?_)
            obtain ⟨⟨z11, rfl, l_z11, u_z11, R_z11⟩, e9⟩ := q9
            rw [e9]
            show yG _ _ _ _ _ _ _ _ _ _ (yI z11 :: [yI (a4)]) _
            refine yG.goto rfl (t := 58) rfl ?_
            refine yG.iadd rfl ?_
            obtain ⟨z12, e_z12, l_z12, u_z12⟩ := ywI (a4 + z11)
            rw [e_z12]
            refine yG.store1 xik (L' := [(4, yI (z12)), (0, yR k0), (1, yR k1), (2, yI (p2)), (3, yI (p3)), (5, yI (a5))]) rfl (fun _ _ => rfl) rfl rfl ?_
            refine yG.iinc rfl (a := a5) rfl (L' := [(5, yI (a5 + 1)), (4, yI (z12)), (0, yR k0), (1, yR k1), (2, yI (p2)), (3, yI (p3))]) rfl ?_
            refine yG.goto rfl (t := 6) rfl ?_
            exact yG.mono (yG.sub (i_6 (z12) (a5 + 1)     (by omega) (by omega) (by omega) (by omega) (by omega) (by omega) (by omega) (by omega) (by omega) (by omega)) (ySub.cons rfl (ySub.cons rfl (ySub.cons rfl (ySub.cons rfl (ySub.cons rfl (ySub.cons rfl (ySub.nil)))))))) (by omega)
  refine yC.of (M := (xt_X8_bits, (6, (1, (9, []))))) rfl rfl (N := 1408) (yfuel (by decide)) ?_
  show yG 89 xfts (xcall 89 xfts xpools xms (d + 1)) (xpool xp_RX8) [] xt_X8_bits (yP 1 (bQpi hp (-2147483648) 2147483647 (fun _ => True))) 1408 0 [(0, yR k0), (1, yR k1), (2, yI (p2)), (3, yI (p3))] [] hp
  have i_6 := H 43
  refine yG.num (c := 0) rfl (fun _ _ => rfl) (by decide) ?_
  refine yG.store1 xik (L' := [(4, yI (0)), (0, yR k0), (1, yR k1), (2, yI (p2)), (3, yI (p3))]) rfl (fun _ _ => rfl) rfl rfl ?_
  refine yG.num (c := 0) rfl (fun _ _ => rfl) (by decide) ?_
  refine yG.store1 xik (L' := [(5, yI (0)), (4, yI (0)), (0, yR k0), (1, yR k1), (2, yI (p2)), (3, yI (p3))]) rfl (fun _ _ => rfl) rfl rfl ?_
  exact yG.mono (yG.sub (i_6 (0) (0)     (by omega) (by omega) (by omega) (by omega) (by omega) (by omega) (by omega) (by omega) (by omega) (by omega)) (ySub.cons rfl (ySub.cons rfl (ySub.cons rfl (ySub.cons rfl (ySub.cons rfl (ySub.cons rfl (ySub.nil)))))))) (by omega)
theorem c_Shape_lay_3 {hp : xH} (W : bW G) (d : Nat) (hT : zTy G hp) {k0 : Nat} (H_k0 : bRo G 51 k0) {k1 : Nat} (H_k1 : bRo G 40 k1) {k2 : Nat} (H_k2 : bRo G 55 k2) (p3 p4 : Int) (h3l : 1 ≤ p3) (h3u : p3 ≤ 2) (h4l : (-2147483648) ≤ p4) (h4u : p4 ≤ 2147483647) : yC (xcall 89 xfts xpools xms (d + 2)) 220 [yR k0, yR k1, yR k2, yI (p3), yI (p4)] hp (bQj G [(4398046511104, 256)] hp 0 2147483646 (fun _ => True)) := by
  have A_hp : bAx G [(4398046511104, 256)] hp hp := bAx.rf hT
  have H : ∀ m : Nat, (∀ a5 : Int, ∀ a7 : Int, ∀ hq, bAx G [(4398046511104, 256)] hp hq → 0 ≤ a5 → (-2147483646) ≤ 0 - a5 → 0 ≤ a7 → (-20) ≤ 0 - a7 → 1 ≤ p3 → (-2) ≤ 0 - p3 → (-2147483648) ≤ p4 → (-2147483647) ≤ 0 - p4 → (-2147483645) ≤ 0 - a5 + a7 → 0 - 2 * a7 + 41 < (m : Int) → yG 89 xfts (xcall 89 xfts xpools xms (d + 1)) (xpool xp_RX8) [] xt_X8_lay (yP 2 (bQj G [(4398046511104, 256)] hp 0 2147483646 (fun _ => True))) (57 * m) 6 [(0, yR k0), (1, yR k1), (2, yR k2), (3, yI (p3)), (4, yI (p4)), (5, yJ (a5)), (7, yI (a7))] [] hq) := by
    intro m
    induction m with
    | zero =>
      intros; exfalso; omega
    | succ m ih =>
      have i_6 := ih
      clear ih
      intro a5 a7 hq A_hq f0 f1 f2 f3 f4 f5 f6 f7 f8 hm
      refine yG.mono (N := 57 * m + 57) ?_ (by omega)
      refine yG.load xik rfl (fun _ _ => rfl) (v := yI (a7)) rfl rfl ?_
      refine yG.load xak rfl (fun _ _ => rfl) (v := yR k0) rfl rfl ?_
      refine yG.getO A_hq.1 (w_Shape_net W H_k0) rfl rfl (fun r1 H_r1 O_r1 q_r1 => ?_)
      refine yG.getO A_hq.1 (w_Net_count W H_r1) rfl rfl (fun r2 H_r2 O_r2 q_r2 => ?_)
      refine yG.num (c := 2) rfl (fun _ _ => rfl) (by decide) ?_
      refine yG.ialdF A_hq.1 (v_Net_count W H_r2) rfl rfl (by omega) (by omega) (fun z3 e_z3 i_z3 l_z3 u_z3 => ?_)
      refine yG.icmp rfl (t := 107) rfl ⟨by omega, by omega⟩ ⟨by omega, by omega⟩ (fun c4 => ?_) (fun c4 => ?_)
      · have c4 : (a7 : Int) ≥ z3 := c4
        refine yG.load xlk2 rfl (fun _ _ => rfl) (v := yJ (a5)) rfl rfl ?_
        refine yG.ret rfl (fun _ _ => rfl) ?_
        exact (yP.long ⟨by omega, by omega⟩ ⟨⟨a5, rfl, by omega, by omega, trivial⟩, A_hq⟩)
      · have c4 : (a7 : Int) < z3 := c4
        refine yG.load xik rfl (fun _ _ => rfl) (v := yI (a7)) rfl rfl ?_
        refine yG.load xik rfl (fun _ _ => rfl) (v := yI (p4)) rfl rfl ?_
        refine yG.icmp rfl (t := 101) rfl ⟨by omega, by omega⟩ ⟨by omega, by omega⟩ (fun c5 => ?_) (fun c5 => ?_)
        · have c5 : (a7 : Int) = p4 := c5
          refine yG.iinc rfl (a := a7) rfl (L' := [(7, yI (a7 + 1)), (0, yR k0), (1, yR k1), (2, yR k2), (3, yI (p3)), (4, yI (p4)), (5, yJ (a5))]) rfl ?_
          refine yG.goto rfl (t := 6) rfl ?_
          exact yG.mono (yG.sub (i_6 (a5) (a7 + 1)  hq A_hq   (by omega) (by omega) (by omega) (by omega) (by omega) (by omega) (by omega) (by omega) (by omega) (by omega)) (ySub.cons rfl (ySub.cons rfl (ySub.cons rfl (ySub.cons rfl (ySub.cons rfl (ySub.cons rfl (ySub.cons rfl (ySub.nil))))))))) (by omega)
        · have c5 : (a7 : Int) ≠ p4 := c5
          refine yG.load xak rfl (fun _ _ => rfl) (v := yR k0) rfl rfl ?_
          refine yG.load xik rfl (fun _ _ => rfl) (v := yI (a7)) rfl rfl ?_
          refine yG.load xak rfl (fun _ _ => rfl) (v := yR k2) rfl rfl ?_
          refine yG.invV (rest := []) A_hq.1 (bOb (d_Shape W) H_k0) rfl rfl rfl rfl (c_Shape_isLineIn_3 W d A_hq.1 H_k0 H_k2 (a7) (by omega) (by omega)) (fun rv hp9 q9 => ?_)
          obtain ⟨⟨z6, rfl, l_z6, u_z6, R_z6⟩, e9⟩ := q9
          rw [e9]
          show yG _ _ _ _ _ _ _ _ _ _ (yI z6 :: []) _
          refine yG.ifz rfl (t := 101) rfl ⟨by omega, by omega⟩ (fun c7 => ?_) (fun c7 => ?_)
          · have c7 : (z6 : Int) = 0 := c7
            refine yG.iinc rfl (a := a7) rfl (L' := [(7, yI (a7 + 1)), (0, yR k0), (1, yR k1), (2, yR k2), (3, yI (p3)), (4, yI (p4)), (5, yJ (a5))]) rfl ?_
            refine yG.goto rfl (t := 6) rfl ?_
            exact yG.mono (yG.sub (i_6 (a5) (a7 + 1)  hq A_hq   (by omega) (by omega) (by omega) (by omega) (by omega) (by omega) (by omega) (by omega) (by omega) (by omega)) (ySub.cons rfl (ySub.cons rfl (ySub.cons rfl (ySub.cons rfl (ySub.cons rfl (ySub.cons rfl (ySub.cons rfl (ySub.nil))))))))) (by omega)
          · have c7 : (z6 : Int) ≠ 0 := c7
            refine yG.load xak rfl (fun _ _ => rfl) (v := yR k0) rfl rfl ?_
            refine yG.getS9 A_hq.1 (w_Shape_net W H_k0) q_r1 rfl rfl ?_
            refine yG.num (c := 2) rfl (fun _ _ => rfl) (by decide) ?_
            refine yG.load xik rfl (fun _ _ => rfl) (v := yI (a7)) rfl rfl ?_
            refine yG.load xik rfl (fun _ _ => rfl) (v := yI (p3)) rfl rfl ?_
            refine yG.invV (rest := []) A_hq.1 (bOb (d_Net W) H_r1) rfl rfl rfl rfl (c_Net_at_2z W d A_hq.1 H_r1 (a7) (p3) (by omega) (by omega) (by omega) (by omega)) (fun rv hp9 q9 => ?_)
            obtain ⟨⟨z8, rfl, l_z8, u_z8, R_z8⟩, e9⟩ := q9
            rw [e9]
            show yG _ _ _ _ _ _ _ _ _ _ (yI z8 :: []) _
            refine yG.i2l rfl ⟨by omega, by omega⟩ ?_
            refine yG.store2 xlk2 (L' := [(8, yJ (z8)), (0, yR k0), (1, yR k1), (2, yR k2), (3, yI (p3)), (4, yI (p4)), (5, yJ (a5)), (7, yI (a7))]) rfl (fun _ _ => rfl) rfl rfl ?_
            refine yG.load xak rfl (fun _ _ => rfl) (v := yR k1) rfl rfl ?_
            refine yG.load xak rfl (fun _ _ => rfl) (v := yR k0) rfl rfl ?_
            refine yG.getO A_hq.1 (w_Shape_row W H_k0) rfl rfl (fun r9 H_r9 O_r9 q_r9 => ?_)
            refine yG.load xak rfl (fun _ _ => rfl) (v := yR k0) rfl rfl ?_
            refine yG.getO A_hq.1 (w_Shape_ends W H_k0) rfl rfl (fun r10 H_r10 O_r10 q_r10 => ?_)
            refine yG.load xik rfl (fun _ _ => rfl) (v := yI (a7)) rfl rfl ?_
            refine yG.aaldO (r := 57) A_hq.1 (v_Shape_ends W H_r10) rfl rfl rfl (by omega) (by omega) (fun r11 H_r11 q_r11 => ?_)
            refine yG.num (c := 0) rfl (fun _ _ => rfl) (by decide) ?_
            refine yG.iald A_hq.1 (v_Shape_endss W H_r11) rfl (by omega) (by omega) (fun z12 e_z12 i_z12 l_z12 u_z12 => ?_)
            refine yG.iald A_hq.1 (v_Shape_row W H_r9) rfl (by omega) (by omega) (fun z13 e_z13 i_z13 l_z13 u_z13 => ?_)
            refine yG.load xak rfl (fun _ _ => rfl) (v := yR k0) rfl rfl ?_
            refine yG.getS9 A_hq.1 (w_Shape_row W H_k0) q_r9 rfl rfl ?_
            refine yG.load xak rfl (fun _ _ => rfl) (v := yR k0) rfl rfl ?_
            refine yG.getS9 A_hq.1 (w_Shape_ends W H_k0) q_r10 rfl rfl ?_
            refine yG.load xik rfl (fun _ _ => rfl) (v := yI (a7)) rfl rfl ?_
            refine yG.aaldO (r := 57) A_hq.1 (v_Shape_ends W H_r10) rfl rfl rfl (by omega) (by omega) (fun r14 H_r14 q_r14 => ?_)
            have s_r14 : r14 = r11 := by have e9 := q_r14.symm.trans q_r11; cases e9; rfl
            rw [s_r14]
            refine yG.num (c := 1) rfl (fun _ _ => rfl) (by decide) ?_
            refine yG.iald A_hq.1 (v_Shape_endss W H_r11) rfl (by omega) (by omega) (fun z15 e_z15 i_z15 l_z15 u_z15 => ?_)
            refine yG.iald A_hq.1 (v_Shape_row W H_r9) rfl (by omega) (by omega) (fun z16 e_z16 i_z16 l_z16 u_z16 => ?_)
            refine yG.load xak rfl (fun _ _ => rfl) (v := yR k1) rfl rfl ?_
            refine yG.load xlk2 rfl (fun _ _ => rfl) (v := yJ (z8)) rfl rfl ?_
            refine yG.invV (rest := [yI (z16), yI (z13), yR k1]) A_hq.1 (bOb (d_Solver W) H_k1) rfl rfl rfl rfl (c_Solver_inverse W d A_hq.1 H_k1 (z8) (by omega) (by omega)) (fun rv hp9 q9 => ?_)
            obtain ⟨⟨z17, rfl, l_z17, u_z17, R_z17⟩, e9⟩ := q9
            rw [e9]
            show yG _ _ _ _ _ _ _ _ _ _ (yJ z17 :: [yI (z16), yI (z13), yR k1]) _
            refine yG.invV (rest := []) A_hq.1 (bOb (d_Solver W) H_k1) rfl rfl rfl rfl (c_Solver_edge W d A_hq.1 H_k1 (z13) (z16) (z17) (by omega) (by omega) (by omega) (by omega) (by omega) (by omega)) (fun rv h18 q9 => ?_)
            obtain ⟨⟨rfl, R_z19⟩, B_h18⟩ := q9
            have A_h18 := A_hq.tr B_h18 (by decide)
            have qq1 : zsl h18 k0 0 = yR r1 := (B_h18.sl H_k0 (by decide)).trans q_r1
            have qq2 : zsl h18 k0 3 = yR r9 := (B_h18.sl H_k0 (by decide)).trans q_r9
            have qq3 : zsl h18 k0 5 = yR r10 := (B_h18.sl H_k0 (by decide)).trans q_r10
            have qq4 : zsl h18 r10 (a7 : Int).toNat = yR r11 := (B_h18.sl H_r10 (bNo_ok (by decide) _)).trans q_r11
            show yG _ _ _ _ _ _ _ _ _ _ [] _
            refine yG.load xlk2 rfl (fun _ _ => rfl) (v := yJ (a5)) rfl rfl ?_
            refine yG.load xlk2 rfl (fun _ _ => rfl) (v := yJ (z8)) rfl rfl ?_
            refine yG.lmul rfl ?_
            obtain ⟨z20, e_z20⟩ : ∃ z : Int, z = a5 * z8 := ⟨_, rfl⟩
            rw [← e_z20]
            have b_z20 : 0 ≤ z20 ∧ z20 ≤ 21472688976354 := e_z20 ▸ ymulb (A := 2147483646) (B := 9999) (by omega) (by omega) (by omega) (by omega) (by decide)
            have b2_z20 : z20 ≤ 2147483646 * z8 := e_z20 ▸ bmulx (by omega) (by omega)
            have b3_z20 : z20 ≤ 9999 * a5 := e_z20 ▸ bmuly (by omega) (by omega)
            refine yG.load xak rfl (fun _ _ => rfl) (v := yR k1) rfl rfl ?_
            refine yG.getJ A_h18.1 (w_Solver_prime W H_k1) rfl rfl (fun z21 e_z21 i_z21 l_z21 u_z21 => ?_)
            refine yG.lrem rfl ⟨by omega, by omega⟩ ⟨by omega, by omega⟩ (by omega) (by omega) ?_
            obtain ⟨z22, e_z22⟩ : ∃ z : Int, z = (z20) % (z21) := ⟨_, rfl⟩
            rw [← e_z22]
            have b_z22 : 0 ≤ z22 ∧ z22 < z21 := e_z22 ▸ ⟨Int.emod_nonneg _ (by omega), Int.emod_lt_of_pos _ (by omega)⟩
            refine yG.store2 xlk2 (L' := [(5, yJ (z22)), (8, yJ (z8)), (0, yR k0), (1, yR k1), (2, yR k2), (3, yI (p3)), (4, yI (p4)), (7, yI (a7))]) rfl (fun _ _ => rfl) rfl rfl ?_
            refine yG.iinc rfl (a := a7) rfl (L' := [(7, yI (a7 + 1)), (5, yJ (z22)), (8, yJ (z8)), (0, yR k0), (1, yR k1), (2, yR k2), (3, yI (p3)), (4, yI (p4))]) rfl ?_
            refine yG.goto rfl (t := 6) rfl ?_
            exact yG.mono (yG.sub (i_6 (z22) (a7 + 1)  h18 A_h18   (by omega) (by omega) (by omega) (by omega) (by omega) (by omega) (by omega) (by omega) (by omega) (by omega)) (ySub.cons rfl (ySub.cons rfl (ySub.cons rfl (ySub.cons rfl (ySub.cons rfl (ySub.cons rfl (ySub.cons rfl (ySub.nil))))))))) (by omega)
  refine yC.of (M := (xt_X8_lay, (10, (2, (9, []))))) rfl rfl (N := 2508) (yfuel (by decide)) ?_
  show yG 89 xfts (xcall 89 xfts xpools xms (d + 1)) (xpool xp_RX8) [] xt_X8_lay (yP 2 (bQj G [(4398046511104, 256)] hp 0 2147483646 (fun _ => True))) 2508 0 [(0, yR k0), (1, yR k1), (2, yR k2), (3, yI (p3)), (4, yI (p4))] [] hp
  have i_6 := H 43
  refine yG.numl (c := 1) rfl (fun _ _ => rfl) (by decide) ?_
  refine yG.store2 xlk2 (L' := [(5, yJ (1)), (0, yR k0), (1, yR k1), (2, yR k2), (3, yI (p3)), (4, yI (p4))]) rfl (fun _ _ => rfl) rfl rfl ?_
  refine yG.num (c := 0) rfl (fun _ _ => rfl) (by decide) ?_
  refine yG.store1 xik (L' := [(7, yI (0)), (5, yJ (1)), (0, yR k0), (1, yR k1), (2, yR k2), (3, yI (p3)), (4, yI (p4))]) rfl (fun _ _ => rfl) rfl rfl ?_
  exact yG.mono (yG.sub (i_6 (1) (0)  hp A_hp   (by omega) (by omega) (by omega) (by omega) (by omega) (by omega) (by omega) (by omega) (by omega) (by omega)) (ySub.cons rfl (ySub.cons rfl (ySub.cons rfl (ySub.cons rfl (ySub.cons rfl (ySub.cons rfl (ySub.cons rfl (ySub.nil))))))))) (by omega)
theorem c_Shape_bits_3 {hp : xH} (W : bW G) (d : Nat) (hT : zTy G hp) {k0 : Nat} (H_k0 : bRo G 51 k0) {k1 : Nat} (H_k1 : bRo G 55 k1) (p2 p3 : Int) (h2l : 1 ≤ p2) (h2u : p2 ≤ 2) (h3l : (-2147483648) ≤ p3) (h3u : p3 ≤ 2147483647) : yC (xcall 89 xfts xpools xms (d + 2)) 211 [yR k0, yR k1, yI (p2), yI (p3)] hp (bQpi hp (-2147483648) 2147483647 (fun _ => True)) := by
  have A_hp : bAx G [] hp hp := bAx.rf hT
  have H : ∀ m : Nat, (∀ a4 : Int, ∀ a5 : Int, (-2147483648) ≤ a4 → (-2147483647) ≤ 0 - a4 → 0 ≤ a5 → (-20) ≤ 0 - a5 → 1 ≤ p2 → (-2) ≤ 0 - p2 → (-2147483648) ≤ p3 → (-2147483647) ≤ 0 - p3 → (-2147483646) ≤ 0 - a4 + a5 → 0 - 2 * a5 + 41 < (m : Int) → yG 89 xfts (xcall 89 xfts xpools xms (d + 1)) (xpool xp_RX8) [] xt_X8_bits (yP 1 (bQpi hp (-2147483648) 2147483647 (fun _ => True))) (32 * m) 6 [(0, yR k0), (1, yR k1), (2, yI (p2)), (3, yI (p3)), (4, yI (a4)), (5, yI (a5))] [] hp) := by
    intro m
    induction m with
    | zero =>
      intros; exfalso; omega
    | succ m ih =>
      have i_6 := ih
      clear ih
      intro a4 a5 f0 f1 f2 f3 f4 f5 f6 f7 f8 hm
      refine yG.mono (N := 32 * m + 32) ?_ (by omega)
      refine yG.load xik rfl (fun _ _ => rfl) (v := yI (a5)) rfl rfl ?_
      refine yG.load xak rfl (fun _ _ => rfl) (v := yR k0) rfl rfl ?_
      refine yG.getO A_hp.1 (w_Shape_net W H_k0) rfl rfl (fun r1 H_r1 O_r1 q_r1 => ?_)
      refine yG.getO A_hp.1 (w_Net_count W H_r1) rfl rfl (fun r2 H_r2 O_r2 q_r2 => ?_)
      refine yG.num (c := 2) rfl (fun _ _ => rfl) (by decide) ?_
      refine yG.ialdF A_hp.1 (v_Net_count W H_r2) rfl rfl (by omega) (by omega) (fun z3 e_z3 i_z3 l_z3 u_z3 => ?_)
      refine yG.icmp rfl (t := 67) rfl ⟨by omega, by omega⟩ ⟨by omega, by omega⟩ (fun c4 => ?_) (fun c4 => ?_)
      · have c4 : (a5 : Int) ≥ z3 := c4
        refine yG.load xik rfl (fun _ _ => rfl) (v := yI (a4)) rfl rfl ?_
        refine yG.ret rfl (fun _ _ => rfl) ?_
        exact (yP.int ⟨by omega, by omega⟩ ⟨⟨a4, rfl, by omega, by omega, trivial⟩, rfl⟩)
      · have c4 : (a5 : Int) < z3 := c4
        refine yG.load xik rfl (fun _ _ => rfl) (v := yI (a4)) rfl rfl ?_
        refine yG.load xik rfl (fun _ _ => rfl) (v := yI (a5)) rfl rfl ?_
        refine yG.load xik rfl (fun _ _ => rfl) (v := yI (p3)) rfl rfl ?_
        refine yG.icmp rfl (t := 57) rfl ⟨by omega, by omega⟩ ⟨by omega, by omega⟩ (fun c5 => ?_) (fun c5 => ?_)
        · have c5 : (a5 : Int) = p3 := c5
          refine yG.num (c := 0) rfl (fun _ _ => rfl) (by decide) ?_
          refine yG.iadd rfl ?_
          obtain ⟨z6, e_z6⟩ : ∃ z : Int, z = a4 + 0 := ⟨_, rfl⟩
          rw [← e_z6]
          refine yG.store1 xik (L' := [(4, yI (z6)), (0, yR k0), (1, yR k1), (2, yI (p2)), (3, yI (p3)), (5, yI (a5))]) rfl (fun _ _ => rfl) rfl rfl ?_
          refine yG.iinc rfl (a := a5) rfl (L' := [(5, yI (a5 + 1)), (4, yI (z6)), (0, yR k0), (1, yR k1), (2, yI (p2)), (3, yI (p3))]) rfl ?_
          refine yG.goto rfl (t := 6) rfl ?_
          exact yG.mono (yG.sub (i_6 (z6) (a5 + 1)     (by omega) (by omega) (by omega) (by omega) (by omega) (by omega) (by omega) (by omega) (by omega) (by omega)) (ySub.cons rfl (ySub.cons rfl (ySub.cons rfl (ySub.cons rfl (ySub.cons rfl (ySub.cons rfl (ySub.nil)))))))) (by omega)
        · have c5 : (a5 : Int) ≠ p3 := c5
          refine yG.load xak rfl (fun _ _ => rfl) (v := yR k0) rfl rfl ?_
          refine yG.load xik rfl (fun _ _ => rfl) (v := yI (a5)) rfl rfl ?_
          refine yG.load xak rfl (fun _ _ => rfl) (v := yR k1) rfl rfl ?_
          refine yG.invV (rest := [yI (a4)]) A_hp.1 (bOb (d_Shape W) H_k0) rfl rfl rfl rfl (c_Shape_isLineIn_3 W d A_hp.1 H_k0 H_k1 (a5) (by omega) (by omega)) (fun rv hp9 q9 => ?_)
          obtain ⟨⟨z7, rfl, l_z7, u_z7, R_z7⟩, e9⟩ := q9
          rw [e9]
          show yG _ _ _ _ _ _ _ _ _ _ (yI z7 :: [yI (a4)]) _
          refine yG.ifz rfl (t := 57) rfl ⟨by omega, by omega⟩ (fun c8 => ?_) (fun c8 => ?_)
          · have c8 : (z7 : Int) = 0 := c8
            refine yG.num (c := 0) rfl (fun _ _ => rfl) (by decide) ?_
            refine yG.iadd rfl ?_
            obtain ⟨z9, e_z9⟩ : ∃ z : Int, z = a4 + 0 := ⟨_, rfl⟩
            rw [← e_z9]
            refine yG.store1 xik (L' := [(4, yI (z9)), (0, yR k0), (1, yR k1), (2, yI (p2)), (3, yI (p3)), (5, yI (a5))]) rfl (fun _ _ => rfl) rfl rfl ?_
            refine yG.iinc rfl (a := a5) rfl (L' := [(5, yI (a5 + 1)), (4, yI (z9)), (0, yR k0), (1, yR k1), (2, yI (p2)), (3, yI (p3))]) rfl ?_
            refine yG.goto rfl (t := 6) rfl ?_
            exact yG.mono (yG.sub (i_6 (z9) (a5 + 1)     (by omega) (by omega) (by omega) (by omega) (by omega) (by omega) (by omega) (by omega) (by omega) (by omega)) (ySub.cons rfl (ySub.cons rfl (ySub.cons rfl (ySub.cons rfl (ySub.cons rfl (ySub.cons rfl (ySub.nil)))))))) (by omega)
          · have c8 : (z7 : Int) ≠ 0 := c8
            refine yG.load xak rfl (fun _ _ => rfl) (v := yR k0) rfl rfl ?_
            refine yG.getS9 A_hp.1 (w_Shape_net W H_k0) q_r1 rfl rfl ?_
            refine yG.num (c := 2) rfl (fun _ _ => rfl) (by decide) ?_
            refine yG.load xik rfl (fun _ _ => rfl) (v := yI (a5)) rfl rfl ?_
            refine yG.load xik rfl (fun _ _ => rfl) (v := yI (p2)) rfl rfl ?_
            refine yG.invV (rest := [yI (a4)]) A_hp.1 (bOb (d_Net W) H_r1) rfl rfl rfl rfl (c_Net_at_2z W d A_hp.1 H_r1 (a5) (p2) (by omega) (by omega) (by omega) (by omega)) (fun rv hp9 q9 => ?_)
            obtain ⟨⟨z10, rfl, l_z10, u_z10, R_z10⟩, e9⟩ := q9
            rw [e9]
            show yG _ _ _ _ _ _ _ _ _ _ (yI z10 :: [yI (a4)]) _
            refine yG.num (c := 1) rfl (fun _ _ => rfl) (by decide) ?_
            refine yG.iadd rfl ?_
            refine yG.invS (rest := [yI (a4)]) rfl rfl rfl rfl (c_Shape_bitsOf W d A_hp.1 (z10 + 1) (by omega) (by omega)) (fun rv hp9 q9 => ?_)
            obtain ⟨⟨z11, rfl, l_z11, u_z11, R_z11⟩, e9⟩ := q9
            rw [e9]
            show yG _ _ _ _ _ _ _ _ _ _ (yI z11 :: [yI (a4)]) _
            refine yG.goto rfl (t := 58) rfl ?_
            refine yG.iadd rfl ?_
            obtain ⟨z12, e_z12, l_z12, u_z12⟩ := ywI (a4 + z11)
            rw [e_z12]
            refine yG.store1 xik (L' := [(4, yI (z12)), (0, yR k0), (1, yR k1), (2, yI (p2)), (3, yI (p3)), (5, yI (a5))]) rfl (fun _ _ => rfl) rfl rfl ?_
            refine yG.iinc rfl (a := a5) rfl (L' := [(5, yI (a5 + 1)), (4, yI (z12)), (0, yR k0), (1, yR k1), (2, yI (p2)), (3, yI (p3))]) rfl ?_
            refine yG.goto rfl (t := 6) rfl ?_
            exact yG.mono (yG.sub (i_6 (z12) (a5 + 1)     (by omega) (by omega) (by omega) (by omega) (by omega) (by omega) (by omega) (by omega) (by omega) (by omega)) (ySub.cons rfl (ySub.cons rfl (ySub.cons rfl (ySub.cons rfl (ySub.cons rfl (ySub.cons rfl (ySub.nil)))))))) (by omega)
  refine yC.of (M := (xt_X8_bits, (6, (1, (9, []))))) rfl rfl (N := 1408) (yfuel (by decide)) ?_
  show yG 89 xfts (xcall 89 xfts xpools xms (d + 1)) (xpool xp_RX8) [] xt_X8_bits (yP 1 (bQpi hp (-2147483648) 2147483647 (fun _ => True))) 1408 0 [(0, yR k0), (1, yR k1), (2, yI (p2)), (3, yI (p3))] [] hp
  have i_6 := H 43
  refine yG.num (c := 0) rfl (fun _ _ => rfl) (by decide) ?_
  refine yG.store1 xik (L' := [(4, yI (0)), (0, yR k0), (1, yR k1), (2, yI (p2)), (3, yI (p3))]) rfl (fun _ _ => rfl) rfl rfl ?_
  refine yG.num (c := 0) rfl (fun _ _ => rfl) (by decide) ?_
  refine yG.store1 xik (L' := [(5, yI (0)), (4, yI (0)), (0, yR k0), (1, yR k1), (2, yI (p2)), (3, yI (p3))]) rfl (fun _ _ => rfl) rfl rfl ?_
  exact yG.mono (yG.sub (i_6 (0) (0)     (by omega) (by omega) (by omega) (by omega) (by omega) (by omega) (by omega) (by omega) (by omega) (by omega)) (ySub.cons rfl (ySub.cons rfl (ySub.cons rfl (ySub.cons rfl (ySub.cons rfl (ySub.cons rfl (ySub.nil)))))))) (by omega)
end BShape
