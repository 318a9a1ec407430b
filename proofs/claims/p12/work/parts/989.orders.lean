/-! ===== the class: rules that hold, orders, rows of switchings, printed by a program ===== -/
section BOrders
variable {G : zW}
theorem c_Rules_firstAgainst_s1 {hp : xH} (W : bW G) (d : Nat) (hT : zTy G hp) (M_bCd : bCd G hp) {k0 : Nat} (H_k0 : bRo G 107 k0) {k3 : Nat} (H_k3 : bRo G 115 k3) {k4 : Nat} (H_k4 : bRo G 115 k4) {n1 : Nat} (H_n1 : bRo G 108 n1) (Q_n1 : zsl hp k0 1 = yR n1) (p1 p2 : Int) (h1l : 0 ≤ p1) (h1u : p1 ≤ 1) (h2l : 0 ≤ p2) (h2u : p2 ≤ 23) : yC (xcall 89 xfts xpools xms (d + 5)) 191 [yR k0, yI (p1), yI (p2), yR k3, yR k4] hp (bQpi hp (-1) 2147483646 (fun _ => True)) := by
  have A_hp : bAx G [] hp hp := bAx.rf hT
  have H : ∀ m : Nat, (∀ a5 : Int, ∀ a6 : Int, ∀ gg0 : Int, ys hp k0 6 = gg0 → 0 ≤ a5 → (-2046) ≤ 0 - a5 → 0 ≤ a6 → (-2147483647) ≤ 0 - a6 → (-2147483648) ≤ gg0 → (-2147483647) ≤ 0 - gg0 → 0 ≤ p1 → (-1) ≤ 0 - p1 → 0 ≤ p2 → (-23) ≤ 0 - p2 → (-2045) ≤ 0 - a5 + a6 → (-2147483648) ≤ 0 - a5 + gg0 → (-2147483648) ≤ 0 - a6 + gg0 → ((bStt (ys hp n1) (a6 : Int).toNat : Nat) : Int) = a5 → 0 - 2 * a6 + 4294967295 < (m : Int) → yG 89 xfts (xcall 89 xfts xpools xms (d + 4)) (xpool xp_RX7) [] xt_X7_firstAgainst (yP 1 (bQpi hp (-1) 2147483646 (fun _ => True))) (37 * m) 6 [(0, yR k0), (1, yI (p1)), (2, yI (p2)), (3, yR k3), (4, yR k4), (5, yI (a5)), (6, yI (a6))] [] hp) := by
    intro m
    induction m with
    | zero =>
      intros; exfalso; omega
    | succ m ih =>
      have i_6 := ih
      clear ih
      intro a5 a6 gg0 E_0 f0 f1 f2 f3 f4 f5 f6 f7 f8 f9 f10 f11 f12 X_6 hm
      refine yG.mono (N := 37 * m + 37) ?_ (by omega)
      obtain ⟨-, -, g_0l, g_0u⟩ := (w_Rules_count W H_k0).int A_hp.1
      refine yG.load xik rfl (fun _ _ => rfl) (v := yI (a6)) rfl rfl ?_
      refine yG.load xak rfl (fun _ _ => rfl) (v := yR k0) rfl rfl ?_
      refine yG.getI A_hp.1 (w_Rules_count W H_k0) rfl rfl (fun z1 e_z1 i_z1 l_z1 u_z1 => ?_)
      rw [show (z1 : Int) = gg0 by omega]
      refine yG.icmp rfl (t := 77) rfl ⟨by omega, by omega⟩ ⟨by omega, by omega⟩ (fun c2 => ?_) (fun c2 => ?_)
      · have c2 : (a6 : Int) ≥ gg0 := c2
        refine yG.num (c := -1) rfl (fun _ _ => rfl) (by decide) ?_
        refine yG.ret rfl (fun _ _ => rfl) ?_
        exact (yP.int ⟨by omega, by omega⟩ ⟨⟨(-1), rfl, by omega, by omega, trivial⟩, rfl⟩)
      · have c2 : (a6 : Int) < gg0 := c2
        refine yG.load xak rfl (fun _ _ => rfl) (v := yR k0) rfl rfl ?_
        refine yG.getS9 A_hp.1 (w_Rules_code W H_k0) Q_n1 rfl rfl ?_
        refine yG.load xik rfl (fun _ _ => rfl) (v := yI (a5)) rfl rfl ?_
        refine yG.num (c := 1) rfl (fun _ _ => rfl) (by decide) ?_
        refine yG.iadd rfl ?_
        refine yG.iald A_hp.1 (v_Rules_code W H_n1) rfl (by omega) (by omega) (fun z3 e_z3 i_z3 l_z3 u_z3 => ?_)
        refine yG.store1 xik (L' := [(7, yI (z3)), (0, yR k0), (1, yI (p1)), (2, yI (p2)), (3, yR k3), (4, yR k4), (5, yI (a5)), (6, yI (a6))]) rfl (fun _ _ => rfl) rfl rfl ?_
        refine yG.load xak rfl (fun _ _ => rfl) (v := yR k0) rfl rfl ?_
        refine yG.getS9 A_hp.1 (w_Rules_code W H_k0) Q_n1 rfl rfl ?_
        refine yG.load xik rfl (fun _ _ => rfl) (v := yI (a5)) rfl rfl ?_
        refine yG.iald A_hp.1 (v_Rules_code W H_n1) rfl (by omega) (by omega) (fun z4 e_z4 i_z4 l_z4 u_z4 => ?_)
        refine yG.load xik rfl (fun _ _ => rfl) (v := yI (p1)) rfl rfl ?_
        refine yG.icmp rfl (t := 57) rfl ⟨by omega, by omega⟩ ⟨by omega, by omega⟩ (fun c5 => ?_) (fun c5 => ?_)
        · have c5 : (z4 : Int) ≠ p1 := c5
          refine yG.num (c := 0) rfl (fun _ _ => rfl) (by decide) ?_
          refine yG.load xik rfl (fun _ _ => rfl) (v := yI (z3)) rfl rfl ?_
          refine yG.num (c := 2046) rfl (fun _ _ => rfl) (by decide) ?_
          refine yG.invS (rest := [yI (0)]) rfl rfl rfl rfl (c_J9_minI W (d + 3) A_hp.1 (z3) (2046) (by omega) (by omega) (by omega) (by omega)) (fun rv hp9 q9 => ?_)
          obtain ⟨⟨z6, rfl, l_z6, u_z6, R_z6⟩, e9⟩ := q9
          rw [e9]
          show yG _ _ _ _ _ _ _ _ _ _ (yI z6 :: [yI (0)]) _
          refine yG.invS (rest := []) rfl rfl rfl rfl (c_J9_maxI W (d + 3) A_hp.1 (0) (z6) (by omega) (by omega) (by omega) (by omega)) (fun rv hp9 q9 => ?_)
          obtain ⟨⟨z7, rfl, l_z7, u_z7, R_z7⟩, e9⟩ := q9
          rw [e9]
          show yG _ _ _ _ _ _ _ _ _ _ (yI z7 :: []) _
          refine yG.store1 xik (L' := [(5, yI (z7)), (7, yI (z3)), (0, yR k0), (1, yI (p1)), (2, yI (p2)), (3, yR k3), (4, yR k4), (6, yI (a6))]) rfl (fun _ _ => rfl) rfl rfl ?_
          refine yG.iinc rfl (a := a6) rfl (L' := [(6, yI (a6 + 1)), (5, yI (z7)), (7, yI (z3)), (0, yR k0), (1, yI (p1)), (2, yI (p2)), (3, yR k3), (4, yR k4)]) rfl ?_
          refine yG.goto rfl (t := 6) rfl ?_
          have c2 : bStt (ys hp n1) (a6 : Int).toNat = (a5 : Int).toNat := by omega
          have c3 : ((bStt (ys hp n1) (a6 + 1 : Int).toNat : Nat) : Int) = z7 := by
            rw [show (a6 + 1 : Int).toNat = (a6 : Int).toNat + 1 by omega]
            show (((max 0 (min (ys hp n1 (bStt (ys hp n1) (a6 : Int).toNat + 1)) 2046)).toNat : Nat) : Int) = z7
            rw [c2, show (a5 : Int).toNat + 1 = (a5 + 1 : Int).toNat by omega]
            omega
          exact yG.mono (yG.sub (i_6 (z7) (a6 + 1) (ys hp k0 6)   rfl (by omega) (by omega) (by omega) (by omega) (by omega) (by omega) (by omega) (by omega) (by omega) (by omega) (by omega) (by omega) (by omega) c3 (by omega)) (ySub.cons rfl (ySub.cons rfl (ySub.cons rfl (ySub.cons rfl (ySub.cons rfl (ySub.cons rfl (ySub.cons rfl (ySub.nil))))))))) (by omega)
        · have c5 : (z4 : Int) = p1 := c5
          refine yG.load xak rfl (fun _ _ => rfl) (v := yR k0) rfl rfl ?_
          refine yG.load xik rfl (fun _ _ => rfl) (v := yI (a5)) rfl rfl ?_
          refine yG.num (c := 2) rfl (fun _ _ => rfl) (by decide) ?_
          refine yG.iadd rfl ?_
          refine yG.load xik rfl (fun _ _ => rfl) (v := yI (z3)) rfl rfl ?_
          refine yG.load xik rfl (fun _ _ => rfl) (v := yI (p2)) rfl rfl ?_
          refine yG.load xak rfl (fun _ _ => rfl) (v := yR k3) rfl rfl ?_
          refine yG.load xak rfl (fun _ _ => rfl) (v := yR k4) rfl rfl ?_
          have b1 := M_bCd k0 n1 H_k0 H_n1 Q_n1 (a6 : Int).toNat (by omega)
          have b2 : bStt (ys hp n1) (a6 : Int).toNat = (a5 : Int).toNat := by omega
          rw [b2] at b1
          rw [show (a5 : Int).toNat + 1 = (a5 + 1 : Int).toNat by omega, show (a5 : Int).toNat + 2 = (a5 + 2 : Int).toNat by omega, show ys hp n1 (a5 + 1 : Int).toNat = z3 by omega] at b1
          have b3 := bSf.to (d := 0) (by omega) _ _ b1
          refine yG.invV (rest := []) A_hp.1 (bOb (d_Rules W) H_k0) rfl rfl rfl rfl (c_Rules_holds_s W d A_hp.1 H_k0 H_k3 H_k4 H_n1 Q_n1 (a5 + 2) (z3) (p2) (by omega) (by omega) (by omega) (by omega) (by omega) (by omega) b3) (fun rv hp9 q9 => ?_)
          obtain ⟨⟨z8, rfl, l_z8, u_z8, R_z8⟩, e9⟩ := q9
          rw [e9]
          show yG _ _ _ _ _ _ _ _ _ _ (yI z8 :: []) _
          refine yG.ifz rfl (t := 57) rfl ⟨by omega, by omega⟩ (fun c9 => ?_) (fun c9 => ?_)
          · have c9 : (z8 : Int) = 0 := c9
            refine yG.num (c := 0) rfl (fun _ _ => rfl) (by decide) ?_
            refine yG.load xik rfl (fun _ _ => rfl) (v := yI (z3)) rfl rfl ?_
            refine yG.num (c := 2046) rfl (fun _ _ => rfl) (by decide) ?_
            refine yG.invS (rest := [yI (0)]) rfl rfl rfl rfl (c_J9_minI W (d + 3) A_hp.1 (z3) (2046) (by omega) (by omega) (by omega) (by omega)) (fun rv hp9 q9 => ?_)
            obtain ⟨⟨z10, rfl, l_z10, u_z10, R_z10⟩, e9⟩ := q9
            rw [e9]
            show yG _ _ _ _ _ _ _ _ _ _ (yI z10 :: [yI (0)]) _
            refine yG.invS (rest := []) rfl rfl rfl rfl (c_J9_maxI W (d + 3) A_hp.1 (0) (z10) (by omega) (by omega) (by omega) (by omega)) (fun rv hp9 q9 => ?_)
            obtain ⟨⟨z11, rfl, l_z11, u_z11, R_z11⟩, e9⟩ := q9
            rw [e9]
            show yG _ _ _ _ _ _ _ _ _ _ (yI z11 :: []) _
            refine yG.store1 xik (L' := [(5, yI (z11)), (7, yI (z3)), (0, yR k0), (1, yI (p1)), (2, yI (p2)), (3, yR k3), (4, yR k4), (6, yI (a6))]) rfl (fun _ _ => rfl) rfl rfl ?_
            refine yG.iinc rfl (a := a6) rfl (L' := [(6, yI (a6 + 1)), (5, yI (z11)), (7, yI (z3)), (0, yR k0), (1, yI (p1)), (2, yI (p2)), (3, yR k3), (4, yR k4)]) rfl ?_
            refine yG.goto rfl (t := 6) rfl ?_
            have c2 : bStt (ys hp n1) (a6 : Int).toNat = (a5 : Int).toNat := by omega
            have c3 : ((bStt (ys hp n1) (a6 + 1 : Int).toNat : Nat) : Int) = z11 := by
              rw [show (a6 + 1 : Int).toNat = (a6 : Int).toNat + 1 by omega]
              show (((max 0 (min (ys hp n1 (bStt (ys hp n1) (a6 : Int).toNat + 1)) 2046)).toNat : Nat) : Int) = z11
              rw [c2, show (a5 : Int).toNat + 1 = (a5 + 1 : Int).toNat by omega]
              omega
            exact yG.mono (yG.sub (i_6 (z11) (a6 + 1) (ys hp k0 6)   rfl (by omega) (by omega) (by omega) (by omega) (by omega) (by omega) (by omega) (by omega) (by omega) (by omega) (by omega) (by omega) (by omega) c3 (by omega)) (ySub.cons rfl (ySub.cons rfl (ySub.cons rfl (ySub.cons rfl (ySub.cons rfl (ySub.cons rfl (ySub.cons rfl (ySub.nil))))))))) (by omega)
          · have c9 : (z8 : Int) ≠ 0 := c9
            refine yG.load xik rfl (fun _ _ => rfl) (v := yI (a6)) rfl rfl ?_
            refine yG.ret rfl (fun _ _ => rfl) ?_
            exact (yP.int ⟨by omega, by omega⟩ ⟨⟨a6, rfl, by omega, by omega, trivial⟩, rfl⟩)
  refine yC.of (M := (xt_X7_firstAgainst, (8, (1, (8, []))))) rfl rfl (N := 158913790026) (yfuel (by decide)) ?_
  show yG 89 xfts (xcall 89 xfts xpools xms (d + 4)) (xpool xp_RX7) [] xt_X7_firstAgainst (yP 1 (bQpi hp (-1) 2147483646 (fun _ => True))) 158913790026 0 [(0, yR k0), (1, yI (p1)), (2, yI (p2)), (3, yR k3), (4, yR k4)] [] hp
  have i_6 := H 4294967297
  obtain ⟨gg0, E_0⟩ : ∃ z : Int, ys hp k0 6 = z := ⟨_, rfl⟩
  obtain ⟨-, -, g_0l, g_0u⟩ := (w_Rules_count W H_k0).int hT
  refine yG.num (c := 0) rfl (fun _ _ => rfl) (by decide) ?_
  refine yG.store1 xik (L' := [(5, yI (0)), (0, yR k0), (1, yI (p1)), (2, yI (p2)), (3, yR k3), (4, yR k4)]) rfl (fun _ _ => rfl) rfl rfl ?_
  refine yG.num (c := 0) rfl (fun _ _ => rfl) (by decide) ?_
  refine yG.store1 xik (L' := [(6, yI (0)), (5, yI (0)), (0, yR k0), (1, yI (p1)), (2, yI (p2)), (3, yR k3), (4, yR k4)]) rfl (fun _ _ => rfl) rfl rfl ?_
  exact yG.mono (yG.sub (i_6 (0) (0) (ys hp k0 6)   rfl (by omega) (by omega) (by omega) (by omega) (by omega) (by omega) (by omega) (by omega) (by omega) (by omega) (by omega) (by omega) (by omega) rfl (by omega)) (ySub.cons rfl (ySub.cons rfl (ySub.cons rfl (ySub.cons rfl (ySub.cons rfl (ySub.cons rfl (ySub.cons rfl (ySub.nil))))))))) (by omega)
theorem c_Rules_firstAgainst_s2 {hp : xH} (W : bW G) (d : Nat) (hT : zTy G hp) (M_bCd : bCd G hp) {k0 : Nat} (H_k0 : bRo G 107 k0) {k3 : Nat} (H_k3 : bRo G 115 k3) {k4 : Nat} (H_k4 : bRo G 115 k4) {n1 : Nat} (H_n1 : bRo G 108 n1) (Q_n1 : zsl hp k0 1 = yR n1) (p1 p2 : Int) (h1l : 4 ≤ p1) (h1u : p1 ≤ 5) (h2l : 0 ≤ p2) (h2u : p2 ≤ 23) : yC (xcall 89 xfts xpools xms (d + 5)) 191 [yR k0, yI (p1), yI (p2), yR k3, yR k4] hp (bQpi hp (-1) 2147483646 (fun _ => True)) := by
  have A_hp : bAx G [] hp hp := bAx.rf hT
  have H : ∀ m : Nat, (∀ a5 : Int, ∀ a6 : Int, ∀ gg0 : Int, ys hp k0 6 = gg0 → 0 ≤ a5 → (-2046) ≤ 0 - a5 → 0 ≤ a6 → (-2147483647) ≤ 0 - a6 → (-2147483648) ≤ gg0 → (-2147483647) ≤ 0 - gg0 → 4 ≤ p1 → (-5) ≤ 0 - p1 → 0 ≤ p2 → (-23) ≤ 0 - p2 → (-2045) ≤ 0 - a5 + a6 → (-2147483648) ≤ 0 - a5 + gg0 → (-2147483648) ≤ 0 - a6 + gg0 → ((bStt (ys hp n1) (a6 : Int).toNat : Nat) : Int) = a5 → 0 - 2 * a6 + 4294967295 < (m : Int) → yG 89 xfts (xcall 89 xfts xpools xms (d + 4)) (xpool xp_RX7) [] xt_X7_firstAgainst (yP 1 (bQpi hp (-1) 2147483646 (fun _ => True))) (37 * m) 6 [(0, yR k0), (1, yI (p1)), (2, yI (p2)), (3, yR k3), (4, yR k4), (5, yI (a5)), (6, yI (a6))] [] hp) := by
    intro m
    induction m with
    | zero =>
      intros; exfalso; omega
    | succ m ih =>
      have i_6 := ih
      clear ih
      intro a5 a6 gg0 E_0 f0 f1 f2 f3 f4 f5 f6 f7 f8 f9 f10 f11 f12 X_6 hm
      refine yG.mono (N := 37 * m + 37) ?_ (by omega)
      obtain ⟨-, -, g_0l, g_0u⟩ := (w_Rules_count W H_k0).int A_hp.1
      refine yG.load xik rfl (fun _ _ => rfl) (v := yI (a6)) rfl rfl ?_
      refine yG.load xak rfl (fun _ _ => rfl) (v := yR k0) rfl rfl ?_
      refine yG.getI A_hp.1 (w_Rules_count W H_k0) rfl rfl (fun z1 e_z1 i_z1 l_z1 u_z1 => ?_)
      rw [show (z1 : Int) = gg0 by omega]
      refine yG.icmp rfl (t := 77) rfl ⟨by omega, by omega⟩ ⟨by omega, by omega⟩ (fun c2 => ?_) (fun c2 => ?_)
      · have c2 : (a6 : Int) ≥ gg0 := c2
        refine yG.num (c := -1) rfl (fun _ _ => rfl) (by decide) ?_
        refine yG.ret rfl (fun _ _ => rfl) ?_
        exact (yP.int ⟨by omega, by omega⟩ ⟨⟨(-1), rfl, by omega, by omega, trivial⟩, rfl⟩)
      · have c2 : (a6 : Int) < gg0 := c2
        refine yG.load xak rfl (fun _ _ => rfl) (v := yR k0) rfl rfl ?_
        refine yG.getS9 A_hp.1 (w_Rules_code W H_k0) Q_n1 rfl rfl ?_
        refine yG.load xik rfl (fun _ _ => rfl) (v := yI (a5)) rfl rfl ?_
        refine yG.num (c := 1) rfl (fun _ _ => rfl) (by decide) ?_
        refine yG.iadd rfl ?_
        refine yG.iald A_hp.1 (v_Rules_code W H_n1) rfl (by omega) (by omega) (fun z3 e_z3 i_z3 l_z3 u_z3 => ?_)
        refine yG.store1 xik (L' := [(7, yI (z3)), (0, yR k0), (1, yI (p1)), (2, yI (p2)), (3, yR k3), (4, yR k4), (5, yI (a5)), (6, yI (a6))]) rfl (fun _ _ => rfl) rfl rfl ?_
        refine yG.load xak rfl (fun _ _ => rfl) (v := yR k0) rfl rfl ?_
        refine yG.getS9 A_hp.1 (w_Rules_code W H_k0) Q_n1 rfl rfl ?_
        refine yG.load xik rfl (fun _ _ => rfl) (v := yI (a5)) rfl rfl ?_
        refine yG.iald A_hp.1 (v_Rules_code W H_n1) rfl (by omega) (by omega) (fun z4 e_z4 i_z4 l_z4 u_z4 => ?_)
        refine yG.load xik rfl (fun _ _ => rfl) (v := yI (p1)) rfl rfl ?_
        refine yG.icmp rfl (t := 57) rfl ⟨by omega, by omega⟩ ⟨by omega, by omega⟩ (fun c5 => ?_) (fun c5 => ?_)
        · have c5 : (z4 : Int) ≠ p1 := c5
          refine yG.num (c := 0) rfl (fun _ _ => rfl) (by decide) ?_
          refine yG.load xik rfl (fun _ _ => rfl) (v := yI (z3)) rfl rfl ?_
          refine yG.num (c := 2046) rfl (fun _ _ => rfl) (by decide) ?_
          refine yG.invS (rest := [yI (0)]) rfl rfl rfl rfl (c_J9_minI W (d + 3) A_hp.1 (z3) (2046) (by omega) (by omega) (by omega) (by omega)) (fun rv hp9 q9 => ?_)
          obtain ⟨⟨z6, rfl, l_z6, u_z6, R_z6⟩, e9⟩ := q9
          rw [e9]
          show yG _ _ _ _ _ _ _ _ _ _ (yI z6 :: [yI (0)]) _
          refine yG.invS (rest := []) rfl rfl rfl rfl (c_J9_maxI W (d + 3) A_hp.1 (0) (z6) (by omega) (by omega) (by omega) (by omega)) (fun rv hp9 q9 => ?_)
          obtain ⟨⟨z7, rfl, l_z7, u_z7, R_z7⟩, e9⟩ := q9
          rw [e9]
          show yG _ _ _ _ _ _ _ _ _ _ (yI z7 :: []) _
          refine yG.store1 xik (L' := [(5, yI (z7)), (7, yI (z3)), (0, yR k0), (1, yI (p1)), (2, yI (p2)), (3, yR k3), (4, yR k4), (6, yI (a6))]) rfl (fun _ _ => rfl) rfl rfl ?_
          refine yG.iinc rfl (a := a6) rfl (L' := [(6, yI (a6 + 1)), (5, yI (z7)), (7, yI (z3)), (0, yR k0), (1, yI (p1)), (2, yI (p2)), (3, yR k3), (4, yR k4)]) rfl ?_
          refine yG.goto rfl (t := 6) rfl ?_
          have c2 : bStt (ys hp n1) (a6 : Int).toNat = (a5 : Int).toNat := by omega
          have c3 : ((bStt (ys hp n1) (a6 + 1 : Int).toNat : Nat) : Int) = z7 := by
            rw [show (a6 + 1 : Int).toNat = (a6 : Int).toNat + 1 by omega]
            show (((max 0 (min (ys hp n1 (bStt (ys hp n1) (a6 : Int).toNat + 1)) 2046)).toNat : Nat) : Int) = z7
            rw [c2, show (a5 : Int).toNat + 1 = (a5 + 1 : Int).toNat by omega]
            omega
          exact yG.mono (yG.sub (i_6 (z7) (a6 + 1) (ys hp k0 6)   rfl (by omega) (by omega) (by omega) (by omega) (by omega) (by omega) (by omega) (by omega) (by omega) (by omega) (by omega) (by omega) (by omega) c3 (by omega)) (ySub.cons rfl (ySub.cons rfl (ySub.cons rfl (ySub.cons rfl (ySub.cons rfl (ySub.cons rfl (ySub.cons rfl (ySub.nil))))))))) (by omega)
        · have c5 : (z4 : Int) = p1 := c5
          refine yG.load xak rfl (fun _ _ => rfl) (v := yR k0) rfl rfl ?_
          refine yG.load xik rfl (fun _ _ => rfl) (v := yI (a5)) rfl rfl ?_
          refine yG.num (c := 2) rfl (fun _ _ => rfl) (by decide) ?_
          refine yG.iadd rfl ?_
          refine yG.load xik rfl (fun _ _ => rfl) (v := yI (z3)) rfl rfl ?_
          refine yG.load xik rfl (fun _ _ => rfl) (v := yI (p2)) rfl rfl ?_
          refine yG.load xak rfl (fun _ _ => rfl) (v := yR k3) rfl rfl ?_
          refine yG.load xak rfl (fun _ _ => rfl) (v := yR k4) rfl rfl ?_
          have b1 := M_bCd k0 n1 H_k0 H_n1 Q_n1 (a6 : Int).toNat (by omega)
          have b2 : bStt (ys hp n1) (a6 : Int).toNat = (a5 : Int).toNat := by omega
          rw [b2] at b1
          rw [show (a5 : Int).toNat + 1 = (a5 + 1 : Int).toNat by omega, show (a5 : Int).toNat + 2 = (a5 + 2 : Int).toNat by omega, show ys hp n1 (a5 + 1 : Int).toNat = z3 by omega] at b1
          have b3 := bSf.to (d := 0) (by omega) _ _ b1
          refine yG.invV (rest := []) A_hp.1 (bOb (d_Rules W) H_k0) rfl rfl rfl rfl (c_Rules_holds_s W d A_hp.1 H_k0 H_k3 H_k4 H_n1 Q_n1 (a5 + 2) (z3) (p2) (by omega) (by omega) (by omega) (by omega) (by omega) (by omega) b3) (fun rv hp9 q9 => ?_)
          obtain ⟨⟨z8, rfl, l_z8, u_z8, R_z8⟩, e9⟩ := q9
          rw [e9]
          show yG _ _ _ _ _ _ _ _ _ _ (yI z8 :: []) _
          refine yG.ifz rfl (t := 57) rfl ⟨by omega, by omega⟩ (fun c9 => ?_) (fun c9 => ?_)
          · have c9 : (z8 : Int) = 0 := c9
            refine yG.num (c := 0) rfl (fun _ _ => rfl) (by decide) ?_
            refine yG.load xik rfl (fun _ _ => rfl) (v := yI (z3)) rfl rfl ?_
            refine yG.num (c := 2046) rfl (fun _ _ => rfl) (by decide) ?_
            refine yG.invS (rest := [yI (0)]) rfl rfl rfl rfl (c_J9_minI W (d + 3) A_hp.1 (z3) (2046) (by omega) (by omega) (by omega) (by omega)) (fun rv hp9 q9 => ?_)
            obtain ⟨⟨z10, rfl, l_z10, u_z10, R_z10⟩, e9⟩ := q9
            rw [e9]
            show yG _ _ _ _ _ _ _ _ _ _ (yI z10 :: [yI (0)]) _
            refine yG.invS (rest := []) rfl rfl rfl rfl (c_J9_maxI W (d + 3) A_hp.1 (0) (z10) (by omega) (by omega) (by omega) (by omega)) (fun rv hp9 q9 => ?_)
            obtain ⟨⟨z11, rfl, l_z11, u_z11, R_z11⟩, e9⟩ := q9
            rw [e9]
            show yG _ _ _ _ _ _ _ _ _ _ (yI z11 :: []) _
            refine yG.store1 xik (L' := [(5, yI (z11)), (7, yI (z3)), (0, yR k0), (1, yI (p1)), (2, yI (p2)), (3, yR k3), (4, yR k4), (6, yI (a6))]) rfl (fun _ _ => rfl) rfl rfl ?_
            refine yG.iinc rfl (a := a6) rfl (L' := [(6, yI (a6 + 1)), (5, yI (z11)), (7, yI (z3)), (0, yR k0), (1, yI (p1)), (2, yI (p2)), (3, yR k3), (4, yR k4)]) rfl ?_
            refine yG.goto rfl (t := 6) rfl ?_
            have c2 : bStt (ys hp n1) (a6 : Int).toNat = (a5 : Int).toNat := by omega
            have c3 : ((bStt (ys hp n1) (a6 + 1 : Int).toNat : Nat) : Int) = z11 := by
              rw [show (a6 + 1 : Int).toNat = (a6 : Int).toNat + 1 by omega]
              show (((max 0 (min (ys hp n1 (bStt (ys hp n1) (a6 : Int).toNat + 1)) 2046)).toNat : Nat) : Int) = z11
              rw [c2, show (a5 : Int).toNat + 1 = (a5 + 1 : Int).toNat by omega]
              omega
            exact yG.mono (yG.sub (i_6 (z11) (a6 + 1) (ys hp k0 6)   rfl (by omega) (by omega) (by omega) (by omega) (by omega) (by omega) (by omega) (by omega) (by omega) (by omega) (by omega) (by omega) (by omega) c3 (by omega)) (ySub.cons rfl (ySub.cons rfl (ySub.cons rfl (ySub.cons rfl (ySub.cons rfl (ySub.cons rfl (ySub.cons rfl (ySub.nil))))))))) (by omega)
          · have c9 : (z8 : Int) ≠ 0 := c9
            refine yG.load xik rfl (fun _ _ => rfl) (v := yI (a6)) rfl rfl ?_
            refine yG.ret rfl (fun _ _ => rfl) ?_
            exact (yP.int ⟨by omega, by omega⟩ ⟨⟨a6, rfl, by omega, by omega, trivial⟩, rfl⟩)
  refine yC.of (M := (xt_X7_firstAgainst, (8, (1, (8, []))))) rfl rfl (N := 158913790026) (yfuel (by decide)) ?_
  show yG 89 xfts (xcall 89 xfts xpools xms (d + 4)) (xpool xp_RX7) [] xt_X7_firstAgainst (yP 1 (bQpi hp (-1) 2147483646 (fun _ => True))) 158913790026 0 [(0, yR k0), (1, yI (p1)), (2, yI (p2)), (3, yR k3), (4, yR k4)] [] hp
  have i_6 := H 4294967297
  obtain ⟨gg0, E_0⟩ : ∃ z : Int, ys hp k0 6 = z := ⟨_, rfl⟩
  obtain ⟨-, -, g_0l, g_0u⟩ := (w_Rules_count W H_k0).int hT
  refine yG.num (c := 0) rfl (fun _ _ => rfl) (by decide) ?_
  refine yG.store1 xik (L' := [(5, yI (0)), (0, yR k0), (1, yI (p1)), (2, yI (p2)), (3, yR k3), (4, yR k4)]) rfl (fun _ _ => rfl) rfl rfl ?_
  refine yG.num (c := 0) rfl (fun _ _ => rfl) (by decide) ?_
  refine yG.store1 xik (L' := [(6, yI (0)), (5, yI (0)), (0, yR k0), (1, yI (p1)), (2, yI (p2)), (3, yR k3), (4, yR k4)]) rfl (fun _ _ => rfl) rfl rfl ?_
  exact yG.mono (yG.sub (i_6 (0) (0) (ys hp k0 6)   rfl (by omega) (by omega) (by omega) (by omega) (by omega) (by omega) (by omega) (by omega) (by omega) (by omega) (by omega) (by omega) (by omega) rfl (by omega)) (ySub.cons rfl (ySub.cons rfl (ySub.cons rfl (ySub.cons rfl (ySub.cons rfl (ySub.cons rfl (ySub.cons rfl (ySub.nil))))))))) (by omega)
theorem c_Rules_firstAgainst_b {hp : xH} (W : bW G) (d : Nat) (hT : zTy G hp) (M_bCd : bCd G hp) {k0 : Nat} (H_k0 : bRo G 107 k0) {k3 : Nat} (H_k3 : bRo G 115 k3) {k4 : Nat} (H_k4 : bRo G 115 k4) {n1 : Nat} (H_n1 : bRo G 108 n1) (Q_n1 : zsl hp k0 1 = yR n1) (p1 p2 : Int) (h1l : 2 ≤ p1) (h1u : p1 ≤ 3) (h2l : 0 ≤ p2) (h2u : p2 ≤ 15) : yC (xcall 89 xfts xpools xms (d + 5)) 191 [yR k0, yI (p1), yI (p2), yR k3, yR k4] hp (bQpi hp (-1) 2147483646 (fun _ => True)) := by
  have A_hp : bAx G [] hp hp := bAx.rf hT
  have H : ∀ m : Nat, (∀ a5 : Int, ∀ a6 : Int, ∀ gg0 : Int, ys hp k0 6 = gg0 → 0 ≤ a5 → (-2046) ≤ 0 - a5 → 0 ≤ a6 → (-2147483647) ≤ 0 - a6 → (-2147483648) ≤ gg0 → (-2147483647) ≤ 0 - gg0 → 2 ≤ p1 → (-3) ≤ 0 - p1 → 0 ≤ p2 → (-15) ≤ 0 - p2 → (-2045) ≤ 0 - a5 + a6 → (-2147483648) ≤ 0 - a5 + gg0 → (-2147483648) ≤ 0 - a6 + gg0 → ((bStt (ys hp n1) (a6 : Int).toNat : Nat) : Int) = a5 → 0 - 2 * a6 + 4294967295 < (m : Int) → yG 89 xfts (xcall 89 xfts xpools xms (d + 4)) (xpool xp_RX7) [] xt_X7_firstAgainst (yP 1 (bQpi hp (-1) 2147483646 (fun _ => True))) (37 * m) 6 [(0, yR k0), (1, yI (p1)), (2, yI (p2)), (3, yR k3), (4, yR k4), (5, yI (a5)), (6, yI (a6))] [] hp) := by
    intro m
    induction m with
    | zero =>
      intros; exfalso; omega
    | succ m ih =>
      have i_6 := ih
      clear ih
      intro a5 a6 gg0 E_0 f0 f1 f2 f3 f4 f5 f6 f7 f8 f9 f10 f11 f12 X_6 hm
      refine yG.mono (N := 37 * m + 37) ?_ (by omega)
      obtain ⟨-, -, g_0l, g_0u⟩ := (w_Rules_count W H_k0).int A_hp.1
      refine yG.load xik rfl (fun _ _ => rfl) (v := yI (a6)) rfl rfl ?_
      refine yG.load xak rfl (fun _ _ => rfl) (v := yR k0) rfl rfl ?_
      refine yG.getI A_hp.1 (w_Rules_count W H_k0) rfl rfl (fun z1 e_z1 i_z1 l_z1 u_z1 => ?_)
      rw [show (z1 : Int) = gg0 by omega]
      refine yG.icmp rfl (t := 77) rfl ⟨by omega, by omega⟩ ⟨by omega, by omega⟩ (fun c2 => ?_) (fun c2 => ?_)
      · have c2 : (a6 : Int) ≥ gg0 := c2
        refine yG.num (c := -1) rfl (fun _ _ => rfl) (by decide) ?_
        refine yG.ret rfl (fun _ _ => rfl) ?_
        exact (yP.int ⟨by omega, by omega⟩ ⟨⟨(-1), rfl, by omega, by omega, trivial⟩, rfl⟩)
      · have c2 : (a6 : Int) < gg0 := c2
        refine yG.load xak rfl (fun _ _ => rfl) (v := yR k0) rfl rfl ?_
        refine yG.getS9 A_hp.1 (w_Rules_code W H_k0) Q_n1 rfl rfl ?_
        refine yG.load xik rfl (fun _ _ => rfl) (v := yI (a5)) rfl rfl ?_
        refine yG.num (c := 1) rfl (fun _ _ => rfl) (by decide) ?_
        refine yG.iadd rfl ?_
        refine yG.iald A_hp.1 (v_Rules_code W H_n1) rfl (by omega) (by omega) (fun z3 e_z3 i_z3 l_z3 u_z3 => ?_)
        refine yG.store1 xik (L' := [(7, yI (z3)), (0, yR k0), (1, yI (p1)), (2, yI (p2)), (3, yR k3), (4, yR k4), (5, yI (a5)), (6, yI (a6))]) rfl (fun _ _ => rfl) rfl rfl ?_
        refine yG.load xak rfl (fun _ _ => rfl) (v := yR k0) rfl rfl ?_
        refine yG.getS9 A_hp.1 (w_Rules_code W H_k0) Q_n1 rfl rfl ?_
        refine yG.load xik rfl (fun _ _ => rfl) (v := yI (a5)) rfl rfl ?_
        refine yG.iald A_hp.1 (v_Rules_code W H_n1) rfl (by omega) (by omega) (fun z4 e_z4 i_z4 l_z4 u_z4 => ?_)
        refine yG.load xik rfl (fun _ _ => rfl) (v := yI (p1)) rfl rfl ?_
        refine yG.icmp rfl (t := 57) rfl ⟨by omega, by omega⟩ ⟨by omega, by omega⟩ (fun c5 => ?_) (fun c5 => ?_)
        · have c5 : (z4 : Int) ≠ p1 := c5
          refine yG.num (c := 0) rfl (fun _ _ => rfl) (by decide) ?_
          refine yG.load xik rfl (fun _ _ => rfl) (v := yI (z3)) rfl rfl ?_
          refine yG.num (c := 2046) rfl (fun _ _ => rfl) (by decide) ?_
          refine yG.invS (rest := [yI (0)]) rfl rfl rfl rfl (c_J9_minI W (d + 3) A_hp.1 (z3) (2046) (by omega) (by omega) (by omega) (by omega)) (fun rv hp9 q9 => ?_)
          obtain ⟨⟨z6, rfl, l_z6, u_z6, R_z6⟩, e9⟩ := q9
          rw [e9]
          show yG _ _ _ _ _ _ _ _ _ _ (yI z6 :: [yI (0)]) _
          refine yG.invS (rest := []) rfl rfl rfl rfl (c_J9_maxI W (d + 3) A_hp.1 (0) (z6) (by omega) (by omega) (by omega) (by omega)) (fun rv hp9 q9 => ?_)
          obtain ⟨⟨z7, rfl, l_z7, u_z7, R_z7⟩, e9⟩ := q9
          rw [e9]
          show yG _ _ _ _ _ _ _ _ _ _ (yI z7 :: []) _
          refine yG.store1 xik (L' := [(5, yI (z7)), (7, yI (z3)), (0, yR k0), (1, yI (p1)), (2, yI (p2)), (3, yR k3), (4, yR k4), (6, yI (a6))]) rfl (fun _ _ => rfl) rfl rfl ?_
          refine yG.iinc rfl (a := a6) rfl (L' := [(6, yI (a6 + 1)), (5, yI (z7)), (7, yI (z3)), (0, yR k0), (1, yI (p1)), (2, yI (p2)), (3, yR k3), (4, yR k4)]) rfl ?_
          refine yG.goto rfl (t := 6) rfl ?_
          have c2 : bStt (ys hp n1) (a6 : Int).toNat = (a5 : Int).toNat := by omega
          have c3 : ((bStt (ys hp n1) (a6 + 1 : Int).toNat : Nat) : Int) = z7 := by
            rw [show (a6 + 1 : Int).toNat = (a6 : Int).toNat + 1 by omega]
            show (((max 0 (min (ys hp n1 (bStt (ys hp n1) (a6 : Int).toNat + 1)) 2046)).toNat : Nat) : Int) = z7
            rw [c2, show (a5 : Int).toNat + 1 = (a5 + 1 : Int).toNat by omega]
            omega
          exact yG.mono (yG.sub (i_6 (z7) (a6 + 1) (ys hp k0 6)   rfl (by omega) (by omega) (by omega) (by omega) (by omega) (by omega) (by omega) (by omega) (by omega) (by omega) (by omega) (by omega) (by omega) c3 (by omega)) (ySub.cons rfl (ySub.cons rfl (ySub.cons rfl (ySub.cons rfl (ySub.cons rfl (ySub.cons rfl (ySub.cons rfl (ySub.nil))))))))) (by omega)
        · have c5 : (z4 : Int) = p1 := c5
          refine yG.load xak rfl (fun _ _ => rfl) (v := yR k0) rfl rfl ?_
          refine yG.load xik rfl (fun _ _ => rfl) (v := yI (a5)) rfl rfl ?_
          refine yG.num (c := 2) rfl (fun _ _ => rfl) (by decide) ?_
          refine yG.iadd rfl ?_
          refine yG.load xik rfl (fun _ _ => rfl) (v := yI (z3)) rfl rfl ?_
          refine yG.load xik rfl (fun _ _ => rfl) (v := yI (p2)) rfl rfl ?_
          refine yG.load xak rfl (fun _ _ => rfl) (v := yR k3) rfl rfl ?_
          refine yG.load xak rfl (fun _ _ => rfl) (v := yR k4) rfl rfl ?_
          have b1 := M_bCd k0 n1 H_k0 H_n1 Q_n1 (a6 : Int).toNat (by omega)
          have b2 : bStt (ys hp n1) (a6 : Int).toNat = (a5 : Int).toNat := by omega
          rw [b2] at b1
          rw [show (a5 : Int).toNat + 1 = (a5 + 1 : Int).toNat by omega, show (a5 : Int).toNat + 2 = (a5 + 2 : Int).toNat by omega, show ys hp n1 (a5 + 1 : Int).toNat = z3 by omega] at b1
          have b3 := bSf.to (d := 2) (by omega) _ _ b1
          refine yG.invV (rest := []) A_hp.1 (bOb (d_Rules W) H_k0) rfl rfl rfl rfl (c_Rules_holds_b W d A_hp.1 H_k0 H_k3 H_k4 H_n1 Q_n1 (a5 + 2) (z3) (p2) (by omega) (by omega) (by omega) (by omega) (by omega) (by omega) b3) (fun rv hp9 q9 => ?_)
          obtain ⟨⟨z8, rfl, l_z8, u_z8, R_z8⟩, e9⟩ := q9
          rw [e9]
          show yG _ _ _ _ _ _ _ _ _ _ (yI z8 :: []) _
          refine yG.ifz rfl (t := 57) rfl ⟨by omega, by omega⟩ (fun c9 => ?_) (fun c9 => ?_)
          · have c9 : (z8 : Int) = 0 := c9
            refine yG.num (c := 0) rfl (fun _ _ => rfl) (by decide) ?_
            refine yG.load xik rfl (fun _ _ => rfl) (v := yI (z3)) rfl rfl ?_
            refine yG.num (c := 2046) rfl (fun _ _ => rfl) (by decide) ?_
            refine yG.invS (rest := [yI (0)]) rfl rfl rfl rfl (c_J9_minI W (d + 3) A_hp.1 (z3) (2046) (by omega) (by omega) (by omega) (by omega)) (fun rv hp9 q9 => ?_)
            obtain ⟨⟨z10, rfl, l_z10, u_z10, R_z10⟩, e9⟩ := q9
            rw [e9]
            show yG _ _ _ _ _ _ _ _ _ _ (yI z10 :: [yI (0)]) _
            refine yG.invS (rest := []) rfl rfl rfl rfl (c_J9_maxI W (d + 3) A_hp.1 (0) (z10) (by omega) (by omega) (by omega) (by omega)) (fun rv hp9 q9 => ?_)
            obtain ⟨⟨z11, rfl, l_z11, u_z11, R_z11⟩, e9⟩ := q9
            rw [e9]
            show yG _ _ _ _ _ _ _ _ _ _ (yI z11 :: []) _
            refine yG.store1 xik (L' := [(5, yI (z11)), (7, yI (z3)), (0, yR k0), (1, yI (p1)), (2, yI (p2)), (3, yR k3), (4, yR k4), (6, yI (a6))]) rfl (fun _ _ => rfl) rfl rfl ?_
            refine yG.iinc rfl (a := a6) rfl (L' := [(6, yI (a6 + 1)), (5, yI (z11)), (7, yI (z3)), (0, yR k0), (1, yI (p1)), (2, yI (p2)), (3, yR k3), (4, yR k4)]) rfl ?_
            refine yG.goto rfl (t := 6) rfl ?_
            have c2 : bStt (ys hp n1) (a6 : Int).toNat = (a5 : Int).toNat := by omega
            have c3 : ((bStt (ys hp n1) (a6 + 1 : Int).toNat : Nat) : Int) = z11 := by
              rw [show (a6 + 1 : Int).toNat = (a6 : Int).toNat + 1 by omega]
              show (((max 0 (min (ys hp n1 (bStt (ys hp n1) (a6 : Int).toNat + 1)) 2046)).toNat : Nat) : Int) = z11
              rw [c2, show (a5 : Int).toNat + 1 = (a5 + 1 : Int).toNat by omega]
              omega
            exact yG.mono (yG.sub (i_6 (z11) (a6 + 1) (ys hp k0 6)   rfl (by omega) (by omega) (by omega) (by omega) (by omega) (by omega) (by omega) (by omega) (by omega) (by omega) (by omega) (by omega) (by omega) c3 (by omega)) (ySub.cons rfl (ySub.cons rfl (ySub.cons rfl (ySub.cons rfl (ySub.cons rfl (ySub.cons rfl (ySub.cons rfl (ySub.nil))))))))) (by omega)
          · have c9 : (z8 : Int) ≠ 0 := c9
            refine yG.load xik rfl (fun _ _ => rfl) (v := yI (a6)) rfl rfl ?_
            refine yG.ret rfl (fun _ _ => rfl) ?_
            exact (yP.int ⟨by omega, by omega⟩ ⟨⟨a6, rfl, by omega, by omega, trivial⟩, rfl⟩)
  refine yC.of (M := (xt_X7_firstAgainst, (8, (1, (8, []))))) rfl rfl (N := 158913790026) (yfuel (by decide)) ?_
  show yG 89 xfts (xcall 89 xfts xpools xms (d + 4)) (xpool xp_RX7) [] xt_X7_firstAgainst (yP 1 (bQpi hp (-1) 2147483646 (fun _ => True))) 158913790026 0 [(0, yR k0), (1, yI (p1)), (2, yI (p2)), (3, yR k3), (4, yR k4)] [] hp
  have i_6 := H 4294967297
  obtain ⟨gg0, E_0⟩ : ∃ z : Int, ys hp k0 6 = z := ⟨_, rfl⟩
  obtain ⟨-, -, g_0l, g_0u⟩ := (w_Rules_count W H_k0).int hT
  refine yG.num (c := 0) rfl (fun _ _ => rfl) (by decide) ?_
  refine yG.store1 xik (L' := [(5, yI (0)), (0, yR k0), (1, yI (p1)), (2, yI (p2)), (3, yR k3), (4, yR k4)]) rfl (fun _ _ => rfl) rfl rfl ?_
  refine yG.num (c := 0) rfl (fun _ _ => rfl) (by decide) ?_
  refine yG.store1 xik (L' := [(6, yI (0)), (5, yI (0)), (0, yR k0), (1, yI (p1)), (2, yI (p2)), (3, yR k3), (4, yR k4)]) rfl (fun _ _ => rfl) rfl rfl ?_
  exact yG.mono (yG.sub (i_6 (0) (0) (ys hp k0 6)   rfl (by omega) (by omega) (by omega) (by omega) (by omega) (by omega) (by omega) (by omega) (by omega) (by omega) (by omega) (by omega) (by omega) rfl (by omega)) (ySub.cons rfl (ySub.cons rfl (ySub.cons rfl (ySub.cons rfl (ySub.cons rfl (ySub.cons rfl (ySub.cons rfl (ySub.nil))))))))) (by omega)
theorem c_Rules_follow {hp : xH} (W : bW G) (d : Nat) (hT : zTy G hp) (M_bSh : bSh G hp) (M_bSt : bSt G hp) (M_bCd : bCd G hp) {k0 : Nat} (H_k0 : bRo G 107 k0) {k1 : Nat} (H_k1 : bRo G 18 k1) : yC (xcall 89 xfts xpools xms (d + 7)) 192 [yR k0, yR k1] hp (fun rv hp' => (bQr G [(34359738368, 1), (1133871366144, 2), (1099511889920, 3), (262144, 4), (262144, 5), (1099511889920, 6), (1099511889920, 7), (1099511627776, 8), (2251799813685248, 9), (162259276829213365643377823973376, 10), (41700634145107834393887348457734144, 11), (41700634145107834391635548644048896, 12), (41538374868278621028243970633760768, 13), (41538374868278621028243970633760768, 14), (41538374868278621028243970633760768, 15), (2229825047303290880, 256)] hp 18) rv hp' ∧ bSh G hp') := by
  have A_hp : bAx G [(34359738368, 1), (1133871366144, 2), (1099511889920, 3), (262144, 4), (262144, 5), (1099511889920, 6), (1099511889920, 7), (1099511627776, 8), (2251799813685248, 9), (162259276829213365643377823973376, 10), (41700634145107834393887348457734144, 11), (41700634145107834391635548644048896, 12), (41538374868278621028243970633760768, 13), (41538374868278621028243970633760768, 14), (41538374868278621028243970633760768, 15), (2229825047303290880, 256)] hp hp := bAx.rf hT
  have M_bSh_hp := M_bSh
  have H : ∀ m : Nat, (∀ a2 : Nat, ∀ a3 : Nat, ∀ gg0 : Int, ∀ gg1 : Int, ∀ hq, bAx G [(34359738368, 1), (1133871366144, 2), (1099511889920, 3), (262144, 4), (262144, 5), (1099511889920, 6), (1099511889920, 7), (1099511627776, 8), (2251799813685248, 9), (162259276829213365643377823973376, 10), (41700634145107834393887348457734144, 11), (41700634145107834391635548644048896, 12), (41538374868278621028243970633760768, 13), (41538374868278621028243970633760768, 14), (41538374868278621028243970633760768, 15), (2229825047303290880, 256)] hp hq → bSh G hq → bRo G 115 a2 → bRo G 115 a3 → ys hq k0 10 = gg0 → ys hq k0 9 = gg1 → 0 ≤ gg0 → (-24) ≤ 0 - gg0 → 0 ≤ gg1 → (-24) ≤ 0 - gg1 → 0 ≤ 0 - gg0 + gg1 → 0 - 2 * gg0 + 49 < (m : Int) → yG 89 xfts (xcall 89 xfts xpools xms (d + 6)) (xpool xp_RX7) [] xt_X7_follow (yP 3 (fun rv hp' => (bQr G [(34359738368, 1), (1133871366144, 2), (1099511889920, 3), (262144, 4), (262144, 5), (1099511889920, 6), (1099511889920, 7), (1099511627776, 8), (2251799813685248, 9), (162259276829213365643377823973376, 10), (41700634145107834393887348457734144, 11), (41700634145107834391635548644048896, 12), (41538374868278621028243970633760768, 13), (41538374868278621028243970633760768, 14), (41538374868278621028243970633760768, 15), (2229825047303290880, 256)] hp 18) rv hp' ∧ bSh G hp')) (88 * m) 48 [(0, yR k0), (2, yR a2), (3, yR a3)] [] hq) := by
    intro m
    induction m with
    | zero =>
      intros; exfalso; omega
    | succ m ih =>
      have i_48 := ih
      clear ih
      intro a2 a3 gg0 gg1 hq A_hq M_bSh_hq H_a2 H_a3 E_0 E_1 f0 f1 f2 f3 f4 hm
      refine yG.mono (N := 88 * m + 88) ?_ (by omega)
      obtain ⟨-, -, g_0l, g_0u⟩ := (w_Rules_done W H_k0).int A_hq.1
      obtain ⟨-, -, g_1l, g_1u⟩ := (w_Rules_stepCount W H_k0).int A_hq.1
      refine yG.load xak rfl (fun _ _ => rfl) (v := yR k0) rfl rfl ?_
      refine yG.getI A_hq.1 (w_Rules_done W H_k0) rfl rfl (fun z1 e_z1 i_z1 l_z1 u_z1 => ?_)
      rw [show (z1 : Int) = gg0 by omega]
      refine yG.load xak rfl (fun _ _ => rfl) (v := yR k0) rfl rfl ?_
      refine yG.getI A_hq.1 (w_Rules_stepCount W H_k0) rfl rfl (fun z2 e_z2 i_z2 l_z2 u_z2 => ?_)
      rw [show (z2 : Int) = gg1 by omega]
      refine yG.icmp rfl (t := 240) rfl ⟨by omega, by omega⟩ ⟨by omega, by omega⟩ (fun c3 => ?_) (fun c3 => ?_)
      · have c3 : (gg0 : Int) ≥ gg1 := c3
        refine yG.load xak rfl (fun _ _ => rfl) (v := yR a2) rfl rfl ?_
        refine yG.getO A_hq.1 (w_FlowS_shape W H_a2) rfl rfl (fun r4 H_r4 O_r4 q_r4 => ?_)
        refine yG.getO A_hq.1 (w_Shape_net W H_r4) rfl rfl (fun r5 H_r5 O_r5 q_r5 => ?_)
        refine yG.ret rfl (fun _ _ => rfl) ?_
        exact (yP.ref ⟨⟨⟨r5, rfl, H_r5⟩, A_hq⟩, M_bSh_hq⟩)
      · have c3 : (gg0 : Int) < gg1 := c3
        refine yG.load xak rfl (fun _ _ => rfl) (v := yR k0) rfl rfl ?_
        refine yG.getO A_hq.1 (w_Rules_steps W H_k0) rfl rfl (fun r6 H_r6 O_r6 q_r6 => ?_)
        refine yG.load xak rfl (fun _ _ => rfl) (v := yR k0) rfl rfl ?_
        refine yG.getI A_hq.1 (w_Rules_done W H_k0) rfl rfl (fun z7 e_z7 i_z7 l_z7 u_z7 => ?_)
        rw [show (z7 : Int) = gg0 by omega]
        refine yG.iald A_hq.1 (v_Rules_steps W H_r6) rfl (by omega) (by omega) (fun z8 e_z8 i_z8 l_z8 u_z8 => ?_)
        have w_z8 := (M_bSt.fr A_hq (by decide)) r6 H_r6 (gg0 : Int).toNat (by omega)
        refine yG.num (c := 100) rfl (fun _ _ => rfl) (by decide) ?_
        refine yG.idiv rfl ⟨by omega, by omega⟩ ⟨by omega, by omega⟩ (by omega) (by omega) ?_
        obtain ⟨z9, e_z9⟩ : ∃ z : Int, z = (z8) / (100) := ⟨_, rfl⟩
        rw [← e_z9]
        refine yG.store1 xik (L' := [(4, yI (z9)), (0, yR k0), (2, yR a2), (3, yR a3)]) rfl (fun _ _ => rfl) rfl rfl ?_
        refine yG.load xak rfl (fun _ _ => rfl) (v := yR k0) rfl rfl ?_
        refine yG.getS9 A_hq.1 (w_Rules_steps W H_k0) q_r6 rfl rfl ?_
        refine yG.load xak rfl (fun _ _ => rfl) (v := yR k0) rfl rfl ?_
        refine yG.getI A_hq.1 (w_Rules_done W H_k0) rfl rfl (fun z10 e_z10 i_z10 l_z10 u_z10 => ?_)
        rw [show (z10 : Int) = gg0 by omega]
        refine yG.iald A_hq.1 (v_Rules_steps W H_r6) rfl (by omega) (by omega) (fun z11 e_z11 i_z11 l_z11 u_z11 => ?_)
        rw [show (z11 : Int) = z8 by omega]
        have w_z11 := (M_bSt.fr A_hq (by decide)) r6 H_r6 (gg0 : Int).toNat (by omega)
        refine yG.num (c := 100) rfl (fun _ _ => rfl) (by decide) ?_
        refine yG.irem rfl ⟨by omega, by omega⟩ ⟨by omega, by omega⟩ (by omega) (by omega) ?_
        obtain ⟨z12, e_z12⟩ : ∃ z : Int, z = (z8) % (100) := ⟨_, rfl⟩
        rw [← e_z12]
        refine yG.store1 xik (L' := [(5, yI (z12)), (4, yI (z9)), (0, yR k0), (2, yR a2), (3, yR a3)]) rfl (fun _ _ => rfl) rfl rfl ?_
        rcases (show z9 = 0 ∨ z9 = 1 ∨ z9 = 2 ∨ z9 = 3 ∨ z9 = 4 ∨ z9 = 5 by omega) with c13 | c13 | c13 | c13 | c13 | c13
        · subst c13
          refine yG.load xak rfl (fun _ _ => rfl) (v := yR a3) rfl rfl ?_
          refine yG.getO A_hq.1 (w_FlowS_shape W H_a3) rfl rfl (fun r14 H_r14 O_r14 q_r14 => ?_)
          refine yG.getO A_hq.1 (w_Shape_net W H_r14) rfl rfl (fun r15 H_r15 O_r15 q_r15 => ?_)
          refine yG.load xak rfl (fun _ _ => rfl) (v := yR a2) rfl rfl ?_
          refine yG.getO A_hq.1 (w_FlowS_shape W H_a2) rfl rfl (fun r16 H_r16 O_r16 q_r16 => ?_)
          refine yG.getO A_hq.1 (w_Shape_net W H_r16) rfl rfl (fun r17 H_r17 O_r17 q_r17 => ?_)
          refine yG.invV (rest := []) A_hq.1 (bOb (d_Net W) H_r15) rfl rfl rfl rfl (c_Net_copy W (d + 4) A_hq.1 M_bSh_hq H_r15 H_r17) (fun rv h18 q9 => ?_)
          obtain ⟨q9, M_bSh_h18⟩ := q9
          obtain ⟨⟨rfl, R_z19⟩, B_h18⟩ := q9
          have A_h18 := A_hq.tr B_h18 (by decide)
          have : ys h18 k0 10 = ys hq k0 10 := B_h18.ys H_k0 (by decide)
          have : ys h18 k0 9 = ys hq k0 9 := B_h18.ys H_k0 (by decide)
          have qq1 : zsl h18 k0 7 = yR r6 := (B_h18.sl H_k0 (by decide)).trans q_r6
          have : ys h18 r6 (gg0 : Int).toNat = ys hq r6 (gg0 : Int).toNat := B_h18.ys H_r6 (bNo_ok (by decide) _)
          have qq2 : zsl h18 a3 0 = yR r14 := (B_h18.sl H_a3 (by decide)).trans q_r14
          have qq3 : zsl h18 r14 0 = yR r15 := (B_h18.sl H_r14 (by decide)).trans q_r15
          have qq4 : zsl h18 a2 0 = yR r16 := (B_h18.sl H_a2 (by decide)).trans q_r16
          have qq5 : zsl h18 r16 0 = yR r17 := (B_h18.sl H_r16 (by decide)).trans q_r17
          show yG _ _ _ _ _ _ _ _ _ _ [] _
          refine yG.load xak rfl (fun _ _ => rfl) (v := yR a3) rfl rfl ?_
          refine yG.getS9 A_h18.1 (w_FlowS_shape W H_a3) qq2 rfl rfl ?_
          refine yG.getS9 A_h18.1 (w_Shape_net W H_r14) qq3 rfl rfl ?_
          refine yG.getS (c := 11) rfl rfl ?_
          refine yG.load xik rfl (fun _ _ => rfl) (v := yI (0)) rfl rfl ?_
          refine yG.ialdF A_h18.1 (v_S_Rules_ACT_SORT W (s_S_Rules_ACT_SORT W)) rfl rfl (by omega) (by omega) (fun z20 e_z20 i_z20 l_z20 u_z20 => ?_)
          obtain rfl : z20 = 1 := by omega
          refine yG.load xik rfl (fun _ _ => rfl) (v := yI (z12)) rfl rfl ?_
          refine yG.getS (c := 12) rfl rfl ?_
          refine yG.load xik rfl (fun _ _ => rfl) (v := yI (0)) rfl rfl ?_
          refine yG.ialdF A_h18.1 (v_S_Rules_ACT_FIELD W (s_S_Rules_ACT_FIELD W)) rfl rfl (by omega) (by omega) (fun z21 e_z21 i_z21 l_z21 u_z21 => ?_)
          obtain rfl : z21 = 0 := by omega
          refine yG.invV (rest := []) A_h18.1 (bOb (d_Net W) H_r15) rfl rfl rfl rfl (c_Net_at_1_0 W (d + 5) A_h18.1 H_r15 (z12) (by omega) (by omega)) (fun rv hp9 q9 => ?_)
          obtain ⟨⟨z22, rfl, l_z22, u_z22, R_z22⟩, e9⟩ := q9
          rw [e9]
          show yG _ _ _ _ _ _ _ _ _ _ (yI z22 :: []) _
          refine yG.getS (c := 13) rfl rfl ?_
          refine yG.load xik rfl (fun _ _ => rfl) (v := yI (0)) rfl rfl ?_
          refine yG.ialdF A_h18.1 (v_S_Rules_ACT_VALUE W (s_S_Rules_ACT_VALUE W)) rfl rfl (by omega) (by omega) (fun z23 e_z23 i_z23 l_z23 u_z23 => ?_)
          obtain rfl : z23 = 0 := by omega
          refine yG.icmp rfl (t := 148) rfl ⟨by omega, by omega⟩ ⟨by omega, by omega⟩ (fun c24 => ?_) (fun c24 => ?_)
          · have c24 : (z22 : Int) ≠ 0 := c24
            refine yG.load xak rfl (fun _ _ => rfl) (v := yR a3) rfl rfl ?_
            refine yG.getS9 A_h18.1 (w_FlowS_shape W H_a3) qq2 rfl rfl ?_
            refine yG.getS9 A_h18.1 (w_Shape_net W H_r14) qq3 rfl rfl ?_
            refine yG.getS (c := 11) rfl rfl ?_
            refine yG.load xik rfl (fun _ _ => rfl) (v := yI (0)) rfl rfl ?_
            refine yG.ialdF A_h18.1 (v_S_Rules_ACT_SORT W (s_S_Rules_ACT_SORT W)) rfl rfl (by omega) (by omega) (fun z25 e_z25 i_z25 l_z25 u_z25 => ?_)
            obtain rfl : z25 = 1 := by omega
            refine yG.load xik rfl (fun _ _ => rfl) (v := yI (z12)) rfl rfl ?_
            refine yG.getS (c := 12) rfl rfl ?_
            refine yG.load xik rfl (fun _ _ => rfl) (v := yI (0)) rfl rfl ?_
            refine yG.ialdF A_h18.1 (v_S_Rules_ACT_FIELD W (s_S_Rules_ACT_FIELD W)) rfl rfl (by omega) (by omega) (fun z26 e_z26 i_z26 l_z26 u_z26 => ?_)
            obtain rfl : z26 = 0 := by omega
            refine yG.getS (c := 13) rfl rfl ?_
            refine yG.load xik rfl (fun _ _ => rfl) (v := yI (0)) rfl rfl ?_
            refine yG.ialdF A_h18.1 (v_S_Rules_ACT_VALUE W (s_S_Rules_ACT_VALUE W)) rfl rfl (by omega) (by omega) (fun z27 e_z27 i_z27 l_z27 u_z27 => ?_)
            obtain rfl : z27 = 0 := by omega
            refine yG.invV (rest := []) A_h18.1 (bOb (d_Net W) H_r15) rfl rfl rfl rfl (c_Net_put_1_0 W (d + 5) A_h18.1 H_r15 (z12) (0) (by omega) (by omega) (by omega) (by omega)) (fun rv h28 q9 => ?_)
            obtain ⟨⟨rfl, R_z29⟩, B_h28⟩ := q9
            have A_h28 := A_h18.tr B_h28 (by decide)
            have M_bSh_h28 := M_bSh_h18.fr B_h28 (by decide)
            have : ys h28 k0 10 = ys h18 k0 10 := B_h28.ys H_k0 (by decide)
            have : ys h28 k0 9 = ys h18 k0 9 := B_h28.ys H_k0 (by decide)
            have qq6 : zsl h28 k0 7 = yR r6 := (B_h28.sl H_k0 (by decide)).trans qq1
            have : ys h28 r6 (gg0 : Int).toNat = ys h18 r6 (gg0 : Int).toNat := B_h28.ys H_r6 (bNo_ok (by decide) _)
            have qq7 : zsl h28 a3 0 = yR r14 := (B_h28.sl H_a3 (by decide)).trans qq2
            have qq8 : zsl h28 r14 0 = yR r15 := (B_h28.sl H_r14 (by decide)).trans qq3
            have qq9 : zsl h28 a2 0 = yR r16 := (B_h28.sl H_a2 (by decide)).trans qq4
            have qq10 : zsl h28 r16 0 = yR r17 := (B_h28.sl H_r16 (by decide)).trans qq5
            show yG _ _ _ _ _ _ _ _ _ _ [] _
            refine yG.load xak rfl (fun _ _ => rfl) (v := yR a3) rfl rfl ?_
            refine yG.invV (rest := []) A_h28.1 (bOb (d_FlowS W) H_a3) rfl rfl rfl rfl (c_Flow_look_s W (d + 2) A_h28.1 H_a3) (fun rv h30 q9 => ?_)
            obtain ⟨⟨rfl, R_z31⟩, B_h30⟩ := q9
            have A_h30 := A_h28.tr B_h30 (by decide)
            have M_bSh_h30 := M_bSh_h28.fr B_h30 (by decide)
            have : ys h30 k0 10 = ys h28 k0 10 := B_h30.ys H_k0 (by decide)
            have : ys h30 k0 9 = ys h28 k0 9 := B_h30.ys H_k0 (by decide)
            have qq11 : zsl h30 k0 7 = yR r6 := (B_h30.sl H_k0 (by decide)).trans qq6
            have : ys h30 r6 (gg0 : Int).toNat = ys h28 r6 (gg0 : Int).toNat := B_h30.ys H_r6 (bNo_ok (by decide) _)
            have qq12 : zsl h30 a3 0 = yR r14 := (B_h30.sl H_a3 (by decide)).trans qq7
            have qq13 : zsl h30 r14 0 = yR r15 := (B_h30.sl H_r14 (by decide)).trans qq8
            have qq14 : zsl h30 a2 0 = yR r16 := (B_h30.sl H_a2 (by decide)).trans qq9
            have qq15 : zsl h30 r16 0 = yR r17 := (B_h30.sl H_r16 (by decide)).trans qq10
            show yG _ _ _ _ _ _ _ _ _ _ [] _
            refine yG.load xak rfl (fun _ _ => rfl) (v := yR a3) rfl rfl ?_
            refine yG.invV (rest := []) A_h30.1 (bOb (d_FlowS W) H_a3) rfl rfl rfl rfl (c_Flow_countOver_s W d A_h30.1 H_a3) (fun rv h32 q9 => ?_)
            obtain ⟨⟨rfl, R_z33⟩, B_h32⟩ := q9
            have A_h32 := A_h30.tr B_h32 (by decide)
            have M_bSh_h32 := M_bSh_h30.fr B_h32 (by decide)
            have : ys h32 k0 10 = ys h30 k0 10 := B_h32.ys H_k0 (by decide)
            have : ys h32 k0 9 = ys h30 k0 9 := B_h32.ys H_k0 (by decide)
            have qq16 : zsl h32 k0 7 = yR r6 := (B_h32.sl H_k0 (by decide)).trans qq11
            have : ys h32 r6 (gg0 : Int).toNat = ys h30 r6 (gg0 : Int).toNat := B_h32.ys H_r6 (bNo_ok (by decide) _)
            have qq17 : zsl h32 a3 0 = yR r14 := (B_h32.sl H_a3 (by decide)).trans qq12
            have qq18 : zsl h32 r14 0 = yR r15 := (B_h32.sl H_r14 (by decide)).trans qq13
            have qq19 : zsl h32 a2 0 = yR r16 := (B_h32.sl H_a2 (by decide)).trans qq14
            have qq20 : zsl h32 r16 0 = yR r17 := (B_h32.sl H_r16 (by decide)).trans qq15
            show yG _ _ _ _ _ _ _ _ _ _ [] _
            refine yG.load xak rfl (fun _ _ => rfl) (v := yR k0) rfl rfl ?_
            refine yG.load xak rfl (fun _ _ => rfl) (v := yR k0) rfl rfl ?_
            refine yG.load xik rfl (fun _ _ => rfl) (v := yI (0)) rfl rfl ?_
            refine yG.load xik rfl (fun _ _ => rfl) (v := yI (z12)) rfl rfl ?_
            refine yG.load xak rfl (fun _ _ => rfl) (v := yR a2) rfl rfl ?_
            refine yG.load xak rfl (fun _ _ => rfl) (v := yR a3) rfl rfl ?_
            obtain ⟨r34, H_r34, q_r34⟩ := bFdO (w_Rules_code W H_k0) A_h32.1
            obtain ⟨g35, e_g35⟩ : ∃ z : Int, z = ys h32 k0 6 := ⟨_, rfl⟩
            obtain ⟨-, -, l_g35, u_g35⟩ := (w_Rules_count W H_k0).int A_h32.1
            refine yG.invV (rest := [yR k0]) A_h32.1 (bOb (d_Rules W) H_k0) rfl rfl rfl rfl (c_Rules_firstAgainst_s1 W (d + 1) A_h32.1 (M_bCd.fr A_h32 (by decide)) H_k0 H_a2 H_a3 H_r34 q_r34 (0) (z12) (by omega) (by omega) (by omega) (by omega)) (fun rv hp9 q9 => ?_)
            obtain ⟨⟨z36, rfl, l_z36, u_z36, R_z36⟩, e9⟩ := q9
            rw [e9]
            show yG _ _ _ _ _ _ _ _ _ _ (yI z36 :: [yR k0]) _
            refine yG.putI A_h32.1 (w_Rules_stoppedBy W H_k0) (W.2.1 _ _ H_k0 (by decide) (by decide)) rfl rfl (.inl rfl) ⟨by omega, by omega⟩ (by omega) (by omega) (fun h37 T_h37 b_h37 f_h37 y_h37 => ?_)
            have M_bSh_h37 := M_bSh_h32.fr (bAx.put (Wl := [(162259276829213363391578010288128, 12)]) (bAx.rf A_h32.1) T_h37 b_h37 f_h37 H_k0 (by decide)) (by decide)
            have A_h37 := A_h32.put T_h37 b_h37 f_h37 H_k0 (by decide)
            have : ys h37 k0 10 = ys h32 k0 10 := (y_h37 k0 10).trans (if_neg (fun e => absurd e.2 (by decide)))
            have : ys h37 k0 9 = ys h32 k0 9 := (y_h37 k0 9).trans (if_neg (fun e => absurd e.2 (by decide)))
            have qq21 : zsl h37 k0 7 = yR r6 := ((f_h37 k0 7).trans (if_neg (fun e => absurd e.2 (by decide)))).trans qq16
            have : ys h37 r6 (gg0 : Int).toNat = ys h32 r6 (gg0 : Int).toNat := (y_h37 r6 (gg0 : Int).toNat).trans (if_neg (fun e => (bRo.ne H_r6 H_k0 (by decide)) e.1))
            have qq22 : zsl h37 a3 0 = yR r14 := ((f_h37 a3 0).trans (if_neg (fun e => (bRo.ne H_a3 H_k0 (by decide)) e.1))).trans qq17
            have qq23 : zsl h37 r14 0 = yR r15 := ((f_h37 r14 0).trans (if_neg (fun e => (bRo.ne H_r14 H_k0 (by decide)) e.1))).trans qq18
            have qq24 : zsl h37 a2 0 = yR r16 := ((f_h37 a2 0).trans (if_neg (fun e => (bRo.ne H_a2 H_k0 (by decide)) e.1))).trans qq19
            have qq25 : zsl h37 r16 0 = yR r17 := ((f_h37 r16 0).trans (if_neg (fun e => (bRo.ne H_r16 H_k0 (by decide)) e.1))).trans qq20
            have : ys h37 k0 12 = z36 := (y_h37 k0 12).trans (if_pos ⟨rfl, rfl⟩)
            refine yG.load xak rfl (fun _ _ => rfl) (v := yR k0) rfl rfl ?_
            refine yG.getI A_h37.1 (w_Rules_stoppedBy W H_k0) rfl rfl (fun z38 e_z38 i_z38 l_z38 u_z38 => ?_)
            rw [show (z38 : Int) = z36 by omega]
            refine yG.num (c := -1) rfl (fun _ _ => rfl) (by decide) ?_
            refine yG.icmp rfl (t := 219) rfl ⟨by omega, by omega⟩ ⟨by omega, by omega⟩ (fun c39 => ?_) (fun c39 => ?_)
            · have c39 : (z36 : Int) = (-1) := c39
              refine yG.load xak rfl (fun _ _ => rfl) (v := yR a2) rfl rfl ?_
              refine yG.store1 xak (L' := [(6, yR a2), (5, yI (z12)), (4, yI (0)), (0, yR k0), (2, yR a2), (3, yR a3)]) rfl (fun _ _ => rfl) rfl rfl ?_
              refine yG.load xak rfl (fun _ _ => rfl) (v := yR a3) rfl rfl ?_
              refine yG.store1 xak (L' := [(2, yR a3), (6, yR a2), (5, yI (z12)), (4, yI (0)), (0, yR k0), (3, yR a3)]) rfl (fun _ _ => rfl) rfl rfl ?_
              refine yG.load xak rfl (fun _ _ => rfl) (v := yR a2) rfl rfl ?_
              refine yG.store1 xak (L' := [(3, yR a2), (2, yR a3), (6, yR a2), (5, yI (z12)), (4, yI (0)), (0, yR k0)]) rfl (fun _ _ => rfl) rfl rfl ?_
              refine yG.load xak rfl (fun _ _ => rfl) (v := yR k0) rfl rfl ?_
              refine yG.step (pc' := 229) (stk' := [yR k0, yR k0]) rfl (fun _ _ => rfl) ?_
              refine yG.getI A_h37.1 (w_Rules_done W H_k0) rfl rfl (fun z40 e_z40 i_z40 l_z40 u_z40 => ?_)
              rw [show (z40 : Int) = gg0 by omega]
              refine yG.num (c := 1) rfl (fun _ _ => rfl) (by decide) ?_
              refine yG.iadd rfl ?_
              refine yG.putI A_h37.1 (w_Rules_done W H_k0) (W.2.1 _ _ H_k0 (by decide) (by decide)) rfl rfl (.inl rfl) ⟨by omega, by omega⟩ (by omega) (by omega) (fun h41 T_h41 b_h41 f_h41 y_h41 => ?_)
              have M_bSh_h41 := M_bSh_h37.fr (bAx.put (Wl := [(162259276829213363391578010288128, 10)]) (bAx.rf A_h37.1) T_h41 b_h41 f_h41 H_k0 (by decide)) (by decide)
              have A_h41 := A_h37.put T_h41 b_h41 f_h41 H_k0 (by decide)
              have : ys h41 k0 9 = ys h37 k0 9 := (y_h41 k0 9).trans (if_neg (fun e => absurd e.2 (by decide)))
              have qq26 : zsl h41 k0 7 = yR r6 := ((f_h41 k0 7).trans (if_neg (fun e => absurd e.2 (by decide)))).trans qq21
              have : ys h41 r6 (gg0 : Int).toNat = ys h37 r6 (gg0 : Int).toNat := (y_h41 r6 (gg0 : Int).toNat).trans (if_neg (fun e => (bRo.ne H_r6 H_k0 (by decide)) e.1))
              have qq27 : zsl h41 a3 0 = yR r14 := ((f_h41 a3 0).trans (if_neg (fun e => (bRo.ne H_a3 H_k0 (by decide)) e.1))).trans qq22
              have qq28 : zsl h41 r14 0 = yR r15 := ((f_h41 r14 0).trans (if_neg (fun e => (bRo.ne H_r14 H_k0 (by decide)) e.1))).trans qq23
              have qq29 : zsl h41 a2 0 = yR r16 := ((f_h41 a2 0).trans (if_neg (fun e => (bRo.ne H_a2 H_k0 (by decide)) e.1))).trans qq24
              have qq30 : zsl h41 r16 0 = yR r17 := ((f_h41 r16 0).trans (if_neg (fun e => (bRo.ne H_r16 H_k0 (by decide)) e.1))).trans qq25
              have : ys h41 k0 12 = ys h37 k0 12 := (y_h41 k0 12).trans (if_neg (fun e => absurd e.2 (by decide)))
              have : ys h41 k0 10 = gg0 + 1 := (y_h41 k0 10).trans (if_pos ⟨rfl, rfl⟩)
              refine yG.goto rfl (t := 48) rfl ?_
              exact yG.mono (yG.sub (i_48 a3 a2 (ys h41 k0 10) (ys h41 k0 9) h41 A_h41 M_bSh_h41 H_a3 H_a2 rfl rfl (by omega) (by omega) (by omega) (by omega) (by omega) (by omega)) (ySub.cons rfl (ySub.cons rfl (ySub.cons rfl (ySub.nil))))) (by omega)
            · have c39 : (z36 : Int) ≠ (-1) := c39
              refine yG.load xak rfl (fun _ _ => rfl) (v := yR k0) rfl rfl ?_
              refine yG.load xak rfl (fun _ _ => rfl) (v := yR k0) rfl rfl ?_
              refine yG.getI A_h37.1 (w_Rules_done W H_k0) rfl rfl (fun z42 e_z42 i_z42 l_z42 u_z42 => ?_)
              rw [show (z42 : Int) = gg0 by omega]
              refine yG.putI A_h37.1 (w_Rules_stopped W H_k0) (W.2.1 _ _ H_k0 (by decide) (by decide)) rfl rfl (.inl rfl) ⟨by omega, by omega⟩ (by omega) (by omega) (fun h43 T_h43 b_h43 f_h43 y_h43 => ?_)
              have M_bSh_h43 := M_bSh_h37.fr (bAx.put (Wl := [(162259276829213363391578010288128, 11)]) (bAx.rf A_h37.1) T_h43 b_h43 f_h43 H_k0 (by decide)) (by decide)
              have A_h43 := A_h37.put T_h43 b_h43 f_h43 H_k0 (by decide)
              have : ys h43 k0 10 = ys h37 k0 10 := (y_h43 k0 10).trans (if_neg (fun e => absurd e.2 (by decide)))
              have : ys h43 k0 9 = ys h37 k0 9 := (y_h43 k0 9).trans (if_neg (fun e => absurd e.2 (by decide)))
              have qq31 : zsl h43 k0 7 = yR r6 := ((f_h43 k0 7).trans (if_neg (fun e => absurd e.2 (by decide)))).trans qq21
              have : ys h43 r6 (gg0 : Int).toNat = ys h37 r6 (gg0 : Int).toNat := (y_h43 r6 (gg0 : Int).toNat).trans (if_neg (fun e => (bRo.ne H_r6 H_k0 (by decide)) e.1))
              have qq32 : zsl h43 a3 0 = yR r14 := ((f_h43 a3 0).trans (if_neg (fun e => (bRo.ne H_a3 H_k0 (by decide)) e.1))).trans qq22
              have qq33 : zsl h43 r14 0 = yR r15 := ((f_h43 r14 0).trans (if_neg (fun e => (bRo.ne H_r14 H_k0 (by decide)) e.1))).trans qq23
              have qq34 : zsl h43 a2 0 = yR r16 := ((f_h43 a2 0).trans (if_neg (fun e => (bRo.ne H_a2 H_k0 (by decide)) e.1))).trans qq24
              have qq35 : zsl h43 r16 0 = yR r17 := ((f_h43 r16 0).trans (if_neg (fun e => (bRo.ne H_r16 H_k0 (by decide)) e.1))).trans qq25
              have : ys h43 k0 12 = ys h37 k0 12 := (y_h43 k0 12).trans (if_neg (fun e => absurd e.2 (by decide)))
              refine yG.goto rfl (t := 240) rfl ?_
              refine yG.load xak rfl (fun _ _ => rfl) (v := yR a2) rfl rfl ?_
              refine yG.getS9 A_h43.1 (w_FlowS_shape W H_a2) qq34 rfl rfl ?_
              refine yG.getS9 A_h43.1 (w_Shape_net W H_r16) qq35 rfl rfl ?_
              refine yG.ret rfl (fun _ _ => rfl) ?_
              exact (yP.ref ⟨⟨⟨r17, rfl, H_r17⟩, A_h43⟩, M_bSh_h43⟩)
          · have c24 : (z22 : Int) = 0 := c24
            refine yG.load xak rfl (fun _ _ => rfl) (v := yR k0) rfl rfl ?_
            refine yG.load xak rfl (fun _ _ => rfl) (v := yR k0) rfl rfl ?_
            refine yG.getI A_h18.1 (w_Rules_done W H_k0) rfl rfl (fun z44 e_z44 i_z44 l_z44 u_z44 => ?_)
            rw [show (z44 : Int) = gg0 by omega]
            refine yG.putI A_h18.1 (w_Rules_stopped W H_k0) (W.2.1 _ _ H_k0 (by decide) (by decide)) rfl rfl (.inl rfl) ⟨by omega, by omega⟩ (by omega) (by omega) (fun h45 T_h45 b_h45 f_h45 y_h45 => ?_)
            have M_bSh_h45 := M_bSh_h18.fr (bAx.put (Wl := [(162259276829213363391578010288128, 11)]) (bAx.rf A_h18.1) T_h45 b_h45 f_h45 H_k0 (by decide)) (by decide)
            have A_h45 := A_h18.put T_h45 b_h45 f_h45 H_k0 (by decide)
            have : ys h45 k0 10 = ys h18 k0 10 := (y_h45 k0 10).trans (if_neg (fun e => absurd e.2 (by decide)))
            have : ys h45 k0 9 = ys h18 k0 9 := (y_h45 k0 9).trans (if_neg (fun e => absurd e.2 (by decide)))
            have qq36 : zsl h45 k0 7 = yR r6 := ((f_h45 k0 7).trans (if_neg (fun e => absurd e.2 (by decide)))).trans qq1
            have : ys h45 r6 (gg0 : Int).toNat = ys h18 r6 (gg0 : Int).toNat := (y_h45 r6 (gg0 : Int).toNat).trans (if_neg (fun e => (bRo.ne H_r6 H_k0 (by decide)) e.1))
            have qq37 : zsl h45 a3 0 = yR r14 := ((f_h45 a3 0).trans (if_neg (fun e => (bRo.ne H_a3 H_k0 (by decide)) e.1))).trans qq2
            have qq38 : zsl h45 r14 0 = yR r15 := ((f_h45 r14 0).trans (if_neg (fun e => (bRo.ne H_r14 H_k0 (by decide)) e.1))).trans qq3
            have qq39 : zsl h45 a2 0 = yR r16 := ((f_h45 a2 0).trans (if_neg (fun e => (bRo.ne H_a2 H_k0 (by decide)) e.1))).trans qq4
            have qq40 : zsl h45 r16 0 = yR r17 := ((f_h45 r16 0).trans (if_neg (fun e => (bRo.ne H_r16 H_k0 (by decide)) e.1))).trans qq5
            refine yG.goto rfl (t := 240) rfl ?_
            refine yG.load xak rfl (fun _ _ => rfl) (v := yR a2) rfl rfl ?_
            refine yG.getS9 A_h45.1 (w_FlowS_shape W H_a2) qq39 rfl rfl ?_
            refine yG.getS9 A_h45.1 (w_Shape_net W H_r16) qq40 rfl rfl ?_
            refine yG.ret rfl (fun _ _ => rfl) ?_
            exact (yP.ref ⟨⟨⟨r17, rfl, H_r17⟩, A_h45⟩, M_bSh_h45⟩)
        · subst c13
          refine yG.load xak rfl (fun _ _ => rfl) (v := yR a3) rfl rfl ?_
          refine yG.getO A_hq.1 (w_FlowS_shape W H_a3) rfl rfl (fun r46 H_r46 O_r46 q_r46 => ?_)
          refine yG.getO A_hq.1 (w_Shape_net W H_r46) rfl rfl (fun r47 H_r47 O_r47 q_r47 => ?_)
          refine yG.load xak rfl (fun _ _ => rfl) (v := yR a2) rfl rfl ?_
          refine yG.getO A_hq.1 (w_FlowS_shape W H_a2) rfl rfl (fun r48 H_r48 O_r48 q_r48 => ?_)
          refine yG.getO A_hq.1 (w_Shape_net W H_r48) rfl rfl (fun r49 H_r49 O_r49 q_r49 => ?_)
          refine yG.invV (rest := []) A_hq.1 (bOb (d_Net W) H_r47) rfl rfl rfl rfl (c_Net_copy W (d + 4) A_hq.1 M_bSh_hq H_r47 H_r49) (fun rv h50 q9 => ?_)
          obtain ⟨q9, M_bSh_h50⟩ := q9
          obtain ⟨⟨rfl, R_z51⟩, B_h50⟩ := q9
          have A_h50 := A_hq.tr B_h50 (by decide)
          have : ys h50 k0 10 = ys hq k0 10 := B_h50.ys H_k0 (by decide)
          have : ys h50 k0 9 = ys hq k0 9 := B_h50.ys H_k0 (by decide)
          have qq41 : zsl h50 k0 7 = yR r6 := (B_h50.sl H_k0 (by decide)).trans q_r6
          have : ys h50 r6 (gg0 : Int).toNat = ys hq r6 (gg0 : Int).toNat := B_h50.ys H_r6 (bNo_ok (by decide) _)
          have qq42 : zsl h50 a3 0 = yR r46 := (B_h50.sl H_a3 (by decide)).trans q_r46
          have qq43 : zsl h50 r46 0 = yR r47 := (B_h50.sl H_r46 (by decide)).trans q_r47
          have qq44 : zsl h50 a2 0 = yR r48 := (B_h50.sl H_a2 (by decide)).trans q_r48
          have qq45 : zsl h50 r48 0 = yR r49 := (B_h50.sl H_r48 (by decide)).trans q_r49
          show yG _ _ _ _ _ _ _ _ _ _ [] _
          refine yG.load xak rfl (fun _ _ => rfl) (v := yR a3) rfl rfl ?_
          refine yG.getS9 A_h50.1 (w_FlowS_shape W H_a3) qq42 rfl rfl ?_
          refine yG.getS9 A_h50.1 (w_Shape_net W H_r46) qq43 rfl rfl ?_
          refine yG.getS (c := 11) rfl rfl ?_
          refine yG.load xik rfl (fun _ _ => rfl) (v := yI (1)) rfl rfl ?_
          refine yG.ialdF A_h50.1 (v_S_Rules_ACT_SORT W (s_S_Rules_ACT_SORT W)) rfl rfl (by omega) (by omega) (fun z52 e_z52 i_z52 l_z52 u_z52 => ?_)
          obtain rfl : z52 = 1 := by omega
          refine yG.load xik rfl (fun _ _ => rfl) (v := yI (z12)) rfl rfl ?_
          refine yG.getS (c := 12) rfl rfl ?_
          refine yG.load xik rfl (fun _ _ => rfl) (v := yI (1)) rfl rfl ?_
          refine yG.ialdF A_h50.1 (v_S_Rules_ACT_FIELD W (s_S_Rules_ACT_FIELD W)) rfl rfl (by omega) (by omega) (fun z53 e_z53 i_z53 l_z53 u_z53 => ?_)
          obtain rfl : z53 = 0 := by omega
          refine yG.invV (rest := []) A_h50.1 (bOb (d_Net W) H_r47) rfl rfl rfl rfl (c_Net_at_1_0 W (d + 5) A_h50.1 H_r47 (z12) (by omega) (by omega)) (fun rv hp9 q9 => ?_)
          obtain ⟨⟨z54, rfl, l_z54, u_z54, R_z54⟩, e9⟩ := q9
          rw [e9]
          show yG _ _ _ _ _ _ _ _ _ _ (yI z54 :: []) _
          refine yG.getS (c := 13) rfl rfl ?_
          refine yG.load xik rfl (fun _ _ => rfl) (v := yI (1)) rfl rfl ?_
          refine yG.ialdF A_h50.1 (v_S_Rules_ACT_VALUE W (s_S_Rules_ACT_VALUE W)) rfl rfl (by omega) (by omega) (fun z55 e_z55 i_z55 l_z55 u_z55 => ?_)
          obtain rfl : z55 = 1 := by omega
          refine yG.icmp rfl (t := 148) rfl ⟨by omega, by omega⟩ ⟨by omega, by omega⟩ (fun c56 => ?_) (fun c56 => ?_)
          · have c56 : (z54 : Int) ≠ 1 := c56
            refine yG.load xak rfl (fun _ _ => rfl) (v := yR a3) rfl rfl ?_
            refine yG.getS9 A_h50.1 (w_FlowS_shape W H_a3) qq42 rfl rfl ?_
            refine yG.getS9 A_h50.1 (w_Shape_net W H_r46) qq43 rfl rfl ?_
            refine yG.getS (c := 11) rfl rfl ?_
            refine yG.load xik rfl (fun _ _ => rfl) (v := yI (1)) rfl rfl ?_
            refine yG.ialdF A_h50.1 (v_S_Rules_ACT_SORT W (s_S_Rules_ACT_SORT W)) rfl rfl (by omega) (by omega) (fun z57 e_z57 i_z57 l_z57 u_z57 => ?_)
            obtain rfl : z57 = 1 := by omega
            refine yG.load xik rfl (fun _ _ => rfl) (v := yI (z12)) rfl rfl ?_
            refine yG.getS (c := 12) rfl rfl ?_
            refine yG.load xik rfl (fun _ _ => rfl) (v := yI (1)) rfl rfl ?_
            refine yG.ialdF A_h50.1 (v_S_Rules_ACT_FIELD W (s_S_Rules_ACT_FIELD W)) rfl rfl (by omega) (by omega) (fun z58 e_z58 i_z58 l_z58 u_z58 => ?_)
            obtain rfl : z58 = 0 := by omega
            refine yG.getS (c := 13) rfl rfl ?_
            refine yG.load xik rfl (fun _ _ => rfl) (v := yI (1)) rfl rfl ?_
            refine yG.ialdF A_h50.1 (v_S_Rules_ACT_VALUE W (s_S_Rules_ACT_VALUE W)) rfl rfl (by omega) (by omega) (fun z59 e_z59 i_z59 l_z59 u_z59 => ?_)
            obtain rfl : z59 = 1 := by omega
            refine yG.invV (rest := []) A_h50.1 (bOb (d_Net W) H_r47) rfl rfl rfl rfl (c_Net_put_1_0 W (d + 5) A_h50.1 H_r47 (z12) (1) (by omega) (by omega) (by omega) (by omega)) (fun rv h60 q9 => ?_)
            obtain ⟨⟨rfl, R_z61⟩, B_h60⟩ := q9
            have A_h60 := A_h50.tr B_h60 (by decide)
            have M_bSh_h60 := M_bSh_h50.fr B_h60 (by decide)
            have : ys h60 k0 10 = ys h50 k0 10 := B_h60.ys H_k0 (by decide)
            have : ys h60 k0 9 = ys h50 k0 9 := B_h60.ys H_k0 (by decide)
            have qq46 : zsl h60 k0 7 = yR r6 := (B_h60.sl H_k0 (by decide)).trans qq41
            have : ys h60 r6 (gg0 : Int).toNat = ys h50 r6 (gg0 : Int).toNat := B_h60.ys H_r6 (bNo_ok (by decide) _)
            have qq47 : zsl h60 a3 0 = yR r46 := (B_h60.sl H_a3 (by decide)).trans qq42
            have qq48 : zsl h60 r46 0 = yR r47 := (B_h60.sl H_r46 (by decide)).trans qq43
            have qq49 : zsl h60 a2 0 = yR r48 := (B_h60.sl H_a2 (by decide)).trans qq44
            have qq50 : zsl h60 r48 0 = yR r49 := (B_h60.sl H_r48 (by decide)).trans qq45
            show yG _ _ _ _ _ _ _ _ _ _ [] _
            refine yG.load xak rfl (fun _ _ => rfl) (v := yR a3) rfl rfl ?_
            refine yG.invV (rest := []) A_h60.1 (bOb (d_FlowS W) H_a3) rfl rfl rfl rfl (c_Flow_look_s W (d + 2) A_h60.1 H_a3) (fun rv h62 q9 => ?_)
            obtain ⟨⟨rfl, R_z63⟩, B_h62⟩ := q9
            have A_h62 := A_h60.tr B_h62 (by decide)
            have M_bSh_h62 := M_bSh_h60.fr B_h62 (by decide)
            have : ys h62 k0 10 = ys h60 k0 10 := B_h62.ys H_k0 (by decide)
            have : ys h62 k0 9 = ys h60 k0 9 := B_h62.ys H_k0 (by decide)
            have qq51 : zsl h62 k0 7 = yR r6 := (B_h62.sl H_k0 (by decide)).trans qq46
            have : ys h62 r6 (gg0 : Int).toNat = ys h60 r6 (gg0 : Int).toNat := B_h62.ys H_r6 (bNo_ok (by decide) _)
            have qq52 : zsl h62 a3 0 = yR r46 := (B_h62.sl H_a3 (by decide)).trans qq47
            have qq53 : zsl h62 r46 0 = yR r47 := (B_h62.sl H_r46 (by decide)).trans qq48
            have qq54 : zsl h62 a2 0 = yR r48 := (B_h62.sl H_a2 (by decide)).trans qq49
            have qq55 : zsl h62 r48 0 = yR r49 := (B_h62.sl H_r48 (by decide)).trans qq50
            show yG _ _ _ _ _ _ _ _ _ _ [] _
            refine yG.load xak rfl (fun _ _ => rfl) (v := yR a3) rfl rfl ?_
            refine yG.invV (rest := []) A_h62.1 (bOb (d_FlowS W) H_a3) rfl rfl rfl rfl (c_Flow_countOver_s W d A_h62.1 H_a3) (fun rv h64 q9 => ?_)
            obtain ⟨⟨rfl, R_z65⟩, B_h64⟩ := q9
            have A_h64 := A_h62.tr B_h64 (by decide)
            have M_bSh_h64 := M_bSh_h62.fr B_h64 (by decide)
            have : ys h64 k0 10 = ys h62 k0 10 := B_h64.ys H_k0 (by decide)
            have : ys h64 k0 9 = ys h62 k0 9 := B_h64.ys H_k0 (by decide)
            have qq56 : zsl h64 k0 7 = yR r6 := (B_h64.sl H_k0 (by decide)).trans qq51
            have : ys h64 r6 (gg0 : Int).toNat = ys h62 r6 (gg0 : Int).toNat := B_h64.ys H_r6 (bNo_ok (by decide) _)
            have qq57 : zsl h64 a3 0 = yR r46 := (B_h64.sl H_a3 (by decide)).trans qq52
            have qq58 : zsl h64 r46 0 = yR r47 := (B_h64.sl H_r46 (by decide)).trans qq53
            have qq59 : zsl h64 a2 0 = yR r48 := (B_h64.sl H_a2 (by decide)).trans qq54
            have qq60 : zsl h64 r48 0 = yR r49 := (B_h64.sl H_r48 (by decide)).trans qq55
            show yG _ _ _ _ _ _ _ _ _ _ [] _
            refine yG.load xak rfl (fun _ _ => rfl) (v := yR k0) rfl rfl ?_
            refine yG.load xak rfl (fun _ _ => rfl) (v := yR k0) rfl rfl ?_
            refine yG.load xik rfl (fun _ _ => rfl) (v := yI (1)) rfl rfl ?_
            refine yG.load xik rfl (fun _ _ => rfl) (v := yI (z12)) rfl rfl ?_
            refine yG.load xak rfl (fun _ _ => rfl) (v := yR a2) rfl rfl ?_
            refine yG.load xak rfl (fun _ _ => rfl) (v := yR a3) rfl rfl ?_
            obtain ⟨r66, H_r66, q_r66⟩ := bFdO (w_Rules_code W H_k0) A_h64.1
            obtain ⟨g67, e_g67⟩ : ∃ z : Int, z = ys h64 k0 6 := ⟨_, rfl⟩
            obtain ⟨-, -, l_g67, u_g67⟩ := (w_Rules_count W H_k0).int A_h64.1
            refine yG.invV (rest := [yR k0]) A_h64.1 (bOb (d_Rules W) H_k0) rfl rfl rfl rfl (c_Rules_firstAgainst_s1 W (d + 1) A_h64.1 (M_bCd.fr A_h64 (by decide)) H_k0 H_a2 H_a3 H_r66 q_r66 (1) (z12) (by omega) (by omega) (by omega) (by omega)) (fun rv hp9 q9 => ?_)
            obtain ⟨⟨z68, rfl, l_z68, u_z68, R_z68⟩, e9⟩ := q9
            rw [e9]
            show yG _ _ _ _ _ _ _ _ _ _ (yI z68 :: [yR k0]) _
            refine yG.putI A_h64.1 (w_Rules_stoppedBy W H_k0) (W.2.1 _ _ H_k0 (by decide) (by decide)) rfl rfl (.inl rfl) ⟨by omega, by omega⟩ (by omega) (by omega) (fun h69 T_h69 b_h69 f_h69 y_h69 => ?_)
            have M_bSh_h69 := M_bSh_h64.fr (bAx.put (Wl := [(162259276829213363391578010288128, 12)]) (bAx.rf A_h64.1) T_h69 b_h69 f_h69 H_k0 (by decide)) (by decide)
            have A_h69 := A_h64.put T_h69 b_h69 f_h69 H_k0 (by decide)
            have : ys h69 k0 10 = ys h64 k0 10 := (y_h69 k0 10).trans (if_neg (fun e => absurd e.2 (by decide)))
            have : ys h69 k0 9 = ys h64 k0 9 := (y_h69 k0 9).trans (if_neg (fun e => absurd e.2 (by decide)))
            have qq61 : zsl h69 k0 7 = yR r6 := ((f_h69 k0 7).trans (if_neg (fun e => absurd e.2 (by decide)))).trans qq56
            have : ys h69 r6 (gg0 : Int).toNat = ys h64 r6 (gg0 : Int).toNat := (y_h69 r6 (gg0 : Int).toNat).trans (if_neg (fun e => (bRo.ne H_r6 H_k0 (by decide)) e.1))
            have qq62 : zsl h69 a3 0 = yR r46 := ((f_h69 a3 0).trans (if_neg (fun e => (bRo.ne H_a3 H_k0 (by decide)) e.1))).trans qq57
            have qq63 : zsl h69 r46 0 = yR r47 := ((f_h69 r46 0).trans (if_neg (fun e => (bRo.ne H_r46 H_k0 (by decide)) e.1))).trans qq58
            have qq64 : zsl h69 a2 0 = yR r48 := ((f_h69 a2 0).trans (if_neg (fun e => (bRo.ne H_a2 H_k0 (by decide)) e.1))).trans qq59
            have qq65 : zsl h69 r48 0 = yR r49 := ((f_h69 r48 0).trans (if_neg (fun e => (bRo.ne H_r48 H_k0 (by decide)) e.1))).trans qq60
            have : ys h69 k0 12 = z68 := (y_h69 k0 12).trans (if_pos ⟨rfl, rfl⟩)
            refine yG.load xak rfl (fun _ _ => rfl) (v := yR k0) rfl rfl ?_
            refine yG.getI A_h69.1 (w_Rules_stoppedBy W H_k0) rfl rfl (fun z70 e_z70 i_z70 l_z70 u_z70 => ?_)
            rw [show (z70 : Int) = z68 by omega]
            refine yG.num (c := -1) rfl (fun _ _ => rfl) (by decide) ?_
            refine yG.icmp rfl (t := 219) rfl ⟨by omega, by omega⟩ ⟨by omega, by omega⟩ (fun c71 => ?_) (fun c71 => ?_)
            · have c71 : (z68 : Int) = (-1) := c71
              refine yG.load xak rfl (fun _ _ => rfl) (v := yR a2) rfl rfl ?_
              refine yG.store1 xak (L' := [(6, yR a2), (5, yI (z12)), (4, yI (1)), (0, yR k0), (2, yR a2), (3, yR a3)]) rfl (fun _ _ => rfl) rfl rfl ?_
              refine yG.load xak rfl (fun _ _ => rfl) (v := yR a3) rfl rfl ?_
              refine yG.store1 xak (L' := [(2, yR a3), (6, yR a2), (5, yI (z12)), (4, yI (1)), (0, yR k0), (3, yR a3)]) rfl (fun _ _ => rfl) rfl rfl ?_
              refine yG.load xak rfl (fun _ _ => rfl) (v := yR a2) rfl rfl ?_
              refine yG.store1 xak (L' := [(3, yR a2), (2, yR a3), (6, yR a2), (5, yI (z12)), (4, yI (1)), (0, yR k0)]) rfl (fun _ _ => rfl) rfl rfl ?_
              refine yG.load xak rfl (fun _ _ => rfl) (v := yR k0) rfl rfl ?_
              refine yG.step (pc' := 229) (stk' := [yR k0, yR k0]) rfl (fun _ _ => rfl) ?_
              refine yG.getI A_h69.1 (w_Rules_done W H_k0) rfl rfl (fun z72 e_z72 i_z72 l_z72 u_z72 => ?_)
              rw [show (z72 : Int) = gg0 by omega]
              refine yG.num (c := 1) rfl (fun _ _ => rfl) (by decide) ?_
              refine yG.iadd rfl ?_
              refine yG.putI A_h69.1 (w_Rules_done W H_k0) (W.2.1 _ _ H_k0 (by decide) (by decide)) rfl rfl (.inl rfl) ⟨by omega, by omega⟩ (by omega) (by omega) (fun h73 T_h73 b_h73 f_h73 y_h73 => ?_)
              have M_bSh_h73 := M_bSh_h69.fr (bAx.put (Wl := [(162259276829213363391578010288128, 10)]) (bAx.rf A_h69.1) T_h73 b_h73 f_h73 H_k0 (by decide)) (by decide)
              have A_h73 := A_h69.put T_h73 b_h73 f_h73 H_k0 (by decide)
              have : ys h73 k0 9 = ys h69 k0 9 := (y_h73 k0 9).trans (if_neg (fun e => absurd e.2 (by decide)))
              have qq66 : zsl h73 k0 7 = yR r6 := ((f_h73 k0 7).trans (if_neg (fun e => absurd e.2 (by decide)))).trans qq61
              have : ys h73 r6 (gg0 : Int).toNat = ys h69 r6 (gg0 : Int).toNat := (y_h73 r6 (gg0 : Int).toNat).trans (if_neg (fun e => (bRo.ne H_r6 H_k0 (by decide)) e.1))
              have qq67 : zsl h73 a3 0 = yR r46 := ((f_h73 a3 0).trans (if_neg (fun e => (bRo.ne H_a3 H_k0 (by decide)) e.1))).trans qq62
              have qq68 : zsl h73 r46 0 = yR r47 := ((f_h73 r46 0).trans (if_neg (fun e => (bRo.ne H_r46 H_k0 (by decide)) e.1))).trans qq63
              have qq69 : zsl h73 a2 0 = yR r48 := ((f_h73 a2 0).trans (if_neg (fun e => (bRo.ne H_a2 H_k0 (by decide)) e.1))).trans qq64
              have qq70 : zsl h73 r48 0 = yR r49 := ((f_h73 r48 0).trans (if_neg (fun e => (bRo.ne H_r48 H_k0 (by decide)) e.1))).trans qq65
              have : ys h73 k0 12 = ys h69 k0 12 := (y_h73 k0 12).trans (if_neg (fun e => absurd e.2 (by decide)))
              have : ys h73 k0 10 = gg0 + 1 := (y_h73 k0 10).trans (if_pos ⟨rfl, rfl⟩)
              refine yG.goto rfl (t := 48) rfl ?_
              exact yG.mono (yG.sub (i_48 a3 a2 (ys h73 k0 10) (ys h73 k0 9) h73 A_h73 M_bSh_h73 H_a3 H_a2 rfl rfl (by omega) (by omega) (by omega) (by omega) (by omega) (by omega)) (ySub.cons rfl (ySub.cons rfl (ySub.cons rfl (ySub.nil))))) (by omega)
            · have c71 : (z68 : Int) ≠ (-1) := c71
              refine yG.load xak rfl (fun _ _ => rfl) (v := yR k0) rfl rfl ?_
              refine yG.load xak rfl (fun _ _ => rfl) (v := yR k0) rfl rfl ?_
              refine yG.getI A_h69.1 (w_Rules_done W H_k0) rfl rfl (fun z74 e_z74 i_z74 l_z74 u_z74 => ?_)
              rw [show (z74 : Int) = gg0 by omega]
              refine yG.putI A_h69.1 (w_Rules_stopped W H_k0) (W.2.1 _ _ H_k0 (by decide) (by decide)) rfl rfl (.inl rfl) ⟨by omega, by omega⟩ (by omega) (by omega) (fun h75 T_h75 b_h75 f_h75 y_h75 => ?_)
              have M_bSh_h75 := M_bSh_h69.fr (bAx.put (Wl := [(162259276829213363391578010288128, 11)]) (bAx.rf A_h69.1) T_h75 b_h75 f_h75 H_k0 (by decide)) (by decide)
              have A_h75 := A_h69.put T_h75 b_h75 f_h75 H_k0 (by decide)
              have : ys h75 k0 10 = ys h69 k0 10 := (y_h75 k0 10).trans (if_neg (fun e => absurd e.2 (by decide)))
              have : ys h75 k0 9 = ys h69 k0 9 := (y_h75 k0 9).trans (if_neg (fun e => absurd e.2 (by decide)))
              have qq71 : zsl h75 k0 7 = yR r6 := ((f_h75 k0 7).trans (if_neg (fun e => absurd e.2 (by decide)))).trans qq61
              have : ys h75 r6 (gg0 : Int).toNat = ys h69 r6 (gg0 : Int).toNat := (y_h75 r6 (gg0 : Int).toNat).trans (if_neg (fun e => (bRo.ne H_r6 H_k0 (by decide)) e.1))
              have qq72 : zsl h75 a3 0 = yR r46 := ((f_h75 a3 0).trans (if_neg (fun e => (bRo.ne H_a3 H_k0 (by decide)) e.1))).trans qq62
              have qq73 : zsl h75 r46 0 = yR r47 := ((f_h75 r46 0).trans (if_neg (fun e => (bRo.ne H_r46 H_k0 (by decide)) e.1))).trans qq63
              have qq74 : zsl h75 a2 0 = yR r48 := ((f_h75 a2 0).trans (if_neg (fun e => (bRo.ne H_a2 H_k0 (by decide)) e.1))).trans qq64
              have qq75 : zsl h75 r48 0 = yR r49 := ((f_h75 r48 0).trans (if_neg (fun e => (bRo.ne H_r48 H_k0 (by decide)) e.1))).trans qq65
              have : ys h75 k0 12 = ys h69 k0 12 := (y_h75 k0 12).trans (if_neg (fun e => absurd e.2 (by decide)))
              refine yG.goto rfl (t := 240) rfl ?_
              refine yG.load xak rfl (fun _ _ => rfl) (v := yR a2) rfl rfl ?_
              refine yG.getS9 A_h75.1 (w_FlowS_shape W H_a2) qq74 rfl rfl ?_
              refine yG.getS9 A_h75.1 (w_Shape_net W H_r48) qq75 rfl rfl ?_
              refine yG.ret rfl (fun _ _ => rfl) ?_
              exact (yP.ref ⟨⟨⟨r49, rfl, H_r49⟩, A_h75⟩, M_bSh_h75⟩)
          · have c56 : (z54 : Int) = 1 := c56
            refine yG.load xak rfl (fun _ _ => rfl) (v := yR k0) rfl rfl ?_
            refine yG.load xak rfl (fun _ _ => rfl) (v := yR k0) rfl rfl ?_
            refine yG.getI A_h50.1 (w_Rules_done W H_k0) rfl rfl (fun z76 e_z76 i_z76 l_z76 u_z76 => ?_)
            rw [show (z76 : Int) = gg0 by omega]
            refine yG.putI A_h50.1 (w_Rules_stopped W H_k0) (W.2.1 _ _ H_k0 (by decide) (by decide)) rfl rfl (.inl rfl) ⟨by omega, by omega⟩ (by omega) (by omega) (fun h77 T_h77 b_h77 f_h77 y_h77 => ?_)
            have M_bSh_h77 := M_bSh_h50.fr (bAx.put (Wl := [(162259276829213363391578010288128, 11)]) (bAx.rf A_h50.1) T_h77 b_h77 f_h77 H_k0 (by decide)) (by decide)
            have A_h77 := A_h50.put T_h77 b_h77 f_h77 H_k0 (by decide)
            have : ys h77 k0 10 = ys h50 k0 10 := (y_h77 k0 10).trans (if_neg (fun e => absurd e.2 (by decide)))
            have : ys h77 k0 9 = ys h50 k0 9 := (y_h77 k0 9).trans (if_neg (fun e => absurd e.2 (by decide)))
            have qq76 : zsl h77 k0 7 = yR r6 := ((f_h77 k0 7).trans (if_neg (fun e => absurd e.2 (by decide)))).trans qq41
            have : ys h77 r6 (gg0 : Int).toNat = ys h50 r6 (gg0 : Int).toNat := (y_h77 r6 (gg0 : Int).toNat).trans (if_neg (fun e => (bRo.ne H_r6 H_k0 (by decide)) e.1))
            have qq77 : zsl h77 a3 0 = yR r46 := ((f_h77 a3 0).trans (if_neg (fun e => (bRo.ne H_a3 H_k0 (by decide)) e.1))).trans qq42
            have qq78 : zsl h77 r46 0 = yR r47 := ((f_h77 r46 0).trans (if_neg (fun e => (bRo.ne H_r46 H_k0 (by decide)) e.1))).trans qq43
            have qq79 : zsl h77 a2 0 = yR r48 := ((f_h77 a2 0).trans (if_neg (fun e => (bRo.ne H_a2 H_k0 (by decide)) e.1))).trans qq44
            have qq80 : zsl h77 r48 0 = yR r49 := ((f_h77 r48 0).trans (if_neg (fun e => (bRo.ne H_r48 H_k0 (by decide)) e.1))).trans qq45
            refine yG.goto rfl (t := 240) rfl ?_
            refine yG.load xak rfl (fun _ _ => rfl) (v := yR a2) rfl rfl ?_
            refine yG.getS9 A_h77.1 (w_FlowS_shape W H_a2) qq79 rfl rfl ?_
            refine yG.getS9 A_h77.1 (w_Shape_net W H_r48) qq80 rfl rfl ?_
            refine yG.ret rfl (fun _ _ => rfl) ?_
            exact (yP.ref ⟨⟨⟨r49, rfl, H_r49⟩, A_h77⟩, M_bSh_h77⟩)
        · subst c13
          refine yG.load xak rfl (fun _ _ => rfl) (v := yR a3) rfl rfl ?_
          refine yG.getO A_hq.1 (w_FlowS_shape W H_a3) rfl rfl (fun r78 H_r78 O_r78 q_r78 => ?_)
          refine yG.getO A_hq.1 (w_Shape_net W H_r78) rfl rfl (fun r79 H_r79 O_r79 q_r79 => ?_)
          refine yG.load xak rfl (fun _ _ => rfl) (v := yR a2) rfl rfl ?_
          refine yG.getO A_hq.1 (w_FlowS_shape W H_a2) rfl rfl (fun r80 H_r80 O_r80 q_r80 => ?_)
          refine yG.getO A_hq.1 (w_Shape_net W H_r80) rfl rfl (fun r81 H_r81 O_r81 q_r81 => ?_)
          refine yG.invV (rest := []) A_hq.1 (bOb (d_Net W) H_r79) rfl rfl rfl rfl (c_Net_copy W (d + 4) A_hq.1 M_bSh_hq H_r79 H_r81) (fun rv h82 q9 => ?_)
          obtain ⟨q9, M_bSh_h82⟩ := q9
          obtain ⟨⟨rfl, R_z83⟩, B_h82⟩ := q9
          have A_h82 := A_hq.tr B_h82 (by decide)
          have : ys h82 k0 10 = ys hq k0 10 := B_h82.ys H_k0 (by decide)
          have : ys h82 k0 9 = ys hq k0 9 := B_h82.ys H_k0 (by decide)
          have qq81 : zsl h82 k0 7 = yR r6 := (B_h82.sl H_k0 (by decide)).trans q_r6
          have : ys h82 r6 (gg0 : Int).toNat = ys hq r6 (gg0 : Int).toNat := B_h82.ys H_r6 (bNo_ok (by decide) _)
          have qq82 : zsl h82 a3 0 = yR r78 := (B_h82.sl H_a3 (by decide)).trans q_r78
          have qq83 : zsl h82 r78 0 = yR r79 := (B_h82.sl H_r78 (by decide)).trans q_r79
          have qq84 : zsl h82 a2 0 = yR r80 := (B_h82.sl H_a2 (by decide)).trans q_r80
          have qq85 : zsl h82 r80 0 = yR r81 := (B_h82.sl H_r80 (by decide)).trans q_r81
          show yG _ _ _ _ _ _ _ _ _ _ [] _
          refine yG.load xak rfl (fun _ _ => rfl) (v := yR a3) rfl rfl ?_
          refine yG.getS9 A_h82.1 (w_FlowS_shape W H_a3) qq82 rfl rfl ?_
          refine yG.getS9 A_h82.1 (w_Shape_net W H_r78) qq83 rfl rfl ?_
          refine yG.getS (c := 11) rfl rfl ?_
          refine yG.load xik rfl (fun _ _ => rfl) (v := yI (2)) rfl rfl ?_
          refine yG.ialdF A_h82.1 (v_S_Rules_ACT_SORT W (s_S_Rules_ACT_SORT W)) rfl rfl (by omega) (by omega) (fun z84 e_z84 i_z84 l_z84 u_z84 => ?_)
          obtain rfl : z84 = 0 := by omega
          refine yG.load xik rfl (fun _ _ => rfl) (v := yI (z12)) rfl rfl ?_
          refine yG.getS (c := 12) rfl rfl ?_
          refine yG.load xik rfl (fun _ _ => rfl) (v := yI (2)) rfl rfl ?_
          refine yG.ialdF A_h82.1 (v_S_Rules_ACT_FIELD W (s_S_Rules_ACT_FIELD W)) rfl rfl (by omega) (by omega) (fun z85 e_z85 i_z85 l_z85 u_z85 => ?_)
          obtain rfl : z85 = 0 := by omega
          refine yG.invV (rest := []) A_h82.1 (bOb (d_Net W) H_r79) rfl rfl rfl rfl (c_Net_at_0_0 W (d + 5) A_h82.1 H_r79 (z12) (by omega) (by omega)) (fun rv hp9 q9 => ?_)
          obtain ⟨⟨z86, rfl, l_z86, u_z86, R_z86⟩, e9⟩ := q9
          rw [e9]
          show yG _ _ _ _ _ _ _ _ _ _ (yI z86 :: []) _
          refine yG.getS (c := 13) rfl rfl ?_
          refine yG.load xik rfl (fun _ _ => rfl) (v := yI (2)) rfl rfl ?_
          refine yG.ialdF A_h82.1 (v_S_Rules_ACT_VALUE W (s_S_Rules_ACT_VALUE W)) rfl rfl (by omega) (by omega) (fun z87 e_z87 i_z87 l_z87 u_z87 => ?_)
          obtain rfl : z87 = 1 := by omega
          refine yG.icmp rfl (t := 148) rfl ⟨by omega, by omega⟩ ⟨by omega, by omega⟩ (fun c88 => ?_) (fun c88 => ?_)
          · have c88 : (z86 : Int) ≠ 1 := c88
            refine yG.load xak rfl (fun _ _ => rfl) (v := yR a3) rfl rfl ?_
            refine yG.getS9 A_h82.1 (w_FlowS_shape W H_a3) qq82 rfl rfl ?_
            refine yG.getS9 A_h82.1 (w_Shape_net W H_r78) qq83 rfl rfl ?_
            refine yG.getS (c := 11) rfl rfl ?_
            refine yG.load xik rfl (fun _ _ => rfl) (v := yI (2)) rfl rfl ?_
            refine yG.ialdF A_h82.1 (v_S_Rules_ACT_SORT W (s_S_Rules_ACT_SORT W)) rfl rfl (by omega) (by omega) (fun z89 e_z89 i_z89 l_z89 u_z89 => ?_)
            obtain rfl : z89 = 0 := by omega
            refine yG.load xik rfl (fun _ _ => rfl) (v := yI (z12)) rfl rfl ?_
            refine yG.getS (c := 12) rfl rfl ?_
            refine yG.load xik rfl (fun _ _ => rfl) (v := yI (2)) rfl rfl ?_
            refine yG.ialdF A_h82.1 (v_S_Rules_ACT_FIELD W (s_S_Rules_ACT_FIELD W)) rfl rfl (by omega) (by omega) (fun z90 e_z90 i_z90 l_z90 u_z90 => ?_)
            obtain rfl : z90 = 0 := by omega
            refine yG.getS (c := 13) rfl rfl ?_
            refine yG.load xik rfl (fun _ _ => rfl) (v := yI (2)) rfl rfl ?_
            refine yG.ialdF A_h82.1 (v_S_Rules_ACT_VALUE W (s_S_Rules_ACT_VALUE W)) rfl rfl (by omega) (by omega) (fun z91 e_z91 i_z91 l_z91 u_z91 => ?_)
            obtain rfl : z91 = 1 := by omega
            refine yG.invV (rest := []) A_h82.1 (bOb (d_Net W) H_r79) rfl rfl rfl rfl (c_Net_put_0_0 W (d + 5) A_h82.1 H_r79 (z12) (1) (by omega) (by omega) (by omega) (by omega)) (fun rv h92 q9 => ?_)
            obtain ⟨⟨rfl, R_z93⟩, B_h92⟩ := q9
            have A_h92 := A_h82.tr B_h92 (by decide)
            have M_bSh_h92 := M_bSh_h82.fr B_h92 (by decide)
            have : ys h92 k0 10 = ys h82 k0 10 := B_h92.ys H_k0 (by decide)
            have : ys h92 k0 9 = ys h82 k0 9 := B_h92.ys H_k0 (by decide)
            have qq86 : zsl h92 k0 7 = yR r6 := (B_h92.sl H_k0 (by decide)).trans qq81
            have : ys h92 r6 (gg0 : Int).toNat = ys h82 r6 (gg0 : Int).toNat := B_h92.ys H_r6 (bNo_ok (by decide) _)
            have qq87 : zsl h92 a3 0 = yR r78 := (B_h92.sl H_a3 (by decide)).trans qq82
            have qq88 : zsl h92 r78 0 = yR r79 := (B_h92.sl H_r78 (by decide)).trans qq83
            have qq89 : zsl h92 a2 0 = yR r80 := (B_h92.sl H_a2 (by decide)).trans qq84
            have qq90 : zsl h92 r80 0 = yR r81 := (B_h92.sl H_r80 (by decide)).trans qq85
            show yG _ _ _ _ _ _ _ _ _ _ [] _
            refine yG.load xak rfl (fun _ _ => rfl) (v := yR a3) rfl rfl ?_
            refine yG.invV (rest := []) A_h92.1 (bOb (d_FlowS W) H_a3) rfl rfl rfl rfl (c_Flow_look_s W (d + 2) A_h92.1 H_a3) (fun rv h94 q9 => ?_)
            obtain ⟨⟨rfl, R_z95⟩, B_h94⟩ := q9
            have A_h94 := A_h92.tr B_h94 (by decide)
            have M_bSh_h94 := M_bSh_h92.fr B_h94 (by decide)
            have : ys h94 k0 10 = ys h92 k0 10 := B_h94.ys H_k0 (by decide)
            have : ys h94 k0 9 = ys h92 k0 9 := B_h94.ys H_k0 (by decide)
            have qq91 : zsl h94 k0 7 = yR r6 := (B_h94.sl H_k0 (by decide)).trans qq86
            have : ys h94 r6 (gg0 : Int).toNat = ys h92 r6 (gg0 : Int).toNat := B_h94.ys H_r6 (bNo_ok (by decide) _)
            have qq92 : zsl h94 a3 0 = yR r78 := (B_h94.sl H_a3 (by decide)).trans qq87
            have qq93 : zsl h94 r78 0 = yR r79 := (B_h94.sl H_r78 (by decide)).trans qq88
            have qq94 : zsl h94 a2 0 = yR r80 := (B_h94.sl H_a2 (by decide)).trans qq89
            have qq95 : zsl h94 r80 0 = yR r81 := (B_h94.sl H_r80 (by decide)).trans qq90
            show yG _ _ _ _ _ _ _ _ _ _ [] _
            refine yG.load xak rfl (fun _ _ => rfl) (v := yR a3) rfl rfl ?_
            refine yG.invV (rest := []) A_h94.1 (bOb (d_FlowS W) H_a3) rfl rfl rfl rfl (c_Flow_countOver_s W d A_h94.1 H_a3) (fun rv h96 q9 => ?_)
            obtain ⟨⟨rfl, R_z97⟩, B_h96⟩ := q9
            have A_h96 := A_h94.tr B_h96 (by decide)
            have M_bSh_h96 := M_bSh_h94.fr B_h96 (by decide)
            have : ys h96 k0 10 = ys h94 k0 10 := B_h96.ys H_k0 (by decide)
            have : ys h96 k0 9 = ys h94 k0 9 := B_h96.ys H_k0 (by decide)
            have qq96 : zsl h96 k0 7 = yR r6 := (B_h96.sl H_k0 (by decide)).trans qq91
            have : ys h96 r6 (gg0 : Int).toNat = ys h94 r6 (gg0 : Int).toNat := B_h96.ys H_r6 (bNo_ok (by decide) _)
            have qq97 : zsl h96 a3 0 = yR r78 := (B_h96.sl H_a3 (by decide)).trans qq92
            have qq98 : zsl h96 r78 0 = yR r79 := (B_h96.sl H_r78 (by decide)).trans qq93
            have qq99 : zsl h96 a2 0 = yR r80 := (B_h96.sl H_a2 (by decide)).trans qq94
            have qq100 : zsl h96 r80 0 = yR r81 := (B_h96.sl H_r80 (by decide)).trans qq95
            show yG _ _ _ _ _ _ _ _ _ _ [] _
            refine yG.load xak rfl (fun _ _ => rfl) (v := yR k0) rfl rfl ?_
            refine yG.load xak rfl (fun _ _ => rfl) (v := yR k0) rfl rfl ?_
            refine yG.load xik rfl (fun _ _ => rfl) (v := yI (2)) rfl rfl ?_
            refine yG.load xik rfl (fun _ _ => rfl) (v := yI (z12)) rfl rfl ?_
            refine yG.load xak rfl (fun _ _ => rfl) (v := yR a2) rfl rfl ?_
            refine yG.load xak rfl (fun _ _ => rfl) (v := yR a3) rfl rfl ?_
            obtain ⟨r98, H_r98, q_r98⟩ := bFdO (w_Rules_code W H_k0) A_h96.1
            obtain ⟨g99, e_g99⟩ : ∃ z : Int, z = ys h96 k0 6 := ⟨_, rfl⟩
            obtain ⟨-, -, l_g99, u_g99⟩ := (w_Rules_count W H_k0).int A_h96.1
            refine yG.invV (rest := [yR k0]) A_h96.1 (bOb (d_Rules W) H_k0) rfl rfl rfl rfl (c_Rules_firstAgainst_b W (d + 1) A_h96.1 (M_bCd.fr A_h96 (by decide)) H_k0 H_a2 H_a3 H_r98 q_r98 (2) (z12) (by omega) (by omega) (by omega) (by omega)) (fun rv hp9 q9 => ?_)
            obtain ⟨⟨z100, rfl, l_z100, u_z100, R_z100⟩, e9⟩ := q9
            rw [e9]
            show yG _ _ _ _ _ _ _ _ _ _ (yI z100 :: [yR k0]) _
            refine yG.putI A_h96.1 (w_Rules_stoppedBy W H_k0) (W.2.1 _ _ H_k0 (by decide) (by decide)) rfl rfl (.inl rfl) ⟨by omega, by omega⟩ (by omega) (by omega) (fun h101 T_h101 b_h101 f_h101 y_h101 => ?_)
            have M_bSh_h101 := M_bSh_h96.fr (bAx.put (Wl := [(162259276829213363391578010288128, 12)]) (bAx.rf A_h96.1) T_h101 b_h101 f_h101 H_k0 (by decide)) (by decide)
            have A_h101 := A_h96.put T_h101 b_h101 f_h101 H_k0 (by decide)
            have : ys h101 k0 10 = ys h96 k0 10 := (y_h101 k0 10).trans (if_neg (fun e => absurd e.2 (by decide)))
            have : ys h101 k0 9 = ys h96 k0 9 := (y_h101 k0 9).trans (if_neg (fun e => absurd e.2 (by decide)))
            have qq101 : zsl h101 k0 7 = yR r6 := ((f_h101 k0 7).trans (if_neg (fun e => absurd e.2 (by decide)))).trans qq96
            have : ys h101 r6 (gg0 : Int).toNat = ys h96 r6 (gg0 : Int).toNat := (y_h101 r6 (gg0 : Int).toNat).trans (if_neg (fun e => (bRo.ne H_r6 H_k0 (by decide)) e.1))
            have qq102 : zsl h101 a3 0 = yR r78 := ((f_h101 a3 0).trans (if_neg (fun e => (bRo.ne H_a3 H_k0 (by decide)) e.1))).trans qq97
            have qq103 : zsl h101 r78 0 = yR r79 := ((f_h101 r78 0).trans (if_neg (fun e => (bRo.ne H_r78 H_k0 (by decide)) e.1))).trans qq98
            have qq104 : zsl h101 a2 0 = yR r80 := ((f_h101 a2 0).trans (if_neg (fun e => (bRo.ne H_a2 H_k0 (by decide)) e.1))).trans qq99
            have qq105 : zsl h101 r80 0 = yR r81 := ((f_h101 r80 0).trans (if_neg (fun e => (bRo.ne H_r80 H_k0 (by decide)) e.1))).trans qq100
            have : ys h101 k0 12 = z100 := (y_h101 k0 12).trans (if_pos ⟨rfl, rfl⟩)
            refine yG.load xak rfl (fun _ _ => rfl) (v := yR k0) rfl rfl ?_
            refine yG.getI A_h101.1 (w_Rules_stoppedBy W H_k0) rfl rfl (fun z102 e_z102 i_z102 l_z102 u_z102 => ?_)
            rw [show (z102 : Int) = z100 by omega]
            refine yG.num (c := -1) rfl (fun _ _ => rfl) (by decide) ?_
            refine yG.icmp rfl (t := 219) rfl ⟨by omega, by omega⟩ ⟨by omega, by omega⟩ (fun c103 => ?_) (fun c103 => ?_)
            · have c103 : (z100 : Int) = (-1) := c103
              refine yG.load xak rfl (fun _ _ => rfl) (v := yR a2) rfl rfl ?_
              refine yG.store1 xak (L' := [(6, yR a2), (5, yI (z12)), (4, yI (2)), (0, yR k0), (2, yR a2), (3, yR a3)]) rfl (fun _ _ => rfl) rfl rfl ?_
              refine yG.load xak rfl (fun _ _ => rfl) (v := yR a3) rfl rfl ?_
              refine yG.store1 xak (L' := [(2, yR a3), (6, yR a2), (5, yI (z12)), (4, yI (2)), (0, yR k0), (3, yR a3)]) rfl (fun _ _ => rfl) rfl rfl ?_
              refine yG.load xak rfl (fun _ _ => rfl) (v := yR a2) rfl rfl ?_
              refine yG.store1 xak (L' := [(3, yR a2), (2, yR a3), (6, yR a2), (5, yI (z12)), (4, yI (2)), (0, yR k0)]) rfl (fun _ _ => rfl) rfl rfl ?_
              refine yG.load xak rfl (fun _ _ => rfl) (v := yR k0) rfl rfl ?_
              refine yG.step (pc' := 229) (stk' := [yR k0, yR k0]) rfl (fun _ _ => rfl) ?_
              refine yG.getI A_h101.1 (w_Rules_done W H_k0) rfl rfl (fun z104 e_z104 i_z104 l_z104 u_z104 => ?_)
              rw [show (z104 : Int) = gg0 by omega]
              refine yG.num (c := 1) rfl (fun _ _ => rfl) (by decide) ?_
              refine yG.iadd rfl ?_
              refine yG.putI A_h101.1 (w_Rules_done W H_k0) (W.2.1 _ _ H_k0 (by decide) (by decide)) rfl rfl (.inl rfl) ⟨by omega, by omega⟩ (by omega) (by omega) (fun h105 T_h105 b_h105 f_h105 y_h105 => ?_)
              have M_bSh_h105 := M_bSh_h101.fr (bAx.put (Wl := [(162259276829213363391578010288128, 10)]) (bAx.rf A_h101.1) T_h105 b_h105 f_h105 H_k0 (by decide)) (by decide)
              have A_h105 := A_h101.put T_h105 b_h105 f_h105 H_k0 (by decide)
              have : ys h105 k0 9 = ys h101 k0 9 := (y_h105 k0 9).trans (if_neg (fun e => absurd e.2 (by decide)))
              have qq106 : zsl h105 k0 7 = yR r6 := ((f_h105 k0 7).trans (if_neg (fun e => absurd e.2 (by decide)))).trans qq101
              have : ys h105 r6 (gg0 : Int).toNat = ys h101 r6 (gg0 : Int).toNat := (y_h105 r6 (gg0 : Int).toNat).trans (if_neg (fun e => (bRo.ne H_r6 H_k0 (by decide)) e.1))
              have qq107 : zsl h105 a3 0 = yR r78 := ((f_h105 a3 0).trans (if_neg (fun e => (bRo.ne H_a3 H_k0 (by decide)) e.1))).trans qq102
              have qq108 : zsl h105 r78 0 = yR r79 := ((f_h105 r78 0).trans (if_neg (fun e => (bRo.ne H_r78 H_k0 (by decide)) e.1))).trans qq103
              have qq109 : zsl h105 a2 0 = yR r80 := ((f_h105 a2 0).trans (if_neg (fun e => (bRo.ne H_a2 H_k0 (by decide)) e.1))).trans qq104
              have qq110 : zsl h105 r80 0 = yR r81 := ((f_h105 r80 0).trans (if_neg (fun e => (bRo.ne H_r80 H_k0 (by decide)) e.1))).trans qq105
              have : ys h105 k0 12 = ys h101 k0 12 := (y_h105 k0 12).trans (if_neg (fun e => absurd e.2 (by decide)))
              have : ys h105 k0 10 = gg0 + 1 := (y_h105 k0 10).trans (if_pos ⟨rfl, rfl⟩)
              refine yG.goto rfl (t := 48) rfl ?_
              exact yG.mono (yG.sub (i_48 a3 a2 (ys h105 k0 10) (ys h105 k0 9) h105 A_h105 M_bSh_h105 H_a3 H_a2 rfl rfl (by omega) (by omega) (by omega) (by omega) (by omega) (by omega)) (ySub.cons rfl (ySub.cons rfl (ySub.cons rfl (ySub.nil))))) (by omega)
            · have c103 : (z100 : Int) ≠ (-1) := c103
              refine yG.load xak rfl (fun _ _ => rfl) (v := yR k0) rfl rfl ?_
              refine yG.load xak rfl (fun _ _ => rfl) (v := yR k0) rfl rfl ?_
              refine yG.getI A_h101.1 (w_Rules_done W H_k0) rfl rfl (fun z106 e_z106 i_z106 l_z106 u_z106 => ?_)
              rw [show (z106 : Int) = gg0 by omega]
              refine yG.putI A_h101.1 (w_Rules_stopped W H_k0) (W.2.1 _ _ H_k0 (by decide) (by decide)) rfl rfl (.inl rfl) ⟨by omega, by omega⟩ (by omega) (by omega) (fun h107 T_h107 b_h107 f_h107 y_h107 => ?_)
              have M_bSh_h107 := M_bSh_h101.fr (bAx.put (Wl := [(162259276829213363391578010288128, 11)]) (bAx.rf A_h101.1) T_h107 b_h107 f_h107 H_k0 (by decide)) (by decide)
              have A_h107 := A_h101.put T_h107 b_h107 f_h107 H_k0 (by decide)
              have : ys h107 k0 10 = ys h101 k0 10 := (y_h107 k0 10).trans (if_neg (fun e => absurd e.2 (by decide)))
              have : ys h107 k0 9 = ys h101 k0 9 := (y_h107 k0 9).trans (if_neg (fun e => absurd e.2 (by decide)))
              have qq111 : zsl h107 k0 7 = yR r6 := ((f_h107 k0 7).trans (if_neg (fun e => absurd e.2 (by decide)))).trans qq101
              have : ys h107 r6 (gg0 : Int).toNat = ys h101 r6 (gg0 : Int).toNat := (y_h107 r6 (gg0 : Int).toNat).trans (if_neg (fun e => (bRo.ne H_r6 H_k0 (by decide)) e.1))
              have qq112 : zsl h107 a3 0 = yR r78 := ((f_h107 a3 0).trans (if_neg (fun e => (bRo.ne H_a3 H_k0 (by decide)) e.1))).trans qq102
              have qq113 : zsl h107 r78 0 = yR r79 := ((f_h107 r78 0).trans (if_neg (fun e => (bRo.ne H_r78 H_k0 (by decide)) e.1))).trans qq103
              have qq114 : zsl h107 a2 0 = yR r80 := ((f_h107 a2 0).trans (if_neg (fun e => (bRo.ne H_a2 H_k0 (by decide)) e.1))).trans qq104
              have qq115 : zsl h107 r80 0 = yR r81 := ((f_h107 r80 0).trans (if_neg (fun e => (bRo.ne H_r80 H_k0 (by decide)) e.1))).trans qq105
              have : ys h107 k0 12 = ys h101 k0 12 := (y_h107 k0 12).trans (if_neg (fun e => absurd e.2 (by decide)))
              refine yG.goto rfl (t := 240) rfl ?_
              refine yG.load xak rfl (fun _ _ => rfl) (v := yR a2) rfl rfl ?_
              refine yG.getS9 A_h107.1 (w_FlowS_shape W H_a2) qq114 rfl rfl ?_
              refine yG.getS9 A_h107.1 (w_Shape_net W H_r80) qq115 rfl rfl ?_
              refine yG.ret rfl (fun _ _ => rfl) ?_
              exact (yP.ref ⟨⟨⟨r81, rfl, H_r81⟩, A_h107⟩, M_bSh_h107⟩)
          · have c88 : (z86 : Int) = 1 := c88
            refine yG.load xak rfl (fun _ _ => rfl) (v := yR k0) rfl rfl ?_
            refine yG.load xak rfl (fun _ _ => rfl) (v := yR k0) rfl rfl ?_
            refine yG.getI A_h82.1 (w_Rules_done W H_k0) rfl rfl (fun z108 e_z108 i_z108 l_z108 u_z108 => ?_)
            rw [show (z108 : Int) = gg0 by omega]
            refine yG.putI A_h82.1 (w_Rules_stopped W H_k0) (W.2.1 _ _ H_k0 (by decide) (by decide)) rfl rfl (.inl rfl) ⟨by omega, by omega⟩ (by omega) (by omega) (fun h109 T_h109 b_h109 f_h109 y_h109 => ?_)
            have M_bSh_h109 := M_bSh_h82.fr (bAx.put (Wl := [(162259276829213363391578010288128, 11)]) (bAx.rf A_h82.1) T_h109 b_h109 f_h109 H_k0 (by decide)) (by decide)
            have A_h109 := A_h82.put T_h109 b_h109 f_h109 H_k0 (by decide)
            have : ys h109 k0 10 = ys h82 k0 10 := (y_h109 k0 10).trans (if_neg (fun e => absurd e.2 (by decide)))
            have : ys h109 k0 9 = ys h82 k0 9 := (y_h109 k0 9).trans (if_neg (fun e => absurd e.2 (by decide)))
            have qq116 : zsl h109 k0 7 = yR r6 := ((f_h109 k0 7).trans (if_neg (fun e => absurd e.2 (by decide)))).trans qq81
            have : ys h109 r6 (gg0 : Int).toNat = ys h82 r6 (gg0 : Int).toNat := (y_h109 r6 (gg0 : Int).toNat).trans (if_neg (fun e => (bRo.ne H_r6 H_k0 (by decide)) e.1))
            have qq117 : zsl h109 a3 0 = yR r78 := ((f_h109 a3 0).trans (if_neg (fun e => (bRo.ne H_a3 H_k0 (by decide)) e.1))).trans qq82
            have qq118 : zsl h109 r78 0 = yR r79 := ((f_h109 r78 0).trans (if_neg (fun e => (bRo.ne H_r78 H_k0 (by decide)) e.1))).trans qq83
            have qq119 : zsl h109 a2 0 = yR r80 := ((f_h109 a2 0).trans (if_neg (fun e => (bRo.ne H_a2 H_k0 (by decide)) e.1))).trans qq84
            have qq120 : zsl h109 r80 0 = yR r81 := ((f_h109 r80 0).trans (if_neg (fun e => (bRo.ne H_r80 H_k0 (by decide)) e.1))).trans qq85
            refine yG.goto rfl (t := 240) rfl ?_
            refine yG.load xak rfl (fun _ _ => rfl) (v := yR a2) rfl rfl ?_
            refine yG.getS9 A_h109.1 (w_FlowS_shape W H_a2) qq119 rfl rfl ?_
            refine yG.getS9 A_h109.1 (w_Shape_net W H_r80) qq120 rfl rfl ?_
            refine yG.ret rfl (fun _ _ => rfl) ?_
            exact (yP.ref ⟨⟨⟨r81, rfl, H_r81⟩, A_h109⟩, M_bSh_h109⟩)
        · subst c13
          refine yG.load xak rfl (fun _ _ => rfl) (v := yR a3) rfl rfl ?_
          refine yG.getO A_hq.1 (w_FlowS_shape W H_a3) rfl rfl (fun r110 H_r110 O_r110 q_r110 => ?_)
          refine yG.getO A_hq.1 (w_Shape_net W H_r110) rfl rfl (fun r111 H_r111 O_r111 q_r111 => ?_)
          refine yG.load xak rfl (fun _ _ => rfl) (v := yR a2) rfl rfl ?_
          refine yG.getO A_hq.1 (w_FlowS_shape W H_a2) rfl rfl (fun r112 H_r112 O_r112 q_r112 => ?_)
          refine yG.getO A_hq.1 (w_Shape_net W H_r112) rfl rfl (fun r113 H_r113 O_r113 q_r113 => ?_)
          refine yG.invV (rest := []) A_hq.1 (bOb (d_Net W) H_r111) rfl rfl rfl rfl (c_Net_copy W (d + 4) A_hq.1 M_bSh_hq H_r111 H_r113) (fun rv h114 q9 => ?_)
          obtain ⟨q9, M_bSh_h114⟩ := q9
          obtain ⟨⟨rfl, R_z115⟩, B_h114⟩ := q9
          have A_h114 := A_hq.tr B_h114 (by decide)
          have : ys h114 k0 10 = ys hq k0 10 := B_h114.ys H_k0 (by decide)
          have : ys h114 k0 9 = ys hq k0 9 := B_h114.ys H_k0 (by decide)
          have qq121 : zsl h114 k0 7 = yR r6 := (B_h114.sl H_k0 (by decide)).trans q_r6
          have : ys h114 r6 (gg0 : Int).toNat = ys hq r6 (gg0 : Int).toNat := B_h114.ys H_r6 (bNo_ok (by decide) _)
          have qq122 : zsl h114 a3 0 = yR r110 := (B_h114.sl H_a3 (by decide)).trans q_r110
          have qq123 : zsl h114 r110 0 = yR r111 := (B_h114.sl H_r110 (by decide)).trans q_r111
          have qq124 : zsl h114 a2 0 = yR r112 := (B_h114.sl H_a2 (by decide)).trans q_r112
          have qq125 : zsl h114 r112 0 = yR r113 := (B_h114.sl H_r112 (by decide)).trans q_r113
          show yG _ _ _ _ _ _ _ _ _ _ [] _
          refine yG.load xak rfl (fun _ _ => rfl) (v := yR a3) rfl rfl ?_
          refine yG.getS9 A_h114.1 (w_FlowS_shape W H_a3) qq122 rfl rfl ?_
          refine yG.getS9 A_h114.1 (w_Shape_net W H_r110) qq123 rfl rfl ?_
          refine yG.getS (c := 11) rfl rfl ?_
          refine yG.load xik rfl (fun _ _ => rfl) (v := yI (3)) rfl rfl ?_
          refine yG.ialdF A_h114.1 (v_S_Rules_ACT_SORT W (s_S_Rules_ACT_SORT W)) rfl rfl (by omega) (by omega) (fun z116 e_z116 i_z116 l_z116 u_z116 => ?_)
          obtain rfl : z116 = 0 := by omega
          refine yG.load xik rfl (fun _ _ => rfl) (v := yI (z12)) rfl rfl ?_
          refine yG.getS (c := 12) rfl rfl ?_
          refine yG.load xik rfl (fun _ _ => rfl) (v := yI (3)) rfl rfl ?_
          refine yG.ialdF A_h114.1 (v_S_Rules_ACT_FIELD W (s_S_Rules_ACT_FIELD W)) rfl rfl (by omega) (by omega) (fun z117 e_z117 i_z117 l_z117 u_z117 => ?_)
          obtain rfl : z117 = 0 := by omega
          refine yG.invV (rest := []) A_h114.1 (bOb (d_Net W) H_r111) rfl rfl rfl rfl (c_Net_at_0_0 W (d + 5) A_h114.1 H_r111 (z12) (by omega) (by omega)) (fun rv hp9 q9 => ?_)
          obtain ⟨⟨z118, rfl, l_z118, u_z118, R_z118⟩, e9⟩ := q9
          rw [e9]
          show yG _ _ _ _ _ _ _ _ _ _ (yI z118 :: []) _
          refine yG.getS (c := 13) rfl rfl ?_
          refine yG.load xik rfl (fun _ _ => rfl) (v := yI (3)) rfl rfl ?_
          refine yG.ialdF A_h114.1 (v_S_Rules_ACT_VALUE W (s_S_Rules_ACT_VALUE W)) rfl rfl (by omega) (by omega) (fun z119 e_z119 i_z119 l_z119 u_z119 => ?_)
          obtain rfl : z119 = 0 := by omega
          refine yG.icmp rfl (t := 148) rfl ⟨by omega, by omega⟩ ⟨by omega, by omega⟩ (fun c120 => ?_) (fun c120 => ?_)
          · have c120 : (z118 : Int) ≠ 0 := c120
            refine yG.load xak rfl (fun _ _ => rfl) (v := yR a3) rfl rfl ?_
            refine yG.getS9 A_h114.1 (w_FlowS_shape W H_a3) qq122 rfl rfl ?_
            refine yG.getS9 A_h114.1 (w_Shape_net W H_r110) qq123 rfl rfl ?_
            refine yG.getS (c := 11) rfl rfl ?_
            refine yG.load xik rfl (fun _ _ => rfl) (v := yI (3)) rfl rfl ?_
            refine yG.ialdF A_h114.1 (v_S_Rules_ACT_SORT W (s_S_Rules_ACT_SORT W)) rfl rfl (by omega) (by omega) (fun z121 e_z121 i_z121 l_z121 u_z121 => ?_)
            obtain rfl : z121 = 0 := by omega
            refine yG.load xik rfl (fun _ _ => rfl) (v := yI (z12)) rfl rfl ?_
            refine yG.getS (c := 12) rfl rfl ?_
            refine yG.load xik rfl (fun _ _ => rfl) (v := yI (3)) rfl rfl ?_
            refine yG.ialdF A_h114.1 (v_S_Rules_ACT_FIELD W (s_S_Rules_ACT_FIELD W)) rfl rfl (by omega) (by omega) (fun z122 e_z122 i_z122 l_z122 u_z122 => ?_)
            obtain rfl : z122 = 0 := by omega
            refine yG.getS (c := 13) rfl rfl ?_
            refine yG.load xik rfl (fun _ _ => rfl) (v := yI (3)) rfl rfl ?_
            refine yG.ialdF A_h114.1 (v_S_Rules_ACT_VALUE W (s_S_Rules_ACT_VALUE W)) rfl rfl (by omega) (by omega) (fun z123 e_z123 i_z123 l_z123 u_z123 => ?_)
            obtain rfl : z123 = 0 := by omega
            refine yG.invV (rest := []) A_h114.1 (bOb (d_Net W) H_r111) rfl rfl rfl rfl (c_Net_put_0_0 W (d + 5) A_h114.1 H_r111 (z12) (0) (by omega) (by omega) (by omega) (by omega)) (fun rv h124 q9 => ?_)
            obtain ⟨⟨rfl, R_z125⟩, B_h124⟩ := q9
            have A_h124 := A_h114.tr B_h124 (by decide)
            have M_bSh_h124 := M_bSh_h114.fr B_h124 (by decide)
            have : ys h124 k0 10 = ys h114 k0 10 := B_h124.ys H_k0 (by decide)
            have : ys h124 k0 9 = ys h114 k0 9 := B_h124.ys H_k0 (by decide)
            have qq126 : zsl h124 k0 7 = yR r6 := (B_h124.sl H_k0 (by decide)).trans qq121
            have : ys h124 r6 (gg0 : Int).toNat = ys h114 r6 (gg0 : Int).toNat := B_h124.ys H_r6 (bNo_ok (by decide) _)
            have qq127 : zsl h124 a3 0 = yR r110 := (B_h124.sl H_a3 (by decide)).trans qq122
            have qq128 : zsl h124 r110 0 = yR r111 := (B_h124.sl H_r110 (by decide)).trans qq123
            have qq129 : zsl h124 a2 0 = yR r112 := (B_h124.sl H_a2 (by decide)).trans qq124
            have qq130 : zsl h124 r112 0 = yR r113 := (B_h124.sl H_r112 (by decide)).trans qq125
            show yG _ _ _ _ _ _ _ _ _ _ [] _
            refine yG.load xak rfl (fun _ _ => rfl) (v := yR a3) rfl rfl ?_
            refine yG.invV (rest := []) A_h124.1 (bOb (d_FlowS W) H_a3) rfl rfl rfl rfl (c_Flow_look_s W (d + 2) A_h124.1 H_a3) (fun rv h126 q9 => ?_)
            obtain ⟨⟨rfl, R_z127⟩, B_h126⟩ := q9
            have A_h126 := A_h124.tr B_h126 (by decide)
            have M_bSh_h126 := M_bSh_h124.fr B_h126 (by decide)
            have : ys h126 k0 10 = ys h124 k0 10 := B_h126.ys H_k0 (by decide)
            have : ys h126 k0 9 = ys h124 k0 9 := B_h126.ys H_k0 (by decide)
            have qq131 : zsl h126 k0 7 = yR r6 := (B_h126.sl H_k0 (by decide)).trans qq126
            have : ys h126 r6 (gg0 : Int).toNat = ys h124 r6 (gg0 : Int).toNat := B_h126.ys H_r6 (bNo_ok (by decide) _)
            have qq132 : zsl h126 a3 0 = yR r110 := (B_h126.sl H_a3 (by decide)).trans qq127
            have qq133 : zsl h126 r110 0 = yR r111 := (B_h126.sl H_r110 (by decide)).trans qq128
            have qq134 : zsl h126 a2 0 = yR r112 := (B_h126.sl H_a2 (by decide)).trans qq129
            have qq135 : zsl h126 r112 0 = yR r113 := (B_h126.sl H_r112 (by decide)).trans qq130
            show yG _ _ _ _ _ _ _ _ _ _ [] _
            refine yG.load xak rfl (fun _ _ => rfl) (v := yR a3) rfl rfl ?_
            refine yG.invV (rest := []) A_h126.1 (bOb (d_FlowS W) H_a3) rfl rfl rfl rfl (c_Flow_countOver_s W d A_h126.1 H_a3) (fun rv h128 q9 => ?_)
            obtain ⟨⟨rfl, R_z129⟩, B_h128⟩ := q9
            have A_h128 := A_h126.tr B_h128 (by decide)
            have M_bSh_h128 := M_bSh_h126.fr B_h128 (by decide)
            have : ys h128 k0 10 = ys h126 k0 10 := B_h128.ys H_k0 (by decide)
            have : ys h128 k0 9 = ys h126 k0 9 := B_h128.ys H_k0 (by decide)
            have qq136 : zsl h128 k0 7 = yR r6 := (B_h128.sl H_k0 (by decide)).trans qq131
            have : ys h128 r6 (gg0 : Int).toNat = ys h126 r6 (gg0 : Int).toNat := B_h128.ys H_r6 (bNo_ok (by decide) _)
            have qq137 : zsl h128 a3 0 = yR r110 := (B_h128.sl H_a3 (by decide)).trans qq132
            have qq138 : zsl h128 r110 0 = yR r111 := (B_h128.sl H_r110 (by decide)).trans qq133
            have qq139 : zsl h128 a2 0 = yR r112 := (B_h128.sl H_a2 (by decide)).trans qq134
            have qq140 : zsl h128 r112 0 = yR r113 := (B_h128.sl H_r112 (by decide)).trans qq135
            show yG _ _ _ _ _ _ _ _ _ _ [] _
            refine yG.load xak rfl (fun _ _ => rfl) (v := yR k0) rfl rfl ?_
            refine yG.load xak rfl (fun _ _ => rfl) (v := yR k0) rfl rfl ?_
            refine yG.load xik rfl (fun _ _ => rfl) (v := yI (3)) rfl rfl ?_
            refine yG.load xik rfl (fun _ _ => rfl) (v := yI (z12)) rfl rfl ?_
            refine yG.load xak rfl (fun _ _ => rfl) (v := yR a2) rfl rfl ?_
            refine yG.load xak rfl (fun _ _ => rfl) (v := yR a3) rfl rfl ?_
            obtain ⟨r130, H_r130, q_r130⟩ := bFdO (w_Rules_code W H_k0) A_h128.1
            obtain ⟨g131, e_g131⟩ : ∃ z : Int, z = ys h128 k0 6 := ⟨_, rfl⟩
            obtain ⟨-, -, l_g131, u_g131⟩ := (w_Rules_count W H_k0).int A_h128.1
            refine yG.invV (rest := [yR k0]) A_h128.1 (bOb (d_Rules W) H_k0) rfl rfl rfl rfl (c_Rules_firstAgainst_b W (d + 1) A_h128.1 (M_bCd.fr A_h128 (by decide)) H_k0 H_a2 H_a3 H_r130 q_r130 (3) (z12) (by omega) (by omega) (by omega) (by omega)) (fun rv hp9 q9 => ?_)
            obtain ⟨⟨z132, rfl, l_z132, u_z132, R_z132⟩, e9⟩ := q9
            rw [e9]
            show yG _ _ _ _ _ _ _ _ _ _ (yI z132 :: [yR k0]) _
            refine yG.putI A_h128.1 (w_Rules_stoppedBy W H_k0) (W.2.1 _ _ H_k0 (by decide) (by decide)) rfl rfl (.inl rfl) ⟨by omega, by omega⟩ (by omega) (by omega) (fun h133 T_h133 b_h133 f_h133 y_h133 => ?_)
            have M_bSh_h133 := M_bSh_h128.fr (bAx.put (Wl := [(162259276829213363391578010288128, 12)]) (bAx.rf A_h128.1) T_h133 b_h133 f_h133 H_k0 (by decide)) (by decide)
            have A_h133 := A_h128.put T_h133 b_h133 f_h133 H_k0 (by decide)
            have : ys h133 k0 10 = ys h128 k0 10 := (y_h133 k0 10).trans (if_neg (fun e => absurd e.2 (by decide)))
            have : ys h133 k0 9 = ys h128 k0 9 := (y_h133 k0 9).trans (if_neg (fun e => absurd e.2 (by decide)))
            have qq141 : zsl h133 k0 7 = yR r6 := ((f_h133 k0 7).trans (if_neg (fun e => absurd e.2 (by decide)))).trans qq136
            have : ys h133 r6 (gg0 : Int).toNat = ys h128 r6 (gg0 : Int).toNat := (y_h133 r6 (gg0 : Int).toNat).trans (if_neg (fun e => (bRo.ne H_r6 H_k0 (by decide)) e.1))
            have qq142 : zsl h133 a3 0 = yR r110 := ((f_h133 a3 0).trans (if_neg (fun e => (bRo.ne H_a3 H_k0 (by decide)) e.1))).trans qq137
            have qq143 : zsl h133 r110 0 = yR r111 := ((f_h133 r110 0).trans (if_neg (fun e => (bRo.ne H_r110 H_k0 (by decide)) e.1))).trans qq138
            have qq144 : zsl h133 a2 0 = yR r112 := ((f_h133 a2 0).trans (if_neg (fun e => (bRo.ne H_a2 H_k0 (by decide)) e.1))).trans qq139
            have qq145 : zsl h133 r112 0 = yR r113 := ((f_h133 r112 0).trans (if_neg (fun e => (bRo.ne H_r112 H_k0 (by decide)) e.1))).trans qq140
            have : ys h133 k0 12 = z132 := (y_h133 k0 12).trans (if_pos ⟨rfl, rfl⟩)
            refine yG.load xak rfl (fun _ _ => rfl) (v := yR k0) rfl rfl ?_
            refine yG.getI A_h133.1 (w_Rules_stoppedBy W H_k0) rfl rfl (fun z134 e_z134 i_z134 l_z134 u_z134 => ?_)
            rw [show (z134 : Int) = z132 by omega]
            refine yG.num (c := -1) rfl (fun _ _ => rfl) (by decide) ?_
            refine yG.icmp rfl (t := 219) rfl ⟨by omega, by omega⟩ ⟨by omega, by omega⟩ (fun c135 => ?_) (fun c135 => ?_)
            · have c135 : (z132 : Int) = (-1) := c135
              refine yG.load xak rfl (fun _ _ => rfl) (v := yR a2) rfl rfl ?_
              refine yG.store1 xak (L' := [(6, yR a2), (5, yI (z12)), (4, yI (3)), (0, yR k0), (2, yR a2), (3, yR a3)]) rfl (fun _ _ => rfl) rfl rfl ?_
              refine yG.load xak rfl (fun _ _ => rfl) (v := yR a3) rfl rfl ?_
              refine yG.store1 xak (L' := [(2, yR a3), (6, yR a2), (5, yI (z12)), (4, yI (3)), (0, yR k0), (3, yR a3)]) rfl (fun _ _ => rfl) rfl rfl ?_
              refine yG.load xak rfl (fun _ _ => rfl) (v := yR a2) rfl rfl ?_
              refine yG.store1 xak (L' := [(3, yR a2), (2, yR a3), (6, yR a2), (5, yI (z12)), (4, yI (3)), (0, yR k0)]) rfl (fun _ _ => rfl) rfl rfl ?_
              refine yG.load xak rfl (fun _ _ => rfl) (v := yR k0) rfl rfl ?_
              refine yG.step (pc' := 229) (stk' := [yR k0, yR k0]) rfl (fun _ _ => rfl) ?_
              refine yG.getI A_h133.1 (w_Rules_done W H_k0) rfl rfl (fun z136 e_z136 i_z136 l_z136 u_z136 => ?_)
              rw [show (z136 : Int) = gg0 by omega]
              refine yG.num (c := 1) rfl (fun _ _ => rfl) (by decide) ?_
              refine yG.iadd rfl ?_
              refine yG.putI A_h133.1 (w_Rules_done W H_k0) (W.2.1 _ _ H_k0 (by decide) (by decide)) rfl rfl (.inl rfl) ⟨by omega, by omega⟩ (by omega) (by omega) (fun h137 T_h137 b_h137 f_h137 y_h137 => ?_)
              have M_bSh_h137 := M_bSh_h133.fr (bAx.put (Wl := [(162259276829213363391578010288128, 10)]) (bAx.rf A_h133.1) T_h137 b_h137 f_h137 H_k0 (by decide)) (by decide)
              have A_h137 := A_h133.put T_h137 b_h137 f_h137 H_k0 (by decide)
              have : ys h137 k0 9 = ys h133 k0 9 := (y_h137 k0 9).trans (if_neg (fun e => absurd e.2 (by decide)))
              have qq146 : zsl h137 k0 7 = yR r6 := ((f_h137 k0 7).trans (if_neg (fun e => absurd e.2 (by decide)))).trans qq141
              have : ys h137 r6 (gg0 : Int).toNat = ys h133 r6 (gg0 : Int).toNat := (y_h137 r6 (gg0 : Int).toNat).trans (if_neg (fun e => (bRo.ne H_r6 H_k0 (by decide)) e.1))
              have qq147 : zsl h137 a3 0 = yR r110 := ((f_h137 a3 0).trans (if_neg (fun e => (bRo.ne H_a3 H_k0 (by decide)) e.1))).trans qq142
              have qq148 : zsl h137 r110 0 = yR r111 := ((f_h137 r110 0).trans (if_neg (fun e => (bRo.ne H_r110 H_k0 (by decide)) e.1))).trans qq143
              have qq149 : zsl h137 a2 0 = yR r112 := ((f_h137 a2 0).trans (if_neg (fun e => (bRo.ne H_a2 H_k0 (by decide)) e.1))).trans qq144
              have qq150 : zsl h137 r112 0 = yR r113 := ((f_h137 r112 0).trans (if_neg (fun e => (bRo.ne H_r112 H_k0 (by decide)) e.1))).trans qq145
              have : ys h137 k0 12 = ys h133 k0 12 := (y_h137 k0 12).trans (if_neg (fun e => absurd e.2 (by decide)))
              have : ys h137 k0 10 = gg0 + 1 := (y_h137 k0 10).trans (if_pos ⟨rfl, rfl⟩)
              refine yG.goto rfl (t := 48) rfl ?_
              exact yG.mono (yG.sub (i_48 a3 a2 (ys h137 k0 10) (ys h137 k0 9) h137 A_h137 M_bSh_h137 H_a3 H_a2 rfl rfl (by omega) (by omega) (by omega) (by omega) (by omega) (by omega)) (ySub.cons rfl (ySub.cons rfl (ySub.cons rfl (ySub.nil))))) (by omega)
            · have c135 : (z132 : Int) ≠ (-1) := c135
              refine yG.load xak rfl (fun _ _ => rfl) (v := yR k0) rfl rfl ?_
              refine yG.load xak rfl (fun _ _ => rfl) (v := yR k0) rfl rfl ?_
              refine yG.getI A_h133.1 (w_Rules_done W H_k0) rfl rfl (fun z138 e_z138 i_z138 l_z138 u_z138 => ?_)
              rw [show (z138 : Int) = gg0 by omega]
              refine yG.putI A_h133.1 (w_Rules_stopped W H_k0) (W.2.1 _ _ H_k0 (by decide) (by decide)) rfl rfl (.inl rfl) ⟨by omega, by omega⟩ (by omega) (by omega) (fun h139 T_h139 b_h139 f_h139 y_h139 => ?_)
              have M_bSh_h139 := M_bSh_h133.fr (bAx.put (Wl := [(162259276829213363391578010288128, 11)]) (bAx.rf A_h133.1) T_h139 b_h139 f_h139 H_k0 (by decide)) (by decide)
              have A_h139 := A_h133.put T_h139 b_h139 f_h139 H_k0 (by decide)
              have : ys h139 k0 10 = ys h133 k0 10 := (y_h139 k0 10).trans (if_neg (fun e => absurd e.2 (by decide)))
              have : ys h139 k0 9 = ys h133 k0 9 := (y_h139 k0 9).trans (if_neg (fun e => absurd e.2 (by decide)))
              have qq151 : zsl h139 k0 7 = yR r6 := ((f_h139 k0 7).trans (if_neg (fun e => absurd e.2 (by decide)))).trans qq141
              have : ys h139 r6 (gg0 : Int).toNat = ys h133 r6 (gg0 : Int).toNat := (y_h139 r6 (gg0 : Int).toNat).trans (if_neg (fun e => (bRo.ne H_r6 H_k0 (by decide)) e.1))
              have qq152 : zsl h139 a3 0 = yR r110 := ((f_h139 a3 0).trans (if_neg (fun e => (bRo.ne H_a3 H_k0 (by decide)) e.1))).trans qq142
              have qq153 : zsl h139 r110 0 = yR r111 := ((f_h139 r110 0).trans (if_neg (fun e => (bRo.ne H_r110 H_k0 (by decide)) e.1))).trans qq143
              have qq154 : zsl h139 a2 0 = yR r112 := ((f_h139 a2 0).trans (if_neg (fun e => (bRo.ne H_a2 H_k0 (by decide)) e.1))).trans qq144
              have qq155 : zsl h139 r112 0 = yR r113 := ((f_h139 r112 0).trans (if_neg (fun e => (bRo.ne H_r112 H_k0 (by decide)) e.1))).trans qq145
              have : ys h139 k0 12 = ys h133 k0 12 := (y_h139 k0 12).trans (if_neg (fun e => absurd e.2 (by decide)))
              refine yG.goto rfl (t := 240) rfl ?_
              refine yG.load xak rfl (fun _ _ => rfl) (v := yR a2) rfl rfl ?_
              refine yG.getS9 A_h139.1 (w_FlowS_shape W H_a2) qq154 rfl rfl ?_
              refine yG.getS9 A_h139.1 (w_Shape_net W H_r112) qq155 rfl rfl ?_
              refine yG.ret rfl (fun _ _ => rfl) ?_
              exact (yP.ref ⟨⟨⟨r113, rfl, H_r113⟩, A_h139⟩, M_bSh_h139⟩)
          · have c120 : (z118 : Int) = 0 := c120
            refine yG.load xak rfl (fun _ _ => rfl) (v := yR k0) rfl rfl ?_
            refine yG.load xak rfl (fun _ _ => rfl) (v := yR k0) rfl rfl ?_
            refine yG.getI A_h114.1 (w_Rules_done W H_k0) rfl rfl (fun z140 e_z140 i_z140 l_z140 u_z140 => ?_)
            rw [show (z140 : Int) = gg0 by omega]
            refine yG.putI A_h114.1 (w_Rules_stopped W H_k0) (W.2.1 _ _ H_k0 (by decide) (by decide)) rfl rfl (.inl rfl) ⟨by omega, by omega⟩ (by omega) (by omega) (fun h141 T_h141 b_h141 f_h141 y_h141 => ?_)
            have M_bSh_h141 := M_bSh_h114.fr (bAx.put (Wl := [(162259276829213363391578010288128, 11)]) (bAx.rf A_h114.1) T_h141 b_h141 f_h141 H_k0 (by decide)) (by decide)
            have A_h141 := A_h114.put T_h141 b_h141 f_h141 H_k0 (by decide)
            have : ys h141 k0 10 = ys h114 k0 10 := (y_h141 k0 10).trans (if_neg (fun e => absurd e.2 (by decide)))
            have : ys h141 k0 9 = ys h114 k0 9 := (y_h141 k0 9).trans (if_neg (fun e => absurd e.2 (by decide)))
            have qq156 : zsl h141 k0 7 = yR r6 := ((f_h141 k0 7).trans (if_neg (fun e => absurd e.2 (by decide)))).trans qq121
            have : ys h141 r6 (gg0 : Int).toNat = ys h114 r6 (gg0 : Int).toNat := (y_h141 r6 (gg0 : Int).toNat).trans (if_neg (fun e => (bRo.ne H_r6 H_k0 (by decide)) e.1))
            have qq157 : zsl h141 a3 0 = yR r110 := ((f_h141 a3 0).trans (if_neg (fun e => (bRo.ne H_a3 H_k0 (by decide)) e.1))).trans qq122
            have qq158 : zsl h141 r110 0 = yR r111 := ((f_h141 r110 0).trans (if_neg (fun e => (bRo.ne H_r110 H_k0 (by decide)) e.1))).trans qq123
            have qq159 : zsl h141 a2 0 = yR r112 := ((f_h141 a2 0).trans (if_neg (fun e => (bRo.ne H_a2 H_k0 (by decide)) e.1))).trans qq124
            have qq160 : zsl h141 r112 0 = yR r113 := ((f_h141 r112 0).trans (if_neg (fun e => (bRo.ne H_r112 H_k0 (by decide)) e.1))).trans qq125
            refine yG.goto rfl (t := 240) rfl ?_
            refine yG.load xak rfl (fun _ _ => rfl) (v := yR a2) rfl rfl ?_
            refine yG.getS9 A_h141.1 (w_FlowS_shape W H_a2) qq159 rfl rfl ?_
            refine yG.getS9 A_h141.1 (w_Shape_net W H_r112) qq160 rfl rfl ?_
            refine yG.ret rfl (fun _ _ => rfl) ?_
            exact (yP.ref ⟨⟨⟨r113, rfl, H_r113⟩, A_h141⟩, M_bSh_h141⟩)
        · subst c13
          refine yG.load xak rfl (fun _ _ => rfl) (v := yR a3) rfl rfl ?_
          refine yG.getO A_hq.1 (w_FlowS_shape W H_a3) rfl rfl (fun r142 H_r142 O_r142 q_r142 => ?_)
          refine yG.getO A_hq.1 (w_Shape_net W H_r142) rfl rfl (fun r143 H_r143 O_r143 q_r143 => ?_)
          refine yG.load xak rfl (fun _ _ => rfl) (v := yR a2) rfl rfl ?_
          refine yG.getO A_hq.1 (w_FlowS_shape W H_a2) rfl rfl (fun r144 H_r144 O_r144 q_r144 => ?_)
          refine yG.getO A_hq.1 (w_Shape_net W H_r144) rfl rfl (fun r145 H_r145 O_r145 q_r145 => ?_)
          refine yG.invV (rest := []) A_hq.1 (bOb (d_Net W) H_r143) rfl rfl rfl rfl (c_Net_copy W (d + 4) A_hq.1 M_bSh_hq H_r143 H_r145) (fun rv h146 q9 => ?_)
          obtain ⟨q9, M_bSh_h146⟩ := q9
          obtain ⟨⟨rfl, R_z147⟩, B_h146⟩ := q9
          have A_h146 := A_hq.tr B_h146 (by decide)
          have : ys h146 k0 10 = ys hq k0 10 := B_h146.ys H_k0 (by decide)
          have : ys h146 k0 9 = ys hq k0 9 := B_h146.ys H_k0 (by decide)
          have qq161 : zsl h146 k0 7 = yR r6 := (B_h146.sl H_k0 (by decide)).trans q_r6
          have : ys h146 r6 (gg0 : Int).toNat = ys hq r6 (gg0 : Int).toNat := B_h146.ys H_r6 (bNo_ok (by decide) _)
          have qq162 : zsl h146 a3 0 = yR r142 := (B_h146.sl H_a3 (by decide)).trans q_r142
          have qq163 : zsl h146 r142 0 = yR r143 := (B_h146.sl H_r142 (by decide)).trans q_r143
          have qq164 : zsl h146 a2 0 = yR r144 := (B_h146.sl H_a2 (by decide)).trans q_r144
          have qq165 : zsl h146 r144 0 = yR r145 := (B_h146.sl H_r144 (by decide)).trans q_r145
          show yG _ _ _ _ _ _ _ _ _ _ [] _
          refine yG.load xak rfl (fun _ _ => rfl) (v := yR a3) rfl rfl ?_
          refine yG.getS9 A_h146.1 (w_FlowS_shape W H_a3) qq162 rfl rfl ?_
          refine yG.getS9 A_h146.1 (w_Shape_net W H_r142) qq163 rfl rfl ?_
          refine yG.getS (c := 11) rfl rfl ?_
          refine yG.load xik rfl (fun _ _ => rfl) (v := yI (4)) rfl rfl ?_
          refine yG.ialdF A_h146.1 (v_S_Rules_ACT_SORT W (s_S_Rules_ACT_SORT W)) rfl rfl (by omega) (by omega) (fun z148 e_z148 i_z148 l_z148 u_z148 => ?_)
          obtain rfl : z148 = 1 := by omega
          refine yG.load xik rfl (fun _ _ => rfl) (v := yI (z12)) rfl rfl ?_
          refine yG.getS (c := 12) rfl rfl ?_
          refine yG.load xik rfl (fun _ _ => rfl) (v := yI (4)) rfl rfl ?_
          refine yG.ialdF A_h146.1 (v_S_Rules_ACT_FIELD W (s_S_Rules_ACT_FIELD W)) rfl rfl (by omega) (by omega) (fun z149 e_z149 i_z149 l_z149 u_z149 => ?_)
          obtain rfl : z149 = 2 := by omega
          refine yG.invV (rest := []) A_h146.1 (bOb (d_Net W) H_r143) rfl rfl rfl rfl (c_Net_at_1_2 W (d + 5) A_h146.1 H_r143 (z12) (by omega) (by omega)) (fun rv hp9 q9 => ?_)
          obtain ⟨⟨z150, rfl, l_z150, u_z150, R_z150⟩, e9⟩ := q9
          rw [e9]
          show yG _ _ _ _ _ _ _ _ _ _ (yI z150 :: []) _
          refine yG.getS (c := 13) rfl rfl ?_
          refine yG.load xik rfl (fun _ _ => rfl) (v := yI (4)) rfl rfl ?_
          refine yG.ialdF A_h146.1 (v_S_Rules_ACT_VALUE W (s_S_Rules_ACT_VALUE W)) rfl rfl (by omega) (by omega) (fun z151 e_z151 i_z151 l_z151 u_z151 => ?_)
          obtain rfl : z151 = 1 := by omega
          refine yG.icmp rfl (t := 148) rfl ⟨by omega, by omega⟩ ⟨by omega, by omega⟩ (fun c152 => ?_) (fun c152 => ?_)
          · have c152 : (z150 : Int) ≠ 1 := c152
            refine yG.load xak rfl (fun _ _ => rfl) (v := yR a3) rfl rfl ?_
            refine yG.getS9 A_h146.1 (w_FlowS_shape W H_a3) qq162 rfl rfl ?_
            refine yG.getS9 A_h146.1 (w_Shape_net W H_r142) qq163 rfl rfl ?_
            refine yG.getS (c := 11) rfl rfl ?_
            refine yG.load xik rfl (fun _ _ => rfl) (v := yI (4)) rfl rfl ?_
            refine yG.ialdF A_h146.1 (v_S_Rules_ACT_SORT W (s_S_Rules_ACT_SORT W)) rfl rfl (by omega) (by omega) (fun z153 e_z153 i_z153 l_z153 u_z153 => ?_)
            obtain rfl : z153 = 1 := by omega
            refine yG.load xik rfl (fun _ _ => rfl) (v := yI (z12)) rfl rfl ?_
            refine yG.getS (c := 12) rfl rfl ?_
            refine yG.load xik rfl (fun _ _ => rfl) (v := yI (4)) rfl rfl ?_
            refine yG.ialdF A_h146.1 (v_S_Rules_ACT_FIELD W (s_S_Rules_ACT_FIELD W)) rfl rfl (by omega) (by omega) (fun z154 e_z154 i_z154 l_z154 u_z154 => ?_)
            obtain rfl : z154 = 2 := by omega
            refine yG.getS (c := 13) rfl rfl ?_
            refine yG.load xik rfl (fun _ _ => rfl) (v := yI (4)) rfl rfl ?_
            refine yG.ialdF A_h146.1 (v_S_Rules_ACT_VALUE W (s_S_Rules_ACT_VALUE W)) rfl rfl (by omega) (by omega) (fun z155 e_z155 i_z155 l_z155 u_z155 => ?_)
            obtain rfl : z155 = 1 := by omega
            refine yG.invV (rest := []) A_h146.1 (bOb (d_Net W) H_r143) rfl rfl rfl rfl (c_Net_put_1_2 W (d + 5) A_h146.1 H_r143 (z12) (1) (by omega) (by omega) (by omega) (by omega)) (fun rv h156 q9 => ?_)
            obtain ⟨⟨rfl, R_z157⟩, B_h156⟩ := q9
            have A_h156 := A_h146.tr B_h156 (by decide)
            have M_bSh_h156 := M_bSh_h146.fr B_h156 (by decide)
            have : ys h156 k0 10 = ys h146 k0 10 := B_h156.ys H_k0 (by decide)
            have : ys h156 k0 9 = ys h146 k0 9 := B_h156.ys H_k0 (by decide)
            have qq166 : zsl h156 k0 7 = yR r6 := (B_h156.sl H_k0 (by decide)).trans qq161
            have : ys h156 r6 (gg0 : Int).toNat = ys h146 r6 (gg0 : Int).toNat := B_h156.ys H_r6 (bNo_ok (by decide) _)
            have qq167 : zsl h156 a3 0 = yR r142 := (B_h156.sl H_a3 (by decide)).trans qq162
            have qq168 : zsl h156 r142 0 = yR r143 := (B_h156.sl H_r142 (by decide)).trans qq163
            have qq169 : zsl h156 a2 0 = yR r144 := (B_h156.sl H_a2 (by decide)).trans qq164
            have qq170 : zsl h156 r144 0 = yR r145 := (B_h156.sl H_r144 (by decide)).trans qq165
            show yG _ _ _ _ _ _ _ _ _ _ [] _
            refine yG.load xak rfl (fun _ _ => rfl) (v := yR a3) rfl rfl ?_
            refine yG.invV (rest := []) A_h156.1 (bOb (d_FlowS W) H_a3) rfl rfl rfl rfl (c_Flow_look_s W (d + 2) A_h156.1 H_a3) (fun rv h158 q9 => ?_)
            obtain ⟨⟨rfl, R_z159⟩, B_h158⟩ := q9
            have A_h158 := A_h156.tr B_h158 (by decide)
            have M_bSh_h158 := M_bSh_h156.fr B_h158 (by decide)
            have : ys h158 k0 10 = ys h156 k0 10 := B_h158.ys H_k0 (by decide)
            have : ys h158 k0 9 = ys h156 k0 9 := B_h158.ys H_k0 (by decide)
            have qq171 : zsl h158 k0 7 = yR r6 := (B_h158.sl H_k0 (by decide)).trans qq166
            have : ys h158 r6 (gg0 : Int).toNat = ys h156 r6 (gg0 : Int).toNat := B_h158.ys H_r6 (bNo_ok (by decide) _)
            have qq172 : zsl h158 a3 0 = yR r142 := (B_h158.sl H_a3 (by decide)).trans qq167
            have qq173 : zsl h158 r142 0 = yR r143 := (B_h158.sl H_r142 (by decide)).trans qq168
            have qq174 : zsl h158 a2 0 = yR r144 := (B_h158.sl H_a2 (by decide)).trans qq169
            have qq175 : zsl h158 r144 0 = yR r145 := (B_h158.sl H_r144 (by decide)).trans qq170
            show yG _ _ _ _ _ _ _ _ _ _ [] _
            refine yG.load xak rfl (fun _ _ => rfl) (v := yR a3) rfl rfl ?_
            refine yG.invV (rest := []) A_h158.1 (bOb (d_FlowS W) H_a3) rfl rfl rfl rfl (c_Flow_countOver_s W d A_h158.1 H_a3) (fun rv h160 q9 => ?_)
            obtain ⟨⟨rfl, R_z161⟩, B_h160⟩ := q9
            have A_h160 := A_h158.tr B_h160 (by decide)
            have M_bSh_h160 := M_bSh_h158.fr B_h160 (by decide)
            have : ys h160 k0 10 = ys h158 k0 10 := B_h160.ys H_k0 (by decide)
            have : ys h160 k0 9 = ys h158 k0 9 := B_h160.ys H_k0 (by decide)
            have qq176 : zsl h160 k0 7 = yR r6 := (B_h160.sl H_k0 (by decide)).trans qq171
            have : ys h160 r6 (gg0 : Int).toNat = ys h158 r6 (gg0 : Int).toNat := B_h160.ys H_r6 (bNo_ok (by decide) _)
            have qq177 : zsl h160 a3 0 = yR r142 := (B_h160.sl H_a3 (by decide)).trans qq172
            have qq178 : zsl h160 r142 0 = yR r143 := (B_h160.sl H_r142 (by decide)).trans qq173
            have qq179 : zsl h160 a2 0 = yR r144 := (B_h160.sl H_a2 (by decide)).trans qq174
            have qq180 : zsl h160 r144 0 = yR r145 := (B_h160.sl H_r144 (by decide)).trans qq175
            show yG _ _ _ _ _ _ _ _ _ _ [] _
            refine yG.load xak rfl (fun _ _ => rfl) (v := yR k0) rfl rfl ?_
            refine yG.load xak rfl (fun _ _ => rfl) (v := yR k0) rfl rfl ?_
            refine yG.load xik rfl (fun _ _ => rfl) (v := yI (4)) rfl rfl ?_
            refine yG.load xik rfl (fun _ _ => rfl) (v := yI (z12)) rfl rfl ?_
            refine yG.load xak rfl (fun _ _ => rfl) (v := yR a2) rfl rfl ?_
            refine yG.load xak rfl (fun _ _ => rfl) (v := yR a3) rfl rfl ?_
            obtain ⟨r162, H_r162, q_r162⟩ := bFdO (w_Rules_code W H_k0) A_h160.1
            obtain ⟨g163, e_g163⟩ : ∃ z : Int, z = ys h160 k0 6 := ⟨_, rfl⟩
            obtain ⟨-, -, l_g163, u_g163⟩ := (w_Rules_count W H_k0).int A_h160.1
            refine yG.invV (rest := [yR k0]) A_h160.1 (bOb (d_Rules W) H_k0) rfl rfl rfl rfl (c_Rules_firstAgainst_s2 W (d + 1) A_h160.1 (M_bCd.fr A_h160 (by decide)) H_k0 H_a2 H_a3 H_r162 q_r162 (4) (z12) (by omega) (by omega) (by omega) (by omega)) (fun rv hp9 q9 => ?_)
            obtain ⟨⟨z164, rfl, l_z164, u_z164, R_z164⟩, e9⟩ := q9
            rw [e9]
            show yG _ _ _ _ _ _ _ _ _ _ (yI z164 :: [yR k0]) _
            refine yG.putI A_h160.1 (w_Rules_stoppedBy W H_k0) (W.2.1 _ _ H_k0 (by decide) (by decide)) rfl rfl (.inl rfl) ⟨by omega, by omega⟩ (by omega) (by omega) (fun h165 T_h165 b_h165 f_h165 y_h165 => ?_)
            have M_bSh_h165 := M_bSh_h160.fr (bAx.put (Wl := [(162259276829213363391578010288128, 12)]) (bAx.rf A_h160.1) T_h165 b_h165 f_h165 H_k0 (by decide)) (by decide)
            have A_h165 := A_h160.put T_h165 b_h165 f_h165 H_k0 (by decide)
            have : ys h165 k0 10 = ys h160 k0 10 := (y_h165 k0 10).trans (if_neg (fun e => absurd e.2 (by decide)))
            have : ys h165 k0 9 = ys h160 k0 9 := (y_h165 k0 9).trans (if_neg (fun e => absurd e.2 (by decide)))
            have qq181 : zsl h165 k0 7 = yR r6 := ((f_h165 k0 7).trans (if_neg (fun e => absurd e.2 (by decide)))).trans qq176
            have : ys h165 r6 (gg0 : Int).toNat = ys h160 r6 (gg0 : Int).toNat := (y_h165 r6 (gg0 : Int).toNat).trans (if_neg (fun e => (bRo.ne H_r6 H_k0 (by decide)) e.1))
            have qq182 : zsl h165 a3 0 = yR r142 := ((f_h165 a3 0).trans (if_neg (fun e => (bRo.ne H_a3 H_k0 (by decide)) e.1))).trans qq177
            have qq183 : zsl h165 r142 0 = yR r143 := ((f_h165 r142 0).trans (if_neg (fun e => (bRo.ne H_r142 H_k0 (by decide)) e.1))).trans qq178
            have qq184 : zsl h165 a2 0 = yR r144 := ((f_h165 a2 0).trans (if_neg (fun e => (bRo.ne H_a2 H_k0 (by decide)) e.1))).trans qq179
            have qq185 : zsl h165 r144 0 = yR r145 := ((f_h165 r144 0).trans (if_neg (fun e => (bRo.ne H_r144 H_k0 (by decide)) e.1))).trans qq180
            have : ys h165 k0 12 = z164 := (y_h165 k0 12).trans (if_pos ⟨rfl, rfl⟩)
            refine yG.load xak rfl (fun _ _ => rfl) (v := yR k0) rfl rfl ?_
            refine yG.getI A_h165.1 (w_Rules_stoppedBy W H_k0) rfl rfl (fun z166 e_z166 i_z166 l_z166 u_z166 => ?_)
            rw [show (z166 : Int) = z164 by omega]
            refine yG.num (c := -1) rfl (fun _ _ => rfl) (by decide) ?_
            refine yG.icmp rfl (t := 219) rfl ⟨by omega, by omega⟩ ⟨by omega, by omega⟩ (fun c167 => ?_) (fun c167 => ?_)
            · have c167 : (z164 : Int) = (-1) := c167
              refine yG.load xak rfl (fun _ _ => rfl) (v := yR a2) rfl rfl ?_
              refine yG.store1 xak (L' := [(6, yR a2), (5, yI (z12)), (4, yI (4)), (0, yR k0), (2, yR a2), (3, yR a3)]) rfl (fun _ _ => rfl) rfl rfl ?_
              refine yG.load xak rfl (fun _ _ => rfl) (v := yR a3) rfl rfl ?_
              refine yG.store1 xak (L' := [(2, yR a3), (6, yR a2), (5, yI (z12)), (4, yI (4)), (0, yR k0), (3, yR a3)]) rfl (fun _ _ => rfl) rfl rfl ?_
              refine yG.load xak rfl (fun _ _ => rfl) (v := yR a2) rfl rfl ?_
              refine yG.store1 xak (L' := [(3, yR a2), (2, yR a3), (6, yR a2), (5, yI (z12)), (4, yI (4)), (0, yR k0)]) rfl (fun _ _ => rfl) rfl rfl ?_
              refine yG.load xak rfl (fun _ _ => rfl) (v := yR k0) rfl rfl ?_
              refine yG.step (pc' := 229) (stk' := [yR k0, yR k0]) rfl (fun _ _ => rfl) ?_
              refine yG.getI A_h165.1 (w_Rules_done W H_k0) rfl rfl (fun z168 e_z168 i_z168 l_z168 u_z168 => ?_)
              rw [show (z168 : Int) = gg0 by omega]
              refine yG.num (c := 1) rfl (fun _ _ => rfl) (by decide) ?_
              refine yG.iadd rfl ?_
              refine yG.putI A_h165.1 (w_Rules_done W H_k0) (W.2.1 _ _ H_k0 (by decide) (by decide)) rfl rfl (.inl rfl) ⟨by omega, by omega⟩ (by omega) (by omega) (fun h169 T_h169 b_h169 f_h169 y_h169 => ?_)
              have M_bSh_h169 := M_bSh_h165.fr (bAx.put (Wl := [(162259276829213363391578010288128, 10)]) (bAx.rf A_h165.1) T_h169 b_h169 f_h169 H_k0 (by decide)) (by decide)
              have A_h169 := A_h165.put T_h169 b_h169 f_h169 H_k0 (by decide)
              have : ys h169 k0 9 = ys h165 k0 9 := (y_h169 k0 9).trans (if_neg (fun e => absurd e.2 (by decide)))
              have qq186 : zsl h169 k0 7 = yR r6 := ((f_h169 k0 7).trans (if_neg (fun e => absurd e.2 (by decide)))).trans qq181
              have : ys h169 r6 (gg0 : Int).toNat = ys h165 r6 (gg0 : Int).toNat := (y_h169 r6 (gg0 : Int).toNat).trans (if_neg (fun e => (bRo.ne H_r6 H_k0 (by decide)) e.1))
              have qq187 : zsl h169 a3 0 = yR r142 := ((f_h169 a3 0).trans (if_neg (fun e => (bRo.ne H_a3 H_k0 (by decide)) e.1))).trans qq182
              have qq188 : zsl h169 r142 0 = yR r143 := ((f_h169 r142 0).trans (if_neg (fun e => (bRo.ne H_r142 H_k0 (by decide)) e.1))).trans qq183
              have qq189 : zsl h169 a2 0 = yR r144 := ((f_h169 a2 0).trans (if_neg (fun e => (bRo.ne H_a2 H_k0 (by decide)) e.1))).trans qq184
              have qq190 : zsl h169 r144 0 = yR r145 := ((f_h169 r144 0).trans (if_neg (fun e => (bRo.ne H_r144 H_k0 (by decide)) e.1))).trans qq185
              have : ys h169 k0 12 = ys h165 k0 12 := (y_h169 k0 12).trans (if_neg (fun e => absurd e.2 (by decide)))
              have : ys h169 k0 10 = gg0 + 1 := (y_h169 k0 10).trans (if_pos ⟨rfl, rfl⟩)
              refine yG.goto rfl (t := 48) rfl ?_
              exact yG.mono (yG.sub (i_48 a3 a2 (ys h169 k0 10) (ys h169 k0 9) h169 A_h169 M_bSh_h169 H_a3 H_a2 rfl rfl (by omega) (by omega) (by omega) (by omega) (by omega) (by omega)) (ySub.cons rfl (ySub.cons rfl (ySub.cons rfl (ySub.nil))))) (by omega)
            · have c167 : (z164 : Int) ≠ (-1) := c167
              refine yG.load xak rfl (fun _ _ => rfl) (v := yR k0) rfl rfl ?_
              refine yG.load xak rfl (fun _ _ => rfl) (v := yR k0) rfl rfl ?_
              refine yG.getI A_h165.1 (w_Rules_done W H_k0) rfl rfl (fun z170 e_z170 i_z170 l_z170 u_z170 => ?_)
              rw [show (z170 : Int) = gg0 by omega]
              refine yG.putI A_h165.1 (w_Rules_stopped W H_k0) (W.2.1 _ _ H_k0 (by decide) (by decide)) rfl rfl (.inl rfl) ⟨by omega, by omega⟩ (by omega) (by omega) (fun h171 T_h171 b_h171 f_h171 y_h171 => ?_)
              have M_bSh_h171 := M_bSh_h165.fr (bAx.put (Wl := [(162259276829213363391578010288128, 11)]) (bAx.rf A_h165.1) T_h171 b_h171 f_h171 H_k0 (by decide)) (by decide)
              have A_h171 := A_h165.put T_h171 b_h171 f_h171 H_k0 (by decide)
              have : ys h171 k0 10 = ys h165 k0 10 := (y_h171 k0 10).trans (if_neg (fun e => absurd e.2 (by decide)))
              have : ys h171 k0 9 = ys h165 k0 9 := (y_h171 k0 9).trans (if_neg (fun e => absurd e.2 (by decide)))
              have qq191 : zsl h171 k0 7 = yR r6 := ((f_h171 k0 7).trans (if_neg (fun e => absurd e.2 (by decide)))).trans qq181
              have : ys h171 r6 (gg0 : Int).toNat = ys h165 r6 (gg0 : Int).toNat := (y_h171 r6 (gg0 : Int).toNat).trans (if_neg (fun e => (bRo.ne H_r6 H_k0 (by decide)) e.1))
              have qq192 : zsl h171 a3 0 = yR r142 := ((f_h171 a3 0).trans (if_neg (fun e => (bRo.ne H_a3 H_k0 (by decide)) e.1))).trans qq182
              have qq193 : zsl h171 r142 0 = yR r143 := ((f_h171 r142 0).trans (if_neg (fun e => (bRo.ne H_r142 H_k0 (by decide)) e.1))).trans qq183
              have qq194 : zsl h171 a2 0 = yR r144 := ((f_h171 a2 0).trans (if_neg (fun e => (bRo.ne H_a2 H_k0 (by decide)) e.1))).trans qq184
              have qq195 : zsl h171 r144 0 = yR r145 := ((f_h171 r144 0).trans (if_neg (fun e => (bRo.ne H_r144 H_k0 (by decide)) e.1))).trans qq185
              have : ys h171 k0 12 = ys h165 k0 12 := (y_h171 k0 12).trans (if_neg (fun e => absurd e.2 (by decide)))
              refine yG.goto rfl (t := 240) rfl ?_
              refine yG.load xak rfl (fun _ _ => rfl) (v := yR a2) rfl rfl ?_
              refine yG.getS9 A_h171.1 (w_FlowS_shape W H_a2) qq194 rfl rfl ?_
              refine yG.getS9 A_h171.1 (w_Shape_net W H_r144) qq195 rfl rfl ?_
              refine yG.ret rfl (fun _ _ => rfl) ?_
              exact (yP.ref ⟨⟨⟨r145, rfl, H_r145⟩, A_h171⟩, M_bSh_h171⟩)
          · have c152 : (z150 : Int) = 1 := c152
            refine yG.load xak rfl (fun _ _ => rfl) (v := yR k0) rfl rfl ?_
            refine yG.load xak rfl (fun _ _ => rfl) (v := yR k0) rfl rfl ?_
            refine yG.getI A_h146.1 (w_Rules_done W H_k0) rfl rfl (fun z172 e_z172 i_z172 l_z172 u_z172 => ?_)
            rw [show (z172 : Int) = gg0 by omega]
            refine yG.putI A_h146.1 (w_Rules_stopped W H_k0) (W.2.1 _ _ H_k0 (by decide) (by decide)) rfl rfl (.inl rfl) ⟨by omega, by omega⟩ (by omega) (by omega) (fun h173 T_h173 b_h173 f_h173 y_h173 => ?_)
            have M_bSh_h173 := M_bSh_h146.fr (bAx.put (Wl := [(162259276829213363391578010288128, 11)]) (bAx.rf A_h146.1) T_h173 b_h173 f_h173 H_k0 (by decide)) (by decide)
            have A_h173 := A_h146.put T_h173 b_h173 f_h173 H_k0 (by decide)
            have : ys h173 k0 10 = ys h146 k0 10 := (y_h173 k0 10).trans (if_neg (fun e => absurd e.2 (by decide)))
            have : ys h173 k0 9 = ys h146 k0 9 := (y_h173 k0 9).trans (if_neg (fun e => absurd e.2 (by decide)))
            have qq196 : zsl h173 k0 7 = yR r6 := ((f_h173 k0 7).trans (if_neg (fun e => absurd e.2 (by decide)))).trans qq161
            have : ys h173 r6 (gg0 : Int).toNat = ys h146 r6 (gg0 : Int).toNat := (y_h173 r6 (gg0 : Int).toNat).trans (if_neg (fun e => (bRo.ne H_r6 H_k0 (by decide)) e.1))
            have qq197 : zsl h173 a3 0 = yR r142 := ((f_h173 a3 0).trans (if_neg (fun e => (bRo.ne H_a3 H_k0 (by decide)) e.1))).trans qq162
            have qq198 : zsl h173 r142 0 = yR r143 := ((f_h173 r142 0).trans (if_neg (fun e => (bRo.ne H_r142 H_k0 (by decide)) e.1))).trans qq163
            have qq199 : zsl h173 a2 0 = yR r144 := ((f_h173 a2 0).trans (if_neg (fun e => (bRo.ne H_a2 H_k0 (by decide)) e.1))).trans qq164
            have qq200 : zsl h173 r144 0 = yR r145 := ((f_h173 r144 0).trans (if_neg (fun e => (bRo.ne H_r144 H_k0 (by decide)) e.1))).trans qq165
            refine yG.goto rfl (t := 240) rfl ?_
            refine yG.load xak rfl (fun _ _ => rfl) (v := yR a2) rfl rfl ?_
            refine yG.getS9 A_h173.1 (w_FlowS_shape W H_a2) qq199 rfl rfl ?_
            refine yG.getS9 A_h173.1 (w_Shape_net W H_r144) qq200 rfl rfl ?_
            refine yG.ret rfl (fun _ _ => rfl) ?_
            exact (yP.ref ⟨⟨⟨r145, rfl, H_r145⟩, A_h173⟩, M_bSh_h173⟩)
        · subst c13
          refine yG.load xak rfl (fun _ _ => rfl) (v := yR a3) rfl rfl ?_
          refine yG.getO A_hq.1 (w_FlowS_shape W H_a3) rfl rfl (fun r174 H_r174 O_r174 q_r174 => ?_)
          refine yG.getO A_hq.1 (w_Shape_net W H_r174) rfl rfl (fun r175 H_r175 O_r175 q_r175 => ?_)
          refine yG.load xak rfl (fun _ _ => rfl) (v := yR a2) rfl rfl ?_
          refine yG.getO A_hq.1 (w_FlowS_shape W H_a2) rfl rfl (fun r176 H_r176 O_r176 q_r176 => ?_)
          refine yG.getO A_hq.1 (w_Shape_net W H_r176) rfl rfl (fun r177 H_r177 O_r177 q_r177 => ?_)
          refine yG.invV (rest := []) A_hq.1 (bOb (d_Net W) H_r175) rfl rfl rfl rfl (c_Net_copy W (d + 4) A_hq.1 M_bSh_hq H_r175 H_r177) (fun rv h178 q9 => ?_)
          obtain ⟨q9, M_bSh_h178⟩ := q9
          obtain ⟨⟨rfl, R_z179⟩, B_h178⟩ := q9
          have A_h178 := A_hq.tr B_h178 (by decide)
          have : ys h178 k0 10 = ys hq k0 10 := B_h178.ys H_k0 (by decide)
          have : ys h178 k0 9 = ys hq k0 9 := B_h178.ys H_k0 (by decide)
          have qq201 : zsl h178 k0 7 = yR r6 := (B_h178.sl H_k0 (by decide)).trans q_r6
          have : ys h178 r6 (gg0 : Int).toNat = ys hq r6 (gg0 : Int).toNat := B_h178.ys H_r6 (bNo_ok (by decide) _)
          have qq202 : zsl h178 a3 0 = yR r174 := (B_h178.sl H_a3 (by decide)).trans q_r174
          have qq203 : zsl h178 r174 0 = yR r175 := (B_h178.sl H_r174 (by decide)).trans q_r175
          have qq204 : zsl h178 a2 0 = yR r176 := (B_h178.sl H_a2 (by decide)).trans q_r176
          have qq205 : zsl h178 r176 0 = yR r177 := (B_h178.sl H_r176 (by decide)).trans q_r177
          show yG _ _ _ _ _ _ _ _ _ _ [] _
          refine yG.load xak rfl (fun _ _ => rfl) (v := yR a3) rfl rfl ?_
          refine yG.getS9 A_h178.1 (w_FlowS_shape W H_a3) qq202 rfl rfl ?_
          refine yG.getS9 A_h178.1 (w_Shape_net W H_r174) qq203 rfl rfl ?_
          refine yG.getS (c := 11) rfl rfl ?_
          refine yG.load xik rfl (fun _ _ => rfl) (v := yI (5)) rfl rfl ?_
          refine yG.ialdF A_h178.1 (v_S_Rules_ACT_SORT W (s_S_Rules_ACT_SORT W)) rfl rfl (by omega) (by omega) (fun z180 e_z180 i_z180 l_z180 u_z180 => ?_)
          obtain rfl : z180 = 1 := by omega
          refine yG.load xik rfl (fun _ _ => rfl) (v := yI (z12)) rfl rfl ?_
          refine yG.getS (c := 12) rfl rfl ?_
          refine yG.load xik rfl (fun _ _ => rfl) (v := yI (5)) rfl rfl ?_
          refine yG.ialdF A_h178.1 (v_S_Rules_ACT_FIELD W (s_S_Rules_ACT_FIELD W)) rfl rfl (by omega) (by omega) (fun z181 e_z181 i_z181 l_z181 u_z181 => ?_)
          obtain rfl : z181 = 2 := by omega
          refine yG.invV (rest := []) A_h178.1 (bOb (d_Net W) H_r175) rfl rfl rfl rfl (c_Net_at_1_2 W (d + 5) A_h178.1 H_r175 (z12) (by omega) (by omega)) (fun rv hp9 q9 => ?_)
          obtain ⟨⟨z182, rfl, l_z182, u_z182, R_z182⟩, e9⟩ := q9
          rw [e9]
          show yG _ _ _ _ _ _ _ _ _ _ (yI z182 :: []) _
          refine yG.getS (c := 13) rfl rfl ?_
          refine yG.load xik rfl (fun _ _ => rfl) (v := yI (5)) rfl rfl ?_
          refine yG.ialdF A_h178.1 (v_S_Rules_ACT_VALUE W (s_S_Rules_ACT_VALUE W)) rfl rfl (by omega) (by omega) (fun z183 e_z183 i_z183 l_z183 u_z183 => ?_)
          obtain rfl : z183 = 0 := by omega
          refine yG.icmp rfl (t := 148) rfl ⟨by omega, by omega⟩ ⟨by omega, by omega⟩ (fun c184 => ?_) (fun c184 => ?_)
          · have c184 : (z182 : Int) ≠ 0 := c184
            refine yG.load xak rfl (fun _ _ => rfl) (v := yR a3) rfl rfl ?_
            refine yG.getS9 A_h178.1 (w_FlowS_shape W H_a3) qq202 rfl rfl ?_
            refine yG.getS9 A_h178.1 (w_Shape_net W H_r174) qq203 rfl rfl ?_
            refine yG.getS (c := 11) rfl rfl ?_
            refine yG.load xik rfl (fun _ _ => rfl) (v := yI (5)) rfl rfl ?_
            refine yG.ialdF A_h178.1 (v_S_Rules_ACT_SORT W (s_S_Rules_ACT_SORT W)) rfl rfl (by omega) (by omega) (fun z185 e_z185 i_z185 l_z185 u_z185 => ?_)
            obtain rfl : z185 = 1 := by omega
            refine yG.load xik rfl (fun _ _ => rfl) (v := yI (z12)) rfl rfl ?_
            refine yG.getS (c := 12) rfl rfl ?_
            refine yG.load xik rfl (fun _ _ => rfl) (v := yI (5)) rfl rfl ?_
            refine yG.ialdF A_h178.1 (v_S_Rules_ACT_FIELD W (s_S_Rules_ACT_FIELD W)) rfl rfl (by omega) (by omega) (fun z186 e_z186 i_z186 l_z186 u_z186 => ?_)
            obtain rfl : z186 = 2 := by omega
            refine yG.getS (c := 13) rfl rfl ?_
            refine yG.load xik rfl (fun _ _ => rfl) (v := yI (5)) rfl rfl ?_
            refine yG.ialdF A_h178.1 (v_S_Rules_ACT_VALUE W (s_S_Rules_ACT_VALUE W)) rfl rfl (by omega) (by omega) (fun z187 e_z187 i_z187 l_z187 u_z187 => ?_)
            obtain rfl : z187 = 0 := by omega
            refine yG.invV (rest := []) A_h178.1 (bOb (d_Net W) H_r175) rfl rfl rfl rfl (c_Net_put_1_2 W (d + 5) A_h178.1 H_r175 (z12) (0) (by omega) (by omega) (by omega) (by omega)) (fun rv h188 q9 => ?_)
            obtain ⟨⟨rfl, R_z189⟩, B_h188⟩ := q9
            have A_h188 := A_h178.tr B_h188 (by decide)
            have M_bSh_h188 := M_bSh_h178.fr B_h188 (by decide)
            have : ys h188 k0 10 = ys h178 k0 10 := B_h188.ys H_k0 (by decide)
            have : ys h188 k0 9 = ys h178 k0 9 := B_h188.ys H_k0 (by decide)
            have qq206 : zsl h188 k0 7 = yR r6 := (B_h188.sl H_k0 (by decide)).trans qq201
            have : ys h188 r6 (gg0 : Int).toNat = ys h178 r6 (gg0 : Int).toNat := B_h188.ys H_r6 (bNo_ok (by decide) _)
            have qq207 : zsl h188 a3 0 = yR r174 := (B_h188.sl H_a3 (by decide)).trans qq202
            have qq208 : zsl h188 r174 0 = yR r175 := (B_h188.sl H_r174 (by decide)).trans qq203
            have qq209 : zsl h188 a2 0 = yR r176 := (B_h188.sl H_a2 (by decide)).trans qq204
            have qq210 : zsl h188 r176 0 = yR r177 := (B_h188.sl H_r176 (by decide)).trans qq205
            show yG _ _ _ _ _ _ _ _ _ _ [] _
            refine yG.load xak rfl (fun _ _ => rfl) (v := yR a3) rfl rfl ?_
            refine yG.invV (rest := []) A_h188.1 (bOb (d_FlowS W) H_a3) rfl rfl rfl rfl (c_Flow_look_s W (d + 2) A_h188.1 H_a3) (fun rv h190 q9 => ?_)
            obtain ⟨⟨rfl, R_z191⟩, B_h190⟩ := q9
            have A_h190 := A_h188.tr B_h190 (by decide)
            have M_bSh_h190 := M_bSh_h188.fr B_h190 (by decide)
            have : ys h190 k0 10 = ys h188 k0 10 := B_h190.ys H_k0 (by decide)
            have : ys h190 k0 9 = ys h188 k0 9 := B_h190.ys H_k0 (by decide)
            have qq211 : zsl h190 k0 7 = yR r6 := (B_h190.sl H_k0 (by decide)).trans qq206
            have : ys h190 r6 (gg0 : Int).toNat = ys h188 r6 (gg0 : Int).toNat := B_h190.ys H_r6 (bNo_ok (by decide) _)
            have qq212 : zsl h190 a3 0 = yR r174 := (B_h190.sl H_a3 (by decide)).trans qq207
            have qq213 : zsl h190 r174 0 = yR r175 := (B_h190.sl H_r174 (by decide)).trans qq208
            have qq214 : zsl h190 a2 0 = yR r176 := (B_h190.sl H_a2 (by decide)).trans qq209
            have qq215 : zsl h190 r176 0 = yR r177 := (B_h190.sl H_r176 (by decide)).trans qq210
            show yG _ _ _ _ _ _ _ _ _ _ [] _
            refine yG.load xak rfl (fun _ _ => rfl) (v := yR a3) rfl rfl ?_
            refine yG.invV (rest := []) A_h190.1 (bOb (d_FlowS W) H_a3) rfl rfl rfl rfl (c_Flow_countOver_s W d A_h190.1 H_a3) (fun rv h192 q9 => ?_)
            obtain ⟨⟨rfl, R_z193⟩, B_h192⟩ := q9
            have A_h192 := A_h190.tr B_h192 (by decide)
            have M_bSh_h192 := M_bSh_h190.fr B_h192 (by decide)
            have : ys h192 k0 10 = ys h190 k0 10 := B_h192.ys H_k0 (by decide)
            have : ys h192 k0 9 = ys h190 k0 9 := B_h192.ys H_k0 (by decide)
            have qq216 : zsl h192 k0 7 = yR r6 := (B_h192.sl H_k0 (by decide)).trans qq211
            have : ys h192 r6 (gg0 : Int).toNat = ys h190 r6 (gg0 : Int).toNat := B_h192.ys H_r6 (bNo_ok (by decide) _)
            have qq217 : zsl h192 a3 0 = yR r174 := (B_h192.sl H_a3 (by decide)).trans qq212
            have qq218 : zsl h192 r174 0 = yR r175 := (B_h192.sl H_r174 (by decide)).trans qq213
            have qq219 : zsl h192 a2 0 = yR r176 := (B_h192.sl H_a2 (by decide)).trans qq214
            have qq220 : zsl h192 r176 0 = yR r177 := (B_h192.sl H_r176 (by decide)).trans qq215
            show yG _ _ _ _ _ _ _ _ _ _ [] _
            refine yG.load xak rfl (fun _ _ => rfl) (v := yR k0) rfl rfl ?_
            refine yG.load xak rfl (fun _ _ => rfl) (v := yR k0) rfl rfl ?_
            refine yG.load xik rfl (fun _ _ => rfl) (v := yI (5)) rfl rfl ?_
            refine yG.load xik rfl (fun _ _ => rfl) (v := yI (z12)) rfl rfl ?_
            refine yG.load xak rfl (fun _ _ => rfl) (v := yR a2) rfl rfl ?_
            refine yG.load xak rfl (fun _ _ => rfl) (v := yR a3) rfl rfl ?_
            obtain ⟨r194, H_r194, q_r194⟩ := bFdO (w_Rules_code W H_k0) A_h192.1
            obtain ⟨g195, e_g195⟩ : ∃ z : Int, z = ys h192 k0 6 := ⟨_, rfl⟩
            obtain ⟨-, -, l_g195, u_g195⟩ := (w_Rules_count W H_k0).int A_h192.1
            refine yG.invV (rest := [yR k0]) A_h192.1 (bOb (d_Rules W) H_k0) rfl rfl rfl rfl (c_Rules_firstAgainst_s2 W (d + 1) A_h192.1 (M_bCd.fr A_h192 (by decide)) H_k0 H_a2 H_a3 H_r194 q_r194 (5) (z12) (by omega) (by omega) (by omega) (by omega)) (fun rv hp9 q9 => ?_)
            obtain ⟨⟨z196, rfl, l_z196, u_z196, R_z196⟩, e9⟩ := q9
            rw [e9]
            show yG _ _ _ _ _ _ _ _ _ _ (yI z196 :: [yR k0]) _
            refine yG.putI A_h192.1 (w_Rules_stoppedBy W H_k0) (W.2.1 _ _ H_k0 (by decide) (by decide)) rfl rfl (.inl rfl) ⟨by omega, by omega⟩ (by omega) (by omega) (fun h197 T_h197 b_h197 f_h197 y_h197 => ?_)
            have M_bSh_h197 := M_bSh_h192.fr (bAx.put (Wl := [(162259276829213363391578010288128, 12)]) (bAx.rf A_h192.1) T_h197 b_h197 f_h197 H_k0 (by decide)) (by decide)
            have A_h197 := A_h192.put T_h197 b_h197 f_h197 H_k0 (by decide)
            have : ys h197 k0 10 = ys h192 k0 10 := (y_h197 k0 10).trans (if_neg (fun e => absurd e.2 (by decide)))
            have : ys h197 k0 9 = ys h192 k0 9 := (y_h197 k0 9).trans (if_neg (fun e => absurd e.2 (by decide)))
            have qq221 : zsl h197 k0 7 = yR r6 := ((f_h197 k0 7).trans (if_neg (fun e => absurd e.2 (by decide)))).trans qq216
            have : ys h197 r6 (gg0 : Int).toNat = ys h192 r6 (gg0 : Int).toNat := (y_h197 r6 (gg0 : Int).toNat).trans (if_neg (fun e => (bRo.ne H_r6 H_k0 (by decide)) e.1))
            have qq222 : zsl h197 a3 0 = yR r174 := ((f_h197 a3 0).trans (if_neg (fun e => (bRo.ne H_a3 H_k0 (by decide)) e.1))).trans qq217
            have qq223 : zsl h197 r174 0 = yR r175 := ((f_h197 r174 0).trans (if_neg (fun e => (bRo.ne H_r174 H_k0 (by decide)) e.1))).trans qq218
            have qq224 : zsl h197 a2 0 = yR r176 := ((f_h197 a2 0).trans (if_neg (fun e => (bRo.ne H_a2 H_k0 (by decide)) e.1))).trans qq219
            have qq225 : zsl h197 r176 0 = yR r177 := ((f_h197 r176 0).trans (if_neg (fun e => (bRo.ne H_r176 H_k0 (by decide)) e.1))).trans qq220
            have : ys h197 k0 12 = z196 := (y_h197 k0 12).trans (if_pos ⟨rfl, rfl⟩)
            refine yG.load xak rfl (fun _ _ => rfl) (v := yR k0) rfl rfl ?_
            refine yG.getI A_h197.1 (w_Rules_stoppedBy W H_k0) rfl rfl (fun z198 e_z198 i_z198 l_z198 u_z198 => ?_)
            rw [show (z198 : Int) = z196 by omega]
            refine yG.num (c := -1) rfl (fun _ _ => rfl) (by decide) ?_
            refine yG.icmp rfl (t := 219) rfl ⟨by omega, by omega⟩ ⟨by omega, by omega⟩ (fun c199 => ?_) (fun c199 => ?_)
            · have c199 : (z196 : Int) = (-1) := c199
              refine yG.load xak rfl (fun _ _ => rfl) (v := yR a2) rfl rfl ?_
              refine yG.store1 xak (L' := [(6, yR a2), (5, yI (z12)), (4, yI (5)), (0, yR k0), (2, yR a2), (3, yR a3)]) rfl (fun _ _ => rfl) rfl rfl ?_
              refine yG.load xak rfl (fun _ _ => rfl) (v := yR a3) rfl rfl ?_
              refine yG.store1 xak (L' := [(2, yR a3), (6, yR a2), (5, yI (z12)), (4, yI (5)), (0, yR k0), (3, yR a3)]) rfl (fun _ _ => rfl) rfl rfl ?_
              refine yG.load xak rfl (fun _ _ => rfl) (v := yR a2) rfl rfl ?_
              refine yG.store1 xak (L' := [(3, yR a2), (2, yR a3), (6, yR a2), (5, yI (z12)), (4, yI (5)), (0, yR k0)]) rfl (fun _ _ => rfl) rfl rfl ?_
              refine yG.load xak rfl (fun _ _ => rfl) (v := yR k0) rfl rfl ?_
              refine yG.step (pc' := 229) (stk' := [yR k0, yR k0]) rfl (fun _ _ => rfl) ?_
              refine yG.getI A_h197.1 (w_Rules_done W H_k0) rfl rfl (fun z200 e_z200 i_z200 l_z200 u_z200 => ?_)
              rw [show (z200 : Int) = gg0 by omega]
              refine yG.num (c := 1) rfl (fun _ _ => rfl) (by decide) ?_
              refine yG.iadd rfl ?_
              refine yG.putI A_h197.1 (w_Rules_done W H_k0) (W.2.1 _ _ H_k0 (by decide) (by decide)) rfl rfl (.inl rfl) ⟨by omega, by omega⟩ (by omega) (by omega) (fun h201 T_h201 b_h201 f_h201 y_h201 => ?_)
              have M_bSh_h201 := M_bSh_h197.fr (bAx.put (Wl := [(162259276829213363391578010288128, 10)]) (bAx.rf A_h197.1) T_h201 b_h201 f_h201 H_k0 (by decide)) (by decide)
              have A_h201 := A_h197.put T_h201 b_h201 f_h201 H_k0 (by decide)
              have : ys h201 k0 9 = ys h197 k0 9 := (y_h201 k0 9).trans (if_neg (fun e => absurd e.2 (by decide)))
              have qq226 : zsl h201 k0 7 = yR r6 := ((f_h201 k0 7).trans (if_neg (fun e => absurd e.2 (by decide)))).trans qq221
              have : ys h201 r6 (gg0 : Int).toNat = ys h197 r6 (gg0 : Int).toNat := (y_h201 r6 (gg0 : Int).toNat).trans (if_neg (fun e => (bRo.ne H_r6 H_k0 (by decide)) e.1))
              have qq227 : zsl h201 a3 0 = yR r174 := ((f_h201 a3 0).trans (if_neg (fun e => (bRo.ne H_a3 H_k0 (by decide)) e.1))).trans qq222
              have qq228 : zsl h201 r174 0 = yR r175 := ((f_h201 r174 0).trans (if_neg (fun e => (bRo.ne H_r174 H_k0 (by decide)) e.1))).trans qq223
              have qq229 : zsl h201 a2 0 = yR r176 := ((f_h201 a2 0).trans (if_neg (fun e => (bRo.ne H_a2 H_k0 (by decide)) e.1))).trans qq224
              have qq230 : zsl h201 r176 0 = yR r177 := ((f_h201 r176 0).trans (if_neg (fun e => (bRo.ne H_r176 H_k0 (by decide)) e.1))).trans qq225
              have : ys h201 k0 12 = ys h197 k0 12 := (y_h201 k0 12).trans (if_neg (fun e => absurd e.2 (by decide)))
              have : ys h201 k0 10 = gg0 + 1 := (y_h201 k0 10).trans (if_pos ⟨rfl, rfl⟩)
              refine yG.goto rfl (t := 48) rfl ?_
              exact yG.mono (yG.sub (i_48 a3 a2 (ys h201 k0 10) (ys h201 k0 9) h201 A_h201 M_bSh_h201 H_a3 H_a2 rfl rfl (by omega) (by omega) (by omega) (by omega) (by omega) (by omega)) (ySub.cons rfl (ySub.cons rfl (ySub.cons rfl (ySub.nil))))) (by omega)
            · have c199 : (z196 : Int) ≠ (-1) := c199
              refine yG.load xak rfl (fun _ _ => rfl) (v := yR k0) rfl rfl ?_
              refine yG.load xak rfl (fun _ _ => rfl) (v := yR k0) rfl rfl ?_
              refine yG.getI A_h197.1 (w_Rules_done W H_k0) rfl rfl (fun z202 e_z202 i_z202 l_z202 u_z202 => ?_)
              rw [show (z202 : Int) = gg0 by omega]
              refine yG.putI A_h197.1 (w_Rules_stopped W H_k0) (W.2.1 _ _ H_k0 (by decide) (by decide)) rfl rfl (.inl rfl) ⟨by omega, by omega⟩ (by omega) (by omega) (fun h203 T_h203 b_h203 f_h203 y_h203 => ?_)
              have M_bSh_h203 := M_bSh_h197.fr (bAx.put (Wl := [(162259276829213363391578010288128, 11)]) (bAx.rf A_h197.1) T_h203 b_h203 f_h203 H_k0 (by decide)) (by decide)
              have A_h203 := A_h197.put T_h203 b_h203 f_h203 H_k0 (by decide)
              have : ys h203 k0 10 = ys h197 k0 10 := (y_h203 k0 10).trans (if_neg (fun e => absurd e.2 (by decide)))
              have : ys h203 k0 9 = ys h197 k0 9 := (y_h203 k0 9).trans (if_neg (fun e => absurd e.2 (by decide)))
              have qq231 : zsl h203 k0 7 = yR r6 := ((f_h203 k0 7).trans (if_neg (fun e => absurd e.2 (by decide)))).trans qq221
              have : ys h203 r6 (gg0 : Int).toNat = ys h197 r6 (gg0 : Int).toNat := (y_h203 r6 (gg0 : Int).toNat).trans (if_neg (fun e => (bRo.ne H_r6 H_k0 (by decide)) e.1))
              have qq232 : zsl h203 a3 0 = yR r174 := ((f_h203 a3 0).trans (if_neg (fun e => (bRo.ne H_a3 H_k0 (by decide)) e.1))).trans qq222
              have qq233 : zsl h203 r174 0 = yR r175 := ((f_h203 r174 0).trans (if_neg (fun e => (bRo.ne H_r174 H_k0 (by decide)) e.1))).trans qq223
              have qq234 : zsl h203 a2 0 = yR r176 := ((f_h203 a2 0).trans (if_neg (fun e => (bRo.ne H_a2 H_k0 (by decide)) e.1))).trans qq224
              have qq235 : zsl h203 r176 0 = yR r177 := ((f_h203 r176 0).trans (if_neg (fun e => (bRo.ne H_r176 H_k0 (by decide)) e.1))).trans qq225
              have : ys h203 k0 12 = ys h197 k0 12 := (y_h203 k0 12).trans (if_neg (fun e => absurd e.2 (by decide)))
              refine yG.goto rfl (t := 240) rfl ?_
              refine yG.load xak rfl (fun _ _ => rfl) (v := yR a2) rfl rfl ?_
              refine yG.getS9 A_h203.1 (w_FlowS_shape W H_a2) qq234 rfl rfl ?_
              refine yG.getS9 A_h203.1 (w_Shape_net W H_r176) qq235 rfl rfl ?_
              refine yG.ret rfl (fun _ _ => rfl) ?_
              exact (yP.ref ⟨⟨⟨r177, rfl, H_r177⟩, A_h203⟩, M_bSh_h203⟩)
          · have c184 : (z182 : Int) = 0 := c184
            refine yG.load xak rfl (fun _ _ => rfl) (v := yR k0) rfl rfl ?_
            refine yG.load xak rfl (fun _ _ => rfl) (v := yR k0) rfl rfl ?_
            refine yG.getI A_h178.1 (w_Rules_done W H_k0) rfl rfl (fun z204 e_z204 i_z204 l_z204 u_z204 => ?_)
            rw [show (z204 : Int) = gg0 by omega]
            refine yG.putI A_h178.1 (w_Rules_stopped W H_k0) (W.2.1 _ _ H_k0 (by decide) (by decide)) rfl rfl (.inl rfl) ⟨by omega, by omega⟩ (by omega) (by omega) (fun h205 T_h205 b_h205 f_h205 y_h205 => ?_)
            have M_bSh_h205 := M_bSh_h178.fr (bAx.put (Wl := [(162259276829213363391578010288128, 11)]) (bAx.rf A_h178.1) T_h205 b_h205 f_h205 H_k0 (by decide)) (by decide)
            have A_h205 := A_h178.put T_h205 b_h205 f_h205 H_k0 (by decide)
            have : ys h205 k0 10 = ys h178 k0 10 := (y_h205 k0 10).trans (if_neg (fun e => absurd e.2 (by decide)))
            have : ys h205 k0 9 = ys h178 k0 9 := (y_h205 k0 9).trans (if_neg (fun e => absurd e.2 (by decide)))
            have qq236 : zsl h205 k0 7 = yR r6 := ((f_h205 k0 7).trans (if_neg (fun e => absurd e.2 (by decide)))).trans qq201
            have : ys h205 r6 (gg0 : Int).toNat = ys h178 r6 (gg0 : Int).toNat := (y_h205 r6 (gg0 : Int).toNat).trans (if_neg (fun e => (bRo.ne H_r6 H_k0 (by decide)) e.1))
            have qq237 : zsl h205 a3 0 = yR r174 := ((f_h205 a3 0).trans (if_neg (fun e => (bRo.ne H_a3 H_k0 (by decide)) e.1))).trans qq202
            have qq238 : zsl h205 r174 0 = yR r175 := ((f_h205 r174 0).trans (if_neg (fun e => (bRo.ne H_r174 H_k0 (by decide)) e.1))).trans qq203
            have qq239 : zsl h205 a2 0 = yR r176 := ((f_h205 a2 0).trans (if_neg (fun e => (bRo.ne H_a2 H_k0 (by decide)) e.1))).trans qq204
            have qq240 : zsl h205 r176 0 = yR r177 := ((f_h205 r176 0).trans (if_neg (fun e => (bRo.ne H_r176 H_k0 (by decide)) e.1))).trans qq205
            refine yG.goto rfl (t := 240) rfl ?_
            refine yG.load xak rfl (fun _ _ => rfl) (v := yR a2) rfl rfl ?_
            refine yG.getS9 A_h205.1 (w_FlowS_shape W H_a2) qq239 rfl rfl ?_
            refine yG.getS9 A_h205.1 (w_Shape_net W H_r176) qq240 rfl rfl ?_
            refine yG.ret rfl (fun _ _ => rfl) ?_
            exact (yP.ref ⟨⟨⟨r177, rfl, H_r177⟩, A_h205⟩, M_bSh_h205⟩)
  refine yC.of (M := (xt_X7_follow, (7, (3, (8, []))))) rfl rfl (N := 4576) (yfuel (by decide)) ?_
  show yG 89 xfts (xcall 89 xfts xpools xms (d + 6)) (xpool xp_RX7) [] xt_X7_follow (yP 3 (fun rv hp' => (bQr G [(34359738368, 1), (1133871366144, 2), (1099511889920, 3), (262144, 4), (262144, 5), (1099511889920, 6), (1099511889920, 7), (1099511627776, 8), (2251799813685248, 9), (162259276829213365643377823973376, 10), (41700634145107834393887348457734144, 11), (41700634145107834391635548644048896, 12), (41538374868278621028243970633760768, 13), (41538374868278621028243970633760768, 14), (41538374868278621028243970633760768, 15), (2229825047303290880, 256)] hp 18) rv hp' ∧ bSh G hp')) 4576 0 [(0, yR k0), (1, yR k1)] [] hp
  have i_48 := H 51
  obtain ⟨gg0, E_0⟩ : ∃ z : Int, ys hp k0 10 = z := ⟨_, rfl⟩
  obtain ⟨-, -, g_0l, g_0u⟩ := (w_Rules_done W H_k0).int hT
  obtain ⟨gg1, E_1⟩ : ∃ z : Int, ys hp k0 9 = z := ⟨_, rfl⟩
  obtain ⟨-, -, g_1l, g_1u⟩ := (w_Rules_stepCount W H_k0).int hT
  refine yG.load xak rfl (fun _ _ => rfl) (v := yR k0) rfl rfl ?_
  refine yG.getO A_hp.1 (w_Rules_stages W H_k0) rfl rfl (fun r1 H_r1 O_r1 q_r1 => ?_)
  refine yG.num (c := 0) rfl (fun _ _ => rfl) (by decide) ?_
  refine yG.aaldO (r := 115) A_hp.1 (v_Rules_stages W H_r1) rfl rfl rfl (by omega) (by omega) (fun r2 H_r2 q_r2 => ?_)
  refine yG.store1 xak (L' := [(2, yR r2), (0, yR k0), (1, yR k1)]) rfl (fun _ _ => rfl) rfl rfl ?_
  refine yG.load xak rfl (fun _ _ => rfl) (v := yR k0) rfl rfl ?_
  refine yG.getS9 A_hp.1 (w_Rules_stages W H_k0) q_r1 rfl rfl ?_
  refine yG.num (c := 1) rfl (fun _ _ => rfl) (by decide) ?_
  refine yG.aaldO (r := 115) A_hp.1 (v_Rules_stages W H_r1) rfl rfl rfl (by omega) (by omega) (fun r3 H_r3 q_r3 => ?_)
  refine yG.store1 xak (L' := [(3, yR r3), (2, yR r2), (0, yR k0), (1, yR k1)]) rfl (fun _ _ => rfl) rfl rfl ?_
  refine yG.load xak rfl (fun _ _ => rfl) (v := yR r2) rfl rfl ?_
  refine yG.getO A_hp.1 (w_FlowS_shape W H_r2) rfl rfl (fun r4 H_r4 O_r4 q_r4 => ?_)
  refine yG.getO A_hp.1 (w_Shape_net W H_r4) rfl rfl (fun r5 H_r5 O_r5 q_r5 => ?_)
  refine yG.load xak rfl (fun _ _ => rfl) (v := yR k1) rfl rfl ?_
  refine yG.invV (rest := []) A_hp.1 (bOb (d_Net W) H_r5) rfl rfl rfl rfl (c_Net_copy W (d + 4) A_hp.1 M_bSh_hp H_r5 H_k1) (fun rv h6 q9 => ?_)
  obtain ⟨q9, M_bSh_h6⟩ := q9
  obtain ⟨⟨rfl, R_z7⟩, B_h6⟩ := q9
  have A_h6 := A_hp.tr B_h6 (by decide)
  have : ys h6 k0 10 = ys hp k0 10 := B_h6.ys H_k0 (by decide)
  have : ys h6 k0 9 = ys hp k0 9 := B_h6.ys H_k0 (by decide)
  have qq1 : zsl h6 k0 0 = yR r1 := (B_h6.sl H_k0 (by decide)).trans q_r1
  show yG _ _ _ _ _ _ _ _ _ _ [] _
  refine yG.load xak rfl (fun _ _ => rfl) (v := yR r2) rfl rfl ?_
  refine yG.invV (rest := []) A_h6.1 (bOb (d_FlowS W) H_r2) rfl rfl rfl rfl (c_Flow_look_s W (d + 2) A_h6.1 H_r2) (fun rv h8 q9 => ?_)
  obtain ⟨⟨rfl, R_z9⟩, B_h8⟩ := q9
  have A_h8 := A_h6.tr B_h8 (by decide)
  have M_bSh_h8 := M_bSh_h6.fr B_h8 (by decide)
  have : ys h8 k0 10 = ys h6 k0 10 := B_h8.ys H_k0 (by decide)
  have : ys h8 k0 9 = ys h6 k0 9 := B_h8.ys H_k0 (by decide)
  have qq2 : zsl h8 k0 0 = yR r1 := (B_h8.sl H_k0 (by decide)).trans qq1
  show yG _ _ _ _ _ _ _ _ _ _ [] _
  refine yG.load xak rfl (fun _ _ => rfl) (v := yR r2) rfl rfl ?_
  refine yG.invV (rest := []) A_h8.1 (bOb (d_FlowS W) H_r2) rfl rfl rfl rfl (c_Flow_countOver_s W d A_h8.1 H_r2) (fun rv h10 q9 => ?_)
  obtain ⟨⟨rfl, R_z11⟩, B_h10⟩ := q9
  have A_h10 := A_h8.tr B_h10 (by decide)
  have M_bSh_h10 := M_bSh_h8.fr B_h10 (by decide)
  have : ys h10 k0 10 = ys h8 k0 10 := B_h10.ys H_k0 (by decide)
  have : ys h10 k0 9 = ys h8 k0 9 := B_h10.ys H_k0 (by decide)
  have qq3 : zsl h10 k0 0 = yR r1 := (B_h10.sl H_k0 (by decide)).trans qq2
  show yG _ _ _ _ _ _ _ _ _ _ [] _
  refine yG.load xak rfl (fun _ _ => rfl) (v := yR k0) rfl rfl ?_
  refine yG.num (c := -1) rfl (fun _ _ => rfl) (by decide) ?_
  refine yG.putI A_h10.1 (w_Rules_stopped W H_k0) (W.2.1 _ _ H_k0 (by decide) (by decide)) rfl rfl (.inl rfl) ⟨by omega, by omega⟩ (by omega) (by omega) (fun h12 T_h12 b_h12 f_h12 y_h12 => ?_)
  have M_bSh_h12 := M_bSh_h10.fr (bAx.put (Wl := [(162259276829213363391578010288128, 11)]) (bAx.rf A_h10.1) T_h12 b_h12 f_h12 H_k0 (by decide)) (by decide)
  have A_h12 := A_h10.put T_h12 b_h12 f_h12 H_k0 (by decide)
  have : ys h12 k0 10 = ys h10 k0 10 := (y_h12 k0 10).trans (if_neg (fun e => absurd e.2 (by decide)))
  have : ys h12 k0 9 = ys h10 k0 9 := (y_h12 k0 9).trans (if_neg (fun e => absurd e.2 (by decide)))
  have qq4 : zsl h12 k0 0 = yR r1 := ((f_h12 k0 0).trans (if_neg (fun e => absurd e.2 (by decide)))).trans qq3
  refine yG.load xak rfl (fun _ _ => rfl) (v := yR k0) rfl rfl ?_
  refine yG.num (c := -1) rfl (fun _ _ => rfl) (by decide) ?_
  refine yG.putI A_h12.1 (w_Rules_stoppedBy W H_k0) (W.2.1 _ _ H_k0 (by decide) (by decide)) rfl rfl (.inl rfl) ⟨by omega, by omega⟩ (by omega) (by omega) (fun h13 T_h13 b_h13 f_h13 y_h13 => ?_)
  have M_bSh_h13 := M_bSh_h12.fr (bAx.put (Wl := [(162259276829213363391578010288128, 12)]) (bAx.rf A_h12.1) T_h13 b_h13 f_h13 H_k0 (by decide)) (by decide)
  have A_h13 := A_h12.put T_h13 b_h13 f_h13 H_k0 (by decide)
  have : ys h13 k0 10 = ys h12 k0 10 := (y_h13 k0 10).trans (if_neg (fun e => absurd e.2 (by decide)))
  have : ys h13 k0 9 = ys h12 k0 9 := (y_h13 k0 9).trans (if_neg (fun e => absurd e.2 (by decide)))
  have qq5 : zsl h13 k0 0 = yR r1 := ((f_h13 k0 0).trans (if_neg (fun e => absurd e.2 (by decide)))).trans qq4
  refine yG.load xak rfl (fun _ _ => rfl) (v := yR k0) rfl rfl ?_
  refine yG.num (c := 0) rfl (fun _ _ => rfl) (by decide) ?_
  refine yG.putI A_h13.1 (w_Rules_done W H_k0) (W.2.1 _ _ H_k0 (by decide) (by decide)) rfl rfl (.inl rfl) ⟨by omega, by omega⟩ (by omega) (by omega) (fun h14 T_h14 b_h14 f_h14 y_h14 => ?_)
  have M_bSh_h14 := M_bSh_h13.fr (bAx.put (Wl := [(162259276829213363391578010288128, 10)]) (bAx.rf A_h13.1) T_h14 b_h14 f_h14 H_k0 (by decide)) (by decide)
  have A_h14 := A_h13.put T_h14 b_h14 f_h14 H_k0 (by decide)
  have : ys h14 k0 9 = ys h13 k0 9 := (y_h14 k0 9).trans (if_neg (fun e => absurd e.2 (by decide)))
  have qq6 : zsl h14 k0 0 = yR r1 := ((f_h14 k0 0).trans (if_neg (fun e => absurd e.2 (by decide)))).trans qq5
  have : ys h14 k0 10 = 0 := (y_h14 k0 10).trans (if_pos ⟨rfl, rfl⟩)
  exact yG.mono (yG.sub (i_48 r2 r3 (ys h14 k0 10) (ys h14 k0 9) h14 A_h14 M_bSh_h14 H_r2 H_r3 rfl rfl (by omega) (by omega) (by omega) (by omega) (by omega) (by omega)) (ySub.cons rfl (ySub.cons rfl (ySub.cons rfl (ySub.nil))))) (by omega)
theorem c_Rules_setOut {hp : xH} (W : bW G) (d : Nat) (hT : zTy G hp) (M_bSh : bSh G hp) {k0 : Nat} (H_k0 : bRo G 107 k0) {k1 : Nat} (H_k1 : bRo G 18 k1) : yC (xcall 89 xfts xpools xms (d + 7)) 209 [yR k0, yR k1] hp (fun rv hp' => (fun rv hp' => (rv = none ∧ True) ∧ bAx G [(34359738368, 1), (1133871366144, 2), (1099511889920, 3), (262144, 4), (262144, 5), (1099511889920, 6), (1099511889920, 7), (1099511627776, 8), (2251799813685248, 9), (2251799813685248, 10), (41538374868278621030495770447446016, 11), (41538374868278621028243970633760768, 12), (41538374868278621028243970633760768, 13), (41700634145107834391635548644048896, 14), (41538374868278621028243970633760768, 15), (162259276829213363391578010288128, 17), (162259276829213363391578010288128, 19), (12980742146337071301151288126341120, 256)] hp hp') rv hp' ∧ bSh G hp') := by
  have A_hp : bAx G [(34359738368, 1), (1133871366144, 2), (1099511889920, 3), (262144, 4), (262144, 5), (1099511889920, 6), (1099511889920, 7), (1099511627776, 8), (2251799813685248, 9), (2251799813685248, 10), (41538374868278621030495770447446016, 11), (41538374868278621028243970633760768, 12), (41538374868278621028243970633760768, 13), (41700634145107834391635548644048896, 14), (41538374868278621028243970633760768, 15), (162259276829213363391578010288128, 17), (162259276829213363391578010288128, 19), (12980742146337071301151288126341120, 256)] hp hp := bAx.rf hT
  have M_bSh_hp := M_bSh
  have H : ∀ m : Nat, (∀ a2 : Int, ∀ hq, bAx G [(34359738368, 1), (1133871366144, 2), (1099511889920, 3), (262144, 4), (262144, 5), (1099511889920, 6), (1099511889920, 7), (1099511627776, 8), (2251799813685248, 9), (2251799813685248, 10), (41538374868278621030495770447446016, 11), (41538374868278621028243970633760768, 12), (41538374868278621028243970633760768, 13), (41700634145107834391635548644048896, 14), (41538374868278621028243970633760768, 15), (162259276829213363391578010288128, 17), (162259276829213363391578010288128, 19), (12980742146337071301151288126341120, 256)] hp hq → bSh G hq → 0 ≤ a2 → (-24) ≤ 0 - a2 → 0 - 515 * a2 + 12874 < (m : Int) → yG 89 xfts (xcall 89 xfts xpools xms (d + 6)) (xpool xp_RX7) [] xt_X7_setOut (yP 0 (fun rv hp' => (fun rv hp' => (rv = none ∧ True) ∧ bAx G [(34359738368, 1), (1133871366144, 2), (1099511889920, 3), (262144, 4), (262144, 5), (1099511889920, 6), (1099511889920, 7), (1099511627776, 8), (2251799813685248, 9), (2251799813685248, 10), (41538374868278621030495770447446016, 11), (41538374868278621028243970633760768, 12), (41538374868278621028243970633760768, 13), (41700634145107834391635548644048896, 14), (41538374868278621028243970633760768, 15), (162259276829213363391578010288128, 17), (162259276829213363391578010288128, 19), (12980742146337071301151288126341120, 256)] hp hp') rv hp' ∧ bSh G hp')) (38 * m) 7 [(0, yR k0), (1, yR k1), (2, yI (a2))] [] hq) ∧ (∀ a2 : Int, ∀ hq, bAx G [(34359738368, 1), (1133871366144, 2), (1099511889920, 3), (262144, 4), (262144, 5), (1099511889920, 6), (1099511889920, 7), (1099511627776, 8), (2251799813685248, 9), (2251799813685248, 10), (41538374868278621030495770447446016, 11), (41538374868278621028243970633760768, 12), (41538374868278621028243970633760768, 13), (41700634145107834391635548644048896, 14), (41538374868278621028243970633760768, 15), (162259276829213363391578010288128, 17), (162259276829213363391578010288128, 19), (12980742146337071301151288126341120, 256)] hp hq → bSh G hq → 0 ≤ a2 → (-256) ≤ 0 - a2 → 0 - 2 * a2 + 513 < (m : Int) → yG 89 xfts (xcall 89 xfts xpools xms (d + 6)) (xpool xp_RX7) [] xt_X7_setOut (yP 0 (fun rv hp' => (fun rv hp' => (rv = none ∧ True) ∧ bAx G [(34359738368, 1), (1133871366144, 2), (1099511889920, 3), (262144, 4), (262144, 5), (1099511889920, 6), (1099511889920, 7), (1099511627776, 8), (2251799813685248, 9), (2251799813685248, 10), (41538374868278621030495770447446016, 11), (41538374868278621028243970633760768, 12), (41538374868278621028243970633760768, 13), (41700634145107834391635548644048896, 14), (41538374868278621028243970633760768, 15), (162259276829213363391578010288128, 17), (162259276829213363391578010288128, 19), (12980742146337071301151288126341120, 256)] hp hp') rv hp' ∧ bSh G hp')) (38 * m) 74 [(0, yR k0), (1, yR k1), (2, yI (a2))] [] hq) := by
    intro m
    induction m with
    | zero =>
      refine ⟨?_, ?_⟩ <;> (intros; exfalso; omega)
    | succ m ih =>
      obtain ⟨i_7, i_74⟩ := ih
      refine ⟨?_, ?_⟩
      · intro a2 hq A_hq M_bSh_hq f0 f1 hm
        refine yG.mono (N := 38 * m + 38) ?_ (by omega)
        refine yG.load xik rfl (fun _ _ => rfl) (v := yI (a2)) rfl rfl ?_
        refine yG.load xak rfl (fun _ _ => rfl) (v := yR k1) rfl rfl ?_
        refine yG.getO A_hq.1 (w_Net_count W H_k1) rfl rfl (fun r1 H_r1 O_r1 q_r1 => ?_)
        refine yG.num (c := 1) rfl (fun _ _ => rfl) (by decide) ?_
        refine yG.ialdF A_hq.1 (v_Net_count W H_r1) rfl rfl (by omega) (by omega) (fun z2 e_z2 i_z2 l_z2 u_z2 => ?_)
        refine yG.icmp rfl (t := 72) rfl ⟨by omega, by omega⟩ ⟨by omega, by omega⟩ (fun c3 => ?_) (fun c3 => ?_)
        · have c3 : (a2 : Int) ≥ z2 := c3
          refine yG.num (c := 0) rfl (fun _ _ => rfl) (by decide) ?_
          refine yG.store1 xik (L' := [(2, yI (0)), (0, yR k0), (1, yR k1)]) rfl (fun _ _ => rfl) rfl rfl ?_
          exact yG.mono (yG.sub (i_74 (0)  hq A_hq M_bSh_hq   (by omega) (by omega) (by omega)) (ySub.cons rfl (ySub.cons rfl (ySub.cons rfl (ySub.nil))))) (by omega)
        · have c3 : (a2 : Int) < z2 := c3
          refine yG.load xak rfl (fun _ _ => rfl) (v := yR k0) rfl rfl ?_
          refine yG.getI A_hq.1 (w_Rules_triedCount W H_k0) rfl rfl (fun z4 e_z4 i_z4 l_z4 u_z4 => ?_)
          refine yG.num (c := 8) rfl (fun _ _ => rfl) (by decide) ?_
          refine yG.icmp rfl (t := 72) rfl ⟨by omega, by omega⟩ ⟨by omega, by omega⟩ (fun c5 => ?_) (fun c5 => ?_)
          · have c5 : (z4 : Int) ≥ 8 := c5
            refine yG.num (c := 0) rfl (fun _ _ => rfl) (by decide) ?_
            refine yG.store1 xik (L' := [(2, yI (0)), (0, yR k0), (1, yR k1)]) rfl (fun _ _ => rfl) rfl rfl ?_
            exact yG.mono (yG.sub (i_74 (0)  hq A_hq M_bSh_hq   (by omega) (by omega) (by omega)) (ySub.cons rfl (ySub.cons rfl (ySub.cons rfl (ySub.nil))))) (by omega)
          · have c5 : (z4 : Int) < 8 := c5
            refine yG.load xak rfl (fun _ _ => rfl) (v := yR k1) rfl rfl ?_
            refine yG.num (c := 1) rfl (fun _ _ => rfl) (by decide) ?_
            refine yG.load xik rfl (fun _ _ => rfl) (v := yI (a2)) rfl rfl ?_
            refine yG.num (c := 0) rfl (fun _ _ => rfl) (by decide) ?_
            refine yG.invV (rest := []) A_hq.1 (bOb (d_Net W) H_k1) rfl rfl rfl rfl (c_Net_at_1_0 W (d + 5) A_hq.1 H_k1 (a2) (by omega) (by omega)) (fun rv hp9 q9 => ?_)
            obtain ⟨⟨z6, rfl, l_z6, u_z6, R_z6⟩, e9⟩ := q9
            rw [e9]
            show yG _ _ _ _ _ _ _ _ _ _ (yI z6 :: []) _
            refine yG.ifz rfl (t := 66) rfl ⟨by omega, by omega⟩ (fun c7 => ?_) (fun c7 => ?_)
            · have c7 : (z6 : Int) ≠ 0 := c7
              refine yG.iinc rfl (a := a2) rfl (L' := [(2, yI (a2 + 1)), (0, yR k0), (1, yR k1)]) rfl ?_
              refine yG.goto rfl (t := 7) rfl ?_
              exact yG.mono (yG.sub (i_7 (a2 + 1)  hq A_hq M_bSh_hq   (by omega) (by omega) (by omega)) (ySub.cons rfl (ySub.cons rfl (ySub.cons rfl (ySub.nil))))) (by omega)
            · have c7 : (z6 : Int) = 0 := c7
              refine yG.load xak rfl (fun _ _ => rfl) (v := yR k1) rfl rfl ?_
              refine yG.num (c := 1) rfl (fun _ _ => rfl) (by decide) ?_
              refine yG.load xik rfl (fun _ _ => rfl) (v := yI (a2)) rfl rfl ?_
              refine yG.num (c := 2) rfl (fun _ _ => rfl) (by decide) ?_
              refine yG.invV (rest := []) A_hq.1 (bOb (d_Net W) H_k1) rfl rfl rfl rfl (c_Net_is_1 W (d + 5) A_hq.1 H_k1 (a2) (2) (by omega) (by omega) (by omega) (by omega)) (fun rv hp9 q9 => ?_)
              obtain ⟨⟨z8, rfl, l_z8, u_z8, R_z8⟩, e9⟩ := q9
              rw [e9]
              show yG _ _ _ _ _ _ _ _ _ _ (yI z8 :: []) _
              refine yG.ifz rfl (t := 66) rfl ⟨by omega, by omega⟩ (fun c9 => ?_) (fun c9 => ?_)
              · have c9 : (z8 : Int) ≠ 0 := c9
                refine yG.iinc rfl (a := a2) rfl (L' := [(2, yI (a2 + 1)), (0, yR k0), (1, yR k1)]) rfl ?_
                refine yG.goto rfl (t := 7) rfl ?_
                exact yG.mono (yG.sub (i_7 (a2 + 1)  hq A_hq M_bSh_hq   (by omega) (by omega) (by omega)) (ySub.cons rfl (ySub.cons rfl (ySub.cons rfl (ySub.nil))))) (by omega)
              · have c9 : (z8 : Int) = 0 := c9
                refine yG.load xak rfl (fun _ _ => rfl) (v := yR k0) rfl rfl ?_
                refine yG.getO A_hq.1 (w_Rules_tried W H_k0) rfl rfl (fun r10 H_r10 O_r10 q_r10 => ?_)
                refine yG.load xak rfl (fun _ _ => rfl) (v := yR k0) rfl rfl ?_
                refine yG.getI A_hq.1 (w_Rules_triedCount W H_k0) rfl rfl (fun z11 e_z11 i_z11 l_z11 u_z11 => ?_)
                rw [show (z11 : Int) = z4 by omega]
                refine yG.load xik rfl (fun _ _ => rfl) (v := yI (a2)) rfl rfl ?_
                refine yG.iast A_hq.1 (v_Rules_tried W H_r10) (W.2.1 _ _ H_r10 (by decide) (by decide)) rfl (by omega) (by omega) ⟨by omega, by omega⟩ (by omega) (by omega) (fun h12 T_h12 b_h12 f_h12 y_h12 => ?_)
                have M_bSh_h12 := M_bSh_hq.fr (bAx.put (Wl := [(2596148429267413814265248164610048, 256)]) (bAx.rf A_hq.1) T_h12 b_h12 f_h12 H_r10 (bAll_ok (by decide) _)) (by decide)
                have A_h12 := A_hq.put T_h12 b_h12 f_h12 H_r10 (bAll_ok (by decide) _)
                have : ys h12 k0 14 = ys hq k0 14 := (y_h12 k0 14).trans (if_neg (fun e => (bRo.ne H_k0 H_r10 (by decide)) e.1))
                refine yG.load xak rfl (fun _ _ => rfl) (v := yR k0) rfl rfl ?_
                refine yG.step (pc' := 58) (stk' := [yR k0, yR k0]) rfl (fun _ _ => rfl) ?_
                refine yG.getI A_h12.1 (w_Rules_triedCount W H_k0) rfl rfl (fun z13 e_z13 i_z13 l_z13 u_z13 => ?_)
                rw [show (z13 : Int) = z4 by omega]
                refine yG.num (c := 1) rfl (fun _ _ => rfl) (by decide) ?_
                refine yG.iadd rfl ?_
                refine yG.putI A_h12.1 (w_Rules_triedCount W H_k0) (W.2.1 _ _ H_k0 (by decide) (by decide)) rfl rfl (.inl rfl) ⟨by omega, by omega⟩ (by omega) (by omega) (fun h14 T_h14 b_h14 f_h14 y_h14 => ?_)
                have M_bSh_h14 := M_bSh_h12.fr (bAx.put (Wl := [(162259276829213363391578010288128, 14)]) (bAx.rf A_h12.1) T_h14 b_h14 f_h14 H_k0 (by decide)) (by decide)
                have A_h14 := A_h12.put T_h14 b_h14 f_h14 H_k0 (by decide)
                have : ys h14 k0 14 = z4 + 1 := (y_h14 k0 14).trans (if_pos ⟨rfl, rfl⟩)
                refine yG.iinc rfl (a := a2) rfl (L' := [(2, yI (a2 + 1)), (0, yR k0), (1, yR k1)]) rfl ?_
                refine yG.goto rfl (t := 7) rfl ?_
                exact yG.mono (yG.sub (i_7 (a2 + 1)  h14 A_h14 M_bSh_h14   (by omega) (by omega) (by omega)) (ySub.cons rfl (ySub.cons rfl (ySub.cons rfl (ySub.nil))))) (by omega)
      · intro a2 hq A_hq M_bSh_hq f0 f1 hm
        refine yG.mono (N := 38 * m + 38) ?_ (by omega)
        refine yG.load xik rfl (fun _ _ => rfl) (v := yI (a2)) rfl rfl ?_
        refine yG.load xak rfl (fun _ _ => rfl) (v := yR k0) rfl rfl ?_
        refine yG.getO A_hq.1 (w_Rules_oversBySet W H_k0) rfl rfl (fun r1 H_r1 O_r1 q_r1 => ?_)
        refine yG.alenF A_hq.1 (v_Rules_oversBySet W H_r1).yIF rfl ?_
        obtain ⟨z2, e_z2⟩ : ∃ z : Int, z = ((256 : Nat) : Int) := ⟨_, rfl⟩
        rw [← e_z2]
        refine yG.icmp rfl (t := 96) rfl ⟨by omega, by omega⟩ ⟨by omega, by omega⟩ (fun c3 => ?_) (fun c3 => ?_)
        · have c3 : (a2 : Int) ≥ z2 := c3
          refine yG.load xak rfl (fun _ _ => rfl) (v := yR k0) rfl rfl ?_
          refine yG.getO A_hq.1 (w_Rules_stages W H_k0) rfl rfl (fun r4 H_r4 O_r4 q_r4 => ?_)
          refine yG.num (c := 0) rfl (fun _ _ => rfl) (by decide) ?_
          refine yG.aaldO (r := 115) A_hq.1 (v_Rules_stages W H_r4) rfl rfl rfl (by omega) (by omega) (fun r5 H_r5 q_r5 => ?_)
          refine yG.store1 xak (L' := [(2, yR r5), (0, yR k0), (1, yR k1)]) rfl (fun _ _ => rfl) rfl rfl ?_
          refine yG.load xak rfl (fun _ _ => rfl) (v := yR r5) rfl rfl ?_
          refine yG.getO A_hq.1 (w_FlowS_shape W H_r5) rfl rfl (fun r6 H_r6 O_r6 q_r6 => ?_)
          refine yG.getO A_hq.1 (w_Shape_net W H_r6) rfl rfl (fun r7 H_r7 O_r7 q_r7 => ?_)
          refine yG.load xak rfl (fun _ _ => rfl) (v := yR k1) rfl rfl ?_
          refine yG.invV (rest := []) A_hq.1 (bOb (d_Net W) H_r7) rfl rfl rfl rfl (c_Net_copy W (d + 4) A_hq.1 M_bSh_hq H_r7 H_k1) (fun rv h8 q9 => ?_)
          obtain ⟨q9, M_bSh_h8⟩ := q9
          obtain ⟨⟨rfl, R_z9⟩, B_h8⟩ := q9
          have A_h8 := A_hq.tr B_h8 (by decide)
          have qq1 : zsl h8 k0 16 = yR r1 := (B_h8.sl H_k0 (by decide)).trans q_r1
          show yG _ _ _ _ _ _ _ _ _ _ [] _
          refine yG.load xak rfl (fun _ _ => rfl) (v := yR r5) rfl rfl ?_
          refine yG.invV (rest := []) A_h8.1 (bOb (d_FlowS W) H_r5) rfl rfl rfl rfl (c_Flow_look_s W (d + 2) A_h8.1 H_r5) (fun rv h10 q9 => ?_)
          obtain ⟨⟨rfl, R_z11⟩, B_h10⟩ := q9
          have A_h10 := A_h8.tr B_h10 (by decide)
          have M_bSh_h10 := M_bSh_h8.fr B_h10 (by decide)
          have qq2 : zsl h10 k0 16 = yR r1 := (B_h10.sl H_k0 (by decide)).trans qq1
          show yG _ _ _ _ _ _ _ _ _ _ [] _
          refine yG.load xak rfl (fun _ _ => rfl) (v := yR r5) rfl rfl ?_
          refine yG.invV (rest := []) A_h10.1 (bOb (d_FlowS W) H_r5) rfl rfl rfl rfl (c_Flow_countOver_s W d A_h10.1 H_r5) (fun rv h12 q9 => ?_)
          obtain ⟨⟨rfl, R_z13⟩, B_h12⟩ := q9
          have A_h12 := A_h10.tr B_h12 (by decide)
          have M_bSh_h12 := M_bSh_h10.fr B_h12 (by decide)
          have qq3 : zsl h12 k0 16 = yR r1 := (B_h12.sl H_k0 (by decide)).trans qq2
          show yG _ _ _ _ _ _ _ _ _ _ [] _
          refine yG.load xak rfl (fun _ _ => rfl) (v := yR k0) rfl rfl ?_
          refine yG.load xak rfl (fun _ _ => rfl) (v := yR r5) rfl rfl ?_
          refine yG.getI A_h12.1 (w_FlowS_lost W H_r5) rfl rfl (fun z14 e_z14 i_z14 l_z14 u_z14 => ?_)
          refine yG.putI A_h12.1 (w_Rules_leastLost W H_k0) (W.2.1 _ _ H_k0 (by decide) (by decide)) rfl rfl (.inl rfl) ⟨by omega, by omega⟩ (by omega) (by omega) (fun h15 T_h15 b_h15 f_h15 y_h15 => ?_)
          have M_bSh_h15 := M_bSh_h12.fr (bAx.put (Wl := [(162259276829213363391578010288128, 17)]) (bAx.rf A_h12.1) T_h15 b_h15 f_h15 H_k0 (by decide)) (by decide)
          have A_h15 := A_h12.put T_h15 b_h15 f_h15 H_k0 (by decide)
          have qq4 : zsl h15 k0 16 = yR r1 := ((f_h15 k0 16).trans (if_neg (fun e => absurd e.2 (by decide)))).trans qq3
          refine yG.load xak rfl (fun _ _ => rfl) (v := yR k0) rfl rfl ?_
          refine yG.num (c := 0) rfl (fun _ _ => rfl) (by decide) ?_
          refine yG.putI A_h15.1 (w_Rules_foundCount W H_k0) (W.2.1 _ _ H_k0 (by decide) (by decide)) rfl rfl (.inl rfl) ⟨by omega, by omega⟩ (by omega) (by omega) (fun h16 T_h16 b_h16 f_h16 y_h16 => ?_)
          have M_bSh_h16 := M_bSh_h15.fr (bAx.put (Wl := [(162259276829213363391578010288128, 19)]) (bAx.rf A_h15.1) T_h16 b_h16 f_h16 H_k0 (by decide)) (by decide)
          have A_h16 := A_h15.put T_h16 b_h16 f_h16 H_k0 (by decide)
          have qq5 : zsl h16 k0 16 = yR r1 := ((f_h16 k0 16).trans (if_neg (fun e => absurd e.2 (by decide)))).trans qq4
          refine yG.ret rfl (fun _ _ => rfl) ?_
          exact (yP.void ⟨⟨⟨rfl, trivial⟩, A_h16⟩, M_bSh_h16⟩)
        · have c3 : (a2 : Int) < z2 := c3
          refine yG.load xak rfl (fun _ _ => rfl) (v := yR k0) rfl rfl ?_
          refine yG.getS9 A_hq.1 (w_Rules_oversBySet W H_k0) q_r1 rfl rfl ?_
          refine yG.load xik rfl (fun _ _ => rfl) (v := yI (a2)) rfl rfl ?_
          refine yG.num (c := -1) rfl (fun _ _ => rfl) (by decide) ?_
          refine yG.iast A_hq.1 (v_Rules_oversBySet W H_r1) (W.2.1 _ _ H_r1 (by decide) (by decide)) rfl (by omega) (by omega) ⟨by omega, by omega⟩ (by omega) (by omega) (fun h17 T_h17 b_h17 f_h17 y_h17 => ?_)
          have M_bSh_h17 := M_bSh_hq.fr (bAx.put (Wl := [(10384593717069655257060992658440192, 256)]) (bAx.rf A_hq.1) T_h17 b_h17 f_h17 H_r1 (bAll_ok (by decide) _)) (by decide)
          have A_h17 := A_hq.put T_h17 b_h17 f_h17 H_r1 (bAll_ok (by decide) _)
          have qq6 : zsl h17 k0 16 = yR r1 := ((f_h17 k0 16).trans (if_neg (fun e => (bRo.ne H_k0 H_r1 (by decide)) e.1))).trans q_r1
          refine yG.iinc rfl (a := a2) rfl (L' := [(2, yI (a2 + 1)), (0, yR k0), (1, yR k1)]) rfl ?_
          refine yG.goto rfl (t := 74) rfl ?_
          exact yG.mono (yG.sub (i_74 (a2 + 1)  h17 A_h17 M_bSh_h17   (by omega) (by omega) (by omega)) (ySub.cons rfl (ySub.cons rfl (ySub.cons rfl (ySub.nil))))) (by omega)
  refine yC.of (M := (xt_X7_setOut, (3, (0, (8, []))))) rfl rfl (N := 489326) (yfuel (by decide)) ?_
  show yG 89 xfts (xcall 89 xfts xpools xms (d + 6)) (xpool xp_RX7) [] xt_X7_setOut (yP 0 (fun rv hp' => (fun rv hp' => (rv = none ∧ True) ∧ bAx G [(34359738368, 1), (1133871366144, 2), (1099511889920, 3), (262144, 4), (262144, 5), (1099511889920, 6), (1099511889920, 7), (1099511627776, 8), (2251799813685248, 9), (2251799813685248, 10), (41538374868278621030495770447446016, 11), (41538374868278621028243970633760768, 12), (41538374868278621028243970633760768, 13), (41700634145107834391635548644048896, 14), (41538374868278621028243970633760768, 15), (162259276829213363391578010288128, 17), (162259276829213363391578010288128, 19), (12980742146337071301151288126341120, 256)] hp hp') rv hp' ∧ bSh G hp')) 489326 0 [(0, yR k0), (1, yR k1)] [] hp
  obtain ⟨i_7, i_74⟩ := H 12876
  refine yG.load xak rfl (fun _ _ => rfl) (v := yR k0) rfl rfl ?_
  refine yG.num (c := 0) rfl (fun _ _ => rfl) (by decide) ?_
  refine yG.putI A_hp.1 (w_Rules_triedCount W H_k0) (W.2.1 _ _ H_k0 (by decide) (by decide)) rfl rfl (.inl rfl) ⟨by omega, by omega⟩ (by omega) (by omega) (fun h1 T_h1 b_h1 f_h1 y_h1 => ?_)
  have M_bSh_h1 := M_bSh_hp.fr (bAx.put (Wl := [(162259276829213363391578010288128, 14)]) (bAx.rf A_hp.1) T_h1 b_h1 f_h1 H_k0 (by decide)) (by decide)
  have A_h1 := A_hp.put T_h1 b_h1 f_h1 H_k0 (by decide)
  refine yG.num (c := 0) rfl (fun _ _ => rfl) (by decide) ?_
  refine yG.store1 xik (L' := [(2, yI (0)), (0, yR k0), (1, yR k1)]) rfl (fun _ _ => rfl) rfl rfl ?_
  exact yG.mono (yG.sub (i_7 (0)  h1 A_h1 M_bSh_h1   (by omega) (by omega) (by omega)) (ySub.cons rfl (ySub.cons rfl (ySub.cons rfl (ySub.nil))))) (by omega)
theorem c_Rules_isFree {hp : xH} (W : bW G) (d : Nat) (hT : zTy G hp) (M_bSh : bSh G hp) (M_bCd : bCd G hp) {k0 : Nat} (H_k0 : bRo G 107 k0) (p1 p2 p3 : Int) (h1l : 0 ≤ p1) (h1u : p1 ≤ 2) (h2l : 0 ≤ p2) (h2u : p2 ≤ 23) (h3l : 0 ≤ p3) (h3u : p3 ≤ 255) : yC (xcall 89 xfts xpools xms (d + 7)) 195 [yR k0, yI (p1), yI (p2), yI (p3)] hp (fun rv hp' => (bQi G [(34359738368, 1), (1133871366144, 2), (1099511889920, 3), (262144, 4), (262144, 5), (1099511889920, 6), (1099511889920, 7), (1099511627776, 8), (2251799813685248, 9), (2251799813685248, 10), (41538374868278621030495770447446016, 11), (41538374868278621028243970633760768, 12), (41538374868278621028243970633760768, 13), (41538374868278621028243970633760768, 14), (41538374868278621028243970633760768, 15), (10384593717069657486886039961731072, 256)] hp 0 1 (fun _ => True)) rv hp' ∧ bSh G hp') := by
  have A_hp : bAx G [(34359738368, 1), (1133871366144, 2), (1099511889920, 3), (262144, 4), (262144, 5), (1099511889920, 6), (1099511889920, 7), (1099511627776, 8), (2251799813685248, 9), (2251799813685248, 10), (41538374868278621030495770447446016, 11), (41538374868278621028243970633760768, 12), (41538374868278621028243970633760768, 13), (41538374868278621028243970633760768, 14), (41538374868278621028243970633760768, 15), (10384593717069657486886039961731072, 256)] hp hp := bAx.rf hT
  have M_bSh_hp := M_bSh
  refine yC.of (M := (xt_X7_isFree, (6, (4, (8, []))))) rfl rfl (N := 186) (yfuel (by decide)) ?_
  show yG 89 xfts (xcall 89 xfts xpools xms (d + 6)) (xpool xp_RX7) [] xt_X7_isFree (yP 4 (fun rv hp' => (bQi G [(34359738368, 1), (1133871366144, 2), (1099511889920, 3), (262144, 4), (262144, 5), (1099511889920, 6), (1099511889920, 7), (1099511627776, 8), (2251799813685248, 9), (2251799813685248, 10), (41538374868278621030495770447446016, 11), (41538374868278621028243970633760768, 12), (41538374868278621028243970633760768, 13), (41538374868278621028243970633760768, 14), (41538374868278621028243970633760768, 15), (10384593717069657486886039961731072, 256)] hp 0 1 (fun _ => True)) rv hp' ∧ bSh G hp')) 186 0 [(0, yR k0), (1, yI (p1)), (2, yI (p2)), (3, yI (p3))] [] hp
  refine yG.load xak rfl (fun _ _ => rfl) (v := yR k0) rfl rfl ?_
  refine yG.getO A_hp.1 (w_Rules_stages W H_k0) rfl rfl (fun r1 H_r1 O_r1 q_r1 => ?_)
  refine yG.load xik rfl (fun _ _ => rfl) (v := yI (p1)) rfl rfl ?_
  refine yG.aaldO (r := 115) A_hp.1 (v_Rules_stages W H_r1) rfl rfl rfl (by omega) (by omega) (fun r2 H_r2 q_r2 => ?_)
  refine yG.store1 xak (L' := [(4, yR r2), (0, yR k0), (1, yI (p1)), (2, yI (p2)), (3, yI (p3))]) rfl (fun _ _ => rfl) rfl rfl ?_
  refine yG.load xak rfl (fun _ _ => rfl) (v := yR k0) rfl rfl ?_
  refine yG.getS9 A_hp.1 (w_Rules_stages W H_k0) q_r1 rfl rfl ?_
  refine yG.load xik rfl (fun _ _ => rfl) (v := yI (p1)) rfl rfl ?_
  refine yG.num (c := 1) rfl (fun _ _ => rfl) (by decide) ?_
  refine yG.iadd rfl ?_
  refine yG.aaldO (r := 115) A_hp.1 (v_Rules_stages W H_r1) rfl rfl rfl (by omega) (by omega) (fun r3 H_r3 q_r3 => ?_)
  refine yG.store1 xak (L' := [(5, yR r3), (4, yR r2), (0, yR k0), (1, yI (p1)), (2, yI (p2)), (3, yI (p3))]) rfl (fun _ _ => rfl) rfl rfl ?_
  refine yG.load xak rfl (fun _ _ => rfl) (v := yR r3) rfl rfl ?_
  refine yG.getO A_hp.1 (w_FlowS_shape W H_r3) rfl rfl (fun r4 H_r4 O_r4 q_r4 => ?_)
  refine yG.getO A_hp.1 (w_Shape_net W H_r4) rfl rfl (fun r5 H_r5 O_r5 q_r5 => ?_)
  refine yG.load xak rfl (fun _ _ => rfl) (v := yR r2) rfl rfl ?_
  refine yG.getO A_hp.1 (w_FlowS_shape W H_r2) rfl rfl (fun r6 H_r6 O_r6 q_r6 => ?_)
  refine yG.getO A_hp.1 (w_Shape_net W H_r6) rfl rfl (fun r7 H_r7 O_r7 q_r7 => ?_)
  refine yG.invV (rest := []) A_hp.1 (bOb (d_Net W) H_r5) rfl rfl rfl rfl (c_Net_copy W (d + 4) A_hp.1 M_bSh_hp H_r5 H_r7) (fun rv h8 q9 => ?_)
  obtain ⟨q9, M_bSh_h8⟩ := q9
  obtain ⟨⟨rfl, R_z9⟩, B_h8⟩ := q9
  have A_h8 := A_hp.tr B_h8 (by decide)
  have qq1 : zsl h8 k0 0 = yR r1 := (B_h8.sl H_k0 (by decide)).trans q_r1
  have qq2 : zsl h8 r3 0 = yR r4 := (B_h8.sl H_r3 (by decide)).trans q_r4
  have qq3 : zsl h8 r4 0 = yR r5 := (B_h8.sl H_r4 (by decide)).trans q_r5
  show yG _ _ _ _ _ _ _ _ _ _ [] _
  refine yG.load xak rfl (fun _ _ => rfl) (v := yR r3) rfl rfl ?_
  refine yG.getS9 A_h8.1 (w_FlowS_shape W H_r3) qq2 rfl rfl ?_
  refine yG.getS9 A_h8.1 (w_Shape_net W H_r4) qq3 rfl rfl ?_
  refine yG.num (c := 1) rfl (fun _ _ => rfl) (by decide) ?_
  refine yG.load xik rfl (fun _ _ => rfl) (v := yI (p2)) rfl rfl ?_
  refine yG.num (c := 0) rfl (fun _ _ => rfl) (by decide) ?_
  refine yG.num (c := 1) rfl (fun _ _ => rfl) (by decide) ?_
  refine yG.invV (rest := []) A_h8.1 (bOb (d_Net W) H_r5) rfl rfl rfl rfl (c_Net_put_1_0 W (d + 5) A_h8.1 H_r5 (p2) (1) (by omega) (by omega) (by omega) (by omega)) (fun rv h10 q9 => ?_)
  obtain ⟨⟨rfl, R_z11⟩, B_h10⟩ := q9
  have A_h10 := A_h8.tr B_h10 (by decide)
  have M_bSh_h10 := M_bSh_h8.fr B_h10 (by decide)
  have qq4 : zsl h10 k0 0 = yR r1 := (B_h10.sl H_k0 (by decide)).trans qq1
  have qq5 : zsl h10 r3 0 = yR r4 := (B_h10.sl H_r3 (by decide)).trans qq2
  have qq6 : zsl h10 r4 0 = yR r5 := (B_h10.sl H_r4 (by decide)).trans qq3
  show yG _ _ _ _ _ _ _ _ _ _ [] _
  refine yG.load xak rfl (fun _ _ => rfl) (v := yR r3) rfl rfl ?_
  refine yG.invV (rest := []) A_h10.1 (bOb (d_FlowS W) H_r3) rfl rfl rfl rfl (c_Flow_look_s W (d + 2) A_h10.1 H_r3) (fun rv h12 q9 => ?_)
  obtain ⟨⟨rfl, R_z13⟩, B_h12⟩ := q9
  have A_h12 := A_h10.tr B_h12 (by decide)
  have M_bSh_h12 := M_bSh_h10.fr B_h12 (by decide)
  have qq7 : zsl h12 k0 0 = yR r1 := (B_h12.sl H_k0 (by decide)).trans qq4
  have qq8 : zsl h12 r3 0 = yR r4 := (B_h12.sl H_r3 (by decide)).trans qq5
  have qq9 : zsl h12 r4 0 = yR r5 := (B_h12.sl H_r4 (by decide)).trans qq6
  show yG _ _ _ _ _ _ _ _ _ _ [] _
  refine yG.load xak rfl (fun _ _ => rfl) (v := yR r3) rfl rfl ?_
  refine yG.load xak rfl (fun _ _ => rfl) (v := yR k0) rfl rfl ?_
  refine yG.getO A_h12.1 (w_Rules_oversBySet W H_k0) rfl rfl (fun r14 H_r14 O_r14 q_r14 => ?_)
  refine yG.load xik rfl (fun _ _ => rfl) (v := yI (p3)) rfl rfl ?_
  refine yG.iald A_h12.1 (v_Rules_oversBySet W H_r14) rfl (by omega) (by omega) (fun z15 e_z15 i_z15 l_z15 u_z15 => ?_)
  refine yG.putI A_h12.1 (w_FlowS_overs W H_r3) (W.2.1 _ _ H_r3 (by decide) (by decide)) rfl rfl (.inl rfl) ⟨by omega, by omega⟩ (by omega) (by omega) (fun h16 T_h16 b_h16 f_h16 y_h16 => ?_)
  have M_bSh_h16 := M_bSh_h12.fr (bAx.put (Wl := [(41538374868278621028243970633760768, 14)]) (bAx.rf A_h12.1) T_h16 b_h16 f_h16 H_r3 (by decide)) (by decide)
  have A_h16 := A_h12.put T_h16 b_h16 f_h16 H_r3 (by decide)
  have qq10 : zsl h16 k0 0 = yR r1 := ((f_h16 k0 0).trans (if_neg (fun e => (bRo.ne H_k0 H_r3 (by decide)) e.1))).trans qq7
  have qq11 : zsl h16 r3 0 = yR r4 := ((f_h16 r3 0).trans (if_neg (fun e => absurd e.2 (by decide)))).trans qq8
  have qq12 : zsl h16 r4 0 = yR r5 := ((f_h16 r4 0).trans (if_neg (fun e => (bRo.ne H_r4 H_r3 (by decide)) e.1))).trans qq9
  have qq13 : zsl h16 k0 16 = yR r14 := ((f_h16 k0 16).trans (if_neg (fun e => (bRo.ne H_k0 H_r3 (by decide)) e.1))).trans q_r14
  have : ys h16 r3 14 = z15 := (y_h16 r3 14).trans (if_pos ⟨rfl, rfl⟩)
  refine yG.load xak rfl (fun _ _ => rfl) (v := yR r3) rfl rfl ?_
  refine yG.invV (rest := []) A_h16.1 (bOb (d_FlowS W) H_r3) rfl rfl rfl rfl (c_Flow_countOver_s W d A_h16.1 H_r3) (fun rv h17 q9 => ?_)
  obtain ⟨⟨rfl, R_z18⟩, B_h17⟩ := q9
  have A_h17 := A_h16.tr B_h17 (by decide)
  have M_bSh_h17 := M_bSh_h16.fr B_h17 (by decide)
  have qq14 : zsl h17 k0 0 = yR r1 := (B_h17.sl H_k0 (by decide)).trans qq10
  have qq15 : zsl h17 r3 0 = yR r4 := (B_h17.sl H_r3 (by decide)).trans qq11
  have qq16 : zsl h17 r4 0 = yR r5 := (B_h17.sl H_r4 (by decide)).trans qq12
  have qq17 : zsl h17 k0 16 = yR r14 := (B_h17.sl H_k0 (by decide)).trans qq13
  show yG _ _ _ _ _ _ _ _ _ _ [] _
  refine yG.load xak rfl (fun _ _ => rfl) (v := yR k0) rfl rfl ?_
  refine yG.getS9 A_h17.1 (w_Rules_oversBySet W H_k0) qq17 rfl rfl ?_
  refine yG.load xik rfl (fun _ _ => rfl) (v := yI (p3)) rfl rfl ?_
  refine yG.load xak rfl (fun _ _ => rfl) (v := yR r3) rfl rfl ?_
  refine yG.getI A_h17.1 (w_FlowS_overs W H_r3) rfl rfl (fun z19 e_z19 i_z19 l_z19 u_z19 => ?_)
  refine yG.iast A_h17.1 (v_Rules_oversBySet W H_r14) (W.2.1 _ _ H_r14 (by decide) (by decide)) rfl (by omega) (by omega) ⟨by omega, by omega⟩ (by omega) (by omega) (fun h20 T_h20 b_h20 f_h20 y_h20 => ?_)
  have M_bSh_h20 := M_bSh_h17.fr (bAx.put (Wl := [(10384593717069655257060992658440192, 256)]) (bAx.rf A_h17.1) T_h20 b_h20 f_h20 H_r14 (bAll_ok (by decide) _)) (by decide)
  have A_h20 := A_h17.put T_h20 b_h20 f_h20 H_r14 (bAll_ok (by decide) _)
  have qq18 : zsl h20 k0 0 = yR r1 := ((f_h20 k0 0).trans (if_neg (fun e => (bRo.ne H_k0 H_r14 (by decide)) e.1))).trans qq14
  have qq19 : zsl h20 r3 0 = yR r4 := ((f_h20 r3 0).trans (if_neg (fun e => (bRo.ne H_r3 H_r14 (by decide)) e.1))).trans qq15
  have qq20 : zsl h20 r4 0 = yR r5 := ((f_h20 r4 0).trans (if_neg (fun e => (bRo.ne H_r4 H_r14 (by decide)) e.1))).trans qq16
  have qq21 : zsl h20 k0 16 = yR r14 := ((f_h20 k0 16).trans (if_neg (fun e => (bRo.ne H_k0 H_r14 (by decide)) e.1))).trans qq17
  have : ys h20 r3 14 = ys h17 r3 14 := (y_h20 r3 14).trans (if_neg (fun e => (bRo.ne H_r3 H_r14 (by decide)) e.1))
  refine yG.load xak rfl (fun _ _ => rfl) (v := yR r3) rfl rfl ?_
  refine yG.getI A_h20.1 (w_FlowS_overs W H_r3) rfl rfl (fun z21 e_z21 i_z21 l_z21 u_z21 => ?_)
  rw [show (z21 : Int) = z19 by omega]
  refine yG.ifz rfl (t := 118) rfl ⟨by omega, by omega⟩ (fun c22 => ?_) (fun c22 => ?_)
  · have c22 : (z19 : Int) ≠ 0 := c22
    refine yG.num (c := 0) rfl (fun _ _ => rfl) (by decide) ?_
    refine yG.ret rfl (fun _ _ => rfl) ?_
    exact (yP.bool (by omega) ⟨⟨⟨0, rfl, by omega, by omega, trivial⟩, A_h20⟩, M_bSh_h20⟩)
  · have c22 : (z19 : Int) = 0 := c22
    refine yG.load xak rfl (fun _ _ => rfl) (v := yR r3) rfl rfl ?_
    refine yG.getI A_h20.1 (w_FlowS_stuckCount W H_r3) rfl rfl (fun z23 e_z23 i_z23 l_z23 u_z23 => ?_)
    refine yG.ifz rfl (t := 118) rfl ⟨by omega, by omega⟩ (fun c24 => ?_) (fun c24 => ?_)
    · have c24 : (z23 : Int) ≠ 0 := c24
      refine yG.num (c := 0) rfl (fun _ _ => rfl) (by decide) ?_
      refine yG.ret rfl (fun _ _ => rfl) ?_
      exact (yP.bool (by omega) ⟨⟨⟨0, rfl, by omega, by omega, trivial⟩, A_h20⟩, M_bSh_h20⟩)
    · have c24 : (z23 : Int) = 0 := c24
      refine yG.load xak rfl (fun _ _ => rfl) (v := yR k0) rfl rfl ?_
      refine yG.num (c := 1) rfl (fun _ _ => rfl) (by decide) ?_
      refine yG.load xik rfl (fun _ _ => rfl) (v := yI (p2)) rfl rfl ?_
      refine yG.load xak rfl (fun _ _ => rfl) (v := yR r2) rfl rfl ?_
      refine yG.load xak rfl (fun _ _ => rfl) (v := yR r3) rfl rfl ?_
      obtain ⟨r25, H_r25, q_r25⟩ := bFdO (w_Rules_code W H_k0) A_h20.1
      obtain ⟨g26, e_g26⟩ : ∃ z : Int, z = ys h20 k0 6 := ⟨_, rfl⟩
      obtain ⟨-, -, l_g26, u_g26⟩ := (w_Rules_count W H_k0).int A_h20.1
      refine yG.invV (rest := []) A_h20.1 (bOb (d_Rules W) H_k0) rfl rfl rfl rfl (c_Rules_firstAgainst_s1 W (d + 1) A_h20.1 (M_bCd.fr A_h20 (by decide)) H_k0 H_r2 H_r3 H_r25 q_r25 (1) (p2) (by omega) (by omega) (by omega) (by omega)) (fun rv hp9 q9 => ?_)
      obtain ⟨⟨z27, rfl, l_z27, u_z27, R_z27⟩, e9⟩ := q9
      rw [e9]
      show yG _ _ _ _ _ _ _ _ _ _ (yI z27 :: []) _
      refine yG.num (c := -1) rfl (fun _ _ => rfl) (by decide) ?_
      refine yG.icmp rfl (t := 118) rfl ⟨by omega, by omega⟩ ⟨by omega, by omega⟩ (fun c28 => ?_) (fun c28 => ?_)
      · have c28 : (z27 : Int) ≠ (-1) := c28
        refine yG.num (c := 0) rfl (fun _ _ => rfl) (by decide) ?_
        refine yG.ret rfl (fun _ _ => rfl) ?_
        exact (yP.bool (by omega) ⟨⟨⟨0, rfl, by omega, by omega, trivial⟩, A_h20⟩, M_bSh_h20⟩)
      · have c28 : (z27 : Int) = (-1) := c28
        refine yG.num (c := 1) rfl (fun _ _ => rfl) (by decide) ?_
        refine yG.goto rfl (t := 119) rfl ?_
        refine yG.ret rfl (fun _ _ => rfl) ?_
        exact (yP.bool (by omega) ⟨⟨⟨1, rfl, by omega, by omega, trivial⟩, A_h20⟩, M_bSh_h20⟩)
theorem c_Rules_weigh_1 {hp : xH} (W : bW G) (d : Nat) (hT : zTy G hp) {k0 : Nat} (H_k0 : bRo G 107 k0) {n1 : Nat} (H_n1 : bRo G 112 n1) (Q_n1 : zsl hp k0 15 = yR n1) (p2 : Int) (h2l : (-2147483648) ≤ p2) (h2u : p2 ≤ 2147483647) (q0l : 0 ≤ ys hp n1 (0 : Int).toNat) (q0u : ys hp n1 (0 : Int).toNat ≤ 7) : yC (xcall 89 xfts xpools xms (d + 1)) 210 [yR k0, yI (1), yI (p2)] hp (fun rv hp' => (rv = none ∧ True) ∧ bAx G [(162259276829213363391578010288128, 17), (162259276829213363391578010288128, 19), (20769187434139310514121985316880384, 256)] hp hp') := by
  have A_hp : bAx G [(162259276829213363391578010288128, 17), (162259276829213363391578010288128, 19), (20769187434139310514121985316880384, 256)] hp hp := bAx.rf hT
  have H : ∀ m : Nat, (∀ a3 : Int, ∀ gg0 : Int, ∀ hq, bAx G [(162259276829213363391578010288128, 17), (162259276829213363391578010288128, 19), (20769187434139310514121985316880384, 256)] hp hq → ys hq n1 (0 : Int).toNat = gg0 → 0 ≤ a3 → (-1) ≤ 0 - a3 → 0 ≤ gg0 → (-7) ≤ 0 - gg0 → (-2147483648) ≤ p2 → (-2147483647) ≤ 0 - p2 → 0 - 2 * a3 + 3 < (m : Int) → yG 89 xfts (xcall 89 xfts xpools xms d) (xpool xp_RX7) [] xt_X7_weigh (yP 0 (fun rv hp' => (rv = none ∧ True) ∧ bAx G [(162259276829213363391578010288128, 17), (162259276829213363391578010288128, 19), (20769187434139310514121985316880384, 256)] hp hp')) (22 * m) 36 [(0, yR k0), (1, yI (1)), (3, yI (a3))] [] hq) := by
    intro m
    induction m with
    | zero =>
      intros; exfalso; omega
    | succ m ih =>
      have i_36 := ih
      clear ih
      intro a3 gg0 hq A_hq E_0 f0 f1 f2 f3 f4 f5 hm
      refine yG.mono (N := 22 * m + 22) ?_ (by omega)
      obtain ⟨-, -, g_0l, g_0u⟩ := (v_Rules_choice W H_n1).int A_hq.1 (j := (0 : Int).toNat) (by decide)
      replace Q_n1 : zsl hq k0 15 = yR n1 := (A_hq.sl H_k0 (by decide)).trans Q_n1
      rcases (show a3 = 0 ∨ a3 = 1 by omega) with c1 | c1
      · subst c1
        refine yG.load xik rfl (fun _ _ => rfl) (v := yI (0)) rfl rfl ?_
        refine yG.load xik rfl (fun _ _ => rfl) (v := yI (1)) rfl rfl ?_
        refine yG.icmp rfl (t := 64) rfl ⟨by omega, by omega⟩ ⟨by omega, by omega⟩ (fun c2 => ?_) (fun c2 => ?_)
        · have c2 : (0 : Int) ≥ 1 := c2
          exfalso; omega
        · have c2 : (0 : Int) < 1 := c2
          refine yG.load xak rfl (fun _ _ => rfl) (v := yR k0) rfl rfl ?_
          refine yG.getO A_hq.1 (w_Rules_found W H_k0) rfl rfl (fun r3 H_r3 O_r3 q_r3 => ?_)
          refine yG.load xik rfl (fun _ _ => rfl) (v := yI (0)) rfl rfl ?_
          refine yG.load xak rfl (fun _ _ => rfl) (v := yR k0) rfl rfl ?_
          refine yG.getO A_hq.1 (w_Rules_tried W H_k0) rfl rfl (fun r4 H_r4 O_r4 q_r4 => ?_)
          refine yG.load xak rfl (fun _ _ => rfl) (v := yR k0) rfl rfl ?_
          refine yG.getS9 A_hq.1 (w_Rules_choice W H_k0) Q_n1 rfl rfl ?_
          refine yG.load xik rfl (fun _ _ => rfl) (v := yI (0)) rfl rfl ?_
          refine yG.iald A_hq.1 (v_Rules_choice W H_n1) rfl (by omega) (by omega) (fun z5 e_z5 i_z5 l_z5 u_z5 => ?_)
          rw [show (z5 : Int) = gg0 by omega]
          refine yG.iald A_hq.1 (v_Rules_tried W H_r4) rfl (by omega) (by omega) (fun z6 e_z6 i_z6 l_z6 u_z6 => ?_)
          refine yG.iast A_hq.1 (v_Rules_found W H_r3) (W.2.1 _ _ H_r3 (by decide) (by decide)) rfl (by omega) (by omega) ⟨by omega, by omega⟩ (by omega) (by omega) (fun h7 T_h7 b_h7 f_h7 y_h7 => ?_)
          have A_h7 := A_hq.put T_h7 b_h7 f_h7 H_r3 (bAll_ok (by decide) _)
          have : ys h7 n1 (0 : Int).toNat = ys hq n1 (0 : Int).toNat := (y_h7 n1 (0 : Int).toNat).trans (if_neg (fun e => (bRo.ne H_n1 H_r3 (by decide)) e.1))
          have qq1 : zsl h7 k0 15 = yR n1 := ((f_h7 k0 15).trans (if_neg (fun e => (bRo.ne H_k0 H_r3 (by decide)) e.1))).trans Q_n1
          refine yG.iinc rfl (a := 0) rfl (L' := [(3, yI (0 + 1)), (0, yR k0), (1, yI (1))]) rfl ?_
          refine yG.goto rfl (t := 36) rfl ?_
          exact yG.mono (yG.sub (i_36 (0 + 1) (ys h7 n1 (0 : Int).toNat) h7 A_h7  rfl (by omega) (by omega) (by omega) (by omega) (by omega) (by omega) (by omega)) (ySub.cons rfl (ySub.cons rfl (ySub.cons rfl (ySub.nil))))) (by omega)
      · subst c1
        refine yG.load xik rfl (fun _ _ => rfl) (v := yI (1)) rfl rfl ?_
        refine yG.load xik rfl (fun _ _ => rfl) (v := yI (1)) rfl rfl ?_
        refine yG.icmp rfl (t := 64) rfl ⟨by omega, by omega⟩ ⟨by omega, by omega⟩ (fun c8 => ?_) (fun c8 => ?_)
        · have c8 : (1 : Int) ≥ 1 := c8
          refine yG.ret rfl (fun _ _ => rfl) ?_
          exact (yP.void ⟨⟨rfl, trivial⟩, A_hq⟩)
        · have c8 : (1 : Int) < 1 := c8
          exfalso; omega
  refine yC.of (M := (xt_X7_weigh, (4, (0, (8, []))))) rfl rfl (N := 132) (yfuel (by decide)) ?_
  show yG 89 xfts (xcall 89 xfts xpools xms d) (xpool xp_RX7) [] xt_X7_weigh (yP 0 (fun rv hp' => (rv = none ∧ True) ∧ bAx G [(162259276829213363391578010288128, 17), (162259276829213363391578010288128, 19), (20769187434139310514121985316880384, 256)] hp hp')) 132 0 [(0, yR k0), (1, yI (1)), (2, yI (p2))] [] hp
  have i_36 := H 5
  obtain ⟨gg0, E_0⟩ : ∃ z : Int, ys hp n1 (0 : Int).toNat = z := ⟨_, rfl⟩
  obtain ⟨-, -, g_0l, g_0u⟩ := (v_Rules_choice W H_n1).int hT (j := (0 : Int).toNat) (by decide)
  refine yG.load xik rfl (fun _ _ => rfl) (v := yI (p2)) rfl rfl ?_
  refine yG.load xak rfl (fun _ _ => rfl) (v := yR k0) rfl rfl ?_
  refine yG.getI A_hp.1 (w_Rules_leastLost W H_k0) rfl rfl (fun z1 e_z1 i_z1 l_z1 u_z1 => ?_)
  refine yG.icmp rfl (t := 24) rfl ⟨by omega, by omega⟩ ⟨by omega, by omega⟩ (fun c2 => ?_) (fun c2 => ?_)
  · have c2 : (p2 : Int) < z1 := c2
    refine yG.load xak rfl (fun _ _ => rfl) (v := yR k0) rfl rfl ?_
    refine yG.load xik rfl (fun _ _ => rfl) (v := yI (p2)) rfl rfl ?_
    refine yG.putI A_hp.1 (w_Rules_leastLost W H_k0) (W.2.1 _ _ H_k0 (by decide) (by decide)) rfl rfl (.inl rfl) ⟨by omega, by omega⟩ (by omega) (by omega) (fun h3 T_h3 b_h3 f_h3 y_h3 => ?_)
    have A_h3 := A_hp.put T_h3 b_h3 f_h3 H_k0 (by decide)
    have : ys h3 n1 (0 : Int).toNat = ys hp n1 (0 : Int).toNat := (y_h3 n1 (0 : Int).toNat).trans (if_neg (fun e => (bRo.ne H_n1 H_k0 (by decide)) e.1))
    have qq1 : zsl h3 k0 15 = yR n1 := ((f_h3 k0 15).trans (if_neg (fun e => absurd e.2 (by decide)))).trans Q_n1
    have : ys h3 k0 17 = p2 := (y_h3 k0 17).trans (if_pos ⟨rfl, rfl⟩)
    refine yG.load xak rfl (fun _ _ => rfl) (v := yR k0) rfl rfl ?_
    refine yG.load xik rfl (fun _ _ => rfl) (v := yI (1)) rfl rfl ?_
    refine yG.putI A_h3.1 (w_Rules_foundCount W H_k0) (W.2.1 _ _ H_k0 (by decide) (by decide)) rfl rfl (.inl rfl) ⟨by omega, by omega⟩ (by omega) (by omega) (fun h4 T_h4 b_h4 f_h4 y_h4 => ?_)
    have A_h4 := A_h3.put T_h4 b_h4 f_h4 H_k0 (by decide)
    have : ys h4 n1 (0 : Int).toNat = ys h3 n1 (0 : Int).toNat := (y_h4 n1 (0 : Int).toNat).trans (if_neg (fun e => (bRo.ne H_n1 H_k0 (by decide)) e.1))
    have qq2 : zsl h4 k0 15 = yR n1 := ((f_h4 k0 15).trans (if_neg (fun e => absurd e.2 (by decide)))).trans qq1
    have : ys h4 k0 17 = ys h3 k0 17 := (y_h4 k0 17).trans (if_neg (fun e => absurd e.2 (by decide)))
    refine yG.num (c := 0) rfl (fun _ _ => rfl) (by decide) ?_
    refine yG.store1 xik (L' := [(3, yI (0)), (0, yR k0), (1, yI (1)), (2, yI (p2))]) rfl (fun _ _ => rfl) rfl rfl ?_
    exact yG.mono (yG.sub (i_36 (0) (ys h4 n1 (0 : Int).toNat) h4 A_h4  rfl (by omega) (by omega) (by omega) (by omega) (by omega) (by omega) (by omega)) (ySub.cons rfl (ySub.cons rfl (ySub.cons rfl (ySub.nil))))) (by omega)
  · have c2 : (p2 : Int) ≥ z1 := c2
    refine yG.load xik rfl (fun _ _ => rfl) (v := yI (p2)) rfl rfl ?_
    refine yG.load xak rfl (fun _ _ => rfl) (v := yR k0) rfl rfl ?_
    refine yG.getI A_hp.1 (w_Rules_leastLost W H_k0) rfl rfl (fun z5 e_z5 i_z5 l_z5 u_z5 => ?_)
    rw [show (z5 : Int) = z1 by omega]
    refine yG.icmp rfl (t := 64) rfl ⟨by omega, by omega⟩ ⟨by omega, by omega⟩ (fun c6 => ?_) (fun c6 => ?_)
    · have c6 : (p2 : Int) ≠ z1 := c6
      refine yG.ret rfl (fun _ _ => rfl) ?_
      exact (yP.void ⟨⟨rfl, trivial⟩, A_hp⟩)
    · have c6 : (p2 : Int) = z1 := c6
      refine yG.load xik rfl (fun _ _ => rfl) (v := yI (1)) rfl rfl ?_
      refine yG.load xak rfl (fun _ _ => rfl) (v := yR k0) rfl rfl ?_
      refine yG.getI A_hp.1 (w_Rules_foundCount W H_k0) rfl rfl (fun z7 e_z7 i_z7 l_z7 u_z7 => ?_)
      refine yG.icmp rfl (t := 64) rfl ⟨by omega, by omega⟩ ⟨by omega, by omega⟩ (fun c8 => ?_) (fun c8 => ?_)
      · have c8 : (1 : Int) ≥ z7 := c8
        refine yG.ret rfl (fun _ _ => rfl) ?_
        exact (yP.void ⟨⟨rfl, trivial⟩, A_hp⟩)
      · have c8 : (1 : Int) < z7 := c8
        refine yG.load xak rfl (fun _ _ => rfl) (v := yR k0) rfl rfl ?_
        refine yG.load xik rfl (fun _ _ => rfl) (v := yI (p2)) rfl rfl ?_
        refine yG.putI A_hp.1 (w_Rules_leastLost W H_k0) (W.2.1 _ _ H_k0 (by decide) (by decide)) rfl rfl (.inl rfl) ⟨by omega, by omega⟩ (by omega) (by omega) (fun h9 T_h9 b_h9 f_h9 y_h9 => ?_)
        have A_h9 := A_hp.put T_h9 b_h9 f_h9 H_k0 (by decide)
        have : ys h9 n1 (0 : Int).toNat = ys hp n1 (0 : Int).toNat := (y_h9 n1 (0 : Int).toNat).trans (if_neg (fun e => (bRo.ne H_n1 H_k0 (by decide)) e.1))
        have qq3 : zsl h9 k0 15 = yR n1 := ((f_h9 k0 15).trans (if_neg (fun e => absurd e.2 (by decide)))).trans Q_n1
        have : ys h9 k0 17 = p2 := (y_h9 k0 17).trans (if_pos ⟨rfl, rfl⟩)
        refine yG.load xak rfl (fun _ _ => rfl) (v := yR k0) rfl rfl ?_
        refine yG.load xik rfl (fun _ _ => rfl) (v := yI (1)) rfl rfl ?_
        refine yG.putI A_h9.1 (w_Rules_foundCount W H_k0) (W.2.1 _ _ H_k0 (by decide) (by decide)) rfl rfl (.inl rfl) ⟨by omega, by omega⟩ (by omega) (by omega) (fun h10 T_h10 b_h10 f_h10 y_h10 => ?_)
        have A_h10 := A_h9.put T_h10 b_h10 f_h10 H_k0 (by decide)
        have : ys h10 n1 (0 : Int).toNat = ys h9 n1 (0 : Int).toNat := (y_h10 n1 (0 : Int).toNat).trans (if_neg (fun e => (bRo.ne H_n1 H_k0 (by decide)) e.1))
        have qq4 : zsl h10 k0 15 = yR n1 := ((f_h10 k0 15).trans (if_neg (fun e => absurd e.2 (by decide)))).trans qq3
        have : ys h10 k0 17 = ys h9 k0 17 := (y_h10 k0 17).trans (if_neg (fun e => absurd e.2 (by decide)))
        refine yG.num (c := 0) rfl (fun _ _ => rfl) (by decide) ?_
        refine yG.store1 xik (L' := [(3, yI (0)), (0, yR k0), (1, yI (1)), (2, yI (p2))]) rfl (fun _ _ => rfl) rfl rfl ?_
        exact yG.mono (yG.sub (i_36 (0) (ys h10 n1 (0 : Int).toNat) h10 A_h10  rfl (by omega) (by omega) (by omega) (by omega) (by omega) (by omega) (by omega)) (ySub.cons rfl (ySub.cons rfl (ySub.cons rfl (ySub.nil))))) (by omega)
theorem c_Rules_weigh_2 {hp : xH} (W : bW G) (d : Nat) (hT : zTy G hp) {k0 : Nat} (H_k0 : bRo G 107 k0) {n1 : Nat} (H_n1 : bRo G 112 n1) (Q_n1 : zsl hp k0 15 = yR n1) (p2 : Int) (h2l : (-2147483648) ≤ p2) (h2u : p2 ≤ 2147483647) (q0l : 0 ≤ ys hp n1 (0 : Int).toNat) (q0u : ys hp n1 (0 : Int).toNat ≤ 7) (q1l : 0 ≤ ys hp n1 (1 : Int).toNat) (q1u : ys hp n1 (1 : Int).toNat ≤ 7) : yC (xcall 89 xfts xpools xms (d + 1)) 210 [yR k0, yI (2), yI (p2)] hp (fun rv hp' => (rv = none ∧ True) ∧ bAx G [(162259276829213363391578010288128, 17), (162259276829213363391578010288128, 19), (20769187434139310514121985316880384, 256)] hp hp') := by
  have A_hp : bAx G [(162259276829213363391578010288128, 17), (162259276829213363391578010288128, 19), (20769187434139310514121985316880384, 256)] hp hp := bAx.rf hT
  have H : ∀ m : Nat, (∀ a3 : Int, ∀ gg0 : Int, ∀ gg1 : Int, ∀ hq, bAx G [(162259276829213363391578010288128, 17), (162259276829213363391578010288128, 19), (20769187434139310514121985316880384, 256)] hp hq → ys hq n1 (0 : Int).toNat = gg0 → ys hq n1 (1 : Int).toNat = gg1 → 0 ≤ a3 → (-2) ≤ 0 - a3 → 0 ≤ gg0 → (-7) ≤ 0 - gg0 → 0 ≤ gg1 → (-7) ≤ 0 - gg1 → (-2147483648) ≤ p2 → (-2147483647) ≤ 0 - p2 → 0 - 2 * a3 + 5 < (m : Int) → yG 89 xfts (xcall 89 xfts xpools xms d) (xpool xp_RX7) [] xt_X7_weigh (yP 0 (fun rv hp' => (rv = none ∧ True) ∧ bAx G [(162259276829213363391578010288128, 17), (162259276829213363391578010288128, 19), (20769187434139310514121985316880384, 256)] hp hp')) (22 * m) 36 [(0, yR k0), (1, yI (2)), (3, yI (a3))] [] hq) := by
    intro m
    induction m with
    | zero =>
      intros; exfalso; omega
    | succ m ih =>
      have i_36 := ih
      clear ih
      intro a3 gg0 gg1 hq A_hq E_0 E_1 f0 f1 f2 f3 f4 f5 f6 f7 hm
      refine yG.mono (N := 22 * m + 22) ?_ (by omega)
      obtain ⟨-, -, g_0l, g_0u⟩ := (v_Rules_choice W H_n1).int A_hq.1 (j := (0 : Int).toNat) (by decide)
      obtain ⟨-, -, g_1l, g_1u⟩ := (v_Rules_choice W H_n1).int A_hq.1 (j := (1 : Int).toNat) (by decide)
      replace Q_n1 : zsl hq k0 15 = yR n1 := (A_hq.sl H_k0 (by decide)).trans Q_n1
      rcases (show a3 = 0 ∨ a3 = 1 ∨ a3 = 2 by omega) with c1 | c1 | c1
      · subst c1
        refine yG.load xik rfl (fun _ _ => rfl) (v := yI (0)) rfl rfl ?_
        refine yG.load xik rfl (fun _ _ => rfl) (v := yI (2)) rfl rfl ?_
        refine yG.icmp rfl (t := 64) rfl ⟨by omega, by omega⟩ ⟨by omega, by omega⟩ (fun c2 => ?_) (fun c2 => ?_)
        · have c2 : (0 : Int) ≥ 2 := c2
          exfalso; omega
        · have c2 : (0 : Int) < 2 := c2
          refine yG.load xak rfl (fun _ _ => rfl) (v := yR k0) rfl rfl ?_
          refine yG.getO A_hq.1 (w_Rules_found W H_k0) rfl rfl (fun r3 H_r3 O_r3 q_r3 => ?_)
          refine yG.load xik rfl (fun _ _ => rfl) (v := yI (0)) rfl rfl ?_
          refine yG.load xak rfl (fun _ _ => rfl) (v := yR k0) rfl rfl ?_
          refine yG.getO A_hq.1 (w_Rules_tried W H_k0) rfl rfl (fun r4 H_r4 O_r4 q_r4 => ?_)
          refine yG.load xak rfl (fun _ _ => rfl) (v := yR k0) rfl rfl ?_
          refine yG.getS9 A_hq.1 (w_Rules_choice W H_k0) Q_n1 rfl rfl ?_
          refine yG.load xik rfl (fun _ _ => rfl) (v := yI (0)) rfl rfl ?_
          refine yG.iald A_hq.1 (v_Rules_choice W H_n1) rfl (by omega) (by omega) (fun z5 e_z5 i_z5 l_z5 u_z5 => ?_)
          rw [show (z5 : Int) = gg0 by omega]
          refine yG.iald A_hq.1 (v_Rules_tried W H_r4) rfl (by omega) (by omega) (fun z6 e_z6 i_z6 l_z6 u_z6 => ?_)
          refine yG.iast A_hq.1 (v_Rules_found W H_r3) (W.2.1 _ _ H_r3 (by decide) (by decide)) rfl (by omega) (by omega) ⟨by omega, by omega⟩ (by omega) (by omega) (fun h7 T_h7 b_h7 f_h7 y_h7 => ?_)
          have A_h7 := A_hq.put T_h7 b_h7 f_h7 H_r3 (bAll_ok (by decide) _)
          have : ys h7 n1 (0 : Int).toNat = ys hq n1 (0 : Int).toNat := (y_h7 n1 (0 : Int).toNat).trans (if_neg (fun e => (bRo.ne H_n1 H_r3 (by decide)) e.1))
          have : ys h7 n1 (1 : Int).toNat = ys hq n1 (1 : Int).toNat := (y_h7 n1 (1 : Int).toNat).trans (if_neg (fun e => (bRo.ne H_n1 H_r3 (by decide)) e.1))
          have qq1 : zsl h7 k0 15 = yR n1 := ((f_h7 k0 15).trans (if_neg (fun e => (bRo.ne H_k0 H_r3 (by decide)) e.1))).trans Q_n1
          refine yG.iinc rfl (a := 0) rfl (L' := [(3, yI (0 + 1)), (0, yR k0), (1, yI (2))]) rfl ?_
          refine yG.goto rfl (t := 36) rfl ?_
          exact yG.mono (yG.sub (i_36 (0 + 1) (ys h7 n1 (0 : Int).toNat) (ys h7 n1 (1 : Int).toNat) h7 A_h7  rfl rfl (by omega) (by omega) (by omega) (by omega) (by omega) (by omega) (by omega) (by omega) (by omega)) (ySub.cons rfl (ySub.cons rfl (ySub.cons rfl (ySub.nil))))) (by omega)
      · subst c1
        refine yG.load xik rfl (fun _ _ => rfl) (v := yI (1)) rfl rfl ?_
        refine yG.load xik rfl (fun _ _ => rfl) (v := yI (2)) rfl rfl ?_
        refine yG.icmp rfl (t := 64) rfl ⟨by omega, by omega⟩ ⟨by omega, by omega⟩ (fun c8 => ?_) (fun c8 => ?_)
        · have c8 : (1 : Int) ≥ 2 := c8
          exfalso; omega
        · have c8 : (1 : Int) < 2 := c8
          refine yG.load xak rfl (fun _ _ => rfl) (v := yR k0) rfl rfl ?_
          refine yG.getO A_hq.1 (w_Rules_found W H_k0) rfl rfl (fun r9 H_r9 O_r9 q_r9 => ?_)
          refine yG.load xik rfl (fun _ _ => rfl) (v := yI (1)) rfl rfl ?_
          refine yG.load xak rfl (fun _ _ => rfl) (v := yR k0) rfl rfl ?_
          refine yG.getO A_hq.1 (w_Rules_tried W H_k0) rfl rfl (fun r10 H_r10 O_r10 q_r10 => ?_)
          refine yG.load xak rfl (fun _ _ => rfl) (v := yR k0) rfl rfl ?_
          refine yG.getS9 A_hq.1 (w_Rules_choice W H_k0) Q_n1 rfl rfl ?_
          refine yG.load xik rfl (fun _ _ => rfl) (v := yI (1)) rfl rfl ?_
          refine yG.iald A_hq.1 (v_Rules_choice W H_n1) rfl (by omega) (by omega) (fun z11 e_z11 i_z11 l_z11 u_z11 => ?_)
          rw [show (z11 : Int) = gg1 by omega]
          refine yG.iald A_hq.1 (v_Rules_tried W H_r10) rfl (by omega) (by omega) (fun z12 e_z12 i_z12 l_z12 u_z12 => ?_)
          refine yG.iast A_hq.1 (v_Rules_found W H_r9) (W.2.1 _ _ H_r9 (by decide) (by decide)) rfl (by omega) (by omega) ⟨by omega, by omega⟩ (by omega) (by omega) (fun h13 T_h13 b_h13 f_h13 y_h13 => ?_)
          have A_h13 := A_hq.put T_h13 b_h13 f_h13 H_r9 (bAll_ok (by decide) _)
          have : ys h13 n1 (0 : Int).toNat = ys hq n1 (0 : Int).toNat := (y_h13 n1 (0 : Int).toNat).trans (if_neg (fun e => (bRo.ne H_n1 H_r9 (by decide)) e.1))
          have : ys h13 n1 (1 : Int).toNat = ys hq n1 (1 : Int).toNat := (y_h13 n1 (1 : Int).toNat).trans (if_neg (fun e => (bRo.ne H_n1 H_r9 (by decide)) e.1))
          have qq2 : zsl h13 k0 15 = yR n1 := ((f_h13 k0 15).trans (if_neg (fun e => (bRo.ne H_k0 H_r9 (by decide)) e.1))).trans Q_n1
          refine yG.iinc rfl (a := 1) rfl (L' := [(3, yI (1 + 1)), (0, yR k0), (1, yI (2))]) rfl ?_
          refine yG.goto rfl (t := 36) rfl ?_
          exact yG.mono (yG.sub (i_36 (1 + 1) (ys h13 n1 (0 : Int).toNat) (ys h13 n1 (1 : Int).toNat) h13 A_h13  rfl rfl (by omega) (by omega) (by omega) (by omega) (by omega) (by omega) (by omega) (by omega) (by omega)) (ySub.cons rfl (ySub.cons rfl (ySub.cons rfl (ySub.nil))))) (by omega)
      · subst c1
        refine yG.load xik rfl (fun _ _ => rfl) (v := yI (2)) rfl rfl ?_
        refine yG.load xik rfl (fun _ _ => rfl) (v := yI (2)) rfl rfl ?_
        refine yG.icmp rfl (t := 64) rfl ⟨by omega, by omega⟩ ⟨by omega, by omega⟩ (fun c14 => ?_) (fun c14 => ?_)
        · have c14 : (2 : Int) ≥ 2 := c14
          refine yG.ret rfl (fun _ _ => rfl) ?_
          exact (yP.void ⟨⟨rfl, trivial⟩, A_hq⟩)
        · have c14 : (2 : Int) < 2 := c14
          exfalso; omega
  refine yC.of (M := (xt_X7_weigh, (4, (0, (8, []))))) rfl rfl (N := 176) (yfuel (by decide)) ?_
  show yG 89 xfts (xcall 89 xfts xpools xms d) (xpool xp_RX7) [] xt_X7_weigh (yP 0 (fun rv hp' => (rv = none ∧ True) ∧ bAx G [(162259276829213363391578010288128, 17), (162259276829213363391578010288128, 19), (20769187434139310514121985316880384, 256)] hp hp')) 176 0 [(0, yR k0), (1, yI (2)), (2, yI (p2))] [] hp
  have i_36 := H 7
  obtain ⟨gg0, E_0⟩ : ∃ z : Int, ys hp n1 (0 : Int).toNat = z := ⟨_, rfl⟩
  obtain ⟨-, -, g_0l, g_0u⟩ := (v_Rules_choice W H_n1).int hT (j := (0 : Int).toNat) (by decide)
  obtain ⟨gg1, E_1⟩ : ∃ z : Int, ys hp n1 (1 : Int).toNat = z := ⟨_, rfl⟩
  obtain ⟨-, -, g_1l, g_1u⟩ := (v_Rules_choice W H_n1).int hT (j := (1 : Int).toNat) (by decide)
  refine yG.load xik rfl (fun _ _ => rfl) (v := yI (p2)) rfl rfl ?_
  refine yG.load xak rfl (fun _ _ => rfl) (v := yR k0) rfl rfl ?_
  refine yG.getI A_hp.1 (w_Rules_leastLost W H_k0) rfl rfl (fun z1 e_z1 i_z1 l_z1 u_z1 => ?_)
  refine yG.icmp rfl (t := 24) rfl ⟨by omega, by omega⟩ ⟨by omega, by omega⟩ (fun c2 => ?_) (fun c2 => ?_)
  · have c2 : (p2 : Int) < z1 := c2
    refine yG.load xak rfl (fun _ _ => rfl) (v := yR k0) rfl rfl ?_
    refine yG.load xik rfl (fun _ _ => rfl) (v := yI (p2)) rfl rfl ?_
    refine yG.putI A_hp.1 (w_Rules_leastLost W H_k0) (W.2.1 _ _ H_k0 (by decide) (by decide)) rfl rfl (.inl rfl) ⟨by omega, by omega⟩ (by omega) (by omega) (fun h3 T_h3 b_h3 f_h3 y_h3 => ?_)
    have A_h3 := A_hp.put T_h3 b_h3 f_h3 H_k0 (by decide)
    have : ys h3 n1 (0 : Int).toNat = ys hp n1 (0 : Int).toNat := (y_h3 n1 (0 : Int).toNat).trans (if_neg (fun e => (bRo.ne H_n1 H_k0 (by decide)) e.1))
    have : ys h3 n1 (1 : Int).toNat = ys hp n1 (1 : Int).toNat := (y_h3 n1 (1 : Int).toNat).trans (if_neg (fun e => (bRo.ne H_n1 H_k0 (by decide)) e.1))
    have qq1 : zsl h3 k0 15 = yR n1 := ((f_h3 k0 15).trans (if_neg (fun e => absurd e.2 (by decide)))).trans Q_n1
    have : ys h3 k0 17 = p2 := (y_h3 k0 17).trans (if_pos ⟨rfl, rfl⟩)
    refine yG.load xak rfl (fun _ _ => rfl) (v := yR k0) rfl rfl ?_
    refine yG.load xik rfl (fun _ _ => rfl) (v := yI (2)) rfl rfl ?_
    refine yG.putI A_h3.1 (w_Rules_foundCount W H_k0) (W.2.1 _ _ H_k0 (by decide) (by decide)) rfl rfl (.inl rfl) ⟨by omega, by omega⟩ (by omega) (by omega) (fun h4 T_h4 b_h4 f_h4 y_h4 => ?_)
    have A_h4 := A_h3.put T_h4 b_h4 f_h4 H_k0 (by decide)
    have : ys h4 n1 (0 : Int).toNat = ys h3 n1 (0 : Int).toNat := (y_h4 n1 (0 : Int).toNat).trans (if_neg (fun e => (bRo.ne H_n1 H_k0 (by decide)) e.1))
    have : ys h4 n1 (1 : Int).toNat = ys h3 n1 (1 : Int).toNat := (y_h4 n1 (1 : Int).toNat).trans (if_neg (fun e => (bRo.ne H_n1 H_k0 (by decide)) e.1))
    have qq2 : zsl h4 k0 15 = yR n1 := ((f_h4 k0 15).trans (if_neg (fun e => absurd e.2 (by decide)))).trans qq1
    have : ys h4 k0 17 = ys h3 k0 17 := (y_h4 k0 17).trans (if_neg (fun e => absurd e.2 (by decide)))
    refine yG.num (c := 0) rfl (fun _ _ => rfl) (by decide) ?_
    refine yG.store1 xik (L' := [(3, yI (0)), (0, yR k0), (1, yI (2)), (2, yI (p2))]) rfl (fun _ _ => rfl) rfl rfl ?_
    exact yG.mono (yG.sub (i_36 (0) (ys h4 n1 (0 : Int).toNat) (ys h4 n1 (1 : Int).toNat) h4 A_h4  rfl rfl (by omega) (by omega) (by omega) (by omega) (by omega) (by omega) (by omega) (by omega) (by omega)) (ySub.cons rfl (ySub.cons rfl (ySub.cons rfl (ySub.nil))))) (by omega)
  · have c2 : (p2 : Int) ≥ z1 := c2
    refine yG.load xik rfl (fun _ _ => rfl) (v := yI (p2)) rfl rfl ?_
    refine yG.load xak rfl (fun _ _ => rfl) (v := yR k0) rfl rfl ?_
    refine yG.getI A_hp.1 (w_Rules_leastLost W H_k0) rfl rfl (fun z5 e_z5 i_z5 l_z5 u_z5 => ?_)
    rw [show (z5 : Int) = z1 by omega]
    refine yG.icmp rfl (t := 64) rfl ⟨by omega, by omega⟩ ⟨by omega, by omega⟩ (fun c6 => ?_) (fun c6 => ?_)
    · have c6 : (p2 : Int) ≠ z1 := c6
      refine yG.ret rfl (fun _ _ => rfl) ?_
      exact (yP.void ⟨⟨rfl, trivial⟩, A_hp⟩)
    · have c6 : (p2 : Int) = z1 := c6
      refine yG.load xik rfl (fun _ _ => rfl) (v := yI (2)) rfl rfl ?_
      refine yG.load xak rfl (fun _ _ => rfl) (v := yR k0) rfl rfl ?_
      refine yG.getI A_hp.1 (w_Rules_foundCount W H_k0) rfl rfl (fun z7 e_z7 i_z7 l_z7 u_z7 => ?_)
      refine yG.icmp rfl (t := 64) rfl ⟨by omega, by omega⟩ ⟨by omega, by omega⟩ (fun c8 => ?_) (fun c8 => ?_)
      · have c8 : (2 : Int) ≥ z7 := c8
        refine yG.ret rfl (fun _ _ => rfl) ?_
        exact (yP.void ⟨⟨rfl, trivial⟩, A_hp⟩)
      · have c8 : (2 : Int) < z7 := c8
        refine yG.load xak rfl (fun _ _ => rfl) (v := yR k0) rfl rfl ?_
        refine yG.load xik rfl (fun _ _ => rfl) (v := yI (p2)) rfl rfl ?_
        refine yG.putI A_hp.1 (w_Rules_leastLost W H_k0) (W.2.1 _ _ H_k0 (by decide) (by decide)) rfl rfl (.inl rfl) ⟨by omega, by omega⟩ (by omega) (by omega) (fun h9 T_h9 b_h9 f_h9 y_h9 => ?_)
        have A_h9 := A_hp.put T_h9 b_h9 f_h9 H_k0 (by decide)
        have : ys h9 n1 (0 : Int).toNat = ys hp n1 (0 : Int).toNat := (y_h9 n1 (0 : Int).toNat).trans (if_neg (fun e => (bRo.ne H_n1 H_k0 (by decide)) e.1))
        have : ys h9 n1 (1 : Int).toNat = ys hp n1 (1 : Int).toNat := (y_h9 n1 (1 : Int).toNat).trans (if_neg (fun e => (bRo.ne H_n1 H_k0 (by decide)) e.1))
        have qq3 : zsl h9 k0 15 = yR n1 := ((f_h9 k0 15).trans (if_neg (fun e => absurd e.2 (by decide)))).trans Q_n1
        have : ys h9 k0 17 = p2 := (y_h9 k0 17).trans (if_pos ⟨rfl, rfl⟩)
        refine yG.load xak rfl (fun _ _ => rfl) (v := yR k0) rfl rfl ?_
        refine yG.load xik rfl (fun _ _ => rfl) (v := yI (2)) rfl rfl ?_
        refine yG.putI A_h9.1 (w_Rules_foundCount W H_k0) (W.2.1 _ _ H_k0 (by decide) (by decide)) rfl rfl (.inl rfl) ⟨by omega, by omega⟩ (by omega) (by omega) (fun h10 T_h10 b_h10 f_h10 y_h10 => ?_)
        have A_h10 := A_h9.put T_h10 b_h10 f_h10 H_k0 (by decide)
        have : ys h10 n1 (0 : Int).toNat = ys h9 n1 (0 : Int).toNat := (y_h10 n1 (0 : Int).toNat).trans (if_neg (fun e => (bRo.ne H_n1 H_k0 (by decide)) e.1))
        have : ys h10 n1 (1 : Int).toNat = ys h9 n1 (1 : Int).toNat := (y_h10 n1 (1 : Int).toNat).trans (if_neg (fun e => (bRo.ne H_n1 H_k0 (by decide)) e.1))
        have qq4 : zsl h10 k0 15 = yR n1 := ((f_h10 k0 15).trans (if_neg (fun e => absurd e.2 (by decide)))).trans qq3
        have : ys h10 k0 17 = ys h9 k0 17 := (y_h10 k0 17).trans (if_neg (fun e => absurd e.2 (by decide)))
        refine yG.num (c := 0) rfl (fun _ _ => rfl) (by decide) ?_
        refine yG.store1 xik (L' := [(3, yI (0)), (0, yR k0), (1, yI (2)), (2, yI (p2))]) rfl (fun _ _ => rfl) rfl rfl ?_
        exact yG.mono (yG.sub (i_36 (0) (ys h10 n1 (0 : Int).toNat) (ys h10 n1 (1 : Int).toNat) h10 A_h10  rfl rfl (by omega) (by omega) (by omega) (by omega) (by omega) (by omega) (by omega) (by omega) (by omega)) (ySub.cons rfl (ySub.cons rfl (ySub.cons rfl (ySub.nil))))) (by omega)
theorem c_Rules_weigh_3 {hp : xH} (W : bW G) (d : Nat) (hT : zTy G hp) {k0 : Nat} (H_k0 : bRo G 107 k0) {n1 : Nat} (H_n1 : bRo G 112 n1) (Q_n1 : zsl hp k0 15 = yR n1) (p2 : Int) (h2l : (-2147483648) ≤ p2) (h2u : p2 ≤ 2147483647) (q0l : 0 ≤ ys hp n1 (0 : Int).toNat) (q0u : ys hp n1 (0 : Int).toNat ≤ 7) (q1l : 0 ≤ ys hp n1 (1 : Int).toNat) (q1u : ys hp n1 (1 : Int).toNat ≤ 7) (q2l : 0 ≤ ys hp n1 (2 : Int).toNat) (q2u : ys hp n1 (2 : Int).toNat ≤ 7) : yC (xcall 89 xfts xpools xms (d + 1)) 210 [yR k0, yI (3), yI (p2)] hp (fun rv hp' => (rv = none ∧ True) ∧ bAx G [(162259276829213363391578010288128, 17), (162259276829213363391578010288128, 19), (20769187434139310514121985316880384, 256)] hp hp') := by
  have A_hp : bAx G [(162259276829213363391578010288128, 17), (162259276829213363391578010288128, 19), (20769187434139310514121985316880384, 256)] hp hp := bAx.rf hT
  have H : ∀ m : Nat, (∀ a3 : Int, ∀ gg0 : Int, ∀ gg1 : Int, ∀ gg2 : Int, ∀ hq, bAx G [(162259276829213363391578010288128, 17), (162259276829213363391578010288128, 19), (20769187434139310514121985316880384, 256)] hp hq → ys hq n1 (0 : Int).toNat = gg0 → ys hq n1 (1 : Int).toNat = gg1 → ys hq n1 (2 : Int).toNat = gg2 → 0 ≤ a3 → (-3) ≤ 0 - a3 → 0 ≤ gg0 → (-7) ≤ 0 - gg0 → 0 ≤ gg1 → (-7) ≤ 0 - gg1 → 0 ≤ gg2 → (-7) ≤ 0 - gg2 → (-2147483648) ≤ p2 → (-2147483647) ≤ 0 - p2 → 0 - 2 * a3 + 7 < (m : Int) → yG 89 xfts (xcall 89 xfts xpools xms d) (xpool xp_RX7) [] xt_X7_weigh (yP 0 (fun rv hp' => (rv = none ∧ True) ∧ bAx G [(162259276829213363391578010288128, 17), (162259276829213363391578010288128, 19), (20769187434139310514121985316880384, 256)] hp hp')) (22 * m) 36 [(0, yR k0), (1, yI (3)), (3, yI (a3))] [] hq) := by
    intro m
    induction m with
    | zero =>
      intros; exfalso; omega
    | succ m ih =>
      have i_36 := ih
      clear ih
      intro a3 gg0 gg1 gg2 hq A_hq E_0 E_1 E_2 f0 f1 f2 f3 f4 f5 f6 f7 f8 f9 hm
      refine yG.mono (N := 22 * m + 22) ?_ (by omega)
      obtain ⟨-, -, g_0l, g_0u⟩ := (v_Rules_choice W H_n1).int A_hq.1 (j := (0 : Int).toNat) (by decide)
      obtain ⟨-, -, g_1l, g_1u⟩ := (v_Rules_choice W H_n1).int A_hq.1 (j := (1 : Int).toNat) (by decide)
      obtain ⟨-, -, g_2l, g_2u⟩ := (v_Rules_choice W H_n1).int A_hq.1 (j := (2 : Int).toNat) (by decide)
      replace Q_n1 : zsl hq k0 15 = yR n1 := (A_hq.sl H_k0 (by decide)).trans Q_n1
      rcases (show a3 = 0 ∨ a3 = 1 ∨ a3 = 2 ∨ a3 = 3 by omega) with c1 | c1 | c1 | c1
      · subst c1
        refine yG.load xik rfl (fun _ _ => rfl) (v := yI (0)) rfl rfl ?_
        refine yG.load xik rfl (fun _ _ => rfl) (v := yI (3)) rfl rfl ?_
        refine yG.icmp rfl (t := 64) rfl ⟨by omega, by omega⟩ ⟨by omega, by omega⟩ (fun c2 => ?_) (fun c2 => ?_)
        · have c2 : (0 : Int) ≥ 3 := c2
          exfalso; omega
        · have c2 : (0 : Int) < 3 := c2
          refine yG.load xak rfl (fun _ _ => rfl) (v := yR k0) rfl rfl ?_
          refine yG.getO A_hq.1 (w_Rules_found W H_k0) rfl rfl (fun r3 H_r3 O_r3 q_r3 => ?_)
          refine yG.load xik rfl (fun _ _ => rfl) (v := yI (0)) rfl rfl ?_
          refine yG.load xak rfl (fun _ _ => rfl) (v := yR k0) rfl rfl ?_
          refine yG.getO A_hq.1 (w_Rules_tried W H_k0) rfl rfl (fun r4 H_r4 O_r4 q_r4 => ?_)
          refine yG.load xak rfl (fun _ _ => rfl) (v := yR k0) rfl rfl ?_
          refine yG.getS9 A_hq.1 (w_Rules_choice W H_k0) Q_n1 rfl rfl ?_
          refine yG.load xik rfl (fun _ _ => rfl) (v := yI (0)) rfl rfl ?_
          refine yG.iald A_hq.1 (v_Rules_choice W H_n1) rfl (by omega) (by omega) (fun z5 e_z5 i_z5 l_z5 u_z5 => ?_)
          rw [show (z5 : Int) = gg0 by omega]
          refine yG.iald A_hq.1 (v_Rules_tried W H_r4) rfl (by omega) (by omega) (fun z6 e_z6 i_z6 l_z6 u_z6 => ?_)
          refine yG.iast A_hq.1 (v_Rules_found W H_r3) (W.2.1 _ _ H_r3 (by decide) (by decide)) rfl (by omega) (by omega) ⟨by omega, by omega⟩ (by omega) (by omega) (fun h7 T_h7 b_h7 f_h7 y_h7 => ?_)
          have A_h7 := A_hq.put T_h7 b_h7 f_h7 H_r3 (bAll_ok (by decide) _)
          have : ys h7 n1 (0 : Int).toNat = ys hq n1 (0 : Int).toNat := (y_h7 n1 (0 : Int).toNat).trans (if_neg (fun e => (bRo.ne H_n1 H_r3 (by decide)) e.1))
          have : ys h7 n1 (1 : Int).toNat = ys hq n1 (1 : Int).toNat := (y_h7 n1 (1 : Int).toNat).trans (if_neg (fun e => (bRo.ne H_n1 H_r3 (by decide)) e.1))
          have : ys h7 n1 (2 : Int).toNat = ys hq n1 (2 : Int).toNat := (y_h7 n1 (2 : Int).toNat).trans (if_neg (fun e => (bRo.ne H_n1 H_r3 (by decide)) e.1))
          have qq1 : zsl h7 k0 15 = yR n1 := ((f_h7 k0 15).trans (if_neg (fun e => (bRo.ne H_k0 H_r3 (by decide)) e.1))).trans Q_n1
          refine yG.iinc rfl (a := 0) rfl (L' := [(3, yI (0 + 1)), (0, yR k0), (1, yI (3))]) rfl ?_
          refine yG.goto rfl (t := 36) rfl ?_
          exact yG.mono (yG.sub (i_36 (0 + 1) (ys h7 n1 (0 : Int).toNat) (ys h7 n1 (1 : Int).toNat) (ys h7 n1 (2 : Int).toNat) h7 A_h7  rfl rfl rfl (by omega) (by omega) (by omega) (by omega) (by omega) (by omega) (by omega) (by omega) (by omega) (by omega) (by omega)) (ySub.cons rfl (ySub.cons rfl (ySub.cons rfl (ySub.nil))))) (by omega)
      · subst c1
        refine yG.load xik rfl (fun _ _ => rfl) (v := yI (1)) rfl rfl ?_
        refine yG.load xik rfl (fun _ _ => rfl) (v := yI (3)) rfl rfl ?_
        refine yG.icmp rfl (t := 64) rfl ⟨by omega, by omega⟩ ⟨by omega, by omega⟩ (fun c8 => ?_) (fun c8 => ?_)
        · have c8 : (1 : Int) ≥ 3 := c8
          exfalso; omega
        · have c8 : (1 : Int) < 3 := c8
          refine yG.load xak rfl (fun _ _ => rfl) (v := yR k0) rfl rfl ?_
          refine yG.getO A_hq.1 (w_Rules_found W H_k0) rfl rfl (fun r9 H_r9 O_r9 q_r9 => ?_)
          refine yG.load xik rfl (fun _ _ => rfl) (v := yI (1)) rfl rfl ?_
          refine yG.load xak rfl (fun _ _ => rfl) (v := yR k0) rfl rfl ?_
          refine yG.getO A_hq.1 (w_Rules_tried W H_k0) rfl rfl (fun r10 H_r10 O_r10 q_r10 => ?_)
          refine yG.load xak rfl (fun _ _ => rfl) (v := yR k0) rfl rfl ?_
          refine yG.getS9 A_hq.1 (w_Rules_choice W H_k0) Q_n1 rfl rfl ?_
          refine yG.load xik rfl (fun _ _ => rfl) (v := yI (1)) rfl rfl ?_
          refine yG.iald A_hq.1 (v_Rules_choice W H_n1) rfl (by omega) (by omega) (fun z11 e_z11 i_z11 l_z11 u_z11 => ?_)
          rw [show (z11 : Int) = gg1 by omega]
          refine yG.iald A_hq.1 (v_Rules_tried W H_r10) rfl (by omega) (by omega) (fun z12 e_z12 i_z12 l_z12 u_z12 => ?_)
          refine yG.iast A_hq.1 (v_Rules_found W H_r9) (W.2.1 _ _ H_r9 (by decide) (by decide)) rfl (by omega) (by omega) ⟨by omega, by omega⟩ (by omega) (by omega) (fun h13 T_h13 b_h13 f_h13 y_h13 => ?_)
          have A_h13 := A_hq.put T_h13 b_h13 f_h13 H_r9 (bAll_ok (by decide) _)
          have : ys h13 n1 (0 : Int).toNat = ys hq n1 (0 : Int).toNat := (y_h13 n1 (0 : Int).toNat).trans (if_neg (fun e => (bRo.ne H_n1 H_r9 (by decide)) e.1))
          have : ys h13 n1 (1 : Int).toNat = ys hq n1 (1 : Int).toNat := (y_h13 n1 (1 : Int).toNat).trans (if_neg (fun e => (bRo.ne H_n1 H_r9 (by decide)) e.1))
          have : ys h13 n1 (2 : Int).toNat = ys hq n1 (2 : Int).toNat := (y_h13 n1 (2 : Int).toNat).trans (if_neg (fun e => (bRo.ne H_n1 H_r9 (by decide)) e.1))
          have qq2 : zsl h13 k0 15 = yR n1 := ((f_h13 k0 15).trans (if_neg (fun e => (bRo.ne H_k0 H_r9 (by decide)) e.1))).trans Q_n1
          refine yG.iinc rfl (a := 1) rfl (L' := [(3, yI (1 + 1)), (0, yR k0), (1, yI (3))]) rfl ?_
          refine yG.goto rfl (t := 36) rfl ?_
          exact yG.mono (yG.sub (i_36 (1 + 1) (ys h13 n1 (0 : Int).toNat) (ys h13 n1 (1 : Int).toNat) (ys h13 n1 (2 : Int).toNat) h13 A_h13  rfl rfl rfl (by omega) (by omega) (by omega) (by omega) (by omega) (by omega) (by omega) (by omega) (by omega) (by omega) (by omega)) (ySub.cons rfl (ySub.cons rfl (ySub.cons rfl (ySub.nil))))) (by omega)
      · subst c1
        refine yG.load xik rfl (fun _ _ => rfl) (v := yI (2)) rfl rfl ?_
        refine yG.load xik rfl (fun _ _ => rfl) (v := yI (3)) rfl rfl ?_
        refine yG.icmp rfl (t := 64) rfl ⟨by omega, by omega⟩ ⟨by omega, by omega⟩ (fun c14 => ?_) (fun c14 => ?_)
        · have c14 : (2 : Int) ≥ 3 := c14
          exfalso; omega
        · have c14 : (2 : Int) < 3 := c14
          refine yG.load xak rfl (fun _ _ => rfl) (v := yR k0) rfl rfl ?_
          refine yG.getO A_hq.1 (w_Rules_found W H_k0) rfl rfl (fun r15 H_r15 O_r15 q_r15 => ?_)
          refine yG.load xik rfl (fun _ _ => rfl) (v := yI (2)) rfl rfl ?_
          refine yG.load xak rfl (fun _ _ => rfl) (v := yR k0) rfl rfl ?_
          refine yG.getO A_hq.1 (w_Rules_tried W H_k0) rfl rfl (fun r16 H_r16 O_r16 q_r16 => ?_)
          refine yG.load xak rfl (fun _ _ => rfl) (v := yR k0) rfl rfl ?_
          refine yG.getS9 A_hq.1 (w_Rules_choice W H_k0) Q_n1 rfl rfl ?_
          refine yG.load xik rfl (fun _ _ => rfl) (v := yI (2)) rfl rfl ?_
          refine yG.iald A_hq.1 (v_Rules_choice W H_n1) rfl (by omega) (by omega) (fun z17 e_z17 i_z17 l_z17 u_z17 => ?_)
          rw [show (z17 : Int) = gg2 by omega]
          refine yG.iald A_hq.1 (v_Rules_tried W H_r16) rfl (by omega) (by omega) (fun z18 e_z18 i_z18 l_z18 u_z18 => ?_)
          refine yG.iast A_hq.1 (v_Rules_found W H_r15) (W.2.1 _ _ H_r15 (by decide) (by decide)) rfl (by omega) (by omega) ⟨by omega, by omega⟩ (by omega) (by omega) (fun h19 T_h19 b_h19 f_h19 y_h19 => ?_)
          have A_h19 := A_hq.put T_h19 b_h19 f_h19 H_r15 (bAll_ok (by decide) _)
          have : ys h19 n1 (0 : Int).toNat = ys hq n1 (0 : Int).toNat := (y_h19 n1 (0 : Int).toNat).trans (if_neg (fun e => (bRo.ne H_n1 H_r15 (by decide)) e.1))
          have : ys h19 n1 (1 : Int).toNat = ys hq n1 (1 : Int).toNat := (y_h19 n1 (1 : Int).toNat).trans (if_neg (fun e => (bRo.ne H_n1 H_r15 (by decide)) e.1))
          have : ys h19 n1 (2 : Int).toNat = ys hq n1 (2 : Int).toNat := (y_h19 n1 (2 : Int).toNat).trans (if_neg (fun e => (bRo.ne H_n1 H_r15 (by decide)) e.1))
          have qq3 : zsl h19 k0 15 = yR n1 := ((f_h19 k0 15).trans (if_neg (fun e => (bRo.ne H_k0 H_r15 (by decide)) e.1))).trans Q_n1
          refine yG.iinc rfl (a := 2) rfl (L' := [(3, yI (2 + 1)), (0, yR k0), (1, yI (3))]) rfl ?_
          refine yG.goto rfl (t := 36) rfl ?_
          exact yG.mono (yG.sub (i_36 (2 + 1) (ys h19 n1 (0 : Int).toNat) (ys h19 n1 (1 : Int).toNat) (ys h19 n1 (2 : Int).toNat) h19 A_h19  rfl rfl rfl (by omega) (by omega) (by omega) (by omega) (by omega) (by omega) (by omega) (by omega) (by omega) (by omega) (by omega)) (ySub.cons rfl (ySub.cons rfl (ySub.cons rfl (ySub.nil))))) (by omega)
      · subst c1
        refine yG.load xik rfl (fun _ _ => rfl) (v := yI (3)) rfl rfl ?_
        refine yG.load xik rfl (fun _ _ => rfl) (v := yI (3)) rfl rfl ?_
        refine yG.icmp rfl (t := 64) rfl ⟨by omega, by omega⟩ ⟨by omega, by omega⟩ (fun c20 => ?_) (fun c20 => ?_)
        · have c20 : (3 : Int) ≥ 3 := c20
          refine yG.ret rfl (fun _ _ => rfl) ?_
          exact (yP.void ⟨⟨rfl, trivial⟩, A_hq⟩)
        · have c20 : (3 : Int) < 3 := c20
          exfalso; omega
  refine yC.of (M := (xt_X7_weigh, (4, (0, (8, []))))) rfl rfl (N := 220) (yfuel (by decide)) ?_
  show yG 89 xfts (xcall 89 xfts xpools xms d) (xpool xp_RX7) [] xt_X7_weigh (yP 0 (fun rv hp' => (rv = none ∧ True) ∧ bAx G [(162259276829213363391578010288128, 17), (162259276829213363391578010288128, 19), (20769187434139310514121985316880384, 256)] hp hp')) 220 0 [(0, yR k0), (1, yI (3)), (2, yI (p2))] [] hp
  have i_36 := H 9
  obtain ⟨gg0, E_0⟩ : ∃ z : Int, ys hp n1 (0 : Int).toNat = z := ⟨_, rfl⟩
  obtain ⟨-, -, g_0l, g_0u⟩ := (v_Rules_choice W H_n1).int hT (j := (0 : Int).toNat) (by decide)
  obtain ⟨gg1, E_1⟩ : ∃ z : Int, ys hp n1 (1 : Int).toNat = z := ⟨_, rfl⟩
  obtain ⟨-, -, g_1l, g_1u⟩ := (v_Rules_choice W H_n1).int hT (j := (1 : Int).toNat) (by decide)
  obtain ⟨gg2, E_2⟩ : ∃ z : Int, ys hp n1 (2 : Int).toNat = z := ⟨_, rfl⟩
  obtain ⟨-, -, g_2l, g_2u⟩ := (v_Rules_choice W H_n1).int hT (j := (2 : Int).toNat) (by decide)
  refine yG.load xik rfl (fun _ _ => rfl) (v := yI (p2)) rfl rfl ?_
  refine yG.load xak rfl (fun _ _ => rfl) (v := yR k0) rfl rfl ?_
  refine yG.getI A_hp.1 (w_Rules_leastLost W H_k0) rfl rfl (fun z1 e_z1 i_z1 l_z1 u_z1 => ?_)
  refine yG.icmp rfl (t := 24) rfl ⟨by omega, by omega⟩ ⟨by omega, by omega⟩ (fun c2 => ?_) (fun c2 => ?_)
  · have c2 : (p2 : Int) < z1 := c2
    refine yG.load xak rfl (fun _ _ => rfl) (v := yR k0) rfl rfl ?_
    refine yG.load xik rfl (fun _ _ => rfl) (v := yI (p2)) rfl rfl ?_
    refine yG.putI A_hp.1 (w_Rules_leastLost W H_k0) (W.2.1 _ _ H_k0 (by decide) (by decide)) rfl rfl (.inl rfl) ⟨by omega, by omega⟩ (by omega) (by omega) (fun h3 T_h3 b_h3 f_h3 y_h3 => ?_)
    have A_h3 := A_hp.put T_h3 b_h3 f_h3 H_k0 (by decide)
    have : ys h3 n1 (0 : Int).toNat = ys hp n1 (0 : Int).toNat := (y_h3 n1 (0 : Int).toNat).trans (if_neg (fun e => (bRo.ne H_n1 H_k0 (by decide)) e.1))
    have : ys h3 n1 (1 : Int).toNat = ys hp n1 (1 : Int).toNat := (y_h3 n1 (1 : Int).toNat).trans (if_neg (fun e => (bRo.ne H_n1 H_k0 (by decide)) e.1))
    have : ys h3 n1 (2 : Int).toNat = ys hp n1 (2 : Int).toNat := (y_h3 n1 (2 : Int).toNat).trans (if_neg (fun e => (bRo.ne H_n1 H_k0 (by decide)) e.1))
    have qq1 : zsl h3 k0 15 = yR n1 := ((f_h3 k0 15).trans (if_neg (fun e => absurd e.2 (by decide)))).trans Q_n1
    have : ys h3 k0 17 = p2 := (y_h3 k0 17).trans (if_pos ⟨rfl, rfl⟩)
    refine yG.load xak rfl (fun _ _ => rfl) (v := yR k0) rfl rfl ?_
    refine yG.load xik rfl (fun _ _ => rfl) (v := yI (3)) rfl rfl ?_
    refine yG.putI A_h3.1 (w_Rules_foundCount W H_k0) (W.2.1 _ _ H_k0 (by decide) (by decide)) rfl rfl (.inl rfl) ⟨by omega, by omega⟩ (by omega) (by omega) (fun h4 T_h4 b_h4 f_h4 y_h4 => ?_)
    have A_h4 := A_h3.put T_h4 b_h4 f_h4 H_k0 (by decide)
    have : ys h4 n1 (0 : Int).toNat = ys h3 n1 (0 : Int).toNat := (y_h4 n1 (0 : Int).toNat).trans (if_neg (fun e => (bRo.ne H_n1 H_k0 (by decide)) e.1))
    have : ys h4 n1 (1 : Int).toNat = ys h3 n1 (1 : Int).toNat := (y_h4 n1 (1 : Int).toNat).trans (if_neg (fun e => (bRo.ne H_n1 H_k0 (by decide)) e.1))
    have : ys h4 n1 (2 : Int).toNat = ys h3 n1 (2 : Int).toNat := (y_h4 n1 (2 : Int).toNat).trans (if_neg (fun e => (bRo.ne H_n1 H_k0 (by decide)) e.1))
    have qq2 : zsl h4 k0 15 = yR n1 := ((f_h4 k0 15).trans (if_neg (fun e => absurd e.2 (by decide)))).trans qq1
    have : ys h4 k0 17 = ys h3 k0 17 := (y_h4 k0 17).trans (if_neg (fun e => absurd e.2 (by decide)))
    refine yG.num (c := 0) rfl (fun _ _ => rfl) (by decide) ?_
    refine yG.store1 xik (L' := [(3, yI (0)), (0, yR k0), (1, yI (3)), (2, yI (p2))]) rfl (fun _ _ => rfl) rfl rfl ?_
    exact yG.mono (yG.sub (i_36 (0) (ys h4 n1 (0 : Int).toNat) (ys h4 n1 (1 : Int).toNat) (ys h4 n1 (2 : Int).toNat) h4 A_h4  rfl rfl rfl (by omega) (by omega) (by omega) (by omega) (by omega) (by omega) (by omega) (by omega) (by omega) (by omega) (by omega)) (ySub.cons rfl (ySub.cons rfl (ySub.cons rfl (ySub.nil))))) (by omega)
  · have c2 : (p2 : Int) ≥ z1 := c2
    refine yG.load xik rfl (fun _ _ => rfl) (v := yI (p2)) rfl rfl ?_
    refine yG.load xak rfl (fun _ _ => rfl) (v := yR k0) rfl rfl ?_
    refine yG.getI A_hp.1 (w_Rules_leastLost W H_k0) rfl rfl (fun z5 e_z5 i_z5 l_z5 u_z5 => ?_)
    rw [show (z5 : Int) = z1 by omega]
    refine yG.icmp rfl (t := 64) rfl ⟨by omega, by omega⟩ ⟨by omega, by omega⟩ (fun c6 => ?_) (fun c6 => ?_)
    · have c6 : (p2 : Int) ≠ z1 := c6
      refine yG.ret rfl (fun _ _ => rfl) ?_
      exact (yP.void ⟨⟨rfl, trivial⟩, A_hp⟩)
    · have c6 : (p2 : Int) = z1 := c6
      refine yG.load xik rfl (fun _ _ => rfl) (v := yI (3)) rfl rfl ?_
      refine yG.load xak rfl (fun _ _ => rfl) (v := yR k0) rfl rfl ?_
      refine yG.getI A_hp.1 (w_Rules_foundCount W H_k0) rfl rfl (fun z7 e_z7 i_z7 l_z7 u_z7 => ?_)
      refine yG.icmp rfl (t := 64) rfl ⟨by omega, by omega⟩ ⟨by omega, by omega⟩ (fun c8 => ?_) (fun c8 => ?_)
      · have c8 : (3 : Int) ≥ z7 := c8
        refine yG.ret rfl (fun _ _ => rfl) ?_
        exact (yP.void ⟨⟨rfl, trivial⟩, A_hp⟩)
      · have c8 : (3 : Int) < z7 := c8
        refine yG.load xak rfl (fun _ _ => rfl) (v := yR k0) rfl rfl ?_
        refine yG.load xik rfl (fun _ _ => rfl) (v := yI (p2)) rfl rfl ?_
        refine yG.putI A_hp.1 (w_Rules_leastLost W H_k0) (W.2.1 _ _ H_k0 (by decide) (by decide)) rfl rfl (.inl rfl) ⟨by omega, by omega⟩ (by omega) (by omega) (fun h9 T_h9 b_h9 f_h9 y_h9 => ?_)
        have A_h9 := A_hp.put T_h9 b_h9 f_h9 H_k0 (by decide)
        have : ys h9 n1 (0 : Int).toNat = ys hp n1 (0 : Int).toNat := (y_h9 n1 (0 : Int).toNat).trans (if_neg (fun e => (bRo.ne H_n1 H_k0 (by decide)) e.1))
        have : ys h9 n1 (1 : Int).toNat = ys hp n1 (1 : Int).toNat := (y_h9 n1 (1 : Int).toNat).trans (if_neg (fun e => (bRo.ne H_n1 H_k0 (by decide)) e.1))
        have : ys h9 n1 (2 : Int).toNat = ys hp n1 (2 : Int).toNat := (y_h9 n1 (2 : Int).toNat).trans (if_neg (fun e => (bRo.ne H_n1 H_k0 (by decide)) e.1))
        have qq3 : zsl h9 k0 15 = yR n1 := ((f_h9 k0 15).trans (if_neg (fun e => absurd e.2 (by decide)))).trans Q_n1
        have : ys h9 k0 17 = p2 := (y_h9 k0 17).trans (if_pos ⟨rfl, rfl⟩)
        refine yG.load xak rfl (fun _ _ => rfl) (v := yR k0) rfl rfl ?_
        refine yG.load xik rfl (fun _ _ => rfl) (v := yI (3)) rfl rfl ?_
        refine yG.putI A_h9.1 (w_Rules_foundCount W H_k0) (W.2.1 _ _ H_k0 (by decide) (by decide)) rfl rfl (.inl rfl) ⟨by omega, by omega⟩ (by omega) (by omega) (fun h10 T_h10 b_h10 f_h10 y_h10 => ?_)
        have A_h10 := A_h9.put T_h10 b_h10 f_h10 H_k0 (by decide)
        have : ys h10 n1 (0 : Int).toNat = ys h9 n1 (0 : Int).toNat := (y_h10 n1 (0 : Int).toNat).trans (if_neg (fun e => (bRo.ne H_n1 H_k0 (by decide)) e.1))
        have : ys h10 n1 (1 : Int).toNat = ys h9 n1 (1 : Int).toNat := (y_h10 n1 (1 : Int).toNat).trans (if_neg (fun e => (bRo.ne H_n1 H_k0 (by decide)) e.1))
        have : ys h10 n1 (2 : Int).toNat = ys h9 n1 (2 : Int).toNat := (y_h10 n1 (2 : Int).toNat).trans (if_neg (fun e => (bRo.ne H_n1 H_k0 (by decide)) e.1))
        have qq4 : zsl h10 k0 15 = yR n1 := ((f_h10 k0 15).trans (if_neg (fun e => absurd e.2 (by decide)))).trans qq3
        have : ys h10 k0 17 = ys h9 k0 17 := (y_h10 k0 17).trans (if_neg (fun e => absurd e.2 (by decide)))
        refine yG.num (c := 0) rfl (fun _ _ => rfl) (by decide) ?_
        refine yG.store1 xik (L' := [(3, yI (0)), (0, yR k0), (1, yI (3)), (2, yI (p2))]) rfl (fun _ _ => rfl) rfl rfl ?_
        exact yG.mono (yG.sub (i_36 (0) (ys h10 n1 (0 : Int).toNat) (ys h10 n1 (1 : Int).toNat) (ys h10 n1 (2 : Int).toNat) h10 A_h10  rfl rfl rfl (by omega) (by omega) (by omega) (by omega) (by omega) (by omega) (by omega) (by omega) (by omega) (by omega) (by omega)) (ySub.cons rfl (ySub.cons rfl (ySub.cons rfl (ySub.nil))))) (by omega)
theorem c_Rules_bringBack {hp : xH} (W : bW G) (d : Nat) (hT : zTy G hp) (M_bSh : bSh G hp) (M_bCd : bCd G hp) {k0 : Nat} (H_k0 : bRo G 107 k0) {n1 : Nat} (H_n1 : bRo G 112 n1) (Q_n1 : zsl hp k0 15 = yR n1) (p1 : Int) (h1l : 1 ≤ p1) (h1u : p1 ≤ 3) : yC (xcall 89 xfts xpools xms (d + 8)) 188 [yR k0, yI (p1)] hp (fun rv hp' => (bQi G [(34359738368, 1), (1133871366144, 2), (1099511889920, 3), (262144, 4), (262144, 5), (1099511889920, 6), (1099511889920, 7), (1099511627776, 8), (2251799813685248, 9), (2251799813685248, 10), (41538374868278621030495770447446016, 11), (41538374868278621028243970633760768, 12), (41538374868278621028243970633760768, 13), (41538374868278621028243970633760768, 14), (41538374868278621028243970633760768, 15), (162259276829213363391578010288128, 17), (162259276829213363391578010288128, 19), (36346078009743795629538521607831552, 256)] hp 0 4 (fun _ => True)) rv hp' ∧ bSh G hp') := by
  have A_hp : bAx G [(34359738368, 1), (1133871366144, 2), (1099511889920, 3), (262144, 4), (262144, 5), (1099511889920, 6), (1099511889920, 7), (1099511627776, 8), (2251799813685248, 9), (2251799813685248, 10), (41538374868278621030495770447446016, 11), (41538374868278621028243970633760768, 12), (41538374868278621028243970633760768, 13), (41538374868278621028243970633760768, 14), (41538374868278621028243970633760768, 15), (162259276829213363391578010288128, 17), (162259276829213363391578010288128, 19), (36346078009743795629538521607831552, 256)] hp hp := bAx.rf hT
  have M_bSh_hp := M_bSh
  have H : ∀ m : Nat, (∀ a2 : Int, ∀ a3 : Int, ∀ a4 : Int, ∀ a5 : Int, ∀ gg0 : Int, ∀ gg1 : Int, ∀ gg2 : Int, ∀ gg3 : Int, ∀ hq, bAx G [(34359738368, 1), (1133871366144, 2), (1099511889920, 3), (262144, 4), (262144, 5), (1099511889920, 6), (1099511889920, 7), (1099511627776, 8), (2251799813685248, 9), (2251799813685248, 10), (41538374868278621030495770447446016, 11), (41538374868278621028243970633760768, 12), (41538374868278621028243970633760768, 13), (41538374868278621028243970633760768, 14), (41538374868278621028243970633760768, 15), (162259276829213363391578010288128, 17), (162259276829213363391578010288128, 19), (36346078009743795629538521607831552, 256)] hp hq → bSh G hq → ys hq n1 (0 : Int).toNat = gg0 → ys hq n1 (1 : Int).toNat = gg1 → ys hq n1 (2 : Int).toNat = gg2 → ys hq k0 14 = gg3 → 1 ≤ a2 → (-3) ≤ 0 - a2 → (-1) ≤ a3 → (-2) ≤ 0 - a3 → 0 ≤ a4 → (-255) ≤ 0 - a4 → 0 ≤ a5 → (-1000000) ≤ 0 - a5 → (-1) ≤ gg0 → (-8) ≤ 0 - gg0 → (-1) ≤ gg1 → (-8) ≤ 0 - gg1 → (-1) ≤ gg2 → (-8) ≤ 0 - gg2 → 0 ≤ gg3 → (-8) ≤ 0 - gg3 → 1 ≤ p1 → (-3) ≤ 0 - p1 → (-255) ≤ a3 - a4 → 0 ≤ 0 - a3 + a5 → 1 ≤ a5 - gg0 → (-255) ≤ 0 - a4 + gg0 → (-1000000) ≤ 0 - a5 + gg0 → (-1) ≤ 0 - a3 + gg3 → (-254) ≤ 0 - a4 + gg3 → 0 ≤ a2 - p1 → 0 ≤ 0 - a2 + p1 → 1 ≤ 0 - a3 + p1 → (-253) ≤ 0 - a4 + p1 → (-2) ≤ 0 - a3 + 2 * gg0 → (-3) ≤ 0 - a3 + 2 * gg1 → (-31) ≤ 0 - a3 - 4 * gg0 → (-32) ≤ 0 - a3 - 4 * gg1 → (-33) ≤ 0 - a3 - 4 * gg2 → 0 - 2 * a5 + 2000001 < (m : Int) → yG 89 xfts (xcall 89 xfts xpools xms (d + 7)) (xpool xp_RX7) [] xt_X7_bringBack (yP 1 (fun rv hp' => (bQi G [(34359738368, 1), (1133871366144, 2), (1099511889920, 3), (262144, 4), (262144, 5), (1099511889920, 6), (1099511889920, 7), (1099511627776, 8), (2251799813685248, 9), (2251799813685248, 10), (41538374868278621030495770447446016, 11), (41538374868278621028243970633760768, 12), (41538374868278621028243970633760768, 13), (41538374868278621028243970633760768, 14), (41538374868278621028243970633760768, 15), (162259276829213363391578010288128, 17), (162259276829213363391578010288128, 19), (36346078009743795629538521607831552, 256)] hp 0 4 (fun _ => True)) rv hp' ∧ bSh G hp')) (74 * m) 21 [(0, yR k0), (2, yI (a2)), (3, yI (a3)), (4, yI (a4)), (5, yI (a5))] [] hq) := by
    intro m
    induction m with
    | zero =>
      intros; exfalso; omega
    | succ m ih =>
      have i_21 := ih
      clear ih
      intro a2 a3 a4 a5 gg0 gg1 gg2 gg3 hq A_hq M_bSh_hq E_0 E_1 E_2 E_3 f0 f1 f2 f3 f4 f5 f6 f7 f8 f9 f10 f11 f12 f13 f14 f15 f16 f17 f18 f19 f20 f21 f22 f23 f24 f25 f26 f27 f28 f29 f30 f31 f32 f33 hm
      refine yG.mono (N := 74 * m + 74) ?_ (by omega)
      obtain ⟨-, -, g_0l, g_0u⟩ := (v_Rules_choice W H_n1).int A_hq.1 (j := (0 : Int).toNat) (by decide)
      obtain ⟨-, -, g_1l, g_1u⟩ := (v_Rules_choice W H_n1).int A_hq.1 (j := (1 : Int).toNat) (by decide)
      obtain ⟨-, -, g_2l, g_2u⟩ := (v_Rules_choice W H_n1).int A_hq.1 (j := (2 : Int).toNat) (by decide)
      obtain ⟨-, -, g_3l, g_3u⟩ := (w_Rules_triedCount W H_k0).int A_hq.1
      replace Q_n1 : zsl hq k0 15 = yR n1 := (A_hq.sl H_k0 (by decide)).trans Q_n1
      rcases (show a3 = (-1) ∨ a3 = 0 ∨ a3 = 1 ∨ a3 = 2 by omega) with c1 | c1 | c1 | c1
      · subst c1
        refine yG.load xik rfl (fun _ _ => rfl) (v := yI (a5)) rfl rfl ?_
        refine yG.num (c := 1000000) rfl (fun _ _ => rfl) (by decide) ?_
        refine yG.icmp rfl (t := 170) rfl ⟨by omega, by omega⟩ ⟨by omega, by omega⟩ (fun c2 => ?_) (fun c2 => ?_)
        · have c2 : (a5 : Int) ≥ 1000000 := c2
          refine yG.load xak rfl (fun _ _ => rfl) (v := yR k0) rfl rfl ?_
          refine yG.getI A_hq.1 (w_Rules_foundCount W H_k0) rfl rfl (fun z3 e_z3 i_z3 l_z3 u_z3 => ?_)
          refine yG.ret rfl (fun _ _ => rfl) ?_
          exact (yP.int ⟨by omega, by omega⟩ ⟨⟨⟨z3, rfl, by omega, by omega, trivial⟩, A_hq⟩, M_bSh_hq⟩)
        · have c2 : (a5 : Int) < 1000000 := c2
          refine yG.load xik rfl (fun _ _ => rfl) (v := yI ((-1))) rfl rfl ?_
          refine yG.ifz rfl (t := 170) rfl ⟨by omega, by omega⟩ (fun c4 => ?_) (fun c4 => ?_)
          · have c4 : ((-1) : Int) < 0 := c4
            refine yG.load xak rfl (fun _ _ => rfl) (v := yR k0) rfl rfl ?_
            refine yG.getI A_hq.1 (w_Rules_foundCount W H_k0) rfl rfl (fun z5 e_z5 i_z5 l_z5 u_z5 => ?_)
            refine yG.ret rfl (fun _ _ => rfl) ?_
            exact (yP.int ⟨by omega, by omega⟩ ⟨⟨⟨z5, rfl, by omega, by omega, trivial⟩, A_hq⟩, M_bSh_hq⟩)
          · have c4 : ((-1) : Int) ≥ 0 := c4
            exfalso; omega
      · subst c1
        refine yG.load xik rfl (fun _ _ => rfl) (v := yI (a5)) rfl rfl ?_
        refine yG.num (c := 1000000) rfl (fun _ _ => rfl) (by decide) ?_
        refine yG.icmp rfl (t := 170) rfl ⟨by omega, by omega⟩ ⟨by omega, by omega⟩ (fun c6 => ?_) (fun c6 => ?_)
        · have c6 : (a5 : Int) ≥ 1000000 := c6
          refine yG.load xak rfl (fun _ _ => rfl) (v := yR k0) rfl rfl ?_
          refine yG.getI A_hq.1 (w_Rules_foundCount W H_k0) rfl rfl (fun z7 e_z7 i_z7 l_z7 u_z7 => ?_)
          refine yG.ret rfl (fun _ _ => rfl) ?_
          exact (yP.int ⟨by omega, by omega⟩ ⟨⟨⟨z7, rfl, by omega, by omega, trivial⟩, A_hq⟩, M_bSh_hq⟩)
        · have c6 : (a5 : Int) < 1000000 := c6
          refine yG.load xik rfl (fun _ _ => rfl) (v := yI (0)) rfl rfl ?_
          refine yG.ifz rfl (t := 170) rfl ⟨by omega, by omega⟩ (fun c8 => ?_) (fun c8 => ?_)
          · have c8 : (0 : Int) < 0 := c8
            exfalso; omega
          · have c8 : (0 : Int) ≥ 0 := c8
            refine yG.load xak rfl (fun _ _ => rfl) (v := yR k0) rfl rfl ?_
            refine yG.getS9 A_hq.1 (w_Rules_choice W H_k0) Q_n1 rfl rfl ?_
            refine yG.load xik rfl (fun _ _ => rfl) (v := yI (0)) rfl rfl ?_
            refine yG.step (pc' := 38) (stk' := [yI (0), yR n1, yI (0), yR n1]) rfl (fun _ _ => rfl) ?_
            refine yG.iald A_hq.1 (v_Rules_choice W H_n1) rfl (by omega) (by omega) (fun z9 e_z9 i_z9 l_z9 u_z9 => ?_)
            rw [show (z9 : Int) = gg0 by omega]
            refine yG.num (c := 1) rfl (fun _ _ => rfl) (by decide) ?_
            refine yG.iadd rfl ?_
            refine yG.iast A_hq.1 (v_Rules_choice W H_n1) (W.2.1 _ _ H_n1 (by decide) (by decide)) rfl (by omega) (by omega) ⟨by omega, by omega⟩ (by omega) (by omega) (fun h10 T_h10 b_h10 f_h10 y_h10 => ?_)
            have M_bSh_h10 := M_bSh_hq.fr (bAx.put (Wl := [(5192296858534827628530496329220096, 256)]) (bAx.rf A_hq.1) T_h10 b_h10 f_h10 H_n1 (bAll_ok (by decide) _)) (by decide)
            have A_h10 := A_hq.put T_h10 b_h10 f_h10 H_n1 (bAll_ok (by decide) _)
            have : ys h10 n1 (1 : Int).toNat = ys hq n1 (1 : Int).toNat := (y_h10 n1 (1 : Int).toNat).trans (if_neg (fun e => absurd e.2 (by decide)))
            have : ys h10 n1 (2 : Int).toNat = ys hq n1 (2 : Int).toNat := (y_h10 n1 (2 : Int).toNat).trans (if_neg (fun e => absurd e.2 (by decide)))
            have : ys h10 k0 14 = ys hq k0 14 := (y_h10 k0 14).trans (if_neg (fun e => (bRo.ne H_k0 H_n1 (by decide)) e.1))
            have qq1 : zsl h10 k0 15 = yR n1 := ((f_h10 k0 15).trans (if_neg (fun e => (bRo.ne H_k0 H_n1 (by decide)) e.1))).trans Q_n1
            have : ys h10 n1 (0 : Int).toNat = gg0 + 1 := (y_h10 n1 _).trans (if_pos ⟨rfl, rfl⟩)
            refine yG.load xak rfl (fun _ _ => rfl) (v := yR k0) rfl rfl ?_
            refine yG.getS9 A_h10.1 (w_Rules_choice W H_k0) qq1 rfl rfl ?_
            refine yG.load xik rfl (fun _ _ => rfl) (v := yI (0)) rfl rfl ?_
            refine yG.iald A_h10.1 (v_Rules_choice W H_n1) rfl (by omega) (by omega) (fun z11 e_z11 i_z11 l_z11 u_z11 => ?_)
            refine yG.store1 xik (L' := [(6, yI (z11)), (0, yR k0), (2, yI (a2)), (3, yI (0)), (4, yI (a4)), (5, yI (a5))]) rfl (fun _ _ => rfl) rfl rfl ?_
            refine yG.load xik rfl (fun _ _ => rfl) (v := yI (z11)) rfl rfl ?_
            refine yG.load xak rfl (fun _ _ => rfl) (v := yR k0) rfl rfl ?_
            refine yG.getI A_h10.1 (w_Rules_triedCount W H_k0) rfl rfl (fun z12 e_z12 i_z12 l_z12 u_z12 => ?_)
            rw [show (z12 : Int) = gg3 by omega]
            refine yG.icmp rfl (t := 88) rfl ⟨by omega, by omega⟩ ⟨by omega, by omega⟩ (fun c13 => ?_) (fun c13 => ?_)
            · have c13 : (z11 : Int) < gg3 := c13
              refine yG.load xik rfl (fun _ _ => rfl) (v := yI (a4)) rfl rfl ?_
              refine yG.load xik rfl (fun _ _ => rfl) (v := yI (z11)) rfl rfl ?_
              refine yG.bit32 rfl (fun _ _ => rfl) (fun z14 e_z14 l_z14 u_z14 => ?_)
              refine yG.num (c := 1) rfl (fun _ _ => rfl) (by decide) ?_
              refine yG.bit32 rfl (fun _ _ => rfl) (fun z15 e_z15 l_z15 u_z15 => ?_)
              have b_z15 : 0 ≤ z15 ∧ z15 ≤ 1 := by rw [e_z15]; exact yiand ⟨by decide, by decide⟩ (by decide)
              refine yG.ifz rfl (t := 164) rfl ⟨by omega, by omega⟩ (fun c16 => ?_) (fun c16 => ?_)
              · have c16 : (z15 : Int) ≠ 0 := c16
                refine yG.iinc rfl (a := a5) rfl (L' := [(5, yI (a5 + 1)), (6, yI (z11)), (0, yR k0), (2, yI (a2)), (3, yI (0)), (4, yI (a4))]) rfl ?_
                refine yG.goto rfl (t := 21) rfl ?_
                exact yG.mono (yG.sub (i_21 (a2) (0) (a4) (a5 + 1) (ys h10 n1 (0 : Int).toNat) (ys h10 n1 (1 : Int).toNat) (ys h10 n1 (2 : Int).toNat) (ys h10 k0 14) h10 A_h10 M_bSh_h10  rfl rfl rfl rfl (by omega) (by omega) (by omega) (by omega) (by omega) (by omega) (by omega) (by omega) (by omega) (by omega) (by omega) (by omega) (by omega) (by omega) (by omega) (by omega) (by omega) (by omega) (by omega) (by omega) (by omega) (by omega) (by omega) (by omega) (by omega) (by omega) (by omega) (by omega) (by omega) (by omega) (by omega) (by omega) (by omega) (by omega) (by omega)) (ySub.cons rfl (ySub.cons rfl (ySub.cons rfl (ySub.cons rfl (ySub.cons rfl (ySub.nil))))))) (by omega)
              · have c16 : (z15 : Int) = 0 := c16
                refine yG.load xak rfl (fun _ _ => rfl) (v := yR k0) rfl rfl ?_
                refine yG.load xik rfl (fun _ _ => rfl) (v := yI (0)) rfl rfl ?_
                refine yG.load xak rfl (fun _ _ => rfl) (v := yR k0) rfl rfl ?_
                refine yG.getO A_h10.1 (w_Rules_tried W H_k0) rfl rfl (fun r17 H_r17 O_r17 q_r17 => ?_)
                refine yG.load xik rfl (fun _ _ => rfl) (v := yI (z11)) rfl rfl ?_
                refine yG.iald A_h10.1 (v_Rules_tried W H_r17) rfl (by omega) (by omega) (fun z18 e_z18 i_z18 l_z18 u_z18 => ?_)
                refine yG.load xik rfl (fun _ _ => rfl) (v := yI (a4)) rfl rfl ?_
                refine yG.num (c := 1) rfl (fun _ _ => rfl) (by decide) ?_
                refine yG.load xik rfl (fun _ _ => rfl) (v := yI (z11)) rfl rfl ?_
                refine yG.bit32 rfl (fun _ _ => rfl) (fun z19 e_z19 l_z19 u_z19 => ?_)
                have b_z19 : 1 ≤ z19 ∧ z19 ≤ 128 := by rw [e_z19]; exact bshl1 (by omega) (by omega)
                refine yG.bit32 rfl (fun _ _ => rfl) (fun z20 e_z20 l_z20 u_z20 => ?_)
                have b_z20 : 0 ≤ z20 ∧ z20 < ((2 ^ 8 : Nat) : Int) := by rw [e_z20]; exact bior (by omega) (by omega) (by omega) (by omega) (by decide)
                refine yG.invV (rest := []) A_h10.1 (bOb (d_Rules W) H_k0) rfl rfl rfl rfl (c_Rules_isFree W d A_h10.1 M_bSh_h10 (M_bCd.fr A_h10 (by decide)) H_k0 (0) (z18) (z20) (by omega) (by omega) (by omega) (by omega) (by omega) (by omega)) (fun rv h21 q9 => ?_)
                obtain ⟨q9, M_bSh_h21⟩ := q9
                obtain ⟨⟨z22, rfl, l_z22, u_z22, R_z22⟩, B_h21⟩ := q9
                have A_h21 := A_h10.tr B_h21 (by decide)
                have : ys h21 n1 (1 : Int).toNat = ys h10 n1 (1 : Int).toNat := B_h21.ys H_n1 (bNo_ok (by decide) _)
                have : ys h21 n1 (2 : Int).toNat = ys h10 n1 (2 : Int).toNat := B_h21.ys H_n1 (bNo_ok (by decide) _)
                have : ys h21 k0 14 = ys h10 k0 14 := B_h21.ys H_k0 (by decide)
                have qq2 : zsl h21 k0 15 = yR n1 := (B_h21.sl H_k0 (by decide)).trans qq1
                have : ys h21 n1 (0 : Int).toNat = ys h10 n1 (0 : Int).toNat := B_h21.ys H_n1 (bNo_ok (by decide) _)
                show yG _ _ _ _ _ _ _ _ _ _ (yI z22 :: []) _
                refine yG.ifz rfl (t := 164) rfl ⟨by omega, by omega⟩ (fun c23 => ?_) (fun c23 => ?_)
                · have c23 : (z22 : Int) = 0 := c23
                  refine yG.iinc rfl (a := a5) rfl (L' := [(5, yI (a5 + 1)), (6, yI (z11)), (0, yR k0), (2, yI (a2)), (3, yI (0)), (4, yI (a4))]) rfl ?_
                  refine yG.goto rfl (t := 21) rfl ?_
                  exact yG.mono (yG.sub (i_21 (a2) (0) (a4) (a5 + 1) (ys h21 n1 (0 : Int).toNat) (ys h21 n1 (1 : Int).toNat) (ys h21 n1 (2 : Int).toNat) (ys h21 k0 14) h21 A_h21 M_bSh_h21  rfl rfl rfl rfl (by omega) (by omega) (by omega) (by omega) (by omega) (by omega) (by omega) (by omega) (by omega) (by omega) (by omega) (by omega) (by omega) (by omega) (by omega) (by omega) (by omega) (by omega) (by omega) (by omega) (by omega) (by omega) (by omega) (by omega) (by omega) (by omega) (by omega) (by omega) (by omega) (by omega) (by omega) (by omega) (by omega) (by omega) (by omega)) (ySub.cons rfl (ySub.cons rfl (ySub.cons rfl (ySub.cons rfl (ySub.cons rfl (ySub.nil))))))) (by omega)
                · have c23 : (z22 : Int) ≠ 0 := c23
                  refine yG.load xak rfl (fun _ _ => rfl) (v := yR k0) rfl rfl ?_
                  refine yG.load xik rfl (fun _ _ => rfl) (v := yI (0)) rfl rfl ?_
                  refine yG.num (c := 1) rfl (fun _ _ => rfl) (by decide) ?_
                  refine yG.iadd rfl ?_
                  refine yG.load xak rfl (fun _ _ => rfl) (v := yR k0) rfl rfl ?_
                  refine yG.getO A_h21.1 (w_Rules_stages W H_k0) rfl rfl (fun r24 H_r24 O_r24 q_r24 => ?_)
                  refine yG.load xik rfl (fun _ _ => rfl) (v := yI (0)) rfl rfl ?_
                  refine yG.num (c := 1) rfl (fun _ _ => rfl) (by decide) ?_
                  refine yG.iadd rfl ?_
                  refine yG.aaldO (r := 115) A_h21.1 (v_Rules_stages W H_r24) rfl rfl rfl (by omega) (by omega) (fun r25 H_r25 q_r25 => ?_)
                  refine yG.getI A_h21.1 (w_FlowS_lost W H_r25) rfl rfl (fun z26 e_z26 i_z26 l_z26 u_z26 => ?_)
                  rw [show (0 + 1 : Int) = 1 by omega]
                  refine yG.invV (rest := []) A_h21.1 (bOb (d_Rules W) H_k0) rfl rfl rfl rfl (c_Rules_weigh_1 W (d + 6) A_h21.1 H_k0 H_n1 qq2 (z26) (by omega) (by omega) (by omega) (by omega)) (fun rv h27 q9 => ?_)
                  obtain ⟨⟨rfl, R_z28⟩, B_h27⟩ := q9
                  have A_h27 := A_h21.tr B_h27 (by decide)
                  have M_bSh_h27 := M_bSh_h21.fr B_h27 (by decide)
                  have : ys h27 n1 (1 : Int).toNat = ys h21 n1 (1 : Int).toNat := B_h27.ys H_n1 (bNo_ok (by decide) _)
                  have : ys h27 n1 (2 : Int).toNat = ys h21 n1 (2 : Int).toNat := B_h27.ys H_n1 (bNo_ok (by decide) _)
                  have : ys h27 k0 14 = ys h21 k0 14 := B_h27.ys H_k0 (by decide)
                  have qq3 : zsl h27 k0 15 = yR n1 := (B_h27.sl H_k0 (by decide)).trans qq2
                  have : ys h27 n1 (0 : Int).toNat = ys h21 n1 (0 : Int).toNat := B_h27.ys H_n1 (bNo_ok (by decide) _)
                  show yG _ _ _ _ _ _ _ _ _ _ [] _
                  refine yG.load xik rfl (fun _ _ => rfl) (v := yI (0)) rfl rfl ?_
                  refine yG.num (c := 1) rfl (fun _ _ => rfl) (by decide) ?_
                  refine yG.iadd rfl ?_
                  refine yG.load xik rfl (fun _ _ => rfl) (v := yI (a2)) rfl rfl ?_
                  refine yG.icmp rfl (t := 164) rfl ⟨by omega, by omega⟩ ⟨by omega, by omega⟩ (fun c29 => ?_) (fun c29 => ?_)
                  · have c29 : (0 + 1 : Int) ≥ a2 := c29
                    refine yG.iinc rfl (a := a5) rfl (L' := [(5, yI (a5 + 1)), (6, yI (z11)), (0, yR k0), (2, yI (a2)), (3, yI (0)), (4, yI (a4))]) rfl ?_
                    refine yG.goto rfl (t := 21) rfl ?_
                    exact yG.mono (yG.sub (i_21 (a2) (0) (a4) (a5 + 1) (ys h27 n1 (0 : Int).toNat) (ys h27 n1 (1 : Int).toNat) (ys h27 n1 (2 : Int).toNat) (ys h27 k0 14) h27 A_h27 M_bSh_h27  rfl rfl rfl rfl (by omega) (by omega) (by omega) (by omega) (by omega) (by omega) (by omega) (by omega) (by omega) (by omega) (by omega) (by omega) (by omega) (by omega) (by omega) (by omega) (by omega) (by omega) (by omega) (by omega) (by omega) (by omega) (by omega) (by omega) (by omega) (by omega) (by omega) (by omega) (by omega) (by omega) (by omega) (by omega) (by omega) (by omega) (by omega)) (ySub.cons rfl (ySub.cons rfl (ySub.cons rfl (ySub.cons rfl (ySub.cons rfl (ySub.nil))))))) (by omega)
                  · have c29 : (0 + 1 : Int) < a2 := c29
                    refine yG.iinc rfl (a := 0) rfl (L' := [(3, yI (0 + 1)), (6, yI (z11)), (0, yR k0), (2, yI (a2)), (4, yI (a4)), (5, yI (a5))]) rfl ?_
                    refine yG.load xik rfl (fun _ _ => rfl) (v := yI (a4)) rfl rfl ?_
                    refine yG.num (c := 1) rfl (fun _ _ => rfl) (by decide) ?_
                    refine yG.load xik rfl (fun _ _ => rfl) (v := yI (z11)) rfl rfl ?_
                    refine yG.bit32 rfl (fun _ _ => rfl) (fun z30 e_z30 l_z30 u_z30 => ?_)
                    have b_z30 : 1 ≤ z30 ∧ z30 ≤ 128 := by rw [e_z30]; exact bshl1 (by omega) (by omega)
                    refine yG.bit32 rfl (fun _ _ => rfl) (fun z31 e_z31 l_z31 u_z31 => ?_)
                    have b_z31 : 0 ≤ z31 ∧ z31 < ((2 ^ 8 : Nat) : Int) := by rw [e_z31]; exact bior (by omega) (by omega) (by omega) (by omega) (by decide)
                    refine yG.store1 xik (L' := [(4, yI (z31)), (3, yI (0 + 1)), (6, yI (z11)), (0, yR k0), (2, yI (a2)), (5, yI (a5))]) rfl (fun _ _ => rfl) rfl rfl ?_
                    refine yG.load xak rfl (fun _ _ => rfl) (v := yR k0) rfl rfl ?_
                    refine yG.getS9 A_h27.1 (w_Rules_choice W H_k0) qq3 rfl rfl ?_
                    refine yG.load xik rfl (fun _ _ => rfl) (v := yI (0 + 1)) rfl rfl ?_
                    refine yG.num (c := -1) rfl (fun _ _ => rfl) (by decide) ?_
                    rw [show (0 + 1 : Int) = 1 by omega]
                    refine yG.iast A_h27.1 (v_Rules_choice W H_n1) (W.2.1 _ _ H_n1 (by decide) (by decide)) rfl (by omega) (by omega) ⟨by omega, by omega⟩ (by omega) (by omega) (fun h32 T_h32 b_h32 f_h32 y_h32 => ?_)
                    have M_bSh_h32 := M_bSh_h27.fr (bAx.put (Wl := [(5192296858534827628530496329220096, 256)]) (bAx.rf A_h27.1) T_h32 b_h32 f_h32 H_n1 (bAll_ok (by decide) _)) (by decide)
                    have A_h32 := A_h27.put T_h32 b_h32 f_h32 H_n1 (bAll_ok (by decide) _)
                    have : ys h32 n1 (2 : Int).toNat = ys h27 n1 (2 : Int).toNat := (y_h32 n1 (2 : Int).toNat).trans (if_neg (fun e => absurd e.2 (by decide)))
                    have : ys h32 k0 14 = ys h27 k0 14 := (y_h32 k0 14).trans (if_neg (fun e => (bRo.ne H_k0 H_n1 (by decide)) e.1))
                    have qq4 : zsl h32 k0 15 = yR n1 := ((f_h32 k0 15).trans (if_neg (fun e => (bRo.ne H_k0 H_n1 (by decide)) e.1))).trans qq3
                    have : ys h32 n1 (0 : Int).toNat = ys h27 n1 (0 : Int).toNat := (y_h32 n1 (0 : Int).toNat).trans (if_neg (fun e => absurd e.2 (by decide)))
                    have : ys h32 n1 (1 : Int).toNat = (-1) := (y_h32 n1 _).trans (if_pos ⟨rfl, rfl⟩)
                    refine yG.iinc rfl (a := a5) rfl (L' := [(5, yI (a5 + 1)), (4, yI (z31)), (3, yI (0 + 1)), (6, yI (z11)), (0, yR k0), (2, yI (a2))]) rfl ?_
                    refine yG.goto rfl (t := 21) rfl ?_
                    exact yG.mono (yG.sub (i_21 (a2) (0 + 1) (z31) (a5 + 1) (ys h32 n1 (0 : Int).toNat) (ys h32 n1 (1 : Int).toNat) (ys h32 n1 (2 : Int).toNat) (ys h32 k0 14) h32 A_h32 M_bSh_h32  rfl rfl rfl rfl (by omega) (by omega) (by omega) (by omega) (by omega) (by omega) (by omega) (by omega) (by omega) (by omega) (by omega) (by omega) (by omega) (by omega) (by omega) (by omega) (by omega) (by omega) (by omega) (by omega) (by omega) (by omega) (by omega) (by omega) (by omega) (by omega) (by omega) (by omega) (by omega) (by omega) (by omega) (by omega) (by omega) (by omega) (by omega)) (ySub.cons rfl (ySub.cons rfl (ySub.cons rfl (ySub.cons rfl (ySub.cons rfl (ySub.nil))))))) (by omega)
            · have c13 : (z11 : Int) ≥ gg3 := c13
              refine yG.iinc rfl (a := 0) rfl (L' := [(3, yI (0 + (-1))), (6, yI (z11)), (0, yR k0), (2, yI (a2)), (4, yI (a4)), (5, yI (a5))]) rfl ?_
              refine yG.load xik rfl (fun _ _ => rfl) (v := yI (0 + (-1))) rfl rfl ?_
              refine yG.ifz rfl (t := 70) rfl ⟨by omega, by omega⟩ (fun c33 => ?_) (fun c33 => ?_)
              · have c33 : (0 + (-1) : Int) ≥ 0 := c33
                exfalso; omega
              · have c33 : (0 + (-1) : Int) < 0 := c33
                refine yG.num (c := 0) rfl (fun _ _ => rfl) (by decide) ?_
                refine yG.goto rfl (t := 83) rfl ?_
                refine yG.store1 xik (L' := [(4, yI (0)), (3, yI (0 + (-1))), (6, yI (z11)), (0, yR k0), (2, yI (a2)), (5, yI (a5))]) rfl (fun _ _ => rfl) rfl rfl ?_
                refine yG.goto rfl (t := 164) rfl ?_
                refine yG.iinc rfl (a := a5) rfl (L' := [(5, yI (a5 + 1)), (4, yI (0)), (3, yI (0 + (-1))), (6, yI (z11)), (0, yR k0), (2, yI (a2))]) rfl ?_
                refine yG.goto rfl (t := 21) rfl ?_
                exact yG.mono (yG.sub (i_21 (a2) (0 + (-1)) (0) (a5 + 1) (ys h10 n1 (0 : Int).toNat) (ys h10 n1 (1 : Int).toNat) (ys h10 n1 (2 : Int).toNat) (ys h10 k0 14) h10 A_h10 M_bSh_h10  rfl rfl rfl rfl (by omega) (by omega) (by omega) (by omega) (by omega) (by omega) (by omega) (by omega) (by omega) (by omega) (by omega) (by omega) (by omega) (by omega) (by omega) (by omega) (by omega) (by omega) (by omega) (by omega) (by omega) (by omega) (by omega) (by omega) (by omega) (by omega) (by omega) (by omega) (by omega) (by omega) (by omega) (by omega) (by omega) (by omega) (by omega)) (ySub.cons rfl (ySub.cons rfl (ySub.cons rfl (ySub.cons rfl (ySub.cons rfl (ySub.nil))))))) (by omega)
      · subst c1
        refine yG.load xik rfl (fun _ _ => rfl) (v := yI (a5)) rfl rfl ?_
        refine yG.num (c := 1000000) rfl (fun _ _ => rfl) (by decide) ?_
        refine yG.icmp rfl (t := 170) rfl ⟨by omega, by omega⟩ ⟨by omega, by omega⟩ (fun c34 => ?_) (fun c34 => ?_)
        · have c34 : (a5 : Int) ≥ 1000000 := c34
          refine yG.load xak rfl (fun _ _ => rfl) (v := yR k0) rfl rfl ?_
          refine yG.getI A_hq.1 (w_Rules_foundCount W H_k0) rfl rfl (fun z35 e_z35 i_z35 l_z35 u_z35 => ?_)
          refine yG.ret rfl (fun _ _ => rfl) ?_
          exact (yP.int ⟨by omega, by omega⟩ ⟨⟨⟨z35, rfl, by omega, by omega, trivial⟩, A_hq⟩, M_bSh_hq⟩)
        · have c34 : (a5 : Int) < 1000000 := c34
          refine yG.load xik rfl (fun _ _ => rfl) (v := yI (1)) rfl rfl ?_
          refine yG.ifz rfl (t := 170) rfl ⟨by omega, by omega⟩ (fun c36 => ?_) (fun c36 => ?_)
          · have c36 : (1 : Int) < 0 := c36
            exfalso; omega
          · have c36 : (1 : Int) ≥ 0 := c36
            refine yG.load xak rfl (fun _ _ => rfl) (v := yR k0) rfl rfl ?_
            refine yG.getS9 A_hq.1 (w_Rules_choice W H_k0) Q_n1 rfl rfl ?_
            refine yG.load xik rfl (fun _ _ => rfl) (v := yI (1)) rfl rfl ?_
            refine yG.step (pc' := 38) (stk' := [yI (1), yR n1, yI (1), yR n1]) rfl (fun _ _ => rfl) ?_
            refine yG.iald A_hq.1 (v_Rules_choice W H_n1) rfl (by omega) (by omega) (fun z37 e_z37 i_z37 l_z37 u_z37 => ?_)
            rw [show (z37 : Int) = gg1 by omega]
            refine yG.num (c := 1) rfl (fun _ _ => rfl) (by decide) ?_
            refine yG.iadd rfl ?_
            refine yG.iast A_hq.1 (v_Rules_choice W H_n1) (W.2.1 _ _ H_n1 (by decide) (by decide)) rfl (by omega) (by omega) ⟨by omega, by omega⟩ (by omega) (by omega) (fun h38 T_h38 b_h38 f_h38 y_h38 => ?_)
            have M_bSh_h38 := M_bSh_hq.fr (bAx.put (Wl := [(5192296858534827628530496329220096, 256)]) (bAx.rf A_hq.1) T_h38 b_h38 f_h38 H_n1 (bAll_ok (by decide) _)) (by decide)
            have A_h38 := A_hq.put T_h38 b_h38 f_h38 H_n1 (bAll_ok (by decide) _)
            have : ys h38 n1 (0 : Int).toNat = ys hq n1 (0 : Int).toNat := (y_h38 n1 (0 : Int).toNat).trans (if_neg (fun e => absurd e.2 (by decide)))
            have : ys h38 n1 (2 : Int).toNat = ys hq n1 (2 : Int).toNat := (y_h38 n1 (2 : Int).toNat).trans (if_neg (fun e => absurd e.2 (by decide)))
            have : ys h38 k0 14 = ys hq k0 14 := (y_h38 k0 14).trans (if_neg (fun e => (bRo.ne H_k0 H_n1 (by decide)) e.1))
            have qq5 : zsl h38 k0 15 = yR n1 := ((f_h38 k0 15).trans (if_neg (fun e => (bRo.ne H_k0 H_n1 (by decide)) e.1))).trans Q_n1
            have : ys h38 n1 (1 : Int).toNat = gg1 + 1 := (y_h38 n1 _).trans (if_pos ⟨rfl, rfl⟩)
            refine yG.load xak rfl (fun _ _ => rfl) (v := yR k0) rfl rfl ?_
            refine yG.getS9 A_h38.1 (w_Rules_choice W H_k0) qq5 rfl rfl ?_
            refine yG.load xik rfl (fun _ _ => rfl) (v := yI (1)) rfl rfl ?_
            refine yG.iald A_h38.1 (v_Rules_choice W H_n1) rfl (by omega) (by omega) (fun z39 e_z39 i_z39 l_z39 u_z39 => ?_)
            refine yG.store1 xik (L' := [(6, yI (z39)), (0, yR k0), (2, yI (a2)), (3, yI (1)), (4, yI (a4)), (5, yI (a5))]) rfl (fun _ _ => rfl) rfl rfl ?_
            refine yG.load xik rfl (fun _ _ => rfl) (v := yI (z39)) rfl rfl ?_
            refine yG.load xak rfl (fun _ _ => rfl) (v := yR k0) rfl rfl ?_
            refine yG.getI A_h38.1 (w_Rules_triedCount W H_k0) rfl rfl (fun z40 e_z40 i_z40 l_z40 u_z40 => ?_)
            rw [show (z40 : Int) = gg3 by omega]
            refine yG.icmp rfl (t := 88) rfl ⟨by omega, by omega⟩ ⟨by omega, by omega⟩ (fun c41 => ?_) (fun c41 => ?_)
            · have c41 : (z39 : Int) < gg3 := c41
              refine yG.load xik rfl (fun _ _ => rfl) (v := yI (a4)) rfl rfl ?_
              refine yG.load xik rfl (fun _ _ => rfl) (v := yI (z39)) rfl rfl ?_
              refine yG.bit32 rfl (fun _ _ => rfl) (fun z42 e_z42 l_z42 u_z42 => ?_)
              refine yG.num (c := 1) rfl (fun _ _ => rfl) (by decide) ?_
              refine yG.bit32 rfl (fun _ _ => rfl) (fun z43 e_z43 l_z43 u_z43 => ?_)
              have b_z43 : 0 ≤ z43 ∧ z43 ≤ 1 := by rw [e_z43]; exact yiand ⟨by decide, by decide⟩ (by decide)
              refine yG.ifz rfl (t := 164) rfl ⟨by omega, by omega⟩ (fun c44 => ?_) (fun c44 => ?_)
              · have c44 : (z43 : Int) ≠ 0 := c44
                refine yG.iinc rfl (a := a5) rfl (L' := [(5, yI (a5 + 1)), (6, yI (z39)), (0, yR k0), (2, yI (a2)), (3, yI (1)), (4, yI (a4))]) rfl ?_
                refine yG.goto rfl (t := 21) rfl ?_
                exact yG.mono (yG.sub (i_21 (a2) (1) (a4) (a5 + 1) (ys h38 n1 (0 : Int).toNat) (ys h38 n1 (1 : Int).toNat) (ys h38 n1 (2 : Int).toNat) (ys h38 k0 14) h38 A_h38 M_bSh_h38  rfl rfl rfl rfl (by omega) (by omega) (by omega) (by omega) (by omega) (by omega) (by omega) (by omega) (by omega) (by omega) (by omega) (by omega) (by omega) (by omega) (by omega) (by omega) (by omega) (by omega) (by omega) (by omega) (by omega) (by omega) (by omega) (by omega) (by omega) (by omega) (by omega) (by omega) (by omega) (by omega) (by omega) (by omega) (by omega) (by omega) (by omega)) (ySub.cons rfl (ySub.cons rfl (ySub.cons rfl (ySub.cons rfl (ySub.cons rfl (ySub.nil))))))) (by omega)
              · have c44 : (z43 : Int) = 0 := c44
                refine yG.load xak rfl (fun _ _ => rfl) (v := yR k0) rfl rfl ?_
                refine yG.load xik rfl (fun _ _ => rfl) (v := yI (1)) rfl rfl ?_
                refine yG.load xak rfl (fun _ _ => rfl) (v := yR k0) rfl rfl ?_
                refine yG.getO A_h38.1 (w_Rules_tried W H_k0) rfl rfl (fun r45 H_r45 O_r45 q_r45 => ?_)
                refine yG.load xik rfl (fun _ _ => rfl) (v := yI (z39)) rfl rfl ?_
                refine yG.iald A_h38.1 (v_Rules_tried W H_r45) rfl (by omega) (by omega) (fun z46 e_z46 i_z46 l_z46 u_z46 => ?_)
                refine yG.load xik rfl (fun _ _ => rfl) (v := yI (a4)) rfl rfl ?_
                refine yG.num (c := 1) rfl (fun _ _ => rfl) (by decide) ?_
                refine yG.load xik rfl (fun _ _ => rfl) (v := yI (z39)) rfl rfl ?_
                refine yG.bit32 rfl (fun _ _ => rfl) (fun z47 e_z47 l_z47 u_z47 => ?_)
                have b_z47 : 1 ≤ z47 ∧ z47 ≤ 128 := by rw [e_z47]; exact bshl1 (by omega) (by omega)
                refine yG.bit32 rfl (fun _ _ => rfl) (fun z48 e_z48 l_z48 u_z48 => ?_)
                have b_z48 : 0 ≤ z48 ∧ z48 < ((2 ^ 8 : Nat) : Int) := by rw [e_z48]; exact bior (by omega) (by omega) (by omega) (by omega) (by decide)
                refine yG.invV (rest := []) A_h38.1 (bOb (d_Rules W) H_k0) rfl rfl rfl rfl (c_Rules_isFree W d A_h38.1 M_bSh_h38 (M_bCd.fr A_h38 (by decide)) H_k0 (1) (z46) (z48) (by omega) (by omega) (by omega) (by omega) (by omega) (by omega)) (fun rv h49 q9 => ?_)
                obtain ⟨q9, M_bSh_h49⟩ := q9
                obtain ⟨⟨z50, rfl, l_z50, u_z50, R_z50⟩, B_h49⟩ := q9
                have A_h49 := A_h38.tr B_h49 (by decide)
                have : ys h49 n1 (0 : Int).toNat = ys h38 n1 (0 : Int).toNat := B_h49.ys H_n1 (bNo_ok (by decide) _)
                have : ys h49 n1 (2 : Int).toNat = ys h38 n1 (2 : Int).toNat := B_h49.ys H_n1 (bNo_ok (by decide) _)
                have : ys h49 k0 14 = ys h38 k0 14 := B_h49.ys H_k0 (by decide)
                have qq6 : zsl h49 k0 15 = yR n1 := (B_h49.sl H_k0 (by decide)).trans qq5
                have : ys h49 n1 (1 : Int).toNat = ys h38 n1 (1 : Int).toNat := B_h49.ys H_n1 (bNo_ok (by decide) _)
                show yG _ _ _ _ _ _ _ _ _ _ (yI z50 :: []) _
                refine yG.ifz rfl (t := 164) rfl ⟨by omega, by omega⟩ (fun c51 => ?_) (fun c51 => ?_)
                · have c51 : (z50 : Int) = 0 := c51
                  refine yG.iinc rfl (a := a5) rfl (L' := [(5, yI (a5 + 1)), (6, yI (z39)), (0, yR k0), (2, yI (a2)), (3, yI (1)), (4, yI (a4))]) rfl ?_
                  refine yG.goto rfl (t := 21) rfl ?_
                  exact yG.mono (yG.sub (i_21 (a2) (1) (a4) (a5 + 1) (ys h49 n1 (0 : Int).toNat) (ys h49 n1 (1 : Int).toNat) (ys h49 n1 (2 : Int).toNat) (ys h49 k0 14) h49 A_h49 M_bSh_h49  rfl rfl rfl rfl (by omega) (by omega) (by omega) (by omega) (by omega) (by omega) (by omega) (by omega) (by omega) (by omega) (by omega) (by omega) (by omega) (by omega) (by omega) (by omega) (by omega) (by omega) (by omega) (by omega) (by omega) (by omega) (by omega) (by omega) (by omega) (by omega) (by omega) (by omega) (by omega) (by omega) (by omega) (by omega) (by omega) (by omega) (by omega)) (ySub.cons rfl (ySub.cons rfl (ySub.cons rfl (ySub.cons rfl (ySub.cons rfl (ySub.nil))))))) (by omega)
                · have c51 : (z50 : Int) ≠ 0 := c51
                  refine yG.load xak rfl (fun _ _ => rfl) (v := yR k0) rfl rfl ?_
                  refine yG.load xik rfl (fun _ _ => rfl) (v := yI (1)) rfl rfl ?_
                  refine yG.num (c := 1) rfl (fun _ _ => rfl) (by decide) ?_
                  refine yG.iadd rfl ?_
                  refine yG.load xak rfl (fun _ _ => rfl) (v := yR k0) rfl rfl ?_
                  refine yG.getO A_h49.1 (w_Rules_stages W H_k0) rfl rfl (fun r52 H_r52 O_r52 q_r52 => ?_)
                  refine yG.load xik rfl (fun _ _ => rfl) (v := yI (1)) rfl rfl ?_
                  refine yG.num (c := 1) rfl (fun _ _ => rfl) (by decide) ?_
                  refine yG.iadd rfl ?_
                  refine yG.aaldO (r := 115) A_h49.1 (v_Rules_stages W H_r52) rfl rfl rfl (by omega) (by omega) (fun r53 H_r53 q_r53 => ?_)
                  refine yG.getI A_h49.1 (w_FlowS_lost W H_r53) rfl rfl (fun z54 e_z54 i_z54 l_z54 u_z54 => ?_)
                  rw [show (1 + 1 : Int) = 2 by omega]
                  refine yG.invV (rest := []) A_h49.1 (bOb (d_Rules W) H_k0) rfl rfl rfl rfl (c_Rules_weigh_2 W (d + 6) A_h49.1 H_k0 H_n1 qq6 (z54) (by omega) (by omega) (by omega) (by omega) (by omega) (by omega)) (fun rv h55 q9 => ?_)
                  obtain ⟨⟨rfl, R_z56⟩, B_h55⟩ := q9
                  have A_h55 := A_h49.tr B_h55 (by decide)
                  have M_bSh_h55 := M_bSh_h49.fr B_h55 (by decide)
                  have : ys h55 n1 (0 : Int).toNat = ys h49 n1 (0 : Int).toNat := B_h55.ys H_n1 (bNo_ok (by decide) _)
                  have : ys h55 n1 (2 : Int).toNat = ys h49 n1 (2 : Int).toNat := B_h55.ys H_n1 (bNo_ok (by decide) _)
                  have : ys h55 k0 14 = ys h49 k0 14 := B_h55.ys H_k0 (by decide)
                  have qq7 : zsl h55 k0 15 = yR n1 := (B_h55.sl H_k0 (by decide)).trans qq6
                  have : ys h55 n1 (1 : Int).toNat = ys h49 n1 (1 : Int).toNat := B_h55.ys H_n1 (bNo_ok (by decide) _)
                  show yG _ _ _ _ _ _ _ _ _ _ [] _
                  refine yG.load xik rfl (fun _ _ => rfl) (v := yI (1)) rfl rfl ?_
                  refine yG.num (c := 1) rfl (fun _ _ => rfl) (by decide) ?_
                  refine yG.iadd rfl ?_
                  refine yG.load xik rfl (fun _ _ => rfl) (v := yI (a2)) rfl rfl ?_
                  refine yG.icmp rfl (t := 164) rfl ⟨by omega, by omega⟩ ⟨by omega, by omega⟩ (fun c57 => ?_) (fun c57 => ?_)
                  · have c57 : (1 + 1 : Int) ≥ a2 := c57
                    refine yG.iinc rfl (a := a5) rfl (L' := [(5, yI (a5 + 1)), (6, yI (z39)), (0, yR k0), (2, yI (a2)), (3, yI (1)), (4, yI (a4))]) rfl ?_
                    refine yG.goto rfl (t := 21) rfl ?_
                    exact yG.mono (yG.sub (i_21 (a2) (1) (a4) (a5 + 1) (ys h55 n1 (0 : Int).toNat) (ys h55 n1 (1 : Int).toNat) (ys h55 n1 (2 : Int).toNat) (ys h55 k0 14) h55 A_h55 M_bSh_h55  rfl rfl rfl rfl (by omega) (by omega) (by omega) (by omega) (by omega) (by omega) (by omega) (by omega) (by omega) (by omega) (by omega) (by omega) (by omega) (by omega) (by omega) (by omega) (by omega) (by omega) (by omega) (by omega) (by omega) (by omega) (by omega) (by omega) (by omega) (by omega) (by omega) (by omega) (by omega) (by omega) (by omega) (by omega) (by omega) (by omega) (by omega)) (ySub.cons rfl (ySub.cons rfl (ySub.cons rfl (ySub.cons rfl (ySub.cons rfl (ySub.nil))))))) (by omega)
                  · have c57 : (1 + 1 : Int) < a2 := c57
                    refine yG.iinc rfl (a := 1) rfl (L' := [(3, yI (1 + 1)), (6, yI (z39)), (0, yR k0), (2, yI (a2)), (4, yI (a4)), (5, yI (a5))]) rfl ?_
                    refine yG.load xik rfl (fun _ _ => rfl) (v := yI (a4)) rfl rfl ?_
                    refine yG.num (c := 1) rfl (fun _ _ => rfl) (by decide) ?_
                    refine yG.load xik rfl (fun _ _ => rfl) (v := yI (z39)) rfl rfl ?_
                    refine yG.bit32 rfl (fun _ _ => rfl) (fun z58 e_z58 l_z58 u_z58 => ?_)
                    have b_z58 : 1 ≤ z58 ∧ z58 ≤ 128 := by rw [e_z58]; exact bshl1 (by omega) (by omega)
                    refine yG.bit32 rfl (fun _ _ => rfl) (fun z59 e_z59 l_z59 u_z59 => ?_)
                    have b_z59 : 0 ≤ z59 ∧ z59 < ((2 ^ 8 : Nat) : Int) := by rw [e_z59]; exact bior (by omega) (by omega) (by omega) (by omega) (by decide)
                    refine yG.store1 xik (L' := [(4, yI (z59)), (3, yI (1 + 1)), (6, yI (z39)), (0, yR k0), (2, yI (a2)), (5, yI (a5))]) rfl (fun _ _ => rfl) rfl rfl ?_
                    refine yG.load xak rfl (fun _ _ => rfl) (v := yR k0) rfl rfl ?_
                    refine yG.getS9 A_h55.1 (w_Rules_choice W H_k0) qq7 rfl rfl ?_
                    refine yG.load xik rfl (fun _ _ => rfl) (v := yI (1 + 1)) rfl rfl ?_
                    refine yG.num (c := -1) rfl (fun _ _ => rfl) (by decide) ?_
                    rw [show (1 + 1 : Int) = 2 by omega]
                    refine yG.iast A_h55.1 (v_Rules_choice W H_n1) (W.2.1 _ _ H_n1 (by decide) (by decide)) rfl (by omega) (by omega) ⟨by omega, by omega⟩ (by omega) (by omega) (fun h60 T_h60 b_h60 f_h60 y_h60 => ?_)
                    have M_bSh_h60 := M_bSh_h55.fr (bAx.put (Wl := [(5192296858534827628530496329220096, 256)]) (bAx.rf A_h55.1) T_h60 b_h60 f_h60 H_n1 (bAll_ok (by decide) _)) (by decide)
                    have A_h60 := A_h55.put T_h60 b_h60 f_h60 H_n1 (bAll_ok (by decide) _)
                    have : ys h60 n1 (0 : Int).toNat = ys h55 n1 (0 : Int).toNat := (y_h60 n1 (0 : Int).toNat).trans (if_neg (fun e => absurd e.2 (by decide)))
                    have : ys h60 k0 14 = ys h55 k0 14 := (y_h60 k0 14).trans (if_neg (fun e => (bRo.ne H_k0 H_n1 (by decide)) e.1))
                    have qq8 : zsl h60 k0 15 = yR n1 := ((f_h60 k0 15).trans (if_neg (fun e => (bRo.ne H_k0 H_n1 (by decide)) e.1))).trans qq7
                    have : ys h60 n1 (1 : Int).toNat = ys h55 n1 (1 : Int).toNat := (y_h60 n1 (1 : Int).toNat).trans (if_neg (fun e => absurd e.2 (by decide)))
                    have : ys h60 n1 (2 : Int).toNat = (-1) := (y_h60 n1 _).trans (if_pos ⟨rfl, rfl⟩)
                    refine yG.iinc rfl (a := a5) rfl (L' := [(5, yI (a5 + 1)), (4, yI (z59)), (3, yI (1 + 1)), (6, yI (z39)), (0, yR k0), (2, yI (a2))]) rfl ?_
                    refine yG.goto rfl (t := 21) rfl ?_
                    exact yG.mono (yG.sub (i_21 (a2) (1 + 1) (z59) (a5 + 1) (ys h60 n1 (0 : Int).toNat) (ys h60 n1 (1 : Int).toNat) (ys h60 n1 (2 : Int).toNat) (ys h60 k0 14) h60 A_h60 M_bSh_h60  rfl rfl rfl rfl (by omega) (by omega) (by omega) (by omega) (by omega) (by omega) (by omega) (by omega) (by omega) (by omega) (by omega) (by omega) (by omega) (by omega) (by omega) (by omega) (by omega) (by omega) (by omega) (by omega) (by omega) (by omega) (by omega) (by omega) (by omega) (by omega) (by omega) (by omega) (by omega) (by omega) (by omega) (by omega) (by omega) (by omega) (by omega)) (ySub.cons rfl (ySub.cons rfl (ySub.cons rfl (ySub.cons rfl (ySub.cons rfl (ySub.nil))))))) (by omega)
            · have c41 : (z39 : Int) ≥ gg3 := c41
              refine yG.iinc rfl (a := 1) rfl (L' := [(3, yI (1 + (-1))), (6, yI (z39)), (0, yR k0), (2, yI (a2)), (4, yI (a4)), (5, yI (a5))]) rfl ?_
              refine yG.load xik rfl (fun _ _ => rfl) (v := yI (1 + (-1))) rfl rfl ?_
              refine yG.ifz rfl (t := 70) rfl ⟨by omega, by omega⟩ (fun c61 => ?_) (fun c61 => ?_)
              · have c61 : (1 + (-1) : Int) ≥ 0 := c61
                refine yG.load xik rfl (fun _ _ => rfl) (v := yI (a4)) rfl rfl ?_
                refine yG.num (c := 1) rfl (fun _ _ => rfl) (by decide) ?_
                refine yG.load xak rfl (fun _ _ => rfl) (v := yR k0) rfl rfl ?_
                refine yG.getS9 A_h38.1 (w_Rules_choice W H_k0) qq5 rfl rfl ?_
                refine yG.load xik rfl (fun _ _ => rfl) (v := yI (1 + (-1))) rfl rfl ?_
                rw [show (1 + (-1) : Int) = 0 by omega]
                refine yG.iald A_h38.1 (v_Rules_choice W H_n1) rfl (by omega) (by omega) (fun z62 e_z62 i_z62 l_z62 u_z62 => ?_)
                rw [show (z62 : Int) = gg0 by omega]
                refine yG.bit32 rfl (fun _ _ => rfl) (fun z63 e_z63 l_z63 u_z63 => ?_)
                have b_z63 : 1 ≤ z63 ∧ z63 ≤ 128 := by rw [e_z63]; exact bshl1 (by omega) (by omega)
                refine yG.num (c := -1) rfl (fun _ _ => rfl) (by decide) ?_
                refine yG.bit32 rfl (fun _ _ => rfl) (fun z64 e_z64 l_z64 u_z64 => ?_)
                refine yG.bit32 rfl (fun _ _ => rfl) (fun z65 e_z65 l_z65 u_z65 => ?_)
                have b_z65 : 0 ≤ z65 ∧ z65 ≤ a4 := by rw [e_z65]; exact biandl ⟨by omega, by omega⟩ (by omega)
                refine yG.store1 xik (L' := [(4, yI (z65)), (3, yI (1 + (-1))), (6, yI (z39)), (0, yR k0), (2, yI (a2)), (5, yI (a5))]) rfl (fun _ _ => rfl) rfl rfl ?_
                refine yG.goto rfl (t := 164) rfl ?_
                refine yG.iinc rfl (a := a5) rfl (L' := [(5, yI (a5 + 1)), (4, yI (z65)), (3, yI (1 + (-1))), (6, yI (z39)), (0, yR k0), (2, yI (a2))]) rfl ?_
                refine yG.goto rfl (t := 21) rfl ?_
                exact yG.mono (yG.sub (i_21 (a2) (1 + (-1)) (z65) (a5 + 1) (ys h38 n1 (0 : Int).toNat) (ys h38 n1 (1 : Int).toNat) (ys h38 n1 (2 : Int).toNat) (ys h38 k0 14) h38 A_h38 M_bSh_h38  rfl rfl rfl rfl (by omega) (by omega) (by omega) (by omega) (by omega) (by omega) (by omega) (by omega) (by omega) (by omega) (by omega) (by omega) (by omega) (by omega) (by omega) (by omega) (by omega) (by omega) (by omega) (by omega) (by omega) (by omega) (by omega) (by omega) (by omega) (by omega) (by omega) (by omega) (by omega) (by omega) (by omega) (by omega) (by omega) (by omega) (by omega)) (ySub.cons rfl (ySub.cons rfl (ySub.cons rfl (ySub.cons rfl (ySub.cons rfl (ySub.nil))))))) (by omega)
              · have c61 : (1 + (-1) : Int) < 0 := c61
                exfalso; omega
      · subst c1
        refine yG.load xik rfl (fun _ _ => rfl) (v := yI (a5)) rfl rfl ?_
        refine yG.num (c := 1000000) rfl (fun _ _ => rfl) (by decide) ?_
        refine yG.icmp rfl (t := 170) rfl ⟨by omega, by omega⟩ ⟨by omega, by omega⟩ (fun c66 => ?_) (fun c66 => ?_)
        · have c66 : (a5 : Int) ≥ 1000000 := c66
          refine yG.load xak rfl (fun _ _ => rfl) (v := yR k0) rfl rfl ?_
          refine yG.getI A_hq.1 (w_Rules_foundCount W H_k0) rfl rfl (fun z67 e_z67 i_z67 l_z67 u_z67 => ?_)
          refine yG.ret rfl (fun _ _ => rfl) ?_
          exact (yP.int ⟨by omega, by omega⟩ ⟨⟨⟨z67, rfl, by omega, by omega, trivial⟩, A_hq⟩, M_bSh_hq⟩)
        · have c66 : (a5 : Int) < 1000000 := c66
          refine yG.load xik rfl (fun _ _ => rfl) (v := yI (2)) rfl rfl ?_
          refine yG.ifz rfl (t := 170) rfl ⟨by omega, by omega⟩ (fun c68 => ?_) (fun c68 => ?_)
          · have c68 : (2 : Int) < 0 := c68
            exfalso; omega
          · have c68 : (2 : Int) ≥ 0 := c68
            refine yG.load xak rfl (fun _ _ => rfl) (v := yR k0) rfl rfl ?_
            refine yG.getS9 A_hq.1 (w_Rules_choice W H_k0) Q_n1 rfl rfl ?_
            refine yG.load xik rfl (fun _ _ => rfl) (v := yI (2)) rfl rfl ?_
            refine yG.step (pc' := 38) (stk' := [yI (2), yR n1, yI (2), yR n1]) rfl (fun _ _ => rfl) ?_
            refine yG.iald A_hq.1 (v_Rules_choice W H_n1) rfl (by omega) (by omega) (fun z69 e_z69 i_z69 l_z69 u_z69 => ?_)
            rw [show (z69 : Int) = gg2 by omega]
            refine yG.num (c := 1) rfl (fun _ _ => rfl) (by decide) ?_
            refine yG.iadd rfl ?_
            refine yG.iast A_hq.1 (v_Rules_choice W H_n1) (W.2.1 _ _ H_n1 (by decide) (by decide)) rfl (by omega) (by omega) ⟨by omega, by omega⟩ (by omega) (by omega) (fun h70 T_h70 b_h70 f_h70 y_h70 => ?_)
            have M_bSh_h70 := M_bSh_hq.fr (bAx.put (Wl := [(5192296858534827628530496329220096, 256)]) (bAx.rf A_hq.1) T_h70 b_h70 f_h70 H_n1 (bAll_ok (by decide) _)) (by decide)
            have A_h70 := A_hq.put T_h70 b_h70 f_h70 H_n1 (bAll_ok (by decide) _)
            have : ys h70 n1 (0 : Int).toNat = ys hq n1 (0 : Int).toNat := (y_h70 n1 (0 : Int).toNat).trans (if_neg (fun e => absurd e.2 (by decide)))
            have : ys h70 n1 (1 : Int).toNat = ys hq n1 (1 : Int).toNat := (y_h70 n1 (1 : Int).toNat).trans (if_neg (fun e => absurd e.2 (by decide)))
            have : ys h70 k0 14 = ys hq k0 14 := (y_h70 k0 14).trans (if_neg (fun e => (bRo.ne H_k0 H_n1 (by decide)) e.1))
            have qq9 : zsl h70 k0 15 = yR n1 := ((f_h70 k0 15).trans (if_neg (fun e => (bRo.ne H_k0 H_n1 (by decide)) e.1))).trans Q_n1
            have : ys h70 n1 (2 : Int).toNat = gg2 + 1 := (y_h70 n1 _).trans (if_pos ⟨rfl, rfl⟩)
            refine yG.load xak rfl (fun _ _ => rfl) (v := yR k0) rfl rfl ?_
            refine yG.getS9 A_h70.1 (w_Rules_choice W H_k0) qq9 rfl rfl ?_
            refine yG.load xik rfl (fun _ _ => rfl) (v := yI (2)) rfl rfl ?_
            refine yG.iald A_h70.1 (v_Rules_choice W H_n1) rfl (by omega) (by omega) (fun z71 e_z71 i_z71 l_z71 u_z71 => ?_)
            refine yG.store1 xik (L' := [(6, yI (z71)), (0, yR k0), (2, yI (a2)), (3, yI (2)), (4, yI (a4)), (5, yI (a5))]) rfl (fun _ _ => rfl) rfl rfl ?_
            refine yG.load xik rfl (fun _ _ => rfl) (v := yI (z71)) rfl rfl ?_
            refine yG.load xak rfl (fun _ _ => rfl) (v := yR k0) rfl rfl ?_
            refine yG.getI A_h70.1 (w_Rules_triedCount W H_k0) rfl rfl (fun z72 e_z72 i_z72 l_z72 u_z72 => ?_)
            rw [show (z72 : Int) = gg3 by omega]
            refine yG.icmp rfl (t := 88) rfl ⟨by omega, by omega⟩ ⟨by omega, by omega⟩ (fun c73 => ?_) (fun c73 => ?_)
            · have c73 : (z71 : Int) < gg3 := c73
              refine yG.load xik rfl (fun _ _ => rfl) (v := yI (a4)) rfl rfl ?_
              refine yG.load xik rfl (fun _ _ => rfl) (v := yI (z71)) rfl rfl ?_
              refine yG.bit32 rfl (fun _ _ => rfl) (fun z74 e_z74 l_z74 u_z74 => ?_)
              refine yG.num (c := 1) rfl (fun _ _ => rfl) (by decide) ?_
              refine yG.bit32 rfl (fun _ _ => rfl) (fun z75 e_z75 l_z75 u_z75 => ?_)
              have b_z75 : 0 ≤ z75 ∧ z75 ≤ 1 := by rw [e_z75]; exact yiand ⟨by decide, by decide⟩ (by decide)
              refine yG.ifz rfl (t := 164) rfl ⟨by omega, by omega⟩ (fun c76 => ?_) (fun c76 => ?_)
              · have c76 : (z75 : Int) ≠ 0 := c76
                refine yG.iinc rfl (a := a5) rfl (L' := [(5, yI (a5 + 1)), (6, yI (z71)), (0, yR k0), (2, yI (a2)), (3, yI (2)), (4, yI (a4))]) rfl ?_
                refine yG.goto rfl (t := 21) rfl ?_
                exact yG.mono (yG.sub (i_21 (a2) (2) (a4) (a5 + 1) (ys h70 n1 (0 : Int).toNat) (ys h70 n1 (1 : Int).toNat) (ys h70 n1 (2 : Int).toNat) (ys h70 k0 14) h70 A_h70 M_bSh_h70  rfl rfl rfl rfl (by omega) (by omega) (by omega) (by omega) (by omega) (by omega) (by omega) (by omega) (by omega) (by omega) (by omega) (by omega) (by omega) (by omega) (by omega) (by omega) (by omega) (by omega) (by omega) (by omega) (by omega) (by omega) (by omega) (by omega) (by omega) (by omega) (by omega) (by omega) (by omega) (by omega) (by omega) (by omega) (by omega) (by omega) (by omega)) (ySub.cons rfl (ySub.cons rfl (ySub.cons rfl (ySub.cons rfl (ySub.cons rfl (ySub.nil))))))) (by omega)
              · have c76 : (z75 : Int) = 0 := c76
                refine yG.load xak rfl (fun _ _ => rfl) (v := yR k0) rfl rfl ?_
                refine yG.load xik rfl (fun _ _ => rfl) (v := yI (2)) rfl rfl ?_
                refine yG.load xak rfl (fun _ _ => rfl) (v := yR k0) rfl rfl ?_
                refine yG.getO A_h70.1 (w_Rules_tried W H_k0) rfl rfl (fun r77 H_r77 O_r77 q_r77 => ?_)
                refine yG.load xik rfl (fun _ _ => rfl) (v := yI (z71)) rfl rfl ?_
                refine yG.iald A_h70.1 (v_Rules_tried W H_r77) rfl (by omega) (by omega) (fun z78 e_z78 i_z78 l_z78 u_z78 => ?_)
                refine yG.load xik rfl (fun _ _ => rfl) (v := yI (a4)) rfl rfl ?_
                refine yG.num (c := 1) rfl (fun _ _ => rfl) (by decide) ?_
                refine yG.load xik rfl (fun _ _ => rfl) (v := yI (z71)) rfl rfl ?_
                refine yG.bit32 rfl (fun _ _ => rfl) (fun z79 e_z79 l_z79 u_z79 => ?_)
                have b_z79 : 1 ≤ z79 ∧ z79 ≤ 128 := by rw [e_z79]; exact bshl1 (by omega) (by omega)
                refine yG.bit32 rfl (fun _ _ => rfl) (fun z80 e_z80 l_z80 u_z80 => ?_)
                have b_z80 : 0 ≤ z80 ∧ z80 < ((2 ^ 8 : Nat) : Int) := by rw [e_z80]; exact bior (by omega) (by omega) (by omega) (by omega) (by decide)
                refine yG.invV (rest := []) A_h70.1 (bOb (d_Rules W) H_k0) rfl rfl rfl rfl (c_Rules_isFree W d A_h70.1 M_bSh_h70 (M_bCd.fr A_h70 (by decide)) H_k0 (2) (z78) (z80) (by omega) (by omega) (by omega) (by omega) (by omega) (by omega)) (fun rv h81 q9 => ?_)
                obtain ⟨q9, M_bSh_h81⟩ := q9
                obtain ⟨⟨z82, rfl, l_z82, u_z82, R_z82⟩, B_h81⟩ := q9
                have A_h81 := A_h70.tr B_h81 (by decide)
                have : ys h81 n1 (0 : Int).toNat = ys h70 n1 (0 : Int).toNat := B_h81.ys H_n1 (bNo_ok (by decide) _)
                have : ys h81 n1 (1 : Int).toNat = ys h70 n1 (1 : Int).toNat := B_h81.ys H_n1 (bNo_ok (by decide) _)
                have : ys h81 k0 14 = ys h70 k0 14 := B_h81.ys H_k0 (by decide)
                have qq10 : zsl h81 k0 15 = yR n1 := (B_h81.sl H_k0 (by decide)).trans qq9
                have : ys h81 n1 (2 : Int).toNat = ys h70 n1 (2 : Int).toNat := B_h81.ys H_n1 (bNo_ok (by decide) _)
                show yG _ _ _ _ _ _ _ _ _ _ (yI z82 :: []) _
                refine yG.ifz rfl (t := 164) rfl ⟨by omega, by omega⟩ (fun c83 => ?_) (fun c83 => ?_)
                · have c83 : (z82 : Int) = 0 := c83
                  refine yG.iinc rfl (a := a5) rfl (L' := [(5, yI (a5 + 1)), (6, yI (z71)), (0, yR k0), (2, yI (a2)), (3, yI (2)), (4, yI (a4))]) rfl ?_
                  refine yG.goto rfl (t := 21) rfl ?_
                  exact yG.mono (yG.sub (i_21 (a2) (2) (a4) (a5 + 1) (ys h81 n1 (0 : Int).toNat) (ys h81 n1 (1 : Int).toNat) (ys h81 n1 (2 : Int).toNat) (ys h81 k0 14) h81 A_h81 M_bSh_h81  rfl rfl rfl rfl (by omega) (by omega) (by omega) (by omega) (by omega) (by omega) (by omega) (by omega) (by omega) (by omega) (by omega) (by omega) (by omega) (by omega) (by omega) (by omega) (by omega) (by omega) (by omega) (by omega) (by omega) (by omega) (by omega) (by omega) (by omega) (by omega) (by omega) (by omega) (by omega) (by omega) (by omega) (by omega) (by omega) (by omega) (by omega)) (ySub.cons rfl (ySub.cons rfl (ySub.cons rfl (ySub.cons rfl (ySub.cons rfl (ySub.nil))))))) (by omega)
                · have c83 : (z82 : Int) ≠ 0 := c83
                  refine yG.load xak rfl (fun _ _ => rfl) (v := yR k0) rfl rfl ?_
                  refine yG.load xik rfl (fun _ _ => rfl) (v := yI (2)) rfl rfl ?_
                  refine yG.num (c := 1) rfl (fun _ _ => rfl) (by decide) ?_
                  refine yG.iadd rfl ?_
                  refine yG.load xak rfl (fun _ _ => rfl) (v := yR k0) rfl rfl ?_
                  refine yG.getO A_h81.1 (w_Rules_stages W H_k0) rfl rfl (fun r84 H_r84 O_r84 q_r84 => ?_)
                  refine yG.load xik rfl (fun _ _ => rfl) (v := yI (2)) rfl rfl ?_
                  refine yG.num (c := 1) rfl (fun _ _ => rfl) (by decide) ?_
                  refine yG.iadd rfl ?_
                  refine yG.aaldO (r := 115) A_h81.1 (v_Rules_stages W H_r84) rfl rfl rfl (by omega) (by omega) (fun r85 H_r85 q_r85 => ?_)
                  refine yG.getI A_h81.1 (w_FlowS_lost W H_r85) rfl rfl (fun z86 e_z86 i_z86 l_z86 u_z86 => ?_)
                  rw [show (2 + 1 : Int) = 3 by omega]
                  refine yG.invV (rest := []) A_h81.1 (bOb (d_Rules W) H_k0) rfl rfl rfl rfl (c_Rules_weigh_3 W (d + 6) A_h81.1 H_k0 H_n1 qq10 (z86) (by omega) (by omega) (by omega) (by omega) (by omega) (by omega) (by omega) (by omega)) (fun rv h87 q9 => ?_)
                  obtain ⟨⟨rfl, R_z88⟩, B_h87⟩ := q9
                  have A_h87 := A_h81.tr B_h87 (by decide)
                  have M_bSh_h87 := M_bSh_h81.fr B_h87 (by decide)
                  have : ys h87 n1 (0 : Int).toNat = ys h81 n1 (0 : Int).toNat := B_h87.ys H_n1 (bNo_ok (by decide) _)
                  have : ys h87 n1 (1 : Int).toNat = ys h81 n1 (1 : Int).toNat := B_h87.ys H_n1 (bNo_ok (by decide) _)
                  have : ys h87 k0 14 = ys h81 k0 14 := B_h87.ys H_k0 (by decide)
                  have qq11 : zsl h87 k0 15 = yR n1 := (B_h87.sl H_k0 (by decide)).trans qq10
                  have : ys h87 n1 (2 : Int).toNat = ys h81 n1 (2 : Int).toNat := B_h87.ys H_n1 (bNo_ok (by decide) _)
                  show yG _ _ _ _ _ _ _ _ _ _ [] _
                  refine yG.load xik rfl (fun _ _ => rfl) (v := yI (2)) rfl rfl ?_
                  refine yG.num (c := 1) rfl (fun _ _ => rfl) (by decide) ?_
                  refine yG.iadd rfl ?_
                  refine yG.load xik rfl (fun _ _ => rfl) (v := yI (a2)) rfl rfl ?_
                  refine yG.icmp rfl (t := 164) rfl ⟨by omega, by omega⟩ ⟨by omega, by omega⟩ (fun c89 => ?_) (fun c89 => ?_)
                  · have c89 : (2 + 1 : Int) ≥ a2 := c89
                    refine yG.iinc rfl (a := a5) rfl (L' := [(5, yI (a5 + 1)), (6, yI (z71)), (0, yR k0), (2, yI (a2)), (3, yI (2)), (4, yI (a4))]) rfl ?_
                    refine yG.goto rfl (t := 21) rfl ?_
                    exact yG.mono (yG.sub (i_21 (a2) (2) (a4) (a5 + 1) (ys h87 n1 (0 : Int).toNat) (ys h87 n1 (1 : Int).toNat) (ys h87 n1 (2 : Int).toNat) (ys h87 k0 14) h87 A_h87 M_bSh_h87  rfl rfl rfl rfl (by omega) (by omega) (by omega) (by omega) (by omega) (by omega) (by omega) (by omega) (by omega) (by omega) (by omega) (by omega) (by omega) (by omega) (by omega) (by omega) (by omega) (by omega) (by omega) (by omega) (by omega) (by omega) (by omega) (by omega) (by omega) (by omega) (by omega) (by omega) (by omega) (by omega) (by omega) (by omega) (by omega) (by omega) (by omega)) (ySub.cons rfl (ySub.cons rfl (ySub.cons rfl (ySub.cons rfl (ySub.cons rfl (ySub.nil))))))) (by omega)
                  · have c89 : (2 + 1 : Int) < a2 := c89
                    exfalso; omega
            · have c73 : (z71 : Int) ≥ gg3 := c73
              refine yG.iinc rfl (a := 2) rfl (L' := [(3, yI (2 + (-1))), (6, yI (z71)), (0, yR k0), (2, yI (a2)), (4, yI (a4)), (5, yI (a5))]) rfl ?_
              refine yG.load xik rfl (fun _ _ => rfl) (v := yI (2 + (-1))) rfl rfl ?_
              refine yG.ifz rfl (t := 70) rfl ⟨by omega, by omega⟩ (fun c90 => ?_) (fun c90 => ?_)
              · have c90 : (2 + (-1) : Int) ≥ 0 := c90
                refine yG.load xik rfl (fun _ _ => rfl) (v := yI (a4)) rfl rfl ?_
                refine yG.num (c := 1) rfl (fun _ _ => rfl) (by decide) ?_
                refine yG.load xak rfl (fun _ _ => rfl) (v := yR k0) rfl rfl ?_
                refine yG.getS9 A_h70.1 (w_Rules_choice W H_k0) qq9 rfl rfl ?_
                refine yG.load xik rfl (fun _ _ => rfl) (v := yI (2 + (-1))) rfl rfl ?_
                rw [show (2 + (-1) : Int) = 1 by omega]
                refine yG.iald A_h70.1 (v_Rules_choice W H_n1) rfl (by omega) (by omega) (fun z91 e_z91 i_z91 l_z91 u_z91 => ?_)
                rw [show (z91 : Int) = gg1 by omega]
                refine yG.bit32 rfl (fun _ _ => rfl) (fun z92 e_z92 l_z92 u_z92 => ?_)
                have b_z92 : 1 ≤ z92 ∧ z92 ≤ 128 := by rw [e_z92]; exact bshl1 (by omega) (by omega)
                refine yG.num (c := -1) rfl (fun _ _ => rfl) (by decide) ?_
                refine yG.bit32 rfl (fun _ _ => rfl) (fun z93 e_z93 l_z93 u_z93 => ?_)
                refine yG.bit32 rfl (fun _ _ => rfl) (fun z94 e_z94 l_z94 u_z94 => ?_)
                have b_z94 : 0 ≤ z94 ∧ z94 ≤ a4 := by rw [e_z94]; exact biandl ⟨by omega, by omega⟩ (by omega)
                refine yG.store1 xik (L' := [(4, yI (z94)), (3, yI (2 + (-1))), (6, yI (z71)), (0, yR k0), (2, yI (a2)), (5, yI (a5))]) rfl (fun _ _ => rfl) rfl rfl ?_
                refine yG.goto rfl (t := 164) rfl ?_
                refine yG.iinc rfl (a := a5) rfl (L' := [(5, yI (a5 + 1)), (4, yI (z94)), (3, yI (2 + (-1))), (6, yI (z71)), (0, yR k0), (2, yI (a2))]) rfl ?_
                refine yG.goto rfl (t := 21) rfl ?_
                exact yG.mono (yG.sub (i_21 (a2) (2 + (-1)) (z94) (a5 + 1) (ys h70 n1 (0 : Int).toNat) (ys h70 n1 (1 : Int).toNat) (ys h70 n1 (2 : Int).toNat) (ys h70 k0 14) h70 A_h70 M_bSh_h70  rfl rfl rfl rfl (by omega) (by omega) (by omega) (by omega) (by omega) (by omega) (by omega) (by omega) (by omega) (by omega) (by omega) (by omega) (by omega) (by omega) (by omega) (by omega) (by omega) (by omega) (by omega) (by omega) (by omega) (by omega) (by omega) (by omega) (by omega) (by omega) (by omega) (by omega) (by omega) (by omega) (by omega) (by omega) (by omega) (by omega) (by omega)) (ySub.cons rfl (ySub.cons rfl (ySub.cons rfl (ySub.cons rfl (ySub.cons rfl (ySub.nil))))))) (by omega)
              · have c90 : (2 + (-1) : Int) < 0 := c90
                exfalso; omega
  refine yC.of (M := (xt_X7_bringBack, (7, (1, (8, []))))) rfl rfl (N := 148000296) (yfuel (by decide)) ?_
  show yG 89 xfts (xcall 89 xfts xpools xms (d + 7)) (xpool xp_RX7) [] xt_X7_bringBack (yP 1 (fun rv hp' => (bQi G [(34359738368, 1), (1133871366144, 2), (1099511889920, 3), (262144, 4), (262144, 5), (1099511889920, 6), (1099511889920, 7), (1099511627776, 8), (2251799813685248, 9), (2251799813685248, 10), (41538374868278621030495770447446016, 11), (41538374868278621028243970633760768, 12), (41538374868278621028243970633760768, 13), (41538374868278621028243970633760768, 14), (41538374868278621028243970633760768, 15), (162259276829213363391578010288128, 17), (162259276829213363391578010288128, 19), (36346078009743795629538521607831552, 256)] hp 0 4 (fun _ => True)) rv hp' ∧ bSh G hp')) 148000296 0 [(0, yR k0), (1, yI (p1))] [] hp
  have i_21 := H 2000003
  obtain ⟨gg0, E_0⟩ : ∃ z : Int, ys hp n1 (0 : Int).toNat = z := ⟨_, rfl⟩
  obtain ⟨-, -, g_0l, g_0u⟩ := (v_Rules_choice W H_n1).int hT (j := (0 : Int).toNat) (by decide)
  obtain ⟨gg1, E_1⟩ : ∃ z : Int, ys hp n1 (1 : Int).toNat = z := ⟨_, rfl⟩
  obtain ⟨-, -, g_1l, g_1u⟩ := (v_Rules_choice W H_n1).int hT (j := (1 : Int).toNat) (by decide)
  obtain ⟨gg2, E_2⟩ : ∃ z : Int, ys hp n1 (2 : Int).toNat = z := ⟨_, rfl⟩
  obtain ⟨-, -, g_2l, g_2u⟩ := (v_Rules_choice W H_n1).int hT (j := (2 : Int).toNat) (by decide)
  obtain ⟨gg3, E_3⟩ : ∃ z : Int, ys hp k0 14 = z := ⟨_, rfl⟩
  obtain ⟨-, -, g_3l, g_3u⟩ := (w_Rules_triedCount W H_k0).int hT
  refine yG.load xik rfl (fun _ _ => rfl) (v := yI (p1)) rfl rfl ?_
  refine yG.num (c := 3) rfl (fun _ _ => rfl) (by decide) ?_
  refine yG.invS (rest := []) rfl rfl rfl rfl (c_J9_minI W (d + 6) A_hp.1 (p1) (3) (by omega) (by omega) (by omega) (by omega)) (fun rv hp9 q9 => ?_)
  obtain ⟨⟨z1, rfl, l_z1, u_z1, R_z1⟩, e9⟩ := q9
  rw [e9]
  show yG _ _ _ _ _ _ _ _ _ _ (yI z1 :: []) _
  refine yG.store1 xik (L' := [(2, yI (z1)), (0, yR k0), (1, yI (p1))]) rfl (fun _ _ => rfl) rfl rfl ?_
  refine yG.num (c := 0) rfl (fun _ _ => rfl) (by decide) ?_
  refine yG.store1 xik (L' := [(3, yI (0)), (2, yI (z1)), (0, yR k0), (1, yI (p1))]) rfl (fun _ _ => rfl) rfl rfl ?_
  refine yG.num (c := 0) rfl (fun _ _ => rfl) (by decide) ?_
  refine yG.store1 xik (L' := [(4, yI (0)), (3, yI (0)), (2, yI (z1)), (0, yR k0), (1, yI (p1))]) rfl (fun _ _ => rfl) rfl rfl ?_
  refine yG.load xak rfl (fun _ _ => rfl) (v := yR k0) rfl rfl ?_
  refine yG.getS9 A_hp.1 (w_Rules_choice W H_k0) Q_n1 rfl rfl ?_
  refine yG.num (c := 0) rfl (fun _ _ => rfl) (by decide) ?_
  refine yG.num (c := -1) rfl (fun _ _ => rfl) (by decide) ?_
  refine yG.iast A_hp.1 (v_Rules_choice W H_n1) (W.2.1 _ _ H_n1 (by decide) (by decide)) rfl (by omega) (by omega) ⟨by omega, by omega⟩ (by omega) (by omega) (fun h2 T_h2 b_h2 f_h2 y_h2 => ?_)
  have M_bSh_h2 := M_bSh_hp.fr (bAx.put (Wl := [(5192296858534827628530496329220096, 256)]) (bAx.rf A_hp.1) T_h2 b_h2 f_h2 H_n1 (bAll_ok (by decide) _)) (by decide)
  have A_h2 := A_hp.put T_h2 b_h2 f_h2 H_n1 (bAll_ok (by decide) _)
  have : ys h2 n1 (1 : Int).toNat = ys hp n1 (1 : Int).toNat := (y_h2 n1 (1 : Int).toNat).trans (if_neg (fun e => absurd e.2 (by decide)))
  have : ys h2 n1 (2 : Int).toNat = ys hp n1 (2 : Int).toNat := (y_h2 n1 (2 : Int).toNat).trans (if_neg (fun e => absurd e.2 (by decide)))
  have : ys h2 k0 14 = ys hp k0 14 := (y_h2 k0 14).trans (if_neg (fun e => (bRo.ne H_k0 H_n1 (by decide)) e.1))
  have qq1 : zsl h2 k0 15 = yR n1 := ((f_h2 k0 15).trans (if_neg (fun e => (bRo.ne H_k0 H_n1 (by decide)) e.1))).trans Q_n1
  have : ys h2 n1 (0 : Int).toNat = (-1) := (y_h2 n1 _).trans (if_pos ⟨rfl, rfl⟩)
  refine yG.num (c := 0) rfl (fun _ _ => rfl) (by decide) ?_
  refine yG.store1 xik (L' := [(5, yI (0)), (4, yI (0)), (3, yI (0)), (2, yI (z1)), (0, yR k0), (1, yI (p1))]) rfl (fun _ _ => rfl) rfl rfl ?_
  exact yG.mono (yG.sub (i_21 (z1) (0) (0) (0) (ys h2 n1 (0 : Int).toNat) (ys h2 n1 (1 : Int).toNat) (ys h2 n1 (2 : Int).toNat) (ys h2 k0 14) h2 A_h2 M_bSh_h2  rfl rfl rfl rfl (by omega) (by omega) (by omega) (by omega) (by omega) (by omega) (by omega) (by omega) (by omega) (by omega) (by omega) (by omega) (by omega) (by omega) (by omega) (by omega) (by omega) (by omega) (by omega) (by omega) (by omega) (by omega) (by omega) (by omega) (by omega) (by omega) (by omega) (by omega) (by omega) (by omega) (by omega) (by omega) (by omega) (by omega) (by omega)) (ySub.cons rfl (ySub.cons rfl (ySub.cons rfl (ySub.cons rfl (ySub.cons rfl (ySub.nil))))))) (by omega)
end BOrders
