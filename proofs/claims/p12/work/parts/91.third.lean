/-! ===== the reference: a third lot, printed by a program ===== -/
section YThird
variable {G : zW}
theorem a_joinParts {hp : xH} (W : yWW G) (d : Nat) (hT : zTy G hp) (p1 p2 : Int) (h1l : 0 ≤ p1) (h1u : p1 ≤ 19) (h2l : 1 ≤ p2) (h2u : p2 ≤ 2) (q11l : 1 ≤ ys hp 2073 11) (q11u : ys hp 2073 11 ≤ 2147483647) : yC (xcall 89 xfts xpools xms (d + 4)) 441 [yR 2073, yI (p1), yI (p2)] hp (yQj G [] [2083] hp 0 2147483646) := by
  have A_hp : yAx G [] [2083] hp hp := yAx.rf hT
  refine yC.of (M := (xt_X13_joinParts, (11, (2, (14, []))))) rfl rfl (N := 249) (yfuel (by decide)) ?_
  show yG 89 xfts (xcall 89 xfts xpools xms (d + 3)) (xpool xp_RX13) [] xt_X13_joinParts (yP 2 (yQj G [] [2083] hp 0 2147483646)) 249 0 [(0, yR 2073), (1, yI (p1)), (2, yI (p2))] [] hp
  obtain ⟨gg11, E_11⟩ : ∃ z : Int, ys hp 2073 11 = z := ⟨_, rfl⟩
  obtain ⟨-, -, r_11l, r_11u⟩ := (w_p W).long hT
  refine yG.load xak rfl (fun _ _ => rfl) (v := yR 2073) rfl rfl ?_
  refine yG.getR A_hp.1 (r_placeOf W) rfl rfl ?_
  refine yG.load xak rfl (fun _ _ => rfl) (v := yR 2073) rfl rfl ?_
  refine yG.load xik rfl (fun _ _ => rfl) (v := yI (p1)) rfl rfl ?_
  refine yG.num (c := 0) rfl (fun _ _ => rfl) (by decide) ?_
  refine yG.invV (rest := [yR 2104]) A_hp.1 W.m.1 rfl rfl rfl rfl (a_nodeOfLine W d A_hp.1 (p1) (0) (by omega) (by omega) (by omega) (by omega)) (fun rv hp9 q9 => ?_)
  obtain ⟨⟨z1, rfl, l_z1, u_z1⟩, e9⟩ := q9
  rw [e9]
  show yG _ _ _ _ _ _ _ _ _ _ (yI z1 :: [yR 2104]) _
  refine yG.iald A_hp.1 (v_placeOf W) rfl (by omega) (by omega) (fun z2 e_z2 i_z2 l_z2 u_z2 => ?_)
  refine yG.num (c := 1) rfl (fun _ _ => rfl) (by decide) ?_
  refine yG.iadd rfl ?_
  obtain ⟨z3, e_z3⟩ : ∃ z : Int, z = z2 + 1 := ⟨_, rfl⟩
  rw [← e_z3]
  refine yG.store1 xik (L' := [(3, yI (z3)), (0, yR 2073), (1, yI (p1)), (2, yI (p2))]) rfl (fun _ _ => rfl) rfl rfl ?_
  refine yG.load xak rfl (fun _ _ => rfl) (v := yR 2073) rfl rfl ?_
  refine yG.getR A_hp.1 (r_placeOf W) rfl rfl ?_
  refine yG.load xak rfl (fun _ _ => rfl) (v := yR 2073) rfl rfl ?_
  refine yG.load xik rfl (fun _ _ => rfl) (v := yI (p1)) rfl rfl ?_
  refine yG.num (c := 1) rfl (fun _ _ => rfl) (by decide) ?_
  refine yG.invV (rest := [yR 2104]) A_hp.1 W.m.1 rfl rfl rfl rfl (a_nodeOfLine W d A_hp.1 (p1) (1) (by omega) (by omega) (by omega) (by omega)) (fun rv hp9 q9 => ?_)
  obtain ⟨⟨z4, rfl, l_z4, u_z4⟩, e9⟩ := q9
  rw [e9]
  show yG _ _ _ _ _ _ _ _ _ _ (yI z4 :: [yR 2104]) _
  refine yG.iald A_hp.1 (v_placeOf W) rfl (by omega) (by omega) (fun z5 e_z5 i_z5 l_z5 u_z5 => ?_)
  refine yG.num (c := 1) rfl (fun _ _ => rfl) (by decide) ?_
  refine yG.iadd rfl ?_
  obtain ⟨z6, e_z6⟩ : ∃ z : Int, z = z5 + 1 := ⟨_, rfl⟩
  rw [← e_z6]
  refine yG.store1 xik (L' := [(4, yI (z6)), (3, yI (z3)), (0, yR 2073), (1, yI (p1)), (2, yI (p2))]) rfl (fun _ _ => rfl) rfl rfl ?_
  refine yG.load xak rfl (fun _ _ => rfl) (v := yR 2073) rfl rfl ?_
  refine yG.num (c := 2) rfl (fun _ _ => rfl) (by decide) ?_
  refine yG.load xik rfl (fun _ _ => rfl) (v := yI (p1)) rfl rfl ?_
  refine yG.load xik rfl (fun _ _ => rfl) (v := yI (p2)) rfl rfl ?_
  refine yG.invV (rest := []) A_hp.1 W.m.1 rfl rfl rfl rfl (a_of_any W (d + 1) A_hp.1 (2) (p1) (p2) (by omega) (by omega) (by omega) (by omega) (by omega) (by omega)) (fun rv hp9 q9 => ?_)
  obtain ⟨⟨z7, rfl, l_z7, u_z7⟩, e9⟩ := q9
  rw [e9]
  show yG _ _ _ _ _ _ _ _ _ _ (yI z7 :: []) _
  refine yG.i2l rfl ⟨by omega, by omega⟩ ?_
  refine yG.store2 xlk2 (L' := [(5, yJ (z7)), (4, yI (z6)), (3, yI (z3)), (0, yR 2073), (1, yI (p1)), (2, yI (p2))]) rfl (fun _ _ => rfl) rfl rfl ?_
  refine yG.load xak rfl (fun _ _ => rfl) (v := yR 2073) rfl rfl ?_
  refine yG.getI A_hp.1 (w_isOnLine W) rfl rfl (fun z8 e_z8 i_z8 l_z8 u_z8 => ?_)
  refine yG.ifz rfl (t := 137) rfl ⟨by omega, by omega⟩ (fun c9 => ?_) (fun c9 => ?_)
  · have c9 : (z8 : Int) = 0 := c9
    refine yG.load xik rfl (fun _ _ => rfl) (v := yI (z3)) rfl rfl ?_
    refine yG.load xik rfl (fun _ _ => rfl) (v := yI (z6)) rfl rfl ?_
    refine yG.icmp rfl (t := 159) rfl ⟨by omega, by omega⟩ ⟨by omega, by omega⟩ (fun c10 => ?_) (fun c10 => ?_)
    · have c10 : (z3 : Int) = z6 := c10
      refine yG.numl (c := 1) rfl (fun _ _ => rfl) (by decide) ?_
      refine yG.ret rfl (fun _ _ => rfl) ?_
      exact yP.long ⟨by omega, by omega⟩ ⟨⟨1, rfl, by omega, by omega⟩, A_hp⟩
    · have c10 : (z3 : Int) ≠ z6 := c10
      refine yG.load xak rfl (fun _ _ => rfl) (v := yR 2073) rfl rfl ?_
      refine yG.load xik rfl (fun _ _ => rfl) (v := yI (z3)) rfl rfl ?_
      refine yG.load xik rfl (fun _ _ => rfl) (v := yI (z6)) rfl rfl ?_
      refine yG.load xak rfl (fun _ _ => rfl) (v := yR 2073) rfl rfl ?_
      refine yG.load xlk2 rfl (fun _ _ => rfl) (v := yJ (z7)) rfl rfl ?_
      refine yG.invV (rest := [yI (z6), yI (z3), yR 2073]) A_hp.1 W.m.1 rfl rfl rfl rfl (a_inverse_ W (d + 1) A_hp.1 (z7) (by omega) (by omega) (by omega) (by omega)) (fun rv hp9 q9 => ?_)
      obtain ⟨⟨z11, rfl, l_z11, u_z11⟩, e9⟩ := q9
      rw [e9]
      show yG _ _ _ _ _ _ _ _ _ _ (yJ z11 :: [yI (z6), yI (z3), yR 2073]) _
      refine yG.invV (rest := []) A_hp.1 W.m.1 rfl rfl rfl rfl (a_join W (d + 1) A_hp.1 (z3) (z6) (z11) (by omega) (by omega) (by omega) (by omega) (by omega) (by omega) (by omega) (by omega)) (fun rv h13 q9 => ?_)
      obtain ⟨rfl, B_h13⟩ := q9
      have A_h13 := A_hp.tr (B_h13.sub (by decide) (by decide))
      have g11_h13 : ys h13 2073 11 = ys hp 2073 11 := B_h13.ys (by decide) (by decide)
      have g70_h13 : ys h13 2073 70 = ys hp 2073 70 := B_h13.ys (by decide) (by decide)
      show yG _ _ _ _ _ _ _ _ _ _ [] _
      refine yG.load xlk2 rfl (fun _ _ => rfl) (v := yJ (z7)) rfl rfl ?_
      refine yG.ret rfl (fun _ _ => rfl) ?_
      exact yP.long ⟨by omega, by omega⟩ ⟨⟨z7, rfl, by omega, by omega⟩, A_h13⟩
  · have c9 : (z8 : Int) ≠ 0 := c9
    refine yG.load xik rfl (fun _ _ => rfl) (v := yI (p1)) rfl rfl ?_
    refine yG.load xak rfl (fun _ _ => rfl) (v := yR 2073) rfl rfl ?_
    refine yG.getI A_hp.1 (w_shortPlace W) rfl rfl (fun z14 e_z14 i_z14 l_z14 u_z14 => ?_)
    refine yG.icmp rfl (t := 137) rfl ⟨by omega, by omega⟩ ⟨by omega, by omega⟩ (fun c15 => ?_) (fun c15 => ?_)
    · have c15 : (p1 : Int) ≠ z14 := c15
      refine yG.load xik rfl (fun _ _ => rfl) (v := yI (z3)) rfl rfl ?_
      refine yG.load xik rfl (fun _ _ => rfl) (v := yI (z6)) rfl rfl ?_
      refine yG.icmp rfl (t := 159) rfl ⟨by omega, by omega⟩ ⟨by omega, by omega⟩ (fun c16 => ?_) (fun c16 => ?_)
      · have c16 : (z3 : Int) = z6 := c16
        refine yG.numl (c := 1) rfl (fun _ _ => rfl) (by decide) ?_
        refine yG.ret rfl (fun _ _ => rfl) ?_
        exact yP.long ⟨by omega, by omega⟩ ⟨⟨1, rfl, by omega, by omega⟩, A_hp⟩
      · have c16 : (z3 : Int) ≠ z6 := c16
        refine yG.load xak rfl (fun _ _ => rfl) (v := yR 2073) rfl rfl ?_
        refine yG.load xik rfl (fun _ _ => rfl) (v := yI (z3)) rfl rfl ?_
        refine yG.load xik rfl (fun _ _ => rfl) (v := yI (z6)) rfl rfl ?_
        refine yG.load xak rfl (fun _ _ => rfl) (v := yR 2073) rfl rfl ?_
        refine yG.load xlk2 rfl (fun _ _ => rfl) (v := yJ (z7)) rfl rfl ?_
        refine yG.invV (rest := [yI (z6), yI (z3), yR 2073]) A_hp.1 W.m.1 rfl rfl rfl rfl (a_inverse_ W (d + 1) A_hp.1 (z7) (by omega) (by omega) (by omega) (by omega)) (fun rv hp9 q9 => ?_)
        obtain ⟨⟨z17, rfl, l_z17, u_z17⟩, e9⟩ := q9
        rw [e9]
        show yG _ _ _ _ _ _ _ _ _ _ (yJ z17 :: [yI (z6), yI (z3), yR 2073]) _
        refine yG.invV (rest := []) A_hp.1 W.m.1 rfl rfl rfl rfl (a_join W (d + 1) A_hp.1 (z3) (z6) (z17) (by omega) (by omega) (by omega) (by omega) (by omega) (by omega) (by omega) (by omega)) (fun rv h19 q9 => ?_)
        obtain ⟨rfl, B_h19⟩ := q9
        have A_h19 := A_hp.tr (B_h19.sub (by decide) (by decide))
        have g11_h19 : ys h19 2073 11 = ys hp 2073 11 := B_h19.ys (by decide) (by decide)
        have g70_h19 : ys h19 2073 70 = ys hp 2073 70 := B_h19.ys (by decide) (by decide)
        have g71_h19 : ys h19 2073 71 = ys hp 2073 71 := B_h19.ys (by decide) (by decide)
        show yG _ _ _ _ _ _ _ _ _ _ [] _
        refine yG.load xlk2 rfl (fun _ _ => rfl) (v := yJ (z7)) rfl rfl ?_
        refine yG.ret rfl (fun _ _ => rfl) ?_
        exact yP.long ⟨by omega, by omega⟩ ⟨⟨z7, rfl, by omega, by omega⟩, A_h19⟩
    · have c15 : (p1 : Int) = z14 := c15
      refine yG.load xlk2 rfl (fun _ _ => rfl) (v := yJ (z7)) rfl rfl ?_
      refine yG.load xak rfl (fun _ _ => rfl) (v := yR 2073) rfl rfl ?_
      refine yG.getI A_hp.1 (w_shortK W) rfl rfl (fun z20 e_z20 i_z20 l_z20 u_z20 => ?_)
      refine yG.i2l rfl ⟨by omega, by omega⟩ ?_
      refine yG.lmul rfl ?_
      obtain ⟨z21, e_z21⟩ : ∃ z : Int, z = z7 * z20 := ⟨_, rfl⟩
      rw [← e_z21]
      have b_z21 : 0 ≤ z21 ∧ z21 ≤ 14999985 := e_z21 ▸ ymulb (A := 999999) (B := 15) (by omega) (by omega) (by omega) (by omega) (by decide)
      refine yG.store2 xlk2 (L' := [(7, yJ (z21)), (5, yJ (z7)), (4, yI (z6)), (3, yI (z3)), (0, yR 2073), (1, yI (p1)), (2, yI (p2))]) rfl (fun _ _ => rfl) rfl rfl ?_
      refine yG.load xlk2 rfl (fun _ _ => rfl) (v := yJ (z7)) rfl rfl ?_
      refine yG.num (c := 16) rfl (fun _ _ => rfl) (by decide) ?_
      refine yG.load xak rfl (fun _ _ => rfl) (v := yR 2073) rfl rfl ?_
      refine yG.getI A_hp.1 (w_shortK W) rfl rfl (fun z22 e_z22 i_z22 l_z22 u_z22 => ?_)
      refine yG.isub rfl ?_
      refine yG.i2l rfl ⟨by omega, by omega⟩ ?_
      refine yG.lmul rfl ?_
      obtain ⟨z23, e_z23⟩ : ∃ z : Int, z = z7 * (16 - z22) := ⟨_, rfl⟩
      rw [← e_z23]
      have b_z23 : 0 ≤ z23 ∧ z23 ≤ 15999984 := e_z23 ▸ ymulb (A := 999999) (B := 16) (by omega) (by omega) (by omega) (by omega) (by decide)
      refine yG.store2 xlk2 (L' := [(9, yJ (z23)), (7, yJ (z21)), (5, yJ (z7)), (4, yI (z6)), (3, yI (z3)), (0, yR 2073), (1, yI (p1)), (2, yI (p2))]) rfl (fun _ _ => rfl) rfl rfl ?_
      refine yG.load xak rfl (fun _ _ => rfl) (v := yR 2073) rfl rfl ?_
      refine yG.load xik rfl (fun _ _ => rfl) (v := yI (z3)) rfl rfl ?_
      refine yG.load xak rfl (fun _ _ => rfl) (v := yR 2073) rfl rfl ?_
      refine yG.getI A_hp.1 (w_nodes W) rfl rfl (fun z24 e_z24 i_z24 l_z24 u_z24 => ?_)
      refine yG.numl (c := 16) rfl (fun _ _ => rfl) (by decide) ?_
      refine yG.load xak rfl (fun _ _ => rfl) (v := yR 2073) rfl rfl ?_
      refine yG.load xlk2 rfl (fun _ _ => rfl) (v := yJ (z21)) rfl rfl ?_
      refine yG.invV (rest := [yJ (16), yI (z24), yI (z3), yR 2073]) A_hp.1 W.m.1 rfl rfl rfl rfl (a_inverse_ W (d + 1) A_hp.1 (z21) (by omega) (by omega) (by omega) (by omega)) (fun rv hp9 q9 => ?_)
      obtain ⟨⟨z25, rfl, l_z25, u_z25⟩, e9⟩ := q9
      rw [e9]
      show yG _ _ _ _ _ _ _ _ _ _ (yJ z25 :: [yJ (16), yI (z24), yI (z3), yR 2073]) _
      refine yG.lmul rfl ?_
      refine yG.load xak rfl (fun _ _ => rfl) (v := yR 2073) rfl rfl ?_
      refine yG.getJ A_hp.1 (w_p W) rfl rfl (fun z26 e_z26 i_z26 l_z26 u_z26 => ?_)
      refine yG.lrem rfl ⟨by omega, by omega⟩ ⟨by omega, by omega⟩ (by omega) (by omega) ?_
      obtain ⟨z27, e_z27⟩ : ∃ z : Int, z = (16 * z25) % (z26) := ⟨_, rfl⟩
      rw [← e_z27]
      have b_z27 : 0 ≤ z27 ∧ z27 < z26 := e_z27 ▸ ⟨Int.emod_nonneg _ (by omega), Int.emod_lt_of_pos _ (by omega)⟩
      refine yG.invV (rest := []) A_hp.1 W.m.1 rfl rfl rfl rfl (a_join W (d + 1) A_hp.1 (z3) (z24) (z27) (by omega) (by omega) (by omega) (by omega) (by omega) (by omega) (by omega) (by omega)) (fun rv h29 q9 => ?_)
      obtain ⟨rfl, B_h29⟩ := q9
      have A_h29 := A_hp.tr (B_h29.sub (by decide) (by decide))
      have g11_h29 : ys h29 2073 11 = ys hp 2073 11 := B_h29.ys (by decide) (by decide)
      have g70_h29 : ys h29 2073 70 = ys hp 2073 70 := B_h29.ys (by decide) (by decide)
      have g71_h29 : ys h29 2073 71 = ys hp 2073 71 := B_h29.ys (by decide) (by decide)
      have g72_h29 : ys h29 2073 72 = ys hp 2073 72 := B_h29.ys (by decide) (by decide)
      have g38_h29 : ys h29 2073 38 = ys hp 2073 38 := B_h29.ys (by decide) (by decide)
      show yG _ _ _ _ _ _ _ _ _ _ [] _
      refine yG.load xak rfl (fun _ _ => rfl) (v := yR 2073) rfl rfl ?_
      refine yG.load xik rfl (fun _ _ => rfl) (v := yI (z6)) rfl rfl ?_
      refine yG.load xak rfl (fun _ _ => rfl) (v := yR 2073) rfl rfl ?_
      refine yG.getI A_h29.1 (w_nodes W) rfl rfl (fun z30 e_z30 i_z30 l_z30 u_z30 => ?_)
      refine yG.numl (c := 16) rfl (fun _ _ => rfl) (by decide) ?_
      refine yG.load xak rfl (fun _ _ => rfl) (v := yR 2073) rfl rfl ?_
      refine yG.load xlk2 rfl (fun _ _ => rfl) (v := yJ (z23)) rfl rfl ?_
      refine yG.invV (rest := [yJ (16), yI (z30), yI (z6), yR 2073]) A_h29.1 W.m.1 rfl rfl rfl rfl (a_inverse_ W (d + 1) A_h29.1 (z23) (by omega) (by omega) (by omega) (by omega)) (fun rv hp9 q9 => ?_)
      obtain ⟨⟨z31, rfl, l_z31, u_z31⟩, e9⟩ := q9
      rw [e9]
      show yG _ _ _ _ _ _ _ _ _ _ (yJ z31 :: [yJ (16), yI (z30), yI (z6), yR 2073]) _
      refine yG.lmul rfl ?_
      refine yG.load xak rfl (fun _ _ => rfl) (v := yR 2073) rfl rfl ?_
      refine yG.getJ A_h29.1 (w_p W) rfl rfl (fun z32 e_z32 i_z32 l_z32 u_z32 => ?_)
      refine yG.lrem rfl ⟨by omega, by omega⟩ ⟨by omega, by omega⟩ (by omega) (by omega) ?_
      obtain ⟨z33, e_z33⟩ : ∃ z : Int, z = (16 * z31) % (z32) := ⟨_, rfl⟩
      rw [← e_z33]
      have b_z33 : 0 ≤ z33 ∧ z33 < z32 := e_z33 ▸ ⟨Int.emod_nonneg _ (by omega), Int.emod_lt_of_pos _ (by omega)⟩
      refine yG.invV (rest := []) A_h29.1 W.m.1 rfl rfl rfl rfl (a_join W (d + 1) A_h29.1 (z6) (z30) (z33) (by omega) (by omega) (by omega) (by omega) (by omega) (by omega) (by omega) (by omega)) (fun rv h35 q9 => ?_)
      obtain ⟨rfl, B_h35⟩ := q9
      have A_h35 := A_h29.tr (B_h35.sub (by decide) (by decide))
      have g11_h35 : ys h35 2073 11 = ys h29 2073 11 := B_h35.ys (by decide) (by decide)
      have g70_h35 : ys h35 2073 70 = ys h29 2073 70 := B_h35.ys (by decide) (by decide)
      have g71_h35 : ys h35 2073 71 = ys h29 2073 71 := B_h35.ys (by decide) (by decide)
      have g72_h35 : ys h35 2073 72 = ys h29 2073 72 := B_h35.ys (by decide) (by decide)
      have g38_h35 : ys h35 2073 38 = ys h29 2073 38 := B_h35.ys (by decide) (by decide)
      show yG _ _ _ _ _ _ _ _ _ _ [] _
      refine yG.load xlk2 rfl (fun _ _ => rfl) (v := yJ (z21)) rfl rfl ?_
      refine yG.load xlk2 rfl (fun _ _ => rfl) (v := yJ (z23)) rfl rfl ?_
      refine yG.lmul rfl ?_
      obtain ⟨z36, e_z36⟩ : ∃ z : Int, z = z21 * z23 := ⟨_, rfl⟩
      rw [← e_z36]
      have b_z36 : 0 ≤ z36 ∧ z36 ≤ 239999520000240 := e_z36 ▸ ymulb (A := 14999985) (B := 15999984) (by omega) (by omega) (by omega) (by omega) (by decide)
      refine yG.load xak rfl (fun _ _ => rfl) (v := yR 2073) rfl rfl ?_
      refine yG.getJ A_h35.1 (w_p W) rfl rfl (fun z37 e_z37 i_z37 l_z37 u_z37 => ?_)
      refine yG.lrem rfl ⟨by omega, by omega⟩ ⟨by omega, by omega⟩ (by omega) (by omega) ?_
      obtain ⟨z38, e_z38⟩ : ∃ z : Int, z = (z36) % (z37) := ⟨_, rfl⟩
      rw [← e_z38]
      have b_z38 : 0 ≤ z38 ∧ z38 < z37 := e_z38 ▸ ⟨Int.emod_nonneg _ (by omega), Int.emod_lt_of_pos _ (by omega)⟩
      refine yG.ret rfl (fun _ _ => rfl) ?_
      exact yP.long ⟨by omega, by omega⟩ ⟨⟨z38, rfl, by omega, by omega⟩, A_h35⟩
end YThird
